/-! ===== the reference: pack ===== -/
def pkW (V : Wd) (s9 e9 c9 : Nat) (bel : Bool) (at9 : Nat → Int32) : Wd :=
  (V.1, V.2.1, fun b => if b = c9 + 1 then e9 else if b = c9 then s9 else wF V b, fun b => if b = c9 then bel else wB V b, fun j b => if b = c9 then at9 j else wA V j b)
theorem pkW_F {V : Wd} {s9 e9 c9 : Nat} {bel : Bool} {at9 : Nat → Int32} : upd (upd (fun b => nI (wF V b)) c9 (nI s9)) (c9 + 1) (nI e9) = fun b => nI (wF (pkW V s9 e9 c9 bel at9) b) := by
  funext b
  by_cases h : b = c9 + 1
  · simp [upd, wF, pkW, h]
  · by_cases h2 : b = c9 <;> simp [upd, wF, pkW, h, h2]
theorem pkW_B {V : Wd} {s9 e9 c9 : Nat} {bel : Bool} {at9 : Nat → Int32} : upd (fun b => b2i (wB V b)) c9 (b2i bel) = fun b => b2i (wB (pkW V s9 e9 c9 bel at9) b) := by
  funext b
  by_cases h : b = c9 <;> simp [upd, wB, pkW, h]

set_option maxHeartbeats 4000000 in
set_option maxRecDepth 100000 in
theorem c_Mo_pack (l : Launch) (hl0 : l.stackTraces = false) (b0 : Nat) (D : va_G) (cA : Nat → ClassId) (f : hv_M) (mo : Nat) (a : Nat → Nat) (th : Int32) (s9 e9 c9 : Nat) (gd : Bool) (ln bf ac un : Int64) (md : Int32) (V : Wd) (s1 s2 : Nat → Int64) (bel : Bool) (how size gr : Int32) (hmo : f mo = some (moE a th (nI s9) (nI e9) (nI c9) gd ln bf ac un md)) (hnj : moN mo a) (hA : moA cA f a V) (h14 : f (a 14) = some (.inl (cA 1, 4, .inr (.inl s1)))) (h15 : f (a 15) = some (.inl (cA 1, 4, .inr (.inl s2)))) (hse : s9 ≤ e9) (he9 : e9 < 10200) (hc9 : c9 ≤ 100) (hiN : ∀ i, i < e9 - s9 → itN V (s9 + i)) : hv_Met l y_Mo_pack [Cond.code y_Mo_pack b_Mo_pack 8 (some FieldType.int)] (RM 5 0 0) b0 (Fa D cA) D CL [.ref mo, .int (b2i bel), .int how, .int size, .int gr] f (fun v g => (okPack how size gr = false ∧ v = some (.int 0) ∧ moRef f g mo (moE a 1 (nI s9) (nI e9) (nI c9) gd ln bf ac un md)) ∨ (okPack how size gr = true ∧ (c9 = 100 ∨ (¬ c9 = 100 ∧ dL V s9 (e9 - s9) = 10)) ∧ v = some (.int 0) ∧ moRef f g mo (moE a 2 (nI s9) (nI e9) (nI c9) gd ln bf ac un md)) ∨ (okPack how size gr = true ∧ ¬ c9 = 100 ∧ ¬ dL V s9 (e9 - s9) = 10 ∧ (gL V bel s9 (e9 - s9) && gdM bel how size gr (fL V bel s9 (e9 - s9))) = false ∧ v = some (.int 0) ∧ (∃ (gd9 : Bool) (v9 : Vl), scr cA g mo a 3 (nI s9) (nI e9) (nI c9) md gd9 v9) ∧ ∀ z, z ≠ mo → z ≠ a 14 → z ≠ a 15 → g z = f z) ∨ (okPack how size gr = true ∧ ¬ c9 = 100 ∧ ¬ dL V s9 (e9 - s9) = 10 ∧ (gL V bel s9 (e9 - s9) && gdM bel how size gr (fL V bel s9 (e9 - s9))) = true ∧ v = some (.int (nI c9)) ∧ (∃ (gd9 : Bool) (v9 : Vl), scr cA g mo a 0 (nI e9) (nI e9) (nI (c9 + 1)) md gd9 v9) ∧ moA cA g a (pkW V s9 e9 c9 bel (atM V bel how size gr s9 (e9 - s9) (fL V bel s9 (e9 - s9)))) ∧ ∀ z, z ≠ mo → (∀ i, 2 ≤ i → i < 16 → z ≠ a i) → g z = f z)) (NX) := by
  refine hv_Met.of (own := "BoxPackerModel") (by decide) rfl (Nat.le_of_ble_eq_true rfl) ?_
  intro p e s m below meth c hE hml hout hr hlocks hname hK hI ls hl
  have hl : lv_has ls 8 [(0, .ref mo), (1, .int (b2i bel)), (2, .int how), (3, .int size), (4, .int gr)] := hl
  obtain ⟨hx, hb, hown, hts, hVK⟩ := id hE
  have hit : ∀ i, i < e9 - s9 → wK V (s9 + i) = 4 → wI V (s9 + i) < 100 ∧ wN V (s9 + i) 0 = nI (wI V (s9 + i)) := fun i hi => (hiN i hi).1
  refine lv_aload_n hx hb d_Mo_pack_0 rfl (lv_at hl 0 rfl) ?_
  refine lv_iload_n hx hb d_Mo_pack_1 rfl (lv_at hl 2 rfl) ?_
  refine lv_if_lt (tgt := 27) hx hb d_Mo_pack_2 (by decide) (fun c2 => ?_) (fun c2 => ?_)
  · skip
    have n2 := Int32.not_le.mpr c2
    refine lv_iconst (v := 1) hx hb d_Mo_pack_27 (by decide) ?_
    refine lv_goto (tgt := 54) hx hb d_Mo_pack_28 (by decide) ?_
    refine hv_put hE k_Mo hI 0 (by decide) w516 hmo rfl rfl rfl (Nat.le_of_ble_eq_true rfl) d_Mo_pack_54 (fun H locs hI => ?_)
    obtain ⟨g1, eg1⟩ : ∃ z : hv_M, z = hv_up f mo (moE a 1 (nI s9) (nI e9) (nI c9) gd ln bf ac un md) := ⟨_, rfl⟩
    have hI : hv_I D CL b0 g1 s.heap H locs := by rw [eg1]; exact hI
    have hq2 : g1 mo = some (moE a 1 (nI s9) (nI e9) (nI c9) gd ln bf ac un md) := by rw [eg1]; exact hv_up_self _ _ _
    refine lv_aload_n hx hb d_Mo_pack_57 rfl (lv_at hl 0 rfl) ?_
    refine hv_get hE k_Mo hI 0 (by decide) w516 hq2 rfl d_Mo_pack_58 ?_
    refine lv_if_le (tgt := 66) hx hb d_Mo_pack_61 (by decide) (fun c61 => ?_) (fun c61 => ?_)
    · skip
      exact absurd c61 (by decide)
    · skip
      have n61 := Int32.not_le.mp c61
      refine lv_iconst (v := 0) hx hb d_Mo_pack_64 (by decide) ?_
      exact hv_iret hE hr hlocks hI hK (v := 0) (Or.inl ⟨(by simp [okPack, c2, n2]), rfl, hq2, fun z z1 => by rw [eg1, hv_up_ne _ _ z1]⟩) (by decide) (by decide) d_Mo_pack_65
  · skip
    have n2 := Int32.not_lt.mp c2
    refine lv_iload_n hx hb d_Mo_pack_5 rfl (lv_at hl 2 rfl) ?_
    refine lv_iconst (v := 2) hx hb d_Mo_pack_6 (by decide) ?_
    refine lv_icmp_gt (tgt := 27) hx hb d_Mo_pack_7 (by decide) (fun c7 => ?_) (fun c7 => ?_)
    · skip
      have n7 := Int32.not_le.mpr c7
      refine lv_iconst (v := 1) hx hb d_Mo_pack_27 (by decide) ?_
      refine lv_goto (tgt := 54) hx hb d_Mo_pack_28 (by decide) ?_
      refine hv_put hE k_Mo hI 0 (by decide) w516 hmo rfl rfl rfl (Nat.le_of_ble_eq_true rfl) d_Mo_pack_54 (fun H locs hI => ?_)
      obtain ⟨g3, eg3⟩ : ∃ z : hv_M, z = hv_up f mo (moE a 1 (nI s9) (nI e9) (nI c9) gd ln bf ac un md) := ⟨_, rfl⟩
      have hI : hv_I D CL b0 g3 s.heap H locs := by rw [eg3]; exact hI
      have hq4 : g3 mo = some (moE a 1 (nI s9) (nI e9) (nI c9) gd ln bf ac un md) := by rw [eg3]; exact hv_up_self _ _ _
      refine lv_aload_n hx hb d_Mo_pack_57 rfl (lv_at hl 0 rfl) ?_
      refine hv_get hE k_Mo hI 0 (by decide) w516 hq4 rfl d_Mo_pack_58 ?_
      refine lv_if_le (tgt := 66) hx hb d_Mo_pack_61 (by decide) (fun c61 => ?_) (fun c61 => ?_)
      · skip
        exact absurd c61 (by decide)
      · skip
        have n61 := Int32.not_le.mp c61
        refine lv_iconst (v := 0) hx hb d_Mo_pack_64 (by decide) ?_
        exact hv_iret hE hr hlocks hI hK (v := 0) (Or.inl ⟨(by simp [okPack, c2, n2, c7, n7]), rfl, hq4, fun z z1 => by rw [eg3, hv_up_ne _ _ z1]⟩) (by decide) (by decide) d_Mo_pack_65
    · skip
      have n7 := Int32.not_lt.mp c7
      refine lv_iload_n hx hb d_Mo_pack_10 rfl (lv_at hl 3 rfl) ?_
      refine lv_i2l (v := size.toInt64) hx hb d_Mo_pack_11 rfl ?_
      refine hv_Sp (As := [.long size.toInt64]) (rest := [.ref mo]) hE hml hK hI (c_Mo_isSize l hl0 b0 D cA f size.toInt64) cd_Mo_isSize w608 w609 rfl rfl rfl hl.1 (Nat.le_of_ble_eq_true rfl) d_Mo_pack_12 ⟨by decide, by decide⟩ ⟨by decide, by decide⟩ (fun H locs hI => ?_)
      refine W.eq (g2 := F0 m 15 ls [.int (b2i (sz size.toInt64)), .ref mo]) rfl ?_
      refine lv_if_eq (tgt := 27) hx hb d_Mo_pack_15 (by decide) (fun c15 => ?_) (fun c15 => ?_)
      · skip
        have k15 := b2i_f c15
        refine lv_iconst (v := 1) hx hb d_Mo_pack_27 (by decide) ?_
        refine lv_goto (tgt := 54) hx hb d_Mo_pack_28 (by decide) ?_
        refine hv_put hE k_Mo hI 0 (by decide) w516 hmo rfl rfl rfl (Nat.le_of_ble_eq_true rfl) d_Mo_pack_54 (fun H locs hI => ?_)
        obtain ⟨g5, eg5⟩ : ∃ z : hv_M, z = hv_up f mo (moE a 1 (nI s9) (nI e9) (nI c9) gd ln bf ac un md) := ⟨_, rfl⟩
        have hI : hv_I D CL b0 g5 s.heap H locs := by rw [eg5]; exact hI
        have hq6 : g5 mo = some (moE a 1 (nI s9) (nI e9) (nI c9) gd ln bf ac un md) := by rw [eg5]; exact hv_up_self _ _ _
        refine lv_aload_n hx hb d_Mo_pack_57 rfl (lv_at hl 0 rfl) ?_
        refine hv_get hE k_Mo hI 0 (by decide) w516 hq6 rfl d_Mo_pack_58 ?_
        refine lv_if_le (tgt := 66) hx hb d_Mo_pack_61 (by decide) (fun c61 => ?_) (fun c61 => ?_)
        · skip
          exact absurd c61 (by decide)
        · skip
          have n61 := Int32.not_le.mp c61
          refine lv_iconst (v := 0) hx hb d_Mo_pack_64 (by decide) ?_
          exact hv_iret hE hr hlocks hI hK (v := 0) (Or.inl ⟨(by simp [okPack, c2, n2, c7, n7, k15]), rfl, hq6, fun z z1 => by rw [eg5, hv_up_ne _ _ z1]⟩) (by decide) (by decide) d_Mo_pack_65
      · skip
        have k15 := b2i_t c15
        refine lv_iload hx hb d_Mo_pack_18 (lv_at hl 4 rfl) ?_
        refine lv_i2l (v := gr.toInt64) hx hb d_Mo_pack_20 rfl ?_
        refine hv_Sp (As := [.long gr.toInt64]) (rest := [.ref mo]) hE hml hK hI (c_Mo_isSize l hl0 b0 D cA f gr.toInt64) cd_Mo_isSize w608 w609 rfl rfl rfl hl.1 (Nat.le_of_ble_eq_true rfl) d_Mo_pack_21 ⟨by decide, by decide⟩ ⟨by decide, by decide⟩ (fun H locs hI => ?_)
        refine W.eq (g2 := F0 m 24 ls [.int (b2i (sz gr.toInt64)), .ref mo]) rfl ?_
        refine lv_if_ne (tgt := 31) hx hb d_Mo_pack_24 (by decide) (fun c24 => ?_) (fun c24 => ?_)
        · skip
          have k24 := b2i_t c24
          refine lv_aload_n hx hb d_Mo_pack_31 rfl (lv_at hl 0 rfl) ?_
          refine hv_get hE k_Mo hI 5 (by decide) w521 hmo rfl d_Mo_pack_32 ?_
          refine lv_bipush (v := 100) hx hb d_Mo_pack_35 (by decide) ?_
          refine lv_icmp_eq (tgt := 49) hx hb d_Mo_pack_37 (by decide) (fun c37 => ?_) (fun c37 => ?_)
          · skip
            have hcc : c9 = 100 := (nI_eqI (b := 100) (by omega) (by decide)).mp c37
            refine lv_iconst (v := 2) hx hb d_Mo_pack_49 (by decide) ?_
            refine lv_goto (tgt := 54) hx hb d_Mo_pack_50 (by decide) ?_
            refine hv_put hE k_Mo hI 0 (by decide) w516 hmo rfl rfl rfl (Nat.le_of_ble_eq_true rfl) d_Mo_pack_54 (fun H locs hI => ?_)
            obtain ⟨g7, eg7⟩ : ∃ z : hv_M, z = hv_up f mo (moE a 2 (nI s9) (nI e9) (nI c9) gd ln bf ac un md) := ⟨_, rfl⟩
            have hI : hv_I D CL b0 g7 s.heap H locs := by rw [eg7]; exact hI
            have hq8 : g7 mo = some (moE a 2 (nI s9) (nI e9) (nI c9) gd ln bf ac un md) := by rw [eg7]; exact hv_up_self _ _ _
            refine lv_aload_n hx hb d_Mo_pack_57 rfl (lv_at hl 0 rfl) ?_
            refine hv_get hE k_Mo hI 0 (by decide) w516 hq8 rfl d_Mo_pack_58 ?_
            refine lv_if_le (tgt := 66) hx hb d_Mo_pack_61 (by decide) (fun c61 => ?_) (fun c61 => ?_)
            · skip
              exact absurd c61 (by decide)
            · skip
              have n61 := Int32.not_le.mp c61
              refine lv_iconst (v := 0) hx hb d_Mo_pack_64 (by decide) ?_
              exact hv_iret hE hr hlocks hI hK (v := 0) (Or.inr (Or.inl ⟨(by simp [okPack, c2, n2, c7, n7, k15, k24]), Or.inl hcc, rfl, hq8, fun z z1 => by rw [eg7, hv_up_ne _ _ z1]⟩)) (by decide) (by decide) d_Mo_pack_65
          · skip
            have hcc : ¬ c9 = 100 := fun q => c37 (by rw [q]; rfl)
            refine lv_aload_n hx hb d_Mo_pack_40 rfl (lv_at hl 0 rfl) ?_
            refine hv_Vp (As := []) (rest := [.ref mo]) hE hml hK hI (c_Mo_deepest l hl0 b0 D cA f mo a th s9 e9 (nI c9) gd ln bf ac un md V hmo hnj hA.1 hA.2.1 (hA.2.2.2.2 8 (by decide)) hse he9 hit) cd_Mo_deepest w660 w662 ws20 hmo rfl rfl rfl rfl hl.1 (Nat.le_of_ble_eq_true rfl) d_Mo_pack_41 ⟨by decide, by decide⟩ ⟨by decide, by decide⟩ (fun H locs hI => ?_)
            refine W.eq (g2 := F0 m 44 ls [.int (dL V s9 (e9 - s9)), .ref mo]) rfl ?_
            refine lv_bipush (v := 10) hx hb d_Mo_pack_44 (by decide) ?_
            refine lv_icmp_ne (tgt := 53) hx hb d_Mo_pack_46 (by decide) (fun c46 => ?_) (fun c46 => ?_)
            · skip
              refine lv_iconst (v := 0) hx hb d_Mo_pack_53 (by decide) ?_
              refine hv_put hE k_Mo hI 0 (by decide) w516 hmo rfl rfl rfl (Nat.le_of_ble_eq_true rfl) d_Mo_pack_54 (fun H locs hI => ?_)
              obtain ⟨g9, eg9⟩ : ∃ z : hv_M, z = hv_up f mo (moE a 0 (nI s9) (nI e9) (nI c9) gd ln bf ac un md) := ⟨_, rfl⟩
              have hI : hv_I D CL b0 g9 s.heap H locs := by rw [eg9]; exact hI
              have hq10 : g9 mo = some (moE a 0 (nI s9) (nI e9) (nI c9) gd ln bf ac un md) := by rw [eg9]; exact hv_up_self _ _ _
              refine lv_aload_n hx hb d_Mo_pack_57 rfl (lv_at hl 0 rfl) ?_
              refine hv_get hE k_Mo hI 0 (by decide) w516 hq10 rfl d_Mo_pack_58 ?_
              refine lv_if_le (tgt := 66) hx hb d_Mo_pack_61 (by decide) (fun c61 => ?_) (fun c61 => ?_)
              · skip
                have n61 := Int32.not_lt.mpr c61
                refine lv_aload_n hx hb d_Mo_pack_66 rfl (lv_at hl 0 rfl) ?_
                have hq11 : g9 (a 14) = some (.inl (cA 1, 4, .inr (.inl s1))) := by rw [eg9, hv_up_ne _ _ (hnj.2 14 (by decide))]; exact h14
                have hq12 : g9 (a 15) = some (.inl (cA 1, 4, .inr (.inl s2))) := by rw [eg9, hv_up_ne _ _ (hnj.2 15 (by decide))]; exact h15
                refine hv_V (As := []) (rest := []) hE hml hK hI (c_Mo_clear l hl0 b0 D cA g9 mo a 0 (nI s9) (nI e9) (nI c9) gd ln bf ac un md s1 s2 hq10 hnj hq11 hq12) cd_Mo_clear w668 w670 ws22 hq10 rfl rfl hl.1 (Nat.le_of_ble_eq_true rfl) d_Mo_pack_67 ⟨by decide, by decide⟩ ⟨by decide, by decide⟩ (fun v9 g14 H locs hp hI => ?_) (fun q9 E9 ce9 g9 H locs hp => hp.elim)
                obtain ⟨hv, hs13, ho913⟩ := hp
                rw [hv]
                refine W.eq (g2 := F0 m 70 ls []) rfl ?_
                refine lv_aload_n hx hb d_Mo_pack_70 rfl (lv_at hl 0 rfl) ?_
                refine hv_get hE k_Mo hI 3 (by decide) w519 hs13.1 rfl d_Mo_pack_71 ?_
                refine lv_istore (lv' := [(5, .int (nI s9)), (0, .ref mo), (1, .int (b2i bel)), (2, .int how), (3, .int size), (4, .int gr)]) hx hb d_Mo_pack_74 hl (by decide) rfl (fun ls hl => ?_)
                have loop : ∀ (k i : Nat)  (g : hv_M) (H : Heap) (locs : List Loc) (ls : Array Slot), i + k = e9 - s9 → scr cA g mo a 0 (nI s9) (nI e9) (nI c9) md (gL V bel s9 i) (fL V bel s9 i) → (∀ z, z ≠ mo → z ≠ a 14 → z ≠ a 15 → g z = f z) → hv_I D CL b0 g s.heap H locs → lv_has ls 8 [(0, .ref mo), (1, .int (b2i bel)), (2, .int how), (3, .int size), (4, .int gr), (5, .int (nI (s9 + i)))] → W p l e (RM 5 0 0) s m ([.ref mo, .int (b2i bel), .int how, .int size, .int gr] : List Value).toArray below meth c H locs (0) (0) (xh_MQ below (hv_Q b0 (Fa D cA) D CL (fun v g => (okPack how size gr = false ∧ v = some (.int 0) ∧ moRef f g mo (moE a 1 (nI s9) (nI e9) (nI c9) gd ln bf ac un md)) ∨ (okPack how size gr = true ∧ (c9 = 100 ∨ (¬ c9 = 100 ∧ dL V s9 (e9 - s9) = 10)) ∧ v = some (.int 0) ∧ moRef f g mo (moE a 2 (nI s9) (nI e9) (nI c9) gd ln bf ac un md)) ∨ (okPack how size gr = true ∧ ¬ c9 = 100 ∧ ¬ dL V s9 (e9 - s9) = 10 ∧ (gL V bel s9 (e9 - s9) && gdM bel how size gr (fL V bel s9 (e9 - s9))) = false ∧ v = some (.int 0) ∧ (∃ (gd9 : Bool) (v9 : Vl), scr cA g mo a 3 (nI s9) (nI e9) (nI c9) md gd9 v9) ∧ ∀ z, z ≠ mo → z ≠ a 14 → z ≠ a 15 → g z = f z) ∨ (okPack how size gr = true ∧ ¬ c9 = 100 ∧ ¬ dL V s9 (e9 - s9) = 10 ∧ (gL V bel s9 (e9 - s9) && gdM bel how size gr (fL V bel s9 (e9 - s9))) = true ∧ v = some (.int (nI c9)) ∧ (∃ (gd9 : Bool) (v9 : Vl), scr cA g mo a 0 (nI e9) (nI e9) (nI (c9 + 1)) md gd9 v9) ∧ moA cA g a (pkW V s9 e9 c9 bel (atM V bel how size gr s9 (e9 - s9) (fL V bel s9 (e9 - s9)))) ∧ ∀ z, z ≠ mo → (∀ i, 2 ≤ i → i < 16 → z ≠ a i) → g z = f z)) (NX)) s 0 0 (fun q => b0 ≤ q)) (F0 m 76 ls []) := by
                  intro k
                  induction k with
                  | zero =>
                    intro i  g H locs ls hik hs hfo hI hl
                    have hAg : moA cA g a V := ⟨by rw [hfo _ (hnj.2 0 (by decide)) (hnj.1 0 14 (by decide) (by decide) (by decide)) (hnj.1 0 15 (by decide) (by decide) (by decide))]; exact hA.1, by rw [hfo _ (hnj.2 1 (by decide)) (hnj.1 1 14 (by decide) (by decide) (by decide)) (hnj.1 1 15 (by decide) (by decide) (by decide))]; exact hA.2.1, by rw [hfo _ (hnj.2 2 (by decide)) (hnj.1 2 14 (by decide) (by decide) (by decide)) (hnj.1 2 15 (by decide) (by decide) (by decide))]; exact hA.2.2.1, by rw [hfo _ (hnj.2 3 (by decide)) (hnj.1 3 14 (by decide) (by decide) (by decide)) (hnj.1 3 15 (by decide) (by decide) (by decide))]; exact hA.2.2.2.1, fun j9 hj9 => by rw [hfo _ (hnj.2 (4 + j9) (by omega)) (hnj.1 (4 + j9) 14 (by omega) (by decide) (by omega)) (hnj.1 (4 + j9) 15 (by omega) (by decide) (by omega))]; exact hA.2.2.2.2 j9 hj9⟩
                    have ei : i = e9 - s9 := by omega
                    subst ei
                    obtain ⟨v, ev⟩ : ∃ z : Vl, z = fL V bel s9 (e9 - s9) := ⟨_, rfl⟩
                    obtain ⟨G, eG⟩ : ∃ z : Bool, z = gL V bel s9 (e9 - s9) := ⟨_, rfl⟩
                    rw [← ev, ← eG] at hs
                    refine lv_iload hx hb d_Mo_pack_76 (lv_at hl 5 rfl) ?_
                    refine lv_aload_n hx hb d_Mo_pack_78 rfl (lv_at hl 0 rfl) ?_
                    refine hv_get hE k_Mo hI 4 (by decide) w520 hs.1 rfl d_Mo_pack_79 ?_
                    refine lv_icmp_ge (tgt := 98) hx hb d_Mo_pack_82 (by decide) (fun c82 => ?_) (fun c82 => ?_)
                    · skip
                      have n82 := Int32.not_lt.mpr c82
                      refine lv_iload_n hx hb d_Mo_pack_98 rfl (lv_at hl 1 rfl) ?_
                      refine lv_if_eq (tgt := 140) hx hb d_Mo_pack_99 (by decide) (fun c99 => ?_) (fun c99 => ?_)
                      · skip
                        have k99 := b2i_f c99
                        refine lv_iload_n hx hb d_Mo_pack_140 rfl (lv_at hl 2 rfl) ?_
                        refine lv_if_ne (tgt := 148) hx hb d_Mo_pack_141 (by decide) (fun c141 => ?_) (fun c141 => ?_)
                        · skip
                          refine lv_iload_n hx hb d_Mo_pack_148 rfl (lv_at hl 2 rfl) ?_
                          refine lv_iconst (v := 1) hx hb d_Mo_pack_149 (by decide) ?_
                          refine lv_icmp_ne (tgt := 163) hx hb d_Mo_pack_150 (by decide) (fun c150 => ?_) (fun c150 => ?_)
                          · skip
                            refine lv_iload_n hx hb d_Mo_pack_163 rfl (lv_at hl 3 rfl) ?_
                            refine lv_i2l (v := size.toInt64) hx hb d_Mo_pack_164 rfl ?_
                            refine lv_lstore (lv' := [(5, .long size.toInt64), (0, .ref mo), (1, .int (b2i bel)), (2, .int how), (3, .int size), (4, .int gr)]) hx hb d_Mo_pack_165 hl (by decide) rfl (fun ls hl => ?_)
                            have hln : lnM bel gr v = (v).1 := by simp only [lnM, k99, and_true, true_and, and_false, false_and, if_true, if_false, Bool.false_eq_true]
                            have hun : unM bel gr v = (v).2.2.2.1 := by simp only [unM, k99, if_true, if_false, Bool.false_eq_true]
                            have hex : exM how size ((v).1) = size.toInt64 := by simp only [exM, c141, c150, if_true, if_false, show ¬ (1 : Int32) = 0 from by decide]
                            have hgd : (G && gdM bel how size gr v) = (G && sz (size.toInt64) && sz (((v).1) + size.toInt64)) := by simp only [gdM, hln, hex]; simp [k99, Bool.and_assoc]
                            refine lv_aload_n hx hb d_Mo_pack_167 rfl (lv_at hl 1 rfl) ?_
                            refine lv_aload_n hx hb d_Mo_pack_168 rfl (lv_at hl 1 rfl) ?_
                            refine hv_get hE k_Mo hI 18 (by decide) w534 hs.1 rfl d_Mo_pack_169 ?_
                            refine lv_if_eq (tgt := 187) hx hb d_Mo_pack_172 (by decide) (fun c172 => ?_) (fun c172 => ?_)
                            · skip
                              have k172 := b2i_f c172
                              refine lv_iconst (v := 0) hx hb d_Mo_pack_187 (by decide) ?_
                              refine hv_put hE k_Mo hI 18 (by decide) w534 hs.1 rfl rfl rfl (Nat.le_of_ble_eq_true rfl) d_Mo_pack_188 (fun H locs hI => ?_)
                              obtain ⟨g15, eg15⟩ : ∃ z : hv_M, z = hv_up g mo (moE a 0 (nI s9) (nI e9) (nI c9) false ((v).1) ((v).2.1) ((v).2.2.1) ((v).2.2.2.1) md) := ⟨_, rfl⟩
                              have hI : hv_I D CL b0 g15 s.heap H locs := by rw [eg15]; exact hI
                              have hq16 : g15 mo = some (moE a 0 (nI s9) (nI e9) (nI c9) false ((v).1) ((v).2.1) ((v).2.2.1) ((v).2.2.2.1) md) := by rw [eg15]; exact hv_up_self _ _ _
                              refine lv_aload_n hx hb d_Mo_pack_191 rfl (lv_at hl 1 rfl) ?_
                              refine lv_lload hx hb d_Mo_pack_192 (lv_at hl 0 rfl) ?_
                              refine hv_V (As := [.long size.toInt64]) (rest := []) hE hml hK hI (c_Mo_grow l hl0 b0 D cA g15 mo a 0 (nI s9) (nI e9) (nI c9) false ((v).1) ((v).2.1) ((v).2.2.1) ((v).2.2.2.1) md size.toInt64 hq16 hnj) cd_Mo_grow w684 w686 ws26 hq16 rfl rfl hl.1 (Nat.le_of_ble_eq_true rfl) d_Mo_pack_194 ⟨by decide, by decide⟩ ⟨by decide, by decide⟩ (fun v9 g18 H locs hp hI => ?_) (fun q9 E9 ce9 g9 H locs hp => hp.elim)
                              obtain ⟨hv, hg17, ho917⟩ := hp
                              rw [hv]
                              refine W.eq (g2 := F0 m 197 ls []) rfl ?_
                              refine lv_aload_n hx hb d_Mo_pack_197 rfl (lv_at hl 1 rfl) ?_
                              refine hv_get hE k_Mo hI 18 (by decide) w534 hg17 rfl d_Mo_pack_198 ?_
                              refine lv_if_ne (tgt := 211) hx hb d_Mo_pack_201 (by decide) (fun c201 => ?_) (fun c201 => ?_)
                              · skip
                                have k201 := b2i_t c201
                                exact absurd k201 (by simp)
                              · skip
                                have k201 := b2i_f c201
                                refine lv_aload_n hx hb d_Mo_pack_204 rfl (lv_at hl 1 rfl) ?_
                                refine lv_iconst (v := 3) hx hb d_Mo_pack_205 (by decide) ?_
                                refine hv_put hE k_Mo hI 0 (by decide) w516 hg17 rfl rfl rfl (Nat.le_of_ble_eq_true rfl) d_Mo_pack_206 (fun H locs hI => ?_)
                                obtain ⟨g19, eg19⟩ : ∃ z : hv_M, z = hv_up g18 mo (moE a 3 (nI s9) (nI e9) (nI c9) (false && sz (((v).1) + size.toInt64)) (((v).1) + size.toInt64) ((v).2.1) ((v).2.2.1) ((v).2.2.2.1) md) := ⟨_, rfl⟩
                                have hI : hv_I D CL b0 g19 s.heap H locs := by rw [eg19]; exact hI
                                have hq20 : g19 mo = some (moE a 3 (nI s9) (nI e9) (nI c9) (false && sz (((v).1) + size.toInt64)) (((v).1) + size.toInt64) ((v).2.1) ((v).2.2.1) ((v).2.2.2.1) md) := by rw [eg19]; exact hv_up_self _ _ _
                                refine lv_iconst (v := 0) hx hb d_Mo_pack_209 (by decide) ?_
                                have hq21 : g19 (a 14) = some (.inl (cA 1, 4, .inr (.inl (v).2.2.2.2.1))) := by rw [eg19, hv_up_ne _ _ (hnj.2 14 (by decide)), ho917 _ (hnj.2 14 (by decide)), eg15, hv_up_ne _ _ (hnj.2 14 (by decide))]; exact hs.2.1
                                have hq22 : g19 (a 15) = some (.inl (cA 1, 4, .inr (.inl (v).2.2.2.2.2))) := by rw [eg19, hv_up_ne _ _ (hnj.2 15 (by decide)), ho917 _ (hnj.2 15 (by decide)), eg15, hv_up_ne _ _ (hnj.2 15 (by decide))]; exact hs.2.2
                                exact hv_iret hE hr hlocks hI hK (v := 0) ((show _ ∨ _ by rw [← ev, ← eG]; exact Or.inr (Or.inr (Or.inl ⟨(by simp [okPack, c2, n2, c7, n7, k15, k24]), hcc, c46, by rw [hgd]; simp [k172], rfl, ⟨_, (((v).1) + size.toInt64, (v).2.1, (v).2.2.1, (v).2.2.2.1, (v).2.2.2.2.1, (v).2.2.2.2.2), hq20, hq21, hq22⟩, fun z z1 z2 z3 => by rw [eg19, hv_up_ne _ _ z1, ho917 _ z1, eg15, hv_up_ne _ _ z1]; exact hfo z z1 z2 z3⟩)))) (by decide) (by decide) d_Mo_pack_210
                            · skip
                              have k172 := b2i_t c172
                              refine lv_lload hx hb d_Mo_pack_175 (lv_at hl 0 rfl) ?_
                              refine hv_Sp (As := [.long size.toInt64]) (rest := [.ref mo]) hE hml hK hI (c_Mo_isSize l hl0 b0 D cA g size.toInt64) cd_Mo_isSize w608 w609 rfl rfl rfl hl.1 (Nat.le_of_ble_eq_true rfl) d_Mo_pack_177 ⟨by decide, by decide⟩ ⟨by decide, by decide⟩ (fun H locs hI => ?_)
                              refine W.eq (g2 := F0 m 180 ls [.int (b2i (sz size.toInt64)), .ref mo]) rfl ?_
                              refine lv_if_eq (tgt := 187) hx hb d_Mo_pack_180 (by decide) (fun c180 => ?_) (fun c180 => ?_)
                              · skip
                                have k180 := b2i_f c180
                                refine lv_iconst (v := 0) hx hb d_Mo_pack_187 (by decide) ?_
                                refine hv_put hE k_Mo hI 18 (by decide) w534 hs.1 rfl rfl rfl (Nat.le_of_ble_eq_true rfl) d_Mo_pack_188 (fun H locs hI => ?_)
                                obtain ⟨g23, eg23⟩ : ∃ z : hv_M, z = hv_up g mo (moE a 0 (nI s9) (nI e9) (nI c9) false ((v).1) ((v).2.1) ((v).2.2.1) ((v).2.2.2.1) md) := ⟨_, rfl⟩
                                have hI : hv_I D CL b0 g23 s.heap H locs := by rw [eg23]; exact hI
                                have hq24 : g23 mo = some (moE a 0 (nI s9) (nI e9) (nI c9) false ((v).1) ((v).2.1) ((v).2.2.1) ((v).2.2.2.1) md) := by rw [eg23]; exact hv_up_self _ _ _
                                refine lv_aload_n hx hb d_Mo_pack_191 rfl (lv_at hl 1 rfl) ?_
                                refine lv_lload hx hb d_Mo_pack_192 (lv_at hl 0 rfl) ?_
                                refine hv_V (As := [.long size.toInt64]) (rest := []) hE hml hK hI (c_Mo_grow l hl0 b0 D cA g23 mo a 0 (nI s9) (nI e9) (nI c9) false ((v).1) ((v).2.1) ((v).2.2.1) ((v).2.2.2.1) md size.toInt64 hq24 hnj) cd_Mo_grow w684 w686 ws26 hq24 rfl rfl hl.1 (Nat.le_of_ble_eq_true rfl) d_Mo_pack_194 ⟨by decide, by decide⟩ ⟨by decide, by decide⟩ (fun v9 g26 H locs hp hI => ?_) (fun q9 E9 ce9 g9 H locs hp => hp.elim)
                                obtain ⟨hv, hg25, ho925⟩ := hp
                                rw [hv]
                                refine W.eq (g2 := F0 m 197 ls []) rfl ?_
                                refine lv_aload_n hx hb d_Mo_pack_197 rfl (lv_at hl 1 rfl) ?_
                                refine hv_get hE k_Mo hI 18 (by decide) w534 hg25 rfl d_Mo_pack_198 ?_
                                refine lv_if_ne (tgt := 211) hx hb d_Mo_pack_201 (by decide) (fun c201 => ?_) (fun c201 => ?_)
                                · skip
                                  have k201 := b2i_t c201
                                  exact absurd k201 (by simp)
                                · skip
                                  have k201 := b2i_f c201
                                  refine lv_aload_n hx hb d_Mo_pack_204 rfl (lv_at hl 1 rfl) ?_
                                  refine lv_iconst (v := 3) hx hb d_Mo_pack_205 (by decide) ?_
                                  refine hv_put hE k_Mo hI 0 (by decide) w516 hg25 rfl rfl rfl (Nat.le_of_ble_eq_true rfl) d_Mo_pack_206 (fun H locs hI => ?_)
                                  obtain ⟨g27, eg27⟩ : ∃ z : hv_M, z = hv_up g26 mo (moE a 3 (nI s9) (nI e9) (nI c9) (false && sz (((v).1) + size.toInt64)) (((v).1) + size.toInt64) ((v).2.1) ((v).2.2.1) ((v).2.2.2.1) md) := ⟨_, rfl⟩
                                  have hI : hv_I D CL b0 g27 s.heap H locs := by rw [eg27]; exact hI
                                  have hq28 : g27 mo = some (moE a 3 (nI s9) (nI e9) (nI c9) (false && sz (((v).1) + size.toInt64)) (((v).1) + size.toInt64) ((v).2.1) ((v).2.2.1) ((v).2.2.2.1) md) := by rw [eg27]; exact hv_up_self _ _ _
                                  refine lv_iconst (v := 0) hx hb d_Mo_pack_209 (by decide) ?_
                                  have hq29 : g27 (a 14) = some (.inl (cA 1, 4, .inr (.inl (v).2.2.2.2.1))) := by rw [eg27, hv_up_ne _ _ (hnj.2 14 (by decide)), ho925 _ (hnj.2 14 (by decide)), eg23, hv_up_ne _ _ (hnj.2 14 (by decide))]; exact hs.2.1
                                  have hq30 : g27 (a 15) = some (.inl (cA 1, 4, .inr (.inl (v).2.2.2.2.2))) := by rw [eg27, hv_up_ne _ _ (hnj.2 15 (by decide)), ho925 _ (hnj.2 15 (by decide)), eg23, hv_up_ne _ _ (hnj.2 15 (by decide))]; exact hs.2.2
                                  exact hv_iret hE hr hlocks hI hK (v := 0) ((show _ ∨ _ by rw [← ev, ← eG]; exact Or.inr (Or.inr (Or.inl ⟨(by simp [okPack, c2, n2, c7, n7, k15, k24]), hcc, c46, by rw [hgd]; simp [k172, k180], rfl, ⟨_, (((v).1) + size.toInt64, (v).2.1, (v).2.2.1, (v).2.2.2.1, (v).2.2.2.2.1, (v).2.2.2.2.2), hq28, hq29, hq30⟩, fun z z1 z2 z3 => by rw [eg27, hv_up_ne _ _ z1, ho925 _ z1, eg23, hv_up_ne _ _ z1]; exact hfo z z1 z2 z3⟩)))) (by decide) (by decide) d_Mo_pack_210
                              · skip
                                have k180 := b2i_t c180
                                refine lv_iconst (v := 1) hx hb d_Mo_pack_183 (by decide) ?_
                                refine lv_goto (tgt := 188) hx hb d_Mo_pack_184 (by decide) ?_
                                refine hv_put hE k_Mo hI 18 (by decide) w534 hs.1 rfl rfl rfl (Nat.le_of_ble_eq_true rfl) d_Mo_pack_188 (fun H locs hI => ?_)
                                obtain ⟨g31, eg31⟩ : ∃ z : hv_M, z = hv_up g mo (moE a 0 (nI s9) (nI e9) (nI c9) true ((v).1) ((v).2.1) ((v).2.2.1) ((v).2.2.2.1) md) := ⟨_, rfl⟩
                                have hI : hv_I D CL b0 g31 s.heap H locs := by rw [eg31]; exact hI
                                have hq32 : g31 mo = some (moE a 0 (nI s9) (nI e9) (nI c9) true ((v).1) ((v).2.1) ((v).2.2.1) ((v).2.2.2.1) md) := by rw [eg31]; exact hv_up_self _ _ _
                                refine lv_aload_n hx hb d_Mo_pack_191 rfl (lv_at hl 1 rfl) ?_
                                refine lv_lload hx hb d_Mo_pack_192 (lv_at hl 0 rfl) ?_
                                refine hv_V (As := [.long size.toInt64]) (rest := []) hE hml hK hI (c_Mo_grow l hl0 b0 D cA g31 mo a 0 (nI s9) (nI e9) (nI c9) true ((v).1) ((v).2.1) ((v).2.2.1) ((v).2.2.2.1) md size.toInt64 hq32 hnj) cd_Mo_grow w684 w686 ws26 hq32 rfl rfl hl.1 (Nat.le_of_ble_eq_true rfl) d_Mo_pack_194 ⟨by decide, by decide⟩ ⟨by decide, by decide⟩ (fun v9 g34 H locs hp hI => ?_) (fun q9 E9 ce9 g9 H locs hp => hp.elim)
                                obtain ⟨hv, hg33, ho933⟩ := hp
                                rw [hv]
                                refine W.eq (g2 := F0 m 197 ls []) rfl ?_
                                refine lv_aload_n hx hb d_Mo_pack_197 rfl (lv_at hl 1 rfl) ?_
                                refine hv_get hE k_Mo hI 18 (by decide) w534 hg33 rfl d_Mo_pack_198 ?_
                                refine lv_if_ne (tgt := 211) hx hb d_Mo_pack_201 (by decide) (fun c201 => ?_) (fun c201 => ?_)
                                · skip
                                  have k201 := b2i_t c201
                                  refine lv_aload_n hx hb d_Mo_pack_211 rfl (lv_at hl 1 rfl) ?_
                                  refine hv_get hE k_Mo hI 5 (by decide) w521 hg33 rfl d_Mo_pack_212 ?_
                                  refine lv_istore (lv' := [(7, .int (nI c9)), (5, .long size.toInt64), (0, .ref mo), (1, .int (b2i bel)), (2, .int how), (3, .int size), (4, .int gr)]) hx hb d_Mo_pack_215 hl (by decide) rfl (fun ls hl => ?_)
                                  refine lv_aload_n hx hb d_Mo_pack_217 rfl (lv_at hl 2 rfl) ?_
                                  refine lv_iload hx hb d_Mo_pack_218 (lv_at hl 0 rfl) ?_
                                  refine lv_lload hx hb d_Mo_pack_220 (lv_at hl 1 rfl) ?_
                                  have hq35 : g34 (a 14) = some (.inl (cA 1, 4, .inr (.inl (v).2.2.2.2.1))) := by rw [ho933 _ (hnj.2 14 (by decide)), eg31, hv_up_ne _ _ (hnj.2 14 (by decide))]; exact hs.2.1
                                  have hq36 : g34 (a 15) = some (.inl (cA 1, 4, .inr (.inl (v).2.2.2.2.2))) := by rw [ho933 _ (hnj.2 15 (by decide)), eg31, hv_up_ne _ _ (hnj.2 15 (by decide))]; exact hs.2.2
                                  have hA37 : moA cA g34 a V := ⟨by rw [ho933 _ (hnj.2 0 (by decide)), eg31, hv_up_ne _ _ (hnj.2 0 (by decide))]; exact hAg.1, by rw [ho933 _ (hnj.2 1 (by decide)), eg31, hv_up_ne _ _ (hnj.2 1 (by decide))]; exact hAg.2.1, by rw [ho933 _ (hnj.2 2 (by decide)), eg31, hv_up_ne _ _ (hnj.2 2 (by decide))]; exact hAg.2.2.1, by rw [ho933 _ (hnj.2 3 (by decide)), eg31, hv_up_ne _ _ (hnj.2 3 (by decide))]; exact hAg.2.2.2.1, fun j9 hj9 => by rw [ho933 _ (hnj.2 (4 + j9) (by omega)), eg31, hv_up_ne _ _ (hnj.2 (4 + j9) (by omega))]; exact hAg.2.2.2.2 j9 hj9⟩
                                  refine hv_V (As := [.int (nI c9), .long size.toInt64]) (rest := []) hE hml hK hI (c_Mo_setGlue l hl0 b0 D cA g34 mo a 0 (nI s9) (nI e9) (nI c9) (true && sz (((v).1) + size.toInt64)) (((v).1) + size.toInt64) ((v).2.1) ((v).2.2.1) ((v).2.2.2.1) md V ((v).2.2.2.2.1) ((v).2.2.2.2.2) size.toInt64 c9 hg33 hnj hA37 hq35 hq36 (by omega)) cd_Mo_setGlue w700 w702 ws30 hg33 rfl rfl hl.1 (Nat.le_of_ble_eq_true rfl) d_Mo_pack_222 ⟨by decide, by decide⟩ ⟨by decide, by decide⟩ (fun v9 g39 H locs hp hI => ?_) (fun q9 E9 ce9 g9 H locs hp => hp.elim)
                                  obtain ⟨hv, ha38, hb38, hc38, hd38, he38, ho938⟩ := hp
                                  rw [hv]
                                  refine W.eq (g2 := F0 m 225 ls []) rfl ?_
                                  refine lv_aload_n hx hb d_Mo_pack_225 rfl (lv_at hl 2 rfl) ?_
                                  have hq40 : g39 mo = some (moE a 0 (nI s9) (nI e9) (nI c9) (true && sz (((v).1) + size.toInt64)) (((v).1) + size.toInt64) ((v).2.1) ((v).2.2.1) ((v).2.2.2.1) md) := by rw [ho938 _ (Ne.symm (hnj.2 7 (by decide))) (Ne.symm (hnj.2 8 (by decide))) (Ne.symm (hnj.2 9 (by decide))) (Ne.symm (hnj.2 10 (by decide))) (Ne.symm (hnj.2 11 (by decide)))]; exact hg33
                                  refine hv_get hE k_Mo hI 6 (by decide) w522 hq40 rfl d_Mo_pack_226 ?_
                                  refine lv_iload hx hb d_Mo_pack_229 (lv_at hl 0 rfl) ?_
                                  refine lv_aload_n hx hb d_Mo_pack_231 rfl (lv_at hl 2 rfl) ?_
                                  refine hv_get hE k_Mo hI 3 (by decide) w519 hq40 rfl d_Mo_pack_232 ?_
                                  have hq41 : g39 (a 2) = some (.inl (cA 0, 101, .inl (fun b => nI (wF V b)))) := by rw [ho938 _ (hnj.1 2 7 (by decide) (by decide) (by decide)) (hnj.1 2 8 (by decide) (by decide) (by decide)) (hnj.1 2 9 (by decide) (by decide) (by decide)) (hnj.1 2 10 (by decide) (by decide) (by decide)) (hnj.1 2 11 (by decide) (by decide) (by decide)), ho933 _ (hnj.2 2 (by decide)), eg31, hv_up_ne _ _ (hnj.2 2 (by decide))]; exact hAg.2.2.1
                                  refine hv_iast hE hI 0 hq41 rfl (pk_in c9 101 (by omega) rfl (by omega)) d_Mo_pack_235 (fun H locs hI => ?_)
                                  rw [nI_cl (by omega)] at hI
                                  obtain ⟨g42, eg42⟩ : ∃ z : hv_M, z = hv_up g39 (a 2) (.inl (cA 0, 101, .inl (upd (fun b => nI (wF V b)) c9 (nI s9)))) := ⟨_, rfl⟩
                                  have hI : hv_I D CL b0 g42 s.heap H locs := by rw [eg42]; exact hI
                                  have hq43 : g42 (a 2) = some (.inl (cA 0, 101, .inl (upd (fun b => nI (wF V b)) c9 (nI s9)))) := by rw [eg42]; exact hv_up_self _ _ _
                                  refine lv_aload_n hx hb d_Mo_pack_236 rfl (lv_at hl 2 rfl) ?_
                                  have hq44 : g42 mo = some (moE a 0 (nI s9) (nI e9) (nI c9) (true && sz (((v).1) + size.toInt64)) (((v).1) + size.toInt64) ((v).2.1) ((v).2.2.1) ((v).2.2.2.1) md) := by rw [eg42, hv_up_ne _ _ (Ne.symm (hnj.2 2 (by decide)))]; exact hq40
                                  refine hv_get hE k_Mo hI 7 (by decide) w523 hq44 rfl d_Mo_pack_237 ?_
                                  refine lv_iload hx hb d_Mo_pack_240 (lv_at hl 0 rfl) ?_
                                  refine lv_iload_n hx hb d_Mo_pack_242 rfl (lv_at hl 3 rfl) ?_
                                  have hq45 : g42 (a 3) = some (.inl (cA 2, 100, .inl (fun b => b2i (wB V b)))) := by rw [eg42, hv_up_ne _ _ (hnj.1 3 2 (by decide) (by decide) (by decide)), ho938 _ (hnj.1 3 7 (by decide) (by decide) (by decide)) (hnj.1 3 8 (by decide) (by decide) (by decide)) (hnj.1 3 9 (by decide) (by decide) (by decide)) (hnj.1 3 10 (by decide) (by decide) (by decide)) (hnj.1 3 11 (by decide) (by decide) (by decide)), ho933 _ (hnj.2 3 (by decide)), eg31, hv_up_ne _ _ (hnj.2 3 (by decide))]; exact hAg.2.2.2.1
                                  refine hv_zast hE hI 2 hq45 rfl (pk_in c9 100 (by omega) rfl (by omega)) d_Mo_pack_243 (fun H locs hI => ?_)
                                  rw [nI_cl (by omega)] at hI
                                  obtain ⟨g46, eg46⟩ : ∃ z : hv_M, z = hv_up g42 (a 3) (.inl (cA 2, 100, .inl (upd (fun b => b2i (wB V b)) c9 (b2i bel)))) := ⟨_, rfl⟩
                                  have hI : hv_I D CL b0 g46 s.heap H locs := by rw [eg46]; exact hI
                                  have hq47 : g46 (a 3) = some (.inl (cA 2, 100, .inl (upd (fun b => b2i (wB V b)) c9 (b2i bel)))) := by rw [eg46]; exact hv_up_self _ _ _
                                  refine lv_aload_n hx hb d_Mo_pack_244 rfl (lv_at hl 2 rfl) ?_
                                  have hq48 : g46 mo = some (moE a 0 (nI s9) (nI e9) (nI c9) (true && sz (((v).1) + size.toInt64)) (((v).1) + size.toInt64) ((v).2.1) ((v).2.2.1) ((v).2.2.2.1) md) := by rw [eg46, hv_up_ne _ _ (Ne.symm (hnj.2 3 (by decide)))]; exact hq44
                                  refine hv_get hE k_Mo hI 8 (by decide) w524 hq48 rfl d_Mo_pack_245 ?_
                                  refine lv_iload hx hb d_Mo_pack_248 (lv_at hl 0 rfl) ?_
                                  refine lv_iload_n hx hb d_Mo_pack_250 rfl (lv_at hl 3 rfl) ?_
                                  refine lv_if_eq (tgt := 261) hx hb d_Mo_pack_251 (by decide) (fun c251 => ?_) (fun c251 => ?_)
                                  · skip
                                    have k251 := b2i_f c251
                                    refine lv_aload_n hx hb d_Mo_pack_261 rfl (lv_at hl 2 rfl) ?_
                                    refine hv_get hE k_Mo hI 19 (by decide) w535 hq48 rfl d_Mo_pack_262 ?_
                                    refine lv_l2i (v := (((v).1) + size.toInt64).toInt32) hx hb d_Mo_pack_265 rfl ?_
                                    have hq49 : g46 (a 4) = some (.inl (cA 0, 100, .inl (wA V 0))) := by rw [eg46, hv_up_ne _ _ (hnj.1 4 3 (by decide) (by decide) (by decide)), eg42, hv_up_ne _ _ (hnj.1 4 2 (by decide) (by decide) (by decide)), ho938 _ (hnj.1 4 7 (by decide) (by decide) (by decide)) (hnj.1 4 8 (by decide) (by decide) (by decide)) (hnj.1 4 9 (by decide) (by decide) (by decide)) (hnj.1 4 10 (by decide) (by decide) (by decide)) (hnj.1 4 11 (by decide) (by decide) (by decide)), ho933 _ (hnj.2 4 (by decide)), eg31, hv_up_ne _ _ (hnj.2 4 (by decide))]; exact (hAg.2.2.2.2 0 (by decide))
                                    refine hv_iast hE hI 0 hq49 rfl (pk_in c9 100 (by omega) rfl (by omega)) d_Mo_pack_266 (fun H locs hI => ?_)
                                    rw [nI_cl (by omega)] at hI
                                    obtain ⟨g50, eg50⟩ : ∃ z : hv_M, z = hv_up g46 (a 4) (.inl (cA 0, 100, .inl (upd (wA V 0) c9 ((((v).1) + size.toInt64).toInt32)))) := ⟨_, rfl⟩
                                    have hI : hv_I D CL b0 g50 s.heap H locs := by rw [eg50]; exact hI
                                    have hq51 : g50 (a 4) = some (.inl (cA 0, 100, .inl (upd (wA V 0) c9 ((((v).1) + size.toInt64).toInt32)))) := by rw [eg50]; exact hv_up_self _ _ _
                                    refine lv_aload_n hx hb d_Mo_pack_267 rfl (lv_at hl 2 rfl) ?_
                                    have hq52 : g50 mo = some (moE a 0 (nI s9) (nI e9) (nI c9) (true && sz (((v).1) + size.toInt64)) (((v).1) + size.toInt64) ((v).2.1) ((v).2.2.1) ((v).2.2.2.1) md) := by rw [eg50, hv_up_ne _ _ (Ne.symm (hnj.2 4 (by decide)))]; exact hq48
                                    refine hv_get hE k_Mo hI 9 (by decide) w525 hq52 rfl d_Mo_pack_268 ?_
                                    refine lv_iload hx hb d_Mo_pack_271 (lv_at hl 0 rfl) ?_
                                    refine lv_iload_n hx hb d_Mo_pack_273 rfl (lv_at hl 3 rfl) ?_
                                    refine lv_if_eq (tgt := 284) hx hb d_Mo_pack_274 (by decide) (fun c274 => ?_) (fun c274 => ?_)
                                    · skip
                                      have k274 := b2i_f c274
                                      refine lv_aload_n hx hb d_Mo_pack_284 rfl (lv_at hl 2 rfl) ?_
                                      refine hv_get hE k_Mo hI 21 (by decide) w537 hq52 rfl d_Mo_pack_285 ?_
                                      refine lv_l2i (v := ((v).2.2.1).toInt32) hx hb d_Mo_pack_288 rfl ?_
                                      have hq53 : g50 (a 5) = some (.inl (cA 0, 100, .inl (wA V 1))) := by rw [eg50, hv_up_ne _ _ (hnj.1 5 4 (by decide) (by decide) (by decide)), eg46, hv_up_ne _ _ (hnj.1 5 3 (by decide) (by decide) (by decide)), eg42, hv_up_ne _ _ (hnj.1 5 2 (by decide) (by decide) (by decide)), ho938 _ (hnj.1 5 7 (by decide) (by decide) (by decide)) (hnj.1 5 8 (by decide) (by decide) (by decide)) (hnj.1 5 9 (by decide) (by decide) (by decide)) (hnj.1 5 10 (by decide) (by decide) (by decide)) (hnj.1 5 11 (by decide) (by decide) (by decide)), ho933 _ (hnj.2 5 (by decide)), eg31, hv_up_ne _ _ (hnj.2 5 (by decide))]; exact (hAg.2.2.2.2 1 (by decide))
                                      refine hv_iast hE hI 0 hq53 rfl (pk_in c9 100 (by omega) rfl (by omega)) d_Mo_pack_289 (fun H locs hI => ?_)
                                      rw [nI_cl (by omega)] at hI
                                      obtain ⟨g54, eg54⟩ : ∃ z : hv_M, z = hv_up g50 (a 5) (.inl (cA 0, 100, .inl (upd (wA V 1) c9 (((v).2.2.1).toInt32)))) := ⟨_, rfl⟩
                                      have hI : hv_I D CL b0 g54 s.heap H locs := by rw [eg54]; exact hI
                                      have hq55 : g54 (a 5) = some (.inl (cA 0, 100, .inl (upd (wA V 1) c9 (((v).2.2.1).toInt32)))) := by rw [eg54]; exact hv_up_self _ _ _
                                      refine lv_aload_n hx hb d_Mo_pack_290 rfl (lv_at hl 2 rfl) ?_
                                      have hq56 : g54 mo = some (moE a 0 (nI s9) (nI e9) (nI c9) (true && sz (((v).1) + size.toInt64)) (((v).1) + size.toInt64) ((v).2.1) ((v).2.2.1) ((v).2.2.2.1) md) := by rw [eg54, hv_up_ne _ _ (Ne.symm (hnj.2 5 (by decide)))]; exact hq52
                                      refine hv_get hE k_Mo hI 10 (by decide) w526 hq56 rfl d_Mo_pack_291 ?_
                                      refine lv_iload hx hb d_Mo_pack_294 (lv_at hl 0 rfl) ?_
                                      refine lv_aload_n hx hb d_Mo_pack_296 rfl (lv_at hl 2 rfl) ?_
                                      refine hv_get hE k_Mo hI 22 (by decide) w538 hq56 rfl d_Mo_pack_297 ?_
                                      refine lv_l2i (v := ((v).2.2.2.1).toInt32) hx hb d_Mo_pack_300 rfl ?_
                                      have hq57 : g54 (a 6) = some (.inl (cA 0, 100, .inl (wA V 2))) := by rw [eg54, hv_up_ne _ _ (hnj.1 6 5 (by decide) (by decide) (by decide)), eg50, hv_up_ne _ _ (hnj.1 6 4 (by decide) (by decide) (by decide)), eg46, hv_up_ne _ _ (hnj.1 6 3 (by decide) (by decide) (by decide)), eg42, hv_up_ne _ _ (hnj.1 6 2 (by decide) (by decide) (by decide)), ho938 _ (hnj.1 6 7 (by decide) (by decide) (by decide)) (hnj.1 6 8 (by decide) (by decide) (by decide)) (hnj.1 6 9 (by decide) (by decide) (by decide)) (hnj.1 6 10 (by decide) (by decide) (by decide)) (hnj.1 6 11 (by decide) (by decide) (by decide)), ho933 _ (hnj.2 6 (by decide)), eg31, hv_up_ne _ _ (hnj.2 6 (by decide))]; exact (hAg.2.2.2.2 2 (by decide))
                                      refine hv_iast hE hI 0 hq57 rfl (pk_in c9 100 (by omega) rfl (by omega)) d_Mo_pack_301 (fun H locs hI => ?_)
                                      rw [nI_cl (by omega)] at hI
                                      obtain ⟨g58, eg58⟩ : ∃ z : hv_M, z = hv_up g54 (a 6) (.inl (cA 0, 100, .inl (upd (wA V 2) c9 (((v).2.2.2.1).toInt32)))) := ⟨_, rfl⟩
                                      have hI : hv_I D CL b0 g58 s.heap H locs := by rw [eg58]; exact hI
                                      have hq59 : g58 (a 6) = some (.inl (cA 0, 100, .inl (upd (wA V 2) c9 (((v).2.2.2.1).toInt32)))) := by rw [eg58]; exact hv_up_self _ _ _
                                      refine lv_aload_n hx hb d_Mo_pack_302 rfl (lv_at hl 2 rfl) ?_
                                      have hq60 : g58 mo = some (moE a 0 (nI s9) (nI e9) (nI c9) (true && sz (((v).1) + size.toInt64)) (((v).1) + size.toInt64) ((v).2.1) ((v).2.2.1) ((v).2.2.2.1) md) := by rw [eg58, hv_up_ne _ _ (Ne.symm (hnj.2 6 (by decide)))]; exact hq56
                                      refine hv_get hE k_Mo hI 16 (by decide) w532 hq60 rfl d_Mo_pack_303 ?_
                                      refine lv_iload hx hb d_Mo_pack_306 (lv_at hl 0 rfl) ?_
                                      refine lv_aload_n hx hb d_Mo_pack_308 rfl (lv_at hl 2 rfl) ?_
                                      have hq61 : g58 (a 0) = some (.inl (cA 0, 10200, .inl (wK V))) := by rw [eg58, hv_up_ne _ _ (hnj.1 0 6 (by decide) (by decide) (by decide)), eg54, hv_up_ne _ _ (hnj.1 0 5 (by decide) (by decide) (by decide)), eg50, hv_up_ne _ _ (hnj.1 0 4 (by decide) (by decide) (by decide)), eg46, hv_up_ne _ _ (hnj.1 0 3 (by decide) (by decide) (by decide)), eg42, hv_up_ne _ _ (hnj.1 0 2 (by decide) (by decide) (by decide)), ho938 _ (hnj.1 0 7 (by decide) (by decide) (by decide)) (hnj.1 0 8 (by decide) (by decide) (by decide)) (hnj.1 0 9 (by decide) (by decide) (by decide)) (hnj.1 0 10 (by decide) (by decide) (by decide)) (hnj.1 0 11 (by decide) (by decide) (by decide)), ho933 _ (hnj.2 0 (by decide)), eg31, hv_up_ne _ _ (hnj.2 0 (by decide))]; exact hAg.1
                                      have hq62 : g58 (a 1) = some (.inl (cA 0, 51000, .inl V.2.1)) := by rw [eg58, hv_up_ne _ _ (hnj.1 1 6 (by decide) (by decide) (by decide)), eg54, hv_up_ne _ _ (hnj.1 1 5 (by decide) (by decide) (by decide)), eg50, hv_up_ne _ _ (hnj.1 1 4 (by decide) (by decide) (by decide)), eg46, hv_up_ne _ _ (hnj.1 1 3 (by decide) (by decide) (by decide)), eg42, hv_up_ne _ _ (hnj.1 1 2 (by decide) (by decide) (by decide)), ho938 _ (hnj.1 1 7 (by decide) (by decide) (by decide)) (hnj.1 1 8 (by decide) (by decide) (by decide)) (hnj.1 1 9 (by decide) (by decide) (by decide)) (hnj.1 1 10 (by decide) (by decide) (by decide)) (hnj.1 1 11 (by decide) (by decide) (by decide)), ho933 _ (hnj.2 1 (by decide)), eg31, hv_up_ne _ _ (hnj.2 1 (by decide))]; exact hAg.2.1
                                      have hq63 : g58 (a 12) = some (.inl (cA 0, 100, .inl (wA V 8))) := by rw [eg58, hv_up_ne _ _ (hnj.1 12 6 (by decide) (by decide) (by decide)), eg54, hv_up_ne _ _ (hnj.1 12 5 (by decide) (by decide) (by decide)), eg50, hv_up_ne _ _ (hnj.1 12 4 (by decide) (by decide) (by decide)), eg46, hv_up_ne _ _ (hnj.1 12 3 (by decide) (by decide) (by decide)), eg42, hv_up_ne _ _ (hnj.1 12 2 (by decide) (by decide) (by decide)), ho938 _ (hnj.1 12 7 (by decide) (by decide) (by decide)) (hnj.1 12 8 (by decide) (by decide) (by decide)) (hnj.1 12 9 (by decide) (by decide) (by decide)) (hnj.1 12 10 (by decide) (by decide) (by decide)) (hnj.1 12 11 (by decide) (by decide) (by decide)), ho933 _ (hnj.2 12 (by decide)), eg31, hv_up_ne _ _ (hnj.2 12 (by decide))]; exact (hAg.2.2.2.2 8 (by decide))
                                      refine hv_Vp (As := []) (rest := [.int (nI c9), .ref (a 12)]) hE hml hK hI (c_Mo_deepest l hl0 b0 D cA g58 mo a 0 s9 e9 (nI c9) (true && sz (((v).1) + size.toInt64)) (((v).1) + size.toInt64) ((v).2.1) ((v).2.2.1) ((v).2.2.2.1) md V hq60 hnj hq61 hq62 hq63 hse he9 hit) cd_Mo_deepest w660 w662 ws20 hq60 rfl rfl rfl rfl hl.1 (Nat.le_of_ble_eq_true rfl) d_Mo_pack_309 ⟨by decide, by decide⟩ ⟨by decide, by decide⟩ (fun H locs hI => ?_)
                                      refine W.eq (g2 := F0 m 312 ls [.int (dL V s9 (e9 - s9)), .int (nI c9), .ref (a 12)]) rfl ?_
                                      refine lv_iconst (v := 1) hx hb d_Mo_pack_312 (by decide) ?_
                                      refine lv_iadd hx hb d_Mo_pack_313 ?_
                                      refine hv_iast hE hI 0 hq63 rfl (pk_in c9 100 (by omega) rfl (by omega)) d_Mo_pack_314 (fun H locs hI => ?_)
                                      rw [nI_cl (by omega)] at hI
                                      obtain ⟨g64, eg64⟩ : ∃ z : hv_M, z = hv_up g58 (a 12) (.inl (cA 0, 100, .inl (upd (wA V 8) c9 ((dL V s9 (e9 - s9)) + 1)))) := ⟨_, rfl⟩
                                      have hI : hv_I D CL b0 g64 s.heap H locs := by rw [eg64]; exact hI
                                      have hq65 : g64 (a 12) = some (.inl (cA 0, 100, .inl (upd (wA V 8) c9 ((dL V s9 (e9 - s9)) + 1)))) := by rw [eg64]; exact hv_up_self _ _ _
                                      refine lv_aload_n hx hb d_Mo_pack_315 rfl (lv_at hl 2 rfl) ?_
                                      have hq66 : g64 mo = some (moE a 0 (nI s9) (nI e9) (nI c9) (true && sz (((v).1) + size.toInt64)) (((v).1) + size.toInt64) ((v).2.1) ((v).2.2.1) ((v).2.2.2.1) md) := by rw [eg64, hv_up_ne _ _ (Ne.symm (hnj.2 12 (by decide)))]; exact hq60
                                      refine hv_get hE k_Mo hI 17 (by decide) w533 hq66 rfl d_Mo_pack_316 ?_
                                      refine lv_iload hx hb d_Mo_pack_319 (lv_at hl 0 rfl) ?_
                                      refine lv_aload_n hx hb d_Mo_pack_321 rfl (lv_at hl 2 rfl) ?_
                                      have hq67 : g64 (a 0) = some (.inl (cA 0, 10200, .inl (wK V))) := by rw [eg64, hv_up_ne _ _ (hnj.1 0 12 (by decide) (by decide) (by decide))]; exact hq61
                                      have hq68 : g64 (a 1) = some (.inl (cA 0, 51000, .inl V.2.1)) := by rw [eg64, hv_up_ne _ _ (hnj.1 1 12 (by decide) (by decide) (by decide))]; exact hq62
                                      have hq69 : g64 (a 13) = some (.inl (cA 0, 100, .inl (wA V 9))) := by rw [eg64, hv_up_ne _ _ (hnj.1 13 12 (by decide) (by decide) (by decide)), eg58, hv_up_ne _ _ (hnj.1 13 6 (by decide) (by decide) (by decide)), eg54, hv_up_ne _ _ (hnj.1 13 5 (by decide) (by decide) (by decide)), eg50, hv_up_ne _ _ (hnj.1 13 4 (by decide) (by decide) (by decide)), eg46, hv_up_ne _ _ (hnj.1 13 3 (by decide) (by decide) (by decide)), eg42, hv_up_ne _ _ (hnj.1 13 2 (by decide) (by decide) (by decide)), ho938 _ (hnj.1 13 7 (by decide) (by decide) (by decide)) (hnj.1 13 8 (by decide) (by decide) (by decide)) (hnj.1 13 9 (by decide) (by decide) (by decide)) (hnj.1 13 10 (by decide) (by decide) (by decide)) (hnj.1 13 11 (by decide) (by decide) (by decide)), ho933 _ (hnj.2 13 (by decide)), eg31, hv_up_ne _ _ (hnj.2 13 (by decide))]; exact (hAg.2.2.2.2 9 (by decide))
                                      refine hv_Vp (As := []) (rest := [.int (nI c9), .ref (a 13)]) hE hml hK hI (c_Mo_countAll l hl0 b0 D cA g64 mo a 0 s9 e9 (nI c9) (true && sz (((v).1) + size.toInt64)) (((v).1) + size.toInt64) ((v).2.1) ((v).2.2.1) ((v).2.2.2.1) md V hq66 hnj hq67 hq68 hq69 hse he9 hit) cd_Mo_countAll w714 w716 ws31 hq66 rfl rfl rfl rfl hl.1 (Nat.le_of_ble_eq_true rfl) d_Mo_pack_322 ⟨by decide, by decide⟩ ⟨by decide, by decide⟩ (fun H locs hI => ?_)
                                      refine W.eq (g2 := F0 m 325 ls [.int (cA9 V s9 (e9 - s9)), .int (nI c9), .ref (a 13)]) rfl ?_
                                      refine hv_iast hE hI 0 hq69 rfl (pk_in c9 100 (by omega) rfl (by omega)) d_Mo_pack_325 (fun H locs hI => ?_)
                                      rw [nI_cl (by omega)] at hI
                                      obtain ⟨g70, eg70⟩ : ∃ z : hv_M, z = hv_up g64 (a 13) (.inl (cA 0, 100, .inl (upd (wA V 9) c9 (cA9 V s9 (e9 - s9))))) := ⟨_, rfl⟩
                                      have hI : hv_I D CL b0 g70 s.heap H locs := by rw [eg70]; exact hI
                                      have hq71 : g70 (a 13) = some (.inl (cA 0, 100, .inl (upd (wA V 9) c9 (cA9 V s9 (e9 - s9))))) := by rw [eg70]; exact hv_up_self _ _ _
                                      refine lv_aload_n hx hb d_Mo_pack_326 rfl (lv_at hl 2 rfl) ?_
                                      refine lv_dup hx hb d_Mo_pack_327 rfl ?_
                                      have hq72 : g70 mo = some (moE a 0 (nI s9) (nI e9) (nI c9) (true && sz (((v).1) + size.toInt64)) (((v).1) + size.toInt64) ((v).2.1) ((v).2.2.1) ((v).2.2.2.1) md) := by rw [eg70, hv_up_ne _ _ (Ne.symm (hnj.2 13 (by decide)))]; exact hq66
                                      refine hv_get hE k_Mo hI 5 (by decide) w521 hq72 rfl d_Mo_pack_328 ?_
                                      refine lv_iconst (v := 1) hx hb d_Mo_pack_331 (by decide) ?_
                                      refine lv_iadd hx hb d_Mo_pack_332 ?_
                                      refine hv_put hE k_Mo hI 5 (by decide) w521 hq72 rfl rfl rfl (Nat.le_of_ble_eq_true rfl) d_Mo_pack_333 (fun H locs hI => ?_)
                                      obtain ⟨g73, eg73⟩ : ∃ z : hv_M, z = hv_up g70 mo (moE a 0 (nI s9) (nI e9) ((nI c9) + 1) (true && sz (((v).1) + size.toInt64)) (((v).1) + size.toInt64) ((v).2.1) ((v).2.2.1) ((v).2.2.2.1) md) := ⟨_, rfl⟩
                                      have hI : hv_I D CL b0 g73 s.heap H locs := by rw [eg73]; exact hI
                                      have hq74 : g73 mo = some (moE a 0 (nI s9) (nI e9) ((nI c9) + 1) (true && sz (((v).1) + size.toInt64)) (((v).1) + size.toInt64) ((v).2.1) ((v).2.2.1) ((v).2.2.2.1) md) := by rw [eg73]; exact hv_up_self _ _ _
                                      refine lv_aload_n hx hb d_Mo_pack_336 rfl (lv_at hl 2 rfl) ?_
                                      refine lv_aload_n hx hb d_Mo_pack_337 rfl (lv_at hl 2 rfl) ?_
                                      refine hv_get hE k_Mo hI 4 (by decide) w520 hq74 rfl d_Mo_pack_338 ?_
                                      refine hv_put hE k_Mo hI 3 (by decide) w519 hq74 rfl rfl rfl (Nat.le_of_ble_eq_true rfl) d_Mo_pack_341 (fun H locs hI => ?_)
                                      obtain ⟨g75, eg75⟩ : ∃ z : hv_M, z = hv_up g73 mo (moE a 0 (nI e9) (nI e9) ((nI c9) + 1) (true && sz (((v).1) + size.toInt64)) (((v).1) + size.toInt64) ((v).2.1) ((v).2.2.1) ((v).2.2.2.1) md) := ⟨_, rfl⟩
                                      have hI : hv_I D CL b0 g75 s.heap H locs := by rw [eg75]; exact hI
                                      have hq76 : g75 mo = some (moE a 0 (nI e9) (nI e9) ((nI c9) + 1) (true && sz (((v).1) + size.toInt64)) (((v).1) + size.toInt64) ((v).2.1) ((v).2.2.1) ((v).2.2.2.1) md) := by rw [eg75]; exact hv_up_self _ _ _
                                      refine lv_aload_n hx hb d_Mo_pack_344 rfl (lv_at hl 2 rfl) ?_
                                      refine hv_get hE k_Mo hI 6 (by decide) w522 hq76 rfl d_Mo_pack_345 ?_
                                      refine lv_aload_n hx hb d_Mo_pack_348 rfl (lv_at hl 2 rfl) ?_
                                      refine hv_get hE k_Mo hI 5 (by decide) w521 hq76 rfl d_Mo_pack_349 ?_
                                      refine lv_aload_n hx hb d_Mo_pack_352 rfl (lv_at hl 2 rfl) ?_
                                      refine hv_get hE k_Mo hI 4 (by decide) w520 hq76 rfl d_Mo_pack_353 ?_
                                      have hq77 : g75 (a 2) = some (.inl (cA 0, 101, .inl (upd (fun b => nI (wF V b)) c9 (nI s9)))) := by rw [eg75, hv_up_ne _ _ (hnj.2 2 (by decide)), eg73, hv_up_ne _ _ (hnj.2 2 (by decide)), eg70, hv_up_ne _ _ (hnj.1 2 13 (by decide) (by decide) (by decide)), eg64, hv_up_ne _ _ (hnj.1 2 12 (by decide) (by decide) (by decide)), eg58, hv_up_ne _ _ (hnj.1 2 6 (by decide) (by decide) (by decide)), eg54, hv_up_ne _ _ (hnj.1 2 5 (by decide) (by decide) (by decide)), eg50, hv_up_ne _ _ (hnj.1 2 4 (by decide) (by decide) (by decide)), eg46, hv_up_ne _ _ (hnj.1 2 3 (by decide) (by decide) (by decide))]; exact hq43
                                      refine hv_iast hE hI 0 hq77 rfl (pk_in (c9 + 1) 101 (by omega) (nI_1 c9) (by omega)) d_Mo_pack_356 (fun H locs hI => ?_)
                                      rw [nI_1, nI_cl (by omega)] at hI
                                      obtain ⟨g78, eg78⟩ : ∃ z : hv_M, z = hv_up g75 (a 2) (.inl (cA 0, 101, .inl (upd (upd (fun b => nI (wF V b)) c9 (nI s9)) (c9 + 1) (nI e9)))) := ⟨_, rfl⟩
                                      have hI : hv_I D CL b0 g78 s.heap H locs := by rw [eg78]; exact hI
                                      have hq79 : g78 (a 2) = some (.inl (cA 0, 101, .inl (upd (upd (fun b => nI (wF V b)) c9 (nI s9)) (c9 + 1) (nI e9)))) := by rw [eg78]; exact hv_up_self _ _ _
                                      refine lv_iload hx hb d_Mo_pack_357 (lv_at hl 0 rfl) ?_
                                      have hq80 : g78 mo = some (moE a 0 (nI e9) (nI e9) ((nI c9) + 1) (true && sz (((v).1) + size.toInt64)) (((v).1) + size.toInt64) ((v).2.1) ((v).2.2.1) ((v).2.2.2.1) md) := by rw [eg78, hv_up_ne _ _ (Ne.symm (hnj.2 2 (by decide)))]; exact hq76
                                      have hq81 : g78 (a 0) = some (.inl (cA 0, 10200, .inl (wK V))) := by rw [eg78, hv_up_ne _ _ (hnj.1 0 2 (by decide) (by decide) (by decide)), eg75, hv_up_ne _ _ (hnj.2 0 (by decide)), eg73, hv_up_ne _ _ (hnj.2 0 (by decide)), eg70, hv_up_ne _ _ (hnj.1 0 13 (by decide) (by decide) (by decide))]; exact hq67
                                      have hq82 : g78 (a 1) = some (.inl (cA 0, 51000, .inl V.2.1)) := by rw [eg78, hv_up_ne _ _ (hnj.1 1 2 (by decide) (by decide) (by decide)), eg75, hv_up_ne _ _ (hnj.2 1 (by decide)), eg73, hv_up_ne _ _ (hnj.2 1 (by decide)), eg70, hv_up_ne _ _ (hnj.1 1 13 (by decide) (by decide) (by decide))]; exact hq68
                                      have hq83 : g78 (a 3) = some (.inl (cA 2, 100, .inl (upd (fun b => b2i (wB V b)) c9 (b2i bel)))) := by rw [eg78, hv_up_ne _ _ (hnj.1 3 2 (by decide) (by decide) (by decide)), eg75, hv_up_ne _ _ (hnj.2 3 (by decide)), eg73, hv_up_ne _ _ (hnj.2 3 (by decide)), eg70, hv_up_ne _ _ (hnj.1 3 13 (by decide) (by decide) (by decide)), eg64, hv_up_ne _ _ (hnj.1 3 12 (by decide) (by decide) (by decide)), eg58, hv_up_ne _ _ (hnj.1 3 6 (by decide) (by decide) (by decide)), eg54, hv_up_ne _ _ (hnj.1 3 5 (by decide) (by decide) (by decide)), eg50, hv_up_ne _ _ (hnj.1 3 4 (by decide) (by decide) (by decide))]; exact hq47
                                      have hq84 : g78 (a 4) = some (.inl (cA 0, 100, .inl (upd (wA V 0) c9 ((((v).1) + size.toInt64).toInt32)))) := by rw [eg78, hv_up_ne _ _ (hnj.1 4 2 (by decide) (by decide) (by decide)), eg75, hv_up_ne _ _ (hnj.2 4 (by decide)), eg73, hv_up_ne _ _ (hnj.2 4 (by decide)), eg70, hv_up_ne _ _ (hnj.1 4 13 (by decide) (by decide) (by decide)), eg64, hv_up_ne _ _ (hnj.1 4 12 (by decide) (by decide) (by decide)), eg58, hv_up_ne _ _ (hnj.1 4 6 (by decide) (by decide) (by decide)), eg54, hv_up_ne _ _ (hnj.1 4 5 (by decide) (by decide) (by decide))]; exact hq51
                                      have hq85 : g78 (a 5) = some (.inl (cA 0, 100, .inl (upd (wA V 1) c9 (((v).2.2.1).toInt32)))) := by rw [eg78, hv_up_ne _ _ (hnj.1 5 2 (by decide) (by decide) (by decide)), eg75, hv_up_ne _ _ (hnj.2 5 (by decide)), eg73, hv_up_ne _ _ (hnj.2 5 (by decide)), eg70, hv_up_ne _ _ (hnj.1 5 13 (by decide) (by decide) (by decide)), eg64, hv_up_ne _ _ (hnj.1 5 12 (by decide) (by decide) (by decide)), eg58, hv_up_ne _ _ (hnj.1 5 6 (by decide) (by decide) (by decide))]; exact hq55
                                      have hq86 : g78 (a 6) = some (.inl (cA 0, 100, .inl (upd (wA V 2) c9 (((v).2.2.2.1).toInt32)))) := by rw [eg78, hv_up_ne _ _ (hnj.1 6 2 (by decide) (by decide) (by decide)), eg75, hv_up_ne _ _ (hnj.2 6 (by decide)), eg73, hv_up_ne _ _ (hnj.2 6 (by decide)), eg70, hv_up_ne _ _ (hnj.1 6 13 (by decide) (by decide) (by decide)), eg64, hv_up_ne _ _ (hnj.1 6 12 (by decide) (by decide) (by decide))]; exact hq59
                                      have hq87 : g78 (a 7) = some (.inl (cA 0, 100, .inl (upd (wA V 3) c9 size.toInt64.toInt32))) := by rw [eg78, hv_up_ne _ _ (hnj.1 7 2 (by decide) (by decide) (by decide)), eg75, hv_up_ne _ _ (hnj.2 7 (by decide)), eg73, hv_up_ne _ _ (hnj.2 7 (by decide)), eg70, hv_up_ne _ _ (hnj.1 7 13 (by decide) (by decide) (by decide)), eg64, hv_up_ne _ _ (hnj.1 7 12 (by decide) (by decide) (by decide)), eg58, hv_up_ne _ _ (hnj.1 7 6 (by decide) (by decide) (by decide)), eg54, hv_up_ne _ _ (hnj.1 7 5 (by decide) (by decide) (by decide)), eg50, hv_up_ne _ _ (hnj.1 7 4 (by decide) (by decide) (by decide)), eg46, hv_up_ne _ _ (hnj.1 7 3 (by decide) (by decide) (by decide)), eg42, hv_up_ne _ _ (hnj.1 7 2 (by decide) (by decide) (by decide))]; exact ha38
                                      have hq88 : g78 (a 8) = some (.inl (cA 0, 100, .inl (upd (wA V 4) c9 ((otF size.toInt64 ((v).2.2.2.2.1, (v).2.2.2.2.2)).1)))) := by rw [eg78, hv_up_ne _ _ (hnj.1 8 2 (by decide) (by decide) (by decide)), eg75, hv_up_ne _ _ (hnj.2 8 (by decide)), eg73, hv_up_ne _ _ (hnj.2 8 (by decide)), eg70, hv_up_ne _ _ (hnj.1 8 13 (by decide) (by decide) (by decide)), eg64, hv_up_ne _ _ (hnj.1 8 12 (by decide) (by decide) (by decide)), eg58, hv_up_ne _ _ (hnj.1 8 6 (by decide) (by decide) (by decide)), eg54, hv_up_ne _ _ (hnj.1 8 5 (by decide) (by decide) (by decide)), eg50, hv_up_ne _ _ (hnj.1 8 4 (by decide) (by decide) (by decide)), eg46, hv_up_ne _ _ (hnj.1 8 3 (by decide) (by decide) (by decide)), eg42, hv_up_ne _ _ (hnj.1 8 2 (by decide) (by decide) (by decide))]; exact hb38
                                      have hq89 : g78 (a 9) = some (.inl (cA 0, 100, .inl (upd (wA V 5) c9 ((otF size.toInt64 ((v).2.2.2.2.1, (v).2.2.2.2.2)).2)))) := by rw [eg78, hv_up_ne _ _ (hnj.1 9 2 (by decide) (by decide) (by decide)), eg75, hv_up_ne _ _ (hnj.2 9 (by decide)), eg73, hv_up_ne _ _ (hnj.2 9 (by decide)), eg70, hv_up_ne _ _ (hnj.1 9 13 (by decide) (by decide) (by decide)), eg64, hv_up_ne _ _ (hnj.1 9 12 (by decide) (by decide) (by decide)), eg58, hv_up_ne _ _ (hnj.1 9 6 (by decide) (by decide) (by decide)), eg54, hv_up_ne _ _ (hnj.1 9 5 (by decide) (by decide) (by decide)), eg50, hv_up_ne _ _ (hnj.1 9 4 (by decide) (by decide) (by decide)), eg46, hv_up_ne _ _ (hnj.1 9 3 (by decide) (by decide) (by decide)), eg42, hv_up_ne _ _ (hnj.1 9 2 (by decide) (by decide) (by decide))]; exact hc38
                                      have hq90 : g78 (a 10) = some (.inl (cA 0, 100, .inl (upd (wA V 6) c9 (baM size.toInt64 (otF size.toInt64 ((v).2.2.2.2.1, (v).2.2.2.2.2)))))) := by rw [eg78, hv_up_ne _ _ (hnj.1 10 2 (by decide) (by decide) (by decide)), eg75, hv_up_ne _ _ (hnj.2 10 (by decide)), eg73, hv_up_ne _ _ (hnj.2 10 (by decide)), eg70, hv_up_ne _ _ (hnj.1 10 13 (by decide) (by decide) (by decide)), eg64, hv_up_ne _ _ (hnj.1 10 12 (by decide) (by decide) (by decide)), eg58, hv_up_ne _ _ (hnj.1 10 6 (by decide) (by decide) (by decide)), eg54, hv_up_ne _ _ (hnj.1 10 5 (by decide) (by decide) (by decide)), eg50, hv_up_ne _ _ (hnj.1 10 4 (by decide) (by decide) (by decide)), eg46, hv_up_ne _ _ (hnj.1 10 3 (by decide) (by decide) (by decide)), eg42, hv_up_ne _ _ (hnj.1 10 2 (by decide) (by decide) (by decide))]; exact hd38
                                      have hq91 : g78 (a 11) = some (.inl (cA 0, 100, .inl (upd (wA V 7) c9 (ovM size.toInt64 (otF size.toInt64 ((v).2.2.2.2.1, (v).2.2.2.2.2)))))) := by rw [eg78, hv_up_ne _ _ (hnj.1 11 2 (by decide) (by decide) (by decide)), eg75, hv_up_ne _ _ (hnj.2 11 (by decide)), eg73, hv_up_ne _ _ (hnj.2 11 (by decide)), eg70, hv_up_ne _ _ (hnj.1 11 13 (by decide) (by decide) (by decide)), eg64, hv_up_ne _ _ (hnj.1 11 12 (by decide) (by decide) (by decide)), eg58, hv_up_ne _ _ (hnj.1 11 6 (by decide) (by decide) (by decide)), eg54, hv_up_ne _ _ (hnj.1 11 5 (by decide) (by decide) (by decide)), eg50, hv_up_ne _ _ (hnj.1 11 4 (by decide) (by decide) (by decide)), eg46, hv_up_ne _ _ (hnj.1 11 3 (by decide) (by decide) (by decide)), eg42, hv_up_ne _ _ (hnj.1 11 2 (by decide) (by decide) (by decide))]; exact he38
                                      have hq92 : g78 (a 12) = some (.inl (cA 0, 100, .inl (upd (wA V 8) c9 ((dL V s9 (e9 - s9)) + 1)))) := by rw [eg78, hv_up_ne _ _ (hnj.1 12 2 (by decide) (by decide) (by decide)), eg75, hv_up_ne _ _ (hnj.2 12 (by decide)), eg73, hv_up_ne _ _ (hnj.2 12 (by decide)), eg70, hv_up_ne _ _ (hnj.1 12 13 (by decide) (by decide) (by decide))]; exact hq65
                                      have hq93 : g78 (a 13) = some (.inl (cA 0, 100, .inl (upd (wA V 9) c9 (cA9 V s9 (e9 - s9))))) := by rw [eg78, hv_up_ne _ _ (hnj.1 13 2 (by decide) (by decide) (by decide)), eg75, hv_up_ne _ _ (hnj.2 13 (by decide)), eg73, hv_up_ne _ _ (hnj.2 13 (by decide))]; exact hq71
                                      have hq94 : g78 (a 14) = some (.inl (cA 1, 4, .inr (.inl (v).2.2.2.2.1))) := by rw [eg78, hv_up_ne _ _ (hnj.1 14 2 (by decide) (by decide) (by decide)), eg75, hv_up_ne _ _ (hnj.2 14 (by decide)), eg73, hv_up_ne _ _ (hnj.2 14 (by decide)), eg70, hv_up_ne _ _ (hnj.1 14 13 (by decide) (by decide) (by decide)), eg64, hv_up_ne _ _ (hnj.1 14 12 (by decide) (by decide) (by decide)), eg58, hv_up_ne _ _ (hnj.1 14 6 (by decide) (by decide) (by decide)), eg54, hv_up_ne _ _ (hnj.1 14 5 (by decide) (by decide) (by decide)), eg50, hv_up_ne _ _ (hnj.1 14 4 (by decide) (by decide) (by decide)), eg46, hv_up_ne _ _ (hnj.1 14 3 (by decide) (by decide) (by decide)), eg42, hv_up_ne _ _ (hnj.1 14 2 (by decide) (by decide) (by decide)), ho938 _ (hnj.1 14 7 (by decide) (by decide) (by decide)) (hnj.1 14 8 (by decide) (by decide) (by decide)) (hnj.1 14 9 (by decide) (by decide) (by decide)) (hnj.1 14 10 (by decide) (by decide) (by decide)) (hnj.1 14 11 (by decide) (by decide) (by decide))]; exact hq35
                                      have hq95 : g78 (a 15) = some (.inl (cA 1, 4, .inr (.inl (v).2.2.2.2.2))) := by rw [eg78, hv_up_ne _ _ (hnj.1 15 2 (by decide) (by decide) (by decide)), eg75, hv_up_ne _ _ (hnj.2 15 (by decide)), eg73, hv_up_ne _ _ (hnj.2 15 (by decide)), eg70, hv_up_ne _ _ (hnj.1 15 13 (by decide) (by decide) (by decide)), eg64, hv_up_ne _ _ (hnj.1 15 12 (by decide) (by decide) (by decide)), eg58, hv_up_ne _ _ (hnj.1 15 6 (by decide) (by decide) (by decide)), eg54, hv_up_ne _ _ (hnj.1 15 5 (by decide) (by decide) (by decide)), eg50, hv_up_ne _ _ (hnj.1 15 4 (by decide) (by decide) (by decide)), eg46, hv_up_ne _ _ (hnj.1 15 3 (by decide) (by decide) (by decide)), eg42, hv_up_ne _ _ (hnj.1 15 2 (by decide) (by decide) (by decide)), ho938 _ (hnj.1 15 7 (by decide) (by decide) (by decide)) (hnj.1 15 8 (by decide) (by decide) (by decide)) (hnj.1 15 9 (by decide) (by decide) (by decide)) (hnj.1 15 10 (by decide) (by decide) (by decide)) (hnj.1 15 11 (by decide) (by decide) (by decide))]; exact hq36
                                      have hat : atM V bel how size gr s9 (e9 - s9) v = fun j => [((((v).1) + size.toInt64).toInt32), (((v).2.2.1).toInt32), (((v).2.2.2.1).toInt32), size.toInt64.toInt32, (otF size.toInt64 ((v).2.2.2.2.1, (v).2.2.2.2.2)).1, (otF size.toInt64 ((v).2.2.2.2.1, (v).2.2.2.2.2)).2, baM size.toInt64 (otF size.toInt64 ((v).2.2.2.2.1, (v).2.2.2.2.2)), ovM size.toInt64 (otF size.toInt64 ((v).2.2.2.2.1, (v).2.2.2.2.2)), ((dL V s9 (e9 - s9)) + 1), (cA9 V s9 (e9 - s9))].getD j 0 := by funext j9; simp only [atM, hln, hex, hun]; simp only [k99, if_true, if_false, Bool.false_eq_true]
                                      exact hv_iret hE hr hlocks hI hK (v := nI c9) ((show _ ∨ _ by rw [← ev, ← eG]; exact Or.inr (Or.inr (Or.inr ⟨(by simp [okPack, c2, n2, c7, n7, k15, k24]), hcc, c46, by rw [hgd, k172, k180]; simpa using k201, rfl, ⟨_, (((v).1) + size.toInt64, (v).2.1, (v).2.2.1, (v).2.2.2.1, (v).2.2.2.2.1, (v).2.2.2.2.2), by rw [← nI_1]; exact hq80, hq94, hq95⟩, by rw [hat]; exact ⟨hq81, hq82, by rw [← pkW_F]; exact hq79, by rw [← pkW_B]; exact hq83, fun j hj => match j, hj with | 0, _ => hq84 | 1, _ => hq85 | 2, _ => hq86 | 3, _ => hq87 | 4, _ => hq88 | 5, _ => hq89 | 6, _ => hq90 | 7, _ => hq91 | 8, _ => hq92 | 9, _ => hq93 | j + 10, h9 => absurd h9 (by omega)⟩, fun z z1 hz => by rw [eg78, hv_up_ne _ _ (hz 2 (by decide) (by decide)), eg75, hv_up_ne _ _ z1, eg73, hv_up_ne _ _ z1, eg70, hv_up_ne _ _ (hz 13 (by decide) (by decide)), eg64, hv_up_ne _ _ (hz 12 (by decide) (by decide)), eg58, hv_up_ne _ _ (hz 6 (by decide) (by decide)), eg54, hv_up_ne _ _ (hz 5 (by decide) (by decide)), eg50, hv_up_ne _ _ (hz 4 (by decide) (by decide)), eg46, hv_up_ne _ _ (hz 3 (by decide) (by decide)), eg42, hv_up_ne _ _ (hz 2 (by decide) (by decide)), ho938 _ (hz 7 (by decide) (by decide)) (hz 8 (by decide) (by decide)) (hz 9 (by decide) (by decide)) (hz 10 (by decide) (by decide)) (hz 11 (by decide) (by decide)), ho933 _ z1, eg31, hv_up_ne _ _ z1]; exact hfo z z1 (hz 14 (by decide) (by decide)) (hz 15 (by decide) (by decide))⟩)))) (by decide) (by decide) d_Mo_pack_359
                                    · skip
                                      have k274 := b2i_t c274
                                      exact absurd k274 (by rw [k99]; decide)
                                  · skip
                                    have k251 := b2i_t c251
                                    exact absurd k251 (by rw [k99]; decide)
                                · skip
                                  have k201 := b2i_f c201
                                  refine lv_aload_n hx hb d_Mo_pack_204 rfl (lv_at hl 1 rfl) ?_
                                  refine lv_iconst (v := 3) hx hb d_Mo_pack_205 (by decide) ?_
                                  refine hv_put hE k_Mo hI 0 (by decide) w516 hg33 rfl rfl rfl (Nat.le_of_ble_eq_true rfl) d_Mo_pack_206 (fun H locs hI => ?_)
                                  obtain ⟨g96, eg96⟩ : ∃ z : hv_M, z = hv_up g34 mo (moE a 3 (nI s9) (nI e9) (nI c9) (true && sz (((v).1) + size.toInt64)) (((v).1) + size.toInt64) ((v).2.1) ((v).2.2.1) ((v).2.2.2.1) md) := ⟨_, rfl⟩
                                  have hI : hv_I D CL b0 g96 s.heap H locs := by rw [eg96]; exact hI
                                  have hq97 : g96 mo = some (moE a 3 (nI s9) (nI e9) (nI c9) (true && sz (((v).1) + size.toInt64)) (((v).1) + size.toInt64) ((v).2.1) ((v).2.2.1) ((v).2.2.2.1) md) := by rw [eg96]; exact hv_up_self _ _ _
                                  refine lv_iconst (v := 0) hx hb d_Mo_pack_209 (by decide) ?_
                                  have hq98 : g96 (a 14) = some (.inl (cA 1, 4, .inr (.inl (v).2.2.2.2.1))) := by rw [eg96, hv_up_ne _ _ (hnj.2 14 (by decide)), ho933 _ (hnj.2 14 (by decide)), eg31, hv_up_ne _ _ (hnj.2 14 (by decide))]; exact hs.2.1
                                  have hq99 : g96 (a 15) = some (.inl (cA 1, 4, .inr (.inl (v).2.2.2.2.2))) := by rw [eg96, hv_up_ne _ _ (hnj.2 15 (by decide)), ho933 _ (hnj.2 15 (by decide)), eg31, hv_up_ne _ _ (hnj.2 15 (by decide))]; exact hs.2.2
                                  exact hv_iret hE hr hlocks hI hK (v := 0) ((show _ ∨ _ by rw [← ev, ← eG]; exact Or.inr (Or.inr (Or.inl ⟨(by simp [okPack, c2, n2, c7, n7, k15, k24]), hcc, c46, by rw [hgd, k172, k180]; simpa using k201, rfl, ⟨_, (((v).1) + size.toInt64, (v).2.1, (v).2.2.1, (v).2.2.2.1, (v).2.2.2.2.1, (v).2.2.2.2.2), hq97, hq98, hq99⟩, fun z z1 z2 z3 => by rw [eg96, hv_up_ne _ _ z1, ho933 _ z1, eg31, hv_up_ne _ _ z1]; exact hfo z z1 z2 z3⟩)))) (by decide) (by decide) d_Mo_pack_210
                          · skip
                            refine lv_iload_n hx hb d_Mo_pack_153 rfl (lv_at hl 3 rfl) ?_
                            refine lv_i2l (v := size.toInt64) hx hb d_Mo_pack_154 rfl ?_
                            refine lv_aload_n hx hb d_Mo_pack_155 rfl (lv_at hl 0 rfl) ?_
                            refine hv_get hE k_Mo hI 19 (by decide) w535 hs.1 rfl d_Mo_pack_156 ?_
                            refine lv_lsub hx hb d_Mo_pack_159 ?_
                            refine lv_goto (tgt := 165) hx hb d_Mo_pack_160 (by decide) ?_
                            refine lv_lstore (lv' := [(5, .long (size.toInt64 - ((v).1))), (0, .ref mo), (1, .int (b2i bel)), (2, .int how), (3, .int size), (4, .int gr)]) hx hb d_Mo_pack_165 hl (by decide) rfl (fun ls hl => ?_)
                            have hln : lnM bel gr v = (v).1 := by simp only [lnM, k99, and_true, true_and, and_false, false_and, if_true, if_false, Bool.false_eq_true]
                            have hun : unM bel gr v = (v).2.2.2.1 := by simp only [unM, k99, if_true, if_false, Bool.false_eq_true]
                            have hex : exM how size ((v).1) = size.toInt64 - ((v).1) := by simp only [exM, c141, c150, if_true, if_false, show ¬ (1 : Int32) = 0 from by decide]
                            have hgd : (G && gdM bel how size gr v) = (G && sz (size.toInt64 - ((v).1)) && sz (((v).1) + (size.toInt64 - ((v).1)))) := by simp only [gdM, hln, hex]; simp [k99, Bool.and_assoc]
                            refine lv_aload_n hx hb d_Mo_pack_167 rfl (lv_at hl 1 rfl) ?_
                            refine lv_aload_n hx hb d_Mo_pack_168 rfl (lv_at hl 1 rfl) ?_
                            refine hv_get hE k_Mo hI 18 (by decide) w534 hs.1 rfl d_Mo_pack_169 ?_
                            refine lv_if_eq (tgt := 187) hx hb d_Mo_pack_172 (by decide) (fun c172 => ?_) (fun c172 => ?_)
                            · skip
                              have k172 := b2i_f c172
                              refine lv_iconst (v := 0) hx hb d_Mo_pack_187 (by decide) ?_
                              refine hv_put hE k_Mo hI 18 (by decide) w534 hs.1 rfl rfl rfl (Nat.le_of_ble_eq_true rfl) d_Mo_pack_188 (fun H locs hI => ?_)
                              obtain ⟨g100, eg100⟩ : ∃ z : hv_M, z = hv_up g mo (moE a 0 (nI s9) (nI e9) (nI c9) false ((v).1) ((v).2.1) ((v).2.2.1) ((v).2.2.2.1) md) := ⟨_, rfl⟩
                              have hI : hv_I D CL b0 g100 s.heap H locs := by rw [eg100]; exact hI
                              have hq101 : g100 mo = some (moE a 0 (nI s9) (nI e9) (nI c9) false ((v).1) ((v).2.1) ((v).2.2.1) ((v).2.2.2.1) md) := by rw [eg100]; exact hv_up_self _ _ _
                              refine lv_aload_n hx hb d_Mo_pack_191 rfl (lv_at hl 1 rfl) ?_
                              refine lv_lload hx hb d_Mo_pack_192 (lv_at hl 0 rfl) ?_
                              refine hv_V (As := [.long (size.toInt64 - ((v).1))]) (rest := []) hE hml hK hI (c_Mo_grow l hl0 b0 D cA g100 mo a 0 (nI s9) (nI e9) (nI c9) false ((v).1) ((v).2.1) ((v).2.2.1) ((v).2.2.2.1) md (size.toInt64 - ((v).1)) hq101 hnj) cd_Mo_grow w684 w686 ws26 hq101 rfl rfl hl.1 (Nat.le_of_ble_eq_true rfl) d_Mo_pack_194 ⟨by decide, by decide⟩ ⟨by decide, by decide⟩ (fun v9 g103 H locs hp hI => ?_) (fun q9 E9 ce9 g9 H locs hp => hp.elim)
                              obtain ⟨hv, hg102, ho9102⟩ := hp
                              rw [hv]
                              refine W.eq (g2 := F0 m 197 ls []) rfl ?_
                              refine lv_aload_n hx hb d_Mo_pack_197 rfl (lv_at hl 1 rfl) ?_
                              refine hv_get hE k_Mo hI 18 (by decide) w534 hg102 rfl d_Mo_pack_198 ?_
                              refine lv_if_ne (tgt := 211) hx hb d_Mo_pack_201 (by decide) (fun c201 => ?_) (fun c201 => ?_)
                              · skip
                                have k201 := b2i_t c201
                                exact absurd k201 (by simp)
                              · skip
                                have k201 := b2i_f c201
                                refine lv_aload_n hx hb d_Mo_pack_204 rfl (lv_at hl 1 rfl) ?_
                                refine lv_iconst (v := 3) hx hb d_Mo_pack_205 (by decide) ?_
                                refine hv_put hE k_Mo hI 0 (by decide) w516 hg102 rfl rfl rfl (Nat.le_of_ble_eq_true rfl) d_Mo_pack_206 (fun H locs hI => ?_)
                                obtain ⟨g104, eg104⟩ : ∃ z : hv_M, z = hv_up g103 mo (moE a 3 (nI s9) (nI e9) (nI c9) (false && sz (((v).1) + (size.toInt64 - ((v).1)))) (((v).1) + (size.toInt64 - ((v).1))) ((v).2.1) ((v).2.2.1) ((v).2.2.2.1) md) := ⟨_, rfl⟩
                                have hI : hv_I D CL b0 g104 s.heap H locs := by rw [eg104]; exact hI
                                have hq105 : g104 mo = some (moE a 3 (nI s9) (nI e9) (nI c9) (false && sz (((v).1) + (size.toInt64 - ((v).1)))) (((v).1) + (size.toInt64 - ((v).1))) ((v).2.1) ((v).2.2.1) ((v).2.2.2.1) md) := by rw [eg104]; exact hv_up_self _ _ _
                                refine lv_iconst (v := 0) hx hb d_Mo_pack_209 (by decide) ?_
                                have hq106 : g104 (a 14) = some (.inl (cA 1, 4, .inr (.inl (v).2.2.2.2.1))) := by rw [eg104, hv_up_ne _ _ (hnj.2 14 (by decide)), ho9102 _ (hnj.2 14 (by decide)), eg100, hv_up_ne _ _ (hnj.2 14 (by decide))]; exact hs.2.1
                                have hq107 : g104 (a 15) = some (.inl (cA 1, 4, .inr (.inl (v).2.2.2.2.2))) := by rw [eg104, hv_up_ne _ _ (hnj.2 15 (by decide)), ho9102 _ (hnj.2 15 (by decide)), eg100, hv_up_ne _ _ (hnj.2 15 (by decide))]; exact hs.2.2
                                exact hv_iret hE hr hlocks hI hK (v := 0) ((show _ ∨ _ by rw [← ev, ← eG]; exact Or.inr (Or.inr (Or.inl ⟨(by simp [okPack, c2, n2, c7, n7, k15, k24]), hcc, c46, by rw [hgd]; simp [k172], rfl, ⟨_, (((v).1) + (size.toInt64 - ((v).1)), (v).2.1, (v).2.2.1, (v).2.2.2.1, (v).2.2.2.2.1, (v).2.2.2.2.2), hq105, hq106, hq107⟩, fun z z1 z2 z3 => by rw [eg104, hv_up_ne _ _ z1, ho9102 _ z1, eg100, hv_up_ne _ _ z1]; exact hfo z z1 z2 z3⟩)))) (by decide) (by decide) d_Mo_pack_210
                            · skip
                              have k172 := b2i_t c172
                              refine lv_lload hx hb d_Mo_pack_175 (lv_at hl 0 rfl) ?_
                              refine hv_Sp (As := [.long (size.toInt64 - ((v).1))]) (rest := [.ref mo]) hE hml hK hI (c_Mo_isSize l hl0 b0 D cA g (size.toInt64 - ((v).1))) cd_Mo_isSize w608 w609 rfl rfl rfl hl.1 (Nat.le_of_ble_eq_true rfl) d_Mo_pack_177 ⟨by decide, by decide⟩ ⟨by decide, by decide⟩ (fun H locs hI => ?_)
                              refine W.eq (g2 := F0 m 180 ls [.int (b2i (sz (size.toInt64 - ((v).1)))), .ref mo]) rfl ?_
                              refine lv_if_eq (tgt := 187) hx hb d_Mo_pack_180 (by decide) (fun c180 => ?_) (fun c180 => ?_)
                              · skip
                                have k180 := b2i_f c180
                                refine lv_iconst (v := 0) hx hb d_Mo_pack_187 (by decide) ?_
                                refine hv_put hE k_Mo hI 18 (by decide) w534 hs.1 rfl rfl rfl (Nat.le_of_ble_eq_true rfl) d_Mo_pack_188 (fun H locs hI => ?_)
                                obtain ⟨g108, eg108⟩ : ∃ z : hv_M, z = hv_up g mo (moE a 0 (nI s9) (nI e9) (nI c9) false ((v).1) ((v).2.1) ((v).2.2.1) ((v).2.2.2.1) md) := ⟨_, rfl⟩
                                have hI : hv_I D CL b0 g108 s.heap H locs := by rw [eg108]; exact hI
                                have hq109 : g108 mo = some (moE a 0 (nI s9) (nI e9) (nI c9) false ((v).1) ((v).2.1) ((v).2.2.1) ((v).2.2.2.1) md) := by rw [eg108]; exact hv_up_self _ _ _
                                refine lv_aload_n hx hb d_Mo_pack_191 rfl (lv_at hl 1 rfl) ?_
                                refine lv_lload hx hb d_Mo_pack_192 (lv_at hl 0 rfl) ?_
                                refine hv_V (As := [.long (size.toInt64 - ((v).1))]) (rest := []) hE hml hK hI (c_Mo_grow l hl0 b0 D cA g108 mo a 0 (nI s9) (nI e9) (nI c9) false ((v).1) ((v).2.1) ((v).2.2.1) ((v).2.2.2.1) md (size.toInt64 - ((v).1)) hq109 hnj) cd_Mo_grow w684 w686 ws26 hq109 rfl rfl hl.1 (Nat.le_of_ble_eq_true rfl) d_Mo_pack_194 ⟨by decide, by decide⟩ ⟨by decide, by decide⟩ (fun v9 g111 H locs hp hI => ?_) (fun q9 E9 ce9 g9 H locs hp => hp.elim)
                                obtain ⟨hv, hg110, ho9110⟩ := hp
                                rw [hv]
                                refine W.eq (g2 := F0 m 197 ls []) rfl ?_
                                refine lv_aload_n hx hb d_Mo_pack_197 rfl (lv_at hl 1 rfl) ?_
                                refine hv_get hE k_Mo hI 18 (by decide) w534 hg110 rfl d_Mo_pack_198 ?_
                                refine lv_if_ne (tgt := 211) hx hb d_Mo_pack_201 (by decide) (fun c201 => ?_) (fun c201 => ?_)
                                · skip
                                  have k201 := b2i_t c201
                                  exact absurd k201 (by simp)
                                · skip
                                  have k201 := b2i_f c201
                                  refine lv_aload_n hx hb d_Mo_pack_204 rfl (lv_at hl 1 rfl) ?_
                                  refine lv_iconst (v := 3) hx hb d_Mo_pack_205 (by decide) ?_
                                  refine hv_put hE k_Mo hI 0 (by decide) w516 hg110 rfl rfl rfl (Nat.le_of_ble_eq_true rfl) d_Mo_pack_206 (fun H locs hI => ?_)
                                  obtain ⟨g112, eg112⟩ : ∃ z : hv_M, z = hv_up g111 mo (moE a 3 (nI s9) (nI e9) (nI c9) (false && sz (((v).1) + (size.toInt64 - ((v).1)))) (((v).1) + (size.toInt64 - ((v).1))) ((v).2.1) ((v).2.2.1) ((v).2.2.2.1) md) := ⟨_, rfl⟩
                                  have hI : hv_I D CL b0 g112 s.heap H locs := by rw [eg112]; exact hI
                                  have hq113 : g112 mo = some (moE a 3 (nI s9) (nI e9) (nI c9) (false && sz (((v).1) + (size.toInt64 - ((v).1)))) (((v).1) + (size.toInt64 - ((v).1))) ((v).2.1) ((v).2.2.1) ((v).2.2.2.1) md) := by rw [eg112]; exact hv_up_self _ _ _
                                  refine lv_iconst (v := 0) hx hb d_Mo_pack_209 (by decide) ?_
                                  have hq114 : g112 (a 14) = some (.inl (cA 1, 4, .inr (.inl (v).2.2.2.2.1))) := by rw [eg112, hv_up_ne _ _ (hnj.2 14 (by decide)), ho9110 _ (hnj.2 14 (by decide)), eg108, hv_up_ne _ _ (hnj.2 14 (by decide))]; exact hs.2.1
                                  have hq115 : g112 (a 15) = some (.inl (cA 1, 4, .inr (.inl (v).2.2.2.2.2))) := by rw [eg112, hv_up_ne _ _ (hnj.2 15 (by decide)), ho9110 _ (hnj.2 15 (by decide)), eg108, hv_up_ne _ _ (hnj.2 15 (by decide))]; exact hs.2.2
                                  exact hv_iret hE hr hlocks hI hK (v := 0) ((show _ ∨ _ by rw [← ev, ← eG]; exact Or.inr (Or.inr (Or.inl ⟨(by simp [okPack, c2, n2, c7, n7, k15, k24]), hcc, c46, by rw [hgd]; simp [k172, k180], rfl, ⟨_, (((v).1) + (size.toInt64 - ((v).1)), (v).2.1, (v).2.2.1, (v).2.2.2.1, (v).2.2.2.2.1, (v).2.2.2.2.2), hq113, hq114, hq115⟩, fun z z1 z2 z3 => by rw [eg112, hv_up_ne _ _ z1, ho9110 _ z1, eg108, hv_up_ne _ _ z1]; exact hfo z z1 z2 z3⟩)))) (by decide) (by decide) d_Mo_pack_210
                              · skip
                                have k180 := b2i_t c180
                                refine lv_iconst (v := 1) hx hb d_Mo_pack_183 (by decide) ?_
                                refine lv_goto (tgt := 188) hx hb d_Mo_pack_184 (by decide) ?_
                                refine hv_put hE k_Mo hI 18 (by decide) w534 hs.1 rfl rfl rfl (Nat.le_of_ble_eq_true rfl) d_Mo_pack_188 (fun H locs hI => ?_)
                                obtain ⟨g116, eg116⟩ : ∃ z : hv_M, z = hv_up g mo (moE a 0 (nI s9) (nI e9) (nI c9) true ((v).1) ((v).2.1) ((v).2.2.1) ((v).2.2.2.1) md) := ⟨_, rfl⟩
                                have hI : hv_I D CL b0 g116 s.heap H locs := by rw [eg116]; exact hI
                                have hq117 : g116 mo = some (moE a 0 (nI s9) (nI e9) (nI c9) true ((v).1) ((v).2.1) ((v).2.2.1) ((v).2.2.2.1) md) := by rw [eg116]; exact hv_up_self _ _ _
                                refine lv_aload_n hx hb d_Mo_pack_191 rfl (lv_at hl 1 rfl) ?_
                                refine lv_lload hx hb d_Mo_pack_192 (lv_at hl 0 rfl) ?_
                                refine hv_V (As := [.long (size.toInt64 - ((v).1))]) (rest := []) hE hml hK hI (c_Mo_grow l hl0 b0 D cA g116 mo a 0 (nI s9) (nI e9) (nI c9) true ((v).1) ((v).2.1) ((v).2.2.1) ((v).2.2.2.1) md (size.toInt64 - ((v).1)) hq117 hnj) cd_Mo_grow w684 w686 ws26 hq117 rfl rfl hl.1 (Nat.le_of_ble_eq_true rfl) d_Mo_pack_194 ⟨by decide, by decide⟩ ⟨by decide, by decide⟩ (fun v9 g119 H locs hp hI => ?_) (fun q9 E9 ce9 g9 H locs hp => hp.elim)
                                obtain ⟨hv, hg118, ho9118⟩ := hp
                                rw [hv]
                                refine W.eq (g2 := F0 m 197 ls []) rfl ?_
                                refine lv_aload_n hx hb d_Mo_pack_197 rfl (lv_at hl 1 rfl) ?_
                                refine hv_get hE k_Mo hI 18 (by decide) w534 hg118 rfl d_Mo_pack_198 ?_
                                refine lv_if_ne (tgt := 211) hx hb d_Mo_pack_201 (by decide) (fun c201 => ?_) (fun c201 => ?_)
                                · skip
                                  have k201 := b2i_t c201
                                  refine lv_aload_n hx hb d_Mo_pack_211 rfl (lv_at hl 1 rfl) ?_
                                  refine hv_get hE k_Mo hI 5 (by decide) w521 hg118 rfl d_Mo_pack_212 ?_
                                  refine lv_istore (lv' := [(7, .int (nI c9)), (5, .long (size.toInt64 - ((v).1))), (0, .ref mo), (1, .int (b2i bel)), (2, .int how), (3, .int size), (4, .int gr)]) hx hb d_Mo_pack_215 hl (by decide) rfl (fun ls hl => ?_)
                                  refine lv_aload_n hx hb d_Mo_pack_217 rfl (lv_at hl 2 rfl) ?_
                                  refine lv_iload hx hb d_Mo_pack_218 (lv_at hl 0 rfl) ?_
                                  refine lv_lload hx hb d_Mo_pack_220 (lv_at hl 1 rfl) ?_
                                  have hq120 : g119 (a 14) = some (.inl (cA 1, 4, .inr (.inl (v).2.2.2.2.1))) := by rw [ho9118 _ (hnj.2 14 (by decide)), eg116, hv_up_ne _ _ (hnj.2 14 (by decide))]; exact hs.2.1
                                  have hq121 : g119 (a 15) = some (.inl (cA 1, 4, .inr (.inl (v).2.2.2.2.2))) := by rw [ho9118 _ (hnj.2 15 (by decide)), eg116, hv_up_ne _ _ (hnj.2 15 (by decide))]; exact hs.2.2
                                  have hA122 : moA cA g119 a V := ⟨by rw [ho9118 _ (hnj.2 0 (by decide)), eg116, hv_up_ne _ _ (hnj.2 0 (by decide))]; exact hAg.1, by rw [ho9118 _ (hnj.2 1 (by decide)), eg116, hv_up_ne _ _ (hnj.2 1 (by decide))]; exact hAg.2.1, by rw [ho9118 _ (hnj.2 2 (by decide)), eg116, hv_up_ne _ _ (hnj.2 2 (by decide))]; exact hAg.2.2.1, by rw [ho9118 _ (hnj.2 3 (by decide)), eg116, hv_up_ne _ _ (hnj.2 3 (by decide))]; exact hAg.2.2.2.1, fun j9 hj9 => by rw [ho9118 _ (hnj.2 (4 + j9) (by omega)), eg116, hv_up_ne _ _ (hnj.2 (4 + j9) (by omega))]; exact hAg.2.2.2.2 j9 hj9⟩
                                  refine hv_V (As := [.int (nI c9), .long (size.toInt64 - ((v).1))]) (rest := []) hE hml hK hI (c_Mo_setGlue l hl0 b0 D cA g119 mo a 0 (nI s9) (nI e9) (nI c9) (true && sz (((v).1) + (size.toInt64 - ((v).1)))) (((v).1) + (size.toInt64 - ((v).1))) ((v).2.1) ((v).2.2.1) ((v).2.2.2.1) md V ((v).2.2.2.2.1) ((v).2.2.2.2.2) (size.toInt64 - ((v).1)) c9 hg118 hnj hA122 hq120 hq121 (by omega)) cd_Mo_setGlue w700 w702 ws30 hg118 rfl rfl hl.1 (Nat.le_of_ble_eq_true rfl) d_Mo_pack_222 ⟨by decide, by decide⟩ ⟨by decide, by decide⟩ (fun v9 g124 H locs hp hI => ?_) (fun q9 E9 ce9 g9 H locs hp => hp.elim)
                                  obtain ⟨hv, ha123, hb123, hc123, hd123, he123, ho9123⟩ := hp
                                  rw [hv]
                                  refine W.eq (g2 := F0 m 225 ls []) rfl ?_
                                  refine lv_aload_n hx hb d_Mo_pack_225 rfl (lv_at hl 2 rfl) ?_
                                  have hq125 : g124 mo = some (moE a 0 (nI s9) (nI e9) (nI c9) (true && sz (((v).1) + (size.toInt64 - ((v).1)))) (((v).1) + (size.toInt64 - ((v).1))) ((v).2.1) ((v).2.2.1) ((v).2.2.2.1) md) := by rw [ho9123 _ (Ne.symm (hnj.2 7 (by decide))) (Ne.symm (hnj.2 8 (by decide))) (Ne.symm (hnj.2 9 (by decide))) (Ne.symm (hnj.2 10 (by decide))) (Ne.symm (hnj.2 11 (by decide)))]; exact hg118
                                  refine hv_get hE k_Mo hI 6 (by decide) w522 hq125 rfl d_Mo_pack_226 ?_
                                  refine lv_iload hx hb d_Mo_pack_229 (lv_at hl 0 rfl) ?_
                                  refine lv_aload_n hx hb d_Mo_pack_231 rfl (lv_at hl 2 rfl) ?_
                                  refine hv_get hE k_Mo hI 3 (by decide) w519 hq125 rfl d_Mo_pack_232 ?_
                                  have hq126 : g124 (a 2) = some (.inl (cA 0, 101, .inl (fun b => nI (wF V b)))) := by rw [ho9123 _ (hnj.1 2 7 (by decide) (by decide) (by decide)) (hnj.1 2 8 (by decide) (by decide) (by decide)) (hnj.1 2 9 (by decide) (by decide) (by decide)) (hnj.1 2 10 (by decide) (by decide) (by decide)) (hnj.1 2 11 (by decide) (by decide) (by decide)), ho9118 _ (hnj.2 2 (by decide)), eg116, hv_up_ne _ _ (hnj.2 2 (by decide))]; exact hAg.2.2.1
                                  refine hv_iast hE hI 0 hq126 rfl (pk_in c9 101 (by omega) rfl (by omega)) d_Mo_pack_235 (fun H locs hI => ?_)
                                  rw [nI_cl (by omega)] at hI
                                  obtain ⟨g127, eg127⟩ : ∃ z : hv_M, z = hv_up g124 (a 2) (.inl (cA 0, 101, .inl (upd (fun b => nI (wF V b)) c9 (nI s9)))) := ⟨_, rfl⟩
                                  have hI : hv_I D CL b0 g127 s.heap H locs := by rw [eg127]; exact hI
                                  have hq128 : g127 (a 2) = some (.inl (cA 0, 101, .inl (upd (fun b => nI (wF V b)) c9 (nI s9)))) := by rw [eg127]; exact hv_up_self _ _ _
                                  refine lv_aload_n hx hb d_Mo_pack_236 rfl (lv_at hl 2 rfl) ?_
                                  have hq129 : g127 mo = some (moE a 0 (nI s9) (nI e9) (nI c9) (true && sz (((v).1) + (size.toInt64 - ((v).1)))) (((v).1) + (size.toInt64 - ((v).1))) ((v).2.1) ((v).2.2.1) ((v).2.2.2.1) md) := by rw [eg127, hv_up_ne _ _ (Ne.symm (hnj.2 2 (by decide)))]; exact hq125
                                  refine hv_get hE k_Mo hI 7 (by decide) w523 hq129 rfl d_Mo_pack_237 ?_
                                  refine lv_iload hx hb d_Mo_pack_240 (lv_at hl 0 rfl) ?_
                                  refine lv_iload_n hx hb d_Mo_pack_242 rfl (lv_at hl 3 rfl) ?_
                                  have hq130 : g127 (a 3) = some (.inl (cA 2, 100, .inl (fun b => b2i (wB V b)))) := by rw [eg127, hv_up_ne _ _ (hnj.1 3 2 (by decide) (by decide) (by decide)), ho9123 _ (hnj.1 3 7 (by decide) (by decide) (by decide)) (hnj.1 3 8 (by decide) (by decide) (by decide)) (hnj.1 3 9 (by decide) (by decide) (by decide)) (hnj.1 3 10 (by decide) (by decide) (by decide)) (hnj.1 3 11 (by decide) (by decide) (by decide)), ho9118 _ (hnj.2 3 (by decide)), eg116, hv_up_ne _ _ (hnj.2 3 (by decide))]; exact hAg.2.2.2.1
                                  refine hv_zast hE hI 2 hq130 rfl (pk_in c9 100 (by omega) rfl (by omega)) d_Mo_pack_243 (fun H locs hI => ?_)
                                  rw [nI_cl (by omega)] at hI
                                  obtain ⟨g131, eg131⟩ : ∃ z : hv_M, z = hv_up g127 (a 3) (.inl (cA 2, 100, .inl (upd (fun b => b2i (wB V b)) c9 (b2i bel)))) := ⟨_, rfl⟩
                                  have hI : hv_I D CL b0 g131 s.heap H locs := by rw [eg131]; exact hI
                                  have hq132 : g131 (a 3) = some (.inl (cA 2, 100, .inl (upd (fun b => b2i (wB V b)) c9 (b2i bel)))) := by rw [eg131]; exact hv_up_self _ _ _
                                  refine lv_aload_n hx hb d_Mo_pack_244 rfl (lv_at hl 2 rfl) ?_
                                  have hq133 : g131 mo = some (moE a 0 (nI s9) (nI e9) (nI c9) (true && sz (((v).1) + (size.toInt64 - ((v).1)))) (((v).1) + (size.toInt64 - ((v).1))) ((v).2.1) ((v).2.2.1) ((v).2.2.2.1) md) := by rw [eg131, hv_up_ne _ _ (Ne.symm (hnj.2 3 (by decide)))]; exact hq129
                                  refine hv_get hE k_Mo hI 8 (by decide) w524 hq133 rfl d_Mo_pack_245 ?_
                                  refine lv_iload hx hb d_Mo_pack_248 (lv_at hl 0 rfl) ?_
                                  refine lv_iload_n hx hb d_Mo_pack_250 rfl (lv_at hl 3 rfl) ?_
                                  refine lv_if_eq (tgt := 261) hx hb d_Mo_pack_251 (by decide) (fun c251 => ?_) (fun c251 => ?_)
                                  · skip
                                    have k251 := b2i_f c251
                                    refine lv_aload_n hx hb d_Mo_pack_261 rfl (lv_at hl 2 rfl) ?_
                                    refine hv_get hE k_Mo hI 19 (by decide) w535 hq133 rfl d_Mo_pack_262 ?_
                                    refine lv_l2i (v := (((v).1) + (size.toInt64 - ((v).1))).toInt32) hx hb d_Mo_pack_265 rfl ?_
                                    have hq134 : g131 (a 4) = some (.inl (cA 0, 100, .inl (wA V 0))) := by rw [eg131, hv_up_ne _ _ (hnj.1 4 3 (by decide) (by decide) (by decide)), eg127, hv_up_ne _ _ (hnj.1 4 2 (by decide) (by decide) (by decide)), ho9123 _ (hnj.1 4 7 (by decide) (by decide) (by decide)) (hnj.1 4 8 (by decide) (by decide) (by decide)) (hnj.1 4 9 (by decide) (by decide) (by decide)) (hnj.1 4 10 (by decide) (by decide) (by decide)) (hnj.1 4 11 (by decide) (by decide) (by decide)), ho9118 _ (hnj.2 4 (by decide)), eg116, hv_up_ne _ _ (hnj.2 4 (by decide))]; exact (hAg.2.2.2.2 0 (by decide))
                                    refine hv_iast hE hI 0 hq134 rfl (pk_in c9 100 (by omega) rfl (by omega)) d_Mo_pack_266 (fun H locs hI => ?_)
                                    rw [nI_cl (by omega)] at hI
                                    obtain ⟨g135, eg135⟩ : ∃ z : hv_M, z = hv_up g131 (a 4) (.inl (cA 0, 100, .inl (upd (wA V 0) c9 ((((v).1) + (size.toInt64 - ((v).1))).toInt32)))) := ⟨_, rfl⟩
                                    have hI : hv_I D CL b0 g135 s.heap H locs := by rw [eg135]; exact hI
                                    have hq136 : g135 (a 4) = some (.inl (cA 0, 100, .inl (upd (wA V 0) c9 ((((v).1) + (size.toInt64 - ((v).1))).toInt32)))) := by rw [eg135]; exact hv_up_self _ _ _
                                    refine lv_aload_n hx hb d_Mo_pack_267 rfl (lv_at hl 2 rfl) ?_
                                    have hq137 : g135 mo = some (moE a 0 (nI s9) (nI e9) (nI c9) (true && sz (((v).1) + (size.toInt64 - ((v).1)))) (((v).1) + (size.toInt64 - ((v).1))) ((v).2.1) ((v).2.2.1) ((v).2.2.2.1) md) := by rw [eg135, hv_up_ne _ _ (Ne.symm (hnj.2 4 (by decide)))]; exact hq133
                                    refine hv_get hE k_Mo hI 9 (by decide) w525 hq137 rfl d_Mo_pack_268 ?_
                                    refine lv_iload hx hb d_Mo_pack_271 (lv_at hl 0 rfl) ?_
                                    refine lv_iload_n hx hb d_Mo_pack_273 rfl (lv_at hl 3 rfl) ?_
                                    refine lv_if_eq (tgt := 284) hx hb d_Mo_pack_274 (by decide) (fun c274 => ?_) (fun c274 => ?_)
                                    · skip
                                      have k274 := b2i_f c274
                                      refine lv_aload_n hx hb d_Mo_pack_284 rfl (lv_at hl 2 rfl) ?_
                                      refine hv_get hE k_Mo hI 21 (by decide) w537 hq137 rfl d_Mo_pack_285 ?_
                                      refine lv_l2i (v := ((v).2.2.1).toInt32) hx hb d_Mo_pack_288 rfl ?_
                                      have hq138 : g135 (a 5) = some (.inl (cA 0, 100, .inl (wA V 1))) := by rw [eg135, hv_up_ne _ _ (hnj.1 5 4 (by decide) (by decide) (by decide)), eg131, hv_up_ne _ _ (hnj.1 5 3 (by decide) (by decide) (by decide)), eg127, hv_up_ne _ _ (hnj.1 5 2 (by decide) (by decide) (by decide)), ho9123 _ (hnj.1 5 7 (by decide) (by decide) (by decide)) (hnj.1 5 8 (by decide) (by decide) (by decide)) (hnj.1 5 9 (by decide) (by decide) (by decide)) (hnj.1 5 10 (by decide) (by decide) (by decide)) (hnj.1 5 11 (by decide) (by decide) (by decide)), ho9118 _ (hnj.2 5 (by decide)), eg116, hv_up_ne _ _ (hnj.2 5 (by decide))]; exact (hAg.2.2.2.2 1 (by decide))
                                      refine hv_iast hE hI 0 hq138 rfl (pk_in c9 100 (by omega) rfl (by omega)) d_Mo_pack_289 (fun H locs hI => ?_)
                                      rw [nI_cl (by omega)] at hI
                                      obtain ⟨g139, eg139⟩ : ∃ z : hv_M, z = hv_up g135 (a 5) (.inl (cA 0, 100, .inl (upd (wA V 1) c9 (((v).2.2.1).toInt32)))) := ⟨_, rfl⟩
                                      have hI : hv_I D CL b0 g139 s.heap H locs := by rw [eg139]; exact hI
                                      have hq140 : g139 (a 5) = some (.inl (cA 0, 100, .inl (upd (wA V 1) c9 (((v).2.2.1).toInt32)))) := by rw [eg139]; exact hv_up_self _ _ _
                                      refine lv_aload_n hx hb d_Mo_pack_290 rfl (lv_at hl 2 rfl) ?_
                                      have hq141 : g139 mo = some (moE a 0 (nI s9) (nI e9) (nI c9) (true && sz (((v).1) + (size.toInt64 - ((v).1)))) (((v).1) + (size.toInt64 - ((v).1))) ((v).2.1) ((v).2.2.1) ((v).2.2.2.1) md) := by rw [eg139, hv_up_ne _ _ (Ne.symm (hnj.2 5 (by decide)))]; exact hq137
                                      refine hv_get hE k_Mo hI 10 (by decide) w526 hq141 rfl d_Mo_pack_291 ?_
                                      refine lv_iload hx hb d_Mo_pack_294 (lv_at hl 0 rfl) ?_
                                      refine lv_aload_n hx hb d_Mo_pack_296 rfl (lv_at hl 2 rfl) ?_
                                      refine hv_get hE k_Mo hI 22 (by decide) w538 hq141 rfl d_Mo_pack_297 ?_
                                      refine lv_l2i (v := ((v).2.2.2.1).toInt32) hx hb d_Mo_pack_300 rfl ?_
                                      have hq142 : g139 (a 6) = some (.inl (cA 0, 100, .inl (wA V 2))) := by rw [eg139, hv_up_ne _ _ (hnj.1 6 5 (by decide) (by decide) (by decide)), eg135, hv_up_ne _ _ (hnj.1 6 4 (by decide) (by decide) (by decide)), eg131, hv_up_ne _ _ (hnj.1 6 3 (by decide) (by decide) (by decide)), eg127, hv_up_ne _ _ (hnj.1 6 2 (by decide) (by decide) (by decide)), ho9123 _ (hnj.1 6 7 (by decide) (by decide) (by decide)) (hnj.1 6 8 (by decide) (by decide) (by decide)) (hnj.1 6 9 (by decide) (by decide) (by decide)) (hnj.1 6 10 (by decide) (by decide) (by decide)) (hnj.1 6 11 (by decide) (by decide) (by decide)), ho9118 _ (hnj.2 6 (by decide)), eg116, hv_up_ne _ _ (hnj.2 6 (by decide))]; exact (hAg.2.2.2.2 2 (by decide))
                                      refine hv_iast hE hI 0 hq142 rfl (pk_in c9 100 (by omega) rfl (by omega)) d_Mo_pack_301 (fun H locs hI => ?_)
                                      rw [nI_cl (by omega)] at hI
                                      obtain ⟨g143, eg143⟩ : ∃ z : hv_M, z = hv_up g139 (a 6) (.inl (cA 0, 100, .inl (upd (wA V 2) c9 (((v).2.2.2.1).toInt32)))) := ⟨_, rfl⟩
                                      have hI : hv_I D CL b0 g143 s.heap H locs := by rw [eg143]; exact hI
                                      have hq144 : g143 (a 6) = some (.inl (cA 0, 100, .inl (upd (wA V 2) c9 (((v).2.2.2.1).toInt32)))) := by rw [eg143]; exact hv_up_self _ _ _
                                      refine lv_aload_n hx hb d_Mo_pack_302 rfl (lv_at hl 2 rfl) ?_
                                      have hq145 : g143 mo = some (moE a 0 (nI s9) (nI e9) (nI c9) (true && sz (((v).1) + (size.toInt64 - ((v).1)))) (((v).1) + (size.toInt64 - ((v).1))) ((v).2.1) ((v).2.2.1) ((v).2.2.2.1) md) := by rw [eg143, hv_up_ne _ _ (Ne.symm (hnj.2 6 (by decide)))]; exact hq141
                                      refine hv_get hE k_Mo hI 16 (by decide) w532 hq145 rfl d_Mo_pack_303 ?_
                                      refine lv_iload hx hb d_Mo_pack_306 (lv_at hl 0 rfl) ?_
                                      refine lv_aload_n hx hb d_Mo_pack_308 rfl (lv_at hl 2 rfl) ?_
                                      have hq146 : g143 (a 0) = some (.inl (cA 0, 10200, .inl (wK V))) := by rw [eg143, hv_up_ne _ _ (hnj.1 0 6 (by decide) (by decide) (by decide)), eg139, hv_up_ne _ _ (hnj.1 0 5 (by decide) (by decide) (by decide)), eg135, hv_up_ne _ _ (hnj.1 0 4 (by decide) (by decide) (by decide)), eg131, hv_up_ne _ _ (hnj.1 0 3 (by decide) (by decide) (by decide)), eg127, hv_up_ne _ _ (hnj.1 0 2 (by decide) (by decide) (by decide)), ho9123 _ (hnj.1 0 7 (by decide) (by decide) (by decide)) (hnj.1 0 8 (by decide) (by decide) (by decide)) (hnj.1 0 9 (by decide) (by decide) (by decide)) (hnj.1 0 10 (by decide) (by decide) (by decide)) (hnj.1 0 11 (by decide) (by decide) (by decide)), ho9118 _ (hnj.2 0 (by decide)), eg116, hv_up_ne _ _ (hnj.2 0 (by decide))]; exact hAg.1
                                      have hq147 : g143 (a 1) = some (.inl (cA 0, 51000, .inl V.2.1)) := by rw [eg143, hv_up_ne _ _ (hnj.1 1 6 (by decide) (by decide) (by decide)), eg139, hv_up_ne _ _ (hnj.1 1 5 (by decide) (by decide) (by decide)), eg135, hv_up_ne _ _ (hnj.1 1 4 (by decide) (by decide) (by decide)), eg131, hv_up_ne _ _ (hnj.1 1 3 (by decide) (by decide) (by decide)), eg127, hv_up_ne _ _ (hnj.1 1 2 (by decide) (by decide) (by decide)), ho9123 _ (hnj.1 1 7 (by decide) (by decide) (by decide)) (hnj.1 1 8 (by decide) (by decide) (by decide)) (hnj.1 1 9 (by decide) (by decide) (by decide)) (hnj.1 1 10 (by decide) (by decide) (by decide)) (hnj.1 1 11 (by decide) (by decide) (by decide)), ho9118 _ (hnj.2 1 (by decide)), eg116, hv_up_ne _ _ (hnj.2 1 (by decide))]; exact hAg.2.1
                                      have hq148 : g143 (a 12) = some (.inl (cA 0, 100, .inl (wA V 8))) := by rw [eg143, hv_up_ne _ _ (hnj.1 12 6 (by decide) (by decide) (by decide)), eg139, hv_up_ne _ _ (hnj.1 12 5 (by decide) (by decide) (by decide)), eg135, hv_up_ne _ _ (hnj.1 12 4 (by decide) (by decide) (by decide)), eg131, hv_up_ne _ _ (hnj.1 12 3 (by decide) (by decide) (by decide)), eg127, hv_up_ne _ _ (hnj.1 12 2 (by decide) (by decide) (by decide)), ho9123 _ (hnj.1 12 7 (by decide) (by decide) (by decide)) (hnj.1 12 8 (by decide) (by decide) (by decide)) (hnj.1 12 9 (by decide) (by decide) (by decide)) (hnj.1 12 10 (by decide) (by decide) (by decide)) (hnj.1 12 11 (by decide) (by decide) (by decide)), ho9118 _ (hnj.2 12 (by decide)), eg116, hv_up_ne _ _ (hnj.2 12 (by decide))]; exact (hAg.2.2.2.2 8 (by decide))
                                      refine hv_Vp (As := []) (rest := [.int (nI c9), .ref (a 12)]) hE hml hK hI (c_Mo_deepest l hl0 b0 D cA g143 mo a 0 s9 e9 (nI c9) (true && sz (((v).1) + (size.toInt64 - ((v).1)))) (((v).1) + (size.toInt64 - ((v).1))) ((v).2.1) ((v).2.2.1) ((v).2.2.2.1) md V hq145 hnj hq146 hq147 hq148 hse he9 hit) cd_Mo_deepest w660 w662 ws20 hq145 rfl rfl rfl rfl hl.1 (Nat.le_of_ble_eq_true rfl) d_Mo_pack_309 ⟨by decide, by decide⟩ ⟨by decide, by decide⟩ (fun H locs hI => ?_)
                                      refine W.eq (g2 := F0 m 312 ls [.int (dL V s9 (e9 - s9)), .int (nI c9), .ref (a 12)]) rfl ?_
                                      refine lv_iconst (v := 1) hx hb d_Mo_pack_312 (by decide) ?_
                                      refine lv_iadd hx hb d_Mo_pack_313 ?_
                                      refine hv_iast hE hI 0 hq148 rfl (pk_in c9 100 (by omega) rfl (by omega)) d_Mo_pack_314 (fun H locs hI => ?_)
                                      rw [nI_cl (by omega)] at hI
                                      obtain ⟨g149, eg149⟩ : ∃ z : hv_M, z = hv_up g143 (a 12) (.inl (cA 0, 100, .inl (upd (wA V 8) c9 ((dL V s9 (e9 - s9)) + 1)))) := ⟨_, rfl⟩
                                      have hI : hv_I D CL b0 g149 s.heap H locs := by rw [eg149]; exact hI
                                      have hq150 : g149 (a 12) = some (.inl (cA 0, 100, .inl (upd (wA V 8) c9 ((dL V s9 (e9 - s9)) + 1)))) := by rw [eg149]; exact hv_up_self _ _ _
                                      refine lv_aload_n hx hb d_Mo_pack_315 rfl (lv_at hl 2 rfl) ?_
                                      have hq151 : g149 mo = some (moE a 0 (nI s9) (nI e9) (nI c9) (true && sz (((v).1) + (size.toInt64 - ((v).1)))) (((v).1) + (size.toInt64 - ((v).1))) ((v).2.1) ((v).2.2.1) ((v).2.2.2.1) md) := by rw [eg149, hv_up_ne _ _ (Ne.symm (hnj.2 12 (by decide)))]; exact hq145
                                      refine hv_get hE k_Mo hI 17 (by decide) w533 hq151 rfl d_Mo_pack_316 ?_
                                      refine lv_iload hx hb d_Mo_pack_319 (lv_at hl 0 rfl) ?_
                                      refine lv_aload_n hx hb d_Mo_pack_321 rfl (lv_at hl 2 rfl) ?_
                                      have hq152 : g149 (a 0) = some (.inl (cA 0, 10200, .inl (wK V))) := by rw [eg149, hv_up_ne _ _ (hnj.1 0 12 (by decide) (by decide) (by decide))]; exact hq146
                                      have hq153 : g149 (a 1) = some (.inl (cA 0, 51000, .inl V.2.1)) := by rw [eg149, hv_up_ne _ _ (hnj.1 1 12 (by decide) (by decide) (by decide))]; exact hq147
                                      have hq154 : g149 (a 13) = some (.inl (cA 0, 100, .inl (wA V 9))) := by rw [eg149, hv_up_ne _ _ (hnj.1 13 12 (by decide) (by decide) (by decide)), eg143, hv_up_ne _ _ (hnj.1 13 6 (by decide) (by decide) (by decide)), eg139, hv_up_ne _ _ (hnj.1 13 5 (by decide) (by decide) (by decide)), eg135, hv_up_ne _ _ (hnj.1 13 4 (by decide) (by decide) (by decide)), eg131, hv_up_ne _ _ (hnj.1 13 3 (by decide) (by decide) (by decide)), eg127, hv_up_ne _ _ (hnj.1 13 2 (by decide) (by decide) (by decide)), ho9123 _ (hnj.1 13 7 (by decide) (by decide) (by decide)) (hnj.1 13 8 (by decide) (by decide) (by decide)) (hnj.1 13 9 (by decide) (by decide) (by decide)) (hnj.1 13 10 (by decide) (by decide) (by decide)) (hnj.1 13 11 (by decide) (by decide) (by decide)), ho9118 _ (hnj.2 13 (by decide)), eg116, hv_up_ne _ _ (hnj.2 13 (by decide))]; exact (hAg.2.2.2.2 9 (by decide))
                                      refine hv_Vp (As := []) (rest := [.int (nI c9), .ref (a 13)]) hE hml hK hI (c_Mo_countAll l hl0 b0 D cA g149 mo a 0 s9 e9 (nI c9) (true && sz (((v).1) + (size.toInt64 - ((v).1)))) (((v).1) + (size.toInt64 - ((v).1))) ((v).2.1) ((v).2.2.1) ((v).2.2.2.1) md V hq151 hnj hq152 hq153 hq154 hse he9 hit) cd_Mo_countAll w714 w716 ws31 hq151 rfl rfl rfl rfl hl.1 (Nat.le_of_ble_eq_true rfl) d_Mo_pack_322 ⟨by decide, by decide⟩ ⟨by decide, by decide⟩ (fun H locs hI => ?_)
                                      refine W.eq (g2 := F0 m 325 ls [.int (cA9 V s9 (e9 - s9)), .int (nI c9), .ref (a 13)]) rfl ?_
                                      refine hv_iast hE hI 0 hq154 rfl (pk_in c9 100 (by omega) rfl (by omega)) d_Mo_pack_325 (fun H locs hI => ?_)
                                      rw [nI_cl (by omega)] at hI
                                      obtain ⟨g155, eg155⟩ : ∃ z : hv_M, z = hv_up g149 (a 13) (.inl (cA 0, 100, .inl (upd (wA V 9) c9 (cA9 V s9 (e9 - s9))))) := ⟨_, rfl⟩
                                      have hI : hv_I D CL b0 g155 s.heap H locs := by rw [eg155]; exact hI
                                      have hq156 : g155 (a 13) = some (.inl (cA 0, 100, .inl (upd (wA V 9) c9 (cA9 V s9 (e9 - s9))))) := by rw [eg155]; exact hv_up_self _ _ _
                                      refine lv_aload_n hx hb d_Mo_pack_326 rfl (lv_at hl 2 rfl) ?_
                                      refine lv_dup hx hb d_Mo_pack_327 rfl ?_
                                      have hq157 : g155 mo = some (moE a 0 (nI s9) (nI e9) (nI c9) (true && sz (((v).1) + (size.toInt64 - ((v).1)))) (((v).1) + (size.toInt64 - ((v).1))) ((v).2.1) ((v).2.2.1) ((v).2.2.2.1) md) := by rw [eg155, hv_up_ne _ _ (Ne.symm (hnj.2 13 (by decide)))]; exact hq151
                                      refine hv_get hE k_Mo hI 5 (by decide) w521 hq157 rfl d_Mo_pack_328 ?_
                                      refine lv_iconst (v := 1) hx hb d_Mo_pack_331 (by decide) ?_
                                      refine lv_iadd hx hb d_Mo_pack_332 ?_
                                      refine hv_put hE k_Mo hI 5 (by decide) w521 hq157 rfl rfl rfl (Nat.le_of_ble_eq_true rfl) d_Mo_pack_333 (fun H locs hI => ?_)
                                      obtain ⟨g158, eg158⟩ : ∃ z : hv_M, z = hv_up g155 mo (moE a 0 (nI s9) (nI e9) ((nI c9) + 1) (true && sz (((v).1) + (size.toInt64 - ((v).1)))) (((v).1) + (size.toInt64 - ((v).1))) ((v).2.1) ((v).2.2.1) ((v).2.2.2.1) md) := ⟨_, rfl⟩
                                      have hI : hv_I D CL b0 g158 s.heap H locs := by rw [eg158]; exact hI
                                      have hq159 : g158 mo = some (moE a 0 (nI s9) (nI e9) ((nI c9) + 1) (true && sz (((v).1) + (size.toInt64 - ((v).1)))) (((v).1) + (size.toInt64 - ((v).1))) ((v).2.1) ((v).2.2.1) ((v).2.2.2.1) md) := by rw [eg158]; exact hv_up_self _ _ _
                                      refine lv_aload_n hx hb d_Mo_pack_336 rfl (lv_at hl 2 rfl) ?_
                                      refine lv_aload_n hx hb d_Mo_pack_337 rfl (lv_at hl 2 rfl) ?_
                                      refine hv_get hE k_Mo hI 4 (by decide) w520 hq159 rfl d_Mo_pack_338 ?_
                                      refine hv_put hE k_Mo hI 3 (by decide) w519 hq159 rfl rfl rfl (Nat.le_of_ble_eq_true rfl) d_Mo_pack_341 (fun H locs hI => ?_)
                                      obtain ⟨g160, eg160⟩ : ∃ z : hv_M, z = hv_up g158 mo (moE a 0 (nI e9) (nI e9) ((nI c9) + 1) (true && sz (((v).1) + (size.toInt64 - ((v).1)))) (((v).1) + (size.toInt64 - ((v).1))) ((v).2.1) ((v).2.2.1) ((v).2.2.2.1) md) := ⟨_, rfl⟩
                                      have hI : hv_I D CL b0 g160 s.heap H locs := by rw [eg160]; exact hI
                                      have hq161 : g160 mo = some (moE a 0 (nI e9) (nI e9) ((nI c9) + 1) (true && sz (((v).1) + (size.toInt64 - ((v).1)))) (((v).1) + (size.toInt64 - ((v).1))) ((v).2.1) ((v).2.2.1) ((v).2.2.2.1) md) := by rw [eg160]; exact hv_up_self _ _ _
                                      refine lv_aload_n hx hb d_Mo_pack_344 rfl (lv_at hl 2 rfl) ?_
                                      refine hv_get hE k_Mo hI 6 (by decide) w522 hq161 rfl d_Mo_pack_345 ?_
                                      refine lv_aload_n hx hb d_Mo_pack_348 rfl (lv_at hl 2 rfl) ?_
                                      refine hv_get hE k_Mo hI 5 (by decide) w521 hq161 rfl d_Mo_pack_349 ?_
                                      refine lv_aload_n hx hb d_Mo_pack_352 rfl (lv_at hl 2 rfl) ?_
                                      refine hv_get hE k_Mo hI 4 (by decide) w520 hq161 rfl d_Mo_pack_353 ?_
                                      have hq162 : g160 (a 2) = some (.inl (cA 0, 101, .inl (upd (fun b => nI (wF V b)) c9 (nI s9)))) := by rw [eg160, hv_up_ne _ _ (hnj.2 2 (by decide)), eg158, hv_up_ne _ _ (hnj.2 2 (by decide)), eg155, hv_up_ne _ _ (hnj.1 2 13 (by decide) (by decide) (by decide)), eg149, hv_up_ne _ _ (hnj.1 2 12 (by decide) (by decide) (by decide)), eg143, hv_up_ne _ _ (hnj.1 2 6 (by decide) (by decide) (by decide)), eg139, hv_up_ne _ _ (hnj.1 2 5 (by decide) (by decide) (by decide)), eg135, hv_up_ne _ _ (hnj.1 2 4 (by decide) (by decide) (by decide)), eg131, hv_up_ne _ _ (hnj.1 2 3 (by decide) (by decide) (by decide))]; exact hq128
                                      refine hv_iast hE hI 0 hq162 rfl (pk_in (c9 + 1) 101 (by omega) (nI_1 c9) (by omega)) d_Mo_pack_356 (fun H locs hI => ?_)
                                      rw [nI_1, nI_cl (by omega)] at hI
                                      obtain ⟨g163, eg163⟩ : ∃ z : hv_M, z = hv_up g160 (a 2) (.inl (cA 0, 101, .inl (upd (upd (fun b => nI (wF V b)) c9 (nI s9)) (c9 + 1) (nI e9)))) := ⟨_, rfl⟩
                                      have hI : hv_I D CL b0 g163 s.heap H locs := by rw [eg163]; exact hI
                                      have hq164 : g163 (a 2) = some (.inl (cA 0, 101, .inl (upd (upd (fun b => nI (wF V b)) c9 (nI s9)) (c9 + 1) (nI e9)))) := by rw [eg163]; exact hv_up_self _ _ _
                                      refine lv_iload hx hb d_Mo_pack_357 (lv_at hl 0 rfl) ?_
                                      have hq165 : g163 mo = some (moE a 0 (nI e9) (nI e9) ((nI c9) + 1) (true && sz (((v).1) + (size.toInt64 - ((v).1)))) (((v).1) + (size.toInt64 - ((v).1))) ((v).2.1) ((v).2.2.1) ((v).2.2.2.1) md) := by rw [eg163, hv_up_ne _ _ (Ne.symm (hnj.2 2 (by decide)))]; exact hq161
                                      have hq166 : g163 (a 0) = some (.inl (cA 0, 10200, .inl (wK V))) := by rw [eg163, hv_up_ne _ _ (hnj.1 0 2 (by decide) (by decide) (by decide)), eg160, hv_up_ne _ _ (hnj.2 0 (by decide)), eg158, hv_up_ne _ _ (hnj.2 0 (by decide)), eg155, hv_up_ne _ _ (hnj.1 0 13 (by decide) (by decide) (by decide))]; exact hq152
                                      have hq167 : g163 (a 1) = some (.inl (cA 0, 51000, .inl V.2.1)) := by rw [eg163, hv_up_ne _ _ (hnj.1 1 2 (by decide) (by decide) (by decide)), eg160, hv_up_ne _ _ (hnj.2 1 (by decide)), eg158, hv_up_ne _ _ (hnj.2 1 (by decide)), eg155, hv_up_ne _ _ (hnj.1 1 13 (by decide) (by decide) (by decide))]; exact hq153
                                      have hq168 : g163 (a 3) = some (.inl (cA 2, 100, .inl (upd (fun b => b2i (wB V b)) c9 (b2i bel)))) := by rw [eg163, hv_up_ne _ _ (hnj.1 3 2 (by decide) (by decide) (by decide)), eg160, hv_up_ne _ _ (hnj.2 3 (by decide)), eg158, hv_up_ne _ _ (hnj.2 3 (by decide)), eg155, hv_up_ne _ _ (hnj.1 3 13 (by decide) (by decide) (by decide)), eg149, hv_up_ne _ _ (hnj.1 3 12 (by decide) (by decide) (by decide)), eg143, hv_up_ne _ _ (hnj.1 3 6 (by decide) (by decide) (by decide)), eg139, hv_up_ne _ _ (hnj.1 3 5 (by decide) (by decide) (by decide)), eg135, hv_up_ne _ _ (hnj.1 3 4 (by decide) (by decide) (by decide))]; exact hq132
                                      have hq169 : g163 (a 4) = some (.inl (cA 0, 100, .inl (upd (wA V 0) c9 ((((v).1) + (size.toInt64 - ((v).1))).toInt32)))) := by rw [eg163, hv_up_ne _ _ (hnj.1 4 2 (by decide) (by decide) (by decide)), eg160, hv_up_ne _ _ (hnj.2 4 (by decide)), eg158, hv_up_ne _ _ (hnj.2 4 (by decide)), eg155, hv_up_ne _ _ (hnj.1 4 13 (by decide) (by decide) (by decide)), eg149, hv_up_ne _ _ (hnj.1 4 12 (by decide) (by decide) (by decide)), eg143, hv_up_ne _ _ (hnj.1 4 6 (by decide) (by decide) (by decide)), eg139, hv_up_ne _ _ (hnj.1 4 5 (by decide) (by decide) (by decide))]; exact hq136
                                      have hq170 : g163 (a 5) = some (.inl (cA 0, 100, .inl (upd (wA V 1) c9 (((v).2.2.1).toInt32)))) := by rw [eg163, hv_up_ne _ _ (hnj.1 5 2 (by decide) (by decide) (by decide)), eg160, hv_up_ne _ _ (hnj.2 5 (by decide)), eg158, hv_up_ne _ _ (hnj.2 5 (by decide)), eg155, hv_up_ne _ _ (hnj.1 5 13 (by decide) (by decide) (by decide)), eg149, hv_up_ne _ _ (hnj.1 5 12 (by decide) (by decide) (by decide)), eg143, hv_up_ne _ _ (hnj.1 5 6 (by decide) (by decide) (by decide))]; exact hq140
                                      have hq171 : g163 (a 6) = some (.inl (cA 0, 100, .inl (upd (wA V 2) c9 (((v).2.2.2.1).toInt32)))) := by rw [eg163, hv_up_ne _ _ (hnj.1 6 2 (by decide) (by decide) (by decide)), eg160, hv_up_ne _ _ (hnj.2 6 (by decide)), eg158, hv_up_ne _ _ (hnj.2 6 (by decide)), eg155, hv_up_ne _ _ (hnj.1 6 13 (by decide) (by decide) (by decide)), eg149, hv_up_ne _ _ (hnj.1 6 12 (by decide) (by decide) (by decide))]; exact hq144
                                      have hq172 : g163 (a 7) = some (.inl (cA 0, 100, .inl (upd (wA V 3) c9 ((size.toInt64 - ((v).1)).toInt32)))) := by rw [eg163, hv_up_ne _ _ (hnj.1 7 2 (by decide) (by decide) (by decide)), eg160, hv_up_ne _ _ (hnj.2 7 (by decide)), eg158, hv_up_ne _ _ (hnj.2 7 (by decide)), eg155, hv_up_ne _ _ (hnj.1 7 13 (by decide) (by decide) (by decide)), eg149, hv_up_ne _ _ (hnj.1 7 12 (by decide) (by decide) (by decide)), eg143, hv_up_ne _ _ (hnj.1 7 6 (by decide) (by decide) (by decide)), eg139, hv_up_ne _ _ (hnj.1 7 5 (by decide) (by decide) (by decide)), eg135, hv_up_ne _ _ (hnj.1 7 4 (by decide) (by decide) (by decide)), eg131, hv_up_ne _ _ (hnj.1 7 3 (by decide) (by decide) (by decide)), eg127, hv_up_ne _ _ (hnj.1 7 2 (by decide) (by decide) (by decide))]; exact ha123
                                      have hq173 : g163 (a 8) = some (.inl (cA 0, 100, .inl (upd (wA V 4) c9 ((otF (size.toInt64 - ((v).1)) ((v).2.2.2.2.1, (v).2.2.2.2.2)).1)))) := by rw [eg163, hv_up_ne _ _ (hnj.1 8 2 (by decide) (by decide) (by decide)), eg160, hv_up_ne _ _ (hnj.2 8 (by decide)), eg158, hv_up_ne _ _ (hnj.2 8 (by decide)), eg155, hv_up_ne _ _ (hnj.1 8 13 (by decide) (by decide) (by decide)), eg149, hv_up_ne _ _ (hnj.1 8 12 (by decide) (by decide) (by decide)), eg143, hv_up_ne _ _ (hnj.1 8 6 (by decide) (by decide) (by decide)), eg139, hv_up_ne _ _ (hnj.1 8 5 (by decide) (by decide) (by decide)), eg135, hv_up_ne _ _ (hnj.1 8 4 (by decide) (by decide) (by decide)), eg131, hv_up_ne _ _ (hnj.1 8 3 (by decide) (by decide) (by decide)), eg127, hv_up_ne _ _ (hnj.1 8 2 (by decide) (by decide) (by decide))]; exact hb123
                                      have hq174 : g163 (a 9) = some (.inl (cA 0, 100, .inl (upd (wA V 5) c9 ((otF (size.toInt64 - ((v).1)) ((v).2.2.2.2.1, (v).2.2.2.2.2)).2)))) := by rw [eg163, hv_up_ne _ _ (hnj.1 9 2 (by decide) (by decide) (by decide)), eg160, hv_up_ne _ _ (hnj.2 9 (by decide)), eg158, hv_up_ne _ _ (hnj.2 9 (by decide)), eg155, hv_up_ne _ _ (hnj.1 9 13 (by decide) (by decide) (by decide)), eg149, hv_up_ne _ _ (hnj.1 9 12 (by decide) (by decide) (by decide)), eg143, hv_up_ne _ _ (hnj.1 9 6 (by decide) (by decide) (by decide)), eg139, hv_up_ne _ _ (hnj.1 9 5 (by decide) (by decide) (by decide)), eg135, hv_up_ne _ _ (hnj.1 9 4 (by decide) (by decide) (by decide)), eg131, hv_up_ne _ _ (hnj.1 9 3 (by decide) (by decide) (by decide)), eg127, hv_up_ne _ _ (hnj.1 9 2 (by decide) (by decide) (by decide))]; exact hc123
                                      have hq175 : g163 (a 10) = some (.inl (cA 0, 100, .inl (upd (wA V 6) c9 (baM (size.toInt64 - ((v).1)) (otF (size.toInt64 - ((v).1)) ((v).2.2.2.2.1, (v).2.2.2.2.2)))))) := by rw [eg163, hv_up_ne _ _ (hnj.1 10 2 (by decide) (by decide) (by decide)), eg160, hv_up_ne _ _ (hnj.2 10 (by decide)), eg158, hv_up_ne _ _ (hnj.2 10 (by decide)), eg155, hv_up_ne _ _ (hnj.1 10 13 (by decide) (by decide) (by decide)), eg149, hv_up_ne _ _ (hnj.1 10 12 (by decide) (by decide) (by decide)), eg143, hv_up_ne _ _ (hnj.1 10 6 (by decide) (by decide) (by decide)), eg139, hv_up_ne _ _ (hnj.1 10 5 (by decide) (by decide) (by decide)), eg135, hv_up_ne _ _ (hnj.1 10 4 (by decide) (by decide) (by decide)), eg131, hv_up_ne _ _ (hnj.1 10 3 (by decide) (by decide) (by decide)), eg127, hv_up_ne _ _ (hnj.1 10 2 (by decide) (by decide) (by decide))]; exact hd123
                                      have hq176 : g163 (a 11) = some (.inl (cA 0, 100, .inl (upd (wA V 7) c9 (ovM (size.toInt64 - ((v).1)) (otF (size.toInt64 - ((v).1)) ((v).2.2.2.2.1, (v).2.2.2.2.2)))))) := by rw [eg163, hv_up_ne _ _ (hnj.1 11 2 (by decide) (by decide) (by decide)), eg160, hv_up_ne _ _ (hnj.2 11 (by decide)), eg158, hv_up_ne _ _ (hnj.2 11 (by decide)), eg155, hv_up_ne _ _ (hnj.1 11 13 (by decide) (by decide) (by decide)), eg149, hv_up_ne _ _ (hnj.1 11 12 (by decide) (by decide) (by decide)), eg143, hv_up_ne _ _ (hnj.1 11 6 (by decide) (by decide) (by decide)), eg139, hv_up_ne _ _ (hnj.1 11 5 (by decide) (by decide) (by decide)), eg135, hv_up_ne _ _ (hnj.1 11 4 (by decide) (by decide) (by decide)), eg131, hv_up_ne _ _ (hnj.1 11 3 (by decide) (by decide) (by decide)), eg127, hv_up_ne _ _ (hnj.1 11 2 (by decide) (by decide) (by decide))]; exact he123
                                      have hq177 : g163 (a 12) = some (.inl (cA 0, 100, .inl (upd (wA V 8) c9 ((dL V s9 (e9 - s9)) + 1)))) := by rw [eg163, hv_up_ne _ _ (hnj.1 12 2 (by decide) (by decide) (by decide)), eg160, hv_up_ne _ _ (hnj.2 12 (by decide)), eg158, hv_up_ne _ _ (hnj.2 12 (by decide)), eg155, hv_up_ne _ _ (hnj.1 12 13 (by decide) (by decide) (by decide))]; exact hq150
                                      have hq178 : g163 (a 13) = some (.inl (cA 0, 100, .inl (upd (wA V 9) c9 (cA9 V s9 (e9 - s9))))) := by rw [eg163, hv_up_ne _ _ (hnj.1 13 2 (by decide) (by decide) (by decide)), eg160, hv_up_ne _ _ (hnj.2 13 (by decide)), eg158, hv_up_ne _ _ (hnj.2 13 (by decide))]; exact hq156
                                      have hq179 : g163 (a 14) = some (.inl (cA 1, 4, .inr (.inl (v).2.2.2.2.1))) := by rw [eg163, hv_up_ne _ _ (hnj.1 14 2 (by decide) (by decide) (by decide)), eg160, hv_up_ne _ _ (hnj.2 14 (by decide)), eg158, hv_up_ne _ _ (hnj.2 14 (by decide)), eg155, hv_up_ne _ _ (hnj.1 14 13 (by decide) (by decide) (by decide)), eg149, hv_up_ne _ _ (hnj.1 14 12 (by decide) (by decide) (by decide)), eg143, hv_up_ne _ _ (hnj.1 14 6 (by decide) (by decide) (by decide)), eg139, hv_up_ne _ _ (hnj.1 14 5 (by decide) (by decide) (by decide)), eg135, hv_up_ne _ _ (hnj.1 14 4 (by decide) (by decide) (by decide)), eg131, hv_up_ne _ _ (hnj.1 14 3 (by decide) (by decide) (by decide)), eg127, hv_up_ne _ _ (hnj.1 14 2 (by decide) (by decide) (by decide)), ho9123 _ (hnj.1 14 7 (by decide) (by decide) (by decide)) (hnj.1 14 8 (by decide) (by decide) (by decide)) (hnj.1 14 9 (by decide) (by decide) (by decide)) (hnj.1 14 10 (by decide) (by decide) (by decide)) (hnj.1 14 11 (by decide) (by decide) (by decide))]; exact hq120
                                      have hq180 : g163 (a 15) = some (.inl (cA 1, 4, .inr (.inl (v).2.2.2.2.2))) := by rw [eg163, hv_up_ne _ _ (hnj.1 15 2 (by decide) (by decide) (by decide)), eg160, hv_up_ne _ _ (hnj.2 15 (by decide)), eg158, hv_up_ne _ _ (hnj.2 15 (by decide)), eg155, hv_up_ne _ _ (hnj.1 15 13 (by decide) (by decide) (by decide)), eg149, hv_up_ne _ _ (hnj.1 15 12 (by decide) (by decide) (by decide)), eg143, hv_up_ne _ _ (hnj.1 15 6 (by decide) (by decide) (by decide)), eg139, hv_up_ne _ _ (hnj.1 15 5 (by decide) (by decide) (by decide)), eg135, hv_up_ne _ _ (hnj.1 15 4 (by decide) (by decide) (by decide)), eg131, hv_up_ne _ _ (hnj.1 15 3 (by decide) (by decide) (by decide)), eg127, hv_up_ne _ _ (hnj.1 15 2 (by decide) (by decide) (by decide)), ho9123 _ (hnj.1 15 7 (by decide) (by decide) (by decide)) (hnj.1 15 8 (by decide) (by decide) (by decide)) (hnj.1 15 9 (by decide) (by decide) (by decide)) (hnj.1 15 10 (by decide) (by decide) (by decide)) (hnj.1 15 11 (by decide) (by decide) (by decide))]; exact hq121
                                      have hat : atM V bel how size gr s9 (e9 - s9) v = fun j => [((((v).1) + (size.toInt64 - ((v).1))).toInt32), (((v).2.2.1).toInt32), (((v).2.2.2.1).toInt32), (size.toInt64 - ((v).1)).toInt32, (otF (size.toInt64 - ((v).1)) ((v).2.2.2.2.1, (v).2.2.2.2.2)).1, (otF (size.toInt64 - ((v).1)) ((v).2.2.2.2.1, (v).2.2.2.2.2)).2, baM (size.toInt64 - ((v).1)) (otF (size.toInt64 - ((v).1)) ((v).2.2.2.2.1, (v).2.2.2.2.2)), ovM (size.toInt64 - ((v).1)) (otF (size.toInt64 - ((v).1)) ((v).2.2.2.2.1, (v).2.2.2.2.2)), ((dL V s9 (e9 - s9)) + 1), (cA9 V s9 (e9 - s9))].getD j 0 := by funext j9; simp only [atM, hln, hex, hun]; simp only [k99, if_true, if_false, Bool.false_eq_true]
                                      exact hv_iret hE hr hlocks hI hK (v := nI c9) ((show _ ∨ _ by rw [← ev, ← eG]; exact Or.inr (Or.inr (Or.inr ⟨(by simp [okPack, c2, n2, c7, n7, k15, k24]), hcc, c46, by rw [hgd, k172, k180]; simpa using k201, rfl, ⟨_, (((v).1) + (size.toInt64 - ((v).1)), (v).2.1, (v).2.2.1, (v).2.2.2.1, (v).2.2.2.2.1, (v).2.2.2.2.2), by rw [← nI_1]; exact hq165, hq179, hq180⟩, by rw [hat]; exact ⟨hq166, hq167, by rw [← pkW_F]; exact hq164, by rw [← pkW_B]; exact hq168, fun j hj => match j, hj with | 0, _ => hq169 | 1, _ => hq170 | 2, _ => hq171 | 3, _ => hq172 | 4, _ => hq173 | 5, _ => hq174 | 6, _ => hq175 | 7, _ => hq176 | 8, _ => hq177 | 9, _ => hq178 | j + 10, h9 => absurd h9 (by omega)⟩, fun z z1 hz => by rw [eg163, hv_up_ne _ _ (hz 2 (by decide) (by decide)), eg160, hv_up_ne _ _ z1, eg158, hv_up_ne _ _ z1, eg155, hv_up_ne _ _ (hz 13 (by decide) (by decide)), eg149, hv_up_ne _ _ (hz 12 (by decide) (by decide)), eg143, hv_up_ne _ _ (hz 6 (by decide) (by decide)), eg139, hv_up_ne _ _ (hz 5 (by decide) (by decide)), eg135, hv_up_ne _ _ (hz 4 (by decide) (by decide)), eg131, hv_up_ne _ _ (hz 3 (by decide) (by decide)), eg127, hv_up_ne _ _ (hz 2 (by decide) (by decide)), ho9123 _ (hz 7 (by decide) (by decide)) (hz 8 (by decide) (by decide)) (hz 9 (by decide) (by decide)) (hz 10 (by decide) (by decide)) (hz 11 (by decide) (by decide)), ho9118 _ z1, eg116, hv_up_ne _ _ z1]; exact hfo z z1 (hz 14 (by decide) (by decide)) (hz 15 (by decide) (by decide))⟩)))) (by decide) (by decide) d_Mo_pack_359
                                    · skip
                                      have k274 := b2i_t c274
                                      exact absurd k274 (by rw [k99]; decide)
                                  · skip
                                    have k251 := b2i_t c251
                                    exact absurd k251 (by rw [k99]; decide)
                                · skip
                                  have k201 := b2i_f c201
                                  refine lv_aload_n hx hb d_Mo_pack_204 rfl (lv_at hl 1 rfl) ?_
                                  refine lv_iconst (v := 3) hx hb d_Mo_pack_205 (by decide) ?_
                                  refine hv_put hE k_Mo hI 0 (by decide) w516 hg118 rfl rfl rfl (Nat.le_of_ble_eq_true rfl) d_Mo_pack_206 (fun H locs hI => ?_)
                                  obtain ⟨g181, eg181⟩ : ∃ z : hv_M, z = hv_up g119 mo (moE a 3 (nI s9) (nI e9) (nI c9) (true && sz (((v).1) + (size.toInt64 - ((v).1)))) (((v).1) + (size.toInt64 - ((v).1))) ((v).2.1) ((v).2.2.1) ((v).2.2.2.1) md) := ⟨_, rfl⟩
                                  have hI : hv_I D CL b0 g181 s.heap H locs := by rw [eg181]; exact hI
                                  have hq182 : g181 mo = some (moE a 3 (nI s9) (nI e9) (nI c9) (true && sz (((v).1) + (size.toInt64 - ((v).1)))) (((v).1) + (size.toInt64 - ((v).1))) ((v).2.1) ((v).2.2.1) ((v).2.2.2.1) md) := by rw [eg181]; exact hv_up_self _ _ _
                                  refine lv_iconst (v := 0) hx hb d_Mo_pack_209 (by decide) ?_
                                  have hq183 : g181 (a 14) = some (.inl (cA 1, 4, .inr (.inl (v).2.2.2.2.1))) := by rw [eg181, hv_up_ne _ _ (hnj.2 14 (by decide)), ho9118 _ (hnj.2 14 (by decide)), eg116, hv_up_ne _ _ (hnj.2 14 (by decide))]; exact hs.2.1
                                  have hq184 : g181 (a 15) = some (.inl (cA 1, 4, .inr (.inl (v).2.2.2.2.2))) := by rw [eg181, hv_up_ne _ _ (hnj.2 15 (by decide)), ho9118 _ (hnj.2 15 (by decide)), eg116, hv_up_ne _ _ (hnj.2 15 (by decide))]; exact hs.2.2
                                  exact hv_iret hE hr hlocks hI hK (v := 0) ((show _ ∨ _ by rw [← ev, ← eG]; exact Or.inr (Or.inr (Or.inl ⟨(by simp [okPack, c2, n2, c7, n7, k15, k24]), hcc, c46, by rw [hgd, k172, k180]; simpa using k201, rfl, ⟨_, (((v).1) + (size.toInt64 - ((v).1)), (v).2.1, (v).2.2.1, (v).2.2.2.1, (v).2.2.2.2.1, (v).2.2.2.2.2), hq182, hq183, hq184⟩, fun z z1 z2 z3 => by rw [eg181, hv_up_ne _ _ z1, ho9118 _ z1, eg116, hv_up_ne _ _ z1]; exact hfo z z1 z2 z3⟩)))) (by decide) (by decide) d_Mo_pack_210
                        · skip
                          refine lv_lconst (v := 0) hx hb d_Mo_pack_144 (by decide) ?_
                          refine lv_goto (tgt := 165) hx hb d_Mo_pack_145 (by decide) ?_
                          refine lv_lstore (lv' := [(5, .long 0), (0, .ref mo), (1, .int (b2i bel)), (2, .int how), (3, .int size), (4, .int gr)]) hx hb d_Mo_pack_165 hl (by decide) rfl (fun ls hl => ?_)
                          have hln : lnM bel gr v = (v).1 := by simp only [lnM, k99, and_true, true_and, and_false, false_and, if_true, if_false, Bool.false_eq_true]
                          have hun : unM bel gr v = (v).2.2.2.1 := by simp only [unM, k99, if_true, if_false, Bool.false_eq_true]
                          have hex : exM how size ((v).1) = 0 := by simp only [exM, c141, if_true, if_false, show ¬ (1 : Int32) = 0 from by decide]
                          have hgd : (G && gdM bel how size gr v) = (G && sz (0) && sz (((v).1) + 0)) := by simp only [gdM, hln, hex]; simp [k99, Bool.and_assoc]
                          refine lv_aload_n hx hb d_Mo_pack_167 rfl (lv_at hl 1 rfl) ?_
                          refine lv_aload_n hx hb d_Mo_pack_168 rfl (lv_at hl 1 rfl) ?_
                          refine hv_get hE k_Mo hI 18 (by decide) w534 hs.1 rfl d_Mo_pack_169 ?_
                          refine lv_if_eq (tgt := 187) hx hb d_Mo_pack_172 (by decide) (fun c172 => ?_) (fun c172 => ?_)
                          · skip
                            have k172 := b2i_f c172
                            refine lv_iconst (v := 0) hx hb d_Mo_pack_187 (by decide) ?_
                            refine hv_put hE k_Mo hI 18 (by decide) w534 hs.1 rfl rfl rfl (Nat.le_of_ble_eq_true rfl) d_Mo_pack_188 (fun H locs hI => ?_)
                            obtain ⟨g185, eg185⟩ : ∃ z : hv_M, z = hv_up g mo (moE a 0 (nI s9) (nI e9) (nI c9) false ((v).1) ((v).2.1) ((v).2.2.1) ((v).2.2.2.1) md) := ⟨_, rfl⟩
                            have hI : hv_I D CL b0 g185 s.heap H locs := by rw [eg185]; exact hI
                            have hq186 : g185 mo = some (moE a 0 (nI s9) (nI e9) (nI c9) false ((v).1) ((v).2.1) ((v).2.2.1) ((v).2.2.2.1) md) := by rw [eg185]; exact hv_up_self _ _ _
                            refine lv_aload_n hx hb d_Mo_pack_191 rfl (lv_at hl 1 rfl) ?_
                            refine lv_lload hx hb d_Mo_pack_192 (lv_at hl 0 rfl) ?_
                            refine hv_V (As := [.long 0]) (rest := []) hE hml hK hI (c_Mo_grow l hl0 b0 D cA g185 mo a 0 (nI s9) (nI e9) (nI c9) false ((v).1) ((v).2.1) ((v).2.2.1) ((v).2.2.2.1) md 0 hq186 hnj) cd_Mo_grow w684 w686 ws26 hq186 rfl rfl hl.1 (Nat.le_of_ble_eq_true rfl) d_Mo_pack_194 ⟨by decide, by decide⟩ ⟨by decide, by decide⟩ (fun v9 g188 H locs hp hI => ?_) (fun q9 E9 ce9 g9 H locs hp => hp.elim)
                            obtain ⟨hv, hg187, ho9187⟩ := hp
                            rw [hv]
                            refine W.eq (g2 := F0 m 197 ls []) rfl ?_
                            refine lv_aload_n hx hb d_Mo_pack_197 rfl (lv_at hl 1 rfl) ?_
                            refine hv_get hE k_Mo hI 18 (by decide) w534 hg187 rfl d_Mo_pack_198 ?_
                            refine lv_if_ne (tgt := 211) hx hb d_Mo_pack_201 (by decide) (fun c201 => ?_) (fun c201 => ?_)
                            · skip
                              have k201 := b2i_t c201
                              exact absurd k201 (by simp)
                            · skip
                              have k201 := b2i_f c201
                              refine lv_aload_n hx hb d_Mo_pack_204 rfl (lv_at hl 1 rfl) ?_
                              refine lv_iconst (v := 3) hx hb d_Mo_pack_205 (by decide) ?_
                              refine hv_put hE k_Mo hI 0 (by decide) w516 hg187 rfl rfl rfl (Nat.le_of_ble_eq_true rfl) d_Mo_pack_206 (fun H locs hI => ?_)
                              obtain ⟨g189, eg189⟩ : ∃ z : hv_M, z = hv_up g188 mo (moE a 3 (nI s9) (nI e9) (nI c9) (false && sz (((v).1) + 0)) (((v).1) + 0) ((v).2.1) ((v).2.2.1) ((v).2.2.2.1) md) := ⟨_, rfl⟩
                              have hI : hv_I D CL b0 g189 s.heap H locs := by rw [eg189]; exact hI
                              have hq190 : g189 mo = some (moE a 3 (nI s9) (nI e9) (nI c9) (false && sz (((v).1) + 0)) (((v).1) + 0) ((v).2.1) ((v).2.2.1) ((v).2.2.2.1) md) := by rw [eg189]; exact hv_up_self _ _ _
                              refine lv_iconst (v := 0) hx hb d_Mo_pack_209 (by decide) ?_
                              have hq191 : g189 (a 14) = some (.inl (cA 1, 4, .inr (.inl (v).2.2.2.2.1))) := by rw [eg189, hv_up_ne _ _ (hnj.2 14 (by decide)), ho9187 _ (hnj.2 14 (by decide)), eg185, hv_up_ne _ _ (hnj.2 14 (by decide))]; exact hs.2.1
                              have hq192 : g189 (a 15) = some (.inl (cA 1, 4, .inr (.inl (v).2.2.2.2.2))) := by rw [eg189, hv_up_ne _ _ (hnj.2 15 (by decide)), ho9187 _ (hnj.2 15 (by decide)), eg185, hv_up_ne _ _ (hnj.2 15 (by decide))]; exact hs.2.2
                              exact hv_iret hE hr hlocks hI hK (v := 0) ((show _ ∨ _ by rw [← ev, ← eG]; exact Or.inr (Or.inr (Or.inl ⟨(by simp [okPack, c2, n2, c7, n7, k15, k24]), hcc, c46, by rw [hgd]; simp [k172], rfl, ⟨_, (((v).1) + 0, (v).2.1, (v).2.2.1, (v).2.2.2.1, (v).2.2.2.2.1, (v).2.2.2.2.2), hq190, hq191, hq192⟩, fun z z1 z2 z3 => by rw [eg189, hv_up_ne _ _ z1, ho9187 _ z1, eg185, hv_up_ne _ _ z1]; exact hfo z z1 z2 z3⟩)))) (by decide) (by decide) d_Mo_pack_210
                          · skip
                            have k172 := b2i_t c172
                            refine lv_lload hx hb d_Mo_pack_175 (lv_at hl 0 rfl) ?_
                            refine hv_Sp (As := [.long 0]) (rest := [.ref mo]) hE hml hK hI (c_Mo_isSize l hl0 b0 D cA g 0) cd_Mo_isSize w608 w609 rfl rfl rfl hl.1 (Nat.le_of_ble_eq_true rfl) d_Mo_pack_177 ⟨by decide, by decide⟩ ⟨by decide, by decide⟩ (fun H locs hI => ?_)
                            refine W.eq (g2 := F0 m 180 ls [.int (b2i (sz 0)), .ref mo]) rfl ?_
                            refine lv_if_eq (tgt := 187) hx hb d_Mo_pack_180 (by decide) (fun c180 => ?_) (fun c180 => ?_)
                            · skip
                              have k180 := b2i_f c180
                              refine lv_iconst (v := 0) hx hb d_Mo_pack_187 (by decide) ?_
                              refine hv_put hE k_Mo hI 18 (by decide) w534 hs.1 rfl rfl rfl (Nat.le_of_ble_eq_true rfl) d_Mo_pack_188 (fun H locs hI => ?_)
                              obtain ⟨g193, eg193⟩ : ∃ z : hv_M, z = hv_up g mo (moE a 0 (nI s9) (nI e9) (nI c9) false ((v).1) ((v).2.1) ((v).2.2.1) ((v).2.2.2.1) md) := ⟨_, rfl⟩
                              have hI : hv_I D CL b0 g193 s.heap H locs := by rw [eg193]; exact hI
                              have hq194 : g193 mo = some (moE a 0 (nI s9) (nI e9) (nI c9) false ((v).1) ((v).2.1) ((v).2.2.1) ((v).2.2.2.1) md) := by rw [eg193]; exact hv_up_self _ _ _
                              refine lv_aload_n hx hb d_Mo_pack_191 rfl (lv_at hl 1 rfl) ?_
                              refine lv_lload hx hb d_Mo_pack_192 (lv_at hl 0 rfl) ?_
                              refine hv_V (As := [.long 0]) (rest := []) hE hml hK hI (c_Mo_grow l hl0 b0 D cA g193 mo a 0 (nI s9) (nI e9) (nI c9) false ((v).1) ((v).2.1) ((v).2.2.1) ((v).2.2.2.1) md 0 hq194 hnj) cd_Mo_grow w684 w686 ws26 hq194 rfl rfl hl.1 (Nat.le_of_ble_eq_true rfl) d_Mo_pack_194 ⟨by decide, by decide⟩ ⟨by decide, by decide⟩ (fun v9 g196 H locs hp hI => ?_) (fun q9 E9 ce9 g9 H locs hp => hp.elim)
                              obtain ⟨hv, hg195, ho9195⟩ := hp
                              rw [hv]
                              refine W.eq (g2 := F0 m 197 ls []) rfl ?_
                              refine lv_aload_n hx hb d_Mo_pack_197 rfl (lv_at hl 1 rfl) ?_
                              refine hv_get hE k_Mo hI 18 (by decide) w534 hg195 rfl d_Mo_pack_198 ?_
                              refine lv_if_ne (tgt := 211) hx hb d_Mo_pack_201 (by decide) (fun c201 => ?_) (fun c201 => ?_)
                              · skip
                                have k201 := b2i_t c201
                                exact absurd k201 (by simp)
                              · skip
                                have k201 := b2i_f c201
                                refine lv_aload_n hx hb d_Mo_pack_204 rfl (lv_at hl 1 rfl) ?_
                                refine lv_iconst (v := 3) hx hb d_Mo_pack_205 (by decide) ?_
                                refine hv_put hE k_Mo hI 0 (by decide) w516 hg195 rfl rfl rfl (Nat.le_of_ble_eq_true rfl) d_Mo_pack_206 (fun H locs hI => ?_)
                                obtain ⟨g197, eg197⟩ : ∃ z : hv_M, z = hv_up g196 mo (moE a 3 (nI s9) (nI e9) (nI c9) (false && sz (((v).1) + 0)) (((v).1) + 0) ((v).2.1) ((v).2.2.1) ((v).2.2.2.1) md) := ⟨_, rfl⟩
                                have hI : hv_I D CL b0 g197 s.heap H locs := by rw [eg197]; exact hI
                                have hq198 : g197 mo = some (moE a 3 (nI s9) (nI e9) (nI c9) (false && sz (((v).1) + 0)) (((v).1) + 0) ((v).2.1) ((v).2.2.1) ((v).2.2.2.1) md) := by rw [eg197]; exact hv_up_self _ _ _
                                refine lv_iconst (v := 0) hx hb d_Mo_pack_209 (by decide) ?_
                                have hq199 : g197 (a 14) = some (.inl (cA 1, 4, .inr (.inl (v).2.2.2.2.1))) := by rw [eg197, hv_up_ne _ _ (hnj.2 14 (by decide)), ho9195 _ (hnj.2 14 (by decide)), eg193, hv_up_ne _ _ (hnj.2 14 (by decide))]; exact hs.2.1
                                have hq200 : g197 (a 15) = some (.inl (cA 1, 4, .inr (.inl (v).2.2.2.2.2))) := by rw [eg197, hv_up_ne _ _ (hnj.2 15 (by decide)), ho9195 _ (hnj.2 15 (by decide)), eg193, hv_up_ne _ _ (hnj.2 15 (by decide))]; exact hs.2.2
                                exact hv_iret hE hr hlocks hI hK (v := 0) ((show _ ∨ _ by rw [← ev, ← eG]; exact Or.inr (Or.inr (Or.inl ⟨(by simp [okPack, c2, n2, c7, n7, k15, k24]), hcc, c46, by rw [hgd]; simp [k172, k180], rfl, ⟨_, (((v).1) + 0, (v).2.1, (v).2.2.1, (v).2.2.2.1, (v).2.2.2.2.1, (v).2.2.2.2.2), hq198, hq199, hq200⟩, fun z z1 z2 z3 => by rw [eg197, hv_up_ne _ _ z1, ho9195 _ z1, eg193, hv_up_ne _ _ z1]; exact hfo z z1 z2 z3⟩)))) (by decide) (by decide) d_Mo_pack_210
                            · skip
                              have k180 := b2i_t c180
                              refine lv_iconst (v := 1) hx hb d_Mo_pack_183 (by decide) ?_
                              refine lv_goto (tgt := 188) hx hb d_Mo_pack_184 (by decide) ?_
                              refine hv_put hE k_Mo hI 18 (by decide) w534 hs.1 rfl rfl rfl (Nat.le_of_ble_eq_true rfl) d_Mo_pack_188 (fun H locs hI => ?_)
                              obtain ⟨g201, eg201⟩ : ∃ z : hv_M, z = hv_up g mo (moE a 0 (nI s9) (nI e9) (nI c9) true ((v).1) ((v).2.1) ((v).2.2.1) ((v).2.2.2.1) md) := ⟨_, rfl⟩
                              have hI : hv_I D CL b0 g201 s.heap H locs := by rw [eg201]; exact hI
                              have hq202 : g201 mo = some (moE a 0 (nI s9) (nI e9) (nI c9) true ((v).1) ((v).2.1) ((v).2.2.1) ((v).2.2.2.1) md) := by rw [eg201]; exact hv_up_self _ _ _
                              refine lv_aload_n hx hb d_Mo_pack_191 rfl (lv_at hl 1 rfl) ?_
                              refine lv_lload hx hb d_Mo_pack_192 (lv_at hl 0 rfl) ?_
                              refine hv_V (As := [.long 0]) (rest := []) hE hml hK hI (c_Mo_grow l hl0 b0 D cA g201 mo a 0 (nI s9) (nI e9) (nI c9) true ((v).1) ((v).2.1) ((v).2.2.1) ((v).2.2.2.1) md 0 hq202 hnj) cd_Mo_grow w684 w686 ws26 hq202 rfl rfl hl.1 (Nat.le_of_ble_eq_true rfl) d_Mo_pack_194 ⟨by decide, by decide⟩ ⟨by decide, by decide⟩ (fun v9 g204 H locs hp hI => ?_) (fun q9 E9 ce9 g9 H locs hp => hp.elim)
                              obtain ⟨hv, hg203, ho9203⟩ := hp
                              rw [hv]
                              refine W.eq (g2 := F0 m 197 ls []) rfl ?_
                              refine lv_aload_n hx hb d_Mo_pack_197 rfl (lv_at hl 1 rfl) ?_
                              refine hv_get hE k_Mo hI 18 (by decide) w534 hg203 rfl d_Mo_pack_198 ?_
                              refine lv_if_ne (tgt := 211) hx hb d_Mo_pack_201 (by decide) (fun c201 => ?_) (fun c201 => ?_)
                              · skip
                                have k201 := b2i_t c201
                                refine lv_aload_n hx hb d_Mo_pack_211 rfl (lv_at hl 1 rfl) ?_
                                refine hv_get hE k_Mo hI 5 (by decide) w521 hg203 rfl d_Mo_pack_212 ?_
                                refine lv_istore (lv' := [(7, .int (nI c9)), (5, .long 0), (0, .ref mo), (1, .int (b2i bel)), (2, .int how), (3, .int size), (4, .int gr)]) hx hb d_Mo_pack_215 hl (by decide) rfl (fun ls hl => ?_)
                                refine lv_aload_n hx hb d_Mo_pack_217 rfl (lv_at hl 2 rfl) ?_
                                refine lv_iload hx hb d_Mo_pack_218 (lv_at hl 0 rfl) ?_
                                refine lv_lload hx hb d_Mo_pack_220 (lv_at hl 1 rfl) ?_
                                have hq205 : g204 (a 14) = some (.inl (cA 1, 4, .inr (.inl (v).2.2.2.2.1))) := by rw [ho9203 _ (hnj.2 14 (by decide)), eg201, hv_up_ne _ _ (hnj.2 14 (by decide))]; exact hs.2.1
                                have hq206 : g204 (a 15) = some (.inl (cA 1, 4, .inr (.inl (v).2.2.2.2.2))) := by rw [ho9203 _ (hnj.2 15 (by decide)), eg201, hv_up_ne _ _ (hnj.2 15 (by decide))]; exact hs.2.2
                                have hA207 : moA cA g204 a V := ⟨by rw [ho9203 _ (hnj.2 0 (by decide)), eg201, hv_up_ne _ _ (hnj.2 0 (by decide))]; exact hAg.1, by rw [ho9203 _ (hnj.2 1 (by decide)), eg201, hv_up_ne _ _ (hnj.2 1 (by decide))]; exact hAg.2.1, by rw [ho9203 _ (hnj.2 2 (by decide)), eg201, hv_up_ne _ _ (hnj.2 2 (by decide))]; exact hAg.2.2.1, by rw [ho9203 _ (hnj.2 3 (by decide)), eg201, hv_up_ne _ _ (hnj.2 3 (by decide))]; exact hAg.2.2.2.1, fun j9 hj9 => by rw [ho9203 _ (hnj.2 (4 + j9) (by omega)), eg201, hv_up_ne _ _ (hnj.2 (4 + j9) (by omega))]; exact hAg.2.2.2.2 j9 hj9⟩
                                refine hv_V (As := [.int (nI c9), .long 0]) (rest := []) hE hml hK hI (c_Mo_setGlue l hl0 b0 D cA g204 mo a 0 (nI s9) (nI e9) (nI c9) (true && sz (((v).1) + 0)) (((v).1) + 0) ((v).2.1) ((v).2.2.1) ((v).2.2.2.1) md V ((v).2.2.2.2.1) ((v).2.2.2.2.2) 0 c9 hg203 hnj hA207 hq205 hq206 (by omega)) cd_Mo_setGlue w700 w702 ws30 hg203 rfl rfl hl.1 (Nat.le_of_ble_eq_true rfl) d_Mo_pack_222 ⟨by decide, by decide⟩ ⟨by decide, by decide⟩ (fun v9 g209 H locs hp hI => ?_) (fun q9 E9 ce9 g9 H locs hp => hp.elim)
                                obtain ⟨hv, ha208, hb208, hc208, hd208, he208, ho9208⟩ := hp
                                rw [hv]
                                refine W.eq (g2 := F0 m 225 ls []) rfl ?_
                                refine lv_aload_n hx hb d_Mo_pack_225 rfl (lv_at hl 2 rfl) ?_
                                have hq210 : g209 mo = some (moE a 0 (nI s9) (nI e9) (nI c9) (true && sz (((v).1) + 0)) (((v).1) + 0) ((v).2.1) ((v).2.2.1) ((v).2.2.2.1) md) := by rw [ho9208 _ (Ne.symm (hnj.2 7 (by decide))) (Ne.symm (hnj.2 8 (by decide))) (Ne.symm (hnj.2 9 (by decide))) (Ne.symm (hnj.2 10 (by decide))) (Ne.symm (hnj.2 11 (by decide)))]; exact hg203
                                refine hv_get hE k_Mo hI 6 (by decide) w522 hq210 rfl d_Mo_pack_226 ?_
                                refine lv_iload hx hb d_Mo_pack_229 (lv_at hl 0 rfl) ?_
                                refine lv_aload_n hx hb d_Mo_pack_231 rfl (lv_at hl 2 rfl) ?_
                                refine hv_get hE k_Mo hI 3 (by decide) w519 hq210 rfl d_Mo_pack_232 ?_
                                have hq211 : g209 (a 2) = some (.inl (cA 0, 101, .inl (fun b => nI (wF V b)))) := by rw [ho9208 _ (hnj.1 2 7 (by decide) (by decide) (by decide)) (hnj.1 2 8 (by decide) (by decide) (by decide)) (hnj.1 2 9 (by decide) (by decide) (by decide)) (hnj.1 2 10 (by decide) (by decide) (by decide)) (hnj.1 2 11 (by decide) (by decide) (by decide)), ho9203 _ (hnj.2 2 (by decide)), eg201, hv_up_ne _ _ (hnj.2 2 (by decide))]; exact hAg.2.2.1
                                refine hv_iast hE hI 0 hq211 rfl (pk_in c9 101 (by omega) rfl (by omega)) d_Mo_pack_235 (fun H locs hI => ?_)
                                rw [nI_cl (by omega)] at hI
                                obtain ⟨g212, eg212⟩ : ∃ z : hv_M, z = hv_up g209 (a 2) (.inl (cA 0, 101, .inl (upd (fun b => nI (wF V b)) c9 (nI s9)))) := ⟨_, rfl⟩
                                have hI : hv_I D CL b0 g212 s.heap H locs := by rw [eg212]; exact hI
                                have hq213 : g212 (a 2) = some (.inl (cA 0, 101, .inl (upd (fun b => nI (wF V b)) c9 (nI s9)))) := by rw [eg212]; exact hv_up_self _ _ _
                                refine lv_aload_n hx hb d_Mo_pack_236 rfl (lv_at hl 2 rfl) ?_
                                have hq214 : g212 mo = some (moE a 0 (nI s9) (nI e9) (nI c9) (true && sz (((v).1) + 0)) (((v).1) + 0) ((v).2.1) ((v).2.2.1) ((v).2.2.2.1) md) := by rw [eg212, hv_up_ne _ _ (Ne.symm (hnj.2 2 (by decide)))]; exact hq210
                                refine hv_get hE k_Mo hI 7 (by decide) w523 hq214 rfl d_Mo_pack_237 ?_
                                refine lv_iload hx hb d_Mo_pack_240 (lv_at hl 0 rfl) ?_
                                refine lv_iload_n hx hb d_Mo_pack_242 rfl (lv_at hl 3 rfl) ?_
                                have hq215 : g212 (a 3) = some (.inl (cA 2, 100, .inl (fun b => b2i (wB V b)))) := by rw [eg212, hv_up_ne _ _ (hnj.1 3 2 (by decide) (by decide) (by decide)), ho9208 _ (hnj.1 3 7 (by decide) (by decide) (by decide)) (hnj.1 3 8 (by decide) (by decide) (by decide)) (hnj.1 3 9 (by decide) (by decide) (by decide)) (hnj.1 3 10 (by decide) (by decide) (by decide)) (hnj.1 3 11 (by decide) (by decide) (by decide)), ho9203 _ (hnj.2 3 (by decide)), eg201, hv_up_ne _ _ (hnj.2 3 (by decide))]; exact hAg.2.2.2.1
                                refine hv_zast hE hI 2 hq215 rfl (pk_in c9 100 (by omega) rfl (by omega)) d_Mo_pack_243 (fun H locs hI => ?_)
                                rw [nI_cl (by omega)] at hI
                                obtain ⟨g216, eg216⟩ : ∃ z : hv_M, z = hv_up g212 (a 3) (.inl (cA 2, 100, .inl (upd (fun b => b2i (wB V b)) c9 (b2i bel)))) := ⟨_, rfl⟩
                                have hI : hv_I D CL b0 g216 s.heap H locs := by rw [eg216]; exact hI
                                have hq217 : g216 (a 3) = some (.inl (cA 2, 100, .inl (upd (fun b => b2i (wB V b)) c9 (b2i bel)))) := by rw [eg216]; exact hv_up_self _ _ _
                                refine lv_aload_n hx hb d_Mo_pack_244 rfl (lv_at hl 2 rfl) ?_
                                have hq218 : g216 mo = some (moE a 0 (nI s9) (nI e9) (nI c9) (true && sz (((v).1) + 0)) (((v).1) + 0) ((v).2.1) ((v).2.2.1) ((v).2.2.2.1) md) := by rw [eg216, hv_up_ne _ _ (Ne.symm (hnj.2 3 (by decide)))]; exact hq214
                                refine hv_get hE k_Mo hI 8 (by decide) w524 hq218 rfl d_Mo_pack_245 ?_
                                refine lv_iload hx hb d_Mo_pack_248 (lv_at hl 0 rfl) ?_
                                refine lv_iload_n hx hb d_Mo_pack_250 rfl (lv_at hl 3 rfl) ?_
                                refine lv_if_eq (tgt := 261) hx hb d_Mo_pack_251 (by decide) (fun c251 => ?_) (fun c251 => ?_)
                                · skip
                                  have k251 := b2i_f c251
                                  refine lv_aload_n hx hb d_Mo_pack_261 rfl (lv_at hl 2 rfl) ?_
                                  refine hv_get hE k_Mo hI 19 (by decide) w535 hq218 rfl d_Mo_pack_262 ?_
                                  refine lv_l2i (v := (((v).1) + 0).toInt32) hx hb d_Mo_pack_265 rfl ?_
                                  have hq219 : g216 (a 4) = some (.inl (cA 0, 100, .inl (wA V 0))) := by rw [eg216, hv_up_ne _ _ (hnj.1 4 3 (by decide) (by decide) (by decide)), eg212, hv_up_ne _ _ (hnj.1 4 2 (by decide) (by decide) (by decide)), ho9208 _ (hnj.1 4 7 (by decide) (by decide) (by decide)) (hnj.1 4 8 (by decide) (by decide) (by decide)) (hnj.1 4 9 (by decide) (by decide) (by decide)) (hnj.1 4 10 (by decide) (by decide) (by decide)) (hnj.1 4 11 (by decide) (by decide) (by decide)), ho9203 _ (hnj.2 4 (by decide)), eg201, hv_up_ne _ _ (hnj.2 4 (by decide))]; exact (hAg.2.2.2.2 0 (by decide))
                                  refine hv_iast hE hI 0 hq219 rfl (pk_in c9 100 (by omega) rfl (by omega)) d_Mo_pack_266 (fun H locs hI => ?_)
                                  rw [nI_cl (by omega)] at hI
                                  obtain ⟨g220, eg220⟩ : ∃ z : hv_M, z = hv_up g216 (a 4) (.inl (cA 0, 100, .inl (upd (wA V 0) c9 ((((v).1) + 0).toInt32)))) := ⟨_, rfl⟩
                                  have hI : hv_I D CL b0 g220 s.heap H locs := by rw [eg220]; exact hI
                                  have hq221 : g220 (a 4) = some (.inl (cA 0, 100, .inl (upd (wA V 0) c9 ((((v).1) + 0).toInt32)))) := by rw [eg220]; exact hv_up_self _ _ _
                                  refine lv_aload_n hx hb d_Mo_pack_267 rfl (lv_at hl 2 rfl) ?_
                                  have hq222 : g220 mo = some (moE a 0 (nI s9) (nI e9) (nI c9) (true && sz (((v).1) + 0)) (((v).1) + 0) ((v).2.1) ((v).2.2.1) ((v).2.2.2.1) md) := by rw [eg220, hv_up_ne _ _ (Ne.symm (hnj.2 4 (by decide)))]; exact hq218
                                  refine hv_get hE k_Mo hI 9 (by decide) w525 hq222 rfl d_Mo_pack_268 ?_
                                  refine lv_iload hx hb d_Mo_pack_271 (lv_at hl 0 rfl) ?_
                                  refine lv_iload_n hx hb d_Mo_pack_273 rfl (lv_at hl 3 rfl) ?_
                                  refine lv_if_eq (tgt := 284) hx hb d_Mo_pack_274 (by decide) (fun c274 => ?_) (fun c274 => ?_)
                                  · skip
                                    have k274 := b2i_f c274
                                    refine lv_aload_n hx hb d_Mo_pack_284 rfl (lv_at hl 2 rfl) ?_
                                    refine hv_get hE k_Mo hI 21 (by decide) w537 hq222 rfl d_Mo_pack_285 ?_
                                    refine lv_l2i (v := ((v).2.2.1).toInt32) hx hb d_Mo_pack_288 rfl ?_
                                    have hq223 : g220 (a 5) = some (.inl (cA 0, 100, .inl (wA V 1))) := by rw [eg220, hv_up_ne _ _ (hnj.1 5 4 (by decide) (by decide) (by decide)), eg216, hv_up_ne _ _ (hnj.1 5 3 (by decide) (by decide) (by decide)), eg212, hv_up_ne _ _ (hnj.1 5 2 (by decide) (by decide) (by decide)), ho9208 _ (hnj.1 5 7 (by decide) (by decide) (by decide)) (hnj.1 5 8 (by decide) (by decide) (by decide)) (hnj.1 5 9 (by decide) (by decide) (by decide)) (hnj.1 5 10 (by decide) (by decide) (by decide)) (hnj.1 5 11 (by decide) (by decide) (by decide)), ho9203 _ (hnj.2 5 (by decide)), eg201, hv_up_ne _ _ (hnj.2 5 (by decide))]; exact (hAg.2.2.2.2 1 (by decide))
                                    refine hv_iast hE hI 0 hq223 rfl (pk_in c9 100 (by omega) rfl (by omega)) d_Mo_pack_289 (fun H locs hI => ?_)
                                    rw [nI_cl (by omega)] at hI
                                    obtain ⟨g224, eg224⟩ : ∃ z : hv_M, z = hv_up g220 (a 5) (.inl (cA 0, 100, .inl (upd (wA V 1) c9 (((v).2.2.1).toInt32)))) := ⟨_, rfl⟩
                                    have hI : hv_I D CL b0 g224 s.heap H locs := by rw [eg224]; exact hI
                                    have hq225 : g224 (a 5) = some (.inl (cA 0, 100, .inl (upd (wA V 1) c9 (((v).2.2.1).toInt32)))) := by rw [eg224]; exact hv_up_self _ _ _
                                    refine lv_aload_n hx hb d_Mo_pack_290 rfl (lv_at hl 2 rfl) ?_
                                    have hq226 : g224 mo = some (moE a 0 (nI s9) (nI e9) (nI c9) (true && sz (((v).1) + 0)) (((v).1) + 0) ((v).2.1) ((v).2.2.1) ((v).2.2.2.1) md) := by rw [eg224, hv_up_ne _ _ (Ne.symm (hnj.2 5 (by decide)))]; exact hq222
                                    refine hv_get hE k_Mo hI 10 (by decide) w526 hq226 rfl d_Mo_pack_291 ?_
                                    refine lv_iload hx hb d_Mo_pack_294 (lv_at hl 0 rfl) ?_
                                    refine lv_aload_n hx hb d_Mo_pack_296 rfl (lv_at hl 2 rfl) ?_
                                    refine hv_get hE k_Mo hI 22 (by decide) w538 hq226 rfl d_Mo_pack_297 ?_
                                    refine lv_l2i (v := ((v).2.2.2.1).toInt32) hx hb d_Mo_pack_300 rfl ?_
                                    have hq227 : g224 (a 6) = some (.inl (cA 0, 100, .inl (wA V 2))) := by rw [eg224, hv_up_ne _ _ (hnj.1 6 5 (by decide) (by decide) (by decide)), eg220, hv_up_ne _ _ (hnj.1 6 4 (by decide) (by decide) (by decide)), eg216, hv_up_ne _ _ (hnj.1 6 3 (by decide) (by decide) (by decide)), eg212, hv_up_ne _ _ (hnj.1 6 2 (by decide) (by decide) (by decide)), ho9208 _ (hnj.1 6 7 (by decide) (by decide) (by decide)) (hnj.1 6 8 (by decide) (by decide) (by decide)) (hnj.1 6 9 (by decide) (by decide) (by decide)) (hnj.1 6 10 (by decide) (by decide) (by decide)) (hnj.1 6 11 (by decide) (by decide) (by decide)), ho9203 _ (hnj.2 6 (by decide)), eg201, hv_up_ne _ _ (hnj.2 6 (by decide))]; exact (hAg.2.2.2.2 2 (by decide))
                                    refine hv_iast hE hI 0 hq227 rfl (pk_in c9 100 (by omega) rfl (by omega)) d_Mo_pack_301 (fun H locs hI => ?_)
                                    rw [nI_cl (by omega)] at hI
                                    obtain ⟨g228, eg228⟩ : ∃ z : hv_M, z = hv_up g224 (a 6) (.inl (cA 0, 100, .inl (upd (wA V 2) c9 (((v).2.2.2.1).toInt32)))) := ⟨_, rfl⟩
                                    have hI : hv_I D CL b0 g228 s.heap H locs := by rw [eg228]; exact hI
                                    have hq229 : g228 (a 6) = some (.inl (cA 0, 100, .inl (upd (wA V 2) c9 (((v).2.2.2.1).toInt32)))) := by rw [eg228]; exact hv_up_self _ _ _
                                    refine lv_aload_n hx hb d_Mo_pack_302 rfl (lv_at hl 2 rfl) ?_
                                    have hq230 : g228 mo = some (moE a 0 (nI s9) (nI e9) (nI c9) (true && sz (((v).1) + 0)) (((v).1) + 0) ((v).2.1) ((v).2.2.1) ((v).2.2.2.1) md) := by rw [eg228, hv_up_ne _ _ (Ne.symm (hnj.2 6 (by decide)))]; exact hq226
                                    refine hv_get hE k_Mo hI 16 (by decide) w532 hq230 rfl d_Mo_pack_303 ?_
                                    refine lv_iload hx hb d_Mo_pack_306 (lv_at hl 0 rfl) ?_
                                    refine lv_aload_n hx hb d_Mo_pack_308 rfl (lv_at hl 2 rfl) ?_
                                    have hq231 : g228 (a 0) = some (.inl (cA 0, 10200, .inl (wK V))) := by rw [eg228, hv_up_ne _ _ (hnj.1 0 6 (by decide) (by decide) (by decide)), eg224, hv_up_ne _ _ (hnj.1 0 5 (by decide) (by decide) (by decide)), eg220, hv_up_ne _ _ (hnj.1 0 4 (by decide) (by decide) (by decide)), eg216, hv_up_ne _ _ (hnj.1 0 3 (by decide) (by decide) (by decide)), eg212, hv_up_ne _ _ (hnj.1 0 2 (by decide) (by decide) (by decide)), ho9208 _ (hnj.1 0 7 (by decide) (by decide) (by decide)) (hnj.1 0 8 (by decide) (by decide) (by decide)) (hnj.1 0 9 (by decide) (by decide) (by decide)) (hnj.1 0 10 (by decide) (by decide) (by decide)) (hnj.1 0 11 (by decide) (by decide) (by decide)), ho9203 _ (hnj.2 0 (by decide)), eg201, hv_up_ne _ _ (hnj.2 0 (by decide))]; exact hAg.1
                                    have hq232 : g228 (a 1) = some (.inl (cA 0, 51000, .inl V.2.1)) := by rw [eg228, hv_up_ne _ _ (hnj.1 1 6 (by decide) (by decide) (by decide)), eg224, hv_up_ne _ _ (hnj.1 1 5 (by decide) (by decide) (by decide)), eg220, hv_up_ne _ _ (hnj.1 1 4 (by decide) (by decide) (by decide)), eg216, hv_up_ne _ _ (hnj.1 1 3 (by decide) (by decide) (by decide)), eg212, hv_up_ne _ _ (hnj.1 1 2 (by decide) (by decide) (by decide)), ho9208 _ (hnj.1 1 7 (by decide) (by decide) (by decide)) (hnj.1 1 8 (by decide) (by decide) (by decide)) (hnj.1 1 9 (by decide) (by decide) (by decide)) (hnj.1 1 10 (by decide) (by decide) (by decide)) (hnj.1 1 11 (by decide) (by decide) (by decide)), ho9203 _ (hnj.2 1 (by decide)), eg201, hv_up_ne _ _ (hnj.2 1 (by decide))]; exact hAg.2.1
                                    have hq233 : g228 (a 12) = some (.inl (cA 0, 100, .inl (wA V 8))) := by rw [eg228, hv_up_ne _ _ (hnj.1 12 6 (by decide) (by decide) (by decide)), eg224, hv_up_ne _ _ (hnj.1 12 5 (by decide) (by decide) (by decide)), eg220, hv_up_ne _ _ (hnj.1 12 4 (by decide) (by decide) (by decide)), eg216, hv_up_ne _ _ (hnj.1 12 3 (by decide) (by decide) (by decide)), eg212, hv_up_ne _ _ (hnj.1 12 2 (by decide) (by decide) (by decide)), ho9208 _ (hnj.1 12 7 (by decide) (by decide) (by decide)) (hnj.1 12 8 (by decide) (by decide) (by decide)) (hnj.1 12 9 (by decide) (by decide) (by decide)) (hnj.1 12 10 (by decide) (by decide) (by decide)) (hnj.1 12 11 (by decide) (by decide) (by decide)), ho9203 _ (hnj.2 12 (by decide)), eg201, hv_up_ne _ _ (hnj.2 12 (by decide))]; exact (hAg.2.2.2.2 8 (by decide))
                                    refine hv_Vp (As := []) (rest := [.int (nI c9), .ref (a 12)]) hE hml hK hI (c_Mo_deepest l hl0 b0 D cA g228 mo a 0 s9 e9 (nI c9) (true && sz (((v).1) + 0)) (((v).1) + 0) ((v).2.1) ((v).2.2.1) ((v).2.2.2.1) md V hq230 hnj hq231 hq232 hq233 hse he9 hit) cd_Mo_deepest w660 w662 ws20 hq230 rfl rfl rfl rfl hl.1 (Nat.le_of_ble_eq_true rfl) d_Mo_pack_309 ⟨by decide, by decide⟩ ⟨by decide, by decide⟩ (fun H locs hI => ?_)
                                    refine W.eq (g2 := F0 m 312 ls [.int (dL V s9 (e9 - s9)), .int (nI c9), .ref (a 12)]) rfl ?_
                                    refine lv_iconst (v := 1) hx hb d_Mo_pack_312 (by decide) ?_
                                    refine lv_iadd hx hb d_Mo_pack_313 ?_
                                    refine hv_iast hE hI 0 hq233 rfl (pk_in c9 100 (by omega) rfl (by omega)) d_Mo_pack_314 (fun H locs hI => ?_)
                                    rw [nI_cl (by omega)] at hI
                                    obtain ⟨g234, eg234⟩ : ∃ z : hv_M, z = hv_up g228 (a 12) (.inl (cA 0, 100, .inl (upd (wA V 8) c9 ((dL V s9 (e9 - s9)) + 1)))) := ⟨_, rfl⟩
                                    have hI : hv_I D CL b0 g234 s.heap H locs := by rw [eg234]; exact hI
                                    have hq235 : g234 (a 12) = some (.inl (cA 0, 100, .inl (upd (wA V 8) c9 ((dL V s9 (e9 - s9)) + 1)))) := by rw [eg234]; exact hv_up_self _ _ _
                                    refine lv_aload_n hx hb d_Mo_pack_315 rfl (lv_at hl 2 rfl) ?_
                                    have hq236 : g234 mo = some (moE a 0 (nI s9) (nI e9) (nI c9) (true && sz (((v).1) + 0)) (((v).1) + 0) ((v).2.1) ((v).2.2.1) ((v).2.2.2.1) md) := by rw [eg234, hv_up_ne _ _ (Ne.symm (hnj.2 12 (by decide)))]; exact hq230
                                    refine hv_get hE k_Mo hI 17 (by decide) w533 hq236 rfl d_Mo_pack_316 ?_
                                    refine lv_iload hx hb d_Mo_pack_319 (lv_at hl 0 rfl) ?_
                                    refine lv_aload_n hx hb d_Mo_pack_321 rfl (lv_at hl 2 rfl) ?_
                                    have hq237 : g234 (a 0) = some (.inl (cA 0, 10200, .inl (wK V))) := by rw [eg234, hv_up_ne _ _ (hnj.1 0 12 (by decide) (by decide) (by decide))]; exact hq231
                                    have hq238 : g234 (a 1) = some (.inl (cA 0, 51000, .inl V.2.1)) := by rw [eg234, hv_up_ne _ _ (hnj.1 1 12 (by decide) (by decide) (by decide))]; exact hq232
                                    have hq239 : g234 (a 13) = some (.inl (cA 0, 100, .inl (wA V 9))) := by rw [eg234, hv_up_ne _ _ (hnj.1 13 12 (by decide) (by decide) (by decide)), eg228, hv_up_ne _ _ (hnj.1 13 6 (by decide) (by decide) (by decide)), eg224, hv_up_ne _ _ (hnj.1 13 5 (by decide) (by decide) (by decide)), eg220, hv_up_ne _ _ (hnj.1 13 4 (by decide) (by decide) (by decide)), eg216, hv_up_ne _ _ (hnj.1 13 3 (by decide) (by decide) (by decide)), eg212, hv_up_ne _ _ (hnj.1 13 2 (by decide) (by decide) (by decide)), ho9208 _ (hnj.1 13 7 (by decide) (by decide) (by decide)) (hnj.1 13 8 (by decide) (by decide) (by decide)) (hnj.1 13 9 (by decide) (by decide) (by decide)) (hnj.1 13 10 (by decide) (by decide) (by decide)) (hnj.1 13 11 (by decide) (by decide) (by decide)), ho9203 _ (hnj.2 13 (by decide)), eg201, hv_up_ne _ _ (hnj.2 13 (by decide))]; exact (hAg.2.2.2.2 9 (by decide))
                                    refine hv_Vp (As := []) (rest := [.int (nI c9), .ref (a 13)]) hE hml hK hI (c_Mo_countAll l hl0 b0 D cA g234 mo a 0 s9 e9 (nI c9) (true && sz (((v).1) + 0)) (((v).1) + 0) ((v).2.1) ((v).2.2.1) ((v).2.2.2.1) md V hq236 hnj hq237 hq238 hq239 hse he9 hit) cd_Mo_countAll w714 w716 ws31 hq236 rfl rfl rfl rfl hl.1 (Nat.le_of_ble_eq_true rfl) d_Mo_pack_322 ⟨by decide, by decide⟩ ⟨by decide, by decide⟩ (fun H locs hI => ?_)
                                    refine W.eq (g2 := F0 m 325 ls [.int (cA9 V s9 (e9 - s9)), .int (nI c9), .ref (a 13)]) rfl ?_
                                    refine hv_iast hE hI 0 hq239 rfl (pk_in c9 100 (by omega) rfl (by omega)) d_Mo_pack_325 (fun H locs hI => ?_)
                                    rw [nI_cl (by omega)] at hI
                                    obtain ⟨g240, eg240⟩ : ∃ z : hv_M, z = hv_up g234 (a 13) (.inl (cA 0, 100, .inl (upd (wA V 9) c9 (cA9 V s9 (e9 - s9))))) := ⟨_, rfl⟩
                                    have hI : hv_I D CL b0 g240 s.heap H locs := by rw [eg240]; exact hI
                                    have hq241 : g240 (a 13) = some (.inl (cA 0, 100, .inl (upd (wA V 9) c9 (cA9 V s9 (e9 - s9))))) := by rw [eg240]; exact hv_up_self _ _ _
                                    refine lv_aload_n hx hb d_Mo_pack_326 rfl (lv_at hl 2 rfl) ?_
                                    refine lv_dup hx hb d_Mo_pack_327 rfl ?_
                                    have hq242 : g240 mo = some (moE a 0 (nI s9) (nI e9) (nI c9) (true && sz (((v).1) + 0)) (((v).1) + 0) ((v).2.1) ((v).2.2.1) ((v).2.2.2.1) md) := by rw [eg240, hv_up_ne _ _ (Ne.symm (hnj.2 13 (by decide)))]; exact hq236
                                    refine hv_get hE k_Mo hI 5 (by decide) w521 hq242 rfl d_Mo_pack_328 ?_
                                    refine lv_iconst (v := 1) hx hb d_Mo_pack_331 (by decide) ?_
                                    refine lv_iadd hx hb d_Mo_pack_332 ?_
                                    refine hv_put hE k_Mo hI 5 (by decide) w521 hq242 rfl rfl rfl (Nat.le_of_ble_eq_true rfl) d_Mo_pack_333 (fun H locs hI => ?_)
                                    obtain ⟨g243, eg243⟩ : ∃ z : hv_M, z = hv_up g240 mo (moE a 0 (nI s9) (nI e9) ((nI c9) + 1) (true && sz (((v).1) + 0)) (((v).1) + 0) ((v).2.1) ((v).2.2.1) ((v).2.2.2.1) md) := ⟨_, rfl⟩
                                    have hI : hv_I D CL b0 g243 s.heap H locs := by rw [eg243]; exact hI
                                    have hq244 : g243 mo = some (moE a 0 (nI s9) (nI e9) ((nI c9) + 1) (true && sz (((v).1) + 0)) (((v).1) + 0) ((v).2.1) ((v).2.2.1) ((v).2.2.2.1) md) := by rw [eg243]; exact hv_up_self _ _ _
                                    refine lv_aload_n hx hb d_Mo_pack_336 rfl (lv_at hl 2 rfl) ?_
                                    refine lv_aload_n hx hb d_Mo_pack_337 rfl (lv_at hl 2 rfl) ?_
                                    refine hv_get hE k_Mo hI 4 (by decide) w520 hq244 rfl d_Mo_pack_338 ?_
                                    refine hv_put hE k_Mo hI 3 (by decide) w519 hq244 rfl rfl rfl (Nat.le_of_ble_eq_true rfl) d_Mo_pack_341 (fun H locs hI => ?_)
                                    obtain ⟨g245, eg245⟩ : ∃ z : hv_M, z = hv_up g243 mo (moE a 0 (nI e9) (nI e9) ((nI c9) + 1) (true && sz (((v).1) + 0)) (((v).1) + 0) ((v).2.1) ((v).2.2.1) ((v).2.2.2.1) md) := ⟨_, rfl⟩
                                    have hI : hv_I D CL b0 g245 s.heap H locs := by rw [eg245]; exact hI
                                    have hq246 : g245 mo = some (moE a 0 (nI e9) (nI e9) ((nI c9) + 1) (true && sz (((v).1) + 0)) (((v).1) + 0) ((v).2.1) ((v).2.2.1) ((v).2.2.2.1) md) := by rw [eg245]; exact hv_up_self _ _ _
                                    refine lv_aload_n hx hb d_Mo_pack_344 rfl (lv_at hl 2 rfl) ?_
                                    refine hv_get hE k_Mo hI 6 (by decide) w522 hq246 rfl d_Mo_pack_345 ?_
                                    refine lv_aload_n hx hb d_Mo_pack_348 rfl (lv_at hl 2 rfl) ?_
                                    refine hv_get hE k_Mo hI 5 (by decide) w521 hq246 rfl d_Mo_pack_349 ?_
                                    refine lv_aload_n hx hb d_Mo_pack_352 rfl (lv_at hl 2 rfl) ?_
                                    refine hv_get hE k_Mo hI 4 (by decide) w520 hq246 rfl d_Mo_pack_353 ?_
                                    have hq247 : g245 (a 2) = some (.inl (cA 0, 101, .inl (upd (fun b => nI (wF V b)) c9 (nI s9)))) := by rw [eg245, hv_up_ne _ _ (hnj.2 2 (by decide)), eg243, hv_up_ne _ _ (hnj.2 2 (by decide)), eg240, hv_up_ne _ _ (hnj.1 2 13 (by decide) (by decide) (by decide)), eg234, hv_up_ne _ _ (hnj.1 2 12 (by decide) (by decide) (by decide)), eg228, hv_up_ne _ _ (hnj.1 2 6 (by decide) (by decide) (by decide)), eg224, hv_up_ne _ _ (hnj.1 2 5 (by decide) (by decide) (by decide)), eg220, hv_up_ne _ _ (hnj.1 2 4 (by decide) (by decide) (by decide)), eg216, hv_up_ne _ _ (hnj.1 2 3 (by decide) (by decide) (by decide))]; exact hq213
                                    refine hv_iast hE hI 0 hq247 rfl (pk_in (c9 + 1) 101 (by omega) (nI_1 c9) (by omega)) d_Mo_pack_356 (fun H locs hI => ?_)
                                    rw [nI_1, nI_cl (by omega)] at hI
                                    obtain ⟨g248, eg248⟩ : ∃ z : hv_M, z = hv_up g245 (a 2) (.inl (cA 0, 101, .inl (upd (upd (fun b => nI (wF V b)) c9 (nI s9)) (c9 + 1) (nI e9)))) := ⟨_, rfl⟩
                                    have hI : hv_I D CL b0 g248 s.heap H locs := by rw [eg248]; exact hI
                                    have hq249 : g248 (a 2) = some (.inl (cA 0, 101, .inl (upd (upd (fun b => nI (wF V b)) c9 (nI s9)) (c9 + 1) (nI e9)))) := by rw [eg248]; exact hv_up_self _ _ _
                                    refine lv_iload hx hb d_Mo_pack_357 (lv_at hl 0 rfl) ?_
                                    have hq250 : g248 mo = some (moE a 0 (nI e9) (nI e9) ((nI c9) + 1) (true && sz (((v).1) + 0)) (((v).1) + 0) ((v).2.1) ((v).2.2.1) ((v).2.2.2.1) md) := by rw [eg248, hv_up_ne _ _ (Ne.symm (hnj.2 2 (by decide)))]; exact hq246
                                    have hq251 : g248 (a 0) = some (.inl (cA 0, 10200, .inl (wK V))) := by rw [eg248, hv_up_ne _ _ (hnj.1 0 2 (by decide) (by decide) (by decide)), eg245, hv_up_ne _ _ (hnj.2 0 (by decide)), eg243, hv_up_ne _ _ (hnj.2 0 (by decide)), eg240, hv_up_ne _ _ (hnj.1 0 13 (by decide) (by decide) (by decide))]; exact hq237
                                    have hq252 : g248 (a 1) = some (.inl (cA 0, 51000, .inl V.2.1)) := by rw [eg248, hv_up_ne _ _ (hnj.1 1 2 (by decide) (by decide) (by decide)), eg245, hv_up_ne _ _ (hnj.2 1 (by decide)), eg243, hv_up_ne _ _ (hnj.2 1 (by decide)), eg240, hv_up_ne _ _ (hnj.1 1 13 (by decide) (by decide) (by decide))]; exact hq238
                                    have hq253 : g248 (a 3) = some (.inl (cA 2, 100, .inl (upd (fun b => b2i (wB V b)) c9 (b2i bel)))) := by rw [eg248, hv_up_ne _ _ (hnj.1 3 2 (by decide) (by decide) (by decide)), eg245, hv_up_ne _ _ (hnj.2 3 (by decide)), eg243, hv_up_ne _ _ (hnj.2 3 (by decide)), eg240, hv_up_ne _ _ (hnj.1 3 13 (by decide) (by decide) (by decide)), eg234, hv_up_ne _ _ (hnj.1 3 12 (by decide) (by decide) (by decide)), eg228, hv_up_ne _ _ (hnj.1 3 6 (by decide) (by decide) (by decide)), eg224, hv_up_ne _ _ (hnj.1 3 5 (by decide) (by decide) (by decide)), eg220, hv_up_ne _ _ (hnj.1 3 4 (by decide) (by decide) (by decide))]; exact hq217
                                    have hq254 : g248 (a 4) = some (.inl (cA 0, 100, .inl (upd (wA V 0) c9 ((((v).1) + 0).toInt32)))) := by rw [eg248, hv_up_ne _ _ (hnj.1 4 2 (by decide) (by decide) (by decide)), eg245, hv_up_ne _ _ (hnj.2 4 (by decide)), eg243, hv_up_ne _ _ (hnj.2 4 (by decide)), eg240, hv_up_ne _ _ (hnj.1 4 13 (by decide) (by decide) (by decide)), eg234, hv_up_ne _ _ (hnj.1 4 12 (by decide) (by decide) (by decide)), eg228, hv_up_ne _ _ (hnj.1 4 6 (by decide) (by decide) (by decide)), eg224, hv_up_ne _ _ (hnj.1 4 5 (by decide) (by decide) (by decide))]; exact hq221
                                    have hq255 : g248 (a 5) = some (.inl (cA 0, 100, .inl (upd (wA V 1) c9 (((v).2.2.1).toInt32)))) := by rw [eg248, hv_up_ne _ _ (hnj.1 5 2 (by decide) (by decide) (by decide)), eg245, hv_up_ne _ _ (hnj.2 5 (by decide)), eg243, hv_up_ne _ _ (hnj.2 5 (by decide)), eg240, hv_up_ne _ _ (hnj.1 5 13 (by decide) (by decide) (by decide)), eg234, hv_up_ne _ _ (hnj.1 5 12 (by decide) (by decide) (by decide)), eg228, hv_up_ne _ _ (hnj.1 5 6 (by decide) (by decide) (by decide))]; exact hq225
                                    have hq256 : g248 (a 6) = some (.inl (cA 0, 100, .inl (upd (wA V 2) c9 (((v).2.2.2.1).toInt32)))) := by rw [eg248, hv_up_ne _ _ (hnj.1 6 2 (by decide) (by decide) (by decide)), eg245, hv_up_ne _ _ (hnj.2 6 (by decide)), eg243, hv_up_ne _ _ (hnj.2 6 (by decide)), eg240, hv_up_ne _ _ (hnj.1 6 13 (by decide) (by decide) (by decide)), eg234, hv_up_ne _ _ (hnj.1 6 12 (by decide) (by decide) (by decide))]; exact hq229
                                    have hq257 : g248 (a 7) = some (.inl (cA 0, 100, .inl (upd (wA V 3) c9 ((0 : Int64).toInt32)))) := by rw [eg248, hv_up_ne _ _ (hnj.1 7 2 (by decide) (by decide) (by decide)), eg245, hv_up_ne _ _ (hnj.2 7 (by decide)), eg243, hv_up_ne _ _ (hnj.2 7 (by decide)), eg240, hv_up_ne _ _ (hnj.1 7 13 (by decide) (by decide) (by decide)), eg234, hv_up_ne _ _ (hnj.1 7 12 (by decide) (by decide) (by decide)), eg228, hv_up_ne _ _ (hnj.1 7 6 (by decide) (by decide) (by decide)), eg224, hv_up_ne _ _ (hnj.1 7 5 (by decide) (by decide) (by decide)), eg220, hv_up_ne _ _ (hnj.1 7 4 (by decide) (by decide) (by decide)), eg216, hv_up_ne _ _ (hnj.1 7 3 (by decide) (by decide) (by decide)), eg212, hv_up_ne _ _ (hnj.1 7 2 (by decide) (by decide) (by decide))]; exact ha208
                                    have hq258 : g248 (a 8) = some (.inl (cA 0, 100, .inl (upd (wA V 4) c9 ((otF 0 ((v).2.2.2.2.1, (v).2.2.2.2.2)).1)))) := by rw [eg248, hv_up_ne _ _ (hnj.1 8 2 (by decide) (by decide) (by decide)), eg245, hv_up_ne _ _ (hnj.2 8 (by decide)), eg243, hv_up_ne _ _ (hnj.2 8 (by decide)), eg240, hv_up_ne _ _ (hnj.1 8 13 (by decide) (by decide) (by decide)), eg234, hv_up_ne _ _ (hnj.1 8 12 (by decide) (by decide) (by decide)), eg228, hv_up_ne _ _ (hnj.1 8 6 (by decide) (by decide) (by decide)), eg224, hv_up_ne _ _ (hnj.1 8 5 (by decide) (by decide) (by decide)), eg220, hv_up_ne _ _ (hnj.1 8 4 (by decide) (by decide) (by decide)), eg216, hv_up_ne _ _ (hnj.1 8 3 (by decide) (by decide) (by decide)), eg212, hv_up_ne _ _ (hnj.1 8 2 (by decide) (by decide) (by decide))]; exact hb208
                                    have hq259 : g248 (a 9) = some (.inl (cA 0, 100, .inl (upd (wA V 5) c9 ((otF 0 ((v).2.2.2.2.1, (v).2.2.2.2.2)).2)))) := by rw [eg248, hv_up_ne _ _ (hnj.1 9 2 (by decide) (by decide) (by decide)), eg245, hv_up_ne _ _ (hnj.2 9 (by decide)), eg243, hv_up_ne _ _ (hnj.2 9 (by decide)), eg240, hv_up_ne _ _ (hnj.1 9 13 (by decide) (by decide) (by decide)), eg234, hv_up_ne _ _ (hnj.1 9 12 (by decide) (by decide) (by decide)), eg228, hv_up_ne _ _ (hnj.1 9 6 (by decide) (by decide) (by decide)), eg224, hv_up_ne _ _ (hnj.1 9 5 (by decide) (by decide) (by decide)), eg220, hv_up_ne _ _ (hnj.1 9 4 (by decide) (by decide) (by decide)), eg216, hv_up_ne _ _ (hnj.1 9 3 (by decide) (by decide) (by decide)), eg212, hv_up_ne _ _ (hnj.1 9 2 (by decide) (by decide) (by decide))]; exact hc208
                                    have hq260 : g248 (a 10) = some (.inl (cA 0, 100, .inl (upd (wA V 6) c9 (baM 0 (otF 0 ((v).2.2.2.2.1, (v).2.2.2.2.2)))))) := by rw [eg248, hv_up_ne _ _ (hnj.1 10 2 (by decide) (by decide) (by decide)), eg245, hv_up_ne _ _ (hnj.2 10 (by decide)), eg243, hv_up_ne _ _ (hnj.2 10 (by decide)), eg240, hv_up_ne _ _ (hnj.1 10 13 (by decide) (by decide) (by decide)), eg234, hv_up_ne _ _ (hnj.1 10 12 (by decide) (by decide) (by decide)), eg228, hv_up_ne _ _ (hnj.1 10 6 (by decide) (by decide) (by decide)), eg224, hv_up_ne _ _ (hnj.1 10 5 (by decide) (by decide) (by decide)), eg220, hv_up_ne _ _ (hnj.1 10 4 (by decide) (by decide) (by decide)), eg216, hv_up_ne _ _ (hnj.1 10 3 (by decide) (by decide) (by decide)), eg212, hv_up_ne _ _ (hnj.1 10 2 (by decide) (by decide) (by decide))]; exact hd208
                                    have hq261 : g248 (a 11) = some (.inl (cA 0, 100, .inl (upd (wA V 7) c9 (ovM 0 (otF 0 ((v).2.2.2.2.1, (v).2.2.2.2.2)))))) := by rw [eg248, hv_up_ne _ _ (hnj.1 11 2 (by decide) (by decide) (by decide)), eg245, hv_up_ne _ _ (hnj.2 11 (by decide)), eg243, hv_up_ne _ _ (hnj.2 11 (by decide)), eg240, hv_up_ne _ _ (hnj.1 11 13 (by decide) (by decide) (by decide)), eg234, hv_up_ne _ _ (hnj.1 11 12 (by decide) (by decide) (by decide)), eg228, hv_up_ne _ _ (hnj.1 11 6 (by decide) (by decide) (by decide)), eg224, hv_up_ne _ _ (hnj.1 11 5 (by decide) (by decide) (by decide)), eg220, hv_up_ne _ _ (hnj.1 11 4 (by decide) (by decide) (by decide)), eg216, hv_up_ne _ _ (hnj.1 11 3 (by decide) (by decide) (by decide)), eg212, hv_up_ne _ _ (hnj.1 11 2 (by decide) (by decide) (by decide))]; exact he208
                                    have hq262 : g248 (a 12) = some (.inl (cA 0, 100, .inl (upd (wA V 8) c9 ((dL V s9 (e9 - s9)) + 1)))) := by rw [eg248, hv_up_ne _ _ (hnj.1 12 2 (by decide) (by decide) (by decide)), eg245, hv_up_ne _ _ (hnj.2 12 (by decide)), eg243, hv_up_ne _ _ (hnj.2 12 (by decide)), eg240, hv_up_ne _ _ (hnj.1 12 13 (by decide) (by decide) (by decide))]; exact hq235
                                    have hq263 : g248 (a 13) = some (.inl (cA 0, 100, .inl (upd (wA V 9) c9 (cA9 V s9 (e9 - s9))))) := by rw [eg248, hv_up_ne _ _ (hnj.1 13 2 (by decide) (by decide) (by decide)), eg245, hv_up_ne _ _ (hnj.2 13 (by decide)), eg243, hv_up_ne _ _ (hnj.2 13 (by decide))]; exact hq241
                                    have hq264 : g248 (a 14) = some (.inl (cA 1, 4, .inr (.inl (v).2.2.2.2.1))) := by rw [eg248, hv_up_ne _ _ (hnj.1 14 2 (by decide) (by decide) (by decide)), eg245, hv_up_ne _ _ (hnj.2 14 (by decide)), eg243, hv_up_ne _ _ (hnj.2 14 (by decide)), eg240, hv_up_ne _ _ (hnj.1 14 13 (by decide) (by decide) (by decide)), eg234, hv_up_ne _ _ (hnj.1 14 12 (by decide) (by decide) (by decide)), eg228, hv_up_ne _ _ (hnj.1 14 6 (by decide) (by decide) (by decide)), eg224, hv_up_ne _ _ (hnj.1 14 5 (by decide) (by decide) (by decide)), eg220, hv_up_ne _ _ (hnj.1 14 4 (by decide) (by decide) (by decide)), eg216, hv_up_ne _ _ (hnj.1 14 3 (by decide) (by decide) (by decide)), eg212, hv_up_ne _ _ (hnj.1 14 2 (by decide) (by decide) (by decide)), ho9208 _ (hnj.1 14 7 (by decide) (by decide) (by decide)) (hnj.1 14 8 (by decide) (by decide) (by decide)) (hnj.1 14 9 (by decide) (by decide) (by decide)) (hnj.1 14 10 (by decide) (by decide) (by decide)) (hnj.1 14 11 (by decide) (by decide) (by decide))]; exact hq205
                                    have hq265 : g248 (a 15) = some (.inl (cA 1, 4, .inr (.inl (v).2.2.2.2.2))) := by rw [eg248, hv_up_ne _ _ (hnj.1 15 2 (by decide) (by decide) (by decide)), eg245, hv_up_ne _ _ (hnj.2 15 (by decide)), eg243, hv_up_ne _ _ (hnj.2 15 (by decide)), eg240, hv_up_ne _ _ (hnj.1 15 13 (by decide) (by decide) (by decide)), eg234, hv_up_ne _ _ (hnj.1 15 12 (by decide) (by decide) (by decide)), eg228, hv_up_ne _ _ (hnj.1 15 6 (by decide) (by decide) (by decide)), eg224, hv_up_ne _ _ (hnj.1 15 5 (by decide) (by decide) (by decide)), eg220, hv_up_ne _ _ (hnj.1 15 4 (by decide) (by decide) (by decide)), eg216, hv_up_ne _ _ (hnj.1 15 3 (by decide) (by decide) (by decide)), eg212, hv_up_ne _ _ (hnj.1 15 2 (by decide) (by decide) (by decide)), ho9208 _ (hnj.1 15 7 (by decide) (by decide) (by decide)) (hnj.1 15 8 (by decide) (by decide) (by decide)) (hnj.1 15 9 (by decide) (by decide) (by decide)) (hnj.1 15 10 (by decide) (by decide) (by decide)) (hnj.1 15 11 (by decide) (by decide) (by decide))]; exact hq206
                                    have hat : atM V bel how size gr s9 (e9 - s9) v = fun j => [((((v).1) + 0).toInt32), (((v).2.2.1).toInt32), (((v).2.2.2.1).toInt32), (0 : Int64).toInt32, (otF 0 ((v).2.2.2.2.1, (v).2.2.2.2.2)).1, (otF 0 ((v).2.2.2.2.1, (v).2.2.2.2.2)).2, baM 0 (otF 0 ((v).2.2.2.2.1, (v).2.2.2.2.2)), ovM 0 (otF 0 ((v).2.2.2.2.1, (v).2.2.2.2.2)), ((dL V s9 (e9 - s9)) + 1), (cA9 V s9 (e9 - s9))].getD j 0 := by funext j9; simp only [atM, hln, hex, hun]; simp only [k99, if_true, if_false, Bool.false_eq_true]
                                    exact hv_iret hE hr hlocks hI hK (v := nI c9) ((show _ ∨ _ by rw [← ev, ← eG]; exact Or.inr (Or.inr (Or.inr ⟨(by simp [okPack, c2, n2, c7, n7, k15, k24]), hcc, c46, by rw [hgd, k172, k180]; simpa using k201, rfl, ⟨_, (((v).1) + 0, (v).2.1, (v).2.2.1, (v).2.2.2.1, (v).2.2.2.2.1, (v).2.2.2.2.2), by rw [← nI_1]; exact hq250, hq264, hq265⟩, by rw [hat]; exact ⟨hq251, hq252, by rw [← pkW_F]; exact hq249, by rw [← pkW_B]; exact hq253, fun j hj => match j, hj with | 0, _ => hq254 | 1, _ => hq255 | 2, _ => hq256 | 3, _ => hq257 | 4, _ => hq258 | 5, _ => hq259 | 6, _ => hq260 | 7, _ => hq261 | 8, _ => hq262 | 9, _ => hq263 | j + 10, h9 => absurd h9 (by omega)⟩, fun z z1 hz => by rw [eg248, hv_up_ne _ _ (hz 2 (by decide) (by decide)), eg245, hv_up_ne _ _ z1, eg243, hv_up_ne _ _ z1, eg240, hv_up_ne _ _ (hz 13 (by decide) (by decide)), eg234, hv_up_ne _ _ (hz 12 (by decide) (by decide)), eg228, hv_up_ne _ _ (hz 6 (by decide) (by decide)), eg224, hv_up_ne _ _ (hz 5 (by decide) (by decide)), eg220, hv_up_ne _ _ (hz 4 (by decide) (by decide)), eg216, hv_up_ne _ _ (hz 3 (by decide) (by decide)), eg212, hv_up_ne _ _ (hz 2 (by decide) (by decide)), ho9208 _ (hz 7 (by decide) (by decide)) (hz 8 (by decide) (by decide)) (hz 9 (by decide) (by decide)) (hz 10 (by decide) (by decide)) (hz 11 (by decide) (by decide)), ho9203 _ z1, eg201, hv_up_ne _ _ z1]; exact hfo z z1 (hz 14 (by decide) (by decide)) (hz 15 (by decide) (by decide))⟩)))) (by decide) (by decide) d_Mo_pack_359
                                  · skip
                                    have k274 := b2i_t c274
                                    exact absurd k274 (by rw [k99]; decide)
                                · skip
                                  have k251 := b2i_t c251
                                  exact absurd k251 (by rw [k99]; decide)
                              · skip
                                have k201 := b2i_f c201
                                refine lv_aload_n hx hb d_Mo_pack_204 rfl (lv_at hl 1 rfl) ?_
                                refine lv_iconst (v := 3) hx hb d_Mo_pack_205 (by decide) ?_
                                refine hv_put hE k_Mo hI 0 (by decide) w516 hg203 rfl rfl rfl (Nat.le_of_ble_eq_true rfl) d_Mo_pack_206 (fun H locs hI => ?_)
                                obtain ⟨g266, eg266⟩ : ∃ z : hv_M, z = hv_up g204 mo (moE a 3 (nI s9) (nI e9) (nI c9) (true && sz (((v).1) + 0)) (((v).1) + 0) ((v).2.1) ((v).2.2.1) ((v).2.2.2.1) md) := ⟨_, rfl⟩
                                have hI : hv_I D CL b0 g266 s.heap H locs := by rw [eg266]; exact hI
                                have hq267 : g266 mo = some (moE a 3 (nI s9) (nI e9) (nI c9) (true && sz (((v).1) + 0)) (((v).1) + 0) ((v).2.1) ((v).2.2.1) ((v).2.2.2.1) md) := by rw [eg266]; exact hv_up_self _ _ _
                                refine lv_iconst (v := 0) hx hb d_Mo_pack_209 (by decide) ?_
                                have hq268 : g266 (a 14) = some (.inl (cA 1, 4, .inr (.inl (v).2.2.2.2.1))) := by rw [eg266, hv_up_ne _ _ (hnj.2 14 (by decide)), ho9203 _ (hnj.2 14 (by decide)), eg201, hv_up_ne _ _ (hnj.2 14 (by decide))]; exact hs.2.1
                                have hq269 : g266 (a 15) = some (.inl (cA 1, 4, .inr (.inl (v).2.2.2.2.2))) := by rw [eg266, hv_up_ne _ _ (hnj.2 15 (by decide)), ho9203 _ (hnj.2 15 (by decide)), eg201, hv_up_ne _ _ (hnj.2 15 (by decide))]; exact hs.2.2
                                exact hv_iret hE hr hlocks hI hK (v := 0) ((show _ ∨ _ by rw [← ev, ← eG]; exact Or.inr (Or.inr (Or.inl ⟨(by simp [okPack, c2, n2, c7, n7, k15, k24]), hcc, c46, by rw [hgd, k172, k180]; simpa using k201, rfl, ⟨_, (((v).1) + 0, (v).2.1, (v).2.2.1, (v).2.2.2.1, (v).2.2.2.2.1, (v).2.2.2.2.2), hq267, hq268, hq269⟩, fun z z1 z2 z3 => by rw [eg266, hv_up_ne _ _ z1, ho9203 _ z1, eg201, hv_up_ne _ _ z1]; exact hfo z z1 z2 z3⟩)))) (by decide) (by decide) d_Mo_pack_210
                      · skip
                        have k99 := b2i_t c99
                        refine lv_aload_n hx hb d_Mo_pack_102 rfl (lv_at hl 0 rfl) ?_
                        refine lv_aload_n hx hb d_Mo_pack_103 rfl (lv_at hl 0 rfl) ?_
                        refine hv_get hE k_Mo hI 20 (by decide) w536 hs.1 rfl d_Mo_pack_104 ?_
                        refine hv_put hE k_Mo hI 22 (by decide) w538 hs.1 rfl rfl rfl (Nat.le_of_ble_eq_true rfl) d_Mo_pack_107 (fun H locs hI => ?_)
                        obtain ⟨g270, eg270⟩ : ∃ z : hv_M, z = hv_up g mo (moE a 0 (nI s9) (nI e9) (nI c9) G ((v).1) ((v).2.1) ((v).2.2.1) ((v).2.1) md) := ⟨_, rfl⟩
                        have hI : hv_I D CL b0 g270 s.heap H locs := by rw [eg270]; exact hI
                        have hq271 : g270 mo = some (moE a 0 (nI s9) (nI e9) (nI c9) G ((v).1) ((v).2.1) ((v).2.2.1) ((v).2.1) md) := by rw [eg270]; exact hv_up_self _ _ _
                        refine lv_aload_n hx hb d_Mo_pack_110 rfl (lv_at hl 0 rfl) ?_
                        refine hv_get hE k_Mo hI 20 (by decide) w536 hq271 rfl d_Mo_pack_111 ?_
                        refine lv_iload hx hb d_Mo_pack_114 (lv_at hl 4 rfl) ?_
                        refine lv_i2l (v := gr.toInt64) hx hb d_Mo_pack_116 rfl ?_
                        refine W.lcmp hx hb d_Mo_pack_117 ?_
                        refine lv_if_le (tgt := 140) hx hb d_Mo_pack_118 (by decide) (fun c118 => ?_) (fun c118 => ?_)
                        · skip
                          have m118 := (lg_cmp_le _ _).mp c118
                          have n118 := Int64.not_lt.mpr m118
                          refine lv_iload_n hx hb d_Mo_pack_140 rfl (lv_at hl 2 rfl) ?_
                          refine lv_if_ne (tgt := 148) hx hb d_Mo_pack_141 (by decide) (fun c141 => ?_) (fun c141 => ?_)
                          · skip
                            refine lv_iload_n hx hb d_Mo_pack_148 rfl (lv_at hl 2 rfl) ?_
                            refine lv_iconst (v := 1) hx hb d_Mo_pack_149 (by decide) ?_
                            refine lv_icmp_ne (tgt := 163) hx hb d_Mo_pack_150 (by decide) (fun c150 => ?_) (fun c150 => ?_)
                            · skip
                              refine lv_iload_n hx hb d_Mo_pack_163 rfl (lv_at hl 3 rfl) ?_
                              refine lv_i2l (v := size.toInt64) hx hb d_Mo_pack_164 rfl ?_
                              refine lv_lstore (lv' := [(5, .long size.toInt64), (0, .ref mo), (1, .int (b2i bel)), (2, .int how), (3, .int size), (4, .int gr)]) hx hb d_Mo_pack_165 hl (by decide) rfl (fun ls hl => ?_)
                              have hln : lnM bel gr v = (v).1 := by simp only [lnM, k99, n118, and_true, true_and, and_false, false_and, if_true, if_false, Bool.false_eq_true]
                              have hun : unM bel gr v = (v).2.1 := by simp only [unM, k99, n118, if_true, if_false, Bool.false_eq_true]
                              have hex : exM how size ((v).1) = size.toInt64 := by simp only [exM, c141, c150, if_true, if_false, show ¬ (1 : Int32) = 0 from by decide]
                              have hgd : (G && gdM bel how size gr v) = (G && sz (size.toInt64) && sz (((v).1) + size.toInt64)) := by simp only [gdM, hln, hex]; simp [k99, n118, Bool.and_assoc]
                              refine lv_aload_n hx hb d_Mo_pack_167 rfl (lv_at hl 1 rfl) ?_
                              refine lv_aload_n hx hb d_Mo_pack_168 rfl (lv_at hl 1 rfl) ?_
                              refine hv_get hE k_Mo hI 18 (by decide) w534 hq271 rfl d_Mo_pack_169 ?_
                              refine lv_if_eq (tgt := 187) hx hb d_Mo_pack_172 (by decide) (fun c172 => ?_) (fun c172 => ?_)
                              · skip
                                have k172 := b2i_f c172
                                refine lv_iconst (v := 0) hx hb d_Mo_pack_187 (by decide) ?_
                                refine hv_put hE k_Mo hI 18 (by decide) w534 hq271 rfl rfl rfl (Nat.le_of_ble_eq_true rfl) d_Mo_pack_188 (fun H locs hI => ?_)
                                obtain ⟨g272, eg272⟩ : ∃ z : hv_M, z = hv_up g270 mo (moE a 0 (nI s9) (nI e9) (nI c9) false ((v).1) ((v).2.1) ((v).2.2.1) ((v).2.1) md) := ⟨_, rfl⟩
                                have hI : hv_I D CL b0 g272 s.heap H locs := by rw [eg272]; exact hI
                                have hq273 : g272 mo = some (moE a 0 (nI s9) (nI e9) (nI c9) false ((v).1) ((v).2.1) ((v).2.2.1) ((v).2.1) md) := by rw [eg272]; exact hv_up_self _ _ _
                                refine lv_aload_n hx hb d_Mo_pack_191 rfl (lv_at hl 1 rfl) ?_
                                refine lv_lload hx hb d_Mo_pack_192 (lv_at hl 0 rfl) ?_
                                refine hv_V (As := [.long size.toInt64]) (rest := []) hE hml hK hI (c_Mo_grow l hl0 b0 D cA g272 mo a 0 (nI s9) (nI e9) (nI c9) false ((v).1) ((v).2.1) ((v).2.2.1) ((v).2.1) md size.toInt64 hq273 hnj) cd_Mo_grow w684 w686 ws26 hq273 rfl rfl hl.1 (Nat.le_of_ble_eq_true rfl) d_Mo_pack_194 ⟨by decide, by decide⟩ ⟨by decide, by decide⟩ (fun v9 g275 H locs hp hI => ?_) (fun q9 E9 ce9 g9 H locs hp => hp.elim)
                                obtain ⟨hv, hg274, ho9274⟩ := hp
                                rw [hv]
                                refine W.eq (g2 := F0 m 197 ls []) rfl ?_
                                refine lv_aload_n hx hb d_Mo_pack_197 rfl (lv_at hl 1 rfl) ?_
                                refine hv_get hE k_Mo hI 18 (by decide) w534 hg274 rfl d_Mo_pack_198 ?_
                                refine lv_if_ne (tgt := 211) hx hb d_Mo_pack_201 (by decide) (fun c201 => ?_) (fun c201 => ?_)
                                · skip
                                  have k201 := b2i_t c201
                                  exact absurd k201 (by simp)
                                · skip
                                  have k201 := b2i_f c201
                                  refine lv_aload_n hx hb d_Mo_pack_204 rfl (lv_at hl 1 rfl) ?_
                                  refine lv_iconst (v := 3) hx hb d_Mo_pack_205 (by decide) ?_
                                  refine hv_put hE k_Mo hI 0 (by decide) w516 hg274 rfl rfl rfl (Nat.le_of_ble_eq_true rfl) d_Mo_pack_206 (fun H locs hI => ?_)
                                  obtain ⟨g276, eg276⟩ : ∃ z : hv_M, z = hv_up g275 mo (moE a 3 (nI s9) (nI e9) (nI c9) (false && sz (((v).1) + size.toInt64)) (((v).1) + size.toInt64) ((v).2.1) ((v).2.2.1) ((v).2.1) md) := ⟨_, rfl⟩
                                  have hI : hv_I D CL b0 g276 s.heap H locs := by rw [eg276]; exact hI
                                  have hq277 : g276 mo = some (moE a 3 (nI s9) (nI e9) (nI c9) (false && sz (((v).1) + size.toInt64)) (((v).1) + size.toInt64) ((v).2.1) ((v).2.2.1) ((v).2.1) md) := by rw [eg276]; exact hv_up_self _ _ _
                                  refine lv_iconst (v := 0) hx hb d_Mo_pack_209 (by decide) ?_
                                  have hq278 : g276 (a 14) = some (.inl (cA 1, 4, .inr (.inl (v).2.2.2.2.1))) := by rw [eg276, hv_up_ne _ _ (hnj.2 14 (by decide)), ho9274 _ (hnj.2 14 (by decide)), eg272, hv_up_ne _ _ (hnj.2 14 (by decide)), eg270, hv_up_ne _ _ (hnj.2 14 (by decide))]; exact hs.2.1
                                  have hq279 : g276 (a 15) = some (.inl (cA 1, 4, .inr (.inl (v).2.2.2.2.2))) := by rw [eg276, hv_up_ne _ _ (hnj.2 15 (by decide)), ho9274 _ (hnj.2 15 (by decide)), eg272, hv_up_ne _ _ (hnj.2 15 (by decide)), eg270, hv_up_ne _ _ (hnj.2 15 (by decide))]; exact hs.2.2
                                  exact hv_iret hE hr hlocks hI hK (v := 0) ((show _ ∨ _ by rw [← ev, ← eG]; exact Or.inr (Or.inr (Or.inl ⟨(by simp [okPack, c2, n2, c7, n7, k15, k24]), hcc, c46, by rw [hgd]; simp [k172], rfl, ⟨_, (((v).1) + size.toInt64, (v).2.1, (v).2.2.1, (v).2.1, (v).2.2.2.2.1, (v).2.2.2.2.2), hq277, hq278, hq279⟩, fun z z1 z2 z3 => by rw [eg276, hv_up_ne _ _ z1, ho9274 _ z1, eg272, hv_up_ne _ _ z1, eg270, hv_up_ne _ _ z1]; exact hfo z z1 z2 z3⟩)))) (by decide) (by decide) d_Mo_pack_210
                              · skip
                                have k172 := b2i_t c172
                                refine lv_lload hx hb d_Mo_pack_175 (lv_at hl 0 rfl) ?_
                                refine hv_Sp (As := [.long size.toInt64]) (rest := [.ref mo]) hE hml hK hI (c_Mo_isSize l hl0 b0 D cA g270 size.toInt64) cd_Mo_isSize w608 w609 rfl rfl rfl hl.1 (Nat.le_of_ble_eq_true rfl) d_Mo_pack_177 ⟨by decide, by decide⟩ ⟨by decide, by decide⟩ (fun H locs hI => ?_)
                                refine W.eq (g2 := F0 m 180 ls [.int (b2i (sz size.toInt64)), .ref mo]) rfl ?_
                                refine lv_if_eq (tgt := 187) hx hb d_Mo_pack_180 (by decide) (fun c180 => ?_) (fun c180 => ?_)
                                · skip
                                  have k180 := b2i_f c180
                                  refine lv_iconst (v := 0) hx hb d_Mo_pack_187 (by decide) ?_
                                  refine hv_put hE k_Mo hI 18 (by decide) w534 hq271 rfl rfl rfl (Nat.le_of_ble_eq_true rfl) d_Mo_pack_188 (fun H locs hI => ?_)
                                  obtain ⟨g280, eg280⟩ : ∃ z : hv_M, z = hv_up g270 mo (moE a 0 (nI s9) (nI e9) (nI c9) false ((v).1) ((v).2.1) ((v).2.2.1) ((v).2.1) md) := ⟨_, rfl⟩
                                  have hI : hv_I D CL b0 g280 s.heap H locs := by rw [eg280]; exact hI
                                  have hq281 : g280 mo = some (moE a 0 (nI s9) (nI e9) (nI c9) false ((v).1) ((v).2.1) ((v).2.2.1) ((v).2.1) md) := by rw [eg280]; exact hv_up_self _ _ _
                                  refine lv_aload_n hx hb d_Mo_pack_191 rfl (lv_at hl 1 rfl) ?_
                                  refine lv_lload hx hb d_Mo_pack_192 (lv_at hl 0 rfl) ?_
                                  refine hv_V (As := [.long size.toInt64]) (rest := []) hE hml hK hI (c_Mo_grow l hl0 b0 D cA g280 mo a 0 (nI s9) (nI e9) (nI c9) false ((v).1) ((v).2.1) ((v).2.2.1) ((v).2.1) md size.toInt64 hq281 hnj) cd_Mo_grow w684 w686 ws26 hq281 rfl rfl hl.1 (Nat.le_of_ble_eq_true rfl) d_Mo_pack_194 ⟨by decide, by decide⟩ ⟨by decide, by decide⟩ (fun v9 g283 H locs hp hI => ?_) (fun q9 E9 ce9 g9 H locs hp => hp.elim)
                                  obtain ⟨hv, hg282, ho9282⟩ := hp
                                  rw [hv]
                                  refine W.eq (g2 := F0 m 197 ls []) rfl ?_
                                  refine lv_aload_n hx hb d_Mo_pack_197 rfl (lv_at hl 1 rfl) ?_
                                  refine hv_get hE k_Mo hI 18 (by decide) w534 hg282 rfl d_Mo_pack_198 ?_
                                  refine lv_if_ne (tgt := 211) hx hb d_Mo_pack_201 (by decide) (fun c201 => ?_) (fun c201 => ?_)
                                  · skip
                                    have k201 := b2i_t c201
                                    exact absurd k201 (by simp)
                                  · skip
                                    have k201 := b2i_f c201
                                    refine lv_aload_n hx hb d_Mo_pack_204 rfl (lv_at hl 1 rfl) ?_
                                    refine lv_iconst (v := 3) hx hb d_Mo_pack_205 (by decide) ?_
                                    refine hv_put hE k_Mo hI 0 (by decide) w516 hg282 rfl rfl rfl (Nat.le_of_ble_eq_true rfl) d_Mo_pack_206 (fun H locs hI => ?_)
                                    obtain ⟨g284, eg284⟩ : ∃ z : hv_M, z = hv_up g283 mo (moE a 3 (nI s9) (nI e9) (nI c9) (false && sz (((v).1) + size.toInt64)) (((v).1) + size.toInt64) ((v).2.1) ((v).2.2.1) ((v).2.1) md) := ⟨_, rfl⟩
                                    have hI : hv_I D CL b0 g284 s.heap H locs := by rw [eg284]; exact hI
                                    have hq285 : g284 mo = some (moE a 3 (nI s9) (nI e9) (nI c9) (false && sz (((v).1) + size.toInt64)) (((v).1) + size.toInt64) ((v).2.1) ((v).2.2.1) ((v).2.1) md) := by rw [eg284]; exact hv_up_self _ _ _
                                    refine lv_iconst (v := 0) hx hb d_Mo_pack_209 (by decide) ?_
                                    have hq286 : g284 (a 14) = some (.inl (cA 1, 4, .inr (.inl (v).2.2.2.2.1))) := by rw [eg284, hv_up_ne _ _ (hnj.2 14 (by decide)), ho9282 _ (hnj.2 14 (by decide)), eg280, hv_up_ne _ _ (hnj.2 14 (by decide)), eg270, hv_up_ne _ _ (hnj.2 14 (by decide))]; exact hs.2.1
                                    have hq287 : g284 (a 15) = some (.inl (cA 1, 4, .inr (.inl (v).2.2.2.2.2))) := by rw [eg284, hv_up_ne _ _ (hnj.2 15 (by decide)), ho9282 _ (hnj.2 15 (by decide)), eg280, hv_up_ne _ _ (hnj.2 15 (by decide)), eg270, hv_up_ne _ _ (hnj.2 15 (by decide))]; exact hs.2.2
                                    exact hv_iret hE hr hlocks hI hK (v := 0) ((show _ ∨ _ by rw [← ev, ← eG]; exact Or.inr (Or.inr (Or.inl ⟨(by simp [okPack, c2, n2, c7, n7, k15, k24]), hcc, c46, by rw [hgd]; simp [k172, k180], rfl, ⟨_, (((v).1) + size.toInt64, (v).2.1, (v).2.2.1, (v).2.1, (v).2.2.2.2.1, (v).2.2.2.2.2), hq285, hq286, hq287⟩, fun z z1 z2 z3 => by rw [eg284, hv_up_ne _ _ z1, ho9282 _ z1, eg280, hv_up_ne _ _ z1, eg270, hv_up_ne _ _ z1]; exact hfo z z1 z2 z3⟩)))) (by decide) (by decide) d_Mo_pack_210
                                · skip
                                  have k180 := b2i_t c180
                                  refine lv_iconst (v := 1) hx hb d_Mo_pack_183 (by decide) ?_
                                  refine lv_goto (tgt := 188) hx hb d_Mo_pack_184 (by decide) ?_
                                  refine hv_put hE k_Mo hI 18 (by decide) w534 hq271 rfl rfl rfl (Nat.le_of_ble_eq_true rfl) d_Mo_pack_188 (fun H locs hI => ?_)
                                  obtain ⟨g288, eg288⟩ : ∃ z : hv_M, z = hv_up g270 mo (moE a 0 (nI s9) (nI e9) (nI c9) true ((v).1) ((v).2.1) ((v).2.2.1) ((v).2.1) md) := ⟨_, rfl⟩
                                  have hI : hv_I D CL b0 g288 s.heap H locs := by rw [eg288]; exact hI
                                  have hq289 : g288 mo = some (moE a 0 (nI s9) (nI e9) (nI c9) true ((v).1) ((v).2.1) ((v).2.2.1) ((v).2.1) md) := by rw [eg288]; exact hv_up_self _ _ _
                                  refine lv_aload_n hx hb d_Mo_pack_191 rfl (lv_at hl 1 rfl) ?_
                                  refine lv_lload hx hb d_Mo_pack_192 (lv_at hl 0 rfl) ?_
                                  refine hv_V (As := [.long size.toInt64]) (rest := []) hE hml hK hI (c_Mo_grow l hl0 b0 D cA g288 mo a 0 (nI s9) (nI e9) (nI c9) true ((v).1) ((v).2.1) ((v).2.2.1) ((v).2.1) md size.toInt64 hq289 hnj) cd_Mo_grow w684 w686 ws26 hq289 rfl rfl hl.1 (Nat.le_of_ble_eq_true rfl) d_Mo_pack_194 ⟨by decide, by decide⟩ ⟨by decide, by decide⟩ (fun v9 g291 H locs hp hI => ?_) (fun q9 E9 ce9 g9 H locs hp => hp.elim)
                                  obtain ⟨hv, hg290, ho9290⟩ := hp
                                  rw [hv]
                                  refine W.eq (g2 := F0 m 197 ls []) rfl ?_
                                  refine lv_aload_n hx hb d_Mo_pack_197 rfl (lv_at hl 1 rfl) ?_
                                  refine hv_get hE k_Mo hI 18 (by decide) w534 hg290 rfl d_Mo_pack_198 ?_
                                  refine lv_if_ne (tgt := 211) hx hb d_Mo_pack_201 (by decide) (fun c201 => ?_) (fun c201 => ?_)
                                  · skip
                                    have k201 := b2i_t c201
                                    refine lv_aload_n hx hb d_Mo_pack_211 rfl (lv_at hl 1 rfl) ?_
                                    refine hv_get hE k_Mo hI 5 (by decide) w521 hg290 rfl d_Mo_pack_212 ?_
                                    refine lv_istore (lv' := [(7, .int (nI c9)), (5, .long size.toInt64), (0, .ref mo), (1, .int (b2i bel)), (2, .int how), (3, .int size), (4, .int gr)]) hx hb d_Mo_pack_215 hl (by decide) rfl (fun ls hl => ?_)
                                    refine lv_aload_n hx hb d_Mo_pack_217 rfl (lv_at hl 2 rfl) ?_
                                    refine lv_iload hx hb d_Mo_pack_218 (lv_at hl 0 rfl) ?_
                                    refine lv_lload hx hb d_Mo_pack_220 (lv_at hl 1 rfl) ?_
                                    have hq292 : g291 (a 14) = some (.inl (cA 1, 4, .inr (.inl (v).2.2.2.2.1))) := by rw [ho9290 _ (hnj.2 14 (by decide)), eg288, hv_up_ne _ _ (hnj.2 14 (by decide)), eg270, hv_up_ne _ _ (hnj.2 14 (by decide))]; exact hs.2.1
                                    have hq293 : g291 (a 15) = some (.inl (cA 1, 4, .inr (.inl (v).2.2.2.2.2))) := by rw [ho9290 _ (hnj.2 15 (by decide)), eg288, hv_up_ne _ _ (hnj.2 15 (by decide)), eg270, hv_up_ne _ _ (hnj.2 15 (by decide))]; exact hs.2.2
                                    have hA294 : moA cA g291 a V := ⟨by rw [ho9290 _ (hnj.2 0 (by decide)), eg288, hv_up_ne _ _ (hnj.2 0 (by decide)), eg270, hv_up_ne _ _ (hnj.2 0 (by decide))]; exact hAg.1, by rw [ho9290 _ (hnj.2 1 (by decide)), eg288, hv_up_ne _ _ (hnj.2 1 (by decide)), eg270, hv_up_ne _ _ (hnj.2 1 (by decide))]; exact hAg.2.1, by rw [ho9290 _ (hnj.2 2 (by decide)), eg288, hv_up_ne _ _ (hnj.2 2 (by decide)), eg270, hv_up_ne _ _ (hnj.2 2 (by decide))]; exact hAg.2.2.1, by rw [ho9290 _ (hnj.2 3 (by decide)), eg288, hv_up_ne _ _ (hnj.2 3 (by decide)), eg270, hv_up_ne _ _ (hnj.2 3 (by decide))]; exact hAg.2.2.2.1, fun j9 hj9 => by rw [ho9290 _ (hnj.2 (4 + j9) (by omega)), eg288, hv_up_ne _ _ (hnj.2 (4 + j9) (by omega)), eg270, hv_up_ne _ _ (hnj.2 (4 + j9) (by omega))]; exact hAg.2.2.2.2 j9 hj9⟩
                                    refine hv_V (As := [.int (nI c9), .long size.toInt64]) (rest := []) hE hml hK hI (c_Mo_setGlue l hl0 b0 D cA g291 mo a 0 (nI s9) (nI e9) (nI c9) (true && sz (((v).1) + size.toInt64)) (((v).1) + size.toInt64) ((v).2.1) ((v).2.2.1) ((v).2.1) md V ((v).2.2.2.2.1) ((v).2.2.2.2.2) size.toInt64 c9 hg290 hnj hA294 hq292 hq293 (by omega)) cd_Mo_setGlue w700 w702 ws30 hg290 rfl rfl hl.1 (Nat.le_of_ble_eq_true rfl) d_Mo_pack_222 ⟨by decide, by decide⟩ ⟨by decide, by decide⟩ (fun v9 g296 H locs hp hI => ?_) (fun q9 E9 ce9 g9 H locs hp => hp.elim)
                                    obtain ⟨hv, ha295, hb295, hc295, hd295, he295, ho9295⟩ := hp
                                    rw [hv]
                                    refine W.eq (g2 := F0 m 225 ls []) rfl ?_
                                    refine lv_aload_n hx hb d_Mo_pack_225 rfl (lv_at hl 2 rfl) ?_
                                    have hq297 : g296 mo = some (moE a 0 (nI s9) (nI e9) (nI c9) (true && sz (((v).1) + size.toInt64)) (((v).1) + size.toInt64) ((v).2.1) ((v).2.2.1) ((v).2.1) md) := by rw [ho9295 _ (Ne.symm (hnj.2 7 (by decide))) (Ne.symm (hnj.2 8 (by decide))) (Ne.symm (hnj.2 9 (by decide))) (Ne.symm (hnj.2 10 (by decide))) (Ne.symm (hnj.2 11 (by decide)))]; exact hg290
                                    refine hv_get hE k_Mo hI 6 (by decide) w522 hq297 rfl d_Mo_pack_226 ?_
                                    refine lv_iload hx hb d_Mo_pack_229 (lv_at hl 0 rfl) ?_
                                    refine lv_aload_n hx hb d_Mo_pack_231 rfl (lv_at hl 2 rfl) ?_
                                    refine hv_get hE k_Mo hI 3 (by decide) w519 hq297 rfl d_Mo_pack_232 ?_
                                    have hq298 : g296 (a 2) = some (.inl (cA 0, 101, .inl (fun b => nI (wF V b)))) := by rw [ho9295 _ (hnj.1 2 7 (by decide) (by decide) (by decide)) (hnj.1 2 8 (by decide) (by decide) (by decide)) (hnj.1 2 9 (by decide) (by decide) (by decide)) (hnj.1 2 10 (by decide) (by decide) (by decide)) (hnj.1 2 11 (by decide) (by decide) (by decide)), ho9290 _ (hnj.2 2 (by decide)), eg288, hv_up_ne _ _ (hnj.2 2 (by decide)), eg270, hv_up_ne _ _ (hnj.2 2 (by decide))]; exact hAg.2.2.1
                                    refine hv_iast hE hI 0 hq298 rfl (pk_in c9 101 (by omega) rfl (by omega)) d_Mo_pack_235 (fun H locs hI => ?_)
                                    rw [nI_cl (by omega)] at hI
                                    obtain ⟨g299, eg299⟩ : ∃ z : hv_M, z = hv_up g296 (a 2) (.inl (cA 0, 101, .inl (upd (fun b => nI (wF V b)) c9 (nI s9)))) := ⟨_, rfl⟩
                                    have hI : hv_I D CL b0 g299 s.heap H locs := by rw [eg299]; exact hI
                                    have hq300 : g299 (a 2) = some (.inl (cA 0, 101, .inl (upd (fun b => nI (wF V b)) c9 (nI s9)))) := by rw [eg299]; exact hv_up_self _ _ _
                                    refine lv_aload_n hx hb d_Mo_pack_236 rfl (lv_at hl 2 rfl) ?_
                                    have hq301 : g299 mo = some (moE a 0 (nI s9) (nI e9) (nI c9) (true && sz (((v).1) + size.toInt64)) (((v).1) + size.toInt64) ((v).2.1) ((v).2.2.1) ((v).2.1) md) := by rw [eg299, hv_up_ne _ _ (Ne.symm (hnj.2 2 (by decide)))]; exact hq297
                                    refine hv_get hE k_Mo hI 7 (by decide) w523 hq301 rfl d_Mo_pack_237 ?_
                                    refine lv_iload hx hb d_Mo_pack_240 (lv_at hl 0 rfl) ?_
                                    refine lv_iload_n hx hb d_Mo_pack_242 rfl (lv_at hl 3 rfl) ?_
                                    have hq302 : g299 (a 3) = some (.inl (cA 2, 100, .inl (fun b => b2i (wB V b)))) := by rw [eg299, hv_up_ne _ _ (hnj.1 3 2 (by decide) (by decide) (by decide)), ho9295 _ (hnj.1 3 7 (by decide) (by decide) (by decide)) (hnj.1 3 8 (by decide) (by decide) (by decide)) (hnj.1 3 9 (by decide) (by decide) (by decide)) (hnj.1 3 10 (by decide) (by decide) (by decide)) (hnj.1 3 11 (by decide) (by decide) (by decide)), ho9290 _ (hnj.2 3 (by decide)), eg288, hv_up_ne _ _ (hnj.2 3 (by decide)), eg270, hv_up_ne _ _ (hnj.2 3 (by decide))]; exact hAg.2.2.2.1
                                    refine hv_zast hE hI 2 hq302 rfl (pk_in c9 100 (by omega) rfl (by omega)) d_Mo_pack_243 (fun H locs hI => ?_)
                                    rw [nI_cl (by omega)] at hI
                                    obtain ⟨g303, eg303⟩ : ∃ z : hv_M, z = hv_up g299 (a 3) (.inl (cA 2, 100, .inl (upd (fun b => b2i (wB V b)) c9 (b2i bel)))) := ⟨_, rfl⟩
                                    have hI : hv_I D CL b0 g303 s.heap H locs := by rw [eg303]; exact hI
                                    have hq304 : g303 (a 3) = some (.inl (cA 2, 100, .inl (upd (fun b => b2i (wB V b)) c9 (b2i bel)))) := by rw [eg303]; exact hv_up_self _ _ _
                                    refine lv_aload_n hx hb d_Mo_pack_244 rfl (lv_at hl 2 rfl) ?_
                                    have hq305 : g303 mo = some (moE a 0 (nI s9) (nI e9) (nI c9) (true && sz (((v).1) + size.toInt64)) (((v).1) + size.toInt64) ((v).2.1) ((v).2.2.1) ((v).2.1) md) := by rw [eg303, hv_up_ne _ _ (Ne.symm (hnj.2 3 (by decide)))]; exact hq301
                                    refine hv_get hE k_Mo hI 8 (by decide) w524 hq305 rfl d_Mo_pack_245 ?_
                                    refine lv_iload hx hb d_Mo_pack_248 (lv_at hl 0 rfl) ?_
                                    refine lv_iload_n hx hb d_Mo_pack_250 rfl (lv_at hl 3 rfl) ?_
                                    refine lv_if_eq (tgt := 261) hx hb d_Mo_pack_251 (by decide) (fun c251 => ?_) (fun c251 => ?_)
                                    · skip
                                      have k251 := b2i_f c251
                                      exact absurd k251 (by rw [k99]; decide)
                                    · skip
                                      have k251 := b2i_t c251
                                      refine lv_aload_n hx hb d_Mo_pack_254 rfl (lv_at hl 2 rfl) ?_
                                      refine hv_get hE k_Mo hI 21 (by decide) w537 hq305 rfl d_Mo_pack_255 ?_
                                      refine lv_goto (tgt := 265) hx hb d_Mo_pack_258 (by decide) ?_
                                      refine lv_l2i (v := ((v).2.2.1).toInt32) hx hb d_Mo_pack_265 rfl ?_
                                      have hq306 : g303 (a 4) = some (.inl (cA 0, 100, .inl (wA V 0))) := by rw [eg303, hv_up_ne _ _ (hnj.1 4 3 (by decide) (by decide) (by decide)), eg299, hv_up_ne _ _ (hnj.1 4 2 (by decide) (by decide) (by decide)), ho9295 _ (hnj.1 4 7 (by decide) (by decide) (by decide)) (hnj.1 4 8 (by decide) (by decide) (by decide)) (hnj.1 4 9 (by decide) (by decide) (by decide)) (hnj.1 4 10 (by decide) (by decide) (by decide)) (hnj.1 4 11 (by decide) (by decide) (by decide)), ho9290 _ (hnj.2 4 (by decide)), eg288, hv_up_ne _ _ (hnj.2 4 (by decide)), eg270, hv_up_ne _ _ (hnj.2 4 (by decide))]; exact (hAg.2.2.2.2 0 (by decide))
                                      refine hv_iast hE hI 0 hq306 rfl (pk_in c9 100 (by omega) rfl (by omega)) d_Mo_pack_266 (fun H locs hI => ?_)
                                      rw [nI_cl (by omega)] at hI
                                      obtain ⟨g307, eg307⟩ : ∃ z : hv_M, z = hv_up g303 (a 4) (.inl (cA 0, 100, .inl (upd (wA V 0) c9 (((v).2.2.1).toInt32)))) := ⟨_, rfl⟩
                                      have hI : hv_I D CL b0 g307 s.heap H locs := by rw [eg307]; exact hI
                                      have hq308 : g307 (a 4) = some (.inl (cA 0, 100, .inl (upd (wA V 0) c9 (((v).2.2.1).toInt32)))) := by rw [eg307]; exact hv_up_self _ _ _
                                      refine lv_aload_n hx hb d_Mo_pack_267 rfl (lv_at hl 2 rfl) ?_
                                      have hq309 : g307 mo = some (moE a 0 (nI s9) (nI e9) (nI c9) (true && sz (((v).1) + size.toInt64)) (((v).1) + size.toInt64) ((v).2.1) ((v).2.2.1) ((v).2.1) md) := by rw [eg307, hv_up_ne _ _ (Ne.symm (hnj.2 4 (by decide)))]; exact hq305
                                      refine hv_get hE k_Mo hI 9 (by decide) w525 hq309 rfl d_Mo_pack_268 ?_
                                      refine lv_iload hx hb d_Mo_pack_271 (lv_at hl 0 rfl) ?_
                                      refine lv_iload_n hx hb d_Mo_pack_273 rfl (lv_at hl 3 rfl) ?_
                                      refine lv_if_eq (tgt := 284) hx hb d_Mo_pack_274 (by decide) (fun c274 => ?_) (fun c274 => ?_)
                                      · skip
                                        have k274 := b2i_f c274
                                        exact absurd k274 (by rw [k99]; decide)
                                      · skip
                                        have k274 := b2i_t c274
                                        refine lv_aload_n hx hb d_Mo_pack_277 rfl (lv_at hl 2 rfl) ?_
                                        refine hv_get hE k_Mo hI 19 (by decide) w535 hq309 rfl d_Mo_pack_278 ?_
                                        refine lv_goto (tgt := 288) hx hb d_Mo_pack_281 (by decide) ?_
                                        refine lv_l2i (v := (((v).1) + size.toInt64).toInt32) hx hb d_Mo_pack_288 rfl ?_
                                        have hq310 : g307 (a 5) = some (.inl (cA 0, 100, .inl (wA V 1))) := by rw [eg307, hv_up_ne _ _ (hnj.1 5 4 (by decide) (by decide) (by decide)), eg303, hv_up_ne _ _ (hnj.1 5 3 (by decide) (by decide) (by decide)), eg299, hv_up_ne _ _ (hnj.1 5 2 (by decide) (by decide) (by decide)), ho9295 _ (hnj.1 5 7 (by decide) (by decide) (by decide)) (hnj.1 5 8 (by decide) (by decide) (by decide)) (hnj.1 5 9 (by decide) (by decide) (by decide)) (hnj.1 5 10 (by decide) (by decide) (by decide)) (hnj.1 5 11 (by decide) (by decide) (by decide)), ho9290 _ (hnj.2 5 (by decide)), eg288, hv_up_ne _ _ (hnj.2 5 (by decide)), eg270, hv_up_ne _ _ (hnj.2 5 (by decide))]; exact (hAg.2.2.2.2 1 (by decide))
                                        refine hv_iast hE hI 0 hq310 rfl (pk_in c9 100 (by omega) rfl (by omega)) d_Mo_pack_289 (fun H locs hI => ?_)
                                        rw [nI_cl (by omega)] at hI
                                        obtain ⟨g311, eg311⟩ : ∃ z : hv_M, z = hv_up g307 (a 5) (.inl (cA 0, 100, .inl (upd (wA V 1) c9 ((((v).1) + size.toInt64).toInt32)))) := ⟨_, rfl⟩
                                        have hI : hv_I D CL b0 g311 s.heap H locs := by rw [eg311]; exact hI
                                        have hq312 : g311 (a 5) = some (.inl (cA 0, 100, .inl (upd (wA V 1) c9 ((((v).1) + size.toInt64).toInt32)))) := by rw [eg311]; exact hv_up_self _ _ _
                                        refine lv_aload_n hx hb d_Mo_pack_290 rfl (lv_at hl 2 rfl) ?_
                                        have hq313 : g311 mo = some (moE a 0 (nI s9) (nI e9) (nI c9) (true && sz (((v).1) + size.toInt64)) (((v).1) + size.toInt64) ((v).2.1) ((v).2.2.1) ((v).2.1) md) := by rw [eg311, hv_up_ne _ _ (Ne.symm (hnj.2 5 (by decide)))]; exact hq309
                                        refine hv_get hE k_Mo hI 10 (by decide) w526 hq313 rfl d_Mo_pack_291 ?_
                                        refine lv_iload hx hb d_Mo_pack_294 (lv_at hl 0 rfl) ?_
                                        refine lv_aload_n hx hb d_Mo_pack_296 rfl (lv_at hl 2 rfl) ?_
                                        refine hv_get hE k_Mo hI 22 (by decide) w538 hq313 rfl d_Mo_pack_297 ?_
                                        refine lv_l2i (v := ((v).2.1).toInt32) hx hb d_Mo_pack_300 rfl ?_
                                        have hq314 : g311 (a 6) = some (.inl (cA 0, 100, .inl (wA V 2))) := by rw [eg311, hv_up_ne _ _ (hnj.1 6 5 (by decide) (by decide) (by decide)), eg307, hv_up_ne _ _ (hnj.1 6 4 (by decide) (by decide) (by decide)), eg303, hv_up_ne _ _ (hnj.1 6 3 (by decide) (by decide) (by decide)), eg299, hv_up_ne _ _ (hnj.1 6 2 (by decide) (by decide) (by decide)), ho9295 _ (hnj.1 6 7 (by decide) (by decide) (by decide)) (hnj.1 6 8 (by decide) (by decide) (by decide)) (hnj.1 6 9 (by decide) (by decide) (by decide)) (hnj.1 6 10 (by decide) (by decide) (by decide)) (hnj.1 6 11 (by decide) (by decide) (by decide)), ho9290 _ (hnj.2 6 (by decide)), eg288, hv_up_ne _ _ (hnj.2 6 (by decide)), eg270, hv_up_ne _ _ (hnj.2 6 (by decide))]; exact (hAg.2.2.2.2 2 (by decide))
                                        refine hv_iast hE hI 0 hq314 rfl (pk_in c9 100 (by omega) rfl (by omega)) d_Mo_pack_301 (fun H locs hI => ?_)
                                        rw [nI_cl (by omega)] at hI
                                        obtain ⟨g315, eg315⟩ : ∃ z : hv_M, z = hv_up g311 (a 6) (.inl (cA 0, 100, .inl (upd (wA V 2) c9 (((v).2.1).toInt32)))) := ⟨_, rfl⟩
                                        have hI : hv_I D CL b0 g315 s.heap H locs := by rw [eg315]; exact hI
                                        have hq316 : g315 (a 6) = some (.inl (cA 0, 100, .inl (upd (wA V 2) c9 (((v).2.1).toInt32)))) := by rw [eg315]; exact hv_up_self _ _ _
                                        refine lv_aload_n hx hb d_Mo_pack_302 rfl (lv_at hl 2 rfl) ?_
                                        have hq317 : g315 mo = some (moE a 0 (nI s9) (nI e9) (nI c9) (true && sz (((v).1) + size.toInt64)) (((v).1) + size.toInt64) ((v).2.1) ((v).2.2.1) ((v).2.1) md) := by rw [eg315, hv_up_ne _ _ (Ne.symm (hnj.2 6 (by decide)))]; exact hq313
                                        refine hv_get hE k_Mo hI 16 (by decide) w532 hq317 rfl d_Mo_pack_303 ?_
                                        refine lv_iload hx hb d_Mo_pack_306 (lv_at hl 0 rfl) ?_
                                        refine lv_aload_n hx hb d_Mo_pack_308 rfl (lv_at hl 2 rfl) ?_
                                        have hq318 : g315 (a 0) = some (.inl (cA 0, 10200, .inl (wK V))) := by rw [eg315, hv_up_ne _ _ (hnj.1 0 6 (by decide) (by decide) (by decide)), eg311, hv_up_ne _ _ (hnj.1 0 5 (by decide) (by decide) (by decide)), eg307, hv_up_ne _ _ (hnj.1 0 4 (by decide) (by decide) (by decide)), eg303, hv_up_ne _ _ (hnj.1 0 3 (by decide) (by decide) (by decide)), eg299, hv_up_ne _ _ (hnj.1 0 2 (by decide) (by decide) (by decide)), ho9295 _ (hnj.1 0 7 (by decide) (by decide) (by decide)) (hnj.1 0 8 (by decide) (by decide) (by decide)) (hnj.1 0 9 (by decide) (by decide) (by decide)) (hnj.1 0 10 (by decide) (by decide) (by decide)) (hnj.1 0 11 (by decide) (by decide) (by decide)), ho9290 _ (hnj.2 0 (by decide)), eg288, hv_up_ne _ _ (hnj.2 0 (by decide)), eg270, hv_up_ne _ _ (hnj.2 0 (by decide))]; exact hAg.1
                                        have hq319 : g315 (a 1) = some (.inl (cA 0, 51000, .inl V.2.1)) := by rw [eg315, hv_up_ne _ _ (hnj.1 1 6 (by decide) (by decide) (by decide)), eg311, hv_up_ne _ _ (hnj.1 1 5 (by decide) (by decide) (by decide)), eg307, hv_up_ne _ _ (hnj.1 1 4 (by decide) (by decide) (by decide)), eg303, hv_up_ne _ _ (hnj.1 1 3 (by decide) (by decide) (by decide)), eg299, hv_up_ne _ _ (hnj.1 1 2 (by decide) (by decide) (by decide)), ho9295 _ (hnj.1 1 7 (by decide) (by decide) (by decide)) (hnj.1 1 8 (by decide) (by decide) (by decide)) (hnj.1 1 9 (by decide) (by decide) (by decide)) (hnj.1 1 10 (by decide) (by decide) (by decide)) (hnj.1 1 11 (by decide) (by decide) (by decide)), ho9290 _ (hnj.2 1 (by decide)), eg288, hv_up_ne _ _ (hnj.2 1 (by decide)), eg270, hv_up_ne _ _ (hnj.2 1 (by decide))]; exact hAg.2.1
                                        have hq320 : g315 (a 12) = some (.inl (cA 0, 100, .inl (wA V 8))) := by rw [eg315, hv_up_ne _ _ (hnj.1 12 6 (by decide) (by decide) (by decide)), eg311, hv_up_ne _ _ (hnj.1 12 5 (by decide) (by decide) (by decide)), eg307, hv_up_ne _ _ (hnj.1 12 4 (by decide) (by decide) (by decide)), eg303, hv_up_ne _ _ (hnj.1 12 3 (by decide) (by decide) (by decide)), eg299, hv_up_ne _ _ (hnj.1 12 2 (by decide) (by decide) (by decide)), ho9295 _ (hnj.1 12 7 (by decide) (by decide) (by decide)) (hnj.1 12 8 (by decide) (by decide) (by decide)) (hnj.1 12 9 (by decide) (by decide) (by decide)) (hnj.1 12 10 (by decide) (by decide) (by decide)) (hnj.1 12 11 (by decide) (by decide) (by decide)), ho9290 _ (hnj.2 12 (by decide)), eg288, hv_up_ne _ _ (hnj.2 12 (by decide)), eg270, hv_up_ne _ _ (hnj.2 12 (by decide))]; exact (hAg.2.2.2.2 8 (by decide))
                                        refine hv_Vp (As := []) (rest := [.int (nI c9), .ref (a 12)]) hE hml hK hI (c_Mo_deepest l hl0 b0 D cA g315 mo a 0 s9 e9 (nI c9) (true && sz (((v).1) + size.toInt64)) (((v).1) + size.toInt64) ((v).2.1) ((v).2.2.1) ((v).2.1) md V hq317 hnj hq318 hq319 hq320 hse he9 hit) cd_Mo_deepest w660 w662 ws20 hq317 rfl rfl rfl rfl hl.1 (Nat.le_of_ble_eq_true rfl) d_Mo_pack_309 ⟨by decide, by decide⟩ ⟨by decide, by decide⟩ (fun H locs hI => ?_)
                                        refine W.eq (g2 := F0 m 312 ls [.int (dL V s9 (e9 - s9)), .int (nI c9), .ref (a 12)]) rfl ?_
                                        refine lv_iconst (v := 1) hx hb d_Mo_pack_312 (by decide) ?_
                                        refine lv_iadd hx hb d_Mo_pack_313 ?_
                                        refine hv_iast hE hI 0 hq320 rfl (pk_in c9 100 (by omega) rfl (by omega)) d_Mo_pack_314 (fun H locs hI => ?_)
                                        rw [nI_cl (by omega)] at hI
                                        obtain ⟨g321, eg321⟩ : ∃ z : hv_M, z = hv_up g315 (a 12) (.inl (cA 0, 100, .inl (upd (wA V 8) c9 ((dL V s9 (e9 - s9)) + 1)))) := ⟨_, rfl⟩
                                        have hI : hv_I D CL b0 g321 s.heap H locs := by rw [eg321]; exact hI
                                        have hq322 : g321 (a 12) = some (.inl (cA 0, 100, .inl (upd (wA V 8) c9 ((dL V s9 (e9 - s9)) + 1)))) := by rw [eg321]; exact hv_up_self _ _ _
                                        refine lv_aload_n hx hb d_Mo_pack_315 rfl (lv_at hl 2 rfl) ?_
                                        have hq323 : g321 mo = some (moE a 0 (nI s9) (nI e9) (nI c9) (true && sz (((v).1) + size.toInt64)) (((v).1) + size.toInt64) ((v).2.1) ((v).2.2.1) ((v).2.1) md) := by rw [eg321, hv_up_ne _ _ (Ne.symm (hnj.2 12 (by decide)))]; exact hq317
                                        refine hv_get hE k_Mo hI 17 (by decide) w533 hq323 rfl d_Mo_pack_316 ?_
                                        refine lv_iload hx hb d_Mo_pack_319 (lv_at hl 0 rfl) ?_
                                        refine lv_aload_n hx hb d_Mo_pack_321 rfl (lv_at hl 2 rfl) ?_
                                        have hq324 : g321 (a 0) = some (.inl (cA 0, 10200, .inl (wK V))) := by rw [eg321, hv_up_ne _ _ (hnj.1 0 12 (by decide) (by decide) (by decide))]; exact hq318
                                        have hq325 : g321 (a 1) = some (.inl (cA 0, 51000, .inl V.2.1)) := by rw [eg321, hv_up_ne _ _ (hnj.1 1 12 (by decide) (by decide) (by decide))]; exact hq319
                                        have hq326 : g321 (a 13) = some (.inl (cA 0, 100, .inl (wA V 9))) := by rw [eg321, hv_up_ne _ _ (hnj.1 13 12 (by decide) (by decide) (by decide)), eg315, hv_up_ne _ _ (hnj.1 13 6 (by decide) (by decide) (by decide)), eg311, hv_up_ne _ _ (hnj.1 13 5 (by decide) (by decide) (by decide)), eg307, hv_up_ne _ _ (hnj.1 13 4 (by decide) (by decide) (by decide)), eg303, hv_up_ne _ _ (hnj.1 13 3 (by decide) (by decide) (by decide)), eg299, hv_up_ne _ _ (hnj.1 13 2 (by decide) (by decide) (by decide)), ho9295 _ (hnj.1 13 7 (by decide) (by decide) (by decide)) (hnj.1 13 8 (by decide) (by decide) (by decide)) (hnj.1 13 9 (by decide) (by decide) (by decide)) (hnj.1 13 10 (by decide) (by decide) (by decide)) (hnj.1 13 11 (by decide) (by decide) (by decide)), ho9290 _ (hnj.2 13 (by decide)), eg288, hv_up_ne _ _ (hnj.2 13 (by decide)), eg270, hv_up_ne _ _ (hnj.2 13 (by decide))]; exact (hAg.2.2.2.2 9 (by decide))
                                        refine hv_Vp (As := []) (rest := [.int (nI c9), .ref (a 13)]) hE hml hK hI (c_Mo_countAll l hl0 b0 D cA g321 mo a 0 s9 e9 (nI c9) (true && sz (((v).1) + size.toInt64)) (((v).1) + size.toInt64) ((v).2.1) ((v).2.2.1) ((v).2.1) md V hq323 hnj hq324 hq325 hq326 hse he9 hit) cd_Mo_countAll w714 w716 ws31 hq323 rfl rfl rfl rfl hl.1 (Nat.le_of_ble_eq_true rfl) d_Mo_pack_322 ⟨by decide, by decide⟩ ⟨by decide, by decide⟩ (fun H locs hI => ?_)
                                        refine W.eq (g2 := F0 m 325 ls [.int (cA9 V s9 (e9 - s9)), .int (nI c9), .ref (a 13)]) rfl ?_
                                        refine hv_iast hE hI 0 hq326 rfl (pk_in c9 100 (by omega) rfl (by omega)) d_Mo_pack_325 (fun H locs hI => ?_)
                                        rw [nI_cl (by omega)] at hI
                                        obtain ⟨g327, eg327⟩ : ∃ z : hv_M, z = hv_up g321 (a 13) (.inl (cA 0, 100, .inl (upd (wA V 9) c9 (cA9 V s9 (e9 - s9))))) := ⟨_, rfl⟩
                                        have hI : hv_I D CL b0 g327 s.heap H locs := by rw [eg327]; exact hI
                                        have hq328 : g327 (a 13) = some (.inl (cA 0, 100, .inl (upd (wA V 9) c9 (cA9 V s9 (e9 - s9))))) := by rw [eg327]; exact hv_up_self _ _ _
                                        refine lv_aload_n hx hb d_Mo_pack_326 rfl (lv_at hl 2 rfl) ?_
                                        refine lv_dup hx hb d_Mo_pack_327 rfl ?_
                                        have hq329 : g327 mo = some (moE a 0 (nI s9) (nI e9) (nI c9) (true && sz (((v).1) + size.toInt64)) (((v).1) + size.toInt64) ((v).2.1) ((v).2.2.1) ((v).2.1) md) := by rw [eg327, hv_up_ne _ _ (Ne.symm (hnj.2 13 (by decide)))]; exact hq323
                                        refine hv_get hE k_Mo hI 5 (by decide) w521 hq329 rfl d_Mo_pack_328 ?_
                                        refine lv_iconst (v := 1) hx hb d_Mo_pack_331 (by decide) ?_
                                        refine lv_iadd hx hb d_Mo_pack_332 ?_
                                        refine hv_put hE k_Mo hI 5 (by decide) w521 hq329 rfl rfl rfl (Nat.le_of_ble_eq_true rfl) d_Mo_pack_333 (fun H locs hI => ?_)
                                        obtain ⟨g330, eg330⟩ : ∃ z : hv_M, z = hv_up g327 mo (moE a 0 (nI s9) (nI e9) ((nI c9) + 1) (true && sz (((v).1) + size.toInt64)) (((v).1) + size.toInt64) ((v).2.1) ((v).2.2.1) ((v).2.1) md) := ⟨_, rfl⟩
                                        have hI : hv_I D CL b0 g330 s.heap H locs := by rw [eg330]; exact hI
                                        have hq331 : g330 mo = some (moE a 0 (nI s9) (nI e9) ((nI c9) + 1) (true && sz (((v).1) + size.toInt64)) (((v).1) + size.toInt64) ((v).2.1) ((v).2.2.1) ((v).2.1) md) := by rw [eg330]; exact hv_up_self _ _ _
                                        refine lv_aload_n hx hb d_Mo_pack_336 rfl (lv_at hl 2 rfl) ?_
                                        refine lv_aload_n hx hb d_Mo_pack_337 rfl (lv_at hl 2 rfl) ?_
                                        refine hv_get hE k_Mo hI 4 (by decide) w520 hq331 rfl d_Mo_pack_338 ?_
                                        refine hv_put hE k_Mo hI 3 (by decide) w519 hq331 rfl rfl rfl (Nat.le_of_ble_eq_true rfl) d_Mo_pack_341 (fun H locs hI => ?_)
                                        obtain ⟨g332, eg332⟩ : ∃ z : hv_M, z = hv_up g330 mo (moE a 0 (nI e9) (nI e9) ((nI c9) + 1) (true && sz (((v).1) + size.toInt64)) (((v).1) + size.toInt64) ((v).2.1) ((v).2.2.1) ((v).2.1) md) := ⟨_, rfl⟩
                                        have hI : hv_I D CL b0 g332 s.heap H locs := by rw [eg332]; exact hI
                                        have hq333 : g332 mo = some (moE a 0 (nI e9) (nI e9) ((nI c9) + 1) (true && sz (((v).1) + size.toInt64)) (((v).1) + size.toInt64) ((v).2.1) ((v).2.2.1) ((v).2.1) md) := by rw [eg332]; exact hv_up_self _ _ _
                                        refine lv_aload_n hx hb d_Mo_pack_344 rfl (lv_at hl 2 rfl) ?_
                                        refine hv_get hE k_Mo hI 6 (by decide) w522 hq333 rfl d_Mo_pack_345 ?_
                                        refine lv_aload_n hx hb d_Mo_pack_348 rfl (lv_at hl 2 rfl) ?_
                                        refine hv_get hE k_Mo hI 5 (by decide) w521 hq333 rfl d_Mo_pack_349 ?_
                                        refine lv_aload_n hx hb d_Mo_pack_352 rfl (lv_at hl 2 rfl) ?_
                                        refine hv_get hE k_Mo hI 4 (by decide) w520 hq333 rfl d_Mo_pack_353 ?_
                                        have hq334 : g332 (a 2) = some (.inl (cA 0, 101, .inl (upd (fun b => nI (wF V b)) c9 (nI s9)))) := by rw [eg332, hv_up_ne _ _ (hnj.2 2 (by decide)), eg330, hv_up_ne _ _ (hnj.2 2 (by decide)), eg327, hv_up_ne _ _ (hnj.1 2 13 (by decide) (by decide) (by decide)), eg321, hv_up_ne _ _ (hnj.1 2 12 (by decide) (by decide) (by decide)), eg315, hv_up_ne _ _ (hnj.1 2 6 (by decide) (by decide) (by decide)), eg311, hv_up_ne _ _ (hnj.1 2 5 (by decide) (by decide) (by decide)), eg307, hv_up_ne _ _ (hnj.1 2 4 (by decide) (by decide) (by decide)), eg303, hv_up_ne _ _ (hnj.1 2 3 (by decide) (by decide) (by decide))]; exact hq300
                                        refine hv_iast hE hI 0 hq334 rfl (pk_in (c9 + 1) 101 (by omega) (nI_1 c9) (by omega)) d_Mo_pack_356 (fun H locs hI => ?_)
                                        rw [nI_1, nI_cl (by omega)] at hI
                                        obtain ⟨g335, eg335⟩ : ∃ z : hv_M, z = hv_up g332 (a 2) (.inl (cA 0, 101, .inl (upd (upd (fun b => nI (wF V b)) c9 (nI s9)) (c9 + 1) (nI e9)))) := ⟨_, rfl⟩
                                        have hI : hv_I D CL b0 g335 s.heap H locs := by rw [eg335]; exact hI
                                        have hq336 : g335 (a 2) = some (.inl (cA 0, 101, .inl (upd (upd (fun b => nI (wF V b)) c9 (nI s9)) (c9 + 1) (nI e9)))) := by rw [eg335]; exact hv_up_self _ _ _
                                        refine lv_iload hx hb d_Mo_pack_357 (lv_at hl 0 rfl) ?_
                                        have hq337 : g335 mo = some (moE a 0 (nI e9) (nI e9) ((nI c9) + 1) (true && sz (((v).1) + size.toInt64)) (((v).1) + size.toInt64) ((v).2.1) ((v).2.2.1) ((v).2.1) md) := by rw [eg335, hv_up_ne _ _ (Ne.symm (hnj.2 2 (by decide)))]; exact hq333
                                        have hq338 : g335 (a 0) = some (.inl (cA 0, 10200, .inl (wK V))) := by rw [eg335, hv_up_ne _ _ (hnj.1 0 2 (by decide) (by decide) (by decide)), eg332, hv_up_ne _ _ (hnj.2 0 (by decide)), eg330, hv_up_ne _ _ (hnj.2 0 (by decide)), eg327, hv_up_ne _ _ (hnj.1 0 13 (by decide) (by decide) (by decide))]; exact hq324
                                        have hq339 : g335 (a 1) = some (.inl (cA 0, 51000, .inl V.2.1)) := by rw [eg335, hv_up_ne _ _ (hnj.1 1 2 (by decide) (by decide) (by decide)), eg332, hv_up_ne _ _ (hnj.2 1 (by decide)), eg330, hv_up_ne _ _ (hnj.2 1 (by decide)), eg327, hv_up_ne _ _ (hnj.1 1 13 (by decide) (by decide) (by decide))]; exact hq325
                                        have hq340 : g335 (a 3) = some (.inl (cA 2, 100, .inl (upd (fun b => b2i (wB V b)) c9 (b2i bel)))) := by rw [eg335, hv_up_ne _ _ (hnj.1 3 2 (by decide) (by decide) (by decide)), eg332, hv_up_ne _ _ (hnj.2 3 (by decide)), eg330, hv_up_ne _ _ (hnj.2 3 (by decide)), eg327, hv_up_ne _ _ (hnj.1 3 13 (by decide) (by decide) (by decide)), eg321, hv_up_ne _ _ (hnj.1 3 12 (by decide) (by decide) (by decide)), eg315, hv_up_ne _ _ (hnj.1 3 6 (by decide) (by decide) (by decide)), eg311, hv_up_ne _ _ (hnj.1 3 5 (by decide) (by decide) (by decide)), eg307, hv_up_ne _ _ (hnj.1 3 4 (by decide) (by decide) (by decide))]; exact hq304
                                        have hq341 : g335 (a 4) = some (.inl (cA 0, 100, .inl (upd (wA V 0) c9 (((v).2.2.1).toInt32)))) := by rw [eg335, hv_up_ne _ _ (hnj.1 4 2 (by decide) (by decide) (by decide)), eg332, hv_up_ne _ _ (hnj.2 4 (by decide)), eg330, hv_up_ne _ _ (hnj.2 4 (by decide)), eg327, hv_up_ne _ _ (hnj.1 4 13 (by decide) (by decide) (by decide)), eg321, hv_up_ne _ _ (hnj.1 4 12 (by decide) (by decide) (by decide)), eg315, hv_up_ne _ _ (hnj.1 4 6 (by decide) (by decide) (by decide)), eg311, hv_up_ne _ _ (hnj.1 4 5 (by decide) (by decide) (by decide))]; exact hq308
                                        have hq342 : g335 (a 5) = some (.inl (cA 0, 100, .inl (upd (wA V 1) c9 ((((v).1) + size.toInt64).toInt32)))) := by rw [eg335, hv_up_ne _ _ (hnj.1 5 2 (by decide) (by decide) (by decide)), eg332, hv_up_ne _ _ (hnj.2 5 (by decide)), eg330, hv_up_ne _ _ (hnj.2 5 (by decide)), eg327, hv_up_ne _ _ (hnj.1 5 13 (by decide) (by decide) (by decide)), eg321, hv_up_ne _ _ (hnj.1 5 12 (by decide) (by decide) (by decide)), eg315, hv_up_ne _ _ (hnj.1 5 6 (by decide) (by decide) (by decide))]; exact hq312
                                        have hq343 : g335 (a 6) = some (.inl (cA 0, 100, .inl (upd (wA V 2) c9 (((v).2.1).toInt32)))) := by rw [eg335, hv_up_ne _ _ (hnj.1 6 2 (by decide) (by decide) (by decide)), eg332, hv_up_ne _ _ (hnj.2 6 (by decide)), eg330, hv_up_ne _ _ (hnj.2 6 (by decide)), eg327, hv_up_ne _ _ (hnj.1 6 13 (by decide) (by decide) (by decide)), eg321, hv_up_ne _ _ (hnj.1 6 12 (by decide) (by decide) (by decide))]; exact hq316
                                        have hq344 : g335 (a 7) = some (.inl (cA 0, 100, .inl (upd (wA V 3) c9 size.toInt64.toInt32))) := by rw [eg335, hv_up_ne _ _ (hnj.1 7 2 (by decide) (by decide) (by decide)), eg332, hv_up_ne _ _ (hnj.2 7 (by decide)), eg330, hv_up_ne _ _ (hnj.2 7 (by decide)), eg327, hv_up_ne _ _ (hnj.1 7 13 (by decide) (by decide) (by decide)), eg321, hv_up_ne _ _ (hnj.1 7 12 (by decide) (by decide) (by decide)), eg315, hv_up_ne _ _ (hnj.1 7 6 (by decide) (by decide) (by decide)), eg311, hv_up_ne _ _ (hnj.1 7 5 (by decide) (by decide) (by decide)), eg307, hv_up_ne _ _ (hnj.1 7 4 (by decide) (by decide) (by decide)), eg303, hv_up_ne _ _ (hnj.1 7 3 (by decide) (by decide) (by decide)), eg299, hv_up_ne _ _ (hnj.1 7 2 (by decide) (by decide) (by decide))]; exact ha295
                                        have hq345 : g335 (a 8) = some (.inl (cA 0, 100, .inl (upd (wA V 4) c9 ((otF size.toInt64 ((v).2.2.2.2.1, (v).2.2.2.2.2)).1)))) := by rw [eg335, hv_up_ne _ _ (hnj.1 8 2 (by decide) (by decide) (by decide)), eg332, hv_up_ne _ _ (hnj.2 8 (by decide)), eg330, hv_up_ne _ _ (hnj.2 8 (by decide)), eg327, hv_up_ne _ _ (hnj.1 8 13 (by decide) (by decide) (by decide)), eg321, hv_up_ne _ _ (hnj.1 8 12 (by decide) (by decide) (by decide)), eg315, hv_up_ne _ _ (hnj.1 8 6 (by decide) (by decide) (by decide)), eg311, hv_up_ne _ _ (hnj.1 8 5 (by decide) (by decide) (by decide)), eg307, hv_up_ne _ _ (hnj.1 8 4 (by decide) (by decide) (by decide)), eg303, hv_up_ne _ _ (hnj.1 8 3 (by decide) (by decide) (by decide)), eg299, hv_up_ne _ _ (hnj.1 8 2 (by decide) (by decide) (by decide))]; exact hb295
                                        have hq346 : g335 (a 9) = some (.inl (cA 0, 100, .inl (upd (wA V 5) c9 ((otF size.toInt64 ((v).2.2.2.2.1, (v).2.2.2.2.2)).2)))) := by rw [eg335, hv_up_ne _ _ (hnj.1 9 2 (by decide) (by decide) (by decide)), eg332, hv_up_ne _ _ (hnj.2 9 (by decide)), eg330, hv_up_ne _ _ (hnj.2 9 (by decide)), eg327, hv_up_ne _ _ (hnj.1 9 13 (by decide) (by decide) (by decide)), eg321, hv_up_ne _ _ (hnj.1 9 12 (by decide) (by decide) (by decide)), eg315, hv_up_ne _ _ (hnj.1 9 6 (by decide) (by decide) (by decide)), eg311, hv_up_ne _ _ (hnj.1 9 5 (by decide) (by decide) (by decide)), eg307, hv_up_ne _ _ (hnj.1 9 4 (by decide) (by decide) (by decide)), eg303, hv_up_ne _ _ (hnj.1 9 3 (by decide) (by decide) (by decide)), eg299, hv_up_ne _ _ (hnj.1 9 2 (by decide) (by decide) (by decide))]; exact hc295
                                        have hq347 : g335 (a 10) = some (.inl (cA 0, 100, .inl (upd (wA V 6) c9 (baM size.toInt64 (otF size.toInt64 ((v).2.2.2.2.1, (v).2.2.2.2.2)))))) := by rw [eg335, hv_up_ne _ _ (hnj.1 10 2 (by decide) (by decide) (by decide)), eg332, hv_up_ne _ _ (hnj.2 10 (by decide)), eg330, hv_up_ne _ _ (hnj.2 10 (by decide)), eg327, hv_up_ne _ _ (hnj.1 10 13 (by decide) (by decide) (by decide)), eg321, hv_up_ne _ _ (hnj.1 10 12 (by decide) (by decide) (by decide)), eg315, hv_up_ne _ _ (hnj.1 10 6 (by decide) (by decide) (by decide)), eg311, hv_up_ne _ _ (hnj.1 10 5 (by decide) (by decide) (by decide)), eg307, hv_up_ne _ _ (hnj.1 10 4 (by decide) (by decide) (by decide)), eg303, hv_up_ne _ _ (hnj.1 10 3 (by decide) (by decide) (by decide)), eg299, hv_up_ne _ _ (hnj.1 10 2 (by decide) (by decide) (by decide))]; exact hd295
                                        have hq348 : g335 (a 11) = some (.inl (cA 0, 100, .inl (upd (wA V 7) c9 (ovM size.toInt64 (otF size.toInt64 ((v).2.2.2.2.1, (v).2.2.2.2.2)))))) := by rw [eg335, hv_up_ne _ _ (hnj.1 11 2 (by decide) (by decide) (by decide)), eg332, hv_up_ne _ _ (hnj.2 11 (by decide)), eg330, hv_up_ne _ _ (hnj.2 11 (by decide)), eg327, hv_up_ne _ _ (hnj.1 11 13 (by decide) (by decide) (by decide)), eg321, hv_up_ne _ _ (hnj.1 11 12 (by decide) (by decide) (by decide)), eg315, hv_up_ne _ _ (hnj.1 11 6 (by decide) (by decide) (by decide)), eg311, hv_up_ne _ _ (hnj.1 11 5 (by decide) (by decide) (by decide)), eg307, hv_up_ne _ _ (hnj.1 11 4 (by decide) (by decide) (by decide)), eg303, hv_up_ne _ _ (hnj.1 11 3 (by decide) (by decide) (by decide)), eg299, hv_up_ne _ _ (hnj.1 11 2 (by decide) (by decide) (by decide))]; exact he295
                                        have hq349 : g335 (a 12) = some (.inl (cA 0, 100, .inl (upd (wA V 8) c9 ((dL V s9 (e9 - s9)) + 1)))) := by rw [eg335, hv_up_ne _ _ (hnj.1 12 2 (by decide) (by decide) (by decide)), eg332, hv_up_ne _ _ (hnj.2 12 (by decide)), eg330, hv_up_ne _ _ (hnj.2 12 (by decide)), eg327, hv_up_ne _ _ (hnj.1 12 13 (by decide) (by decide) (by decide))]; exact hq322
                                        have hq350 : g335 (a 13) = some (.inl (cA 0, 100, .inl (upd (wA V 9) c9 (cA9 V s9 (e9 - s9))))) := by rw [eg335, hv_up_ne _ _ (hnj.1 13 2 (by decide) (by decide) (by decide)), eg332, hv_up_ne _ _ (hnj.2 13 (by decide)), eg330, hv_up_ne _ _ (hnj.2 13 (by decide))]; exact hq328
                                        have hq351 : g335 (a 14) = some (.inl (cA 1, 4, .inr (.inl (v).2.2.2.2.1))) := by rw [eg335, hv_up_ne _ _ (hnj.1 14 2 (by decide) (by decide) (by decide)), eg332, hv_up_ne _ _ (hnj.2 14 (by decide)), eg330, hv_up_ne _ _ (hnj.2 14 (by decide)), eg327, hv_up_ne _ _ (hnj.1 14 13 (by decide) (by decide) (by decide)), eg321, hv_up_ne _ _ (hnj.1 14 12 (by decide) (by decide) (by decide)), eg315, hv_up_ne _ _ (hnj.1 14 6 (by decide) (by decide) (by decide)), eg311, hv_up_ne _ _ (hnj.1 14 5 (by decide) (by decide) (by decide)), eg307, hv_up_ne _ _ (hnj.1 14 4 (by decide) (by decide) (by decide)), eg303, hv_up_ne _ _ (hnj.1 14 3 (by decide) (by decide) (by decide)), eg299, hv_up_ne _ _ (hnj.1 14 2 (by decide) (by decide) (by decide)), ho9295 _ (hnj.1 14 7 (by decide) (by decide) (by decide)) (hnj.1 14 8 (by decide) (by decide) (by decide)) (hnj.1 14 9 (by decide) (by decide) (by decide)) (hnj.1 14 10 (by decide) (by decide) (by decide)) (hnj.1 14 11 (by decide) (by decide) (by decide))]; exact hq292
                                        have hq352 : g335 (a 15) = some (.inl (cA 1, 4, .inr (.inl (v).2.2.2.2.2))) := by rw [eg335, hv_up_ne _ _ (hnj.1 15 2 (by decide) (by decide) (by decide)), eg332, hv_up_ne _ _ (hnj.2 15 (by decide)), eg330, hv_up_ne _ _ (hnj.2 15 (by decide)), eg327, hv_up_ne _ _ (hnj.1 15 13 (by decide) (by decide) (by decide)), eg321, hv_up_ne _ _ (hnj.1 15 12 (by decide) (by decide) (by decide)), eg315, hv_up_ne _ _ (hnj.1 15 6 (by decide) (by decide) (by decide)), eg311, hv_up_ne _ _ (hnj.1 15 5 (by decide) (by decide) (by decide)), eg307, hv_up_ne _ _ (hnj.1 15 4 (by decide) (by decide) (by decide)), eg303, hv_up_ne _ _ (hnj.1 15 3 (by decide) (by decide) (by decide)), eg299, hv_up_ne _ _ (hnj.1 15 2 (by decide) (by decide) (by decide)), ho9295 _ (hnj.1 15 7 (by decide) (by decide) (by decide)) (hnj.1 15 8 (by decide) (by decide) (by decide)) (hnj.1 15 9 (by decide) (by decide) (by decide)) (hnj.1 15 10 (by decide) (by decide) (by decide)) (hnj.1 15 11 (by decide) (by decide) (by decide))]; exact hq293
                                        have hat : atM V bel how size gr s9 (e9 - s9) v = fun j => [(((v).2.2.1).toInt32), ((((v).1) + size.toInt64).toInt32), (((v).2.1).toInt32), size.toInt64.toInt32, (otF size.toInt64 ((v).2.2.2.2.1, (v).2.2.2.2.2)).1, (otF size.toInt64 ((v).2.2.2.2.1, (v).2.2.2.2.2)).2, baM size.toInt64 (otF size.toInt64 ((v).2.2.2.2.1, (v).2.2.2.2.2)), ovM size.toInt64 (otF size.toInt64 ((v).2.2.2.2.1, (v).2.2.2.2.2)), ((dL V s9 (e9 - s9)) + 1), (cA9 V s9 (e9 - s9))].getD j 0 := by funext j9; simp only [atM, hln, hex, hun]; simp only [k99, if_true, if_false, Bool.false_eq_true]
                                        exact hv_iret hE hr hlocks hI hK (v := nI c9) ((show _ ∨ _ by rw [← ev, ← eG]; exact Or.inr (Or.inr (Or.inr ⟨(by simp [okPack, c2, n2, c7, n7, k15, k24]), hcc, c46, by rw [hgd, k172, k180]; simpa using k201, rfl, ⟨_, (((v).1) + size.toInt64, (v).2.1, (v).2.2.1, (v).2.1, (v).2.2.2.2.1, (v).2.2.2.2.2), by rw [← nI_1]; exact hq337, hq351, hq352⟩, by rw [hat]; exact ⟨hq338, hq339, by rw [← pkW_F]; exact hq336, by rw [← pkW_B]; exact hq340, fun j hj => match j, hj with | 0, _ => hq341 | 1, _ => hq342 | 2, _ => hq343 | 3, _ => hq344 | 4, _ => hq345 | 5, _ => hq346 | 6, _ => hq347 | 7, _ => hq348 | 8, _ => hq349 | 9, _ => hq350 | j + 10, h9 => absurd h9 (by omega)⟩, fun z z1 hz => by rw [eg335, hv_up_ne _ _ (hz 2 (by decide) (by decide)), eg332, hv_up_ne _ _ z1, eg330, hv_up_ne _ _ z1, eg327, hv_up_ne _ _ (hz 13 (by decide) (by decide)), eg321, hv_up_ne _ _ (hz 12 (by decide) (by decide)), eg315, hv_up_ne _ _ (hz 6 (by decide) (by decide)), eg311, hv_up_ne _ _ (hz 5 (by decide) (by decide)), eg307, hv_up_ne _ _ (hz 4 (by decide) (by decide)), eg303, hv_up_ne _ _ (hz 3 (by decide) (by decide)), eg299, hv_up_ne _ _ (hz 2 (by decide) (by decide)), ho9295 _ (hz 7 (by decide) (by decide)) (hz 8 (by decide) (by decide)) (hz 9 (by decide) (by decide)) (hz 10 (by decide) (by decide)) (hz 11 (by decide) (by decide)), ho9290 _ z1, eg288, hv_up_ne _ _ z1, eg270, hv_up_ne _ _ z1]; exact hfo z z1 (hz 14 (by decide) (by decide)) (hz 15 (by decide) (by decide))⟩)))) (by decide) (by decide) d_Mo_pack_359
                                  · skip
                                    have k201 := b2i_f c201
                                    refine lv_aload_n hx hb d_Mo_pack_204 rfl (lv_at hl 1 rfl) ?_
                                    refine lv_iconst (v := 3) hx hb d_Mo_pack_205 (by decide) ?_
                                    refine hv_put hE k_Mo hI 0 (by decide) w516 hg290 rfl rfl rfl (Nat.le_of_ble_eq_true rfl) d_Mo_pack_206 (fun H locs hI => ?_)
                                    obtain ⟨g353, eg353⟩ : ∃ z : hv_M, z = hv_up g291 mo (moE a 3 (nI s9) (nI e9) (nI c9) (true && sz (((v).1) + size.toInt64)) (((v).1) + size.toInt64) ((v).2.1) ((v).2.2.1) ((v).2.1) md) := ⟨_, rfl⟩
                                    have hI : hv_I D CL b0 g353 s.heap H locs := by rw [eg353]; exact hI
                                    have hq354 : g353 mo = some (moE a 3 (nI s9) (nI e9) (nI c9) (true && sz (((v).1) + size.toInt64)) (((v).1) + size.toInt64) ((v).2.1) ((v).2.2.1) ((v).2.1) md) := by rw [eg353]; exact hv_up_self _ _ _
                                    refine lv_iconst (v := 0) hx hb d_Mo_pack_209 (by decide) ?_
                                    have hq355 : g353 (a 14) = some (.inl (cA 1, 4, .inr (.inl (v).2.2.2.2.1))) := by rw [eg353, hv_up_ne _ _ (hnj.2 14 (by decide)), ho9290 _ (hnj.2 14 (by decide)), eg288, hv_up_ne _ _ (hnj.2 14 (by decide)), eg270, hv_up_ne _ _ (hnj.2 14 (by decide))]; exact hs.2.1
                                    have hq356 : g353 (a 15) = some (.inl (cA 1, 4, .inr (.inl (v).2.2.2.2.2))) := by rw [eg353, hv_up_ne _ _ (hnj.2 15 (by decide)), ho9290 _ (hnj.2 15 (by decide)), eg288, hv_up_ne _ _ (hnj.2 15 (by decide)), eg270, hv_up_ne _ _ (hnj.2 15 (by decide))]; exact hs.2.2
                                    exact hv_iret hE hr hlocks hI hK (v := 0) ((show _ ∨ _ by rw [← ev, ← eG]; exact Or.inr (Or.inr (Or.inl ⟨(by simp [okPack, c2, n2, c7, n7, k15, k24]), hcc, c46, by rw [hgd, k172, k180]; simpa using k201, rfl, ⟨_, (((v).1) + size.toInt64, (v).2.1, (v).2.2.1, (v).2.1, (v).2.2.2.2.1, (v).2.2.2.2.2), hq354, hq355, hq356⟩, fun z z1 z2 z3 => by rw [eg353, hv_up_ne _ _ z1, ho9290 _ z1, eg288, hv_up_ne _ _ z1, eg270, hv_up_ne _ _ z1]; exact hfo z z1 z2 z3⟩)))) (by decide) (by decide) d_Mo_pack_210
                            · skip
                              refine lv_iload_n hx hb d_Mo_pack_153 rfl (lv_at hl 3 rfl) ?_
                              refine lv_i2l (v := size.toInt64) hx hb d_Mo_pack_154 rfl ?_
                              refine lv_aload_n hx hb d_Mo_pack_155 rfl (lv_at hl 0 rfl) ?_
                              refine hv_get hE k_Mo hI 19 (by decide) w535 hq271 rfl d_Mo_pack_156 ?_
                              refine lv_lsub hx hb d_Mo_pack_159 ?_
                              refine lv_goto (tgt := 165) hx hb d_Mo_pack_160 (by decide) ?_
                              refine lv_lstore (lv' := [(5, .long (size.toInt64 - ((v).1))), (0, .ref mo), (1, .int (b2i bel)), (2, .int how), (3, .int size), (4, .int gr)]) hx hb d_Mo_pack_165 hl (by decide) rfl (fun ls hl => ?_)
                              have hln : lnM bel gr v = (v).1 := by simp only [lnM, k99, n118, and_true, true_and, and_false, false_and, if_true, if_false, Bool.false_eq_true]
                              have hun : unM bel gr v = (v).2.1 := by simp only [unM, k99, n118, if_true, if_false, Bool.false_eq_true]
                              have hex : exM how size ((v).1) = size.toInt64 - ((v).1) := by simp only [exM, c141, c150, if_true, if_false, show ¬ (1 : Int32) = 0 from by decide]
                              have hgd : (G && gdM bel how size gr v) = (G && sz (size.toInt64 - ((v).1)) && sz (((v).1) + (size.toInt64 - ((v).1)))) := by simp only [gdM, hln, hex]; simp [k99, n118, Bool.and_assoc]
                              refine lv_aload_n hx hb d_Mo_pack_167 rfl (lv_at hl 1 rfl) ?_
                              refine lv_aload_n hx hb d_Mo_pack_168 rfl (lv_at hl 1 rfl) ?_
                              refine hv_get hE k_Mo hI 18 (by decide) w534 hq271 rfl d_Mo_pack_169 ?_
                              refine lv_if_eq (tgt := 187) hx hb d_Mo_pack_172 (by decide) (fun c172 => ?_) (fun c172 => ?_)
                              · skip
                                have k172 := b2i_f c172
                                refine lv_iconst (v := 0) hx hb d_Mo_pack_187 (by decide) ?_
                                refine hv_put hE k_Mo hI 18 (by decide) w534 hq271 rfl rfl rfl (Nat.le_of_ble_eq_true rfl) d_Mo_pack_188 (fun H locs hI => ?_)
                                obtain ⟨g357, eg357⟩ : ∃ z : hv_M, z = hv_up g270 mo (moE a 0 (nI s9) (nI e9) (nI c9) false ((v).1) ((v).2.1) ((v).2.2.1) ((v).2.1) md) := ⟨_, rfl⟩
                                have hI : hv_I D CL b0 g357 s.heap H locs := by rw [eg357]; exact hI
                                have hq358 : g357 mo = some (moE a 0 (nI s9) (nI e9) (nI c9) false ((v).1) ((v).2.1) ((v).2.2.1) ((v).2.1) md) := by rw [eg357]; exact hv_up_self _ _ _
                                refine lv_aload_n hx hb d_Mo_pack_191 rfl (lv_at hl 1 rfl) ?_
                                refine lv_lload hx hb d_Mo_pack_192 (lv_at hl 0 rfl) ?_
                                refine hv_V (As := [.long (size.toInt64 - ((v).1))]) (rest := []) hE hml hK hI (c_Mo_grow l hl0 b0 D cA g357 mo a 0 (nI s9) (nI e9) (nI c9) false ((v).1) ((v).2.1) ((v).2.2.1) ((v).2.1) md (size.toInt64 - ((v).1)) hq358 hnj) cd_Mo_grow w684 w686 ws26 hq358 rfl rfl hl.1 (Nat.le_of_ble_eq_true rfl) d_Mo_pack_194 ⟨by decide, by decide⟩ ⟨by decide, by decide⟩ (fun v9 g360 H locs hp hI => ?_) (fun q9 E9 ce9 g9 H locs hp => hp.elim)
                                obtain ⟨hv, hg359, ho9359⟩ := hp
                                rw [hv]
                                refine W.eq (g2 := F0 m 197 ls []) rfl ?_
                                refine lv_aload_n hx hb d_Mo_pack_197 rfl (lv_at hl 1 rfl) ?_
                                refine hv_get hE k_Mo hI 18 (by decide) w534 hg359 rfl d_Mo_pack_198 ?_
                                refine lv_if_ne (tgt := 211) hx hb d_Mo_pack_201 (by decide) (fun c201 => ?_) (fun c201 => ?_)
                                · skip
                                  have k201 := b2i_t c201
                                  exact absurd k201 (by simp)
                                · skip
                                  have k201 := b2i_f c201
                                  refine lv_aload_n hx hb d_Mo_pack_204 rfl (lv_at hl 1 rfl) ?_
                                  refine lv_iconst (v := 3) hx hb d_Mo_pack_205 (by decide) ?_
                                  refine hv_put hE k_Mo hI 0 (by decide) w516 hg359 rfl rfl rfl (Nat.le_of_ble_eq_true rfl) d_Mo_pack_206 (fun H locs hI => ?_)
                                  obtain ⟨g361, eg361⟩ : ∃ z : hv_M, z = hv_up g360 mo (moE a 3 (nI s9) (nI e9) (nI c9) (false && sz (((v).1) + (size.toInt64 - ((v).1)))) (((v).1) + (size.toInt64 - ((v).1))) ((v).2.1) ((v).2.2.1) ((v).2.1) md) := ⟨_, rfl⟩
                                  have hI : hv_I D CL b0 g361 s.heap H locs := by rw [eg361]; exact hI
                                  have hq362 : g361 mo = some (moE a 3 (nI s9) (nI e9) (nI c9) (false && sz (((v).1) + (size.toInt64 - ((v).1)))) (((v).1) + (size.toInt64 - ((v).1))) ((v).2.1) ((v).2.2.1) ((v).2.1) md) := by rw [eg361]; exact hv_up_self _ _ _
                                  refine lv_iconst (v := 0) hx hb d_Mo_pack_209 (by decide) ?_
                                  have hq363 : g361 (a 14) = some (.inl (cA 1, 4, .inr (.inl (v).2.2.2.2.1))) := by rw [eg361, hv_up_ne _ _ (hnj.2 14 (by decide)), ho9359 _ (hnj.2 14 (by decide)), eg357, hv_up_ne _ _ (hnj.2 14 (by decide)), eg270, hv_up_ne _ _ (hnj.2 14 (by decide))]; exact hs.2.1
                                  have hq364 : g361 (a 15) = some (.inl (cA 1, 4, .inr (.inl (v).2.2.2.2.2))) := by rw [eg361, hv_up_ne _ _ (hnj.2 15 (by decide)), ho9359 _ (hnj.2 15 (by decide)), eg357, hv_up_ne _ _ (hnj.2 15 (by decide)), eg270, hv_up_ne _ _ (hnj.2 15 (by decide))]; exact hs.2.2
                                  exact hv_iret hE hr hlocks hI hK (v := 0) ((show _ ∨ _ by rw [← ev, ← eG]; exact Or.inr (Or.inr (Or.inl ⟨(by simp [okPack, c2, n2, c7, n7, k15, k24]), hcc, c46, by rw [hgd]; simp [k172], rfl, ⟨_, (((v).1) + (size.toInt64 - ((v).1)), (v).2.1, (v).2.2.1, (v).2.1, (v).2.2.2.2.1, (v).2.2.2.2.2), hq362, hq363, hq364⟩, fun z z1 z2 z3 => by rw [eg361, hv_up_ne _ _ z1, ho9359 _ z1, eg357, hv_up_ne _ _ z1, eg270, hv_up_ne _ _ z1]; exact hfo z z1 z2 z3⟩)))) (by decide) (by decide) d_Mo_pack_210
                              · skip
                                have k172 := b2i_t c172
                                refine lv_lload hx hb d_Mo_pack_175 (lv_at hl 0 rfl) ?_
                                refine hv_Sp (As := [.long (size.toInt64 - ((v).1))]) (rest := [.ref mo]) hE hml hK hI (c_Mo_isSize l hl0 b0 D cA g270 (size.toInt64 - ((v).1))) cd_Mo_isSize w608 w609 rfl rfl rfl hl.1 (Nat.le_of_ble_eq_true rfl) d_Mo_pack_177 ⟨by decide, by decide⟩ ⟨by decide, by decide⟩ (fun H locs hI => ?_)
                                refine W.eq (g2 := F0 m 180 ls [.int (b2i (sz (size.toInt64 - ((v).1)))), .ref mo]) rfl ?_
                                refine lv_if_eq (tgt := 187) hx hb d_Mo_pack_180 (by decide) (fun c180 => ?_) (fun c180 => ?_)
                                · skip
                                  have k180 := b2i_f c180
                                  refine lv_iconst (v := 0) hx hb d_Mo_pack_187 (by decide) ?_
                                  refine hv_put hE k_Mo hI 18 (by decide) w534 hq271 rfl rfl rfl (Nat.le_of_ble_eq_true rfl) d_Mo_pack_188 (fun H locs hI => ?_)
                                  obtain ⟨g365, eg365⟩ : ∃ z : hv_M, z = hv_up g270 mo (moE a 0 (nI s9) (nI e9) (nI c9) false ((v).1) ((v).2.1) ((v).2.2.1) ((v).2.1) md) := ⟨_, rfl⟩
                                  have hI : hv_I D CL b0 g365 s.heap H locs := by rw [eg365]; exact hI
                                  have hq366 : g365 mo = some (moE a 0 (nI s9) (nI e9) (nI c9) false ((v).1) ((v).2.1) ((v).2.2.1) ((v).2.1) md) := by rw [eg365]; exact hv_up_self _ _ _
                                  refine lv_aload_n hx hb d_Mo_pack_191 rfl (lv_at hl 1 rfl) ?_
                                  refine lv_lload hx hb d_Mo_pack_192 (lv_at hl 0 rfl) ?_
                                  refine hv_V (As := [.long (size.toInt64 - ((v).1))]) (rest := []) hE hml hK hI (c_Mo_grow l hl0 b0 D cA g365 mo a 0 (nI s9) (nI e9) (nI c9) false ((v).1) ((v).2.1) ((v).2.2.1) ((v).2.1) md (size.toInt64 - ((v).1)) hq366 hnj) cd_Mo_grow w684 w686 ws26 hq366 rfl rfl hl.1 (Nat.le_of_ble_eq_true rfl) d_Mo_pack_194 ⟨by decide, by decide⟩ ⟨by decide, by decide⟩ (fun v9 g368 H locs hp hI => ?_) (fun q9 E9 ce9 g9 H locs hp => hp.elim)
                                  obtain ⟨hv, hg367, ho9367⟩ := hp
                                  rw [hv]
                                  refine W.eq (g2 := F0 m 197 ls []) rfl ?_
                                  refine lv_aload_n hx hb d_Mo_pack_197 rfl (lv_at hl 1 rfl) ?_
                                  refine hv_get hE k_Mo hI 18 (by decide) w534 hg367 rfl d_Mo_pack_198 ?_
                                  refine lv_if_ne (tgt := 211) hx hb d_Mo_pack_201 (by decide) (fun c201 => ?_) (fun c201 => ?_)
                                  · skip
                                    have k201 := b2i_t c201
                                    exact absurd k201 (by simp)
                                  · skip
                                    have k201 := b2i_f c201
                                    refine lv_aload_n hx hb d_Mo_pack_204 rfl (lv_at hl 1 rfl) ?_
                                    refine lv_iconst (v := 3) hx hb d_Mo_pack_205 (by decide) ?_
                                    refine hv_put hE k_Mo hI 0 (by decide) w516 hg367 rfl rfl rfl (Nat.le_of_ble_eq_true rfl) d_Mo_pack_206 (fun H locs hI => ?_)
                                    obtain ⟨g369, eg369⟩ : ∃ z : hv_M, z = hv_up g368 mo (moE a 3 (nI s9) (nI e9) (nI c9) (false && sz (((v).1) + (size.toInt64 - ((v).1)))) (((v).1) + (size.toInt64 - ((v).1))) ((v).2.1) ((v).2.2.1) ((v).2.1) md) := ⟨_, rfl⟩
                                    have hI : hv_I D CL b0 g369 s.heap H locs := by rw [eg369]; exact hI
                                    have hq370 : g369 mo = some (moE a 3 (nI s9) (nI e9) (nI c9) (false && sz (((v).1) + (size.toInt64 - ((v).1)))) (((v).1) + (size.toInt64 - ((v).1))) ((v).2.1) ((v).2.2.1) ((v).2.1) md) := by rw [eg369]; exact hv_up_self _ _ _
                                    refine lv_iconst (v := 0) hx hb d_Mo_pack_209 (by decide) ?_
                                    have hq371 : g369 (a 14) = some (.inl (cA 1, 4, .inr (.inl (v).2.2.2.2.1))) := by rw [eg369, hv_up_ne _ _ (hnj.2 14 (by decide)), ho9367 _ (hnj.2 14 (by decide)), eg365, hv_up_ne _ _ (hnj.2 14 (by decide)), eg270, hv_up_ne _ _ (hnj.2 14 (by decide))]; exact hs.2.1
                                    have hq372 : g369 (a 15) = some (.inl (cA 1, 4, .inr (.inl (v).2.2.2.2.2))) := by rw [eg369, hv_up_ne _ _ (hnj.2 15 (by decide)), ho9367 _ (hnj.2 15 (by decide)), eg365, hv_up_ne _ _ (hnj.2 15 (by decide)), eg270, hv_up_ne _ _ (hnj.2 15 (by decide))]; exact hs.2.2
                                    exact hv_iret hE hr hlocks hI hK (v := 0) ((show _ ∨ _ by rw [← ev, ← eG]; exact Or.inr (Or.inr (Or.inl ⟨(by simp [okPack, c2, n2, c7, n7, k15, k24]), hcc, c46, by rw [hgd]; simp [k172, k180], rfl, ⟨_, (((v).1) + (size.toInt64 - ((v).1)), (v).2.1, (v).2.2.1, (v).2.1, (v).2.2.2.2.1, (v).2.2.2.2.2), hq370, hq371, hq372⟩, fun z z1 z2 z3 => by rw [eg369, hv_up_ne _ _ z1, ho9367 _ z1, eg365, hv_up_ne _ _ z1, eg270, hv_up_ne _ _ z1]; exact hfo z z1 z2 z3⟩)))) (by decide) (by decide) d_Mo_pack_210
                                · skip
                                  have k180 := b2i_t c180
                                  refine lv_iconst (v := 1) hx hb d_Mo_pack_183 (by decide) ?_
                                  refine lv_goto (tgt := 188) hx hb d_Mo_pack_184 (by decide) ?_
                                  refine hv_put hE k_Mo hI 18 (by decide) w534 hq271 rfl rfl rfl (Nat.le_of_ble_eq_true rfl) d_Mo_pack_188 (fun H locs hI => ?_)
                                  obtain ⟨g373, eg373⟩ : ∃ z : hv_M, z = hv_up g270 mo (moE a 0 (nI s9) (nI e9) (nI c9) true ((v).1) ((v).2.1) ((v).2.2.1) ((v).2.1) md) := ⟨_, rfl⟩
                                  have hI : hv_I D CL b0 g373 s.heap H locs := by rw [eg373]; exact hI
                                  have hq374 : g373 mo = some (moE a 0 (nI s9) (nI e9) (nI c9) true ((v).1) ((v).2.1) ((v).2.2.1) ((v).2.1) md) := by rw [eg373]; exact hv_up_self _ _ _
                                  refine lv_aload_n hx hb d_Mo_pack_191 rfl (lv_at hl 1 rfl) ?_
                                  refine lv_lload hx hb d_Mo_pack_192 (lv_at hl 0 rfl) ?_
                                  refine hv_V (As := [.long (size.toInt64 - ((v).1))]) (rest := []) hE hml hK hI (c_Mo_grow l hl0 b0 D cA g373 mo a 0 (nI s9) (nI e9) (nI c9) true ((v).1) ((v).2.1) ((v).2.2.1) ((v).2.1) md (size.toInt64 - ((v).1)) hq374 hnj) cd_Mo_grow w684 w686 ws26 hq374 rfl rfl hl.1 (Nat.le_of_ble_eq_true rfl) d_Mo_pack_194 ⟨by decide, by decide⟩ ⟨by decide, by decide⟩ (fun v9 g376 H locs hp hI => ?_) (fun q9 E9 ce9 g9 H locs hp => hp.elim)
                                  obtain ⟨hv, hg375, ho9375⟩ := hp
                                  rw [hv]
                                  refine W.eq (g2 := F0 m 197 ls []) rfl ?_
                                  refine lv_aload_n hx hb d_Mo_pack_197 rfl (lv_at hl 1 rfl) ?_
                                  refine hv_get hE k_Mo hI 18 (by decide) w534 hg375 rfl d_Mo_pack_198 ?_
                                  refine lv_if_ne (tgt := 211) hx hb d_Mo_pack_201 (by decide) (fun c201 => ?_) (fun c201 => ?_)
                                  · skip
                                    have k201 := b2i_t c201
                                    refine lv_aload_n hx hb d_Mo_pack_211 rfl (lv_at hl 1 rfl) ?_
                                    refine hv_get hE k_Mo hI 5 (by decide) w521 hg375 rfl d_Mo_pack_212 ?_
                                    refine lv_istore (lv' := [(7, .int (nI c9)), (5, .long (size.toInt64 - ((v).1))), (0, .ref mo), (1, .int (b2i bel)), (2, .int how), (3, .int size), (4, .int gr)]) hx hb d_Mo_pack_215 hl (by decide) rfl (fun ls hl => ?_)
                                    refine lv_aload_n hx hb d_Mo_pack_217 rfl (lv_at hl 2 rfl) ?_
                                    refine lv_iload hx hb d_Mo_pack_218 (lv_at hl 0 rfl) ?_
                                    refine lv_lload hx hb d_Mo_pack_220 (lv_at hl 1 rfl) ?_
                                    have hq377 : g376 (a 14) = some (.inl (cA 1, 4, .inr (.inl (v).2.2.2.2.1))) := by rw [ho9375 _ (hnj.2 14 (by decide)), eg373, hv_up_ne _ _ (hnj.2 14 (by decide)), eg270, hv_up_ne _ _ (hnj.2 14 (by decide))]; exact hs.2.1
                                    have hq378 : g376 (a 15) = some (.inl (cA 1, 4, .inr (.inl (v).2.2.2.2.2))) := by rw [ho9375 _ (hnj.2 15 (by decide)), eg373, hv_up_ne _ _ (hnj.2 15 (by decide)), eg270, hv_up_ne _ _ (hnj.2 15 (by decide))]; exact hs.2.2
                                    have hA379 : moA cA g376 a V := ⟨by rw [ho9375 _ (hnj.2 0 (by decide)), eg373, hv_up_ne _ _ (hnj.2 0 (by decide)), eg270, hv_up_ne _ _ (hnj.2 0 (by decide))]; exact hAg.1, by rw [ho9375 _ (hnj.2 1 (by decide)), eg373, hv_up_ne _ _ (hnj.2 1 (by decide)), eg270, hv_up_ne _ _ (hnj.2 1 (by decide))]; exact hAg.2.1, by rw [ho9375 _ (hnj.2 2 (by decide)), eg373, hv_up_ne _ _ (hnj.2 2 (by decide)), eg270, hv_up_ne _ _ (hnj.2 2 (by decide))]; exact hAg.2.2.1, by rw [ho9375 _ (hnj.2 3 (by decide)), eg373, hv_up_ne _ _ (hnj.2 3 (by decide)), eg270, hv_up_ne _ _ (hnj.2 3 (by decide))]; exact hAg.2.2.2.1, fun j9 hj9 => by rw [ho9375 _ (hnj.2 (4 + j9) (by omega)), eg373, hv_up_ne _ _ (hnj.2 (4 + j9) (by omega)), eg270, hv_up_ne _ _ (hnj.2 (4 + j9) (by omega))]; exact hAg.2.2.2.2 j9 hj9⟩
                                    refine hv_V (As := [.int (nI c9), .long (size.toInt64 - ((v).1))]) (rest := []) hE hml hK hI (c_Mo_setGlue l hl0 b0 D cA g376 mo a 0 (nI s9) (nI e9) (nI c9) (true && sz (((v).1) + (size.toInt64 - ((v).1)))) (((v).1) + (size.toInt64 - ((v).1))) ((v).2.1) ((v).2.2.1) ((v).2.1) md V ((v).2.2.2.2.1) ((v).2.2.2.2.2) (size.toInt64 - ((v).1)) c9 hg375 hnj hA379 hq377 hq378 (by omega)) cd_Mo_setGlue w700 w702 ws30 hg375 rfl rfl hl.1 (Nat.le_of_ble_eq_true rfl) d_Mo_pack_222 ⟨by decide, by decide⟩ ⟨by decide, by decide⟩ (fun v9 g381 H locs hp hI => ?_) (fun q9 E9 ce9 g9 H locs hp => hp.elim)
                                    obtain ⟨hv, ha380, hb380, hc380, hd380, he380, ho9380⟩ := hp
                                    rw [hv]
                                    refine W.eq (g2 := F0 m 225 ls []) rfl ?_
                                    refine lv_aload_n hx hb d_Mo_pack_225 rfl (lv_at hl 2 rfl) ?_
                                    have hq382 : g381 mo = some (moE a 0 (nI s9) (nI e9) (nI c9) (true && sz (((v).1) + (size.toInt64 - ((v).1)))) (((v).1) + (size.toInt64 - ((v).1))) ((v).2.1) ((v).2.2.1) ((v).2.1) md) := by rw [ho9380 _ (Ne.symm (hnj.2 7 (by decide))) (Ne.symm (hnj.2 8 (by decide))) (Ne.symm (hnj.2 9 (by decide))) (Ne.symm (hnj.2 10 (by decide))) (Ne.symm (hnj.2 11 (by decide)))]; exact hg375
                                    refine hv_get hE k_Mo hI 6 (by decide) w522 hq382 rfl d_Mo_pack_226 ?_
                                    refine lv_iload hx hb d_Mo_pack_229 (lv_at hl 0 rfl) ?_
                                    refine lv_aload_n hx hb d_Mo_pack_231 rfl (lv_at hl 2 rfl) ?_
                                    refine hv_get hE k_Mo hI 3 (by decide) w519 hq382 rfl d_Mo_pack_232 ?_
                                    have hq383 : g381 (a 2) = some (.inl (cA 0, 101, .inl (fun b => nI (wF V b)))) := by rw [ho9380 _ (hnj.1 2 7 (by decide) (by decide) (by decide)) (hnj.1 2 8 (by decide) (by decide) (by decide)) (hnj.1 2 9 (by decide) (by decide) (by decide)) (hnj.1 2 10 (by decide) (by decide) (by decide)) (hnj.1 2 11 (by decide) (by decide) (by decide)), ho9375 _ (hnj.2 2 (by decide)), eg373, hv_up_ne _ _ (hnj.2 2 (by decide)), eg270, hv_up_ne _ _ (hnj.2 2 (by decide))]; exact hAg.2.2.1
                                    refine hv_iast hE hI 0 hq383 rfl (pk_in c9 101 (by omega) rfl (by omega)) d_Mo_pack_235 (fun H locs hI => ?_)
                                    rw [nI_cl (by omega)] at hI
                                    obtain ⟨g384, eg384⟩ : ∃ z : hv_M, z = hv_up g381 (a 2) (.inl (cA 0, 101, .inl (upd (fun b => nI (wF V b)) c9 (nI s9)))) := ⟨_, rfl⟩
                                    have hI : hv_I D CL b0 g384 s.heap H locs := by rw [eg384]; exact hI
                                    have hq385 : g384 (a 2) = some (.inl (cA 0, 101, .inl (upd (fun b => nI (wF V b)) c9 (nI s9)))) := by rw [eg384]; exact hv_up_self _ _ _
                                    refine lv_aload_n hx hb d_Mo_pack_236 rfl (lv_at hl 2 rfl) ?_
                                    have hq386 : g384 mo = some (moE a 0 (nI s9) (nI e9) (nI c9) (true && sz (((v).1) + (size.toInt64 - ((v).1)))) (((v).1) + (size.toInt64 - ((v).1))) ((v).2.1) ((v).2.2.1) ((v).2.1) md) := by rw [eg384, hv_up_ne _ _ (Ne.symm (hnj.2 2 (by decide)))]; exact hq382
                                    refine hv_get hE k_Mo hI 7 (by decide) w523 hq386 rfl d_Mo_pack_237 ?_
                                    refine lv_iload hx hb d_Mo_pack_240 (lv_at hl 0 rfl) ?_
                                    refine lv_iload_n hx hb d_Mo_pack_242 rfl (lv_at hl 3 rfl) ?_
                                    have hq387 : g384 (a 3) = some (.inl (cA 2, 100, .inl (fun b => b2i (wB V b)))) := by rw [eg384, hv_up_ne _ _ (hnj.1 3 2 (by decide) (by decide) (by decide)), ho9380 _ (hnj.1 3 7 (by decide) (by decide) (by decide)) (hnj.1 3 8 (by decide) (by decide) (by decide)) (hnj.1 3 9 (by decide) (by decide) (by decide)) (hnj.1 3 10 (by decide) (by decide) (by decide)) (hnj.1 3 11 (by decide) (by decide) (by decide)), ho9375 _ (hnj.2 3 (by decide)), eg373, hv_up_ne _ _ (hnj.2 3 (by decide)), eg270, hv_up_ne _ _ (hnj.2 3 (by decide))]; exact hAg.2.2.2.1
                                    refine hv_zast hE hI 2 hq387 rfl (pk_in c9 100 (by omega) rfl (by omega)) d_Mo_pack_243 (fun H locs hI => ?_)
                                    rw [nI_cl (by omega)] at hI
                                    obtain ⟨g388, eg388⟩ : ∃ z : hv_M, z = hv_up g384 (a 3) (.inl (cA 2, 100, .inl (upd (fun b => b2i (wB V b)) c9 (b2i bel)))) := ⟨_, rfl⟩
                                    have hI : hv_I D CL b0 g388 s.heap H locs := by rw [eg388]; exact hI
                                    have hq389 : g388 (a 3) = some (.inl (cA 2, 100, .inl (upd (fun b => b2i (wB V b)) c9 (b2i bel)))) := by rw [eg388]; exact hv_up_self _ _ _
                                    refine lv_aload_n hx hb d_Mo_pack_244 rfl (lv_at hl 2 rfl) ?_
                                    have hq390 : g388 mo = some (moE a 0 (nI s9) (nI e9) (nI c9) (true && sz (((v).1) + (size.toInt64 - ((v).1)))) (((v).1) + (size.toInt64 - ((v).1))) ((v).2.1) ((v).2.2.1) ((v).2.1) md) := by rw [eg388, hv_up_ne _ _ (Ne.symm (hnj.2 3 (by decide)))]; exact hq386
                                    refine hv_get hE k_Mo hI 8 (by decide) w524 hq390 rfl d_Mo_pack_245 ?_
                                    refine lv_iload hx hb d_Mo_pack_248 (lv_at hl 0 rfl) ?_
                                    refine lv_iload_n hx hb d_Mo_pack_250 rfl (lv_at hl 3 rfl) ?_
                                    refine lv_if_eq (tgt := 261) hx hb d_Mo_pack_251 (by decide) (fun c251 => ?_) (fun c251 => ?_)
                                    · skip
                                      have k251 := b2i_f c251
                                      exact absurd k251 (by rw [k99]; decide)
                                    · skip
                                      have k251 := b2i_t c251
                                      refine lv_aload_n hx hb d_Mo_pack_254 rfl (lv_at hl 2 rfl) ?_
                                      refine hv_get hE k_Mo hI 21 (by decide) w537 hq390 rfl d_Mo_pack_255 ?_
                                      refine lv_goto (tgt := 265) hx hb d_Mo_pack_258 (by decide) ?_
                                      refine lv_l2i (v := ((v).2.2.1).toInt32) hx hb d_Mo_pack_265 rfl ?_
                                      have hq391 : g388 (a 4) = some (.inl (cA 0, 100, .inl (wA V 0))) := by rw [eg388, hv_up_ne _ _ (hnj.1 4 3 (by decide) (by decide) (by decide)), eg384, hv_up_ne _ _ (hnj.1 4 2 (by decide) (by decide) (by decide)), ho9380 _ (hnj.1 4 7 (by decide) (by decide) (by decide)) (hnj.1 4 8 (by decide) (by decide) (by decide)) (hnj.1 4 9 (by decide) (by decide) (by decide)) (hnj.1 4 10 (by decide) (by decide) (by decide)) (hnj.1 4 11 (by decide) (by decide) (by decide)), ho9375 _ (hnj.2 4 (by decide)), eg373, hv_up_ne _ _ (hnj.2 4 (by decide)), eg270, hv_up_ne _ _ (hnj.2 4 (by decide))]; exact (hAg.2.2.2.2 0 (by decide))
                                      refine hv_iast hE hI 0 hq391 rfl (pk_in c9 100 (by omega) rfl (by omega)) d_Mo_pack_266 (fun H locs hI => ?_)
                                      rw [nI_cl (by omega)] at hI
                                      obtain ⟨g392, eg392⟩ : ∃ z : hv_M, z = hv_up g388 (a 4) (.inl (cA 0, 100, .inl (upd (wA V 0) c9 (((v).2.2.1).toInt32)))) := ⟨_, rfl⟩
                                      have hI : hv_I D CL b0 g392 s.heap H locs := by rw [eg392]; exact hI
                                      have hq393 : g392 (a 4) = some (.inl (cA 0, 100, .inl (upd (wA V 0) c9 (((v).2.2.1).toInt32)))) := by rw [eg392]; exact hv_up_self _ _ _
                                      refine lv_aload_n hx hb d_Mo_pack_267 rfl (lv_at hl 2 rfl) ?_
                                      have hq394 : g392 mo = some (moE a 0 (nI s9) (nI e9) (nI c9) (true && sz (((v).1) + (size.toInt64 - ((v).1)))) (((v).1) + (size.toInt64 - ((v).1))) ((v).2.1) ((v).2.2.1) ((v).2.1) md) := by rw [eg392, hv_up_ne _ _ (Ne.symm (hnj.2 4 (by decide)))]; exact hq390
                                      refine hv_get hE k_Mo hI 9 (by decide) w525 hq394 rfl d_Mo_pack_268 ?_
                                      refine lv_iload hx hb d_Mo_pack_271 (lv_at hl 0 rfl) ?_
                                      refine lv_iload_n hx hb d_Mo_pack_273 rfl (lv_at hl 3 rfl) ?_
                                      refine lv_if_eq (tgt := 284) hx hb d_Mo_pack_274 (by decide) (fun c274 => ?_) (fun c274 => ?_)
                                      · skip
                                        have k274 := b2i_f c274
                                        exact absurd k274 (by rw [k99]; decide)
                                      · skip
                                        have k274 := b2i_t c274
                                        refine lv_aload_n hx hb d_Mo_pack_277 rfl (lv_at hl 2 rfl) ?_
                                        refine hv_get hE k_Mo hI 19 (by decide) w535 hq394 rfl d_Mo_pack_278 ?_
                                        refine lv_goto (tgt := 288) hx hb d_Mo_pack_281 (by decide) ?_
                                        refine lv_l2i (v := (((v).1) + (size.toInt64 - ((v).1))).toInt32) hx hb d_Mo_pack_288 rfl ?_
                                        have hq395 : g392 (a 5) = some (.inl (cA 0, 100, .inl (wA V 1))) := by rw [eg392, hv_up_ne _ _ (hnj.1 5 4 (by decide) (by decide) (by decide)), eg388, hv_up_ne _ _ (hnj.1 5 3 (by decide) (by decide) (by decide)), eg384, hv_up_ne _ _ (hnj.1 5 2 (by decide) (by decide) (by decide)), ho9380 _ (hnj.1 5 7 (by decide) (by decide) (by decide)) (hnj.1 5 8 (by decide) (by decide) (by decide)) (hnj.1 5 9 (by decide) (by decide) (by decide)) (hnj.1 5 10 (by decide) (by decide) (by decide)) (hnj.1 5 11 (by decide) (by decide) (by decide)), ho9375 _ (hnj.2 5 (by decide)), eg373, hv_up_ne _ _ (hnj.2 5 (by decide)), eg270, hv_up_ne _ _ (hnj.2 5 (by decide))]; exact (hAg.2.2.2.2 1 (by decide))
                                        refine hv_iast hE hI 0 hq395 rfl (pk_in c9 100 (by omega) rfl (by omega)) d_Mo_pack_289 (fun H locs hI => ?_)
                                        rw [nI_cl (by omega)] at hI
                                        obtain ⟨g396, eg396⟩ : ∃ z : hv_M, z = hv_up g392 (a 5) (.inl (cA 0, 100, .inl (upd (wA V 1) c9 ((((v).1) + (size.toInt64 - ((v).1))).toInt32)))) := ⟨_, rfl⟩
                                        have hI : hv_I D CL b0 g396 s.heap H locs := by rw [eg396]; exact hI
                                        have hq397 : g396 (a 5) = some (.inl (cA 0, 100, .inl (upd (wA V 1) c9 ((((v).1) + (size.toInt64 - ((v).1))).toInt32)))) := by rw [eg396]; exact hv_up_self _ _ _
                                        refine lv_aload_n hx hb d_Mo_pack_290 rfl (lv_at hl 2 rfl) ?_
                                        have hq398 : g396 mo = some (moE a 0 (nI s9) (nI e9) (nI c9) (true && sz (((v).1) + (size.toInt64 - ((v).1)))) (((v).1) + (size.toInt64 - ((v).1))) ((v).2.1) ((v).2.2.1) ((v).2.1) md) := by rw [eg396, hv_up_ne _ _ (Ne.symm (hnj.2 5 (by decide)))]; exact hq394
                                        refine hv_get hE k_Mo hI 10 (by decide) w526 hq398 rfl d_Mo_pack_291 ?_
                                        refine lv_iload hx hb d_Mo_pack_294 (lv_at hl 0 rfl) ?_
                                        refine lv_aload_n hx hb d_Mo_pack_296 rfl (lv_at hl 2 rfl) ?_
                                        refine hv_get hE k_Mo hI 22 (by decide) w538 hq398 rfl d_Mo_pack_297 ?_
                                        refine lv_l2i (v := ((v).2.1).toInt32) hx hb d_Mo_pack_300 rfl ?_
                                        have hq399 : g396 (a 6) = some (.inl (cA 0, 100, .inl (wA V 2))) := by rw [eg396, hv_up_ne _ _ (hnj.1 6 5 (by decide) (by decide) (by decide)), eg392, hv_up_ne _ _ (hnj.1 6 4 (by decide) (by decide) (by decide)), eg388, hv_up_ne _ _ (hnj.1 6 3 (by decide) (by decide) (by decide)), eg384, hv_up_ne _ _ (hnj.1 6 2 (by decide) (by decide) (by decide)), ho9380 _ (hnj.1 6 7 (by decide) (by decide) (by decide)) (hnj.1 6 8 (by decide) (by decide) (by decide)) (hnj.1 6 9 (by decide) (by decide) (by decide)) (hnj.1 6 10 (by decide) (by decide) (by decide)) (hnj.1 6 11 (by decide) (by decide) (by decide)), ho9375 _ (hnj.2 6 (by decide)), eg373, hv_up_ne _ _ (hnj.2 6 (by decide)), eg270, hv_up_ne _ _ (hnj.2 6 (by decide))]; exact (hAg.2.2.2.2 2 (by decide))
                                        refine hv_iast hE hI 0 hq399 rfl (pk_in c9 100 (by omega) rfl (by omega)) d_Mo_pack_301 (fun H locs hI => ?_)
                                        rw [nI_cl (by omega)] at hI
                                        obtain ⟨g400, eg400⟩ : ∃ z : hv_M, z = hv_up g396 (a 6) (.inl (cA 0, 100, .inl (upd (wA V 2) c9 (((v).2.1).toInt32)))) := ⟨_, rfl⟩
                                        have hI : hv_I D CL b0 g400 s.heap H locs := by rw [eg400]; exact hI
                                        have hq401 : g400 (a 6) = some (.inl (cA 0, 100, .inl (upd (wA V 2) c9 (((v).2.1).toInt32)))) := by rw [eg400]; exact hv_up_self _ _ _
                                        refine lv_aload_n hx hb d_Mo_pack_302 rfl (lv_at hl 2 rfl) ?_
                                        have hq402 : g400 mo = some (moE a 0 (nI s9) (nI e9) (nI c9) (true && sz (((v).1) + (size.toInt64 - ((v).1)))) (((v).1) + (size.toInt64 - ((v).1))) ((v).2.1) ((v).2.2.1) ((v).2.1) md) := by rw [eg400, hv_up_ne _ _ (Ne.symm (hnj.2 6 (by decide)))]; exact hq398
                                        refine hv_get hE k_Mo hI 16 (by decide) w532 hq402 rfl d_Mo_pack_303 ?_
                                        refine lv_iload hx hb d_Mo_pack_306 (lv_at hl 0 rfl) ?_
                                        refine lv_aload_n hx hb d_Mo_pack_308 rfl (lv_at hl 2 rfl) ?_
                                        have hq403 : g400 (a 0) = some (.inl (cA 0, 10200, .inl (wK V))) := by rw [eg400, hv_up_ne _ _ (hnj.1 0 6 (by decide) (by decide) (by decide)), eg396, hv_up_ne _ _ (hnj.1 0 5 (by decide) (by decide) (by decide)), eg392, hv_up_ne _ _ (hnj.1 0 4 (by decide) (by decide) (by decide)), eg388, hv_up_ne _ _ (hnj.1 0 3 (by decide) (by decide) (by decide)), eg384, hv_up_ne _ _ (hnj.1 0 2 (by decide) (by decide) (by decide)), ho9380 _ (hnj.1 0 7 (by decide) (by decide) (by decide)) (hnj.1 0 8 (by decide) (by decide) (by decide)) (hnj.1 0 9 (by decide) (by decide) (by decide)) (hnj.1 0 10 (by decide) (by decide) (by decide)) (hnj.1 0 11 (by decide) (by decide) (by decide)), ho9375 _ (hnj.2 0 (by decide)), eg373, hv_up_ne _ _ (hnj.2 0 (by decide)), eg270, hv_up_ne _ _ (hnj.2 0 (by decide))]; exact hAg.1
                                        have hq404 : g400 (a 1) = some (.inl (cA 0, 51000, .inl V.2.1)) := by rw [eg400, hv_up_ne _ _ (hnj.1 1 6 (by decide) (by decide) (by decide)), eg396, hv_up_ne _ _ (hnj.1 1 5 (by decide) (by decide) (by decide)), eg392, hv_up_ne _ _ (hnj.1 1 4 (by decide) (by decide) (by decide)), eg388, hv_up_ne _ _ (hnj.1 1 3 (by decide) (by decide) (by decide)), eg384, hv_up_ne _ _ (hnj.1 1 2 (by decide) (by decide) (by decide)), ho9380 _ (hnj.1 1 7 (by decide) (by decide) (by decide)) (hnj.1 1 8 (by decide) (by decide) (by decide)) (hnj.1 1 9 (by decide) (by decide) (by decide)) (hnj.1 1 10 (by decide) (by decide) (by decide)) (hnj.1 1 11 (by decide) (by decide) (by decide)), ho9375 _ (hnj.2 1 (by decide)), eg373, hv_up_ne _ _ (hnj.2 1 (by decide)), eg270, hv_up_ne _ _ (hnj.2 1 (by decide))]; exact hAg.2.1
                                        have hq405 : g400 (a 12) = some (.inl (cA 0, 100, .inl (wA V 8))) := by rw [eg400, hv_up_ne _ _ (hnj.1 12 6 (by decide) (by decide) (by decide)), eg396, hv_up_ne _ _ (hnj.1 12 5 (by decide) (by decide) (by decide)), eg392, hv_up_ne _ _ (hnj.1 12 4 (by decide) (by decide) (by decide)), eg388, hv_up_ne _ _ (hnj.1 12 3 (by decide) (by decide) (by decide)), eg384, hv_up_ne _ _ (hnj.1 12 2 (by decide) (by decide) (by decide)), ho9380 _ (hnj.1 12 7 (by decide) (by decide) (by decide)) (hnj.1 12 8 (by decide) (by decide) (by decide)) (hnj.1 12 9 (by decide) (by decide) (by decide)) (hnj.1 12 10 (by decide) (by decide) (by decide)) (hnj.1 12 11 (by decide) (by decide) (by decide)), ho9375 _ (hnj.2 12 (by decide)), eg373, hv_up_ne _ _ (hnj.2 12 (by decide)), eg270, hv_up_ne _ _ (hnj.2 12 (by decide))]; exact (hAg.2.2.2.2 8 (by decide))
                                        refine hv_Vp (As := []) (rest := [.int (nI c9), .ref (a 12)]) hE hml hK hI (c_Mo_deepest l hl0 b0 D cA g400 mo a 0 s9 e9 (nI c9) (true && sz (((v).1) + (size.toInt64 - ((v).1)))) (((v).1) + (size.toInt64 - ((v).1))) ((v).2.1) ((v).2.2.1) ((v).2.1) md V hq402 hnj hq403 hq404 hq405 hse he9 hit) cd_Mo_deepest w660 w662 ws20 hq402 rfl rfl rfl rfl hl.1 (Nat.le_of_ble_eq_true rfl) d_Mo_pack_309 ⟨by decide, by decide⟩ ⟨by decide, by decide⟩ (fun H locs hI => ?_)
                                        refine W.eq (g2 := F0 m 312 ls [.int (dL V s9 (e9 - s9)), .int (nI c9), .ref (a 12)]) rfl ?_
                                        refine lv_iconst (v := 1) hx hb d_Mo_pack_312 (by decide) ?_
                                        refine lv_iadd hx hb d_Mo_pack_313 ?_
                                        refine hv_iast hE hI 0 hq405 rfl (pk_in c9 100 (by omega) rfl (by omega)) d_Mo_pack_314 (fun H locs hI => ?_)
                                        rw [nI_cl (by omega)] at hI
                                        obtain ⟨g406, eg406⟩ : ∃ z : hv_M, z = hv_up g400 (a 12) (.inl (cA 0, 100, .inl (upd (wA V 8) c9 ((dL V s9 (e9 - s9)) + 1)))) := ⟨_, rfl⟩
                                        have hI : hv_I D CL b0 g406 s.heap H locs := by rw [eg406]; exact hI
                                        have hq407 : g406 (a 12) = some (.inl (cA 0, 100, .inl (upd (wA V 8) c9 ((dL V s9 (e9 - s9)) + 1)))) := by rw [eg406]; exact hv_up_self _ _ _
                                        refine lv_aload_n hx hb d_Mo_pack_315 rfl (lv_at hl 2 rfl) ?_
                                        have hq408 : g406 mo = some (moE a 0 (nI s9) (nI e9) (nI c9) (true && sz (((v).1) + (size.toInt64 - ((v).1)))) (((v).1) + (size.toInt64 - ((v).1))) ((v).2.1) ((v).2.2.1) ((v).2.1) md) := by rw [eg406, hv_up_ne _ _ (Ne.symm (hnj.2 12 (by decide)))]; exact hq402
                                        refine hv_get hE k_Mo hI 17 (by decide) w533 hq408 rfl d_Mo_pack_316 ?_
                                        refine lv_iload hx hb d_Mo_pack_319 (lv_at hl 0 rfl) ?_
                                        refine lv_aload_n hx hb d_Mo_pack_321 rfl (lv_at hl 2 rfl) ?_
                                        have hq409 : g406 (a 0) = some (.inl (cA 0, 10200, .inl (wK V))) := by rw [eg406, hv_up_ne _ _ (hnj.1 0 12 (by decide) (by decide) (by decide))]; exact hq403
                                        have hq410 : g406 (a 1) = some (.inl (cA 0, 51000, .inl V.2.1)) := by rw [eg406, hv_up_ne _ _ (hnj.1 1 12 (by decide) (by decide) (by decide))]; exact hq404
                                        have hq411 : g406 (a 13) = some (.inl (cA 0, 100, .inl (wA V 9))) := by rw [eg406, hv_up_ne _ _ (hnj.1 13 12 (by decide) (by decide) (by decide)), eg400, hv_up_ne _ _ (hnj.1 13 6 (by decide) (by decide) (by decide)), eg396, hv_up_ne _ _ (hnj.1 13 5 (by decide) (by decide) (by decide)), eg392, hv_up_ne _ _ (hnj.1 13 4 (by decide) (by decide) (by decide)), eg388, hv_up_ne _ _ (hnj.1 13 3 (by decide) (by decide) (by decide)), eg384, hv_up_ne _ _ (hnj.1 13 2 (by decide) (by decide) (by decide)), ho9380 _ (hnj.1 13 7 (by decide) (by decide) (by decide)) (hnj.1 13 8 (by decide) (by decide) (by decide)) (hnj.1 13 9 (by decide) (by decide) (by decide)) (hnj.1 13 10 (by decide) (by decide) (by decide)) (hnj.1 13 11 (by decide) (by decide) (by decide)), ho9375 _ (hnj.2 13 (by decide)), eg373, hv_up_ne _ _ (hnj.2 13 (by decide)), eg270, hv_up_ne _ _ (hnj.2 13 (by decide))]; exact (hAg.2.2.2.2 9 (by decide))
                                        refine hv_Vp (As := []) (rest := [.int (nI c9), .ref (a 13)]) hE hml hK hI (c_Mo_countAll l hl0 b0 D cA g406 mo a 0 s9 e9 (nI c9) (true && sz (((v).1) + (size.toInt64 - ((v).1)))) (((v).1) + (size.toInt64 - ((v).1))) ((v).2.1) ((v).2.2.1) ((v).2.1) md V hq408 hnj hq409 hq410 hq411 hse he9 hit) cd_Mo_countAll w714 w716 ws31 hq408 rfl rfl rfl rfl hl.1 (Nat.le_of_ble_eq_true rfl) d_Mo_pack_322 ⟨by decide, by decide⟩ ⟨by decide, by decide⟩ (fun H locs hI => ?_)
                                        refine W.eq (g2 := F0 m 325 ls [.int (cA9 V s9 (e9 - s9)), .int (nI c9), .ref (a 13)]) rfl ?_
                                        refine hv_iast hE hI 0 hq411 rfl (pk_in c9 100 (by omega) rfl (by omega)) d_Mo_pack_325 (fun H locs hI => ?_)
                                        rw [nI_cl (by omega)] at hI
                                        obtain ⟨g412, eg412⟩ : ∃ z : hv_M, z = hv_up g406 (a 13) (.inl (cA 0, 100, .inl (upd (wA V 9) c9 (cA9 V s9 (e9 - s9))))) := ⟨_, rfl⟩
                                        have hI : hv_I D CL b0 g412 s.heap H locs := by rw [eg412]; exact hI
                                        have hq413 : g412 (a 13) = some (.inl (cA 0, 100, .inl (upd (wA V 9) c9 (cA9 V s9 (e9 - s9))))) := by rw [eg412]; exact hv_up_self _ _ _
                                        refine lv_aload_n hx hb d_Mo_pack_326 rfl (lv_at hl 2 rfl) ?_
                                        refine lv_dup hx hb d_Mo_pack_327 rfl ?_
                                        have hq414 : g412 mo = some (moE a 0 (nI s9) (nI e9) (nI c9) (true && sz (((v).1) + (size.toInt64 - ((v).1)))) (((v).1) + (size.toInt64 - ((v).1))) ((v).2.1) ((v).2.2.1) ((v).2.1) md) := by rw [eg412, hv_up_ne _ _ (Ne.symm (hnj.2 13 (by decide)))]; exact hq408
                                        refine hv_get hE k_Mo hI 5 (by decide) w521 hq414 rfl d_Mo_pack_328 ?_
                                        refine lv_iconst (v := 1) hx hb d_Mo_pack_331 (by decide) ?_
                                        refine lv_iadd hx hb d_Mo_pack_332 ?_
                                        refine hv_put hE k_Mo hI 5 (by decide) w521 hq414 rfl rfl rfl (Nat.le_of_ble_eq_true rfl) d_Mo_pack_333 (fun H locs hI => ?_)
                                        obtain ⟨g415, eg415⟩ : ∃ z : hv_M, z = hv_up g412 mo (moE a 0 (nI s9) (nI e9) ((nI c9) + 1) (true && sz (((v).1) + (size.toInt64 - ((v).1)))) (((v).1) + (size.toInt64 - ((v).1))) ((v).2.1) ((v).2.2.1) ((v).2.1) md) := ⟨_, rfl⟩
                                        have hI : hv_I D CL b0 g415 s.heap H locs := by rw [eg415]; exact hI
                                        have hq416 : g415 mo = some (moE a 0 (nI s9) (nI e9) ((nI c9) + 1) (true && sz (((v).1) + (size.toInt64 - ((v).1)))) (((v).1) + (size.toInt64 - ((v).1))) ((v).2.1) ((v).2.2.1) ((v).2.1) md) := by rw [eg415]; exact hv_up_self _ _ _
                                        refine lv_aload_n hx hb d_Mo_pack_336 rfl (lv_at hl 2 rfl) ?_
                                        refine lv_aload_n hx hb d_Mo_pack_337 rfl (lv_at hl 2 rfl) ?_
                                        refine hv_get hE k_Mo hI 4 (by decide) w520 hq416 rfl d_Mo_pack_338 ?_
                                        refine hv_put hE k_Mo hI 3 (by decide) w519 hq416 rfl rfl rfl (Nat.le_of_ble_eq_true rfl) d_Mo_pack_341 (fun H locs hI => ?_)
                                        obtain ⟨g417, eg417⟩ : ∃ z : hv_M, z = hv_up g415 mo (moE a 0 (nI e9) (nI e9) ((nI c9) + 1) (true && sz (((v).1) + (size.toInt64 - ((v).1)))) (((v).1) + (size.toInt64 - ((v).1))) ((v).2.1) ((v).2.2.1) ((v).2.1) md) := ⟨_, rfl⟩
                                        have hI : hv_I D CL b0 g417 s.heap H locs := by rw [eg417]; exact hI
                                        have hq418 : g417 mo = some (moE a 0 (nI e9) (nI e9) ((nI c9) + 1) (true && sz (((v).1) + (size.toInt64 - ((v).1)))) (((v).1) + (size.toInt64 - ((v).1))) ((v).2.1) ((v).2.2.1) ((v).2.1) md) := by rw [eg417]; exact hv_up_self _ _ _
                                        refine lv_aload_n hx hb d_Mo_pack_344 rfl (lv_at hl 2 rfl) ?_
                                        refine hv_get hE k_Mo hI 6 (by decide) w522 hq418 rfl d_Mo_pack_345 ?_
                                        refine lv_aload_n hx hb d_Mo_pack_348 rfl (lv_at hl 2 rfl) ?_
                                        refine hv_get hE k_Mo hI 5 (by decide) w521 hq418 rfl d_Mo_pack_349 ?_
                                        refine lv_aload_n hx hb d_Mo_pack_352 rfl (lv_at hl 2 rfl) ?_
                                        refine hv_get hE k_Mo hI 4 (by decide) w520 hq418 rfl d_Mo_pack_353 ?_
                                        have hq419 : g417 (a 2) = some (.inl (cA 0, 101, .inl (upd (fun b => nI (wF V b)) c9 (nI s9)))) := by rw [eg417, hv_up_ne _ _ (hnj.2 2 (by decide)), eg415, hv_up_ne _ _ (hnj.2 2 (by decide)), eg412, hv_up_ne _ _ (hnj.1 2 13 (by decide) (by decide) (by decide)), eg406, hv_up_ne _ _ (hnj.1 2 12 (by decide) (by decide) (by decide)), eg400, hv_up_ne _ _ (hnj.1 2 6 (by decide) (by decide) (by decide)), eg396, hv_up_ne _ _ (hnj.1 2 5 (by decide) (by decide) (by decide)), eg392, hv_up_ne _ _ (hnj.1 2 4 (by decide) (by decide) (by decide)), eg388, hv_up_ne _ _ (hnj.1 2 3 (by decide) (by decide) (by decide))]; exact hq385
                                        refine hv_iast hE hI 0 hq419 rfl (pk_in (c9 + 1) 101 (by omega) (nI_1 c9) (by omega)) d_Mo_pack_356 (fun H locs hI => ?_)
                                        rw [nI_1, nI_cl (by omega)] at hI
                                        obtain ⟨g420, eg420⟩ : ∃ z : hv_M, z = hv_up g417 (a 2) (.inl (cA 0, 101, .inl (upd (upd (fun b => nI (wF V b)) c9 (nI s9)) (c9 + 1) (nI e9)))) := ⟨_, rfl⟩
                                        have hI : hv_I D CL b0 g420 s.heap H locs := by rw [eg420]; exact hI
                                        have hq421 : g420 (a 2) = some (.inl (cA 0, 101, .inl (upd (upd (fun b => nI (wF V b)) c9 (nI s9)) (c9 + 1) (nI e9)))) := by rw [eg420]; exact hv_up_self _ _ _
                                        refine lv_iload hx hb d_Mo_pack_357 (lv_at hl 0 rfl) ?_
                                        have hq422 : g420 mo = some (moE a 0 (nI e9) (nI e9) ((nI c9) + 1) (true && sz (((v).1) + (size.toInt64 - ((v).1)))) (((v).1) + (size.toInt64 - ((v).1))) ((v).2.1) ((v).2.2.1) ((v).2.1) md) := by rw [eg420, hv_up_ne _ _ (Ne.symm (hnj.2 2 (by decide)))]; exact hq418
                                        have hq423 : g420 (a 0) = some (.inl (cA 0, 10200, .inl (wK V))) := by rw [eg420, hv_up_ne _ _ (hnj.1 0 2 (by decide) (by decide) (by decide)), eg417, hv_up_ne _ _ (hnj.2 0 (by decide)), eg415, hv_up_ne _ _ (hnj.2 0 (by decide)), eg412, hv_up_ne _ _ (hnj.1 0 13 (by decide) (by decide) (by decide))]; exact hq409
                                        have hq424 : g420 (a 1) = some (.inl (cA 0, 51000, .inl V.2.1)) := by rw [eg420, hv_up_ne _ _ (hnj.1 1 2 (by decide) (by decide) (by decide)), eg417, hv_up_ne _ _ (hnj.2 1 (by decide)), eg415, hv_up_ne _ _ (hnj.2 1 (by decide)), eg412, hv_up_ne _ _ (hnj.1 1 13 (by decide) (by decide) (by decide))]; exact hq410
                                        have hq425 : g420 (a 3) = some (.inl (cA 2, 100, .inl (upd (fun b => b2i (wB V b)) c9 (b2i bel)))) := by rw [eg420, hv_up_ne _ _ (hnj.1 3 2 (by decide) (by decide) (by decide)), eg417, hv_up_ne _ _ (hnj.2 3 (by decide)), eg415, hv_up_ne _ _ (hnj.2 3 (by decide)), eg412, hv_up_ne _ _ (hnj.1 3 13 (by decide) (by decide) (by decide)), eg406, hv_up_ne _ _ (hnj.1 3 12 (by decide) (by decide) (by decide)), eg400, hv_up_ne _ _ (hnj.1 3 6 (by decide) (by decide) (by decide)), eg396, hv_up_ne _ _ (hnj.1 3 5 (by decide) (by decide) (by decide)), eg392, hv_up_ne _ _ (hnj.1 3 4 (by decide) (by decide) (by decide))]; exact hq389
                                        have hq426 : g420 (a 4) = some (.inl (cA 0, 100, .inl (upd (wA V 0) c9 (((v).2.2.1).toInt32)))) := by rw [eg420, hv_up_ne _ _ (hnj.1 4 2 (by decide) (by decide) (by decide)), eg417, hv_up_ne _ _ (hnj.2 4 (by decide)), eg415, hv_up_ne _ _ (hnj.2 4 (by decide)), eg412, hv_up_ne _ _ (hnj.1 4 13 (by decide) (by decide) (by decide)), eg406, hv_up_ne _ _ (hnj.1 4 12 (by decide) (by decide) (by decide)), eg400, hv_up_ne _ _ (hnj.1 4 6 (by decide) (by decide) (by decide)), eg396, hv_up_ne _ _ (hnj.1 4 5 (by decide) (by decide) (by decide))]; exact hq393
                                        have hq427 : g420 (a 5) = some (.inl (cA 0, 100, .inl (upd (wA V 1) c9 ((((v).1) + (size.toInt64 - ((v).1))).toInt32)))) := by rw [eg420, hv_up_ne _ _ (hnj.1 5 2 (by decide) (by decide) (by decide)), eg417, hv_up_ne _ _ (hnj.2 5 (by decide)), eg415, hv_up_ne _ _ (hnj.2 5 (by decide)), eg412, hv_up_ne _ _ (hnj.1 5 13 (by decide) (by decide) (by decide)), eg406, hv_up_ne _ _ (hnj.1 5 12 (by decide) (by decide) (by decide)), eg400, hv_up_ne _ _ (hnj.1 5 6 (by decide) (by decide) (by decide))]; exact hq397
                                        have hq428 : g420 (a 6) = some (.inl (cA 0, 100, .inl (upd (wA V 2) c9 (((v).2.1).toInt32)))) := by rw [eg420, hv_up_ne _ _ (hnj.1 6 2 (by decide) (by decide) (by decide)), eg417, hv_up_ne _ _ (hnj.2 6 (by decide)), eg415, hv_up_ne _ _ (hnj.2 6 (by decide)), eg412, hv_up_ne _ _ (hnj.1 6 13 (by decide) (by decide) (by decide)), eg406, hv_up_ne _ _ (hnj.1 6 12 (by decide) (by decide) (by decide))]; exact hq401
                                        have hq429 : g420 (a 7) = some (.inl (cA 0, 100, .inl (upd (wA V 3) c9 ((size.toInt64 - ((v).1)).toInt32)))) := by rw [eg420, hv_up_ne _ _ (hnj.1 7 2 (by decide) (by decide) (by decide)), eg417, hv_up_ne _ _ (hnj.2 7 (by decide)), eg415, hv_up_ne _ _ (hnj.2 7 (by decide)), eg412, hv_up_ne _ _ (hnj.1 7 13 (by decide) (by decide) (by decide)), eg406, hv_up_ne _ _ (hnj.1 7 12 (by decide) (by decide) (by decide)), eg400, hv_up_ne _ _ (hnj.1 7 6 (by decide) (by decide) (by decide)), eg396, hv_up_ne _ _ (hnj.1 7 5 (by decide) (by decide) (by decide)), eg392, hv_up_ne _ _ (hnj.1 7 4 (by decide) (by decide) (by decide)), eg388, hv_up_ne _ _ (hnj.1 7 3 (by decide) (by decide) (by decide)), eg384, hv_up_ne _ _ (hnj.1 7 2 (by decide) (by decide) (by decide))]; exact ha380
                                        have hq430 : g420 (a 8) = some (.inl (cA 0, 100, .inl (upd (wA V 4) c9 ((otF (size.toInt64 - ((v).1)) ((v).2.2.2.2.1, (v).2.2.2.2.2)).1)))) := by rw [eg420, hv_up_ne _ _ (hnj.1 8 2 (by decide) (by decide) (by decide)), eg417, hv_up_ne _ _ (hnj.2 8 (by decide)), eg415, hv_up_ne _ _ (hnj.2 8 (by decide)), eg412, hv_up_ne _ _ (hnj.1 8 13 (by decide) (by decide) (by decide)), eg406, hv_up_ne _ _ (hnj.1 8 12 (by decide) (by decide) (by decide)), eg400, hv_up_ne _ _ (hnj.1 8 6 (by decide) (by decide) (by decide)), eg396, hv_up_ne _ _ (hnj.1 8 5 (by decide) (by decide) (by decide)), eg392, hv_up_ne _ _ (hnj.1 8 4 (by decide) (by decide) (by decide)), eg388, hv_up_ne _ _ (hnj.1 8 3 (by decide) (by decide) (by decide)), eg384, hv_up_ne _ _ (hnj.1 8 2 (by decide) (by decide) (by decide))]; exact hb380
                                        have hq431 : g420 (a 9) = some (.inl (cA 0, 100, .inl (upd (wA V 5) c9 ((otF (size.toInt64 - ((v).1)) ((v).2.2.2.2.1, (v).2.2.2.2.2)).2)))) := by rw [eg420, hv_up_ne _ _ (hnj.1 9 2 (by decide) (by decide) (by decide)), eg417, hv_up_ne _ _ (hnj.2 9 (by decide)), eg415, hv_up_ne _ _ (hnj.2 9 (by decide)), eg412, hv_up_ne _ _ (hnj.1 9 13 (by decide) (by decide) (by decide)), eg406, hv_up_ne _ _ (hnj.1 9 12 (by decide) (by decide) (by decide)), eg400, hv_up_ne _ _ (hnj.1 9 6 (by decide) (by decide) (by decide)), eg396, hv_up_ne _ _ (hnj.1 9 5 (by decide) (by decide) (by decide)), eg392, hv_up_ne _ _ (hnj.1 9 4 (by decide) (by decide) (by decide)), eg388, hv_up_ne _ _ (hnj.1 9 3 (by decide) (by decide) (by decide)), eg384, hv_up_ne _ _ (hnj.1 9 2 (by decide) (by decide) (by decide))]; exact hc380
                                        have hq432 : g420 (a 10) = some (.inl (cA 0, 100, .inl (upd (wA V 6) c9 (baM (size.toInt64 - ((v).1)) (otF (size.toInt64 - ((v).1)) ((v).2.2.2.2.1, (v).2.2.2.2.2)))))) := by rw [eg420, hv_up_ne _ _ (hnj.1 10 2 (by decide) (by decide) (by decide)), eg417, hv_up_ne _ _ (hnj.2 10 (by decide)), eg415, hv_up_ne _ _ (hnj.2 10 (by decide)), eg412, hv_up_ne _ _ (hnj.1 10 13 (by decide) (by decide) (by decide)), eg406, hv_up_ne _ _ (hnj.1 10 12 (by decide) (by decide) (by decide)), eg400, hv_up_ne _ _ (hnj.1 10 6 (by decide) (by decide) (by decide)), eg396, hv_up_ne _ _ (hnj.1 10 5 (by decide) (by decide) (by decide)), eg392, hv_up_ne _ _ (hnj.1 10 4 (by decide) (by decide) (by decide)), eg388, hv_up_ne _ _ (hnj.1 10 3 (by decide) (by decide) (by decide)), eg384, hv_up_ne _ _ (hnj.1 10 2 (by decide) (by decide) (by decide))]; exact hd380
                                        have hq433 : g420 (a 11) = some (.inl (cA 0, 100, .inl (upd (wA V 7) c9 (ovM (size.toInt64 - ((v).1)) (otF (size.toInt64 - ((v).1)) ((v).2.2.2.2.1, (v).2.2.2.2.2)))))) := by rw [eg420, hv_up_ne _ _ (hnj.1 11 2 (by decide) (by decide) (by decide)), eg417, hv_up_ne _ _ (hnj.2 11 (by decide)), eg415, hv_up_ne _ _ (hnj.2 11 (by decide)), eg412, hv_up_ne _ _ (hnj.1 11 13 (by decide) (by decide) (by decide)), eg406, hv_up_ne _ _ (hnj.1 11 12 (by decide) (by decide) (by decide)), eg400, hv_up_ne _ _ (hnj.1 11 6 (by decide) (by decide) (by decide)), eg396, hv_up_ne _ _ (hnj.1 11 5 (by decide) (by decide) (by decide)), eg392, hv_up_ne _ _ (hnj.1 11 4 (by decide) (by decide) (by decide)), eg388, hv_up_ne _ _ (hnj.1 11 3 (by decide) (by decide) (by decide)), eg384, hv_up_ne _ _ (hnj.1 11 2 (by decide) (by decide) (by decide))]; exact he380
                                        have hq434 : g420 (a 12) = some (.inl (cA 0, 100, .inl (upd (wA V 8) c9 ((dL V s9 (e9 - s9)) + 1)))) := by rw [eg420, hv_up_ne _ _ (hnj.1 12 2 (by decide) (by decide) (by decide)), eg417, hv_up_ne _ _ (hnj.2 12 (by decide)), eg415, hv_up_ne _ _ (hnj.2 12 (by decide)), eg412, hv_up_ne _ _ (hnj.1 12 13 (by decide) (by decide) (by decide))]; exact hq407
                                        have hq435 : g420 (a 13) = some (.inl (cA 0, 100, .inl (upd (wA V 9) c9 (cA9 V s9 (e9 - s9))))) := by rw [eg420, hv_up_ne _ _ (hnj.1 13 2 (by decide) (by decide) (by decide)), eg417, hv_up_ne _ _ (hnj.2 13 (by decide)), eg415, hv_up_ne _ _ (hnj.2 13 (by decide))]; exact hq413
                                        have hq436 : g420 (a 14) = some (.inl (cA 1, 4, .inr (.inl (v).2.2.2.2.1))) := by rw [eg420, hv_up_ne _ _ (hnj.1 14 2 (by decide) (by decide) (by decide)), eg417, hv_up_ne _ _ (hnj.2 14 (by decide)), eg415, hv_up_ne _ _ (hnj.2 14 (by decide)), eg412, hv_up_ne _ _ (hnj.1 14 13 (by decide) (by decide) (by decide)), eg406, hv_up_ne _ _ (hnj.1 14 12 (by decide) (by decide) (by decide)), eg400, hv_up_ne _ _ (hnj.1 14 6 (by decide) (by decide) (by decide)), eg396, hv_up_ne _ _ (hnj.1 14 5 (by decide) (by decide) (by decide)), eg392, hv_up_ne _ _ (hnj.1 14 4 (by decide) (by decide) (by decide)), eg388, hv_up_ne _ _ (hnj.1 14 3 (by decide) (by decide) (by decide)), eg384, hv_up_ne _ _ (hnj.1 14 2 (by decide) (by decide) (by decide)), ho9380 _ (hnj.1 14 7 (by decide) (by decide) (by decide)) (hnj.1 14 8 (by decide) (by decide) (by decide)) (hnj.1 14 9 (by decide) (by decide) (by decide)) (hnj.1 14 10 (by decide) (by decide) (by decide)) (hnj.1 14 11 (by decide) (by decide) (by decide))]; exact hq377
                                        have hq437 : g420 (a 15) = some (.inl (cA 1, 4, .inr (.inl (v).2.2.2.2.2))) := by rw [eg420, hv_up_ne _ _ (hnj.1 15 2 (by decide) (by decide) (by decide)), eg417, hv_up_ne _ _ (hnj.2 15 (by decide)), eg415, hv_up_ne _ _ (hnj.2 15 (by decide)), eg412, hv_up_ne _ _ (hnj.1 15 13 (by decide) (by decide) (by decide)), eg406, hv_up_ne _ _ (hnj.1 15 12 (by decide) (by decide) (by decide)), eg400, hv_up_ne _ _ (hnj.1 15 6 (by decide) (by decide) (by decide)), eg396, hv_up_ne _ _ (hnj.1 15 5 (by decide) (by decide) (by decide)), eg392, hv_up_ne _ _ (hnj.1 15 4 (by decide) (by decide) (by decide)), eg388, hv_up_ne _ _ (hnj.1 15 3 (by decide) (by decide) (by decide)), eg384, hv_up_ne _ _ (hnj.1 15 2 (by decide) (by decide) (by decide)), ho9380 _ (hnj.1 15 7 (by decide) (by decide) (by decide)) (hnj.1 15 8 (by decide) (by decide) (by decide)) (hnj.1 15 9 (by decide) (by decide) (by decide)) (hnj.1 15 10 (by decide) (by decide) (by decide)) (hnj.1 15 11 (by decide) (by decide) (by decide))]; exact hq378
                                        have hat : atM V bel how size gr s9 (e9 - s9) v = fun j => [(((v).2.2.1).toInt32), ((((v).1) + (size.toInt64 - ((v).1))).toInt32), (((v).2.1).toInt32), (size.toInt64 - ((v).1)).toInt32, (otF (size.toInt64 - ((v).1)) ((v).2.2.2.2.1, (v).2.2.2.2.2)).1, (otF (size.toInt64 - ((v).1)) ((v).2.2.2.2.1, (v).2.2.2.2.2)).2, baM (size.toInt64 - ((v).1)) (otF (size.toInt64 - ((v).1)) ((v).2.2.2.2.1, (v).2.2.2.2.2)), ovM (size.toInt64 - ((v).1)) (otF (size.toInt64 - ((v).1)) ((v).2.2.2.2.1, (v).2.2.2.2.2)), ((dL V s9 (e9 - s9)) + 1), (cA9 V s9 (e9 - s9))].getD j 0 := by funext j9; simp only [atM, hln, hex, hun]; simp only [k99, if_true, if_false, Bool.false_eq_true]
                                        exact hv_iret hE hr hlocks hI hK (v := nI c9) ((show _ ∨ _ by rw [← ev, ← eG]; exact Or.inr (Or.inr (Or.inr ⟨(by simp [okPack, c2, n2, c7, n7, k15, k24]), hcc, c46, by rw [hgd, k172, k180]; simpa using k201, rfl, ⟨_, (((v).1) + (size.toInt64 - ((v).1)), (v).2.1, (v).2.2.1, (v).2.1, (v).2.2.2.2.1, (v).2.2.2.2.2), by rw [← nI_1]; exact hq422, hq436, hq437⟩, by rw [hat]; exact ⟨hq423, hq424, by rw [← pkW_F]; exact hq421, by rw [← pkW_B]; exact hq425, fun j hj => match j, hj with | 0, _ => hq426 | 1, _ => hq427 | 2, _ => hq428 | 3, _ => hq429 | 4, _ => hq430 | 5, _ => hq431 | 6, _ => hq432 | 7, _ => hq433 | 8, _ => hq434 | 9, _ => hq435 | j + 10, h9 => absurd h9 (by omega)⟩, fun z z1 hz => by rw [eg420, hv_up_ne _ _ (hz 2 (by decide) (by decide)), eg417, hv_up_ne _ _ z1, eg415, hv_up_ne _ _ z1, eg412, hv_up_ne _ _ (hz 13 (by decide) (by decide)), eg406, hv_up_ne _ _ (hz 12 (by decide) (by decide)), eg400, hv_up_ne _ _ (hz 6 (by decide) (by decide)), eg396, hv_up_ne _ _ (hz 5 (by decide) (by decide)), eg392, hv_up_ne _ _ (hz 4 (by decide) (by decide)), eg388, hv_up_ne _ _ (hz 3 (by decide) (by decide)), eg384, hv_up_ne _ _ (hz 2 (by decide) (by decide)), ho9380 _ (hz 7 (by decide) (by decide)) (hz 8 (by decide) (by decide)) (hz 9 (by decide) (by decide)) (hz 10 (by decide) (by decide)) (hz 11 (by decide) (by decide)), ho9375 _ z1, eg373, hv_up_ne _ _ z1, eg270, hv_up_ne _ _ z1]; exact hfo z z1 (hz 14 (by decide) (by decide)) (hz 15 (by decide) (by decide))⟩)))) (by decide) (by decide) d_Mo_pack_359
                                  · skip
                                    have k201 := b2i_f c201
                                    refine lv_aload_n hx hb d_Mo_pack_204 rfl (lv_at hl 1 rfl) ?_
                                    refine lv_iconst (v := 3) hx hb d_Mo_pack_205 (by decide) ?_
                                    refine hv_put hE k_Mo hI 0 (by decide) w516 hg375 rfl rfl rfl (Nat.le_of_ble_eq_true rfl) d_Mo_pack_206 (fun H locs hI => ?_)
                                    obtain ⟨g438, eg438⟩ : ∃ z : hv_M, z = hv_up g376 mo (moE a 3 (nI s9) (nI e9) (nI c9) (true && sz (((v).1) + (size.toInt64 - ((v).1)))) (((v).1) + (size.toInt64 - ((v).1))) ((v).2.1) ((v).2.2.1) ((v).2.1) md) := ⟨_, rfl⟩
                                    have hI : hv_I D CL b0 g438 s.heap H locs := by rw [eg438]; exact hI
                                    have hq439 : g438 mo = some (moE a 3 (nI s9) (nI e9) (nI c9) (true && sz (((v).1) + (size.toInt64 - ((v).1)))) (((v).1) + (size.toInt64 - ((v).1))) ((v).2.1) ((v).2.2.1) ((v).2.1) md) := by rw [eg438]; exact hv_up_self _ _ _
                                    refine lv_iconst (v := 0) hx hb d_Mo_pack_209 (by decide) ?_
                                    have hq440 : g438 (a 14) = some (.inl (cA 1, 4, .inr (.inl (v).2.2.2.2.1))) := by rw [eg438, hv_up_ne _ _ (hnj.2 14 (by decide)), ho9375 _ (hnj.2 14 (by decide)), eg373, hv_up_ne _ _ (hnj.2 14 (by decide)), eg270, hv_up_ne _ _ (hnj.2 14 (by decide))]; exact hs.2.1
                                    have hq441 : g438 (a 15) = some (.inl (cA 1, 4, .inr (.inl (v).2.2.2.2.2))) := by rw [eg438, hv_up_ne _ _ (hnj.2 15 (by decide)), ho9375 _ (hnj.2 15 (by decide)), eg373, hv_up_ne _ _ (hnj.2 15 (by decide)), eg270, hv_up_ne _ _ (hnj.2 15 (by decide))]; exact hs.2.2
                                    exact hv_iret hE hr hlocks hI hK (v := 0) ((show _ ∨ _ by rw [← ev, ← eG]; exact Or.inr (Or.inr (Or.inl ⟨(by simp [okPack, c2, n2, c7, n7, k15, k24]), hcc, c46, by rw [hgd, k172, k180]; simpa using k201, rfl, ⟨_, (((v).1) + (size.toInt64 - ((v).1)), (v).2.1, (v).2.2.1, (v).2.1, (v).2.2.2.2.1, (v).2.2.2.2.2), hq439, hq440, hq441⟩, fun z z1 z2 z3 => by rw [eg438, hv_up_ne _ _ z1, ho9375 _ z1, eg373, hv_up_ne _ _ z1, eg270, hv_up_ne _ _ z1]; exact hfo z z1 z2 z3⟩)))) (by decide) (by decide) d_Mo_pack_210
                          · skip
                            refine lv_lconst (v := 0) hx hb d_Mo_pack_144 (by decide) ?_
                            refine lv_goto (tgt := 165) hx hb d_Mo_pack_145 (by decide) ?_
                            refine lv_lstore (lv' := [(5, .long 0), (0, .ref mo), (1, .int (b2i bel)), (2, .int how), (3, .int size), (4, .int gr)]) hx hb d_Mo_pack_165 hl (by decide) rfl (fun ls hl => ?_)
                            have hln : lnM bel gr v = (v).1 := by simp only [lnM, k99, n118, and_true, true_and, and_false, false_and, if_true, if_false, Bool.false_eq_true]
                            have hun : unM bel gr v = (v).2.1 := by simp only [unM, k99, n118, if_true, if_false, Bool.false_eq_true]
                            have hex : exM how size ((v).1) = 0 := by simp only [exM, c141, if_true, if_false, show ¬ (1 : Int32) = 0 from by decide]
                            have hgd : (G && gdM bel how size gr v) = (G && sz (0) && sz (((v).1) + 0)) := by simp only [gdM, hln, hex]; simp [k99, n118, Bool.and_assoc]
                            refine lv_aload_n hx hb d_Mo_pack_167 rfl (lv_at hl 1 rfl) ?_
                            refine lv_aload_n hx hb d_Mo_pack_168 rfl (lv_at hl 1 rfl) ?_
                            refine hv_get hE k_Mo hI 18 (by decide) w534 hq271 rfl d_Mo_pack_169 ?_
                            refine lv_if_eq (tgt := 187) hx hb d_Mo_pack_172 (by decide) (fun c172 => ?_) (fun c172 => ?_)
                            · skip
                              have k172 := b2i_f c172
                              refine lv_iconst (v := 0) hx hb d_Mo_pack_187 (by decide) ?_
                              refine hv_put hE k_Mo hI 18 (by decide) w534 hq271 rfl rfl rfl (Nat.le_of_ble_eq_true rfl) d_Mo_pack_188 (fun H locs hI => ?_)
                              obtain ⟨g442, eg442⟩ : ∃ z : hv_M, z = hv_up g270 mo (moE a 0 (nI s9) (nI e9) (nI c9) false ((v).1) ((v).2.1) ((v).2.2.1) ((v).2.1) md) := ⟨_, rfl⟩
                              have hI : hv_I D CL b0 g442 s.heap H locs := by rw [eg442]; exact hI
                              have hq443 : g442 mo = some (moE a 0 (nI s9) (nI e9) (nI c9) false ((v).1) ((v).2.1) ((v).2.2.1) ((v).2.1) md) := by rw [eg442]; exact hv_up_self _ _ _
                              refine lv_aload_n hx hb d_Mo_pack_191 rfl (lv_at hl 1 rfl) ?_
                              refine lv_lload hx hb d_Mo_pack_192 (lv_at hl 0 rfl) ?_
                              refine hv_V (As := [.long 0]) (rest := []) hE hml hK hI (c_Mo_grow l hl0 b0 D cA g442 mo a 0 (nI s9) (nI e9) (nI c9) false ((v).1) ((v).2.1) ((v).2.2.1) ((v).2.1) md 0 hq443 hnj) cd_Mo_grow w684 w686 ws26 hq443 rfl rfl hl.1 (Nat.le_of_ble_eq_true rfl) d_Mo_pack_194 ⟨by decide, by decide⟩ ⟨by decide, by decide⟩ (fun v9 g445 H locs hp hI => ?_) (fun q9 E9 ce9 g9 H locs hp => hp.elim)
                              obtain ⟨hv, hg444, ho9444⟩ := hp
                              rw [hv]
                              refine W.eq (g2 := F0 m 197 ls []) rfl ?_
                              refine lv_aload_n hx hb d_Mo_pack_197 rfl (lv_at hl 1 rfl) ?_
                              refine hv_get hE k_Mo hI 18 (by decide) w534 hg444 rfl d_Mo_pack_198 ?_
                              refine lv_if_ne (tgt := 211) hx hb d_Mo_pack_201 (by decide) (fun c201 => ?_) (fun c201 => ?_)
                              · skip
                                have k201 := b2i_t c201
                                exact absurd k201 (by simp)
                              · skip
                                have k201 := b2i_f c201
                                refine lv_aload_n hx hb d_Mo_pack_204 rfl (lv_at hl 1 rfl) ?_
                                refine lv_iconst (v := 3) hx hb d_Mo_pack_205 (by decide) ?_
                                refine hv_put hE k_Mo hI 0 (by decide) w516 hg444 rfl rfl rfl (Nat.le_of_ble_eq_true rfl) d_Mo_pack_206 (fun H locs hI => ?_)
                                obtain ⟨g446, eg446⟩ : ∃ z : hv_M, z = hv_up g445 mo (moE a 3 (nI s9) (nI e9) (nI c9) (false && sz (((v).1) + 0)) (((v).1) + 0) ((v).2.1) ((v).2.2.1) ((v).2.1) md) := ⟨_, rfl⟩
                                have hI : hv_I D CL b0 g446 s.heap H locs := by rw [eg446]; exact hI
                                have hq447 : g446 mo = some (moE a 3 (nI s9) (nI e9) (nI c9) (false && sz (((v).1) + 0)) (((v).1) + 0) ((v).2.1) ((v).2.2.1) ((v).2.1) md) := by rw [eg446]; exact hv_up_self _ _ _
                                refine lv_iconst (v := 0) hx hb d_Mo_pack_209 (by decide) ?_
                                have hq448 : g446 (a 14) = some (.inl (cA 1, 4, .inr (.inl (v).2.2.2.2.1))) := by rw [eg446, hv_up_ne _ _ (hnj.2 14 (by decide)), ho9444 _ (hnj.2 14 (by decide)), eg442, hv_up_ne _ _ (hnj.2 14 (by decide)), eg270, hv_up_ne _ _ (hnj.2 14 (by decide))]; exact hs.2.1
                                have hq449 : g446 (a 15) = some (.inl (cA 1, 4, .inr (.inl (v).2.2.2.2.2))) := by rw [eg446, hv_up_ne _ _ (hnj.2 15 (by decide)), ho9444 _ (hnj.2 15 (by decide)), eg442, hv_up_ne _ _ (hnj.2 15 (by decide)), eg270, hv_up_ne _ _ (hnj.2 15 (by decide))]; exact hs.2.2
                                exact hv_iret hE hr hlocks hI hK (v := 0) ((show _ ∨ _ by rw [← ev, ← eG]; exact Or.inr (Or.inr (Or.inl ⟨(by simp [okPack, c2, n2, c7, n7, k15, k24]), hcc, c46, by rw [hgd]; simp [k172], rfl, ⟨_, (((v).1) + 0, (v).2.1, (v).2.2.1, (v).2.1, (v).2.2.2.2.1, (v).2.2.2.2.2), hq447, hq448, hq449⟩, fun z z1 z2 z3 => by rw [eg446, hv_up_ne _ _ z1, ho9444 _ z1, eg442, hv_up_ne _ _ z1, eg270, hv_up_ne _ _ z1]; exact hfo z z1 z2 z3⟩)))) (by decide) (by decide) d_Mo_pack_210
                            · skip
                              have k172 := b2i_t c172
                              refine lv_lload hx hb d_Mo_pack_175 (lv_at hl 0 rfl) ?_
                              refine hv_Sp (As := [.long 0]) (rest := [.ref mo]) hE hml hK hI (c_Mo_isSize l hl0 b0 D cA g270 0) cd_Mo_isSize w608 w609 rfl rfl rfl hl.1 (Nat.le_of_ble_eq_true rfl) d_Mo_pack_177 ⟨by decide, by decide⟩ ⟨by decide, by decide⟩ (fun H locs hI => ?_)
                              refine W.eq (g2 := F0 m 180 ls [.int (b2i (sz 0)), .ref mo]) rfl ?_
                              refine lv_if_eq (tgt := 187) hx hb d_Mo_pack_180 (by decide) (fun c180 => ?_) (fun c180 => ?_)
                              · skip
                                have k180 := b2i_f c180
                                refine lv_iconst (v := 0) hx hb d_Mo_pack_187 (by decide) ?_
                                refine hv_put hE k_Mo hI 18 (by decide) w534 hq271 rfl rfl rfl (Nat.le_of_ble_eq_true rfl) d_Mo_pack_188 (fun H locs hI => ?_)
                                obtain ⟨g450, eg450⟩ : ∃ z : hv_M, z = hv_up g270 mo (moE a 0 (nI s9) (nI e9) (nI c9) false ((v).1) ((v).2.1) ((v).2.2.1) ((v).2.1) md) := ⟨_, rfl⟩
                                have hI : hv_I D CL b0 g450 s.heap H locs := by rw [eg450]; exact hI
                                have hq451 : g450 mo = some (moE a 0 (nI s9) (nI e9) (nI c9) false ((v).1) ((v).2.1) ((v).2.2.1) ((v).2.1) md) := by rw [eg450]; exact hv_up_self _ _ _
                                refine lv_aload_n hx hb d_Mo_pack_191 rfl (lv_at hl 1 rfl) ?_
                                refine lv_lload hx hb d_Mo_pack_192 (lv_at hl 0 rfl) ?_
                                refine hv_V (As := [.long 0]) (rest := []) hE hml hK hI (c_Mo_grow l hl0 b0 D cA g450 mo a 0 (nI s9) (nI e9) (nI c9) false ((v).1) ((v).2.1) ((v).2.2.1) ((v).2.1) md 0 hq451 hnj) cd_Mo_grow w684 w686 ws26 hq451 rfl rfl hl.1 (Nat.le_of_ble_eq_true rfl) d_Mo_pack_194 ⟨by decide, by decide⟩ ⟨by decide, by decide⟩ (fun v9 g453 H locs hp hI => ?_) (fun q9 E9 ce9 g9 H locs hp => hp.elim)
                                obtain ⟨hv, hg452, ho9452⟩ := hp
                                rw [hv]
                                refine W.eq (g2 := F0 m 197 ls []) rfl ?_
                                refine lv_aload_n hx hb d_Mo_pack_197 rfl (lv_at hl 1 rfl) ?_
                                refine hv_get hE k_Mo hI 18 (by decide) w534 hg452 rfl d_Mo_pack_198 ?_
                                refine lv_if_ne (tgt := 211) hx hb d_Mo_pack_201 (by decide) (fun c201 => ?_) (fun c201 => ?_)
                                · skip
                                  have k201 := b2i_t c201
                                  exact absurd k201 (by simp)
                                · skip
                                  have k201 := b2i_f c201
                                  refine lv_aload_n hx hb d_Mo_pack_204 rfl (lv_at hl 1 rfl) ?_
                                  refine lv_iconst (v := 3) hx hb d_Mo_pack_205 (by decide) ?_
                                  refine hv_put hE k_Mo hI 0 (by decide) w516 hg452 rfl rfl rfl (Nat.le_of_ble_eq_true rfl) d_Mo_pack_206 (fun H locs hI => ?_)
                                  obtain ⟨g454, eg454⟩ : ∃ z : hv_M, z = hv_up g453 mo (moE a 3 (nI s9) (nI e9) (nI c9) (false && sz (((v).1) + 0)) (((v).1) + 0) ((v).2.1) ((v).2.2.1) ((v).2.1) md) := ⟨_, rfl⟩
                                  have hI : hv_I D CL b0 g454 s.heap H locs := by rw [eg454]; exact hI
                                  have hq455 : g454 mo = some (moE a 3 (nI s9) (nI e9) (nI c9) (false && sz (((v).1) + 0)) (((v).1) + 0) ((v).2.1) ((v).2.2.1) ((v).2.1) md) := by rw [eg454]; exact hv_up_self _ _ _
                                  refine lv_iconst (v := 0) hx hb d_Mo_pack_209 (by decide) ?_
                                  have hq456 : g454 (a 14) = some (.inl (cA 1, 4, .inr (.inl (v).2.2.2.2.1))) := by rw [eg454, hv_up_ne _ _ (hnj.2 14 (by decide)), ho9452 _ (hnj.2 14 (by decide)), eg450, hv_up_ne _ _ (hnj.2 14 (by decide)), eg270, hv_up_ne _ _ (hnj.2 14 (by decide))]; exact hs.2.1
                                  have hq457 : g454 (a 15) = some (.inl (cA 1, 4, .inr (.inl (v).2.2.2.2.2))) := by rw [eg454, hv_up_ne _ _ (hnj.2 15 (by decide)), ho9452 _ (hnj.2 15 (by decide)), eg450, hv_up_ne _ _ (hnj.2 15 (by decide)), eg270, hv_up_ne _ _ (hnj.2 15 (by decide))]; exact hs.2.2
                                  exact hv_iret hE hr hlocks hI hK (v := 0) ((show _ ∨ _ by rw [← ev, ← eG]; exact Or.inr (Or.inr (Or.inl ⟨(by simp [okPack, c2, n2, c7, n7, k15, k24]), hcc, c46, by rw [hgd]; simp [k172, k180], rfl, ⟨_, (((v).1) + 0, (v).2.1, (v).2.2.1, (v).2.1, (v).2.2.2.2.1, (v).2.2.2.2.2), hq455, hq456, hq457⟩, fun z z1 z2 z3 => by rw [eg454, hv_up_ne _ _ z1, ho9452 _ z1, eg450, hv_up_ne _ _ z1, eg270, hv_up_ne _ _ z1]; exact hfo z z1 z2 z3⟩)))) (by decide) (by decide) d_Mo_pack_210
                              · skip
                                have k180 := b2i_t c180
                                refine lv_iconst (v := 1) hx hb d_Mo_pack_183 (by decide) ?_
                                refine lv_goto (tgt := 188) hx hb d_Mo_pack_184 (by decide) ?_
                                refine hv_put hE k_Mo hI 18 (by decide) w534 hq271 rfl rfl rfl (Nat.le_of_ble_eq_true rfl) d_Mo_pack_188 (fun H locs hI => ?_)
                                obtain ⟨g458, eg458⟩ : ∃ z : hv_M, z = hv_up g270 mo (moE a 0 (nI s9) (nI e9) (nI c9) true ((v).1) ((v).2.1) ((v).2.2.1) ((v).2.1) md) := ⟨_, rfl⟩
                                have hI : hv_I D CL b0 g458 s.heap H locs := by rw [eg458]; exact hI
                                have hq459 : g458 mo = some (moE a 0 (nI s9) (nI e9) (nI c9) true ((v).1) ((v).2.1) ((v).2.2.1) ((v).2.1) md) := by rw [eg458]; exact hv_up_self _ _ _
                                refine lv_aload_n hx hb d_Mo_pack_191 rfl (lv_at hl 1 rfl) ?_
                                refine lv_lload hx hb d_Mo_pack_192 (lv_at hl 0 rfl) ?_
                                refine hv_V (As := [.long 0]) (rest := []) hE hml hK hI (c_Mo_grow l hl0 b0 D cA g458 mo a 0 (nI s9) (nI e9) (nI c9) true ((v).1) ((v).2.1) ((v).2.2.1) ((v).2.1) md 0 hq459 hnj) cd_Mo_grow w684 w686 ws26 hq459 rfl rfl hl.1 (Nat.le_of_ble_eq_true rfl) d_Mo_pack_194 ⟨by decide, by decide⟩ ⟨by decide, by decide⟩ (fun v9 g461 H locs hp hI => ?_) (fun q9 E9 ce9 g9 H locs hp => hp.elim)
                                obtain ⟨hv, hg460, ho9460⟩ := hp
                                rw [hv]
                                refine W.eq (g2 := F0 m 197 ls []) rfl ?_
                                refine lv_aload_n hx hb d_Mo_pack_197 rfl (lv_at hl 1 rfl) ?_
                                refine hv_get hE k_Mo hI 18 (by decide) w534 hg460 rfl d_Mo_pack_198 ?_
                                refine lv_if_ne (tgt := 211) hx hb d_Mo_pack_201 (by decide) (fun c201 => ?_) (fun c201 => ?_)
                                · skip
                                  have k201 := b2i_t c201
                                  refine lv_aload_n hx hb d_Mo_pack_211 rfl (lv_at hl 1 rfl) ?_
                                  refine hv_get hE k_Mo hI 5 (by decide) w521 hg460 rfl d_Mo_pack_212 ?_
                                  refine lv_istore (lv' := [(7, .int (nI c9)), (5, .long 0), (0, .ref mo), (1, .int (b2i bel)), (2, .int how), (3, .int size), (4, .int gr)]) hx hb d_Mo_pack_215 hl (by decide) rfl (fun ls hl => ?_)
                                  refine lv_aload_n hx hb d_Mo_pack_217 rfl (lv_at hl 2 rfl) ?_
                                  refine lv_iload hx hb d_Mo_pack_218 (lv_at hl 0 rfl) ?_
                                  refine lv_lload hx hb d_Mo_pack_220 (lv_at hl 1 rfl) ?_
                                  have hq462 : g461 (a 14) = some (.inl (cA 1, 4, .inr (.inl (v).2.2.2.2.1))) := by rw [ho9460 _ (hnj.2 14 (by decide)), eg458, hv_up_ne _ _ (hnj.2 14 (by decide)), eg270, hv_up_ne _ _ (hnj.2 14 (by decide))]; exact hs.2.1
                                  have hq463 : g461 (a 15) = some (.inl (cA 1, 4, .inr (.inl (v).2.2.2.2.2))) := by rw [ho9460 _ (hnj.2 15 (by decide)), eg458, hv_up_ne _ _ (hnj.2 15 (by decide)), eg270, hv_up_ne _ _ (hnj.2 15 (by decide))]; exact hs.2.2
                                  have hA464 : moA cA g461 a V := ⟨by rw [ho9460 _ (hnj.2 0 (by decide)), eg458, hv_up_ne _ _ (hnj.2 0 (by decide)), eg270, hv_up_ne _ _ (hnj.2 0 (by decide))]; exact hAg.1, by rw [ho9460 _ (hnj.2 1 (by decide)), eg458, hv_up_ne _ _ (hnj.2 1 (by decide)), eg270, hv_up_ne _ _ (hnj.2 1 (by decide))]; exact hAg.2.1, by rw [ho9460 _ (hnj.2 2 (by decide)), eg458, hv_up_ne _ _ (hnj.2 2 (by decide)), eg270, hv_up_ne _ _ (hnj.2 2 (by decide))]; exact hAg.2.2.1, by rw [ho9460 _ (hnj.2 3 (by decide)), eg458, hv_up_ne _ _ (hnj.2 3 (by decide)), eg270, hv_up_ne _ _ (hnj.2 3 (by decide))]; exact hAg.2.2.2.1, fun j9 hj9 => by rw [ho9460 _ (hnj.2 (4 + j9) (by omega)), eg458, hv_up_ne _ _ (hnj.2 (4 + j9) (by omega)), eg270, hv_up_ne _ _ (hnj.2 (4 + j9) (by omega))]; exact hAg.2.2.2.2 j9 hj9⟩
                                  refine hv_V (As := [.int (nI c9), .long 0]) (rest := []) hE hml hK hI (c_Mo_setGlue l hl0 b0 D cA g461 mo a 0 (nI s9) (nI e9) (nI c9) (true && sz (((v).1) + 0)) (((v).1) + 0) ((v).2.1) ((v).2.2.1) ((v).2.1) md V ((v).2.2.2.2.1) ((v).2.2.2.2.2) 0 c9 hg460 hnj hA464 hq462 hq463 (by omega)) cd_Mo_setGlue w700 w702 ws30 hg460 rfl rfl hl.1 (Nat.le_of_ble_eq_true rfl) d_Mo_pack_222 ⟨by decide, by decide⟩ ⟨by decide, by decide⟩ (fun v9 g466 H locs hp hI => ?_) (fun q9 E9 ce9 g9 H locs hp => hp.elim)
                                  obtain ⟨hv, ha465, hb465, hc465, hd465, he465, ho9465⟩ := hp
                                  rw [hv]
                                  refine W.eq (g2 := F0 m 225 ls []) rfl ?_
                                  refine lv_aload_n hx hb d_Mo_pack_225 rfl (lv_at hl 2 rfl) ?_
                                  have hq467 : g466 mo = some (moE a 0 (nI s9) (nI e9) (nI c9) (true && sz (((v).1) + 0)) (((v).1) + 0) ((v).2.1) ((v).2.2.1) ((v).2.1) md) := by rw [ho9465 _ (Ne.symm (hnj.2 7 (by decide))) (Ne.symm (hnj.2 8 (by decide))) (Ne.symm (hnj.2 9 (by decide))) (Ne.symm (hnj.2 10 (by decide))) (Ne.symm (hnj.2 11 (by decide)))]; exact hg460
                                  refine hv_get hE k_Mo hI 6 (by decide) w522 hq467 rfl d_Mo_pack_226 ?_
                                  refine lv_iload hx hb d_Mo_pack_229 (lv_at hl 0 rfl) ?_
                                  refine lv_aload_n hx hb d_Mo_pack_231 rfl (lv_at hl 2 rfl) ?_
                                  refine hv_get hE k_Mo hI 3 (by decide) w519 hq467 rfl d_Mo_pack_232 ?_
                                  have hq468 : g466 (a 2) = some (.inl (cA 0, 101, .inl (fun b => nI (wF V b)))) := by rw [ho9465 _ (hnj.1 2 7 (by decide) (by decide) (by decide)) (hnj.1 2 8 (by decide) (by decide) (by decide)) (hnj.1 2 9 (by decide) (by decide) (by decide)) (hnj.1 2 10 (by decide) (by decide) (by decide)) (hnj.1 2 11 (by decide) (by decide) (by decide)), ho9460 _ (hnj.2 2 (by decide)), eg458, hv_up_ne _ _ (hnj.2 2 (by decide)), eg270, hv_up_ne _ _ (hnj.2 2 (by decide))]; exact hAg.2.2.1
                                  refine hv_iast hE hI 0 hq468 rfl (pk_in c9 101 (by omega) rfl (by omega)) d_Mo_pack_235 (fun H locs hI => ?_)
                                  rw [nI_cl (by omega)] at hI
                                  obtain ⟨g469, eg469⟩ : ∃ z : hv_M, z = hv_up g466 (a 2) (.inl (cA 0, 101, .inl (upd (fun b => nI (wF V b)) c9 (nI s9)))) := ⟨_, rfl⟩
                                  have hI : hv_I D CL b0 g469 s.heap H locs := by rw [eg469]; exact hI
                                  have hq470 : g469 (a 2) = some (.inl (cA 0, 101, .inl (upd (fun b => nI (wF V b)) c9 (nI s9)))) := by rw [eg469]; exact hv_up_self _ _ _
                                  refine lv_aload_n hx hb d_Mo_pack_236 rfl (lv_at hl 2 rfl) ?_
                                  have hq471 : g469 mo = some (moE a 0 (nI s9) (nI e9) (nI c9) (true && sz (((v).1) + 0)) (((v).1) + 0) ((v).2.1) ((v).2.2.1) ((v).2.1) md) := by rw [eg469, hv_up_ne _ _ (Ne.symm (hnj.2 2 (by decide)))]; exact hq467
                                  refine hv_get hE k_Mo hI 7 (by decide) w523 hq471 rfl d_Mo_pack_237 ?_
                                  refine lv_iload hx hb d_Mo_pack_240 (lv_at hl 0 rfl) ?_
                                  refine lv_iload_n hx hb d_Mo_pack_242 rfl (lv_at hl 3 rfl) ?_
                                  have hq472 : g469 (a 3) = some (.inl (cA 2, 100, .inl (fun b => b2i (wB V b)))) := by rw [eg469, hv_up_ne _ _ (hnj.1 3 2 (by decide) (by decide) (by decide)), ho9465 _ (hnj.1 3 7 (by decide) (by decide) (by decide)) (hnj.1 3 8 (by decide) (by decide) (by decide)) (hnj.1 3 9 (by decide) (by decide) (by decide)) (hnj.1 3 10 (by decide) (by decide) (by decide)) (hnj.1 3 11 (by decide) (by decide) (by decide)), ho9460 _ (hnj.2 3 (by decide)), eg458, hv_up_ne _ _ (hnj.2 3 (by decide)), eg270, hv_up_ne _ _ (hnj.2 3 (by decide))]; exact hAg.2.2.2.1
                                  refine hv_zast hE hI 2 hq472 rfl (pk_in c9 100 (by omega) rfl (by omega)) d_Mo_pack_243 (fun H locs hI => ?_)
                                  rw [nI_cl (by omega)] at hI
                                  obtain ⟨g473, eg473⟩ : ∃ z : hv_M, z = hv_up g469 (a 3) (.inl (cA 2, 100, .inl (upd (fun b => b2i (wB V b)) c9 (b2i bel)))) := ⟨_, rfl⟩
                                  have hI : hv_I D CL b0 g473 s.heap H locs := by rw [eg473]; exact hI
                                  have hq474 : g473 (a 3) = some (.inl (cA 2, 100, .inl (upd (fun b => b2i (wB V b)) c9 (b2i bel)))) := by rw [eg473]; exact hv_up_self _ _ _
                                  refine lv_aload_n hx hb d_Mo_pack_244 rfl (lv_at hl 2 rfl) ?_
                                  have hq475 : g473 mo = some (moE a 0 (nI s9) (nI e9) (nI c9) (true && sz (((v).1) + 0)) (((v).1) + 0) ((v).2.1) ((v).2.2.1) ((v).2.1) md) := by rw [eg473, hv_up_ne _ _ (Ne.symm (hnj.2 3 (by decide)))]; exact hq471
                                  refine hv_get hE k_Mo hI 8 (by decide) w524 hq475 rfl d_Mo_pack_245 ?_
                                  refine lv_iload hx hb d_Mo_pack_248 (lv_at hl 0 rfl) ?_
                                  refine lv_iload_n hx hb d_Mo_pack_250 rfl (lv_at hl 3 rfl) ?_
                                  refine lv_if_eq (tgt := 261) hx hb d_Mo_pack_251 (by decide) (fun c251 => ?_) (fun c251 => ?_)
                                  · skip
                                    have k251 := b2i_f c251
                                    exact absurd k251 (by rw [k99]; decide)
                                  · skip
                                    have k251 := b2i_t c251
                                    refine lv_aload_n hx hb d_Mo_pack_254 rfl (lv_at hl 2 rfl) ?_
                                    refine hv_get hE k_Mo hI 21 (by decide) w537 hq475 rfl d_Mo_pack_255 ?_
                                    refine lv_goto (tgt := 265) hx hb d_Mo_pack_258 (by decide) ?_
                                    refine lv_l2i (v := ((v).2.2.1).toInt32) hx hb d_Mo_pack_265 rfl ?_
                                    have hq476 : g473 (a 4) = some (.inl (cA 0, 100, .inl (wA V 0))) := by rw [eg473, hv_up_ne _ _ (hnj.1 4 3 (by decide) (by decide) (by decide)), eg469, hv_up_ne _ _ (hnj.1 4 2 (by decide) (by decide) (by decide)), ho9465 _ (hnj.1 4 7 (by decide) (by decide) (by decide)) (hnj.1 4 8 (by decide) (by decide) (by decide)) (hnj.1 4 9 (by decide) (by decide) (by decide)) (hnj.1 4 10 (by decide) (by decide) (by decide)) (hnj.1 4 11 (by decide) (by decide) (by decide)), ho9460 _ (hnj.2 4 (by decide)), eg458, hv_up_ne _ _ (hnj.2 4 (by decide)), eg270, hv_up_ne _ _ (hnj.2 4 (by decide))]; exact (hAg.2.2.2.2 0 (by decide))
                                    refine hv_iast hE hI 0 hq476 rfl (pk_in c9 100 (by omega) rfl (by omega)) d_Mo_pack_266 (fun H locs hI => ?_)
                                    rw [nI_cl (by omega)] at hI
                                    obtain ⟨g477, eg477⟩ : ∃ z : hv_M, z = hv_up g473 (a 4) (.inl (cA 0, 100, .inl (upd (wA V 0) c9 (((v).2.2.1).toInt32)))) := ⟨_, rfl⟩
                                    have hI : hv_I D CL b0 g477 s.heap H locs := by rw [eg477]; exact hI
                                    have hq478 : g477 (a 4) = some (.inl (cA 0, 100, .inl (upd (wA V 0) c9 (((v).2.2.1).toInt32)))) := by rw [eg477]; exact hv_up_self _ _ _
                                    refine lv_aload_n hx hb d_Mo_pack_267 rfl (lv_at hl 2 rfl) ?_
                                    have hq479 : g477 mo = some (moE a 0 (nI s9) (nI e9) (nI c9) (true && sz (((v).1) + 0)) (((v).1) + 0) ((v).2.1) ((v).2.2.1) ((v).2.1) md) := by rw [eg477, hv_up_ne _ _ (Ne.symm (hnj.2 4 (by decide)))]; exact hq475
                                    refine hv_get hE k_Mo hI 9 (by decide) w525 hq479 rfl d_Mo_pack_268 ?_
                                    refine lv_iload hx hb d_Mo_pack_271 (lv_at hl 0 rfl) ?_
                                    refine lv_iload_n hx hb d_Mo_pack_273 rfl (lv_at hl 3 rfl) ?_
                                    refine lv_if_eq (tgt := 284) hx hb d_Mo_pack_274 (by decide) (fun c274 => ?_) (fun c274 => ?_)
                                    · skip
                                      have k274 := b2i_f c274
                                      exact absurd k274 (by rw [k99]; decide)
                                    · skip
                                      have k274 := b2i_t c274
                                      refine lv_aload_n hx hb d_Mo_pack_277 rfl (lv_at hl 2 rfl) ?_
                                      refine hv_get hE k_Mo hI 19 (by decide) w535 hq479 rfl d_Mo_pack_278 ?_
                                      refine lv_goto (tgt := 288) hx hb d_Mo_pack_281 (by decide) ?_
                                      refine lv_l2i (v := (((v).1) + 0).toInt32) hx hb d_Mo_pack_288 rfl ?_
                                      have hq480 : g477 (a 5) = some (.inl (cA 0, 100, .inl (wA V 1))) := by rw [eg477, hv_up_ne _ _ (hnj.1 5 4 (by decide) (by decide) (by decide)), eg473, hv_up_ne _ _ (hnj.1 5 3 (by decide) (by decide) (by decide)), eg469, hv_up_ne _ _ (hnj.1 5 2 (by decide) (by decide) (by decide)), ho9465 _ (hnj.1 5 7 (by decide) (by decide) (by decide)) (hnj.1 5 8 (by decide) (by decide) (by decide)) (hnj.1 5 9 (by decide) (by decide) (by decide)) (hnj.1 5 10 (by decide) (by decide) (by decide)) (hnj.1 5 11 (by decide) (by decide) (by decide)), ho9460 _ (hnj.2 5 (by decide)), eg458, hv_up_ne _ _ (hnj.2 5 (by decide)), eg270, hv_up_ne _ _ (hnj.2 5 (by decide))]; exact (hAg.2.2.2.2 1 (by decide))
                                      refine hv_iast hE hI 0 hq480 rfl (pk_in c9 100 (by omega) rfl (by omega)) d_Mo_pack_289 (fun H locs hI => ?_)
                                      rw [nI_cl (by omega)] at hI
                                      obtain ⟨g481, eg481⟩ : ∃ z : hv_M, z = hv_up g477 (a 5) (.inl (cA 0, 100, .inl (upd (wA V 1) c9 ((((v).1) + 0).toInt32)))) := ⟨_, rfl⟩
                                      have hI : hv_I D CL b0 g481 s.heap H locs := by rw [eg481]; exact hI
                                      have hq482 : g481 (a 5) = some (.inl (cA 0, 100, .inl (upd (wA V 1) c9 ((((v).1) + 0).toInt32)))) := by rw [eg481]; exact hv_up_self _ _ _
                                      refine lv_aload_n hx hb d_Mo_pack_290 rfl (lv_at hl 2 rfl) ?_
                                      have hq483 : g481 mo = some (moE a 0 (nI s9) (nI e9) (nI c9) (true && sz (((v).1) + 0)) (((v).1) + 0) ((v).2.1) ((v).2.2.1) ((v).2.1) md) := by rw [eg481, hv_up_ne _ _ (Ne.symm (hnj.2 5 (by decide)))]; exact hq479
                                      refine hv_get hE k_Mo hI 10 (by decide) w526 hq483 rfl d_Mo_pack_291 ?_
                                      refine lv_iload hx hb d_Mo_pack_294 (lv_at hl 0 rfl) ?_
                                      refine lv_aload_n hx hb d_Mo_pack_296 rfl (lv_at hl 2 rfl) ?_
                                      refine hv_get hE k_Mo hI 22 (by decide) w538 hq483 rfl d_Mo_pack_297 ?_
                                      refine lv_l2i (v := ((v).2.1).toInt32) hx hb d_Mo_pack_300 rfl ?_
                                      have hq484 : g481 (a 6) = some (.inl (cA 0, 100, .inl (wA V 2))) := by rw [eg481, hv_up_ne _ _ (hnj.1 6 5 (by decide) (by decide) (by decide)), eg477, hv_up_ne _ _ (hnj.1 6 4 (by decide) (by decide) (by decide)), eg473, hv_up_ne _ _ (hnj.1 6 3 (by decide) (by decide) (by decide)), eg469, hv_up_ne _ _ (hnj.1 6 2 (by decide) (by decide) (by decide)), ho9465 _ (hnj.1 6 7 (by decide) (by decide) (by decide)) (hnj.1 6 8 (by decide) (by decide) (by decide)) (hnj.1 6 9 (by decide) (by decide) (by decide)) (hnj.1 6 10 (by decide) (by decide) (by decide)) (hnj.1 6 11 (by decide) (by decide) (by decide)), ho9460 _ (hnj.2 6 (by decide)), eg458, hv_up_ne _ _ (hnj.2 6 (by decide)), eg270, hv_up_ne _ _ (hnj.2 6 (by decide))]; exact (hAg.2.2.2.2 2 (by decide))
                                      refine hv_iast hE hI 0 hq484 rfl (pk_in c9 100 (by omega) rfl (by omega)) d_Mo_pack_301 (fun H locs hI => ?_)
                                      rw [nI_cl (by omega)] at hI
                                      obtain ⟨g485, eg485⟩ : ∃ z : hv_M, z = hv_up g481 (a 6) (.inl (cA 0, 100, .inl (upd (wA V 2) c9 (((v).2.1).toInt32)))) := ⟨_, rfl⟩
                                      have hI : hv_I D CL b0 g485 s.heap H locs := by rw [eg485]; exact hI
                                      have hq486 : g485 (a 6) = some (.inl (cA 0, 100, .inl (upd (wA V 2) c9 (((v).2.1).toInt32)))) := by rw [eg485]; exact hv_up_self _ _ _
                                      refine lv_aload_n hx hb d_Mo_pack_302 rfl (lv_at hl 2 rfl) ?_
                                      have hq487 : g485 mo = some (moE a 0 (nI s9) (nI e9) (nI c9) (true && sz (((v).1) + 0)) (((v).1) + 0) ((v).2.1) ((v).2.2.1) ((v).2.1) md) := by rw [eg485, hv_up_ne _ _ (Ne.symm (hnj.2 6 (by decide)))]; exact hq483
                                      refine hv_get hE k_Mo hI 16 (by decide) w532 hq487 rfl d_Mo_pack_303 ?_
                                      refine lv_iload hx hb d_Mo_pack_306 (lv_at hl 0 rfl) ?_
                                      refine lv_aload_n hx hb d_Mo_pack_308 rfl (lv_at hl 2 rfl) ?_
                                      have hq488 : g485 (a 0) = some (.inl (cA 0, 10200, .inl (wK V))) := by rw [eg485, hv_up_ne _ _ (hnj.1 0 6 (by decide) (by decide) (by decide)), eg481, hv_up_ne _ _ (hnj.1 0 5 (by decide) (by decide) (by decide)), eg477, hv_up_ne _ _ (hnj.1 0 4 (by decide) (by decide) (by decide)), eg473, hv_up_ne _ _ (hnj.1 0 3 (by decide) (by decide) (by decide)), eg469, hv_up_ne _ _ (hnj.1 0 2 (by decide) (by decide) (by decide)), ho9465 _ (hnj.1 0 7 (by decide) (by decide) (by decide)) (hnj.1 0 8 (by decide) (by decide) (by decide)) (hnj.1 0 9 (by decide) (by decide) (by decide)) (hnj.1 0 10 (by decide) (by decide) (by decide)) (hnj.1 0 11 (by decide) (by decide) (by decide)), ho9460 _ (hnj.2 0 (by decide)), eg458, hv_up_ne _ _ (hnj.2 0 (by decide)), eg270, hv_up_ne _ _ (hnj.2 0 (by decide))]; exact hAg.1
                                      have hq489 : g485 (a 1) = some (.inl (cA 0, 51000, .inl V.2.1)) := by rw [eg485, hv_up_ne _ _ (hnj.1 1 6 (by decide) (by decide) (by decide)), eg481, hv_up_ne _ _ (hnj.1 1 5 (by decide) (by decide) (by decide)), eg477, hv_up_ne _ _ (hnj.1 1 4 (by decide) (by decide) (by decide)), eg473, hv_up_ne _ _ (hnj.1 1 3 (by decide) (by decide) (by decide)), eg469, hv_up_ne _ _ (hnj.1 1 2 (by decide) (by decide) (by decide)), ho9465 _ (hnj.1 1 7 (by decide) (by decide) (by decide)) (hnj.1 1 8 (by decide) (by decide) (by decide)) (hnj.1 1 9 (by decide) (by decide) (by decide)) (hnj.1 1 10 (by decide) (by decide) (by decide)) (hnj.1 1 11 (by decide) (by decide) (by decide)), ho9460 _ (hnj.2 1 (by decide)), eg458, hv_up_ne _ _ (hnj.2 1 (by decide)), eg270, hv_up_ne _ _ (hnj.2 1 (by decide))]; exact hAg.2.1
                                      have hq490 : g485 (a 12) = some (.inl (cA 0, 100, .inl (wA V 8))) := by rw [eg485, hv_up_ne _ _ (hnj.1 12 6 (by decide) (by decide) (by decide)), eg481, hv_up_ne _ _ (hnj.1 12 5 (by decide) (by decide) (by decide)), eg477, hv_up_ne _ _ (hnj.1 12 4 (by decide) (by decide) (by decide)), eg473, hv_up_ne _ _ (hnj.1 12 3 (by decide) (by decide) (by decide)), eg469, hv_up_ne _ _ (hnj.1 12 2 (by decide) (by decide) (by decide)), ho9465 _ (hnj.1 12 7 (by decide) (by decide) (by decide)) (hnj.1 12 8 (by decide) (by decide) (by decide)) (hnj.1 12 9 (by decide) (by decide) (by decide)) (hnj.1 12 10 (by decide) (by decide) (by decide)) (hnj.1 12 11 (by decide) (by decide) (by decide)), ho9460 _ (hnj.2 12 (by decide)), eg458, hv_up_ne _ _ (hnj.2 12 (by decide)), eg270, hv_up_ne _ _ (hnj.2 12 (by decide))]; exact (hAg.2.2.2.2 8 (by decide))
                                      refine hv_Vp (As := []) (rest := [.int (nI c9), .ref (a 12)]) hE hml hK hI (c_Mo_deepest l hl0 b0 D cA g485 mo a 0 s9 e9 (nI c9) (true && sz (((v).1) + 0)) (((v).1) + 0) ((v).2.1) ((v).2.2.1) ((v).2.1) md V hq487 hnj hq488 hq489 hq490 hse he9 hit) cd_Mo_deepest w660 w662 ws20 hq487 rfl rfl rfl rfl hl.1 (Nat.le_of_ble_eq_true rfl) d_Mo_pack_309 ⟨by decide, by decide⟩ ⟨by decide, by decide⟩ (fun H locs hI => ?_)
                                      refine W.eq (g2 := F0 m 312 ls [.int (dL V s9 (e9 - s9)), .int (nI c9), .ref (a 12)]) rfl ?_
                                      refine lv_iconst (v := 1) hx hb d_Mo_pack_312 (by decide) ?_
                                      refine lv_iadd hx hb d_Mo_pack_313 ?_
                                      refine hv_iast hE hI 0 hq490 rfl (pk_in c9 100 (by omega) rfl (by omega)) d_Mo_pack_314 (fun H locs hI => ?_)
                                      rw [nI_cl (by omega)] at hI
                                      obtain ⟨g491, eg491⟩ : ∃ z : hv_M, z = hv_up g485 (a 12) (.inl (cA 0, 100, .inl (upd (wA V 8) c9 ((dL V s9 (e9 - s9)) + 1)))) := ⟨_, rfl⟩
                                      have hI : hv_I D CL b0 g491 s.heap H locs := by rw [eg491]; exact hI
                                      have hq492 : g491 (a 12) = some (.inl (cA 0, 100, .inl (upd (wA V 8) c9 ((dL V s9 (e9 - s9)) + 1)))) := by rw [eg491]; exact hv_up_self _ _ _
                                      refine lv_aload_n hx hb d_Mo_pack_315 rfl (lv_at hl 2 rfl) ?_
                                      have hq493 : g491 mo = some (moE a 0 (nI s9) (nI e9) (nI c9) (true && sz (((v).1) + 0)) (((v).1) + 0) ((v).2.1) ((v).2.2.1) ((v).2.1) md) := by rw [eg491, hv_up_ne _ _ (Ne.symm (hnj.2 12 (by decide)))]; exact hq487
                                      refine hv_get hE k_Mo hI 17 (by decide) w533 hq493 rfl d_Mo_pack_316 ?_
                                      refine lv_iload hx hb d_Mo_pack_319 (lv_at hl 0 rfl) ?_
                                      refine lv_aload_n hx hb d_Mo_pack_321 rfl (lv_at hl 2 rfl) ?_
                                      have hq494 : g491 (a 0) = some (.inl (cA 0, 10200, .inl (wK V))) := by rw [eg491, hv_up_ne _ _ (hnj.1 0 12 (by decide) (by decide) (by decide))]; exact hq488
                                      have hq495 : g491 (a 1) = some (.inl (cA 0, 51000, .inl V.2.1)) := by rw [eg491, hv_up_ne _ _ (hnj.1 1 12 (by decide) (by decide) (by decide))]; exact hq489
                                      have hq496 : g491 (a 13) = some (.inl (cA 0, 100, .inl (wA V 9))) := by rw [eg491, hv_up_ne _ _ (hnj.1 13 12 (by decide) (by decide) (by decide)), eg485, hv_up_ne _ _ (hnj.1 13 6 (by decide) (by decide) (by decide)), eg481, hv_up_ne _ _ (hnj.1 13 5 (by decide) (by decide) (by decide)), eg477, hv_up_ne _ _ (hnj.1 13 4 (by decide) (by decide) (by decide)), eg473, hv_up_ne _ _ (hnj.1 13 3 (by decide) (by decide) (by decide)), eg469, hv_up_ne _ _ (hnj.1 13 2 (by decide) (by decide) (by decide)), ho9465 _ (hnj.1 13 7 (by decide) (by decide) (by decide)) (hnj.1 13 8 (by decide) (by decide) (by decide)) (hnj.1 13 9 (by decide) (by decide) (by decide)) (hnj.1 13 10 (by decide) (by decide) (by decide)) (hnj.1 13 11 (by decide) (by decide) (by decide)), ho9460 _ (hnj.2 13 (by decide)), eg458, hv_up_ne _ _ (hnj.2 13 (by decide)), eg270, hv_up_ne _ _ (hnj.2 13 (by decide))]; exact (hAg.2.2.2.2 9 (by decide))
                                      refine hv_Vp (As := []) (rest := [.int (nI c9), .ref (a 13)]) hE hml hK hI (c_Mo_countAll l hl0 b0 D cA g491 mo a 0 s9 e9 (nI c9) (true && sz (((v).1) + 0)) (((v).1) + 0) ((v).2.1) ((v).2.2.1) ((v).2.1) md V hq493 hnj hq494 hq495 hq496 hse he9 hit) cd_Mo_countAll w714 w716 ws31 hq493 rfl rfl rfl rfl hl.1 (Nat.le_of_ble_eq_true rfl) d_Mo_pack_322 ⟨by decide, by decide⟩ ⟨by decide, by decide⟩ (fun H locs hI => ?_)
                                      refine W.eq (g2 := F0 m 325 ls [.int (cA9 V s9 (e9 - s9)), .int (nI c9), .ref (a 13)]) rfl ?_
                                      refine hv_iast hE hI 0 hq496 rfl (pk_in c9 100 (by omega) rfl (by omega)) d_Mo_pack_325 (fun H locs hI => ?_)
                                      rw [nI_cl (by omega)] at hI
                                      obtain ⟨g497, eg497⟩ : ∃ z : hv_M, z = hv_up g491 (a 13) (.inl (cA 0, 100, .inl (upd (wA V 9) c9 (cA9 V s9 (e9 - s9))))) := ⟨_, rfl⟩
                                      have hI : hv_I D CL b0 g497 s.heap H locs := by rw [eg497]; exact hI
                                      have hq498 : g497 (a 13) = some (.inl (cA 0, 100, .inl (upd (wA V 9) c9 (cA9 V s9 (e9 - s9))))) := by rw [eg497]; exact hv_up_self _ _ _
                                      refine lv_aload_n hx hb d_Mo_pack_326 rfl (lv_at hl 2 rfl) ?_
                                      refine lv_dup hx hb d_Mo_pack_327 rfl ?_
                                      have hq499 : g497 mo = some (moE a 0 (nI s9) (nI e9) (nI c9) (true && sz (((v).1) + 0)) (((v).1) + 0) ((v).2.1) ((v).2.2.1) ((v).2.1) md) := by rw [eg497, hv_up_ne _ _ (Ne.symm (hnj.2 13 (by decide)))]; exact hq493
                                      refine hv_get hE k_Mo hI 5 (by decide) w521 hq499 rfl d_Mo_pack_328 ?_
                                      refine lv_iconst (v := 1) hx hb d_Mo_pack_331 (by decide) ?_
                                      refine lv_iadd hx hb d_Mo_pack_332 ?_
                                      refine hv_put hE k_Mo hI 5 (by decide) w521 hq499 rfl rfl rfl (Nat.le_of_ble_eq_true rfl) d_Mo_pack_333 (fun H locs hI => ?_)
                                      obtain ⟨g500, eg500⟩ : ∃ z : hv_M, z = hv_up g497 mo (moE a 0 (nI s9) (nI e9) ((nI c9) + 1) (true && sz (((v).1) + 0)) (((v).1) + 0) ((v).2.1) ((v).2.2.1) ((v).2.1) md) := ⟨_, rfl⟩
                                      have hI : hv_I D CL b0 g500 s.heap H locs := by rw [eg500]; exact hI
                                      have hq501 : g500 mo = some (moE a 0 (nI s9) (nI e9) ((nI c9) + 1) (true && sz (((v).1) + 0)) (((v).1) + 0) ((v).2.1) ((v).2.2.1) ((v).2.1) md) := by rw [eg500]; exact hv_up_self _ _ _
                                      refine lv_aload_n hx hb d_Mo_pack_336 rfl (lv_at hl 2 rfl) ?_
                                      refine lv_aload_n hx hb d_Mo_pack_337 rfl (lv_at hl 2 rfl) ?_
                                      refine hv_get hE k_Mo hI 4 (by decide) w520 hq501 rfl d_Mo_pack_338 ?_
                                      refine hv_put hE k_Mo hI 3 (by decide) w519 hq501 rfl rfl rfl (Nat.le_of_ble_eq_true rfl) d_Mo_pack_341 (fun H locs hI => ?_)
                                      obtain ⟨g502, eg502⟩ : ∃ z : hv_M, z = hv_up g500 mo (moE a 0 (nI e9) (nI e9) ((nI c9) + 1) (true && sz (((v).1) + 0)) (((v).1) + 0) ((v).2.1) ((v).2.2.1) ((v).2.1) md) := ⟨_, rfl⟩
                                      have hI : hv_I D CL b0 g502 s.heap H locs := by rw [eg502]; exact hI
                                      have hq503 : g502 mo = some (moE a 0 (nI e9) (nI e9) ((nI c9) + 1) (true && sz (((v).1) + 0)) (((v).1) + 0) ((v).2.1) ((v).2.2.1) ((v).2.1) md) := by rw [eg502]; exact hv_up_self _ _ _
                                      refine lv_aload_n hx hb d_Mo_pack_344 rfl (lv_at hl 2 rfl) ?_
                                      refine hv_get hE k_Mo hI 6 (by decide) w522 hq503 rfl d_Mo_pack_345 ?_
                                      refine lv_aload_n hx hb d_Mo_pack_348 rfl (lv_at hl 2 rfl) ?_
                                      refine hv_get hE k_Mo hI 5 (by decide) w521 hq503 rfl d_Mo_pack_349 ?_
                                      refine lv_aload_n hx hb d_Mo_pack_352 rfl (lv_at hl 2 rfl) ?_
                                      refine hv_get hE k_Mo hI 4 (by decide) w520 hq503 rfl d_Mo_pack_353 ?_
                                      have hq504 : g502 (a 2) = some (.inl (cA 0, 101, .inl (upd (fun b => nI (wF V b)) c9 (nI s9)))) := by rw [eg502, hv_up_ne _ _ (hnj.2 2 (by decide)), eg500, hv_up_ne _ _ (hnj.2 2 (by decide)), eg497, hv_up_ne _ _ (hnj.1 2 13 (by decide) (by decide) (by decide)), eg491, hv_up_ne _ _ (hnj.1 2 12 (by decide) (by decide) (by decide)), eg485, hv_up_ne _ _ (hnj.1 2 6 (by decide) (by decide) (by decide)), eg481, hv_up_ne _ _ (hnj.1 2 5 (by decide) (by decide) (by decide)), eg477, hv_up_ne _ _ (hnj.1 2 4 (by decide) (by decide) (by decide)), eg473, hv_up_ne _ _ (hnj.1 2 3 (by decide) (by decide) (by decide))]; exact hq470
                                      refine hv_iast hE hI 0 hq504 rfl (pk_in (c9 + 1) 101 (by omega) (nI_1 c9) (by omega)) d_Mo_pack_356 (fun H locs hI => ?_)
                                      rw [nI_1, nI_cl (by omega)] at hI
                                      obtain ⟨g505, eg505⟩ : ∃ z : hv_M, z = hv_up g502 (a 2) (.inl (cA 0, 101, .inl (upd (upd (fun b => nI (wF V b)) c9 (nI s9)) (c9 + 1) (nI e9)))) := ⟨_, rfl⟩
                                      have hI : hv_I D CL b0 g505 s.heap H locs := by rw [eg505]; exact hI
                                      have hq506 : g505 (a 2) = some (.inl (cA 0, 101, .inl (upd (upd (fun b => nI (wF V b)) c9 (nI s9)) (c9 + 1) (nI e9)))) := by rw [eg505]; exact hv_up_self _ _ _
                                      refine lv_iload hx hb d_Mo_pack_357 (lv_at hl 0 rfl) ?_
                                      have hq507 : g505 mo = some (moE a 0 (nI e9) (nI e9) ((nI c9) + 1) (true && sz (((v).1) + 0)) (((v).1) + 0) ((v).2.1) ((v).2.2.1) ((v).2.1) md) := by rw [eg505, hv_up_ne _ _ (Ne.symm (hnj.2 2 (by decide)))]; exact hq503
                                      have hq508 : g505 (a 0) = some (.inl (cA 0, 10200, .inl (wK V))) := by rw [eg505, hv_up_ne _ _ (hnj.1 0 2 (by decide) (by decide) (by decide)), eg502, hv_up_ne _ _ (hnj.2 0 (by decide)), eg500, hv_up_ne _ _ (hnj.2 0 (by decide)), eg497, hv_up_ne _ _ (hnj.1 0 13 (by decide) (by decide) (by decide))]; exact hq494
                                      have hq509 : g505 (a 1) = some (.inl (cA 0, 51000, .inl V.2.1)) := by rw [eg505, hv_up_ne _ _ (hnj.1 1 2 (by decide) (by decide) (by decide)), eg502, hv_up_ne _ _ (hnj.2 1 (by decide)), eg500, hv_up_ne _ _ (hnj.2 1 (by decide)), eg497, hv_up_ne _ _ (hnj.1 1 13 (by decide) (by decide) (by decide))]; exact hq495
                                      have hq510 : g505 (a 3) = some (.inl (cA 2, 100, .inl (upd (fun b => b2i (wB V b)) c9 (b2i bel)))) := by rw [eg505, hv_up_ne _ _ (hnj.1 3 2 (by decide) (by decide) (by decide)), eg502, hv_up_ne _ _ (hnj.2 3 (by decide)), eg500, hv_up_ne _ _ (hnj.2 3 (by decide)), eg497, hv_up_ne _ _ (hnj.1 3 13 (by decide) (by decide) (by decide)), eg491, hv_up_ne _ _ (hnj.1 3 12 (by decide) (by decide) (by decide)), eg485, hv_up_ne _ _ (hnj.1 3 6 (by decide) (by decide) (by decide)), eg481, hv_up_ne _ _ (hnj.1 3 5 (by decide) (by decide) (by decide)), eg477, hv_up_ne _ _ (hnj.1 3 4 (by decide) (by decide) (by decide))]; exact hq474
                                      have hq511 : g505 (a 4) = some (.inl (cA 0, 100, .inl (upd (wA V 0) c9 (((v).2.2.1).toInt32)))) := by rw [eg505, hv_up_ne _ _ (hnj.1 4 2 (by decide) (by decide) (by decide)), eg502, hv_up_ne _ _ (hnj.2 4 (by decide)), eg500, hv_up_ne _ _ (hnj.2 4 (by decide)), eg497, hv_up_ne _ _ (hnj.1 4 13 (by decide) (by decide) (by decide)), eg491, hv_up_ne _ _ (hnj.1 4 12 (by decide) (by decide) (by decide)), eg485, hv_up_ne _ _ (hnj.1 4 6 (by decide) (by decide) (by decide)), eg481, hv_up_ne _ _ (hnj.1 4 5 (by decide) (by decide) (by decide))]; exact hq478
                                      have hq512 : g505 (a 5) = some (.inl (cA 0, 100, .inl (upd (wA V 1) c9 ((((v).1) + 0).toInt32)))) := by rw [eg505, hv_up_ne _ _ (hnj.1 5 2 (by decide) (by decide) (by decide)), eg502, hv_up_ne _ _ (hnj.2 5 (by decide)), eg500, hv_up_ne _ _ (hnj.2 5 (by decide)), eg497, hv_up_ne _ _ (hnj.1 5 13 (by decide) (by decide) (by decide)), eg491, hv_up_ne _ _ (hnj.1 5 12 (by decide) (by decide) (by decide)), eg485, hv_up_ne _ _ (hnj.1 5 6 (by decide) (by decide) (by decide))]; exact hq482
                                      have hq513 : g505 (a 6) = some (.inl (cA 0, 100, .inl (upd (wA V 2) c9 (((v).2.1).toInt32)))) := by rw [eg505, hv_up_ne _ _ (hnj.1 6 2 (by decide) (by decide) (by decide)), eg502, hv_up_ne _ _ (hnj.2 6 (by decide)), eg500, hv_up_ne _ _ (hnj.2 6 (by decide)), eg497, hv_up_ne _ _ (hnj.1 6 13 (by decide) (by decide) (by decide)), eg491, hv_up_ne _ _ (hnj.1 6 12 (by decide) (by decide) (by decide))]; exact hq486
                                      have hq514 : g505 (a 7) = some (.inl (cA 0, 100, .inl (upd (wA V 3) c9 ((0 : Int64).toInt32)))) := by rw [eg505, hv_up_ne _ _ (hnj.1 7 2 (by decide) (by decide) (by decide)), eg502, hv_up_ne _ _ (hnj.2 7 (by decide)), eg500, hv_up_ne _ _ (hnj.2 7 (by decide)), eg497, hv_up_ne _ _ (hnj.1 7 13 (by decide) (by decide) (by decide)), eg491, hv_up_ne _ _ (hnj.1 7 12 (by decide) (by decide) (by decide)), eg485, hv_up_ne _ _ (hnj.1 7 6 (by decide) (by decide) (by decide)), eg481, hv_up_ne _ _ (hnj.1 7 5 (by decide) (by decide) (by decide)), eg477, hv_up_ne _ _ (hnj.1 7 4 (by decide) (by decide) (by decide)), eg473, hv_up_ne _ _ (hnj.1 7 3 (by decide) (by decide) (by decide)), eg469, hv_up_ne _ _ (hnj.1 7 2 (by decide) (by decide) (by decide))]; exact ha465
                                      have hq515 : g505 (a 8) = some (.inl (cA 0, 100, .inl (upd (wA V 4) c9 ((otF 0 ((v).2.2.2.2.1, (v).2.2.2.2.2)).1)))) := by rw [eg505, hv_up_ne _ _ (hnj.1 8 2 (by decide) (by decide) (by decide)), eg502, hv_up_ne _ _ (hnj.2 8 (by decide)), eg500, hv_up_ne _ _ (hnj.2 8 (by decide)), eg497, hv_up_ne _ _ (hnj.1 8 13 (by decide) (by decide) (by decide)), eg491, hv_up_ne _ _ (hnj.1 8 12 (by decide) (by decide) (by decide)), eg485, hv_up_ne _ _ (hnj.1 8 6 (by decide) (by decide) (by decide)), eg481, hv_up_ne _ _ (hnj.1 8 5 (by decide) (by decide) (by decide)), eg477, hv_up_ne _ _ (hnj.1 8 4 (by decide) (by decide) (by decide)), eg473, hv_up_ne _ _ (hnj.1 8 3 (by decide) (by decide) (by decide)), eg469, hv_up_ne _ _ (hnj.1 8 2 (by decide) (by decide) (by decide))]; exact hb465
                                      have hq516 : g505 (a 9) = some (.inl (cA 0, 100, .inl (upd (wA V 5) c9 ((otF 0 ((v).2.2.2.2.1, (v).2.2.2.2.2)).2)))) := by rw [eg505, hv_up_ne _ _ (hnj.1 9 2 (by decide) (by decide) (by decide)), eg502, hv_up_ne _ _ (hnj.2 9 (by decide)), eg500, hv_up_ne _ _ (hnj.2 9 (by decide)), eg497, hv_up_ne _ _ (hnj.1 9 13 (by decide) (by decide) (by decide)), eg491, hv_up_ne _ _ (hnj.1 9 12 (by decide) (by decide) (by decide)), eg485, hv_up_ne _ _ (hnj.1 9 6 (by decide) (by decide) (by decide)), eg481, hv_up_ne _ _ (hnj.1 9 5 (by decide) (by decide) (by decide)), eg477, hv_up_ne _ _ (hnj.1 9 4 (by decide) (by decide) (by decide)), eg473, hv_up_ne _ _ (hnj.1 9 3 (by decide) (by decide) (by decide)), eg469, hv_up_ne _ _ (hnj.1 9 2 (by decide) (by decide) (by decide))]; exact hc465
                                      have hq517 : g505 (a 10) = some (.inl (cA 0, 100, .inl (upd (wA V 6) c9 (baM 0 (otF 0 ((v).2.2.2.2.1, (v).2.2.2.2.2)))))) := by rw [eg505, hv_up_ne _ _ (hnj.1 10 2 (by decide) (by decide) (by decide)), eg502, hv_up_ne _ _ (hnj.2 10 (by decide)), eg500, hv_up_ne _ _ (hnj.2 10 (by decide)), eg497, hv_up_ne _ _ (hnj.1 10 13 (by decide) (by decide) (by decide)), eg491, hv_up_ne _ _ (hnj.1 10 12 (by decide) (by decide) (by decide)), eg485, hv_up_ne _ _ (hnj.1 10 6 (by decide) (by decide) (by decide)), eg481, hv_up_ne _ _ (hnj.1 10 5 (by decide) (by decide) (by decide)), eg477, hv_up_ne _ _ (hnj.1 10 4 (by decide) (by decide) (by decide)), eg473, hv_up_ne _ _ (hnj.1 10 3 (by decide) (by decide) (by decide)), eg469, hv_up_ne _ _ (hnj.1 10 2 (by decide) (by decide) (by decide))]; exact hd465
                                      have hq518 : g505 (a 11) = some (.inl (cA 0, 100, .inl (upd (wA V 7) c9 (ovM 0 (otF 0 ((v).2.2.2.2.1, (v).2.2.2.2.2)))))) := by rw [eg505, hv_up_ne _ _ (hnj.1 11 2 (by decide) (by decide) (by decide)), eg502, hv_up_ne _ _ (hnj.2 11 (by decide)), eg500, hv_up_ne _ _ (hnj.2 11 (by decide)), eg497, hv_up_ne _ _ (hnj.1 11 13 (by decide) (by decide) (by decide)), eg491, hv_up_ne _ _ (hnj.1 11 12 (by decide) (by decide) (by decide)), eg485, hv_up_ne _ _ (hnj.1 11 6 (by decide) (by decide) (by decide)), eg481, hv_up_ne _ _ (hnj.1 11 5 (by decide) (by decide) (by decide)), eg477, hv_up_ne _ _ (hnj.1 11 4 (by decide) (by decide) (by decide)), eg473, hv_up_ne _ _ (hnj.1 11 3 (by decide) (by decide) (by decide)), eg469, hv_up_ne _ _ (hnj.1 11 2 (by decide) (by decide) (by decide))]; exact he465
                                      have hq519 : g505 (a 12) = some (.inl (cA 0, 100, .inl (upd (wA V 8) c9 ((dL V s9 (e9 - s9)) + 1)))) := by rw [eg505, hv_up_ne _ _ (hnj.1 12 2 (by decide) (by decide) (by decide)), eg502, hv_up_ne _ _ (hnj.2 12 (by decide)), eg500, hv_up_ne _ _ (hnj.2 12 (by decide)), eg497, hv_up_ne _ _ (hnj.1 12 13 (by decide) (by decide) (by decide))]; exact hq492
                                      have hq520 : g505 (a 13) = some (.inl (cA 0, 100, .inl (upd (wA V 9) c9 (cA9 V s9 (e9 - s9))))) := by rw [eg505, hv_up_ne _ _ (hnj.1 13 2 (by decide) (by decide) (by decide)), eg502, hv_up_ne _ _ (hnj.2 13 (by decide)), eg500, hv_up_ne _ _ (hnj.2 13 (by decide))]; exact hq498
                                      have hq521 : g505 (a 14) = some (.inl (cA 1, 4, .inr (.inl (v).2.2.2.2.1))) := by rw [eg505, hv_up_ne _ _ (hnj.1 14 2 (by decide) (by decide) (by decide)), eg502, hv_up_ne _ _ (hnj.2 14 (by decide)), eg500, hv_up_ne _ _ (hnj.2 14 (by decide)), eg497, hv_up_ne _ _ (hnj.1 14 13 (by decide) (by decide) (by decide)), eg491, hv_up_ne _ _ (hnj.1 14 12 (by decide) (by decide) (by decide)), eg485, hv_up_ne _ _ (hnj.1 14 6 (by decide) (by decide) (by decide)), eg481, hv_up_ne _ _ (hnj.1 14 5 (by decide) (by decide) (by decide)), eg477, hv_up_ne _ _ (hnj.1 14 4 (by decide) (by decide) (by decide)), eg473, hv_up_ne _ _ (hnj.1 14 3 (by decide) (by decide) (by decide)), eg469, hv_up_ne _ _ (hnj.1 14 2 (by decide) (by decide) (by decide)), ho9465 _ (hnj.1 14 7 (by decide) (by decide) (by decide)) (hnj.1 14 8 (by decide) (by decide) (by decide)) (hnj.1 14 9 (by decide) (by decide) (by decide)) (hnj.1 14 10 (by decide) (by decide) (by decide)) (hnj.1 14 11 (by decide) (by decide) (by decide))]; exact hq462
                                      have hq522 : g505 (a 15) = some (.inl (cA 1, 4, .inr (.inl (v).2.2.2.2.2))) := by rw [eg505, hv_up_ne _ _ (hnj.1 15 2 (by decide) (by decide) (by decide)), eg502, hv_up_ne _ _ (hnj.2 15 (by decide)), eg500, hv_up_ne _ _ (hnj.2 15 (by decide)), eg497, hv_up_ne _ _ (hnj.1 15 13 (by decide) (by decide) (by decide)), eg491, hv_up_ne _ _ (hnj.1 15 12 (by decide) (by decide) (by decide)), eg485, hv_up_ne _ _ (hnj.1 15 6 (by decide) (by decide) (by decide)), eg481, hv_up_ne _ _ (hnj.1 15 5 (by decide) (by decide) (by decide)), eg477, hv_up_ne _ _ (hnj.1 15 4 (by decide) (by decide) (by decide)), eg473, hv_up_ne _ _ (hnj.1 15 3 (by decide) (by decide) (by decide)), eg469, hv_up_ne _ _ (hnj.1 15 2 (by decide) (by decide) (by decide)), ho9465 _ (hnj.1 15 7 (by decide) (by decide) (by decide)) (hnj.1 15 8 (by decide) (by decide) (by decide)) (hnj.1 15 9 (by decide) (by decide) (by decide)) (hnj.1 15 10 (by decide) (by decide) (by decide)) (hnj.1 15 11 (by decide) (by decide) (by decide))]; exact hq463
                                      have hat : atM V bel how size gr s9 (e9 - s9) v = fun j => [(((v).2.2.1).toInt32), ((((v).1) + 0).toInt32), (((v).2.1).toInt32), (0 : Int64).toInt32, (otF 0 ((v).2.2.2.2.1, (v).2.2.2.2.2)).1, (otF 0 ((v).2.2.2.2.1, (v).2.2.2.2.2)).2, baM 0 (otF 0 ((v).2.2.2.2.1, (v).2.2.2.2.2)), ovM 0 (otF 0 ((v).2.2.2.2.1, (v).2.2.2.2.2)), ((dL V s9 (e9 - s9)) + 1), (cA9 V s9 (e9 - s9))].getD j 0 := by funext j9; simp only [atM, hln, hex, hun]; simp only [k99, if_true, if_false, Bool.false_eq_true]
                                      exact hv_iret hE hr hlocks hI hK (v := nI c9) ((show _ ∨ _ by rw [← ev, ← eG]; exact Or.inr (Or.inr (Or.inr ⟨(by simp [okPack, c2, n2, c7, n7, k15, k24]), hcc, c46, by rw [hgd, k172, k180]; simpa using k201, rfl, ⟨_, (((v).1) + 0, (v).2.1, (v).2.2.1, (v).2.1, (v).2.2.2.2.1, (v).2.2.2.2.2), by rw [← nI_1]; exact hq507, hq521, hq522⟩, by rw [hat]; exact ⟨hq508, hq509, by rw [← pkW_F]; exact hq506, by rw [← pkW_B]; exact hq510, fun j hj => match j, hj with | 0, _ => hq511 | 1, _ => hq512 | 2, _ => hq513 | 3, _ => hq514 | 4, _ => hq515 | 5, _ => hq516 | 6, _ => hq517 | 7, _ => hq518 | 8, _ => hq519 | 9, _ => hq520 | j + 10, h9 => absurd h9 (by omega)⟩, fun z z1 hz => by rw [eg505, hv_up_ne _ _ (hz 2 (by decide) (by decide)), eg502, hv_up_ne _ _ z1, eg500, hv_up_ne _ _ z1, eg497, hv_up_ne _ _ (hz 13 (by decide) (by decide)), eg491, hv_up_ne _ _ (hz 12 (by decide) (by decide)), eg485, hv_up_ne _ _ (hz 6 (by decide) (by decide)), eg481, hv_up_ne _ _ (hz 5 (by decide) (by decide)), eg477, hv_up_ne _ _ (hz 4 (by decide) (by decide)), eg473, hv_up_ne _ _ (hz 3 (by decide) (by decide)), eg469, hv_up_ne _ _ (hz 2 (by decide) (by decide)), ho9465 _ (hz 7 (by decide) (by decide)) (hz 8 (by decide) (by decide)) (hz 9 (by decide) (by decide)) (hz 10 (by decide) (by decide)) (hz 11 (by decide) (by decide)), ho9460 _ z1, eg458, hv_up_ne _ _ z1, eg270, hv_up_ne _ _ z1]; exact hfo z z1 (hz 14 (by decide) (by decide)) (hz 15 (by decide) (by decide))⟩)))) (by decide) (by decide) d_Mo_pack_359
                                · skip
                                  have k201 := b2i_f c201
                                  refine lv_aload_n hx hb d_Mo_pack_204 rfl (lv_at hl 1 rfl) ?_
                                  refine lv_iconst (v := 3) hx hb d_Mo_pack_205 (by decide) ?_
                                  refine hv_put hE k_Mo hI 0 (by decide) w516 hg460 rfl rfl rfl (Nat.le_of_ble_eq_true rfl) d_Mo_pack_206 (fun H locs hI => ?_)
                                  obtain ⟨g523, eg523⟩ : ∃ z : hv_M, z = hv_up g461 mo (moE a 3 (nI s9) (nI e9) (nI c9) (true && sz (((v).1) + 0)) (((v).1) + 0) ((v).2.1) ((v).2.2.1) ((v).2.1) md) := ⟨_, rfl⟩
                                  have hI : hv_I D CL b0 g523 s.heap H locs := by rw [eg523]; exact hI
                                  have hq524 : g523 mo = some (moE a 3 (nI s9) (nI e9) (nI c9) (true && sz (((v).1) + 0)) (((v).1) + 0) ((v).2.1) ((v).2.2.1) ((v).2.1) md) := by rw [eg523]; exact hv_up_self _ _ _
                                  refine lv_iconst (v := 0) hx hb d_Mo_pack_209 (by decide) ?_
                                  have hq525 : g523 (a 14) = some (.inl (cA 1, 4, .inr (.inl (v).2.2.2.2.1))) := by rw [eg523, hv_up_ne _ _ (hnj.2 14 (by decide)), ho9460 _ (hnj.2 14 (by decide)), eg458, hv_up_ne _ _ (hnj.2 14 (by decide)), eg270, hv_up_ne _ _ (hnj.2 14 (by decide))]; exact hs.2.1
                                  have hq526 : g523 (a 15) = some (.inl (cA 1, 4, .inr (.inl (v).2.2.2.2.2))) := by rw [eg523, hv_up_ne _ _ (hnj.2 15 (by decide)), ho9460 _ (hnj.2 15 (by decide)), eg458, hv_up_ne _ _ (hnj.2 15 (by decide)), eg270, hv_up_ne _ _ (hnj.2 15 (by decide))]; exact hs.2.2
                                  exact hv_iret hE hr hlocks hI hK (v := 0) ((show _ ∨ _ by rw [← ev, ← eG]; exact Or.inr (Or.inr (Or.inl ⟨(by simp [okPack, c2, n2, c7, n7, k15, k24]), hcc, c46, by rw [hgd, k172, k180]; simpa using k201, rfl, ⟨_, (((v).1) + 0, (v).2.1, (v).2.2.1, (v).2.1, (v).2.2.2.2.1, (v).2.2.2.2.2), hq524, hq525, hq526⟩, fun z z1 z2 z3 => by rw [eg523, hv_up_ne _ _ z1, ho9460 _ z1, eg458, hv_up_ne _ _ z1, eg270, hv_up_ne _ _ z1]; exact hfo z z1 z2 z3⟩)))) (by decide) (by decide) d_Mo_pack_210
                        · skip
                          have m118 : ¬ _ := fun q => c118 ((lg_cmp_le _ _).mpr q)
                          have n118 := Int64.not_le.mp m118
                          refine lv_aload_n hx hb d_Mo_pack_121 rfl (lv_at hl 0 rfl) ?_
                          refine lv_iload hx hb d_Mo_pack_122 (lv_at hl 4 rfl) ?_
                          refine lv_i2l (v := gr.toInt64) hx hb d_Mo_pack_124 rfl ?_
                          refine hv_put hE k_Mo hI 22 (by decide) w538 hq271 rfl rfl rfl (Nat.le_of_ble_eq_true rfl) d_Mo_pack_125 (fun H locs hI => ?_)
                          obtain ⟨g527, eg527⟩ : ∃ z : hv_M, z = hv_up g270 mo (moE a 0 (nI s9) (nI e9) (nI c9) G ((v).1) ((v).2.1) ((v).2.2.1) gr.toInt64 md) := ⟨_, rfl⟩
                          have hI : hv_I D CL b0 g527 s.heap H locs := by rw [eg527]; exact hI
                          have hq528 : g527 mo = some (moE a 0 (nI s9) (nI e9) (nI c9) G ((v).1) ((v).2.1) ((v).2.2.1) gr.toInt64 md) := by rw [eg527]; exact hv_up_self _ _ _
                          refine lv_aload_n hx hb d_Mo_pack_128 rfl (lv_at hl 0 rfl) ?_
                          refine lv_aload_n hx hb d_Mo_pack_129 rfl (lv_at hl 0 rfl) ?_
                          refine hv_get hE k_Mo hI 20 (by decide) w536 hq528 rfl d_Mo_pack_130 ?_
                          refine lv_iload hx hb d_Mo_pack_133 (lv_at hl 4 rfl) ?_
                          refine lv_i2l (v := gr.toInt64) hx hb d_Mo_pack_135 rfl ?_
                          refine lv_lsub hx hb d_Mo_pack_136 ?_
                          refine hv_V (As := [.long (((v).2.1) - gr.toInt64)]) (rest := []) hE hml hK hI (c_Mo_grow l hl0 b0 D cA g527 mo a 0 (nI s9) (nI e9) (nI c9) G ((v).1) ((v).2.1) ((v).2.2.1) gr.toInt64 md (((v).2.1) - gr.toInt64) hq528 hnj) cd_Mo_grow w684 w686 ws26 hq528 rfl rfl hl.1 (Nat.le_of_ble_eq_true rfl) d_Mo_pack_137 ⟨by decide, by decide⟩ ⟨by decide, by decide⟩ (fun v9 g530 H locs hp hI => ?_) (fun q9 E9 ce9 g9 H locs hp => hp.elim)
                          obtain ⟨hv, hg529, ho9529⟩ := hp
                          rw [hv]
                          refine W.eq (g2 := F0 m 140 ls []) rfl ?_
                          refine lv_iload_n hx hb d_Mo_pack_140 rfl (lv_at hl 2 rfl) ?_
                          refine lv_if_ne (tgt := 148) hx hb d_Mo_pack_141 (by decide) (fun c141 => ?_) (fun c141 => ?_)
                          · skip
                            refine lv_iload_n hx hb d_Mo_pack_148 rfl (lv_at hl 2 rfl) ?_
                            refine lv_iconst (v := 1) hx hb d_Mo_pack_149 (by decide) ?_
                            refine lv_icmp_ne (tgt := 163) hx hb d_Mo_pack_150 (by decide) (fun c150 => ?_) (fun c150 => ?_)
                            · skip
                              refine lv_iload_n hx hb d_Mo_pack_163 rfl (lv_at hl 3 rfl) ?_
                              refine lv_i2l (v := size.toInt64) hx hb d_Mo_pack_164 rfl ?_
                              refine lv_lstore (lv' := [(5, .long size.toInt64), (0, .ref mo), (1, .int (b2i bel)), (2, .int how), (3, .int size), (4, .int gr)]) hx hb d_Mo_pack_165 hl (by decide) rfl (fun ls hl => ?_)
                              have hln : lnM bel gr v = ((v).1) + (((v).2.1) - gr.toInt64) := by simp only [lnM, k99, n118, and_true, true_and, and_false, false_and, if_true, if_false, Bool.false_eq_true]
                              have hun : unM bel gr v = gr.toInt64 := by simp only [unM, k99, n118, if_true, if_false, Bool.false_eq_true]
                              have hex : exM how size (((v).1) + (((v).2.1) - gr.toInt64)) = size.toInt64 := by simp only [exM, c141, c150, if_true, if_false, show ¬ (1 : Int32) = 0 from by decide]
                              have hgd : (G && gdM bel how size gr v) = ((G && sz (((v).1) + (((v).2.1) - gr.toInt64))) && sz (size.toInt64) && sz ((((v).1) + (((v).2.1) - gr.toInt64)) + size.toInt64)) := by simp only [gdM, hln, hex]; simp [k99, n118, Bool.and_assoc]
                              refine lv_aload_n hx hb d_Mo_pack_167 rfl (lv_at hl 1 rfl) ?_
                              refine lv_aload_n hx hb d_Mo_pack_168 rfl (lv_at hl 1 rfl) ?_
                              refine hv_get hE k_Mo hI 18 (by decide) w534 hg529 rfl d_Mo_pack_169 ?_
                              refine lv_if_eq (tgt := 187) hx hb d_Mo_pack_172 (by decide) (fun c172 => ?_) (fun c172 => ?_)
                              · skip
                                have k172 := b2i_f c172
                                refine lv_iconst (v := 0) hx hb d_Mo_pack_187 (by decide) ?_
                                refine hv_put hE k_Mo hI 18 (by decide) w534 hg529 rfl rfl rfl (Nat.le_of_ble_eq_true rfl) d_Mo_pack_188 (fun H locs hI => ?_)
                                obtain ⟨g531, eg531⟩ : ∃ z : hv_M, z = hv_up g530 mo (moE a 0 (nI s9) (nI e9) (nI c9) false (((v).1) + (((v).2.1) - gr.toInt64)) ((v).2.1) ((v).2.2.1) gr.toInt64 md) := ⟨_, rfl⟩
                                have hI : hv_I D CL b0 g531 s.heap H locs := by rw [eg531]; exact hI
                                have hq532 : g531 mo = some (moE a 0 (nI s9) (nI e9) (nI c9) false (((v).1) + (((v).2.1) - gr.toInt64)) ((v).2.1) ((v).2.2.1) gr.toInt64 md) := by rw [eg531]; exact hv_up_self _ _ _
                                refine lv_aload_n hx hb d_Mo_pack_191 rfl (lv_at hl 1 rfl) ?_
                                refine lv_lload hx hb d_Mo_pack_192 (lv_at hl 0 rfl) ?_
                                refine hv_V (As := [.long size.toInt64]) (rest := []) hE hml hK hI (c_Mo_grow l hl0 b0 D cA g531 mo a 0 (nI s9) (nI e9) (nI c9) false (((v).1) + (((v).2.1) - gr.toInt64)) ((v).2.1) ((v).2.2.1) gr.toInt64 md size.toInt64 hq532 hnj) cd_Mo_grow w684 w686 ws26 hq532 rfl rfl hl.1 (Nat.le_of_ble_eq_true rfl) d_Mo_pack_194 ⟨by decide, by decide⟩ ⟨by decide, by decide⟩ (fun v9 g534 H locs hp hI => ?_) (fun q9 E9 ce9 g9 H locs hp => hp.elim)
                                obtain ⟨hv, hg533, ho9533⟩ := hp
                                rw [hv]
                                refine W.eq (g2 := F0 m 197 ls []) rfl ?_
                                refine lv_aload_n hx hb d_Mo_pack_197 rfl (lv_at hl 1 rfl) ?_
                                refine hv_get hE k_Mo hI 18 (by decide) w534 hg533 rfl d_Mo_pack_198 ?_
                                refine lv_if_ne (tgt := 211) hx hb d_Mo_pack_201 (by decide) (fun c201 => ?_) (fun c201 => ?_)
                                · skip
                                  have k201 := b2i_t c201
                                  exact absurd k201 (by simp)
                                · skip
                                  have k201 := b2i_f c201
                                  refine lv_aload_n hx hb d_Mo_pack_204 rfl (lv_at hl 1 rfl) ?_
                                  refine lv_iconst (v := 3) hx hb d_Mo_pack_205 (by decide) ?_
                                  refine hv_put hE k_Mo hI 0 (by decide) w516 hg533 rfl rfl rfl (Nat.le_of_ble_eq_true rfl) d_Mo_pack_206 (fun H locs hI => ?_)
                                  obtain ⟨g535, eg535⟩ : ∃ z : hv_M, z = hv_up g534 mo (moE a 3 (nI s9) (nI e9) (nI c9) (false && sz ((((v).1) + (((v).2.1) - gr.toInt64)) + size.toInt64)) ((((v).1) + (((v).2.1) - gr.toInt64)) + size.toInt64) ((v).2.1) ((v).2.2.1) gr.toInt64 md) := ⟨_, rfl⟩
                                  have hI : hv_I D CL b0 g535 s.heap H locs := by rw [eg535]; exact hI
                                  have hq536 : g535 mo = some (moE a 3 (nI s9) (nI e9) (nI c9) (false && sz ((((v).1) + (((v).2.1) - gr.toInt64)) + size.toInt64)) ((((v).1) + (((v).2.1) - gr.toInt64)) + size.toInt64) ((v).2.1) ((v).2.2.1) gr.toInt64 md) := by rw [eg535]; exact hv_up_self _ _ _
                                  refine lv_iconst (v := 0) hx hb d_Mo_pack_209 (by decide) ?_
                                  have hq537 : g535 (a 14) = some (.inl (cA 1, 4, .inr (.inl (v).2.2.2.2.1))) := by rw [eg535, hv_up_ne _ _ (hnj.2 14 (by decide)), ho9533 _ (hnj.2 14 (by decide)), eg531, hv_up_ne _ _ (hnj.2 14 (by decide)), ho9529 _ (hnj.2 14 (by decide)), eg527, hv_up_ne _ _ (hnj.2 14 (by decide)), eg270, hv_up_ne _ _ (hnj.2 14 (by decide))]; exact hs.2.1
                                  have hq538 : g535 (a 15) = some (.inl (cA 1, 4, .inr (.inl (v).2.2.2.2.2))) := by rw [eg535, hv_up_ne _ _ (hnj.2 15 (by decide)), ho9533 _ (hnj.2 15 (by decide)), eg531, hv_up_ne _ _ (hnj.2 15 (by decide)), ho9529 _ (hnj.2 15 (by decide)), eg527, hv_up_ne _ _ (hnj.2 15 (by decide)), eg270, hv_up_ne _ _ (hnj.2 15 (by decide))]; exact hs.2.2
                                  exact hv_iret hE hr hlocks hI hK (v := 0) ((show _ ∨ _ by rw [← ev, ← eG]; exact Or.inr (Or.inr (Or.inl ⟨(by simp [okPack, c2, n2, c7, n7, k15, k24]), hcc, c46, by rw [hgd]; simp [k172], rfl, ⟨_, ((((v).1) + (((v).2.1) - gr.toInt64)) + size.toInt64, (v).2.1, (v).2.2.1, gr.toInt64, (v).2.2.2.2.1, (v).2.2.2.2.2), hq536, hq537, hq538⟩, fun z z1 z2 z3 => by rw [eg535, hv_up_ne _ _ z1, ho9533 _ z1, eg531, hv_up_ne _ _ z1, ho9529 _ z1, eg527, hv_up_ne _ _ z1, eg270, hv_up_ne _ _ z1]; exact hfo z z1 z2 z3⟩)))) (by decide) (by decide) d_Mo_pack_210
                              · skip
                                have k172 := b2i_t c172
                                refine lv_lload hx hb d_Mo_pack_175 (lv_at hl 0 rfl) ?_
                                refine hv_Sp (As := [.long size.toInt64]) (rest := [.ref mo]) hE hml hK hI (c_Mo_isSize l hl0 b0 D cA g530 size.toInt64) cd_Mo_isSize w608 w609 rfl rfl rfl hl.1 (Nat.le_of_ble_eq_true rfl) d_Mo_pack_177 ⟨by decide, by decide⟩ ⟨by decide, by decide⟩ (fun H locs hI => ?_)
                                refine W.eq (g2 := F0 m 180 ls [.int (b2i (sz size.toInt64)), .ref mo]) rfl ?_
                                refine lv_if_eq (tgt := 187) hx hb d_Mo_pack_180 (by decide) (fun c180 => ?_) (fun c180 => ?_)
                                · skip
                                  have k180 := b2i_f c180
                                  refine lv_iconst (v := 0) hx hb d_Mo_pack_187 (by decide) ?_
                                  refine hv_put hE k_Mo hI 18 (by decide) w534 hg529 rfl rfl rfl (Nat.le_of_ble_eq_true rfl) d_Mo_pack_188 (fun H locs hI => ?_)
                                  obtain ⟨g539, eg539⟩ : ∃ z : hv_M, z = hv_up g530 mo (moE a 0 (nI s9) (nI e9) (nI c9) false (((v).1) + (((v).2.1) - gr.toInt64)) ((v).2.1) ((v).2.2.1) gr.toInt64 md) := ⟨_, rfl⟩
                                  have hI : hv_I D CL b0 g539 s.heap H locs := by rw [eg539]; exact hI
                                  have hq540 : g539 mo = some (moE a 0 (nI s9) (nI e9) (nI c9) false (((v).1) + (((v).2.1) - gr.toInt64)) ((v).2.1) ((v).2.2.1) gr.toInt64 md) := by rw [eg539]; exact hv_up_self _ _ _
                                  refine lv_aload_n hx hb d_Mo_pack_191 rfl (lv_at hl 1 rfl) ?_
                                  refine lv_lload hx hb d_Mo_pack_192 (lv_at hl 0 rfl) ?_
                                  refine hv_V (As := [.long size.toInt64]) (rest := []) hE hml hK hI (c_Mo_grow l hl0 b0 D cA g539 mo a 0 (nI s9) (nI e9) (nI c9) false (((v).1) + (((v).2.1) - gr.toInt64)) ((v).2.1) ((v).2.2.1) gr.toInt64 md size.toInt64 hq540 hnj) cd_Mo_grow w684 w686 ws26 hq540 rfl rfl hl.1 (Nat.le_of_ble_eq_true rfl) d_Mo_pack_194 ⟨by decide, by decide⟩ ⟨by decide, by decide⟩ (fun v9 g542 H locs hp hI => ?_) (fun q9 E9 ce9 g9 H locs hp => hp.elim)
                                  obtain ⟨hv, hg541, ho9541⟩ := hp
                                  rw [hv]
                                  refine W.eq (g2 := F0 m 197 ls []) rfl ?_
                                  refine lv_aload_n hx hb d_Mo_pack_197 rfl (lv_at hl 1 rfl) ?_
                                  refine hv_get hE k_Mo hI 18 (by decide) w534 hg541 rfl d_Mo_pack_198 ?_
                                  refine lv_if_ne (tgt := 211) hx hb d_Mo_pack_201 (by decide) (fun c201 => ?_) (fun c201 => ?_)
                                  · skip
                                    have k201 := b2i_t c201
                                    exact absurd k201 (by simp)
                                  · skip
                                    have k201 := b2i_f c201
                                    refine lv_aload_n hx hb d_Mo_pack_204 rfl (lv_at hl 1 rfl) ?_
                                    refine lv_iconst (v := 3) hx hb d_Mo_pack_205 (by decide) ?_
                                    refine hv_put hE k_Mo hI 0 (by decide) w516 hg541 rfl rfl rfl (Nat.le_of_ble_eq_true rfl) d_Mo_pack_206 (fun H locs hI => ?_)
                                    obtain ⟨g543, eg543⟩ : ∃ z : hv_M, z = hv_up g542 mo (moE a 3 (nI s9) (nI e9) (nI c9) (false && sz ((((v).1) + (((v).2.1) - gr.toInt64)) + size.toInt64)) ((((v).1) + (((v).2.1) - gr.toInt64)) + size.toInt64) ((v).2.1) ((v).2.2.1) gr.toInt64 md) := ⟨_, rfl⟩
                                    have hI : hv_I D CL b0 g543 s.heap H locs := by rw [eg543]; exact hI
                                    have hq544 : g543 mo = some (moE a 3 (nI s9) (nI e9) (nI c9) (false && sz ((((v).1) + (((v).2.1) - gr.toInt64)) + size.toInt64)) ((((v).1) + (((v).2.1) - gr.toInt64)) + size.toInt64) ((v).2.1) ((v).2.2.1) gr.toInt64 md) := by rw [eg543]; exact hv_up_self _ _ _
                                    refine lv_iconst (v := 0) hx hb d_Mo_pack_209 (by decide) ?_
                                    have hq545 : g543 (a 14) = some (.inl (cA 1, 4, .inr (.inl (v).2.2.2.2.1))) := by rw [eg543, hv_up_ne _ _ (hnj.2 14 (by decide)), ho9541 _ (hnj.2 14 (by decide)), eg539, hv_up_ne _ _ (hnj.2 14 (by decide)), ho9529 _ (hnj.2 14 (by decide)), eg527, hv_up_ne _ _ (hnj.2 14 (by decide)), eg270, hv_up_ne _ _ (hnj.2 14 (by decide))]; exact hs.2.1
                                    have hq546 : g543 (a 15) = some (.inl (cA 1, 4, .inr (.inl (v).2.2.2.2.2))) := by rw [eg543, hv_up_ne _ _ (hnj.2 15 (by decide)), ho9541 _ (hnj.2 15 (by decide)), eg539, hv_up_ne _ _ (hnj.2 15 (by decide)), ho9529 _ (hnj.2 15 (by decide)), eg527, hv_up_ne _ _ (hnj.2 15 (by decide)), eg270, hv_up_ne _ _ (hnj.2 15 (by decide))]; exact hs.2.2
                                    exact hv_iret hE hr hlocks hI hK (v := 0) ((show _ ∨ _ by rw [← ev, ← eG]; exact Or.inr (Or.inr (Or.inl ⟨(by simp [okPack, c2, n2, c7, n7, k15, k24]), hcc, c46, by rw [hgd]; simp [k172, k180], rfl, ⟨_, ((((v).1) + (((v).2.1) - gr.toInt64)) + size.toInt64, (v).2.1, (v).2.2.1, gr.toInt64, (v).2.2.2.2.1, (v).2.2.2.2.2), hq544, hq545, hq546⟩, fun z z1 z2 z3 => by rw [eg543, hv_up_ne _ _ z1, ho9541 _ z1, eg539, hv_up_ne _ _ z1, ho9529 _ z1, eg527, hv_up_ne _ _ z1, eg270, hv_up_ne _ _ z1]; exact hfo z z1 z2 z3⟩)))) (by decide) (by decide) d_Mo_pack_210
                                · skip
                                  have k180 := b2i_t c180
                                  refine lv_iconst (v := 1) hx hb d_Mo_pack_183 (by decide) ?_
                                  refine lv_goto (tgt := 188) hx hb d_Mo_pack_184 (by decide) ?_
                                  refine hv_put hE k_Mo hI 18 (by decide) w534 hg529 rfl rfl rfl (Nat.le_of_ble_eq_true rfl) d_Mo_pack_188 (fun H locs hI => ?_)
                                  obtain ⟨g547, eg547⟩ : ∃ z : hv_M, z = hv_up g530 mo (moE a 0 (nI s9) (nI e9) (nI c9) true (((v).1) + (((v).2.1) - gr.toInt64)) ((v).2.1) ((v).2.2.1) gr.toInt64 md) := ⟨_, rfl⟩
                                  have hI : hv_I D CL b0 g547 s.heap H locs := by rw [eg547]; exact hI
                                  have hq548 : g547 mo = some (moE a 0 (nI s9) (nI e9) (nI c9) true (((v).1) + (((v).2.1) - gr.toInt64)) ((v).2.1) ((v).2.2.1) gr.toInt64 md) := by rw [eg547]; exact hv_up_self _ _ _
                                  refine lv_aload_n hx hb d_Mo_pack_191 rfl (lv_at hl 1 rfl) ?_
                                  refine lv_lload hx hb d_Mo_pack_192 (lv_at hl 0 rfl) ?_
                                  refine hv_V (As := [.long size.toInt64]) (rest := []) hE hml hK hI (c_Mo_grow l hl0 b0 D cA g547 mo a 0 (nI s9) (nI e9) (nI c9) true (((v).1) + (((v).2.1) - gr.toInt64)) ((v).2.1) ((v).2.2.1) gr.toInt64 md size.toInt64 hq548 hnj) cd_Mo_grow w684 w686 ws26 hq548 rfl rfl hl.1 (Nat.le_of_ble_eq_true rfl) d_Mo_pack_194 ⟨by decide, by decide⟩ ⟨by decide, by decide⟩ (fun v9 g550 H locs hp hI => ?_) (fun q9 E9 ce9 g9 H locs hp => hp.elim)
                                  obtain ⟨hv, hg549, ho9549⟩ := hp
                                  rw [hv]
                                  refine W.eq (g2 := F0 m 197 ls []) rfl ?_
                                  refine lv_aload_n hx hb d_Mo_pack_197 rfl (lv_at hl 1 rfl) ?_
                                  refine hv_get hE k_Mo hI 18 (by decide) w534 hg549 rfl d_Mo_pack_198 ?_
                                  refine lv_if_ne (tgt := 211) hx hb d_Mo_pack_201 (by decide) (fun c201 => ?_) (fun c201 => ?_)
                                  · skip
                                    have k201 := b2i_t c201
                                    refine lv_aload_n hx hb d_Mo_pack_211 rfl (lv_at hl 1 rfl) ?_
                                    refine hv_get hE k_Mo hI 5 (by decide) w521 hg549 rfl d_Mo_pack_212 ?_
                                    refine lv_istore (lv' := [(7, .int (nI c9)), (5, .long size.toInt64), (0, .ref mo), (1, .int (b2i bel)), (2, .int how), (3, .int size), (4, .int gr)]) hx hb d_Mo_pack_215 hl (by decide) rfl (fun ls hl => ?_)
                                    refine lv_aload_n hx hb d_Mo_pack_217 rfl (lv_at hl 2 rfl) ?_
                                    refine lv_iload hx hb d_Mo_pack_218 (lv_at hl 0 rfl) ?_
                                    refine lv_lload hx hb d_Mo_pack_220 (lv_at hl 1 rfl) ?_
                                    have hq551 : g550 (a 14) = some (.inl (cA 1, 4, .inr (.inl (v).2.2.2.2.1))) := by rw [ho9549 _ (hnj.2 14 (by decide)), eg547, hv_up_ne _ _ (hnj.2 14 (by decide)), ho9529 _ (hnj.2 14 (by decide)), eg527, hv_up_ne _ _ (hnj.2 14 (by decide)), eg270, hv_up_ne _ _ (hnj.2 14 (by decide))]; exact hs.2.1
                                    have hq552 : g550 (a 15) = some (.inl (cA 1, 4, .inr (.inl (v).2.2.2.2.2))) := by rw [ho9549 _ (hnj.2 15 (by decide)), eg547, hv_up_ne _ _ (hnj.2 15 (by decide)), ho9529 _ (hnj.2 15 (by decide)), eg527, hv_up_ne _ _ (hnj.2 15 (by decide)), eg270, hv_up_ne _ _ (hnj.2 15 (by decide))]; exact hs.2.2
                                    have hA553 : moA cA g550 a V := ⟨by rw [ho9549 _ (hnj.2 0 (by decide)), eg547, hv_up_ne _ _ (hnj.2 0 (by decide)), ho9529 _ (hnj.2 0 (by decide)), eg527, hv_up_ne _ _ (hnj.2 0 (by decide)), eg270, hv_up_ne _ _ (hnj.2 0 (by decide))]; exact hAg.1, by rw [ho9549 _ (hnj.2 1 (by decide)), eg547, hv_up_ne _ _ (hnj.2 1 (by decide)), ho9529 _ (hnj.2 1 (by decide)), eg527, hv_up_ne _ _ (hnj.2 1 (by decide)), eg270, hv_up_ne _ _ (hnj.2 1 (by decide))]; exact hAg.2.1, by rw [ho9549 _ (hnj.2 2 (by decide)), eg547, hv_up_ne _ _ (hnj.2 2 (by decide)), ho9529 _ (hnj.2 2 (by decide)), eg527, hv_up_ne _ _ (hnj.2 2 (by decide)), eg270, hv_up_ne _ _ (hnj.2 2 (by decide))]; exact hAg.2.2.1, by rw [ho9549 _ (hnj.2 3 (by decide)), eg547, hv_up_ne _ _ (hnj.2 3 (by decide)), ho9529 _ (hnj.2 3 (by decide)), eg527, hv_up_ne _ _ (hnj.2 3 (by decide)), eg270, hv_up_ne _ _ (hnj.2 3 (by decide))]; exact hAg.2.2.2.1, fun j9 hj9 => by rw [ho9549 _ (hnj.2 (4 + j9) (by omega)), eg547, hv_up_ne _ _ (hnj.2 (4 + j9) (by omega)), ho9529 _ (hnj.2 (4 + j9) (by omega)), eg527, hv_up_ne _ _ (hnj.2 (4 + j9) (by omega)), eg270, hv_up_ne _ _ (hnj.2 (4 + j9) (by omega))]; exact hAg.2.2.2.2 j9 hj9⟩
                                    refine hv_V (As := [.int (nI c9), .long size.toInt64]) (rest := []) hE hml hK hI (c_Mo_setGlue l hl0 b0 D cA g550 mo a 0 (nI s9) (nI e9) (nI c9) (true && sz ((((v).1) + (((v).2.1) - gr.toInt64)) + size.toInt64)) ((((v).1) + (((v).2.1) - gr.toInt64)) + size.toInt64) ((v).2.1) ((v).2.2.1) gr.toInt64 md V ((v).2.2.2.2.1) ((v).2.2.2.2.2) size.toInt64 c9 hg549 hnj hA553 hq551 hq552 (by omega)) cd_Mo_setGlue w700 w702 ws30 hg549 rfl rfl hl.1 (Nat.le_of_ble_eq_true rfl) d_Mo_pack_222 ⟨by decide, by decide⟩ ⟨by decide, by decide⟩ (fun v9 g555 H locs hp hI => ?_) (fun q9 E9 ce9 g9 H locs hp => hp.elim)
                                    obtain ⟨hv, ha554, hb554, hc554, hd554, he554, ho9554⟩ := hp
                                    rw [hv]
                                    refine W.eq (g2 := F0 m 225 ls []) rfl ?_
                                    refine lv_aload_n hx hb d_Mo_pack_225 rfl (lv_at hl 2 rfl) ?_
                                    have hq556 : g555 mo = some (moE a 0 (nI s9) (nI e9) (nI c9) (true && sz ((((v).1) + (((v).2.1) - gr.toInt64)) + size.toInt64)) ((((v).1) + (((v).2.1) - gr.toInt64)) + size.toInt64) ((v).2.1) ((v).2.2.1) gr.toInt64 md) := by rw [ho9554 _ (Ne.symm (hnj.2 7 (by decide))) (Ne.symm (hnj.2 8 (by decide))) (Ne.symm (hnj.2 9 (by decide))) (Ne.symm (hnj.2 10 (by decide))) (Ne.symm (hnj.2 11 (by decide)))]; exact hg549
                                    refine hv_get hE k_Mo hI 6 (by decide) w522 hq556 rfl d_Mo_pack_226 ?_
                                    refine lv_iload hx hb d_Mo_pack_229 (lv_at hl 0 rfl) ?_
                                    refine lv_aload_n hx hb d_Mo_pack_231 rfl (lv_at hl 2 rfl) ?_
                                    refine hv_get hE k_Mo hI 3 (by decide) w519 hq556 rfl d_Mo_pack_232 ?_
                                    have hq557 : g555 (a 2) = some (.inl (cA 0, 101, .inl (fun b => nI (wF V b)))) := by rw [ho9554 _ (hnj.1 2 7 (by decide) (by decide) (by decide)) (hnj.1 2 8 (by decide) (by decide) (by decide)) (hnj.1 2 9 (by decide) (by decide) (by decide)) (hnj.1 2 10 (by decide) (by decide) (by decide)) (hnj.1 2 11 (by decide) (by decide) (by decide)), ho9549 _ (hnj.2 2 (by decide)), eg547, hv_up_ne _ _ (hnj.2 2 (by decide)), ho9529 _ (hnj.2 2 (by decide)), eg527, hv_up_ne _ _ (hnj.2 2 (by decide)), eg270, hv_up_ne _ _ (hnj.2 2 (by decide))]; exact hAg.2.2.1
                                    refine hv_iast hE hI 0 hq557 rfl (pk_in c9 101 (by omega) rfl (by omega)) d_Mo_pack_235 (fun H locs hI => ?_)
                                    rw [nI_cl (by omega)] at hI
                                    obtain ⟨g558, eg558⟩ : ∃ z : hv_M, z = hv_up g555 (a 2) (.inl (cA 0, 101, .inl (upd (fun b => nI (wF V b)) c9 (nI s9)))) := ⟨_, rfl⟩
                                    have hI : hv_I D CL b0 g558 s.heap H locs := by rw [eg558]; exact hI
                                    have hq559 : g558 (a 2) = some (.inl (cA 0, 101, .inl (upd (fun b => nI (wF V b)) c9 (nI s9)))) := by rw [eg558]; exact hv_up_self _ _ _
                                    refine lv_aload_n hx hb d_Mo_pack_236 rfl (lv_at hl 2 rfl) ?_
                                    have hq560 : g558 mo = some (moE a 0 (nI s9) (nI e9) (nI c9) (true && sz ((((v).1) + (((v).2.1) - gr.toInt64)) + size.toInt64)) ((((v).1) + (((v).2.1) - gr.toInt64)) + size.toInt64) ((v).2.1) ((v).2.2.1) gr.toInt64 md) := by rw [eg558, hv_up_ne _ _ (Ne.symm (hnj.2 2 (by decide)))]; exact hq556
                                    refine hv_get hE k_Mo hI 7 (by decide) w523 hq560 rfl d_Mo_pack_237 ?_
                                    refine lv_iload hx hb d_Mo_pack_240 (lv_at hl 0 rfl) ?_
                                    refine lv_iload_n hx hb d_Mo_pack_242 rfl (lv_at hl 3 rfl) ?_
                                    have hq561 : g558 (a 3) = some (.inl (cA 2, 100, .inl (fun b => b2i (wB V b)))) := by rw [eg558, hv_up_ne _ _ (hnj.1 3 2 (by decide) (by decide) (by decide)), ho9554 _ (hnj.1 3 7 (by decide) (by decide) (by decide)) (hnj.1 3 8 (by decide) (by decide) (by decide)) (hnj.1 3 9 (by decide) (by decide) (by decide)) (hnj.1 3 10 (by decide) (by decide) (by decide)) (hnj.1 3 11 (by decide) (by decide) (by decide)), ho9549 _ (hnj.2 3 (by decide)), eg547, hv_up_ne _ _ (hnj.2 3 (by decide)), ho9529 _ (hnj.2 3 (by decide)), eg527, hv_up_ne _ _ (hnj.2 3 (by decide)), eg270, hv_up_ne _ _ (hnj.2 3 (by decide))]; exact hAg.2.2.2.1
                                    refine hv_zast hE hI 2 hq561 rfl (pk_in c9 100 (by omega) rfl (by omega)) d_Mo_pack_243 (fun H locs hI => ?_)
                                    rw [nI_cl (by omega)] at hI
                                    obtain ⟨g562, eg562⟩ : ∃ z : hv_M, z = hv_up g558 (a 3) (.inl (cA 2, 100, .inl (upd (fun b => b2i (wB V b)) c9 (b2i bel)))) := ⟨_, rfl⟩
                                    have hI : hv_I D CL b0 g562 s.heap H locs := by rw [eg562]; exact hI
                                    have hq563 : g562 (a 3) = some (.inl (cA 2, 100, .inl (upd (fun b => b2i (wB V b)) c9 (b2i bel)))) := by rw [eg562]; exact hv_up_self _ _ _
                                    refine lv_aload_n hx hb d_Mo_pack_244 rfl (lv_at hl 2 rfl) ?_
                                    have hq564 : g562 mo = some (moE a 0 (nI s9) (nI e9) (nI c9) (true && sz ((((v).1) + (((v).2.1) - gr.toInt64)) + size.toInt64)) ((((v).1) + (((v).2.1) - gr.toInt64)) + size.toInt64) ((v).2.1) ((v).2.2.1) gr.toInt64 md) := by rw [eg562, hv_up_ne _ _ (Ne.symm (hnj.2 3 (by decide)))]; exact hq560
                                    refine hv_get hE k_Mo hI 8 (by decide) w524 hq564 rfl d_Mo_pack_245 ?_
                                    refine lv_iload hx hb d_Mo_pack_248 (lv_at hl 0 rfl) ?_
                                    refine lv_iload_n hx hb d_Mo_pack_250 rfl (lv_at hl 3 rfl) ?_
                                    refine lv_if_eq (tgt := 261) hx hb d_Mo_pack_251 (by decide) (fun c251 => ?_) (fun c251 => ?_)
                                    · skip
                                      have k251 := b2i_f c251
                                      exact absurd k251 (by rw [k99]; decide)
                                    · skip
                                      have k251 := b2i_t c251
                                      refine lv_aload_n hx hb d_Mo_pack_254 rfl (lv_at hl 2 rfl) ?_
                                      refine hv_get hE k_Mo hI 21 (by decide) w537 hq564 rfl d_Mo_pack_255 ?_
                                      refine lv_goto (tgt := 265) hx hb d_Mo_pack_258 (by decide) ?_
                                      refine lv_l2i (v := ((v).2.2.1).toInt32) hx hb d_Mo_pack_265 rfl ?_
                                      have hq565 : g562 (a 4) = some (.inl (cA 0, 100, .inl (wA V 0))) := by rw [eg562, hv_up_ne _ _ (hnj.1 4 3 (by decide) (by decide) (by decide)), eg558, hv_up_ne _ _ (hnj.1 4 2 (by decide) (by decide) (by decide)), ho9554 _ (hnj.1 4 7 (by decide) (by decide) (by decide)) (hnj.1 4 8 (by decide) (by decide) (by decide)) (hnj.1 4 9 (by decide) (by decide) (by decide)) (hnj.1 4 10 (by decide) (by decide) (by decide)) (hnj.1 4 11 (by decide) (by decide) (by decide)), ho9549 _ (hnj.2 4 (by decide)), eg547, hv_up_ne _ _ (hnj.2 4 (by decide)), ho9529 _ (hnj.2 4 (by decide)), eg527, hv_up_ne _ _ (hnj.2 4 (by decide)), eg270, hv_up_ne _ _ (hnj.2 4 (by decide))]; exact (hAg.2.2.2.2 0 (by decide))
                                      refine hv_iast hE hI 0 hq565 rfl (pk_in c9 100 (by omega) rfl (by omega)) d_Mo_pack_266 (fun H locs hI => ?_)
                                      rw [nI_cl (by omega)] at hI
                                      obtain ⟨g566, eg566⟩ : ∃ z : hv_M, z = hv_up g562 (a 4) (.inl (cA 0, 100, .inl (upd (wA V 0) c9 (((v).2.2.1).toInt32)))) := ⟨_, rfl⟩
                                      have hI : hv_I D CL b0 g566 s.heap H locs := by rw [eg566]; exact hI
                                      have hq567 : g566 (a 4) = some (.inl (cA 0, 100, .inl (upd (wA V 0) c9 (((v).2.2.1).toInt32)))) := by rw [eg566]; exact hv_up_self _ _ _
                                      refine lv_aload_n hx hb d_Mo_pack_267 rfl (lv_at hl 2 rfl) ?_
                                      have hq568 : g566 mo = some (moE a 0 (nI s9) (nI e9) (nI c9) (true && sz ((((v).1) + (((v).2.1) - gr.toInt64)) + size.toInt64)) ((((v).1) + (((v).2.1) - gr.toInt64)) + size.toInt64) ((v).2.1) ((v).2.2.1) gr.toInt64 md) := by rw [eg566, hv_up_ne _ _ (Ne.symm (hnj.2 4 (by decide)))]; exact hq564
                                      refine hv_get hE k_Mo hI 9 (by decide) w525 hq568 rfl d_Mo_pack_268 ?_
                                      refine lv_iload hx hb d_Mo_pack_271 (lv_at hl 0 rfl) ?_
                                      refine lv_iload_n hx hb d_Mo_pack_273 rfl (lv_at hl 3 rfl) ?_
                                      refine lv_if_eq (tgt := 284) hx hb d_Mo_pack_274 (by decide) (fun c274 => ?_) (fun c274 => ?_)
                                      · skip
                                        have k274 := b2i_f c274
                                        exact absurd k274 (by rw [k99]; decide)
                                      · skip
                                        have k274 := b2i_t c274
                                        refine lv_aload_n hx hb d_Mo_pack_277 rfl (lv_at hl 2 rfl) ?_
                                        refine hv_get hE k_Mo hI 19 (by decide) w535 hq568 rfl d_Mo_pack_278 ?_
                                        refine lv_goto (tgt := 288) hx hb d_Mo_pack_281 (by decide) ?_
                                        refine lv_l2i (v := ((((v).1) + (((v).2.1) - gr.toInt64)) + size.toInt64).toInt32) hx hb d_Mo_pack_288 rfl ?_
                                        have hq569 : g566 (a 5) = some (.inl (cA 0, 100, .inl (wA V 1))) := by rw [eg566, hv_up_ne _ _ (hnj.1 5 4 (by decide) (by decide) (by decide)), eg562, hv_up_ne _ _ (hnj.1 5 3 (by decide) (by decide) (by decide)), eg558, hv_up_ne _ _ (hnj.1 5 2 (by decide) (by decide) (by decide)), ho9554 _ (hnj.1 5 7 (by decide) (by decide) (by decide)) (hnj.1 5 8 (by decide) (by decide) (by decide)) (hnj.1 5 9 (by decide) (by decide) (by decide)) (hnj.1 5 10 (by decide) (by decide) (by decide)) (hnj.1 5 11 (by decide) (by decide) (by decide)), ho9549 _ (hnj.2 5 (by decide)), eg547, hv_up_ne _ _ (hnj.2 5 (by decide)), ho9529 _ (hnj.2 5 (by decide)), eg527, hv_up_ne _ _ (hnj.2 5 (by decide)), eg270, hv_up_ne _ _ (hnj.2 5 (by decide))]; exact (hAg.2.2.2.2 1 (by decide))
                                        refine hv_iast hE hI 0 hq569 rfl (pk_in c9 100 (by omega) rfl (by omega)) d_Mo_pack_289 (fun H locs hI => ?_)
                                        rw [nI_cl (by omega)] at hI
                                        obtain ⟨g570, eg570⟩ : ∃ z : hv_M, z = hv_up g566 (a 5) (.inl (cA 0, 100, .inl (upd (wA V 1) c9 (((((v).1) + (((v).2.1) - gr.toInt64)) + size.toInt64).toInt32)))) := ⟨_, rfl⟩
                                        have hI : hv_I D CL b0 g570 s.heap H locs := by rw [eg570]; exact hI
                                        have hq571 : g570 (a 5) = some (.inl (cA 0, 100, .inl (upd (wA V 1) c9 (((((v).1) + (((v).2.1) - gr.toInt64)) + size.toInt64).toInt32)))) := by rw [eg570]; exact hv_up_self _ _ _
                                        refine lv_aload_n hx hb d_Mo_pack_290 rfl (lv_at hl 2 rfl) ?_
                                        have hq572 : g570 mo = some (moE a 0 (nI s9) (nI e9) (nI c9) (true && sz ((((v).1) + (((v).2.1) - gr.toInt64)) + size.toInt64)) ((((v).1) + (((v).2.1) - gr.toInt64)) + size.toInt64) ((v).2.1) ((v).2.2.1) gr.toInt64 md) := by rw [eg570, hv_up_ne _ _ (Ne.symm (hnj.2 5 (by decide)))]; exact hq568
                                        refine hv_get hE k_Mo hI 10 (by decide) w526 hq572 rfl d_Mo_pack_291 ?_
                                        refine lv_iload hx hb d_Mo_pack_294 (lv_at hl 0 rfl) ?_
                                        refine lv_aload_n hx hb d_Mo_pack_296 rfl (lv_at hl 2 rfl) ?_
                                        refine hv_get hE k_Mo hI 22 (by decide) w538 hq572 rfl d_Mo_pack_297 ?_
                                        refine lv_l2i (v := gr.toInt64.toInt32) hx hb d_Mo_pack_300 rfl ?_
                                        have hq573 : g570 (a 6) = some (.inl (cA 0, 100, .inl (wA V 2))) := by rw [eg570, hv_up_ne _ _ (hnj.1 6 5 (by decide) (by decide) (by decide)), eg566, hv_up_ne _ _ (hnj.1 6 4 (by decide) (by decide) (by decide)), eg562, hv_up_ne _ _ (hnj.1 6 3 (by decide) (by decide) (by decide)), eg558, hv_up_ne _ _ (hnj.1 6 2 (by decide) (by decide) (by decide)), ho9554 _ (hnj.1 6 7 (by decide) (by decide) (by decide)) (hnj.1 6 8 (by decide) (by decide) (by decide)) (hnj.1 6 9 (by decide) (by decide) (by decide)) (hnj.1 6 10 (by decide) (by decide) (by decide)) (hnj.1 6 11 (by decide) (by decide) (by decide)), ho9549 _ (hnj.2 6 (by decide)), eg547, hv_up_ne _ _ (hnj.2 6 (by decide)), ho9529 _ (hnj.2 6 (by decide)), eg527, hv_up_ne _ _ (hnj.2 6 (by decide)), eg270, hv_up_ne _ _ (hnj.2 6 (by decide))]; exact (hAg.2.2.2.2 2 (by decide))
                                        refine hv_iast hE hI 0 hq573 rfl (pk_in c9 100 (by omega) rfl (by omega)) d_Mo_pack_301 (fun H locs hI => ?_)
                                        rw [nI_cl (by omega)] at hI
                                        obtain ⟨g574, eg574⟩ : ∃ z : hv_M, z = hv_up g570 (a 6) (.inl (cA 0, 100, .inl (upd (wA V 2) c9 gr.toInt64.toInt32))) := ⟨_, rfl⟩
                                        have hI : hv_I D CL b0 g574 s.heap H locs := by rw [eg574]; exact hI
                                        have hq575 : g574 (a 6) = some (.inl (cA 0, 100, .inl (upd (wA V 2) c9 gr.toInt64.toInt32))) := by rw [eg574]; exact hv_up_self _ _ _
                                        refine lv_aload_n hx hb d_Mo_pack_302 rfl (lv_at hl 2 rfl) ?_
                                        have hq576 : g574 mo = some (moE a 0 (nI s9) (nI e9) (nI c9) (true && sz ((((v).1) + (((v).2.1) - gr.toInt64)) + size.toInt64)) ((((v).1) + (((v).2.1) - gr.toInt64)) + size.toInt64) ((v).2.1) ((v).2.2.1) gr.toInt64 md) := by rw [eg574, hv_up_ne _ _ (Ne.symm (hnj.2 6 (by decide)))]; exact hq572
                                        refine hv_get hE k_Mo hI 16 (by decide) w532 hq576 rfl d_Mo_pack_303 ?_
                                        refine lv_iload hx hb d_Mo_pack_306 (lv_at hl 0 rfl) ?_
                                        refine lv_aload_n hx hb d_Mo_pack_308 rfl (lv_at hl 2 rfl) ?_
                                        have hq577 : g574 (a 0) = some (.inl (cA 0, 10200, .inl (wK V))) := by rw [eg574, hv_up_ne _ _ (hnj.1 0 6 (by decide) (by decide) (by decide)), eg570, hv_up_ne _ _ (hnj.1 0 5 (by decide) (by decide) (by decide)), eg566, hv_up_ne _ _ (hnj.1 0 4 (by decide) (by decide) (by decide)), eg562, hv_up_ne _ _ (hnj.1 0 3 (by decide) (by decide) (by decide)), eg558, hv_up_ne _ _ (hnj.1 0 2 (by decide) (by decide) (by decide)), ho9554 _ (hnj.1 0 7 (by decide) (by decide) (by decide)) (hnj.1 0 8 (by decide) (by decide) (by decide)) (hnj.1 0 9 (by decide) (by decide) (by decide)) (hnj.1 0 10 (by decide) (by decide) (by decide)) (hnj.1 0 11 (by decide) (by decide) (by decide)), ho9549 _ (hnj.2 0 (by decide)), eg547, hv_up_ne _ _ (hnj.2 0 (by decide)), ho9529 _ (hnj.2 0 (by decide)), eg527, hv_up_ne _ _ (hnj.2 0 (by decide)), eg270, hv_up_ne _ _ (hnj.2 0 (by decide))]; exact hAg.1
                                        have hq578 : g574 (a 1) = some (.inl (cA 0, 51000, .inl V.2.1)) := by rw [eg574, hv_up_ne _ _ (hnj.1 1 6 (by decide) (by decide) (by decide)), eg570, hv_up_ne _ _ (hnj.1 1 5 (by decide) (by decide) (by decide)), eg566, hv_up_ne _ _ (hnj.1 1 4 (by decide) (by decide) (by decide)), eg562, hv_up_ne _ _ (hnj.1 1 3 (by decide) (by decide) (by decide)), eg558, hv_up_ne _ _ (hnj.1 1 2 (by decide) (by decide) (by decide)), ho9554 _ (hnj.1 1 7 (by decide) (by decide) (by decide)) (hnj.1 1 8 (by decide) (by decide) (by decide)) (hnj.1 1 9 (by decide) (by decide) (by decide)) (hnj.1 1 10 (by decide) (by decide) (by decide)) (hnj.1 1 11 (by decide) (by decide) (by decide)), ho9549 _ (hnj.2 1 (by decide)), eg547, hv_up_ne _ _ (hnj.2 1 (by decide)), ho9529 _ (hnj.2 1 (by decide)), eg527, hv_up_ne _ _ (hnj.2 1 (by decide)), eg270, hv_up_ne _ _ (hnj.2 1 (by decide))]; exact hAg.2.1
                                        have hq579 : g574 (a 12) = some (.inl (cA 0, 100, .inl (wA V 8))) := by rw [eg574, hv_up_ne _ _ (hnj.1 12 6 (by decide) (by decide) (by decide)), eg570, hv_up_ne _ _ (hnj.1 12 5 (by decide) (by decide) (by decide)), eg566, hv_up_ne _ _ (hnj.1 12 4 (by decide) (by decide) (by decide)), eg562, hv_up_ne _ _ (hnj.1 12 3 (by decide) (by decide) (by decide)), eg558, hv_up_ne _ _ (hnj.1 12 2 (by decide) (by decide) (by decide)), ho9554 _ (hnj.1 12 7 (by decide) (by decide) (by decide)) (hnj.1 12 8 (by decide) (by decide) (by decide)) (hnj.1 12 9 (by decide) (by decide) (by decide)) (hnj.1 12 10 (by decide) (by decide) (by decide)) (hnj.1 12 11 (by decide) (by decide) (by decide)), ho9549 _ (hnj.2 12 (by decide)), eg547, hv_up_ne _ _ (hnj.2 12 (by decide)), ho9529 _ (hnj.2 12 (by decide)), eg527, hv_up_ne _ _ (hnj.2 12 (by decide)), eg270, hv_up_ne _ _ (hnj.2 12 (by decide))]; exact (hAg.2.2.2.2 8 (by decide))
                                        refine hv_Vp (As := []) (rest := [.int (nI c9), .ref (a 12)]) hE hml hK hI (c_Mo_deepest l hl0 b0 D cA g574 mo a 0 s9 e9 (nI c9) (true && sz ((((v).1) + (((v).2.1) - gr.toInt64)) + size.toInt64)) ((((v).1) + (((v).2.1) - gr.toInt64)) + size.toInt64) ((v).2.1) ((v).2.2.1) gr.toInt64 md V hq576 hnj hq577 hq578 hq579 hse he9 hit) cd_Mo_deepest w660 w662 ws20 hq576 rfl rfl rfl rfl hl.1 (Nat.le_of_ble_eq_true rfl) d_Mo_pack_309 ⟨by decide, by decide⟩ ⟨by decide, by decide⟩ (fun H locs hI => ?_)
                                        refine W.eq (g2 := F0 m 312 ls [.int (dL V s9 (e9 - s9)), .int (nI c9), .ref (a 12)]) rfl ?_
                                        refine lv_iconst (v := 1) hx hb d_Mo_pack_312 (by decide) ?_
                                        refine lv_iadd hx hb d_Mo_pack_313 ?_
                                        refine hv_iast hE hI 0 hq579 rfl (pk_in c9 100 (by omega) rfl (by omega)) d_Mo_pack_314 (fun H locs hI => ?_)
                                        rw [nI_cl (by omega)] at hI
                                        obtain ⟨g580, eg580⟩ : ∃ z : hv_M, z = hv_up g574 (a 12) (.inl (cA 0, 100, .inl (upd (wA V 8) c9 ((dL V s9 (e9 - s9)) + 1)))) := ⟨_, rfl⟩
                                        have hI : hv_I D CL b0 g580 s.heap H locs := by rw [eg580]; exact hI
                                        have hq581 : g580 (a 12) = some (.inl (cA 0, 100, .inl (upd (wA V 8) c9 ((dL V s9 (e9 - s9)) + 1)))) := by rw [eg580]; exact hv_up_self _ _ _
                                        refine lv_aload_n hx hb d_Mo_pack_315 rfl (lv_at hl 2 rfl) ?_
                                        have hq582 : g580 mo = some (moE a 0 (nI s9) (nI e9) (nI c9) (true && sz ((((v).1) + (((v).2.1) - gr.toInt64)) + size.toInt64)) ((((v).1) + (((v).2.1) - gr.toInt64)) + size.toInt64) ((v).2.1) ((v).2.2.1) gr.toInt64 md) := by rw [eg580, hv_up_ne _ _ (Ne.symm (hnj.2 12 (by decide)))]; exact hq576
                                        refine hv_get hE k_Mo hI 17 (by decide) w533 hq582 rfl d_Mo_pack_316 ?_
                                        refine lv_iload hx hb d_Mo_pack_319 (lv_at hl 0 rfl) ?_
                                        refine lv_aload_n hx hb d_Mo_pack_321 rfl (lv_at hl 2 rfl) ?_
                                        have hq583 : g580 (a 0) = some (.inl (cA 0, 10200, .inl (wK V))) := by rw [eg580, hv_up_ne _ _ (hnj.1 0 12 (by decide) (by decide) (by decide))]; exact hq577
                                        have hq584 : g580 (a 1) = some (.inl (cA 0, 51000, .inl V.2.1)) := by rw [eg580, hv_up_ne _ _ (hnj.1 1 12 (by decide) (by decide) (by decide))]; exact hq578
                                        have hq585 : g580 (a 13) = some (.inl (cA 0, 100, .inl (wA V 9))) := by rw [eg580, hv_up_ne _ _ (hnj.1 13 12 (by decide) (by decide) (by decide)), eg574, hv_up_ne _ _ (hnj.1 13 6 (by decide) (by decide) (by decide)), eg570, hv_up_ne _ _ (hnj.1 13 5 (by decide) (by decide) (by decide)), eg566, hv_up_ne _ _ (hnj.1 13 4 (by decide) (by decide) (by decide)), eg562, hv_up_ne _ _ (hnj.1 13 3 (by decide) (by decide) (by decide)), eg558, hv_up_ne _ _ (hnj.1 13 2 (by decide) (by decide) (by decide)), ho9554 _ (hnj.1 13 7 (by decide) (by decide) (by decide)) (hnj.1 13 8 (by decide) (by decide) (by decide)) (hnj.1 13 9 (by decide) (by decide) (by decide)) (hnj.1 13 10 (by decide) (by decide) (by decide)) (hnj.1 13 11 (by decide) (by decide) (by decide)), ho9549 _ (hnj.2 13 (by decide)), eg547, hv_up_ne _ _ (hnj.2 13 (by decide)), ho9529 _ (hnj.2 13 (by decide)), eg527, hv_up_ne _ _ (hnj.2 13 (by decide)), eg270, hv_up_ne _ _ (hnj.2 13 (by decide))]; exact (hAg.2.2.2.2 9 (by decide))
                                        refine hv_Vp (As := []) (rest := [.int (nI c9), .ref (a 13)]) hE hml hK hI (c_Mo_countAll l hl0 b0 D cA g580 mo a 0 s9 e9 (nI c9) (true && sz ((((v).1) + (((v).2.1) - gr.toInt64)) + size.toInt64)) ((((v).1) + (((v).2.1) - gr.toInt64)) + size.toInt64) ((v).2.1) ((v).2.2.1) gr.toInt64 md V hq582 hnj hq583 hq584 hq585 hse he9 hit) cd_Mo_countAll w714 w716 ws31 hq582 rfl rfl rfl rfl hl.1 (Nat.le_of_ble_eq_true rfl) d_Mo_pack_322 ⟨by decide, by decide⟩ ⟨by decide, by decide⟩ (fun H locs hI => ?_)
                                        refine W.eq (g2 := F0 m 325 ls [.int (cA9 V s9 (e9 - s9)), .int (nI c9), .ref (a 13)]) rfl ?_
                                        refine hv_iast hE hI 0 hq585 rfl (pk_in c9 100 (by omega) rfl (by omega)) d_Mo_pack_325 (fun H locs hI => ?_)
                                        rw [nI_cl (by omega)] at hI
                                        obtain ⟨g586, eg586⟩ : ∃ z : hv_M, z = hv_up g580 (a 13) (.inl (cA 0, 100, .inl (upd (wA V 9) c9 (cA9 V s9 (e9 - s9))))) := ⟨_, rfl⟩
                                        have hI : hv_I D CL b0 g586 s.heap H locs := by rw [eg586]; exact hI
                                        have hq587 : g586 (a 13) = some (.inl (cA 0, 100, .inl (upd (wA V 9) c9 (cA9 V s9 (e9 - s9))))) := by rw [eg586]; exact hv_up_self _ _ _
                                        refine lv_aload_n hx hb d_Mo_pack_326 rfl (lv_at hl 2 rfl) ?_
                                        refine lv_dup hx hb d_Mo_pack_327 rfl ?_
                                        have hq588 : g586 mo = some (moE a 0 (nI s9) (nI e9) (nI c9) (true && sz ((((v).1) + (((v).2.1) - gr.toInt64)) + size.toInt64)) ((((v).1) + (((v).2.1) - gr.toInt64)) + size.toInt64) ((v).2.1) ((v).2.2.1) gr.toInt64 md) := by rw [eg586, hv_up_ne _ _ (Ne.symm (hnj.2 13 (by decide)))]; exact hq582
                                        refine hv_get hE k_Mo hI 5 (by decide) w521 hq588 rfl d_Mo_pack_328 ?_
                                        refine lv_iconst (v := 1) hx hb d_Mo_pack_331 (by decide) ?_
                                        refine lv_iadd hx hb d_Mo_pack_332 ?_
                                        refine hv_put hE k_Mo hI 5 (by decide) w521 hq588 rfl rfl rfl (Nat.le_of_ble_eq_true rfl) d_Mo_pack_333 (fun H locs hI => ?_)
                                        obtain ⟨g589, eg589⟩ : ∃ z : hv_M, z = hv_up g586 mo (moE a 0 (nI s9) (nI e9) ((nI c9) + 1) (true && sz ((((v).1) + (((v).2.1) - gr.toInt64)) + size.toInt64)) ((((v).1) + (((v).2.1) - gr.toInt64)) + size.toInt64) ((v).2.1) ((v).2.2.1) gr.toInt64 md) := ⟨_, rfl⟩
                                        have hI : hv_I D CL b0 g589 s.heap H locs := by rw [eg589]; exact hI
                                        have hq590 : g589 mo = some (moE a 0 (nI s9) (nI e9) ((nI c9) + 1) (true && sz ((((v).1) + (((v).2.1) - gr.toInt64)) + size.toInt64)) ((((v).1) + (((v).2.1) - gr.toInt64)) + size.toInt64) ((v).2.1) ((v).2.2.1) gr.toInt64 md) := by rw [eg589]; exact hv_up_self _ _ _
                                        refine lv_aload_n hx hb d_Mo_pack_336 rfl (lv_at hl 2 rfl) ?_
                                        refine lv_aload_n hx hb d_Mo_pack_337 rfl (lv_at hl 2 rfl) ?_
                                        refine hv_get hE k_Mo hI 4 (by decide) w520 hq590 rfl d_Mo_pack_338 ?_
                                        refine hv_put hE k_Mo hI 3 (by decide) w519 hq590 rfl rfl rfl (Nat.le_of_ble_eq_true rfl) d_Mo_pack_341 (fun H locs hI => ?_)
                                        obtain ⟨g591, eg591⟩ : ∃ z : hv_M, z = hv_up g589 mo (moE a 0 (nI e9) (nI e9) ((nI c9) + 1) (true && sz ((((v).1) + (((v).2.1) - gr.toInt64)) + size.toInt64)) ((((v).1) + (((v).2.1) - gr.toInt64)) + size.toInt64) ((v).2.1) ((v).2.2.1) gr.toInt64 md) := ⟨_, rfl⟩
                                        have hI : hv_I D CL b0 g591 s.heap H locs := by rw [eg591]; exact hI
                                        have hq592 : g591 mo = some (moE a 0 (nI e9) (nI e9) ((nI c9) + 1) (true && sz ((((v).1) + (((v).2.1) - gr.toInt64)) + size.toInt64)) ((((v).1) + (((v).2.1) - gr.toInt64)) + size.toInt64) ((v).2.1) ((v).2.2.1) gr.toInt64 md) := by rw [eg591]; exact hv_up_self _ _ _
                                        refine lv_aload_n hx hb d_Mo_pack_344 rfl (lv_at hl 2 rfl) ?_
                                        refine hv_get hE k_Mo hI 6 (by decide) w522 hq592 rfl d_Mo_pack_345 ?_
                                        refine lv_aload_n hx hb d_Mo_pack_348 rfl (lv_at hl 2 rfl) ?_
                                        refine hv_get hE k_Mo hI 5 (by decide) w521 hq592 rfl d_Mo_pack_349 ?_
                                        refine lv_aload_n hx hb d_Mo_pack_352 rfl (lv_at hl 2 rfl) ?_
                                        refine hv_get hE k_Mo hI 4 (by decide) w520 hq592 rfl d_Mo_pack_353 ?_
                                        have hq593 : g591 (a 2) = some (.inl (cA 0, 101, .inl (upd (fun b => nI (wF V b)) c9 (nI s9)))) := by rw [eg591, hv_up_ne _ _ (hnj.2 2 (by decide)), eg589, hv_up_ne _ _ (hnj.2 2 (by decide)), eg586, hv_up_ne _ _ (hnj.1 2 13 (by decide) (by decide) (by decide)), eg580, hv_up_ne _ _ (hnj.1 2 12 (by decide) (by decide) (by decide)), eg574, hv_up_ne _ _ (hnj.1 2 6 (by decide) (by decide) (by decide)), eg570, hv_up_ne _ _ (hnj.1 2 5 (by decide) (by decide) (by decide)), eg566, hv_up_ne _ _ (hnj.1 2 4 (by decide) (by decide) (by decide)), eg562, hv_up_ne _ _ (hnj.1 2 3 (by decide) (by decide) (by decide))]; exact hq559
                                        refine hv_iast hE hI 0 hq593 rfl (pk_in (c9 + 1) 101 (by omega) (nI_1 c9) (by omega)) d_Mo_pack_356 (fun H locs hI => ?_)
                                        rw [nI_1, nI_cl (by omega)] at hI
                                        obtain ⟨g594, eg594⟩ : ∃ z : hv_M, z = hv_up g591 (a 2) (.inl (cA 0, 101, .inl (upd (upd (fun b => nI (wF V b)) c9 (nI s9)) (c9 + 1) (nI e9)))) := ⟨_, rfl⟩
                                        have hI : hv_I D CL b0 g594 s.heap H locs := by rw [eg594]; exact hI
                                        have hq595 : g594 (a 2) = some (.inl (cA 0, 101, .inl (upd (upd (fun b => nI (wF V b)) c9 (nI s9)) (c9 + 1) (nI e9)))) := by rw [eg594]; exact hv_up_self _ _ _
                                        refine lv_iload hx hb d_Mo_pack_357 (lv_at hl 0 rfl) ?_
                                        have hq596 : g594 mo = some (moE a 0 (nI e9) (nI e9) ((nI c9) + 1) (true && sz ((((v).1) + (((v).2.1) - gr.toInt64)) + size.toInt64)) ((((v).1) + (((v).2.1) - gr.toInt64)) + size.toInt64) ((v).2.1) ((v).2.2.1) gr.toInt64 md) := by rw [eg594, hv_up_ne _ _ (Ne.symm (hnj.2 2 (by decide)))]; exact hq592
                                        have hq597 : g594 (a 0) = some (.inl (cA 0, 10200, .inl (wK V))) := by rw [eg594, hv_up_ne _ _ (hnj.1 0 2 (by decide) (by decide) (by decide)), eg591, hv_up_ne _ _ (hnj.2 0 (by decide)), eg589, hv_up_ne _ _ (hnj.2 0 (by decide)), eg586, hv_up_ne _ _ (hnj.1 0 13 (by decide) (by decide) (by decide))]; exact hq583
                                        have hq598 : g594 (a 1) = some (.inl (cA 0, 51000, .inl V.2.1)) := by rw [eg594, hv_up_ne _ _ (hnj.1 1 2 (by decide) (by decide) (by decide)), eg591, hv_up_ne _ _ (hnj.2 1 (by decide)), eg589, hv_up_ne _ _ (hnj.2 1 (by decide)), eg586, hv_up_ne _ _ (hnj.1 1 13 (by decide) (by decide) (by decide))]; exact hq584
                                        have hq599 : g594 (a 3) = some (.inl (cA 2, 100, .inl (upd (fun b => b2i (wB V b)) c9 (b2i bel)))) := by rw [eg594, hv_up_ne _ _ (hnj.1 3 2 (by decide) (by decide) (by decide)), eg591, hv_up_ne _ _ (hnj.2 3 (by decide)), eg589, hv_up_ne _ _ (hnj.2 3 (by decide)), eg586, hv_up_ne _ _ (hnj.1 3 13 (by decide) (by decide) (by decide)), eg580, hv_up_ne _ _ (hnj.1 3 12 (by decide) (by decide) (by decide)), eg574, hv_up_ne _ _ (hnj.1 3 6 (by decide) (by decide) (by decide)), eg570, hv_up_ne _ _ (hnj.1 3 5 (by decide) (by decide) (by decide)), eg566, hv_up_ne _ _ (hnj.1 3 4 (by decide) (by decide) (by decide))]; exact hq563
                                        have hq600 : g594 (a 4) = some (.inl (cA 0, 100, .inl (upd (wA V 0) c9 (((v).2.2.1).toInt32)))) := by rw [eg594, hv_up_ne _ _ (hnj.1 4 2 (by decide) (by decide) (by decide)), eg591, hv_up_ne _ _ (hnj.2 4 (by decide)), eg589, hv_up_ne _ _ (hnj.2 4 (by decide)), eg586, hv_up_ne _ _ (hnj.1 4 13 (by decide) (by decide) (by decide)), eg580, hv_up_ne _ _ (hnj.1 4 12 (by decide) (by decide) (by decide)), eg574, hv_up_ne _ _ (hnj.1 4 6 (by decide) (by decide) (by decide)), eg570, hv_up_ne _ _ (hnj.1 4 5 (by decide) (by decide) (by decide))]; exact hq567
                                        have hq601 : g594 (a 5) = some (.inl (cA 0, 100, .inl (upd (wA V 1) c9 (((((v).1) + (((v).2.1) - gr.toInt64)) + size.toInt64).toInt32)))) := by rw [eg594, hv_up_ne _ _ (hnj.1 5 2 (by decide) (by decide) (by decide)), eg591, hv_up_ne _ _ (hnj.2 5 (by decide)), eg589, hv_up_ne _ _ (hnj.2 5 (by decide)), eg586, hv_up_ne _ _ (hnj.1 5 13 (by decide) (by decide) (by decide)), eg580, hv_up_ne _ _ (hnj.1 5 12 (by decide) (by decide) (by decide)), eg574, hv_up_ne _ _ (hnj.1 5 6 (by decide) (by decide) (by decide))]; exact hq571
                                        have hq602 : g594 (a 6) = some (.inl (cA 0, 100, .inl (upd (wA V 2) c9 gr.toInt64.toInt32))) := by rw [eg594, hv_up_ne _ _ (hnj.1 6 2 (by decide) (by decide) (by decide)), eg591, hv_up_ne _ _ (hnj.2 6 (by decide)), eg589, hv_up_ne _ _ (hnj.2 6 (by decide)), eg586, hv_up_ne _ _ (hnj.1 6 13 (by decide) (by decide) (by decide)), eg580, hv_up_ne _ _ (hnj.1 6 12 (by decide) (by decide) (by decide))]; exact hq575
                                        have hq603 : g594 (a 7) = some (.inl (cA 0, 100, .inl (upd (wA V 3) c9 size.toInt64.toInt32))) := by rw [eg594, hv_up_ne _ _ (hnj.1 7 2 (by decide) (by decide) (by decide)), eg591, hv_up_ne _ _ (hnj.2 7 (by decide)), eg589, hv_up_ne _ _ (hnj.2 7 (by decide)), eg586, hv_up_ne _ _ (hnj.1 7 13 (by decide) (by decide) (by decide)), eg580, hv_up_ne _ _ (hnj.1 7 12 (by decide) (by decide) (by decide)), eg574, hv_up_ne _ _ (hnj.1 7 6 (by decide) (by decide) (by decide)), eg570, hv_up_ne _ _ (hnj.1 7 5 (by decide) (by decide) (by decide)), eg566, hv_up_ne _ _ (hnj.1 7 4 (by decide) (by decide) (by decide)), eg562, hv_up_ne _ _ (hnj.1 7 3 (by decide) (by decide) (by decide)), eg558, hv_up_ne _ _ (hnj.1 7 2 (by decide) (by decide) (by decide))]; exact ha554
                                        have hq604 : g594 (a 8) = some (.inl (cA 0, 100, .inl (upd (wA V 4) c9 ((otF size.toInt64 ((v).2.2.2.2.1, (v).2.2.2.2.2)).1)))) := by rw [eg594, hv_up_ne _ _ (hnj.1 8 2 (by decide) (by decide) (by decide)), eg591, hv_up_ne _ _ (hnj.2 8 (by decide)), eg589, hv_up_ne _ _ (hnj.2 8 (by decide)), eg586, hv_up_ne _ _ (hnj.1 8 13 (by decide) (by decide) (by decide)), eg580, hv_up_ne _ _ (hnj.1 8 12 (by decide) (by decide) (by decide)), eg574, hv_up_ne _ _ (hnj.1 8 6 (by decide) (by decide) (by decide)), eg570, hv_up_ne _ _ (hnj.1 8 5 (by decide) (by decide) (by decide)), eg566, hv_up_ne _ _ (hnj.1 8 4 (by decide) (by decide) (by decide)), eg562, hv_up_ne _ _ (hnj.1 8 3 (by decide) (by decide) (by decide)), eg558, hv_up_ne _ _ (hnj.1 8 2 (by decide) (by decide) (by decide))]; exact hb554
                                        have hq605 : g594 (a 9) = some (.inl (cA 0, 100, .inl (upd (wA V 5) c9 ((otF size.toInt64 ((v).2.2.2.2.1, (v).2.2.2.2.2)).2)))) := by rw [eg594, hv_up_ne _ _ (hnj.1 9 2 (by decide) (by decide) (by decide)), eg591, hv_up_ne _ _ (hnj.2 9 (by decide)), eg589, hv_up_ne _ _ (hnj.2 9 (by decide)), eg586, hv_up_ne _ _ (hnj.1 9 13 (by decide) (by decide) (by decide)), eg580, hv_up_ne _ _ (hnj.1 9 12 (by decide) (by decide) (by decide)), eg574, hv_up_ne _ _ (hnj.1 9 6 (by decide) (by decide) (by decide)), eg570, hv_up_ne _ _ (hnj.1 9 5 (by decide) (by decide) (by decide)), eg566, hv_up_ne _ _ (hnj.1 9 4 (by decide) (by decide) (by decide)), eg562, hv_up_ne _ _ (hnj.1 9 3 (by decide) (by decide) (by decide)), eg558, hv_up_ne _ _ (hnj.1 9 2 (by decide) (by decide) (by decide))]; exact hc554
                                        have hq606 : g594 (a 10) = some (.inl (cA 0, 100, .inl (upd (wA V 6) c9 (baM size.toInt64 (otF size.toInt64 ((v).2.2.2.2.1, (v).2.2.2.2.2)))))) := by rw [eg594, hv_up_ne _ _ (hnj.1 10 2 (by decide) (by decide) (by decide)), eg591, hv_up_ne _ _ (hnj.2 10 (by decide)), eg589, hv_up_ne _ _ (hnj.2 10 (by decide)), eg586, hv_up_ne _ _ (hnj.1 10 13 (by decide) (by decide) (by decide)), eg580, hv_up_ne _ _ (hnj.1 10 12 (by decide) (by decide) (by decide)), eg574, hv_up_ne _ _ (hnj.1 10 6 (by decide) (by decide) (by decide)), eg570, hv_up_ne _ _ (hnj.1 10 5 (by decide) (by decide) (by decide)), eg566, hv_up_ne _ _ (hnj.1 10 4 (by decide) (by decide) (by decide)), eg562, hv_up_ne _ _ (hnj.1 10 3 (by decide) (by decide) (by decide)), eg558, hv_up_ne _ _ (hnj.1 10 2 (by decide) (by decide) (by decide))]; exact hd554
                                        have hq607 : g594 (a 11) = some (.inl (cA 0, 100, .inl (upd (wA V 7) c9 (ovM size.toInt64 (otF size.toInt64 ((v).2.2.2.2.1, (v).2.2.2.2.2)))))) := by rw [eg594, hv_up_ne _ _ (hnj.1 11 2 (by decide) (by decide) (by decide)), eg591, hv_up_ne _ _ (hnj.2 11 (by decide)), eg589, hv_up_ne _ _ (hnj.2 11 (by decide)), eg586, hv_up_ne _ _ (hnj.1 11 13 (by decide) (by decide) (by decide)), eg580, hv_up_ne _ _ (hnj.1 11 12 (by decide) (by decide) (by decide)), eg574, hv_up_ne _ _ (hnj.1 11 6 (by decide) (by decide) (by decide)), eg570, hv_up_ne _ _ (hnj.1 11 5 (by decide) (by decide) (by decide)), eg566, hv_up_ne _ _ (hnj.1 11 4 (by decide) (by decide) (by decide)), eg562, hv_up_ne _ _ (hnj.1 11 3 (by decide) (by decide) (by decide)), eg558, hv_up_ne _ _ (hnj.1 11 2 (by decide) (by decide) (by decide))]; exact he554
                                        have hq608 : g594 (a 12) = some (.inl (cA 0, 100, .inl (upd (wA V 8) c9 ((dL V s9 (e9 - s9)) + 1)))) := by rw [eg594, hv_up_ne _ _ (hnj.1 12 2 (by decide) (by decide) (by decide)), eg591, hv_up_ne _ _ (hnj.2 12 (by decide)), eg589, hv_up_ne _ _ (hnj.2 12 (by decide)), eg586, hv_up_ne _ _ (hnj.1 12 13 (by decide) (by decide) (by decide))]; exact hq581
                                        have hq609 : g594 (a 13) = some (.inl (cA 0, 100, .inl (upd (wA V 9) c9 (cA9 V s9 (e9 - s9))))) := by rw [eg594, hv_up_ne _ _ (hnj.1 13 2 (by decide) (by decide) (by decide)), eg591, hv_up_ne _ _ (hnj.2 13 (by decide)), eg589, hv_up_ne _ _ (hnj.2 13 (by decide))]; exact hq587
                                        have hq610 : g594 (a 14) = some (.inl (cA 1, 4, .inr (.inl (v).2.2.2.2.1))) := by rw [eg594, hv_up_ne _ _ (hnj.1 14 2 (by decide) (by decide) (by decide)), eg591, hv_up_ne _ _ (hnj.2 14 (by decide)), eg589, hv_up_ne _ _ (hnj.2 14 (by decide)), eg586, hv_up_ne _ _ (hnj.1 14 13 (by decide) (by decide) (by decide)), eg580, hv_up_ne _ _ (hnj.1 14 12 (by decide) (by decide) (by decide)), eg574, hv_up_ne _ _ (hnj.1 14 6 (by decide) (by decide) (by decide)), eg570, hv_up_ne _ _ (hnj.1 14 5 (by decide) (by decide) (by decide)), eg566, hv_up_ne _ _ (hnj.1 14 4 (by decide) (by decide) (by decide)), eg562, hv_up_ne _ _ (hnj.1 14 3 (by decide) (by decide) (by decide)), eg558, hv_up_ne _ _ (hnj.1 14 2 (by decide) (by decide) (by decide)), ho9554 _ (hnj.1 14 7 (by decide) (by decide) (by decide)) (hnj.1 14 8 (by decide) (by decide) (by decide)) (hnj.1 14 9 (by decide) (by decide) (by decide)) (hnj.1 14 10 (by decide) (by decide) (by decide)) (hnj.1 14 11 (by decide) (by decide) (by decide))]; exact hq551
                                        have hq611 : g594 (a 15) = some (.inl (cA 1, 4, .inr (.inl (v).2.2.2.2.2))) := by rw [eg594, hv_up_ne _ _ (hnj.1 15 2 (by decide) (by decide) (by decide)), eg591, hv_up_ne _ _ (hnj.2 15 (by decide)), eg589, hv_up_ne _ _ (hnj.2 15 (by decide)), eg586, hv_up_ne _ _ (hnj.1 15 13 (by decide) (by decide) (by decide)), eg580, hv_up_ne _ _ (hnj.1 15 12 (by decide) (by decide) (by decide)), eg574, hv_up_ne _ _ (hnj.1 15 6 (by decide) (by decide) (by decide)), eg570, hv_up_ne _ _ (hnj.1 15 5 (by decide) (by decide) (by decide)), eg566, hv_up_ne _ _ (hnj.1 15 4 (by decide) (by decide) (by decide)), eg562, hv_up_ne _ _ (hnj.1 15 3 (by decide) (by decide) (by decide)), eg558, hv_up_ne _ _ (hnj.1 15 2 (by decide) (by decide) (by decide)), ho9554 _ (hnj.1 15 7 (by decide) (by decide) (by decide)) (hnj.1 15 8 (by decide) (by decide) (by decide)) (hnj.1 15 9 (by decide) (by decide) (by decide)) (hnj.1 15 10 (by decide) (by decide) (by decide)) (hnj.1 15 11 (by decide) (by decide) (by decide))]; exact hq552
                                        have hat : atM V bel how size gr s9 (e9 - s9) v = fun j => [(((v).2.2.1).toInt32), (((((v).1) + (((v).2.1) - gr.toInt64)) + size.toInt64).toInt32), gr.toInt64.toInt32, size.toInt64.toInt32, (otF size.toInt64 ((v).2.2.2.2.1, (v).2.2.2.2.2)).1, (otF size.toInt64 ((v).2.2.2.2.1, (v).2.2.2.2.2)).2, baM size.toInt64 (otF size.toInt64 ((v).2.2.2.2.1, (v).2.2.2.2.2)), ovM size.toInt64 (otF size.toInt64 ((v).2.2.2.2.1, (v).2.2.2.2.2)), ((dL V s9 (e9 - s9)) + 1), (cA9 V s9 (e9 - s9))].getD j 0 := by funext j9; simp only [atM, hln, hex, hun]; simp only [k99, if_true, if_false, Bool.false_eq_true]
                                        exact hv_iret hE hr hlocks hI hK (v := nI c9) ((show _ ∨ _ by rw [← ev, ← eG]; exact Or.inr (Or.inr (Or.inr ⟨(by simp [okPack, c2, n2, c7, n7, k15, k24]), hcc, c46, by rw [hgd, k172, k180]; simpa using k201, rfl, ⟨_, ((((v).1) + (((v).2.1) - gr.toInt64)) + size.toInt64, (v).2.1, (v).2.2.1, gr.toInt64, (v).2.2.2.2.1, (v).2.2.2.2.2), by rw [← nI_1]; exact hq596, hq610, hq611⟩, by rw [hat]; exact ⟨hq597, hq598, by rw [← pkW_F]; exact hq595, by rw [← pkW_B]; exact hq599, fun j hj => match j, hj with | 0, _ => hq600 | 1, _ => hq601 | 2, _ => hq602 | 3, _ => hq603 | 4, _ => hq604 | 5, _ => hq605 | 6, _ => hq606 | 7, _ => hq607 | 8, _ => hq608 | 9, _ => hq609 | j + 10, h9 => absurd h9 (by omega)⟩, fun z z1 hz => by rw [eg594, hv_up_ne _ _ (hz 2 (by decide) (by decide)), eg591, hv_up_ne _ _ z1, eg589, hv_up_ne _ _ z1, eg586, hv_up_ne _ _ (hz 13 (by decide) (by decide)), eg580, hv_up_ne _ _ (hz 12 (by decide) (by decide)), eg574, hv_up_ne _ _ (hz 6 (by decide) (by decide)), eg570, hv_up_ne _ _ (hz 5 (by decide) (by decide)), eg566, hv_up_ne _ _ (hz 4 (by decide) (by decide)), eg562, hv_up_ne _ _ (hz 3 (by decide) (by decide)), eg558, hv_up_ne _ _ (hz 2 (by decide) (by decide)), ho9554 _ (hz 7 (by decide) (by decide)) (hz 8 (by decide) (by decide)) (hz 9 (by decide) (by decide)) (hz 10 (by decide) (by decide)) (hz 11 (by decide) (by decide)), ho9549 _ z1, eg547, hv_up_ne _ _ z1, ho9529 _ z1, eg527, hv_up_ne _ _ z1, eg270, hv_up_ne _ _ z1]; exact hfo z z1 (hz 14 (by decide) (by decide)) (hz 15 (by decide) (by decide))⟩)))) (by decide) (by decide) d_Mo_pack_359
                                  · skip
                                    have k201 := b2i_f c201
                                    refine lv_aload_n hx hb d_Mo_pack_204 rfl (lv_at hl 1 rfl) ?_
                                    refine lv_iconst (v := 3) hx hb d_Mo_pack_205 (by decide) ?_
                                    refine hv_put hE k_Mo hI 0 (by decide) w516 hg549 rfl rfl rfl (Nat.le_of_ble_eq_true rfl) d_Mo_pack_206 (fun H locs hI => ?_)
                                    obtain ⟨g612, eg612⟩ : ∃ z : hv_M, z = hv_up g550 mo (moE a 3 (nI s9) (nI e9) (nI c9) (true && sz ((((v).1) + (((v).2.1) - gr.toInt64)) + size.toInt64)) ((((v).1) + (((v).2.1) - gr.toInt64)) + size.toInt64) ((v).2.1) ((v).2.2.1) gr.toInt64 md) := ⟨_, rfl⟩
                                    have hI : hv_I D CL b0 g612 s.heap H locs := by rw [eg612]; exact hI
                                    have hq613 : g612 mo = some (moE a 3 (nI s9) (nI e9) (nI c9) (true && sz ((((v).1) + (((v).2.1) - gr.toInt64)) + size.toInt64)) ((((v).1) + (((v).2.1) - gr.toInt64)) + size.toInt64) ((v).2.1) ((v).2.2.1) gr.toInt64 md) := by rw [eg612]; exact hv_up_self _ _ _
                                    refine lv_iconst (v := 0) hx hb d_Mo_pack_209 (by decide) ?_
                                    have hq614 : g612 (a 14) = some (.inl (cA 1, 4, .inr (.inl (v).2.2.2.2.1))) := by rw [eg612, hv_up_ne _ _ (hnj.2 14 (by decide)), ho9549 _ (hnj.2 14 (by decide)), eg547, hv_up_ne _ _ (hnj.2 14 (by decide)), ho9529 _ (hnj.2 14 (by decide)), eg527, hv_up_ne _ _ (hnj.2 14 (by decide)), eg270, hv_up_ne _ _ (hnj.2 14 (by decide))]; exact hs.2.1
                                    have hq615 : g612 (a 15) = some (.inl (cA 1, 4, .inr (.inl (v).2.2.2.2.2))) := by rw [eg612, hv_up_ne _ _ (hnj.2 15 (by decide)), ho9549 _ (hnj.2 15 (by decide)), eg547, hv_up_ne _ _ (hnj.2 15 (by decide)), ho9529 _ (hnj.2 15 (by decide)), eg527, hv_up_ne _ _ (hnj.2 15 (by decide)), eg270, hv_up_ne _ _ (hnj.2 15 (by decide))]; exact hs.2.2
                                    exact hv_iret hE hr hlocks hI hK (v := 0) ((show _ ∨ _ by rw [← ev, ← eG]; exact Or.inr (Or.inr (Or.inl ⟨(by simp [okPack, c2, n2, c7, n7, k15, k24]), hcc, c46, by rw [hgd, k172, k180]; simpa using k201, rfl, ⟨_, ((((v).1) + (((v).2.1) - gr.toInt64)) + size.toInt64, (v).2.1, (v).2.2.1, gr.toInt64, (v).2.2.2.2.1, (v).2.2.2.2.2), hq613, hq614, hq615⟩, fun z z1 z2 z3 => by rw [eg612, hv_up_ne _ _ z1, ho9549 _ z1, eg547, hv_up_ne _ _ z1, ho9529 _ z1, eg527, hv_up_ne _ _ z1, eg270, hv_up_ne _ _ z1]; exact hfo z z1 z2 z3⟩)))) (by decide) (by decide) d_Mo_pack_210
                            · skip
                              refine lv_iload_n hx hb d_Mo_pack_153 rfl (lv_at hl 3 rfl) ?_
                              refine lv_i2l (v := size.toInt64) hx hb d_Mo_pack_154 rfl ?_
                              refine lv_aload_n hx hb d_Mo_pack_155 rfl (lv_at hl 0 rfl) ?_
                              refine hv_get hE k_Mo hI 19 (by decide) w535 hg529 rfl d_Mo_pack_156 ?_
                              refine lv_lsub hx hb d_Mo_pack_159 ?_
                              refine lv_goto (tgt := 165) hx hb d_Mo_pack_160 (by decide) ?_
                              refine lv_lstore (lv' := [(5, .long (size.toInt64 - (((v).1) + (((v).2.1) - gr.toInt64)))), (0, .ref mo), (1, .int (b2i bel)), (2, .int how), (3, .int size), (4, .int gr)]) hx hb d_Mo_pack_165 hl (by decide) rfl (fun ls hl => ?_)
                              have hln : lnM bel gr v = ((v).1) + (((v).2.1) - gr.toInt64) := by simp only [lnM, k99, n118, and_true, true_and, and_false, false_and, if_true, if_false, Bool.false_eq_true]
                              have hun : unM bel gr v = gr.toInt64 := by simp only [unM, k99, n118, if_true, if_false, Bool.false_eq_true]
                              have hex : exM how size (((v).1) + (((v).2.1) - gr.toInt64)) = size.toInt64 - (((v).1) + (((v).2.1) - gr.toInt64)) := by simp only [exM, c141, c150, if_true, if_false, show ¬ (1 : Int32) = 0 from by decide]
                              have hgd : (G && gdM bel how size gr v) = ((G && sz (((v).1) + (((v).2.1) - gr.toInt64))) && sz (size.toInt64 - (((v).1) + (((v).2.1) - gr.toInt64))) && sz ((((v).1) + (((v).2.1) - gr.toInt64)) + (size.toInt64 - (((v).1) + (((v).2.1) - gr.toInt64))))) := by simp only [gdM, hln, hex]; simp [k99, n118, Bool.and_assoc]
                              refine lv_aload_n hx hb d_Mo_pack_167 rfl (lv_at hl 1 rfl) ?_
                              refine lv_aload_n hx hb d_Mo_pack_168 rfl (lv_at hl 1 rfl) ?_
                              refine hv_get hE k_Mo hI 18 (by decide) w534 hg529 rfl d_Mo_pack_169 ?_
                              refine lv_if_eq (tgt := 187) hx hb d_Mo_pack_172 (by decide) (fun c172 => ?_) (fun c172 => ?_)
                              · skip
                                have k172 := b2i_f c172
                                refine lv_iconst (v := 0) hx hb d_Mo_pack_187 (by decide) ?_
                                refine hv_put hE k_Mo hI 18 (by decide) w534 hg529 rfl rfl rfl (Nat.le_of_ble_eq_true rfl) d_Mo_pack_188 (fun H locs hI => ?_)
                                obtain ⟨g616, eg616⟩ : ∃ z : hv_M, z = hv_up g530 mo (moE a 0 (nI s9) (nI e9) (nI c9) false (((v).1) + (((v).2.1) - gr.toInt64)) ((v).2.1) ((v).2.2.1) gr.toInt64 md) := ⟨_, rfl⟩
                                have hI : hv_I D CL b0 g616 s.heap H locs := by rw [eg616]; exact hI
                                have hq617 : g616 mo = some (moE a 0 (nI s9) (nI e9) (nI c9) false (((v).1) + (((v).2.1) - gr.toInt64)) ((v).2.1) ((v).2.2.1) gr.toInt64 md) := by rw [eg616]; exact hv_up_self _ _ _
                                refine lv_aload_n hx hb d_Mo_pack_191 rfl (lv_at hl 1 rfl) ?_
                                refine lv_lload hx hb d_Mo_pack_192 (lv_at hl 0 rfl) ?_
                                refine hv_V (As := [.long (size.toInt64 - (((v).1) + (((v).2.1) - gr.toInt64)))]) (rest := []) hE hml hK hI (c_Mo_grow l hl0 b0 D cA g616 mo a 0 (nI s9) (nI e9) (nI c9) false (((v).1) + (((v).2.1) - gr.toInt64)) ((v).2.1) ((v).2.2.1) gr.toInt64 md (size.toInt64 - (((v).1) + (((v).2.1) - gr.toInt64))) hq617 hnj) cd_Mo_grow w684 w686 ws26 hq617 rfl rfl hl.1 (Nat.le_of_ble_eq_true rfl) d_Mo_pack_194 ⟨by decide, by decide⟩ ⟨by decide, by decide⟩ (fun v9 g619 H locs hp hI => ?_) (fun q9 E9 ce9 g9 H locs hp => hp.elim)
                                obtain ⟨hv, hg618, ho9618⟩ := hp
                                rw [hv]
                                refine W.eq (g2 := F0 m 197 ls []) rfl ?_
                                refine lv_aload_n hx hb d_Mo_pack_197 rfl (lv_at hl 1 rfl) ?_
                                refine hv_get hE k_Mo hI 18 (by decide) w534 hg618 rfl d_Mo_pack_198 ?_
                                refine lv_if_ne (tgt := 211) hx hb d_Mo_pack_201 (by decide) (fun c201 => ?_) (fun c201 => ?_)
                                · skip
                                  have k201 := b2i_t c201
                                  exact absurd k201 (by simp)
                                · skip
                                  have k201 := b2i_f c201
                                  refine lv_aload_n hx hb d_Mo_pack_204 rfl (lv_at hl 1 rfl) ?_
                                  refine lv_iconst (v := 3) hx hb d_Mo_pack_205 (by decide) ?_
                                  refine hv_put hE k_Mo hI 0 (by decide) w516 hg618 rfl rfl rfl (Nat.le_of_ble_eq_true rfl) d_Mo_pack_206 (fun H locs hI => ?_)
                                  obtain ⟨g620, eg620⟩ : ∃ z : hv_M, z = hv_up g619 mo (moE a 3 (nI s9) (nI e9) (nI c9) (false && sz ((((v).1) + (((v).2.1) - gr.toInt64)) + (size.toInt64 - (((v).1) + (((v).2.1) - gr.toInt64))))) ((((v).1) + (((v).2.1) - gr.toInt64)) + (size.toInt64 - (((v).1) + (((v).2.1) - gr.toInt64)))) ((v).2.1) ((v).2.2.1) gr.toInt64 md) := ⟨_, rfl⟩
                                  have hI : hv_I D CL b0 g620 s.heap H locs := by rw [eg620]; exact hI
                                  have hq621 : g620 mo = some (moE a 3 (nI s9) (nI e9) (nI c9) (false && sz ((((v).1) + (((v).2.1) - gr.toInt64)) + (size.toInt64 - (((v).1) + (((v).2.1) - gr.toInt64))))) ((((v).1) + (((v).2.1) - gr.toInt64)) + (size.toInt64 - (((v).1) + (((v).2.1) - gr.toInt64)))) ((v).2.1) ((v).2.2.1) gr.toInt64 md) := by rw [eg620]; exact hv_up_self _ _ _
                                  refine lv_iconst (v := 0) hx hb d_Mo_pack_209 (by decide) ?_
                                  have hq622 : g620 (a 14) = some (.inl (cA 1, 4, .inr (.inl (v).2.2.2.2.1))) := by rw [eg620, hv_up_ne _ _ (hnj.2 14 (by decide)), ho9618 _ (hnj.2 14 (by decide)), eg616, hv_up_ne _ _ (hnj.2 14 (by decide)), ho9529 _ (hnj.2 14 (by decide)), eg527, hv_up_ne _ _ (hnj.2 14 (by decide)), eg270, hv_up_ne _ _ (hnj.2 14 (by decide))]; exact hs.2.1
                                  have hq623 : g620 (a 15) = some (.inl (cA 1, 4, .inr (.inl (v).2.2.2.2.2))) := by rw [eg620, hv_up_ne _ _ (hnj.2 15 (by decide)), ho9618 _ (hnj.2 15 (by decide)), eg616, hv_up_ne _ _ (hnj.2 15 (by decide)), ho9529 _ (hnj.2 15 (by decide)), eg527, hv_up_ne _ _ (hnj.2 15 (by decide)), eg270, hv_up_ne _ _ (hnj.2 15 (by decide))]; exact hs.2.2
                                  exact hv_iret hE hr hlocks hI hK (v := 0) ((show _ ∨ _ by rw [← ev, ← eG]; exact Or.inr (Or.inr (Or.inl ⟨(by simp [okPack, c2, n2, c7, n7, k15, k24]), hcc, c46, by rw [hgd]; simp [k172], rfl, ⟨_, ((((v).1) + (((v).2.1) - gr.toInt64)) + (size.toInt64 - (((v).1) + (((v).2.1) - gr.toInt64))), (v).2.1, (v).2.2.1, gr.toInt64, (v).2.2.2.2.1, (v).2.2.2.2.2), hq621, hq622, hq623⟩, fun z z1 z2 z3 => by rw [eg620, hv_up_ne _ _ z1, ho9618 _ z1, eg616, hv_up_ne _ _ z1, ho9529 _ z1, eg527, hv_up_ne _ _ z1, eg270, hv_up_ne _ _ z1]; exact hfo z z1 z2 z3⟩)))) (by decide) (by decide) d_Mo_pack_210
                              · skip
                                have k172 := b2i_t c172
                                refine lv_lload hx hb d_Mo_pack_175 (lv_at hl 0 rfl) ?_
                                refine hv_Sp (As := [.long (size.toInt64 - (((v).1) + (((v).2.1) - gr.toInt64)))]) (rest := [.ref mo]) hE hml hK hI (c_Mo_isSize l hl0 b0 D cA g530 (size.toInt64 - (((v).1) + (((v).2.1) - gr.toInt64)))) cd_Mo_isSize w608 w609 rfl rfl rfl hl.1 (Nat.le_of_ble_eq_true rfl) d_Mo_pack_177 ⟨by decide, by decide⟩ ⟨by decide, by decide⟩ (fun H locs hI => ?_)
                                refine W.eq (g2 := F0 m 180 ls [.int (b2i (sz (size.toInt64 - (((v).1) + (((v).2.1) - gr.toInt64))))), .ref mo]) rfl ?_
                                refine lv_if_eq (tgt := 187) hx hb d_Mo_pack_180 (by decide) (fun c180 => ?_) (fun c180 => ?_)
                                · skip
                                  have k180 := b2i_f c180
                                  refine lv_iconst (v := 0) hx hb d_Mo_pack_187 (by decide) ?_
                                  refine hv_put hE k_Mo hI 18 (by decide) w534 hg529 rfl rfl rfl (Nat.le_of_ble_eq_true rfl) d_Mo_pack_188 (fun H locs hI => ?_)
                                  obtain ⟨g624, eg624⟩ : ∃ z : hv_M, z = hv_up g530 mo (moE a 0 (nI s9) (nI e9) (nI c9) false (((v).1) + (((v).2.1) - gr.toInt64)) ((v).2.1) ((v).2.2.1) gr.toInt64 md) := ⟨_, rfl⟩
                                  have hI : hv_I D CL b0 g624 s.heap H locs := by rw [eg624]; exact hI
                                  have hq625 : g624 mo = some (moE a 0 (nI s9) (nI e9) (nI c9) false (((v).1) + (((v).2.1) - gr.toInt64)) ((v).2.1) ((v).2.2.1) gr.toInt64 md) := by rw [eg624]; exact hv_up_self _ _ _
                                  refine lv_aload_n hx hb d_Mo_pack_191 rfl (lv_at hl 1 rfl) ?_
                                  refine lv_lload hx hb d_Mo_pack_192 (lv_at hl 0 rfl) ?_
                                  refine hv_V (As := [.long (size.toInt64 - (((v).1) + (((v).2.1) - gr.toInt64)))]) (rest := []) hE hml hK hI (c_Mo_grow l hl0 b0 D cA g624 mo a 0 (nI s9) (nI e9) (nI c9) false (((v).1) + (((v).2.1) - gr.toInt64)) ((v).2.1) ((v).2.2.1) gr.toInt64 md (size.toInt64 - (((v).1) + (((v).2.1) - gr.toInt64))) hq625 hnj) cd_Mo_grow w684 w686 ws26 hq625 rfl rfl hl.1 (Nat.le_of_ble_eq_true rfl) d_Mo_pack_194 ⟨by decide, by decide⟩ ⟨by decide, by decide⟩ (fun v9 g627 H locs hp hI => ?_) (fun q9 E9 ce9 g9 H locs hp => hp.elim)
                                  obtain ⟨hv, hg626, ho9626⟩ := hp
                                  rw [hv]
                                  refine W.eq (g2 := F0 m 197 ls []) rfl ?_
                                  refine lv_aload_n hx hb d_Mo_pack_197 rfl (lv_at hl 1 rfl) ?_
                                  refine hv_get hE k_Mo hI 18 (by decide) w534 hg626 rfl d_Mo_pack_198 ?_
                                  refine lv_if_ne (tgt := 211) hx hb d_Mo_pack_201 (by decide) (fun c201 => ?_) (fun c201 => ?_)
                                  · skip
                                    have k201 := b2i_t c201
                                    exact absurd k201 (by simp)
                                  · skip
                                    have k201 := b2i_f c201
                                    refine lv_aload_n hx hb d_Mo_pack_204 rfl (lv_at hl 1 rfl) ?_
                                    refine lv_iconst (v := 3) hx hb d_Mo_pack_205 (by decide) ?_
                                    refine hv_put hE k_Mo hI 0 (by decide) w516 hg626 rfl rfl rfl (Nat.le_of_ble_eq_true rfl) d_Mo_pack_206 (fun H locs hI => ?_)
                                    obtain ⟨g628, eg628⟩ : ∃ z : hv_M, z = hv_up g627 mo (moE a 3 (nI s9) (nI e9) (nI c9) (false && sz ((((v).1) + (((v).2.1) - gr.toInt64)) + (size.toInt64 - (((v).1) + (((v).2.1) - gr.toInt64))))) ((((v).1) + (((v).2.1) - gr.toInt64)) + (size.toInt64 - (((v).1) + (((v).2.1) - gr.toInt64)))) ((v).2.1) ((v).2.2.1) gr.toInt64 md) := ⟨_, rfl⟩
                                    have hI : hv_I D CL b0 g628 s.heap H locs := by rw [eg628]; exact hI
                                    have hq629 : g628 mo = some (moE a 3 (nI s9) (nI e9) (nI c9) (false && sz ((((v).1) + (((v).2.1) - gr.toInt64)) + (size.toInt64 - (((v).1) + (((v).2.1) - gr.toInt64))))) ((((v).1) + (((v).2.1) - gr.toInt64)) + (size.toInt64 - (((v).1) + (((v).2.1) - gr.toInt64)))) ((v).2.1) ((v).2.2.1) gr.toInt64 md) := by rw [eg628]; exact hv_up_self _ _ _
                                    refine lv_iconst (v := 0) hx hb d_Mo_pack_209 (by decide) ?_
                                    have hq630 : g628 (a 14) = some (.inl (cA 1, 4, .inr (.inl (v).2.2.2.2.1))) := by rw [eg628, hv_up_ne _ _ (hnj.2 14 (by decide)), ho9626 _ (hnj.2 14 (by decide)), eg624, hv_up_ne _ _ (hnj.2 14 (by decide)), ho9529 _ (hnj.2 14 (by decide)), eg527, hv_up_ne _ _ (hnj.2 14 (by decide)), eg270, hv_up_ne _ _ (hnj.2 14 (by decide))]; exact hs.2.1
                                    have hq631 : g628 (a 15) = some (.inl (cA 1, 4, .inr (.inl (v).2.2.2.2.2))) := by rw [eg628, hv_up_ne _ _ (hnj.2 15 (by decide)), ho9626 _ (hnj.2 15 (by decide)), eg624, hv_up_ne _ _ (hnj.2 15 (by decide)), ho9529 _ (hnj.2 15 (by decide)), eg527, hv_up_ne _ _ (hnj.2 15 (by decide)), eg270, hv_up_ne _ _ (hnj.2 15 (by decide))]; exact hs.2.2
                                    exact hv_iret hE hr hlocks hI hK (v := 0) ((show _ ∨ _ by rw [← ev, ← eG]; exact Or.inr (Or.inr (Or.inl ⟨(by simp [okPack, c2, n2, c7, n7, k15, k24]), hcc, c46, by rw [hgd]; simp [k172, k180], rfl, ⟨_, ((((v).1) + (((v).2.1) - gr.toInt64)) + (size.toInt64 - (((v).1) + (((v).2.1) - gr.toInt64))), (v).2.1, (v).2.2.1, gr.toInt64, (v).2.2.2.2.1, (v).2.2.2.2.2), hq629, hq630, hq631⟩, fun z z1 z2 z3 => by rw [eg628, hv_up_ne _ _ z1, ho9626 _ z1, eg624, hv_up_ne _ _ z1, ho9529 _ z1, eg527, hv_up_ne _ _ z1, eg270, hv_up_ne _ _ z1]; exact hfo z z1 z2 z3⟩)))) (by decide) (by decide) d_Mo_pack_210
                                · skip
                                  have k180 := b2i_t c180
                                  refine lv_iconst (v := 1) hx hb d_Mo_pack_183 (by decide) ?_
                                  refine lv_goto (tgt := 188) hx hb d_Mo_pack_184 (by decide) ?_
                                  refine hv_put hE k_Mo hI 18 (by decide) w534 hg529 rfl rfl rfl (Nat.le_of_ble_eq_true rfl) d_Mo_pack_188 (fun H locs hI => ?_)
                                  obtain ⟨g632, eg632⟩ : ∃ z : hv_M, z = hv_up g530 mo (moE a 0 (nI s9) (nI e9) (nI c9) true (((v).1) + (((v).2.1) - gr.toInt64)) ((v).2.1) ((v).2.2.1) gr.toInt64 md) := ⟨_, rfl⟩
                                  have hI : hv_I D CL b0 g632 s.heap H locs := by rw [eg632]; exact hI
                                  have hq633 : g632 mo = some (moE a 0 (nI s9) (nI e9) (nI c9) true (((v).1) + (((v).2.1) - gr.toInt64)) ((v).2.1) ((v).2.2.1) gr.toInt64 md) := by rw [eg632]; exact hv_up_self _ _ _
                                  refine lv_aload_n hx hb d_Mo_pack_191 rfl (lv_at hl 1 rfl) ?_
                                  refine lv_lload hx hb d_Mo_pack_192 (lv_at hl 0 rfl) ?_
                                  refine hv_V (As := [.long (size.toInt64 - (((v).1) + (((v).2.1) - gr.toInt64)))]) (rest := []) hE hml hK hI (c_Mo_grow l hl0 b0 D cA g632 mo a 0 (nI s9) (nI e9) (nI c9) true (((v).1) + (((v).2.1) - gr.toInt64)) ((v).2.1) ((v).2.2.1) gr.toInt64 md (size.toInt64 - (((v).1) + (((v).2.1) - gr.toInt64))) hq633 hnj) cd_Mo_grow w684 w686 ws26 hq633 rfl rfl hl.1 (Nat.le_of_ble_eq_true rfl) d_Mo_pack_194 ⟨by decide, by decide⟩ ⟨by decide, by decide⟩ (fun v9 g635 H locs hp hI => ?_) (fun q9 E9 ce9 g9 H locs hp => hp.elim)
                                  obtain ⟨hv, hg634, ho9634⟩ := hp
                                  rw [hv]
                                  refine W.eq (g2 := F0 m 197 ls []) rfl ?_
                                  refine lv_aload_n hx hb d_Mo_pack_197 rfl (lv_at hl 1 rfl) ?_
                                  refine hv_get hE k_Mo hI 18 (by decide) w534 hg634 rfl d_Mo_pack_198 ?_
                                  refine lv_if_ne (tgt := 211) hx hb d_Mo_pack_201 (by decide) (fun c201 => ?_) (fun c201 => ?_)
                                  · skip
                                    have k201 := b2i_t c201
                                    refine lv_aload_n hx hb d_Mo_pack_211 rfl (lv_at hl 1 rfl) ?_
                                    refine hv_get hE k_Mo hI 5 (by decide) w521 hg634 rfl d_Mo_pack_212 ?_
                                    refine lv_istore (lv' := [(7, .int (nI c9)), (5, .long (size.toInt64 - (((v).1) + (((v).2.1) - gr.toInt64)))), (0, .ref mo), (1, .int (b2i bel)), (2, .int how), (3, .int size), (4, .int gr)]) hx hb d_Mo_pack_215 hl (by decide) rfl (fun ls hl => ?_)
                                    refine lv_aload_n hx hb d_Mo_pack_217 rfl (lv_at hl 2 rfl) ?_
                                    refine lv_iload hx hb d_Mo_pack_218 (lv_at hl 0 rfl) ?_
                                    refine lv_lload hx hb d_Mo_pack_220 (lv_at hl 1 rfl) ?_
                                    have hq636 : g635 (a 14) = some (.inl (cA 1, 4, .inr (.inl (v).2.2.2.2.1))) := by rw [ho9634 _ (hnj.2 14 (by decide)), eg632, hv_up_ne _ _ (hnj.2 14 (by decide)), ho9529 _ (hnj.2 14 (by decide)), eg527, hv_up_ne _ _ (hnj.2 14 (by decide)), eg270, hv_up_ne _ _ (hnj.2 14 (by decide))]; exact hs.2.1
                                    have hq637 : g635 (a 15) = some (.inl (cA 1, 4, .inr (.inl (v).2.2.2.2.2))) := by rw [ho9634 _ (hnj.2 15 (by decide)), eg632, hv_up_ne _ _ (hnj.2 15 (by decide)), ho9529 _ (hnj.2 15 (by decide)), eg527, hv_up_ne _ _ (hnj.2 15 (by decide)), eg270, hv_up_ne _ _ (hnj.2 15 (by decide))]; exact hs.2.2
                                    have hA638 : moA cA g635 a V := ⟨by rw [ho9634 _ (hnj.2 0 (by decide)), eg632, hv_up_ne _ _ (hnj.2 0 (by decide)), ho9529 _ (hnj.2 0 (by decide)), eg527, hv_up_ne _ _ (hnj.2 0 (by decide)), eg270, hv_up_ne _ _ (hnj.2 0 (by decide))]; exact hAg.1, by rw [ho9634 _ (hnj.2 1 (by decide)), eg632, hv_up_ne _ _ (hnj.2 1 (by decide)), ho9529 _ (hnj.2 1 (by decide)), eg527, hv_up_ne _ _ (hnj.2 1 (by decide)), eg270, hv_up_ne _ _ (hnj.2 1 (by decide))]; exact hAg.2.1, by rw [ho9634 _ (hnj.2 2 (by decide)), eg632, hv_up_ne _ _ (hnj.2 2 (by decide)), ho9529 _ (hnj.2 2 (by decide)), eg527, hv_up_ne _ _ (hnj.2 2 (by decide)), eg270, hv_up_ne _ _ (hnj.2 2 (by decide))]; exact hAg.2.2.1, by rw [ho9634 _ (hnj.2 3 (by decide)), eg632, hv_up_ne _ _ (hnj.2 3 (by decide)), ho9529 _ (hnj.2 3 (by decide)), eg527, hv_up_ne _ _ (hnj.2 3 (by decide)), eg270, hv_up_ne _ _ (hnj.2 3 (by decide))]; exact hAg.2.2.2.1, fun j9 hj9 => by rw [ho9634 _ (hnj.2 (4 + j9) (by omega)), eg632, hv_up_ne _ _ (hnj.2 (4 + j9) (by omega)), ho9529 _ (hnj.2 (4 + j9) (by omega)), eg527, hv_up_ne _ _ (hnj.2 (4 + j9) (by omega)), eg270, hv_up_ne _ _ (hnj.2 (4 + j9) (by omega))]; exact hAg.2.2.2.2 j9 hj9⟩
                                    refine hv_V (As := [.int (nI c9), .long (size.toInt64 - (((v).1) + (((v).2.1) - gr.toInt64)))]) (rest := []) hE hml hK hI (c_Mo_setGlue l hl0 b0 D cA g635 mo a 0 (nI s9) (nI e9) (nI c9) (true && sz ((((v).1) + (((v).2.1) - gr.toInt64)) + (size.toInt64 - (((v).1) + (((v).2.1) - gr.toInt64))))) ((((v).1) + (((v).2.1) - gr.toInt64)) + (size.toInt64 - (((v).1) + (((v).2.1) - gr.toInt64)))) ((v).2.1) ((v).2.2.1) gr.toInt64 md V ((v).2.2.2.2.1) ((v).2.2.2.2.2) (size.toInt64 - (((v).1) + (((v).2.1) - gr.toInt64))) c9 hg634 hnj hA638 hq636 hq637 (by omega)) cd_Mo_setGlue w700 w702 ws30 hg634 rfl rfl hl.1 (Nat.le_of_ble_eq_true rfl) d_Mo_pack_222 ⟨by decide, by decide⟩ ⟨by decide, by decide⟩ (fun v9 g640 H locs hp hI => ?_) (fun q9 E9 ce9 g9 H locs hp => hp.elim)
                                    obtain ⟨hv, ha639, hb639, hc639, hd639, he639, ho9639⟩ := hp
                                    rw [hv]
                                    refine W.eq (g2 := F0 m 225 ls []) rfl ?_
                                    refine lv_aload_n hx hb d_Mo_pack_225 rfl (lv_at hl 2 rfl) ?_
                                    have hq641 : g640 mo = some (moE a 0 (nI s9) (nI e9) (nI c9) (true && sz ((((v).1) + (((v).2.1) - gr.toInt64)) + (size.toInt64 - (((v).1) + (((v).2.1) - gr.toInt64))))) ((((v).1) + (((v).2.1) - gr.toInt64)) + (size.toInt64 - (((v).1) + (((v).2.1) - gr.toInt64)))) ((v).2.1) ((v).2.2.1) gr.toInt64 md) := by rw [ho9639 _ (Ne.symm (hnj.2 7 (by decide))) (Ne.symm (hnj.2 8 (by decide))) (Ne.symm (hnj.2 9 (by decide))) (Ne.symm (hnj.2 10 (by decide))) (Ne.symm (hnj.2 11 (by decide)))]; exact hg634
                                    refine hv_get hE k_Mo hI 6 (by decide) w522 hq641 rfl d_Mo_pack_226 ?_
                                    refine lv_iload hx hb d_Mo_pack_229 (lv_at hl 0 rfl) ?_
                                    refine lv_aload_n hx hb d_Mo_pack_231 rfl (lv_at hl 2 rfl) ?_
                                    refine hv_get hE k_Mo hI 3 (by decide) w519 hq641 rfl d_Mo_pack_232 ?_
                                    have hq642 : g640 (a 2) = some (.inl (cA 0, 101, .inl (fun b => nI (wF V b)))) := by rw [ho9639 _ (hnj.1 2 7 (by decide) (by decide) (by decide)) (hnj.1 2 8 (by decide) (by decide) (by decide)) (hnj.1 2 9 (by decide) (by decide) (by decide)) (hnj.1 2 10 (by decide) (by decide) (by decide)) (hnj.1 2 11 (by decide) (by decide) (by decide)), ho9634 _ (hnj.2 2 (by decide)), eg632, hv_up_ne _ _ (hnj.2 2 (by decide)), ho9529 _ (hnj.2 2 (by decide)), eg527, hv_up_ne _ _ (hnj.2 2 (by decide)), eg270, hv_up_ne _ _ (hnj.2 2 (by decide))]; exact hAg.2.2.1
                                    refine hv_iast hE hI 0 hq642 rfl (pk_in c9 101 (by omega) rfl (by omega)) d_Mo_pack_235 (fun H locs hI => ?_)
                                    rw [nI_cl (by omega)] at hI
                                    obtain ⟨g643, eg643⟩ : ∃ z : hv_M, z = hv_up g640 (a 2) (.inl (cA 0, 101, .inl (upd (fun b => nI (wF V b)) c9 (nI s9)))) := ⟨_, rfl⟩
                                    have hI : hv_I D CL b0 g643 s.heap H locs := by rw [eg643]; exact hI
                                    have hq644 : g643 (a 2) = some (.inl (cA 0, 101, .inl (upd (fun b => nI (wF V b)) c9 (nI s9)))) := by rw [eg643]; exact hv_up_self _ _ _
                                    refine lv_aload_n hx hb d_Mo_pack_236 rfl (lv_at hl 2 rfl) ?_
                                    have hq645 : g643 mo = some (moE a 0 (nI s9) (nI e9) (nI c9) (true && sz ((((v).1) + (((v).2.1) - gr.toInt64)) + (size.toInt64 - (((v).1) + (((v).2.1) - gr.toInt64))))) ((((v).1) + (((v).2.1) - gr.toInt64)) + (size.toInt64 - (((v).1) + (((v).2.1) - gr.toInt64)))) ((v).2.1) ((v).2.2.1) gr.toInt64 md) := by rw [eg643, hv_up_ne _ _ (Ne.symm (hnj.2 2 (by decide)))]; exact hq641
                                    refine hv_get hE k_Mo hI 7 (by decide) w523 hq645 rfl d_Mo_pack_237 ?_
                                    refine lv_iload hx hb d_Mo_pack_240 (lv_at hl 0 rfl) ?_
                                    refine lv_iload_n hx hb d_Mo_pack_242 rfl (lv_at hl 3 rfl) ?_
                                    have hq646 : g643 (a 3) = some (.inl (cA 2, 100, .inl (fun b => b2i (wB V b)))) := by rw [eg643, hv_up_ne _ _ (hnj.1 3 2 (by decide) (by decide) (by decide)), ho9639 _ (hnj.1 3 7 (by decide) (by decide) (by decide)) (hnj.1 3 8 (by decide) (by decide) (by decide)) (hnj.1 3 9 (by decide) (by decide) (by decide)) (hnj.1 3 10 (by decide) (by decide) (by decide)) (hnj.1 3 11 (by decide) (by decide) (by decide)), ho9634 _ (hnj.2 3 (by decide)), eg632, hv_up_ne _ _ (hnj.2 3 (by decide)), ho9529 _ (hnj.2 3 (by decide)), eg527, hv_up_ne _ _ (hnj.2 3 (by decide)), eg270, hv_up_ne _ _ (hnj.2 3 (by decide))]; exact hAg.2.2.2.1
                                    refine hv_zast hE hI 2 hq646 rfl (pk_in c9 100 (by omega) rfl (by omega)) d_Mo_pack_243 (fun H locs hI => ?_)
                                    rw [nI_cl (by omega)] at hI
                                    obtain ⟨g647, eg647⟩ : ∃ z : hv_M, z = hv_up g643 (a 3) (.inl (cA 2, 100, .inl (upd (fun b => b2i (wB V b)) c9 (b2i bel)))) := ⟨_, rfl⟩
                                    have hI : hv_I D CL b0 g647 s.heap H locs := by rw [eg647]; exact hI
                                    have hq648 : g647 (a 3) = some (.inl (cA 2, 100, .inl (upd (fun b => b2i (wB V b)) c9 (b2i bel)))) := by rw [eg647]; exact hv_up_self _ _ _
                                    refine lv_aload_n hx hb d_Mo_pack_244 rfl (lv_at hl 2 rfl) ?_
                                    have hq649 : g647 mo = some (moE a 0 (nI s9) (nI e9) (nI c9) (true && sz ((((v).1) + (((v).2.1) - gr.toInt64)) + (size.toInt64 - (((v).1) + (((v).2.1) - gr.toInt64))))) ((((v).1) + (((v).2.1) - gr.toInt64)) + (size.toInt64 - (((v).1) + (((v).2.1) - gr.toInt64)))) ((v).2.1) ((v).2.2.1) gr.toInt64 md) := by rw [eg647, hv_up_ne _ _ (Ne.symm (hnj.2 3 (by decide)))]; exact hq645
                                    refine hv_get hE k_Mo hI 8 (by decide) w524 hq649 rfl d_Mo_pack_245 ?_
                                    refine lv_iload hx hb d_Mo_pack_248 (lv_at hl 0 rfl) ?_
                                    refine lv_iload_n hx hb d_Mo_pack_250 rfl (lv_at hl 3 rfl) ?_
                                    refine lv_if_eq (tgt := 261) hx hb d_Mo_pack_251 (by decide) (fun c251 => ?_) (fun c251 => ?_)
                                    · skip
                                      have k251 := b2i_f c251
                                      exact absurd k251 (by rw [k99]; decide)
                                    · skip
                                      have k251 := b2i_t c251
                                      refine lv_aload_n hx hb d_Mo_pack_254 rfl (lv_at hl 2 rfl) ?_
                                      refine hv_get hE k_Mo hI 21 (by decide) w537 hq649 rfl d_Mo_pack_255 ?_
                                      refine lv_goto (tgt := 265) hx hb d_Mo_pack_258 (by decide) ?_
                                      refine lv_l2i (v := ((v).2.2.1).toInt32) hx hb d_Mo_pack_265 rfl ?_
                                      have hq650 : g647 (a 4) = some (.inl (cA 0, 100, .inl (wA V 0))) := by rw [eg647, hv_up_ne _ _ (hnj.1 4 3 (by decide) (by decide) (by decide)), eg643, hv_up_ne _ _ (hnj.1 4 2 (by decide) (by decide) (by decide)), ho9639 _ (hnj.1 4 7 (by decide) (by decide) (by decide)) (hnj.1 4 8 (by decide) (by decide) (by decide)) (hnj.1 4 9 (by decide) (by decide) (by decide)) (hnj.1 4 10 (by decide) (by decide) (by decide)) (hnj.1 4 11 (by decide) (by decide) (by decide)), ho9634 _ (hnj.2 4 (by decide)), eg632, hv_up_ne _ _ (hnj.2 4 (by decide)), ho9529 _ (hnj.2 4 (by decide)), eg527, hv_up_ne _ _ (hnj.2 4 (by decide)), eg270, hv_up_ne _ _ (hnj.2 4 (by decide))]; exact (hAg.2.2.2.2 0 (by decide))
                                      refine hv_iast hE hI 0 hq650 rfl (pk_in c9 100 (by omega) rfl (by omega)) d_Mo_pack_266 (fun H locs hI => ?_)
                                      rw [nI_cl (by omega)] at hI
                                      obtain ⟨g651, eg651⟩ : ∃ z : hv_M, z = hv_up g647 (a 4) (.inl (cA 0, 100, .inl (upd (wA V 0) c9 (((v).2.2.1).toInt32)))) := ⟨_, rfl⟩
                                      have hI : hv_I D CL b0 g651 s.heap H locs := by rw [eg651]; exact hI
                                      have hq652 : g651 (a 4) = some (.inl (cA 0, 100, .inl (upd (wA V 0) c9 (((v).2.2.1).toInt32)))) := by rw [eg651]; exact hv_up_self _ _ _
                                      refine lv_aload_n hx hb d_Mo_pack_267 rfl (lv_at hl 2 rfl) ?_
                                      have hq653 : g651 mo = some (moE a 0 (nI s9) (nI e9) (nI c9) (true && sz ((((v).1) + (((v).2.1) - gr.toInt64)) + (size.toInt64 - (((v).1) + (((v).2.1) - gr.toInt64))))) ((((v).1) + (((v).2.1) - gr.toInt64)) + (size.toInt64 - (((v).1) + (((v).2.1) - gr.toInt64)))) ((v).2.1) ((v).2.2.1) gr.toInt64 md) := by rw [eg651, hv_up_ne _ _ (Ne.symm (hnj.2 4 (by decide)))]; exact hq649
                                      refine hv_get hE k_Mo hI 9 (by decide) w525 hq653 rfl d_Mo_pack_268 ?_
                                      refine lv_iload hx hb d_Mo_pack_271 (lv_at hl 0 rfl) ?_
                                      refine lv_iload_n hx hb d_Mo_pack_273 rfl (lv_at hl 3 rfl) ?_
                                      refine lv_if_eq (tgt := 284) hx hb d_Mo_pack_274 (by decide) (fun c274 => ?_) (fun c274 => ?_)
                                      · skip
                                        have k274 := b2i_f c274
                                        exact absurd k274 (by rw [k99]; decide)
                                      · skip
                                        have k274 := b2i_t c274
                                        refine lv_aload_n hx hb d_Mo_pack_277 rfl (lv_at hl 2 rfl) ?_
                                        refine hv_get hE k_Mo hI 19 (by decide) w535 hq653 rfl d_Mo_pack_278 ?_
                                        refine lv_goto (tgt := 288) hx hb d_Mo_pack_281 (by decide) ?_
                                        refine lv_l2i (v := ((((v).1) + (((v).2.1) - gr.toInt64)) + (size.toInt64 - (((v).1) + (((v).2.1) - gr.toInt64)))).toInt32) hx hb d_Mo_pack_288 rfl ?_
                                        have hq654 : g651 (a 5) = some (.inl (cA 0, 100, .inl (wA V 1))) := by rw [eg651, hv_up_ne _ _ (hnj.1 5 4 (by decide) (by decide) (by decide)), eg647, hv_up_ne _ _ (hnj.1 5 3 (by decide) (by decide) (by decide)), eg643, hv_up_ne _ _ (hnj.1 5 2 (by decide) (by decide) (by decide)), ho9639 _ (hnj.1 5 7 (by decide) (by decide) (by decide)) (hnj.1 5 8 (by decide) (by decide) (by decide)) (hnj.1 5 9 (by decide) (by decide) (by decide)) (hnj.1 5 10 (by decide) (by decide) (by decide)) (hnj.1 5 11 (by decide) (by decide) (by decide)), ho9634 _ (hnj.2 5 (by decide)), eg632, hv_up_ne _ _ (hnj.2 5 (by decide)), ho9529 _ (hnj.2 5 (by decide)), eg527, hv_up_ne _ _ (hnj.2 5 (by decide)), eg270, hv_up_ne _ _ (hnj.2 5 (by decide))]; exact (hAg.2.2.2.2 1 (by decide))
                                        refine hv_iast hE hI 0 hq654 rfl (pk_in c9 100 (by omega) rfl (by omega)) d_Mo_pack_289 (fun H locs hI => ?_)
                                        rw [nI_cl (by omega)] at hI
                                        obtain ⟨g655, eg655⟩ : ∃ z : hv_M, z = hv_up g651 (a 5) (.inl (cA 0, 100, .inl (upd (wA V 1) c9 (((((v).1) + (((v).2.1) - gr.toInt64)) + (size.toInt64 - (((v).1) + (((v).2.1) - gr.toInt64)))).toInt32)))) := ⟨_, rfl⟩
                                        have hI : hv_I D CL b0 g655 s.heap H locs := by rw [eg655]; exact hI
                                        have hq656 : g655 (a 5) = some (.inl (cA 0, 100, .inl (upd (wA V 1) c9 (((((v).1) + (((v).2.1) - gr.toInt64)) + (size.toInt64 - (((v).1) + (((v).2.1) - gr.toInt64)))).toInt32)))) := by rw [eg655]; exact hv_up_self _ _ _
                                        refine lv_aload_n hx hb d_Mo_pack_290 rfl (lv_at hl 2 rfl) ?_
                                        have hq657 : g655 mo = some (moE a 0 (nI s9) (nI e9) (nI c9) (true && sz ((((v).1) + (((v).2.1) - gr.toInt64)) + (size.toInt64 - (((v).1) + (((v).2.1) - gr.toInt64))))) ((((v).1) + (((v).2.1) - gr.toInt64)) + (size.toInt64 - (((v).1) + (((v).2.1) - gr.toInt64)))) ((v).2.1) ((v).2.2.1) gr.toInt64 md) := by rw [eg655, hv_up_ne _ _ (Ne.symm (hnj.2 5 (by decide)))]; exact hq653
                                        refine hv_get hE k_Mo hI 10 (by decide) w526 hq657 rfl d_Mo_pack_291 ?_
                                        refine lv_iload hx hb d_Mo_pack_294 (lv_at hl 0 rfl) ?_
                                        refine lv_aload_n hx hb d_Mo_pack_296 rfl (lv_at hl 2 rfl) ?_
                                        refine hv_get hE k_Mo hI 22 (by decide) w538 hq657 rfl d_Mo_pack_297 ?_
                                        refine lv_l2i (v := gr.toInt64.toInt32) hx hb d_Mo_pack_300 rfl ?_
                                        have hq658 : g655 (a 6) = some (.inl (cA 0, 100, .inl (wA V 2))) := by rw [eg655, hv_up_ne _ _ (hnj.1 6 5 (by decide) (by decide) (by decide)), eg651, hv_up_ne _ _ (hnj.1 6 4 (by decide) (by decide) (by decide)), eg647, hv_up_ne _ _ (hnj.1 6 3 (by decide) (by decide) (by decide)), eg643, hv_up_ne _ _ (hnj.1 6 2 (by decide) (by decide) (by decide)), ho9639 _ (hnj.1 6 7 (by decide) (by decide) (by decide)) (hnj.1 6 8 (by decide) (by decide) (by decide)) (hnj.1 6 9 (by decide) (by decide) (by decide)) (hnj.1 6 10 (by decide) (by decide) (by decide)) (hnj.1 6 11 (by decide) (by decide) (by decide)), ho9634 _ (hnj.2 6 (by decide)), eg632, hv_up_ne _ _ (hnj.2 6 (by decide)), ho9529 _ (hnj.2 6 (by decide)), eg527, hv_up_ne _ _ (hnj.2 6 (by decide)), eg270, hv_up_ne _ _ (hnj.2 6 (by decide))]; exact (hAg.2.2.2.2 2 (by decide))
                                        refine hv_iast hE hI 0 hq658 rfl (pk_in c9 100 (by omega) rfl (by omega)) d_Mo_pack_301 (fun H locs hI => ?_)
                                        rw [nI_cl (by omega)] at hI
                                        obtain ⟨g659, eg659⟩ : ∃ z : hv_M, z = hv_up g655 (a 6) (.inl (cA 0, 100, .inl (upd (wA V 2) c9 gr.toInt64.toInt32))) := ⟨_, rfl⟩
                                        have hI : hv_I D CL b0 g659 s.heap H locs := by rw [eg659]; exact hI
                                        have hq660 : g659 (a 6) = some (.inl (cA 0, 100, .inl (upd (wA V 2) c9 gr.toInt64.toInt32))) := by rw [eg659]; exact hv_up_self _ _ _
                                        refine lv_aload_n hx hb d_Mo_pack_302 rfl (lv_at hl 2 rfl) ?_
                                        have hq661 : g659 mo = some (moE a 0 (nI s9) (nI e9) (nI c9) (true && sz ((((v).1) + (((v).2.1) - gr.toInt64)) + (size.toInt64 - (((v).1) + (((v).2.1) - gr.toInt64))))) ((((v).1) + (((v).2.1) - gr.toInt64)) + (size.toInt64 - (((v).1) + (((v).2.1) - gr.toInt64)))) ((v).2.1) ((v).2.2.1) gr.toInt64 md) := by rw [eg659, hv_up_ne _ _ (Ne.symm (hnj.2 6 (by decide)))]; exact hq657
                                        refine hv_get hE k_Mo hI 16 (by decide) w532 hq661 rfl d_Mo_pack_303 ?_
                                        refine lv_iload hx hb d_Mo_pack_306 (lv_at hl 0 rfl) ?_
                                        refine lv_aload_n hx hb d_Mo_pack_308 rfl (lv_at hl 2 rfl) ?_
                                        have hq662 : g659 (a 0) = some (.inl (cA 0, 10200, .inl (wK V))) := by rw [eg659, hv_up_ne _ _ (hnj.1 0 6 (by decide) (by decide) (by decide)), eg655, hv_up_ne _ _ (hnj.1 0 5 (by decide) (by decide) (by decide)), eg651, hv_up_ne _ _ (hnj.1 0 4 (by decide) (by decide) (by decide)), eg647, hv_up_ne _ _ (hnj.1 0 3 (by decide) (by decide) (by decide)), eg643, hv_up_ne _ _ (hnj.1 0 2 (by decide) (by decide) (by decide)), ho9639 _ (hnj.1 0 7 (by decide) (by decide) (by decide)) (hnj.1 0 8 (by decide) (by decide) (by decide)) (hnj.1 0 9 (by decide) (by decide) (by decide)) (hnj.1 0 10 (by decide) (by decide) (by decide)) (hnj.1 0 11 (by decide) (by decide) (by decide)), ho9634 _ (hnj.2 0 (by decide)), eg632, hv_up_ne _ _ (hnj.2 0 (by decide)), ho9529 _ (hnj.2 0 (by decide)), eg527, hv_up_ne _ _ (hnj.2 0 (by decide)), eg270, hv_up_ne _ _ (hnj.2 0 (by decide))]; exact hAg.1
                                        have hq663 : g659 (a 1) = some (.inl (cA 0, 51000, .inl V.2.1)) := by rw [eg659, hv_up_ne _ _ (hnj.1 1 6 (by decide) (by decide) (by decide)), eg655, hv_up_ne _ _ (hnj.1 1 5 (by decide) (by decide) (by decide)), eg651, hv_up_ne _ _ (hnj.1 1 4 (by decide) (by decide) (by decide)), eg647, hv_up_ne _ _ (hnj.1 1 3 (by decide) (by decide) (by decide)), eg643, hv_up_ne _ _ (hnj.1 1 2 (by decide) (by decide) (by decide)), ho9639 _ (hnj.1 1 7 (by decide) (by decide) (by decide)) (hnj.1 1 8 (by decide) (by decide) (by decide)) (hnj.1 1 9 (by decide) (by decide) (by decide)) (hnj.1 1 10 (by decide) (by decide) (by decide)) (hnj.1 1 11 (by decide) (by decide) (by decide)), ho9634 _ (hnj.2 1 (by decide)), eg632, hv_up_ne _ _ (hnj.2 1 (by decide)), ho9529 _ (hnj.2 1 (by decide)), eg527, hv_up_ne _ _ (hnj.2 1 (by decide)), eg270, hv_up_ne _ _ (hnj.2 1 (by decide))]; exact hAg.2.1
                                        have hq664 : g659 (a 12) = some (.inl (cA 0, 100, .inl (wA V 8))) := by rw [eg659, hv_up_ne _ _ (hnj.1 12 6 (by decide) (by decide) (by decide)), eg655, hv_up_ne _ _ (hnj.1 12 5 (by decide) (by decide) (by decide)), eg651, hv_up_ne _ _ (hnj.1 12 4 (by decide) (by decide) (by decide)), eg647, hv_up_ne _ _ (hnj.1 12 3 (by decide) (by decide) (by decide)), eg643, hv_up_ne _ _ (hnj.1 12 2 (by decide) (by decide) (by decide)), ho9639 _ (hnj.1 12 7 (by decide) (by decide) (by decide)) (hnj.1 12 8 (by decide) (by decide) (by decide)) (hnj.1 12 9 (by decide) (by decide) (by decide)) (hnj.1 12 10 (by decide) (by decide) (by decide)) (hnj.1 12 11 (by decide) (by decide) (by decide)), ho9634 _ (hnj.2 12 (by decide)), eg632, hv_up_ne _ _ (hnj.2 12 (by decide)), ho9529 _ (hnj.2 12 (by decide)), eg527, hv_up_ne _ _ (hnj.2 12 (by decide)), eg270, hv_up_ne _ _ (hnj.2 12 (by decide))]; exact (hAg.2.2.2.2 8 (by decide))
                                        refine hv_Vp (As := []) (rest := [.int (nI c9), .ref (a 12)]) hE hml hK hI (c_Mo_deepest l hl0 b0 D cA g659 mo a 0 s9 e9 (nI c9) (true && sz ((((v).1) + (((v).2.1) - gr.toInt64)) + (size.toInt64 - (((v).1) + (((v).2.1) - gr.toInt64))))) ((((v).1) + (((v).2.1) - gr.toInt64)) + (size.toInt64 - (((v).1) + (((v).2.1) - gr.toInt64)))) ((v).2.1) ((v).2.2.1) gr.toInt64 md V hq661 hnj hq662 hq663 hq664 hse he9 hit) cd_Mo_deepest w660 w662 ws20 hq661 rfl rfl rfl rfl hl.1 (Nat.le_of_ble_eq_true rfl) d_Mo_pack_309 ⟨by decide, by decide⟩ ⟨by decide, by decide⟩ (fun H locs hI => ?_)
                                        refine W.eq (g2 := F0 m 312 ls [.int (dL V s9 (e9 - s9)), .int (nI c9), .ref (a 12)]) rfl ?_
                                        refine lv_iconst (v := 1) hx hb d_Mo_pack_312 (by decide) ?_
                                        refine lv_iadd hx hb d_Mo_pack_313 ?_
                                        refine hv_iast hE hI 0 hq664 rfl (pk_in c9 100 (by omega) rfl (by omega)) d_Mo_pack_314 (fun H locs hI => ?_)
                                        rw [nI_cl (by omega)] at hI
                                        obtain ⟨g665, eg665⟩ : ∃ z : hv_M, z = hv_up g659 (a 12) (.inl (cA 0, 100, .inl (upd (wA V 8) c9 ((dL V s9 (e9 - s9)) + 1)))) := ⟨_, rfl⟩
                                        have hI : hv_I D CL b0 g665 s.heap H locs := by rw [eg665]; exact hI
                                        have hq666 : g665 (a 12) = some (.inl (cA 0, 100, .inl (upd (wA V 8) c9 ((dL V s9 (e9 - s9)) + 1)))) := by rw [eg665]; exact hv_up_self _ _ _
                                        refine lv_aload_n hx hb d_Mo_pack_315 rfl (lv_at hl 2 rfl) ?_
                                        have hq667 : g665 mo = some (moE a 0 (nI s9) (nI e9) (nI c9) (true && sz ((((v).1) + (((v).2.1) - gr.toInt64)) + (size.toInt64 - (((v).1) + (((v).2.1) - gr.toInt64))))) ((((v).1) + (((v).2.1) - gr.toInt64)) + (size.toInt64 - (((v).1) + (((v).2.1) - gr.toInt64)))) ((v).2.1) ((v).2.2.1) gr.toInt64 md) := by rw [eg665, hv_up_ne _ _ (Ne.symm (hnj.2 12 (by decide)))]; exact hq661
                                        refine hv_get hE k_Mo hI 17 (by decide) w533 hq667 rfl d_Mo_pack_316 ?_
                                        refine lv_iload hx hb d_Mo_pack_319 (lv_at hl 0 rfl) ?_
                                        refine lv_aload_n hx hb d_Mo_pack_321 rfl (lv_at hl 2 rfl) ?_
                                        have hq668 : g665 (a 0) = some (.inl (cA 0, 10200, .inl (wK V))) := by rw [eg665, hv_up_ne _ _ (hnj.1 0 12 (by decide) (by decide) (by decide))]; exact hq662
                                        have hq669 : g665 (a 1) = some (.inl (cA 0, 51000, .inl V.2.1)) := by rw [eg665, hv_up_ne _ _ (hnj.1 1 12 (by decide) (by decide) (by decide))]; exact hq663
                                        have hq670 : g665 (a 13) = some (.inl (cA 0, 100, .inl (wA V 9))) := by rw [eg665, hv_up_ne _ _ (hnj.1 13 12 (by decide) (by decide) (by decide)), eg659, hv_up_ne _ _ (hnj.1 13 6 (by decide) (by decide) (by decide)), eg655, hv_up_ne _ _ (hnj.1 13 5 (by decide) (by decide) (by decide)), eg651, hv_up_ne _ _ (hnj.1 13 4 (by decide) (by decide) (by decide)), eg647, hv_up_ne _ _ (hnj.1 13 3 (by decide) (by decide) (by decide)), eg643, hv_up_ne _ _ (hnj.1 13 2 (by decide) (by decide) (by decide)), ho9639 _ (hnj.1 13 7 (by decide) (by decide) (by decide)) (hnj.1 13 8 (by decide) (by decide) (by decide)) (hnj.1 13 9 (by decide) (by decide) (by decide)) (hnj.1 13 10 (by decide) (by decide) (by decide)) (hnj.1 13 11 (by decide) (by decide) (by decide)), ho9634 _ (hnj.2 13 (by decide)), eg632, hv_up_ne _ _ (hnj.2 13 (by decide)), ho9529 _ (hnj.2 13 (by decide)), eg527, hv_up_ne _ _ (hnj.2 13 (by decide)), eg270, hv_up_ne _ _ (hnj.2 13 (by decide))]; exact (hAg.2.2.2.2 9 (by decide))
                                        refine hv_Vp (As := []) (rest := [.int (nI c9), .ref (a 13)]) hE hml hK hI (c_Mo_countAll l hl0 b0 D cA g665 mo a 0 s9 e9 (nI c9) (true && sz ((((v).1) + (((v).2.1) - gr.toInt64)) + (size.toInt64 - (((v).1) + (((v).2.1) - gr.toInt64))))) ((((v).1) + (((v).2.1) - gr.toInt64)) + (size.toInt64 - (((v).1) + (((v).2.1) - gr.toInt64)))) ((v).2.1) ((v).2.2.1) gr.toInt64 md V hq667 hnj hq668 hq669 hq670 hse he9 hit) cd_Mo_countAll w714 w716 ws31 hq667 rfl rfl rfl rfl hl.1 (Nat.le_of_ble_eq_true rfl) d_Mo_pack_322 ⟨by decide, by decide⟩ ⟨by decide, by decide⟩ (fun H locs hI => ?_)
                                        refine W.eq (g2 := F0 m 325 ls [.int (cA9 V s9 (e9 - s9)), .int (nI c9), .ref (a 13)]) rfl ?_
                                        refine hv_iast hE hI 0 hq670 rfl (pk_in c9 100 (by omega) rfl (by omega)) d_Mo_pack_325 (fun H locs hI => ?_)
                                        rw [nI_cl (by omega)] at hI
                                        obtain ⟨g671, eg671⟩ : ∃ z : hv_M, z = hv_up g665 (a 13) (.inl (cA 0, 100, .inl (upd (wA V 9) c9 (cA9 V s9 (e9 - s9))))) := ⟨_, rfl⟩
                                        have hI : hv_I D CL b0 g671 s.heap H locs := by rw [eg671]; exact hI
                                        have hq672 : g671 (a 13) = some (.inl (cA 0, 100, .inl (upd (wA V 9) c9 (cA9 V s9 (e9 - s9))))) := by rw [eg671]; exact hv_up_self _ _ _
                                        refine lv_aload_n hx hb d_Mo_pack_326 rfl (lv_at hl 2 rfl) ?_
                                        refine lv_dup hx hb d_Mo_pack_327 rfl ?_
                                        have hq673 : g671 mo = some (moE a 0 (nI s9) (nI e9) (nI c9) (true && sz ((((v).1) + (((v).2.1) - gr.toInt64)) + (size.toInt64 - (((v).1) + (((v).2.1) - gr.toInt64))))) ((((v).1) + (((v).2.1) - gr.toInt64)) + (size.toInt64 - (((v).1) + (((v).2.1) - gr.toInt64)))) ((v).2.1) ((v).2.2.1) gr.toInt64 md) := by rw [eg671, hv_up_ne _ _ (Ne.symm (hnj.2 13 (by decide)))]; exact hq667
                                        refine hv_get hE k_Mo hI 5 (by decide) w521 hq673 rfl d_Mo_pack_328 ?_
                                        refine lv_iconst (v := 1) hx hb d_Mo_pack_331 (by decide) ?_
                                        refine lv_iadd hx hb d_Mo_pack_332 ?_
                                        refine hv_put hE k_Mo hI 5 (by decide) w521 hq673 rfl rfl rfl (Nat.le_of_ble_eq_true rfl) d_Mo_pack_333 (fun H locs hI => ?_)
                                        obtain ⟨g674, eg674⟩ : ∃ z : hv_M, z = hv_up g671 mo (moE a 0 (nI s9) (nI e9) ((nI c9) + 1) (true && sz ((((v).1) + (((v).2.1) - gr.toInt64)) + (size.toInt64 - (((v).1) + (((v).2.1) - gr.toInt64))))) ((((v).1) + (((v).2.1) - gr.toInt64)) + (size.toInt64 - (((v).1) + (((v).2.1) - gr.toInt64)))) ((v).2.1) ((v).2.2.1) gr.toInt64 md) := ⟨_, rfl⟩
                                        have hI : hv_I D CL b0 g674 s.heap H locs := by rw [eg674]; exact hI
                                        have hq675 : g674 mo = some (moE a 0 (nI s9) (nI e9) ((nI c9) + 1) (true && sz ((((v).1) + (((v).2.1) - gr.toInt64)) + (size.toInt64 - (((v).1) + (((v).2.1) - gr.toInt64))))) ((((v).1) + (((v).2.1) - gr.toInt64)) + (size.toInt64 - (((v).1) + (((v).2.1) - gr.toInt64)))) ((v).2.1) ((v).2.2.1) gr.toInt64 md) := by rw [eg674]; exact hv_up_self _ _ _
                                        refine lv_aload_n hx hb d_Mo_pack_336 rfl (lv_at hl 2 rfl) ?_
                                        refine lv_aload_n hx hb d_Mo_pack_337 rfl (lv_at hl 2 rfl) ?_
                                        refine hv_get hE k_Mo hI 4 (by decide) w520 hq675 rfl d_Mo_pack_338 ?_
                                        refine hv_put hE k_Mo hI 3 (by decide) w519 hq675 rfl rfl rfl (Nat.le_of_ble_eq_true rfl) d_Mo_pack_341 (fun H locs hI => ?_)
                                        obtain ⟨g676, eg676⟩ : ∃ z : hv_M, z = hv_up g674 mo (moE a 0 (nI e9) (nI e9) ((nI c9) + 1) (true && sz ((((v).1) + (((v).2.1) - gr.toInt64)) + (size.toInt64 - (((v).1) + (((v).2.1) - gr.toInt64))))) ((((v).1) + (((v).2.1) - gr.toInt64)) + (size.toInt64 - (((v).1) + (((v).2.1) - gr.toInt64)))) ((v).2.1) ((v).2.2.1) gr.toInt64 md) := ⟨_, rfl⟩
                                        have hI : hv_I D CL b0 g676 s.heap H locs := by rw [eg676]; exact hI
                                        have hq677 : g676 mo = some (moE a 0 (nI e9) (nI e9) ((nI c9) + 1) (true && sz ((((v).1) + (((v).2.1) - gr.toInt64)) + (size.toInt64 - (((v).1) + (((v).2.1) - gr.toInt64))))) ((((v).1) + (((v).2.1) - gr.toInt64)) + (size.toInt64 - (((v).1) + (((v).2.1) - gr.toInt64)))) ((v).2.1) ((v).2.2.1) gr.toInt64 md) := by rw [eg676]; exact hv_up_self _ _ _
                                        refine lv_aload_n hx hb d_Mo_pack_344 rfl (lv_at hl 2 rfl) ?_
                                        refine hv_get hE k_Mo hI 6 (by decide) w522 hq677 rfl d_Mo_pack_345 ?_
                                        refine lv_aload_n hx hb d_Mo_pack_348 rfl (lv_at hl 2 rfl) ?_
                                        refine hv_get hE k_Mo hI 5 (by decide) w521 hq677 rfl d_Mo_pack_349 ?_
                                        refine lv_aload_n hx hb d_Mo_pack_352 rfl (lv_at hl 2 rfl) ?_
                                        refine hv_get hE k_Mo hI 4 (by decide) w520 hq677 rfl d_Mo_pack_353 ?_
                                        have hq678 : g676 (a 2) = some (.inl (cA 0, 101, .inl (upd (fun b => nI (wF V b)) c9 (nI s9)))) := by rw [eg676, hv_up_ne _ _ (hnj.2 2 (by decide)), eg674, hv_up_ne _ _ (hnj.2 2 (by decide)), eg671, hv_up_ne _ _ (hnj.1 2 13 (by decide) (by decide) (by decide)), eg665, hv_up_ne _ _ (hnj.1 2 12 (by decide) (by decide) (by decide)), eg659, hv_up_ne _ _ (hnj.1 2 6 (by decide) (by decide) (by decide)), eg655, hv_up_ne _ _ (hnj.1 2 5 (by decide) (by decide) (by decide)), eg651, hv_up_ne _ _ (hnj.1 2 4 (by decide) (by decide) (by decide)), eg647, hv_up_ne _ _ (hnj.1 2 3 (by decide) (by decide) (by decide))]; exact hq644
                                        refine hv_iast hE hI 0 hq678 rfl (pk_in (c9 + 1) 101 (by omega) (nI_1 c9) (by omega)) d_Mo_pack_356 (fun H locs hI => ?_)
                                        rw [nI_1, nI_cl (by omega)] at hI
                                        obtain ⟨g679, eg679⟩ : ∃ z : hv_M, z = hv_up g676 (a 2) (.inl (cA 0, 101, .inl (upd (upd (fun b => nI (wF V b)) c9 (nI s9)) (c9 + 1) (nI e9)))) := ⟨_, rfl⟩
                                        have hI : hv_I D CL b0 g679 s.heap H locs := by rw [eg679]; exact hI
                                        have hq680 : g679 (a 2) = some (.inl (cA 0, 101, .inl (upd (upd (fun b => nI (wF V b)) c9 (nI s9)) (c9 + 1) (nI e9)))) := by rw [eg679]; exact hv_up_self _ _ _
                                        refine lv_iload hx hb d_Mo_pack_357 (lv_at hl 0 rfl) ?_
                                        have hq681 : g679 mo = some (moE a 0 (nI e9) (nI e9) ((nI c9) + 1) (true && sz ((((v).1) + (((v).2.1) - gr.toInt64)) + (size.toInt64 - (((v).1) + (((v).2.1) - gr.toInt64))))) ((((v).1) + (((v).2.1) - gr.toInt64)) + (size.toInt64 - (((v).1) + (((v).2.1) - gr.toInt64)))) ((v).2.1) ((v).2.2.1) gr.toInt64 md) := by rw [eg679, hv_up_ne _ _ (Ne.symm (hnj.2 2 (by decide)))]; exact hq677
                                        have hq682 : g679 (a 0) = some (.inl (cA 0, 10200, .inl (wK V))) := by rw [eg679, hv_up_ne _ _ (hnj.1 0 2 (by decide) (by decide) (by decide)), eg676, hv_up_ne _ _ (hnj.2 0 (by decide)), eg674, hv_up_ne _ _ (hnj.2 0 (by decide)), eg671, hv_up_ne _ _ (hnj.1 0 13 (by decide) (by decide) (by decide))]; exact hq668
                                        have hq683 : g679 (a 1) = some (.inl (cA 0, 51000, .inl V.2.1)) := by rw [eg679, hv_up_ne _ _ (hnj.1 1 2 (by decide) (by decide) (by decide)), eg676, hv_up_ne _ _ (hnj.2 1 (by decide)), eg674, hv_up_ne _ _ (hnj.2 1 (by decide)), eg671, hv_up_ne _ _ (hnj.1 1 13 (by decide) (by decide) (by decide))]; exact hq669
                                        have hq684 : g679 (a 3) = some (.inl (cA 2, 100, .inl (upd (fun b => b2i (wB V b)) c9 (b2i bel)))) := by rw [eg679, hv_up_ne _ _ (hnj.1 3 2 (by decide) (by decide) (by decide)), eg676, hv_up_ne _ _ (hnj.2 3 (by decide)), eg674, hv_up_ne _ _ (hnj.2 3 (by decide)), eg671, hv_up_ne _ _ (hnj.1 3 13 (by decide) (by decide) (by decide)), eg665, hv_up_ne _ _ (hnj.1 3 12 (by decide) (by decide) (by decide)), eg659, hv_up_ne _ _ (hnj.1 3 6 (by decide) (by decide) (by decide)), eg655, hv_up_ne _ _ (hnj.1 3 5 (by decide) (by decide) (by decide)), eg651, hv_up_ne _ _ (hnj.1 3 4 (by decide) (by decide) (by decide))]; exact hq648
                                        have hq685 : g679 (a 4) = some (.inl (cA 0, 100, .inl (upd (wA V 0) c9 (((v).2.2.1).toInt32)))) := by rw [eg679, hv_up_ne _ _ (hnj.1 4 2 (by decide) (by decide) (by decide)), eg676, hv_up_ne _ _ (hnj.2 4 (by decide)), eg674, hv_up_ne _ _ (hnj.2 4 (by decide)), eg671, hv_up_ne _ _ (hnj.1 4 13 (by decide) (by decide) (by decide)), eg665, hv_up_ne _ _ (hnj.1 4 12 (by decide) (by decide) (by decide)), eg659, hv_up_ne _ _ (hnj.1 4 6 (by decide) (by decide) (by decide)), eg655, hv_up_ne _ _ (hnj.1 4 5 (by decide) (by decide) (by decide))]; exact hq652
                                        have hq686 : g679 (a 5) = some (.inl (cA 0, 100, .inl (upd (wA V 1) c9 (((((v).1) + (((v).2.1) - gr.toInt64)) + (size.toInt64 - (((v).1) + (((v).2.1) - gr.toInt64)))).toInt32)))) := by rw [eg679, hv_up_ne _ _ (hnj.1 5 2 (by decide) (by decide) (by decide)), eg676, hv_up_ne _ _ (hnj.2 5 (by decide)), eg674, hv_up_ne _ _ (hnj.2 5 (by decide)), eg671, hv_up_ne _ _ (hnj.1 5 13 (by decide) (by decide) (by decide)), eg665, hv_up_ne _ _ (hnj.1 5 12 (by decide) (by decide) (by decide)), eg659, hv_up_ne _ _ (hnj.1 5 6 (by decide) (by decide) (by decide))]; exact hq656
                                        have hq687 : g679 (a 6) = some (.inl (cA 0, 100, .inl (upd (wA V 2) c9 gr.toInt64.toInt32))) := by rw [eg679, hv_up_ne _ _ (hnj.1 6 2 (by decide) (by decide) (by decide)), eg676, hv_up_ne _ _ (hnj.2 6 (by decide)), eg674, hv_up_ne _ _ (hnj.2 6 (by decide)), eg671, hv_up_ne _ _ (hnj.1 6 13 (by decide) (by decide) (by decide)), eg665, hv_up_ne _ _ (hnj.1 6 12 (by decide) (by decide) (by decide))]; exact hq660
                                        have hq688 : g679 (a 7) = some (.inl (cA 0, 100, .inl (upd (wA V 3) c9 ((size.toInt64 - (((v).1) + (((v).2.1) - gr.toInt64))).toInt32)))) := by rw [eg679, hv_up_ne _ _ (hnj.1 7 2 (by decide) (by decide) (by decide)), eg676, hv_up_ne _ _ (hnj.2 7 (by decide)), eg674, hv_up_ne _ _ (hnj.2 7 (by decide)), eg671, hv_up_ne _ _ (hnj.1 7 13 (by decide) (by decide) (by decide)), eg665, hv_up_ne _ _ (hnj.1 7 12 (by decide) (by decide) (by decide)), eg659, hv_up_ne _ _ (hnj.1 7 6 (by decide) (by decide) (by decide)), eg655, hv_up_ne _ _ (hnj.1 7 5 (by decide) (by decide) (by decide)), eg651, hv_up_ne _ _ (hnj.1 7 4 (by decide) (by decide) (by decide)), eg647, hv_up_ne _ _ (hnj.1 7 3 (by decide) (by decide) (by decide)), eg643, hv_up_ne _ _ (hnj.1 7 2 (by decide) (by decide) (by decide))]; exact ha639
                                        have hq689 : g679 (a 8) = some (.inl (cA 0, 100, .inl (upd (wA V 4) c9 ((otF (size.toInt64 - (((v).1) + (((v).2.1) - gr.toInt64))) ((v).2.2.2.2.1, (v).2.2.2.2.2)).1)))) := by rw [eg679, hv_up_ne _ _ (hnj.1 8 2 (by decide) (by decide) (by decide)), eg676, hv_up_ne _ _ (hnj.2 8 (by decide)), eg674, hv_up_ne _ _ (hnj.2 8 (by decide)), eg671, hv_up_ne _ _ (hnj.1 8 13 (by decide) (by decide) (by decide)), eg665, hv_up_ne _ _ (hnj.1 8 12 (by decide) (by decide) (by decide)), eg659, hv_up_ne _ _ (hnj.1 8 6 (by decide) (by decide) (by decide)), eg655, hv_up_ne _ _ (hnj.1 8 5 (by decide) (by decide) (by decide)), eg651, hv_up_ne _ _ (hnj.1 8 4 (by decide) (by decide) (by decide)), eg647, hv_up_ne _ _ (hnj.1 8 3 (by decide) (by decide) (by decide)), eg643, hv_up_ne _ _ (hnj.1 8 2 (by decide) (by decide) (by decide))]; exact hb639
                                        have hq690 : g679 (a 9) = some (.inl (cA 0, 100, .inl (upd (wA V 5) c9 ((otF (size.toInt64 - (((v).1) + (((v).2.1) - gr.toInt64))) ((v).2.2.2.2.1, (v).2.2.2.2.2)).2)))) := by rw [eg679, hv_up_ne _ _ (hnj.1 9 2 (by decide) (by decide) (by decide)), eg676, hv_up_ne _ _ (hnj.2 9 (by decide)), eg674, hv_up_ne _ _ (hnj.2 9 (by decide)), eg671, hv_up_ne _ _ (hnj.1 9 13 (by decide) (by decide) (by decide)), eg665, hv_up_ne _ _ (hnj.1 9 12 (by decide) (by decide) (by decide)), eg659, hv_up_ne _ _ (hnj.1 9 6 (by decide) (by decide) (by decide)), eg655, hv_up_ne _ _ (hnj.1 9 5 (by decide) (by decide) (by decide)), eg651, hv_up_ne _ _ (hnj.1 9 4 (by decide) (by decide) (by decide)), eg647, hv_up_ne _ _ (hnj.1 9 3 (by decide) (by decide) (by decide)), eg643, hv_up_ne _ _ (hnj.1 9 2 (by decide) (by decide) (by decide))]; exact hc639
                                        have hq691 : g679 (a 10) = some (.inl (cA 0, 100, .inl (upd (wA V 6) c9 (baM (size.toInt64 - (((v).1) + (((v).2.1) - gr.toInt64))) (otF (size.toInt64 - (((v).1) + (((v).2.1) - gr.toInt64))) ((v).2.2.2.2.1, (v).2.2.2.2.2)))))) := by rw [eg679, hv_up_ne _ _ (hnj.1 10 2 (by decide) (by decide) (by decide)), eg676, hv_up_ne _ _ (hnj.2 10 (by decide)), eg674, hv_up_ne _ _ (hnj.2 10 (by decide)), eg671, hv_up_ne _ _ (hnj.1 10 13 (by decide) (by decide) (by decide)), eg665, hv_up_ne _ _ (hnj.1 10 12 (by decide) (by decide) (by decide)), eg659, hv_up_ne _ _ (hnj.1 10 6 (by decide) (by decide) (by decide)), eg655, hv_up_ne _ _ (hnj.1 10 5 (by decide) (by decide) (by decide)), eg651, hv_up_ne _ _ (hnj.1 10 4 (by decide) (by decide) (by decide)), eg647, hv_up_ne _ _ (hnj.1 10 3 (by decide) (by decide) (by decide)), eg643, hv_up_ne _ _ (hnj.1 10 2 (by decide) (by decide) (by decide))]; exact hd639
                                        have hq692 : g679 (a 11) = some (.inl (cA 0, 100, .inl (upd (wA V 7) c9 (ovM (size.toInt64 - (((v).1) + (((v).2.1) - gr.toInt64))) (otF (size.toInt64 - (((v).1) + (((v).2.1) - gr.toInt64))) ((v).2.2.2.2.1, (v).2.2.2.2.2)))))) := by rw [eg679, hv_up_ne _ _ (hnj.1 11 2 (by decide) (by decide) (by decide)), eg676, hv_up_ne _ _ (hnj.2 11 (by decide)), eg674, hv_up_ne _ _ (hnj.2 11 (by decide)), eg671, hv_up_ne _ _ (hnj.1 11 13 (by decide) (by decide) (by decide)), eg665, hv_up_ne _ _ (hnj.1 11 12 (by decide) (by decide) (by decide)), eg659, hv_up_ne _ _ (hnj.1 11 6 (by decide) (by decide) (by decide)), eg655, hv_up_ne _ _ (hnj.1 11 5 (by decide) (by decide) (by decide)), eg651, hv_up_ne _ _ (hnj.1 11 4 (by decide) (by decide) (by decide)), eg647, hv_up_ne _ _ (hnj.1 11 3 (by decide) (by decide) (by decide)), eg643, hv_up_ne _ _ (hnj.1 11 2 (by decide) (by decide) (by decide))]; exact he639
                                        have hq693 : g679 (a 12) = some (.inl (cA 0, 100, .inl (upd (wA V 8) c9 ((dL V s9 (e9 - s9)) + 1)))) := by rw [eg679, hv_up_ne _ _ (hnj.1 12 2 (by decide) (by decide) (by decide)), eg676, hv_up_ne _ _ (hnj.2 12 (by decide)), eg674, hv_up_ne _ _ (hnj.2 12 (by decide)), eg671, hv_up_ne _ _ (hnj.1 12 13 (by decide) (by decide) (by decide))]; exact hq666
                                        have hq694 : g679 (a 13) = some (.inl (cA 0, 100, .inl (upd (wA V 9) c9 (cA9 V s9 (e9 - s9))))) := by rw [eg679, hv_up_ne _ _ (hnj.1 13 2 (by decide) (by decide) (by decide)), eg676, hv_up_ne _ _ (hnj.2 13 (by decide)), eg674, hv_up_ne _ _ (hnj.2 13 (by decide))]; exact hq672
                                        have hq695 : g679 (a 14) = some (.inl (cA 1, 4, .inr (.inl (v).2.2.2.2.1))) := by rw [eg679, hv_up_ne _ _ (hnj.1 14 2 (by decide) (by decide) (by decide)), eg676, hv_up_ne _ _ (hnj.2 14 (by decide)), eg674, hv_up_ne _ _ (hnj.2 14 (by decide)), eg671, hv_up_ne _ _ (hnj.1 14 13 (by decide) (by decide) (by decide)), eg665, hv_up_ne _ _ (hnj.1 14 12 (by decide) (by decide) (by decide)), eg659, hv_up_ne _ _ (hnj.1 14 6 (by decide) (by decide) (by decide)), eg655, hv_up_ne _ _ (hnj.1 14 5 (by decide) (by decide) (by decide)), eg651, hv_up_ne _ _ (hnj.1 14 4 (by decide) (by decide) (by decide)), eg647, hv_up_ne _ _ (hnj.1 14 3 (by decide) (by decide) (by decide)), eg643, hv_up_ne _ _ (hnj.1 14 2 (by decide) (by decide) (by decide)), ho9639 _ (hnj.1 14 7 (by decide) (by decide) (by decide)) (hnj.1 14 8 (by decide) (by decide) (by decide)) (hnj.1 14 9 (by decide) (by decide) (by decide)) (hnj.1 14 10 (by decide) (by decide) (by decide)) (hnj.1 14 11 (by decide) (by decide) (by decide))]; exact hq636
                                        have hq696 : g679 (a 15) = some (.inl (cA 1, 4, .inr (.inl (v).2.2.2.2.2))) := by rw [eg679, hv_up_ne _ _ (hnj.1 15 2 (by decide) (by decide) (by decide)), eg676, hv_up_ne _ _ (hnj.2 15 (by decide)), eg674, hv_up_ne _ _ (hnj.2 15 (by decide)), eg671, hv_up_ne _ _ (hnj.1 15 13 (by decide) (by decide) (by decide)), eg665, hv_up_ne _ _ (hnj.1 15 12 (by decide) (by decide) (by decide)), eg659, hv_up_ne _ _ (hnj.1 15 6 (by decide) (by decide) (by decide)), eg655, hv_up_ne _ _ (hnj.1 15 5 (by decide) (by decide) (by decide)), eg651, hv_up_ne _ _ (hnj.1 15 4 (by decide) (by decide) (by decide)), eg647, hv_up_ne _ _ (hnj.1 15 3 (by decide) (by decide) (by decide)), eg643, hv_up_ne _ _ (hnj.1 15 2 (by decide) (by decide) (by decide)), ho9639 _ (hnj.1 15 7 (by decide) (by decide) (by decide)) (hnj.1 15 8 (by decide) (by decide) (by decide)) (hnj.1 15 9 (by decide) (by decide) (by decide)) (hnj.1 15 10 (by decide) (by decide) (by decide)) (hnj.1 15 11 (by decide) (by decide) (by decide))]; exact hq637
                                        have hat : atM V bel how size gr s9 (e9 - s9) v = fun j => [(((v).2.2.1).toInt32), (((((v).1) + (((v).2.1) - gr.toInt64)) + (size.toInt64 - (((v).1) + (((v).2.1) - gr.toInt64)))).toInt32), gr.toInt64.toInt32, (size.toInt64 - (((v).1) + (((v).2.1) - gr.toInt64))).toInt32, (otF (size.toInt64 - (((v).1) + (((v).2.1) - gr.toInt64))) ((v).2.2.2.2.1, (v).2.2.2.2.2)).1, (otF (size.toInt64 - (((v).1) + (((v).2.1) - gr.toInt64))) ((v).2.2.2.2.1, (v).2.2.2.2.2)).2, baM (size.toInt64 - (((v).1) + (((v).2.1) - gr.toInt64))) (otF (size.toInt64 - (((v).1) + (((v).2.1) - gr.toInt64))) ((v).2.2.2.2.1, (v).2.2.2.2.2)), ovM (size.toInt64 - (((v).1) + (((v).2.1) - gr.toInt64))) (otF (size.toInt64 - (((v).1) + (((v).2.1) - gr.toInt64))) ((v).2.2.2.2.1, (v).2.2.2.2.2)), ((dL V s9 (e9 - s9)) + 1), (cA9 V s9 (e9 - s9))].getD j 0 := by funext j9; simp only [atM, hln, hex, hun]; simp only [k99, if_true, if_false, Bool.false_eq_true]
                                        exact hv_iret hE hr hlocks hI hK (v := nI c9) ((show _ ∨ _ by rw [← ev, ← eG]; exact Or.inr (Or.inr (Or.inr ⟨(by simp [okPack, c2, n2, c7, n7, k15, k24]), hcc, c46, by rw [hgd, k172, k180]; simpa using k201, rfl, ⟨_, ((((v).1) + (((v).2.1) - gr.toInt64)) + (size.toInt64 - (((v).1) + (((v).2.1) - gr.toInt64))), (v).2.1, (v).2.2.1, gr.toInt64, (v).2.2.2.2.1, (v).2.2.2.2.2), by rw [← nI_1]; exact hq681, hq695, hq696⟩, by rw [hat]; exact ⟨hq682, hq683, by rw [← pkW_F]; exact hq680, by rw [← pkW_B]; exact hq684, fun j hj => match j, hj with | 0, _ => hq685 | 1, _ => hq686 | 2, _ => hq687 | 3, _ => hq688 | 4, _ => hq689 | 5, _ => hq690 | 6, _ => hq691 | 7, _ => hq692 | 8, _ => hq693 | 9, _ => hq694 | j + 10, h9 => absurd h9 (by omega)⟩, fun z z1 hz => by rw [eg679, hv_up_ne _ _ (hz 2 (by decide) (by decide)), eg676, hv_up_ne _ _ z1, eg674, hv_up_ne _ _ z1, eg671, hv_up_ne _ _ (hz 13 (by decide) (by decide)), eg665, hv_up_ne _ _ (hz 12 (by decide) (by decide)), eg659, hv_up_ne _ _ (hz 6 (by decide) (by decide)), eg655, hv_up_ne _ _ (hz 5 (by decide) (by decide)), eg651, hv_up_ne _ _ (hz 4 (by decide) (by decide)), eg647, hv_up_ne _ _ (hz 3 (by decide) (by decide)), eg643, hv_up_ne _ _ (hz 2 (by decide) (by decide)), ho9639 _ (hz 7 (by decide) (by decide)) (hz 8 (by decide) (by decide)) (hz 9 (by decide) (by decide)) (hz 10 (by decide) (by decide)) (hz 11 (by decide) (by decide)), ho9634 _ z1, eg632, hv_up_ne _ _ z1, ho9529 _ z1, eg527, hv_up_ne _ _ z1, eg270, hv_up_ne _ _ z1]; exact hfo z z1 (hz 14 (by decide) (by decide)) (hz 15 (by decide) (by decide))⟩)))) (by decide) (by decide) d_Mo_pack_359
                                  · skip
                                    have k201 := b2i_f c201
                                    refine lv_aload_n hx hb d_Mo_pack_204 rfl (lv_at hl 1 rfl) ?_
                                    refine lv_iconst (v := 3) hx hb d_Mo_pack_205 (by decide) ?_
                                    refine hv_put hE k_Mo hI 0 (by decide) w516 hg634 rfl rfl rfl (Nat.le_of_ble_eq_true rfl) d_Mo_pack_206 (fun H locs hI => ?_)
                                    obtain ⟨g697, eg697⟩ : ∃ z : hv_M, z = hv_up g635 mo (moE a 3 (nI s9) (nI e9) (nI c9) (true && sz ((((v).1) + (((v).2.1) - gr.toInt64)) + (size.toInt64 - (((v).1) + (((v).2.1) - gr.toInt64))))) ((((v).1) + (((v).2.1) - gr.toInt64)) + (size.toInt64 - (((v).1) + (((v).2.1) - gr.toInt64)))) ((v).2.1) ((v).2.2.1) gr.toInt64 md) := ⟨_, rfl⟩
                                    have hI : hv_I D CL b0 g697 s.heap H locs := by rw [eg697]; exact hI
                                    have hq698 : g697 mo = some (moE a 3 (nI s9) (nI e9) (nI c9) (true && sz ((((v).1) + (((v).2.1) - gr.toInt64)) + (size.toInt64 - (((v).1) + (((v).2.1) - gr.toInt64))))) ((((v).1) + (((v).2.1) - gr.toInt64)) + (size.toInt64 - (((v).1) + (((v).2.1) - gr.toInt64)))) ((v).2.1) ((v).2.2.1) gr.toInt64 md) := by rw [eg697]; exact hv_up_self _ _ _
                                    refine lv_iconst (v := 0) hx hb d_Mo_pack_209 (by decide) ?_
                                    have hq699 : g697 (a 14) = some (.inl (cA 1, 4, .inr (.inl (v).2.2.2.2.1))) := by rw [eg697, hv_up_ne _ _ (hnj.2 14 (by decide)), ho9634 _ (hnj.2 14 (by decide)), eg632, hv_up_ne _ _ (hnj.2 14 (by decide)), ho9529 _ (hnj.2 14 (by decide)), eg527, hv_up_ne _ _ (hnj.2 14 (by decide)), eg270, hv_up_ne _ _ (hnj.2 14 (by decide))]; exact hs.2.1
                                    have hq700 : g697 (a 15) = some (.inl (cA 1, 4, .inr (.inl (v).2.2.2.2.2))) := by rw [eg697, hv_up_ne _ _ (hnj.2 15 (by decide)), ho9634 _ (hnj.2 15 (by decide)), eg632, hv_up_ne _ _ (hnj.2 15 (by decide)), ho9529 _ (hnj.2 15 (by decide)), eg527, hv_up_ne _ _ (hnj.2 15 (by decide)), eg270, hv_up_ne _ _ (hnj.2 15 (by decide))]; exact hs.2.2
                                    exact hv_iret hE hr hlocks hI hK (v := 0) ((show _ ∨ _ by rw [← ev, ← eG]; exact Or.inr (Or.inr (Or.inl ⟨(by simp [okPack, c2, n2, c7, n7, k15, k24]), hcc, c46, by rw [hgd, k172, k180]; simpa using k201, rfl, ⟨_, ((((v).1) + (((v).2.1) - gr.toInt64)) + (size.toInt64 - (((v).1) + (((v).2.1) - gr.toInt64))), (v).2.1, (v).2.2.1, gr.toInt64, (v).2.2.2.2.1, (v).2.2.2.2.2), hq698, hq699, hq700⟩, fun z z1 z2 z3 => by rw [eg697, hv_up_ne _ _ z1, ho9634 _ z1, eg632, hv_up_ne _ _ z1, ho9529 _ z1, eg527, hv_up_ne _ _ z1, eg270, hv_up_ne _ _ z1]; exact hfo z z1 z2 z3⟩)))) (by decide) (by decide) d_Mo_pack_210
                          · skip
                            refine lv_lconst (v := 0) hx hb d_Mo_pack_144 (by decide) ?_
                            refine lv_goto (tgt := 165) hx hb d_Mo_pack_145 (by decide) ?_
                            refine lv_lstore (lv' := [(5, .long 0), (0, .ref mo), (1, .int (b2i bel)), (2, .int how), (3, .int size), (4, .int gr)]) hx hb d_Mo_pack_165 hl (by decide) rfl (fun ls hl => ?_)
                            have hln : lnM bel gr v = ((v).1) + (((v).2.1) - gr.toInt64) := by simp only [lnM, k99, n118, and_true, true_and, and_false, false_and, if_true, if_false, Bool.false_eq_true]
                            have hun : unM bel gr v = gr.toInt64 := by simp only [unM, k99, n118, if_true, if_false, Bool.false_eq_true]
                            have hex : exM how size (((v).1) + (((v).2.1) - gr.toInt64)) = 0 := by simp only [exM, c141, if_true, if_false, show ¬ (1 : Int32) = 0 from by decide]
                            have hgd : (G && gdM bel how size gr v) = ((G && sz (((v).1) + (((v).2.1) - gr.toInt64))) && sz (0) && sz ((((v).1) + (((v).2.1) - gr.toInt64)) + 0)) := by simp only [gdM, hln, hex]; simp [k99, n118, Bool.and_assoc]
                            refine lv_aload_n hx hb d_Mo_pack_167 rfl (lv_at hl 1 rfl) ?_
                            refine lv_aload_n hx hb d_Mo_pack_168 rfl (lv_at hl 1 rfl) ?_
                            refine hv_get hE k_Mo hI 18 (by decide) w534 hg529 rfl d_Mo_pack_169 ?_
                            refine lv_if_eq (tgt := 187) hx hb d_Mo_pack_172 (by decide) (fun c172 => ?_) (fun c172 => ?_)
                            · skip
                              have k172 := b2i_f c172
                              refine lv_iconst (v := 0) hx hb d_Mo_pack_187 (by decide) ?_
                              refine hv_put hE k_Mo hI 18 (by decide) w534 hg529 rfl rfl rfl (Nat.le_of_ble_eq_true rfl) d_Mo_pack_188 (fun H locs hI => ?_)
                              obtain ⟨g701, eg701⟩ : ∃ z : hv_M, z = hv_up g530 mo (moE a 0 (nI s9) (nI e9) (nI c9) false (((v).1) + (((v).2.1) - gr.toInt64)) ((v).2.1) ((v).2.2.1) gr.toInt64 md) := ⟨_, rfl⟩
                              have hI : hv_I D CL b0 g701 s.heap H locs := by rw [eg701]; exact hI
                              have hq702 : g701 mo = some (moE a 0 (nI s9) (nI e9) (nI c9) false (((v).1) + (((v).2.1) - gr.toInt64)) ((v).2.1) ((v).2.2.1) gr.toInt64 md) := by rw [eg701]; exact hv_up_self _ _ _
                              refine lv_aload_n hx hb d_Mo_pack_191 rfl (lv_at hl 1 rfl) ?_
                              refine lv_lload hx hb d_Mo_pack_192 (lv_at hl 0 rfl) ?_
                              refine hv_V (As := [.long 0]) (rest := []) hE hml hK hI (c_Mo_grow l hl0 b0 D cA g701 mo a 0 (nI s9) (nI e9) (nI c9) false (((v).1) + (((v).2.1) - gr.toInt64)) ((v).2.1) ((v).2.2.1) gr.toInt64 md 0 hq702 hnj) cd_Mo_grow w684 w686 ws26 hq702 rfl rfl hl.1 (Nat.le_of_ble_eq_true rfl) d_Mo_pack_194 ⟨by decide, by decide⟩ ⟨by decide, by decide⟩ (fun v9 g704 H locs hp hI => ?_) (fun q9 E9 ce9 g9 H locs hp => hp.elim)
                              obtain ⟨hv, hg703, ho9703⟩ := hp
                              rw [hv]
                              refine W.eq (g2 := F0 m 197 ls []) rfl ?_
                              refine lv_aload_n hx hb d_Mo_pack_197 rfl (lv_at hl 1 rfl) ?_
                              refine hv_get hE k_Mo hI 18 (by decide) w534 hg703 rfl d_Mo_pack_198 ?_
                              refine lv_if_ne (tgt := 211) hx hb d_Mo_pack_201 (by decide) (fun c201 => ?_) (fun c201 => ?_)
                              · skip
                                have k201 := b2i_t c201
                                exact absurd k201 (by simp)
                              · skip
                                have k201 := b2i_f c201
                                refine lv_aload_n hx hb d_Mo_pack_204 rfl (lv_at hl 1 rfl) ?_
                                refine lv_iconst (v := 3) hx hb d_Mo_pack_205 (by decide) ?_
                                refine hv_put hE k_Mo hI 0 (by decide) w516 hg703 rfl rfl rfl (Nat.le_of_ble_eq_true rfl) d_Mo_pack_206 (fun H locs hI => ?_)
                                obtain ⟨g705, eg705⟩ : ∃ z : hv_M, z = hv_up g704 mo (moE a 3 (nI s9) (nI e9) (nI c9) (false && sz ((((v).1) + (((v).2.1) - gr.toInt64)) + 0)) ((((v).1) + (((v).2.1) - gr.toInt64)) + 0) ((v).2.1) ((v).2.2.1) gr.toInt64 md) := ⟨_, rfl⟩
                                have hI : hv_I D CL b0 g705 s.heap H locs := by rw [eg705]; exact hI
                                have hq706 : g705 mo = some (moE a 3 (nI s9) (nI e9) (nI c9) (false && sz ((((v).1) + (((v).2.1) - gr.toInt64)) + 0)) ((((v).1) + (((v).2.1) - gr.toInt64)) + 0) ((v).2.1) ((v).2.2.1) gr.toInt64 md) := by rw [eg705]; exact hv_up_self _ _ _
                                refine lv_iconst (v := 0) hx hb d_Mo_pack_209 (by decide) ?_
                                have hq707 : g705 (a 14) = some (.inl (cA 1, 4, .inr (.inl (v).2.2.2.2.1))) := by rw [eg705, hv_up_ne _ _ (hnj.2 14 (by decide)), ho9703 _ (hnj.2 14 (by decide)), eg701, hv_up_ne _ _ (hnj.2 14 (by decide)), ho9529 _ (hnj.2 14 (by decide)), eg527, hv_up_ne _ _ (hnj.2 14 (by decide)), eg270, hv_up_ne _ _ (hnj.2 14 (by decide))]; exact hs.2.1
                                have hq708 : g705 (a 15) = some (.inl (cA 1, 4, .inr (.inl (v).2.2.2.2.2))) := by rw [eg705, hv_up_ne _ _ (hnj.2 15 (by decide)), ho9703 _ (hnj.2 15 (by decide)), eg701, hv_up_ne _ _ (hnj.2 15 (by decide)), ho9529 _ (hnj.2 15 (by decide)), eg527, hv_up_ne _ _ (hnj.2 15 (by decide)), eg270, hv_up_ne _ _ (hnj.2 15 (by decide))]; exact hs.2.2
                                exact hv_iret hE hr hlocks hI hK (v := 0) ((show _ ∨ _ by rw [← ev, ← eG]; exact Or.inr (Or.inr (Or.inl ⟨(by simp [okPack, c2, n2, c7, n7, k15, k24]), hcc, c46, by rw [hgd]; simp [k172], rfl, ⟨_, ((((v).1) + (((v).2.1) - gr.toInt64)) + 0, (v).2.1, (v).2.2.1, gr.toInt64, (v).2.2.2.2.1, (v).2.2.2.2.2), hq706, hq707, hq708⟩, fun z z1 z2 z3 => by rw [eg705, hv_up_ne _ _ z1, ho9703 _ z1, eg701, hv_up_ne _ _ z1, ho9529 _ z1, eg527, hv_up_ne _ _ z1, eg270, hv_up_ne _ _ z1]; exact hfo z z1 z2 z3⟩)))) (by decide) (by decide) d_Mo_pack_210
                            · skip
                              have k172 := b2i_t c172
                              refine lv_lload hx hb d_Mo_pack_175 (lv_at hl 0 rfl) ?_
                              refine hv_Sp (As := [.long 0]) (rest := [.ref mo]) hE hml hK hI (c_Mo_isSize l hl0 b0 D cA g530 0) cd_Mo_isSize w608 w609 rfl rfl rfl hl.1 (Nat.le_of_ble_eq_true rfl) d_Mo_pack_177 ⟨by decide, by decide⟩ ⟨by decide, by decide⟩ (fun H locs hI => ?_)
                              refine W.eq (g2 := F0 m 180 ls [.int (b2i (sz 0)), .ref mo]) rfl ?_
                              refine lv_if_eq (tgt := 187) hx hb d_Mo_pack_180 (by decide) (fun c180 => ?_) (fun c180 => ?_)
                              · skip
                                have k180 := b2i_f c180
                                refine lv_iconst (v := 0) hx hb d_Mo_pack_187 (by decide) ?_
                                refine hv_put hE k_Mo hI 18 (by decide) w534 hg529 rfl rfl rfl (Nat.le_of_ble_eq_true rfl) d_Mo_pack_188 (fun H locs hI => ?_)
                                obtain ⟨g709, eg709⟩ : ∃ z : hv_M, z = hv_up g530 mo (moE a 0 (nI s9) (nI e9) (nI c9) false (((v).1) + (((v).2.1) - gr.toInt64)) ((v).2.1) ((v).2.2.1) gr.toInt64 md) := ⟨_, rfl⟩
                                have hI : hv_I D CL b0 g709 s.heap H locs := by rw [eg709]; exact hI
                                have hq710 : g709 mo = some (moE a 0 (nI s9) (nI e9) (nI c9) false (((v).1) + (((v).2.1) - gr.toInt64)) ((v).2.1) ((v).2.2.1) gr.toInt64 md) := by rw [eg709]; exact hv_up_self _ _ _
                                refine lv_aload_n hx hb d_Mo_pack_191 rfl (lv_at hl 1 rfl) ?_
                                refine lv_lload hx hb d_Mo_pack_192 (lv_at hl 0 rfl) ?_
                                refine hv_V (As := [.long 0]) (rest := []) hE hml hK hI (c_Mo_grow l hl0 b0 D cA g709 mo a 0 (nI s9) (nI e9) (nI c9) false (((v).1) + (((v).2.1) - gr.toInt64)) ((v).2.1) ((v).2.2.1) gr.toInt64 md 0 hq710 hnj) cd_Mo_grow w684 w686 ws26 hq710 rfl rfl hl.1 (Nat.le_of_ble_eq_true rfl) d_Mo_pack_194 ⟨by decide, by decide⟩ ⟨by decide, by decide⟩ (fun v9 g712 H locs hp hI => ?_) (fun q9 E9 ce9 g9 H locs hp => hp.elim)
                                obtain ⟨hv, hg711, ho9711⟩ := hp
                                rw [hv]
                                refine W.eq (g2 := F0 m 197 ls []) rfl ?_
                                refine lv_aload_n hx hb d_Mo_pack_197 rfl (lv_at hl 1 rfl) ?_
                                refine hv_get hE k_Mo hI 18 (by decide) w534 hg711 rfl d_Mo_pack_198 ?_
                                refine lv_if_ne (tgt := 211) hx hb d_Mo_pack_201 (by decide) (fun c201 => ?_) (fun c201 => ?_)
                                · skip
                                  have k201 := b2i_t c201
                                  exact absurd k201 (by simp)
                                · skip
                                  have k201 := b2i_f c201
                                  refine lv_aload_n hx hb d_Mo_pack_204 rfl (lv_at hl 1 rfl) ?_
                                  refine lv_iconst (v := 3) hx hb d_Mo_pack_205 (by decide) ?_
                                  refine hv_put hE k_Mo hI 0 (by decide) w516 hg711 rfl rfl rfl (Nat.le_of_ble_eq_true rfl) d_Mo_pack_206 (fun H locs hI => ?_)
                                  obtain ⟨g713, eg713⟩ : ∃ z : hv_M, z = hv_up g712 mo (moE a 3 (nI s9) (nI e9) (nI c9) (false && sz ((((v).1) + (((v).2.1) - gr.toInt64)) + 0)) ((((v).1) + (((v).2.1) - gr.toInt64)) + 0) ((v).2.1) ((v).2.2.1) gr.toInt64 md) := ⟨_, rfl⟩
                                  have hI : hv_I D CL b0 g713 s.heap H locs := by rw [eg713]; exact hI
                                  have hq714 : g713 mo = some (moE a 3 (nI s9) (nI e9) (nI c9) (false && sz ((((v).1) + (((v).2.1) - gr.toInt64)) + 0)) ((((v).1) + (((v).2.1) - gr.toInt64)) + 0) ((v).2.1) ((v).2.2.1) gr.toInt64 md) := by rw [eg713]; exact hv_up_self _ _ _
                                  refine lv_iconst (v := 0) hx hb d_Mo_pack_209 (by decide) ?_
                                  have hq715 : g713 (a 14) = some (.inl (cA 1, 4, .inr (.inl (v).2.2.2.2.1))) := by rw [eg713, hv_up_ne _ _ (hnj.2 14 (by decide)), ho9711 _ (hnj.2 14 (by decide)), eg709, hv_up_ne _ _ (hnj.2 14 (by decide)), ho9529 _ (hnj.2 14 (by decide)), eg527, hv_up_ne _ _ (hnj.2 14 (by decide)), eg270, hv_up_ne _ _ (hnj.2 14 (by decide))]; exact hs.2.1
                                  have hq716 : g713 (a 15) = some (.inl (cA 1, 4, .inr (.inl (v).2.2.2.2.2))) := by rw [eg713, hv_up_ne _ _ (hnj.2 15 (by decide)), ho9711 _ (hnj.2 15 (by decide)), eg709, hv_up_ne _ _ (hnj.2 15 (by decide)), ho9529 _ (hnj.2 15 (by decide)), eg527, hv_up_ne _ _ (hnj.2 15 (by decide)), eg270, hv_up_ne _ _ (hnj.2 15 (by decide))]; exact hs.2.2
                                  exact hv_iret hE hr hlocks hI hK (v := 0) ((show _ ∨ _ by rw [← ev, ← eG]; exact Or.inr (Or.inr (Or.inl ⟨(by simp [okPack, c2, n2, c7, n7, k15, k24]), hcc, c46, by rw [hgd]; simp [k172, k180], rfl, ⟨_, ((((v).1) + (((v).2.1) - gr.toInt64)) + 0, (v).2.1, (v).2.2.1, gr.toInt64, (v).2.2.2.2.1, (v).2.2.2.2.2), hq714, hq715, hq716⟩, fun z z1 z2 z3 => by rw [eg713, hv_up_ne _ _ z1, ho9711 _ z1, eg709, hv_up_ne _ _ z1, ho9529 _ z1, eg527, hv_up_ne _ _ z1, eg270, hv_up_ne _ _ z1]; exact hfo z z1 z2 z3⟩)))) (by decide) (by decide) d_Mo_pack_210
                              · skip
                                have k180 := b2i_t c180
                                refine lv_iconst (v := 1) hx hb d_Mo_pack_183 (by decide) ?_
                                refine lv_goto (tgt := 188) hx hb d_Mo_pack_184 (by decide) ?_
                                refine hv_put hE k_Mo hI 18 (by decide) w534 hg529 rfl rfl rfl (Nat.le_of_ble_eq_true rfl) d_Mo_pack_188 (fun H locs hI => ?_)
                                obtain ⟨g717, eg717⟩ : ∃ z : hv_M, z = hv_up g530 mo (moE a 0 (nI s9) (nI e9) (nI c9) true (((v).1) + (((v).2.1) - gr.toInt64)) ((v).2.1) ((v).2.2.1) gr.toInt64 md) := ⟨_, rfl⟩
                                have hI : hv_I D CL b0 g717 s.heap H locs := by rw [eg717]; exact hI
                                have hq718 : g717 mo = some (moE a 0 (nI s9) (nI e9) (nI c9) true (((v).1) + (((v).2.1) - gr.toInt64)) ((v).2.1) ((v).2.2.1) gr.toInt64 md) := by rw [eg717]; exact hv_up_self _ _ _
                                refine lv_aload_n hx hb d_Mo_pack_191 rfl (lv_at hl 1 rfl) ?_
                                refine lv_lload hx hb d_Mo_pack_192 (lv_at hl 0 rfl) ?_
                                refine hv_V (As := [.long 0]) (rest := []) hE hml hK hI (c_Mo_grow l hl0 b0 D cA g717 mo a 0 (nI s9) (nI e9) (nI c9) true (((v).1) + (((v).2.1) - gr.toInt64)) ((v).2.1) ((v).2.2.1) gr.toInt64 md 0 hq718 hnj) cd_Mo_grow w684 w686 ws26 hq718 rfl rfl hl.1 (Nat.le_of_ble_eq_true rfl) d_Mo_pack_194 ⟨by decide, by decide⟩ ⟨by decide, by decide⟩ (fun v9 g720 H locs hp hI => ?_) (fun q9 E9 ce9 g9 H locs hp => hp.elim)
                                obtain ⟨hv, hg719, ho9719⟩ := hp
                                rw [hv]
                                refine W.eq (g2 := F0 m 197 ls []) rfl ?_
                                refine lv_aload_n hx hb d_Mo_pack_197 rfl (lv_at hl 1 rfl) ?_
                                refine hv_get hE k_Mo hI 18 (by decide) w534 hg719 rfl d_Mo_pack_198 ?_
                                refine lv_if_ne (tgt := 211) hx hb d_Mo_pack_201 (by decide) (fun c201 => ?_) (fun c201 => ?_)
                                · skip
                                  have k201 := b2i_t c201
                                  refine lv_aload_n hx hb d_Mo_pack_211 rfl (lv_at hl 1 rfl) ?_
                                  refine hv_get hE k_Mo hI 5 (by decide) w521 hg719 rfl d_Mo_pack_212 ?_
                                  refine lv_istore (lv' := [(7, .int (nI c9)), (5, .long 0), (0, .ref mo), (1, .int (b2i bel)), (2, .int how), (3, .int size), (4, .int gr)]) hx hb d_Mo_pack_215 hl (by decide) rfl (fun ls hl => ?_)
                                  refine lv_aload_n hx hb d_Mo_pack_217 rfl (lv_at hl 2 rfl) ?_
                                  refine lv_iload hx hb d_Mo_pack_218 (lv_at hl 0 rfl) ?_
                                  refine lv_lload hx hb d_Mo_pack_220 (lv_at hl 1 rfl) ?_
                                  have hq721 : g720 (a 14) = some (.inl (cA 1, 4, .inr (.inl (v).2.2.2.2.1))) := by rw [ho9719 _ (hnj.2 14 (by decide)), eg717, hv_up_ne _ _ (hnj.2 14 (by decide)), ho9529 _ (hnj.2 14 (by decide)), eg527, hv_up_ne _ _ (hnj.2 14 (by decide)), eg270, hv_up_ne _ _ (hnj.2 14 (by decide))]; exact hs.2.1
                                  have hq722 : g720 (a 15) = some (.inl (cA 1, 4, .inr (.inl (v).2.2.2.2.2))) := by rw [ho9719 _ (hnj.2 15 (by decide)), eg717, hv_up_ne _ _ (hnj.2 15 (by decide)), ho9529 _ (hnj.2 15 (by decide)), eg527, hv_up_ne _ _ (hnj.2 15 (by decide)), eg270, hv_up_ne _ _ (hnj.2 15 (by decide))]; exact hs.2.2
                                  have hA723 : moA cA g720 a V := ⟨by rw [ho9719 _ (hnj.2 0 (by decide)), eg717, hv_up_ne _ _ (hnj.2 0 (by decide)), ho9529 _ (hnj.2 0 (by decide)), eg527, hv_up_ne _ _ (hnj.2 0 (by decide)), eg270, hv_up_ne _ _ (hnj.2 0 (by decide))]; exact hAg.1, by rw [ho9719 _ (hnj.2 1 (by decide)), eg717, hv_up_ne _ _ (hnj.2 1 (by decide)), ho9529 _ (hnj.2 1 (by decide)), eg527, hv_up_ne _ _ (hnj.2 1 (by decide)), eg270, hv_up_ne _ _ (hnj.2 1 (by decide))]; exact hAg.2.1, by rw [ho9719 _ (hnj.2 2 (by decide)), eg717, hv_up_ne _ _ (hnj.2 2 (by decide)), ho9529 _ (hnj.2 2 (by decide)), eg527, hv_up_ne _ _ (hnj.2 2 (by decide)), eg270, hv_up_ne _ _ (hnj.2 2 (by decide))]; exact hAg.2.2.1, by rw [ho9719 _ (hnj.2 3 (by decide)), eg717, hv_up_ne _ _ (hnj.2 3 (by decide)), ho9529 _ (hnj.2 3 (by decide)), eg527, hv_up_ne _ _ (hnj.2 3 (by decide)), eg270, hv_up_ne _ _ (hnj.2 3 (by decide))]; exact hAg.2.2.2.1, fun j9 hj9 => by rw [ho9719 _ (hnj.2 (4 + j9) (by omega)), eg717, hv_up_ne _ _ (hnj.2 (4 + j9) (by omega)), ho9529 _ (hnj.2 (4 + j9) (by omega)), eg527, hv_up_ne _ _ (hnj.2 (4 + j9) (by omega)), eg270, hv_up_ne _ _ (hnj.2 (4 + j9) (by omega))]; exact hAg.2.2.2.2 j9 hj9⟩
                                  refine hv_V (As := [.int (nI c9), .long 0]) (rest := []) hE hml hK hI (c_Mo_setGlue l hl0 b0 D cA g720 mo a 0 (nI s9) (nI e9) (nI c9) (true && sz ((((v).1) + (((v).2.1) - gr.toInt64)) + 0)) ((((v).1) + (((v).2.1) - gr.toInt64)) + 0) ((v).2.1) ((v).2.2.1) gr.toInt64 md V ((v).2.2.2.2.1) ((v).2.2.2.2.2) 0 c9 hg719 hnj hA723 hq721 hq722 (by omega)) cd_Mo_setGlue w700 w702 ws30 hg719 rfl rfl hl.1 (Nat.le_of_ble_eq_true rfl) d_Mo_pack_222 ⟨by decide, by decide⟩ ⟨by decide, by decide⟩ (fun v9 g725 H locs hp hI => ?_) (fun q9 E9 ce9 g9 H locs hp => hp.elim)
                                  obtain ⟨hv, ha724, hb724, hc724, hd724, he724, ho9724⟩ := hp
                                  rw [hv]
                                  refine W.eq (g2 := F0 m 225 ls []) rfl ?_
                                  refine lv_aload_n hx hb d_Mo_pack_225 rfl (lv_at hl 2 rfl) ?_
                                  have hq726 : g725 mo = some (moE a 0 (nI s9) (nI e9) (nI c9) (true && sz ((((v).1) + (((v).2.1) - gr.toInt64)) + 0)) ((((v).1) + (((v).2.1) - gr.toInt64)) + 0) ((v).2.1) ((v).2.2.1) gr.toInt64 md) := by rw [ho9724 _ (Ne.symm (hnj.2 7 (by decide))) (Ne.symm (hnj.2 8 (by decide))) (Ne.symm (hnj.2 9 (by decide))) (Ne.symm (hnj.2 10 (by decide))) (Ne.symm (hnj.2 11 (by decide)))]; exact hg719
                                  refine hv_get hE k_Mo hI 6 (by decide) w522 hq726 rfl d_Mo_pack_226 ?_
                                  refine lv_iload hx hb d_Mo_pack_229 (lv_at hl 0 rfl) ?_
                                  refine lv_aload_n hx hb d_Mo_pack_231 rfl (lv_at hl 2 rfl) ?_
                                  refine hv_get hE k_Mo hI 3 (by decide) w519 hq726 rfl d_Mo_pack_232 ?_
                                  have hq727 : g725 (a 2) = some (.inl (cA 0, 101, .inl (fun b => nI (wF V b)))) := by rw [ho9724 _ (hnj.1 2 7 (by decide) (by decide) (by decide)) (hnj.1 2 8 (by decide) (by decide) (by decide)) (hnj.1 2 9 (by decide) (by decide) (by decide)) (hnj.1 2 10 (by decide) (by decide) (by decide)) (hnj.1 2 11 (by decide) (by decide) (by decide)), ho9719 _ (hnj.2 2 (by decide)), eg717, hv_up_ne _ _ (hnj.2 2 (by decide)), ho9529 _ (hnj.2 2 (by decide)), eg527, hv_up_ne _ _ (hnj.2 2 (by decide)), eg270, hv_up_ne _ _ (hnj.2 2 (by decide))]; exact hAg.2.2.1
                                  refine hv_iast hE hI 0 hq727 rfl (pk_in c9 101 (by omega) rfl (by omega)) d_Mo_pack_235 (fun H locs hI => ?_)
                                  rw [nI_cl (by omega)] at hI
                                  obtain ⟨g728, eg728⟩ : ∃ z : hv_M, z = hv_up g725 (a 2) (.inl (cA 0, 101, .inl (upd (fun b => nI (wF V b)) c9 (nI s9)))) := ⟨_, rfl⟩
                                  have hI : hv_I D CL b0 g728 s.heap H locs := by rw [eg728]; exact hI
                                  have hq729 : g728 (a 2) = some (.inl (cA 0, 101, .inl (upd (fun b => nI (wF V b)) c9 (nI s9)))) := by rw [eg728]; exact hv_up_self _ _ _
                                  refine lv_aload_n hx hb d_Mo_pack_236 rfl (lv_at hl 2 rfl) ?_
                                  have hq730 : g728 mo = some (moE a 0 (nI s9) (nI e9) (nI c9) (true && sz ((((v).1) + (((v).2.1) - gr.toInt64)) + 0)) ((((v).1) + (((v).2.1) - gr.toInt64)) + 0) ((v).2.1) ((v).2.2.1) gr.toInt64 md) := by rw [eg728, hv_up_ne _ _ (Ne.symm (hnj.2 2 (by decide)))]; exact hq726
                                  refine hv_get hE k_Mo hI 7 (by decide) w523 hq730 rfl d_Mo_pack_237 ?_
                                  refine lv_iload hx hb d_Mo_pack_240 (lv_at hl 0 rfl) ?_
                                  refine lv_iload_n hx hb d_Mo_pack_242 rfl (lv_at hl 3 rfl) ?_
                                  have hq731 : g728 (a 3) = some (.inl (cA 2, 100, .inl (fun b => b2i (wB V b)))) := by rw [eg728, hv_up_ne _ _ (hnj.1 3 2 (by decide) (by decide) (by decide)), ho9724 _ (hnj.1 3 7 (by decide) (by decide) (by decide)) (hnj.1 3 8 (by decide) (by decide) (by decide)) (hnj.1 3 9 (by decide) (by decide) (by decide)) (hnj.1 3 10 (by decide) (by decide) (by decide)) (hnj.1 3 11 (by decide) (by decide) (by decide)), ho9719 _ (hnj.2 3 (by decide)), eg717, hv_up_ne _ _ (hnj.2 3 (by decide)), ho9529 _ (hnj.2 3 (by decide)), eg527, hv_up_ne _ _ (hnj.2 3 (by decide)), eg270, hv_up_ne _ _ (hnj.2 3 (by decide))]; exact hAg.2.2.2.1
                                  refine hv_zast hE hI 2 hq731 rfl (pk_in c9 100 (by omega) rfl (by omega)) d_Mo_pack_243 (fun H locs hI => ?_)
                                  rw [nI_cl (by omega)] at hI
                                  obtain ⟨g732, eg732⟩ : ∃ z : hv_M, z = hv_up g728 (a 3) (.inl (cA 2, 100, .inl (upd (fun b => b2i (wB V b)) c9 (b2i bel)))) := ⟨_, rfl⟩
                                  have hI : hv_I D CL b0 g732 s.heap H locs := by rw [eg732]; exact hI
                                  have hq733 : g732 (a 3) = some (.inl (cA 2, 100, .inl (upd (fun b => b2i (wB V b)) c9 (b2i bel)))) := by rw [eg732]; exact hv_up_self _ _ _
                                  refine lv_aload_n hx hb d_Mo_pack_244 rfl (lv_at hl 2 rfl) ?_
                                  have hq734 : g732 mo = some (moE a 0 (nI s9) (nI e9) (nI c9) (true && sz ((((v).1) + (((v).2.1) - gr.toInt64)) + 0)) ((((v).1) + (((v).2.1) - gr.toInt64)) + 0) ((v).2.1) ((v).2.2.1) gr.toInt64 md) := by rw [eg732, hv_up_ne _ _ (Ne.symm (hnj.2 3 (by decide)))]; exact hq730
                                  refine hv_get hE k_Mo hI 8 (by decide) w524 hq734 rfl d_Mo_pack_245 ?_
                                  refine lv_iload hx hb d_Mo_pack_248 (lv_at hl 0 rfl) ?_
                                  refine lv_iload_n hx hb d_Mo_pack_250 rfl (lv_at hl 3 rfl) ?_
                                  refine lv_if_eq (tgt := 261) hx hb d_Mo_pack_251 (by decide) (fun c251 => ?_) (fun c251 => ?_)
                                  · skip
                                    have k251 := b2i_f c251
                                    exact absurd k251 (by rw [k99]; decide)
                                  · skip
                                    have k251 := b2i_t c251
                                    refine lv_aload_n hx hb d_Mo_pack_254 rfl (lv_at hl 2 rfl) ?_
                                    refine hv_get hE k_Mo hI 21 (by decide) w537 hq734 rfl d_Mo_pack_255 ?_
                                    refine lv_goto (tgt := 265) hx hb d_Mo_pack_258 (by decide) ?_
                                    refine lv_l2i (v := ((v).2.2.1).toInt32) hx hb d_Mo_pack_265 rfl ?_
                                    have hq735 : g732 (a 4) = some (.inl (cA 0, 100, .inl (wA V 0))) := by rw [eg732, hv_up_ne _ _ (hnj.1 4 3 (by decide) (by decide) (by decide)), eg728, hv_up_ne _ _ (hnj.1 4 2 (by decide) (by decide) (by decide)), ho9724 _ (hnj.1 4 7 (by decide) (by decide) (by decide)) (hnj.1 4 8 (by decide) (by decide) (by decide)) (hnj.1 4 9 (by decide) (by decide) (by decide)) (hnj.1 4 10 (by decide) (by decide) (by decide)) (hnj.1 4 11 (by decide) (by decide) (by decide)), ho9719 _ (hnj.2 4 (by decide)), eg717, hv_up_ne _ _ (hnj.2 4 (by decide)), ho9529 _ (hnj.2 4 (by decide)), eg527, hv_up_ne _ _ (hnj.2 4 (by decide)), eg270, hv_up_ne _ _ (hnj.2 4 (by decide))]; exact (hAg.2.2.2.2 0 (by decide))
                                    refine hv_iast hE hI 0 hq735 rfl (pk_in c9 100 (by omega) rfl (by omega)) d_Mo_pack_266 (fun H locs hI => ?_)
                                    rw [nI_cl (by omega)] at hI
                                    obtain ⟨g736, eg736⟩ : ∃ z : hv_M, z = hv_up g732 (a 4) (.inl (cA 0, 100, .inl (upd (wA V 0) c9 (((v).2.2.1).toInt32)))) := ⟨_, rfl⟩
                                    have hI : hv_I D CL b0 g736 s.heap H locs := by rw [eg736]; exact hI
                                    have hq737 : g736 (a 4) = some (.inl (cA 0, 100, .inl (upd (wA V 0) c9 (((v).2.2.1).toInt32)))) := by rw [eg736]; exact hv_up_self _ _ _
                                    refine lv_aload_n hx hb d_Mo_pack_267 rfl (lv_at hl 2 rfl) ?_
                                    have hq738 : g736 mo = some (moE a 0 (nI s9) (nI e9) (nI c9) (true && sz ((((v).1) + (((v).2.1) - gr.toInt64)) + 0)) ((((v).1) + (((v).2.1) - gr.toInt64)) + 0) ((v).2.1) ((v).2.2.1) gr.toInt64 md) := by rw [eg736, hv_up_ne _ _ (Ne.symm (hnj.2 4 (by decide)))]; exact hq734
                                    refine hv_get hE k_Mo hI 9 (by decide) w525 hq738 rfl d_Mo_pack_268 ?_
                                    refine lv_iload hx hb d_Mo_pack_271 (lv_at hl 0 rfl) ?_
                                    refine lv_iload_n hx hb d_Mo_pack_273 rfl (lv_at hl 3 rfl) ?_
                                    refine lv_if_eq (tgt := 284) hx hb d_Mo_pack_274 (by decide) (fun c274 => ?_) (fun c274 => ?_)
                                    · skip
                                      have k274 := b2i_f c274
                                      exact absurd k274 (by rw [k99]; decide)
                                    · skip
                                      have k274 := b2i_t c274
                                      refine lv_aload_n hx hb d_Mo_pack_277 rfl (lv_at hl 2 rfl) ?_
                                      refine hv_get hE k_Mo hI 19 (by decide) w535 hq738 rfl d_Mo_pack_278 ?_
                                      refine lv_goto (tgt := 288) hx hb d_Mo_pack_281 (by decide) ?_
                                      refine lv_l2i (v := ((((v).1) + (((v).2.1) - gr.toInt64)) + 0).toInt32) hx hb d_Mo_pack_288 rfl ?_
                                      have hq739 : g736 (a 5) = some (.inl (cA 0, 100, .inl (wA V 1))) := by rw [eg736, hv_up_ne _ _ (hnj.1 5 4 (by decide) (by decide) (by decide)), eg732, hv_up_ne _ _ (hnj.1 5 3 (by decide) (by decide) (by decide)), eg728, hv_up_ne _ _ (hnj.1 5 2 (by decide) (by decide) (by decide)), ho9724 _ (hnj.1 5 7 (by decide) (by decide) (by decide)) (hnj.1 5 8 (by decide) (by decide) (by decide)) (hnj.1 5 9 (by decide) (by decide) (by decide)) (hnj.1 5 10 (by decide) (by decide) (by decide)) (hnj.1 5 11 (by decide) (by decide) (by decide)), ho9719 _ (hnj.2 5 (by decide)), eg717, hv_up_ne _ _ (hnj.2 5 (by decide)), ho9529 _ (hnj.2 5 (by decide)), eg527, hv_up_ne _ _ (hnj.2 5 (by decide)), eg270, hv_up_ne _ _ (hnj.2 5 (by decide))]; exact (hAg.2.2.2.2 1 (by decide))
                                      refine hv_iast hE hI 0 hq739 rfl (pk_in c9 100 (by omega) rfl (by omega)) d_Mo_pack_289 (fun H locs hI => ?_)
                                      rw [nI_cl (by omega)] at hI
                                      obtain ⟨g740, eg740⟩ : ∃ z : hv_M, z = hv_up g736 (a 5) (.inl (cA 0, 100, .inl (upd (wA V 1) c9 (((((v).1) + (((v).2.1) - gr.toInt64)) + 0).toInt32)))) := ⟨_, rfl⟩
                                      have hI : hv_I D CL b0 g740 s.heap H locs := by rw [eg740]; exact hI
                                      have hq741 : g740 (a 5) = some (.inl (cA 0, 100, .inl (upd (wA V 1) c9 (((((v).1) + (((v).2.1) - gr.toInt64)) + 0).toInt32)))) := by rw [eg740]; exact hv_up_self _ _ _
                                      refine lv_aload_n hx hb d_Mo_pack_290 rfl (lv_at hl 2 rfl) ?_
                                      have hq742 : g740 mo = some (moE a 0 (nI s9) (nI e9) (nI c9) (true && sz ((((v).1) + (((v).2.1) - gr.toInt64)) + 0)) ((((v).1) + (((v).2.1) - gr.toInt64)) + 0) ((v).2.1) ((v).2.2.1) gr.toInt64 md) := by rw [eg740, hv_up_ne _ _ (Ne.symm (hnj.2 5 (by decide)))]; exact hq738
                                      refine hv_get hE k_Mo hI 10 (by decide) w526 hq742 rfl d_Mo_pack_291 ?_
                                      refine lv_iload hx hb d_Mo_pack_294 (lv_at hl 0 rfl) ?_
                                      refine lv_aload_n hx hb d_Mo_pack_296 rfl (lv_at hl 2 rfl) ?_
                                      refine hv_get hE k_Mo hI 22 (by decide) w538 hq742 rfl d_Mo_pack_297 ?_
                                      refine lv_l2i (v := gr.toInt64.toInt32) hx hb d_Mo_pack_300 rfl ?_
                                      have hq743 : g740 (a 6) = some (.inl (cA 0, 100, .inl (wA V 2))) := by rw [eg740, hv_up_ne _ _ (hnj.1 6 5 (by decide) (by decide) (by decide)), eg736, hv_up_ne _ _ (hnj.1 6 4 (by decide) (by decide) (by decide)), eg732, hv_up_ne _ _ (hnj.1 6 3 (by decide) (by decide) (by decide)), eg728, hv_up_ne _ _ (hnj.1 6 2 (by decide) (by decide) (by decide)), ho9724 _ (hnj.1 6 7 (by decide) (by decide) (by decide)) (hnj.1 6 8 (by decide) (by decide) (by decide)) (hnj.1 6 9 (by decide) (by decide) (by decide)) (hnj.1 6 10 (by decide) (by decide) (by decide)) (hnj.1 6 11 (by decide) (by decide) (by decide)), ho9719 _ (hnj.2 6 (by decide)), eg717, hv_up_ne _ _ (hnj.2 6 (by decide)), ho9529 _ (hnj.2 6 (by decide)), eg527, hv_up_ne _ _ (hnj.2 6 (by decide)), eg270, hv_up_ne _ _ (hnj.2 6 (by decide))]; exact (hAg.2.2.2.2 2 (by decide))
                                      refine hv_iast hE hI 0 hq743 rfl (pk_in c9 100 (by omega) rfl (by omega)) d_Mo_pack_301 (fun H locs hI => ?_)
                                      rw [nI_cl (by omega)] at hI
                                      obtain ⟨g744, eg744⟩ : ∃ z : hv_M, z = hv_up g740 (a 6) (.inl (cA 0, 100, .inl (upd (wA V 2) c9 gr.toInt64.toInt32))) := ⟨_, rfl⟩
                                      have hI : hv_I D CL b0 g744 s.heap H locs := by rw [eg744]; exact hI
                                      have hq745 : g744 (a 6) = some (.inl (cA 0, 100, .inl (upd (wA V 2) c9 gr.toInt64.toInt32))) := by rw [eg744]; exact hv_up_self _ _ _
                                      refine lv_aload_n hx hb d_Mo_pack_302 rfl (lv_at hl 2 rfl) ?_
                                      have hq746 : g744 mo = some (moE a 0 (nI s9) (nI e9) (nI c9) (true && sz ((((v).1) + (((v).2.1) - gr.toInt64)) + 0)) ((((v).1) + (((v).2.1) - gr.toInt64)) + 0) ((v).2.1) ((v).2.2.1) gr.toInt64 md) := by rw [eg744, hv_up_ne _ _ (Ne.symm (hnj.2 6 (by decide)))]; exact hq742
                                      refine hv_get hE k_Mo hI 16 (by decide) w532 hq746 rfl d_Mo_pack_303 ?_
                                      refine lv_iload hx hb d_Mo_pack_306 (lv_at hl 0 rfl) ?_
                                      refine lv_aload_n hx hb d_Mo_pack_308 rfl (lv_at hl 2 rfl) ?_
                                      have hq747 : g744 (a 0) = some (.inl (cA 0, 10200, .inl (wK V))) := by rw [eg744, hv_up_ne _ _ (hnj.1 0 6 (by decide) (by decide) (by decide)), eg740, hv_up_ne _ _ (hnj.1 0 5 (by decide) (by decide) (by decide)), eg736, hv_up_ne _ _ (hnj.1 0 4 (by decide) (by decide) (by decide)), eg732, hv_up_ne _ _ (hnj.1 0 3 (by decide) (by decide) (by decide)), eg728, hv_up_ne _ _ (hnj.1 0 2 (by decide) (by decide) (by decide)), ho9724 _ (hnj.1 0 7 (by decide) (by decide) (by decide)) (hnj.1 0 8 (by decide) (by decide) (by decide)) (hnj.1 0 9 (by decide) (by decide) (by decide)) (hnj.1 0 10 (by decide) (by decide) (by decide)) (hnj.1 0 11 (by decide) (by decide) (by decide)), ho9719 _ (hnj.2 0 (by decide)), eg717, hv_up_ne _ _ (hnj.2 0 (by decide)), ho9529 _ (hnj.2 0 (by decide)), eg527, hv_up_ne _ _ (hnj.2 0 (by decide)), eg270, hv_up_ne _ _ (hnj.2 0 (by decide))]; exact hAg.1
                                      have hq748 : g744 (a 1) = some (.inl (cA 0, 51000, .inl V.2.1)) := by rw [eg744, hv_up_ne _ _ (hnj.1 1 6 (by decide) (by decide) (by decide)), eg740, hv_up_ne _ _ (hnj.1 1 5 (by decide) (by decide) (by decide)), eg736, hv_up_ne _ _ (hnj.1 1 4 (by decide) (by decide) (by decide)), eg732, hv_up_ne _ _ (hnj.1 1 3 (by decide) (by decide) (by decide)), eg728, hv_up_ne _ _ (hnj.1 1 2 (by decide) (by decide) (by decide)), ho9724 _ (hnj.1 1 7 (by decide) (by decide) (by decide)) (hnj.1 1 8 (by decide) (by decide) (by decide)) (hnj.1 1 9 (by decide) (by decide) (by decide)) (hnj.1 1 10 (by decide) (by decide) (by decide)) (hnj.1 1 11 (by decide) (by decide) (by decide)), ho9719 _ (hnj.2 1 (by decide)), eg717, hv_up_ne _ _ (hnj.2 1 (by decide)), ho9529 _ (hnj.2 1 (by decide)), eg527, hv_up_ne _ _ (hnj.2 1 (by decide)), eg270, hv_up_ne _ _ (hnj.2 1 (by decide))]; exact hAg.2.1
                                      have hq749 : g744 (a 12) = some (.inl (cA 0, 100, .inl (wA V 8))) := by rw [eg744, hv_up_ne _ _ (hnj.1 12 6 (by decide) (by decide) (by decide)), eg740, hv_up_ne _ _ (hnj.1 12 5 (by decide) (by decide) (by decide)), eg736, hv_up_ne _ _ (hnj.1 12 4 (by decide) (by decide) (by decide)), eg732, hv_up_ne _ _ (hnj.1 12 3 (by decide) (by decide) (by decide)), eg728, hv_up_ne _ _ (hnj.1 12 2 (by decide) (by decide) (by decide)), ho9724 _ (hnj.1 12 7 (by decide) (by decide) (by decide)) (hnj.1 12 8 (by decide) (by decide) (by decide)) (hnj.1 12 9 (by decide) (by decide) (by decide)) (hnj.1 12 10 (by decide) (by decide) (by decide)) (hnj.1 12 11 (by decide) (by decide) (by decide)), ho9719 _ (hnj.2 12 (by decide)), eg717, hv_up_ne _ _ (hnj.2 12 (by decide)), ho9529 _ (hnj.2 12 (by decide)), eg527, hv_up_ne _ _ (hnj.2 12 (by decide)), eg270, hv_up_ne _ _ (hnj.2 12 (by decide))]; exact (hAg.2.2.2.2 8 (by decide))
                                      refine hv_Vp (As := []) (rest := [.int (nI c9), .ref (a 12)]) hE hml hK hI (c_Mo_deepest l hl0 b0 D cA g744 mo a 0 s9 e9 (nI c9) (true && sz ((((v).1) + (((v).2.1) - gr.toInt64)) + 0)) ((((v).1) + (((v).2.1) - gr.toInt64)) + 0) ((v).2.1) ((v).2.2.1) gr.toInt64 md V hq746 hnj hq747 hq748 hq749 hse he9 hit) cd_Mo_deepest w660 w662 ws20 hq746 rfl rfl rfl rfl hl.1 (Nat.le_of_ble_eq_true rfl) d_Mo_pack_309 ⟨by decide, by decide⟩ ⟨by decide, by decide⟩ (fun H locs hI => ?_)
                                      refine W.eq (g2 := F0 m 312 ls [.int (dL V s9 (e9 - s9)), .int (nI c9), .ref (a 12)]) rfl ?_
                                      refine lv_iconst (v := 1) hx hb d_Mo_pack_312 (by decide) ?_
                                      refine lv_iadd hx hb d_Mo_pack_313 ?_
                                      refine hv_iast hE hI 0 hq749 rfl (pk_in c9 100 (by omega) rfl (by omega)) d_Mo_pack_314 (fun H locs hI => ?_)
                                      rw [nI_cl (by omega)] at hI
                                      obtain ⟨g750, eg750⟩ : ∃ z : hv_M, z = hv_up g744 (a 12) (.inl (cA 0, 100, .inl (upd (wA V 8) c9 ((dL V s9 (e9 - s9)) + 1)))) := ⟨_, rfl⟩
                                      have hI : hv_I D CL b0 g750 s.heap H locs := by rw [eg750]; exact hI
                                      have hq751 : g750 (a 12) = some (.inl (cA 0, 100, .inl (upd (wA V 8) c9 ((dL V s9 (e9 - s9)) + 1)))) := by rw [eg750]; exact hv_up_self _ _ _
                                      refine lv_aload_n hx hb d_Mo_pack_315 rfl (lv_at hl 2 rfl) ?_
                                      have hq752 : g750 mo = some (moE a 0 (nI s9) (nI e9) (nI c9) (true && sz ((((v).1) + (((v).2.1) - gr.toInt64)) + 0)) ((((v).1) + (((v).2.1) - gr.toInt64)) + 0) ((v).2.1) ((v).2.2.1) gr.toInt64 md) := by rw [eg750, hv_up_ne _ _ (Ne.symm (hnj.2 12 (by decide)))]; exact hq746
                                      refine hv_get hE k_Mo hI 17 (by decide) w533 hq752 rfl d_Mo_pack_316 ?_
                                      refine lv_iload hx hb d_Mo_pack_319 (lv_at hl 0 rfl) ?_
                                      refine lv_aload_n hx hb d_Mo_pack_321 rfl (lv_at hl 2 rfl) ?_
                                      have hq753 : g750 (a 0) = some (.inl (cA 0, 10200, .inl (wK V))) := by rw [eg750, hv_up_ne _ _ (hnj.1 0 12 (by decide) (by decide) (by decide))]; exact hq747
                                      have hq754 : g750 (a 1) = some (.inl (cA 0, 51000, .inl V.2.1)) := by rw [eg750, hv_up_ne _ _ (hnj.1 1 12 (by decide) (by decide) (by decide))]; exact hq748
                                      have hq755 : g750 (a 13) = some (.inl (cA 0, 100, .inl (wA V 9))) := by rw [eg750, hv_up_ne _ _ (hnj.1 13 12 (by decide) (by decide) (by decide)), eg744, hv_up_ne _ _ (hnj.1 13 6 (by decide) (by decide) (by decide)), eg740, hv_up_ne _ _ (hnj.1 13 5 (by decide) (by decide) (by decide)), eg736, hv_up_ne _ _ (hnj.1 13 4 (by decide) (by decide) (by decide)), eg732, hv_up_ne _ _ (hnj.1 13 3 (by decide) (by decide) (by decide)), eg728, hv_up_ne _ _ (hnj.1 13 2 (by decide) (by decide) (by decide)), ho9724 _ (hnj.1 13 7 (by decide) (by decide) (by decide)) (hnj.1 13 8 (by decide) (by decide) (by decide)) (hnj.1 13 9 (by decide) (by decide) (by decide)) (hnj.1 13 10 (by decide) (by decide) (by decide)) (hnj.1 13 11 (by decide) (by decide) (by decide)), ho9719 _ (hnj.2 13 (by decide)), eg717, hv_up_ne _ _ (hnj.2 13 (by decide)), ho9529 _ (hnj.2 13 (by decide)), eg527, hv_up_ne _ _ (hnj.2 13 (by decide)), eg270, hv_up_ne _ _ (hnj.2 13 (by decide))]; exact (hAg.2.2.2.2 9 (by decide))
                                      refine hv_Vp (As := []) (rest := [.int (nI c9), .ref (a 13)]) hE hml hK hI (c_Mo_countAll l hl0 b0 D cA g750 mo a 0 s9 e9 (nI c9) (true && sz ((((v).1) + (((v).2.1) - gr.toInt64)) + 0)) ((((v).1) + (((v).2.1) - gr.toInt64)) + 0) ((v).2.1) ((v).2.2.1) gr.toInt64 md V hq752 hnj hq753 hq754 hq755 hse he9 hit) cd_Mo_countAll w714 w716 ws31 hq752 rfl rfl rfl rfl hl.1 (Nat.le_of_ble_eq_true rfl) d_Mo_pack_322 ⟨by decide, by decide⟩ ⟨by decide, by decide⟩ (fun H locs hI => ?_)
                                      refine W.eq (g2 := F0 m 325 ls [.int (cA9 V s9 (e9 - s9)), .int (nI c9), .ref (a 13)]) rfl ?_
                                      refine hv_iast hE hI 0 hq755 rfl (pk_in c9 100 (by omega) rfl (by omega)) d_Mo_pack_325 (fun H locs hI => ?_)
                                      rw [nI_cl (by omega)] at hI
                                      obtain ⟨g756, eg756⟩ : ∃ z : hv_M, z = hv_up g750 (a 13) (.inl (cA 0, 100, .inl (upd (wA V 9) c9 (cA9 V s9 (e9 - s9))))) := ⟨_, rfl⟩
                                      have hI : hv_I D CL b0 g756 s.heap H locs := by rw [eg756]; exact hI
                                      have hq757 : g756 (a 13) = some (.inl (cA 0, 100, .inl (upd (wA V 9) c9 (cA9 V s9 (e9 - s9))))) := by rw [eg756]; exact hv_up_self _ _ _
                                      refine lv_aload_n hx hb d_Mo_pack_326 rfl (lv_at hl 2 rfl) ?_
                                      refine lv_dup hx hb d_Mo_pack_327 rfl ?_
                                      have hq758 : g756 mo = some (moE a 0 (nI s9) (nI e9) (nI c9) (true && sz ((((v).1) + (((v).2.1) - gr.toInt64)) + 0)) ((((v).1) + (((v).2.1) - gr.toInt64)) + 0) ((v).2.1) ((v).2.2.1) gr.toInt64 md) := by rw [eg756, hv_up_ne _ _ (Ne.symm (hnj.2 13 (by decide)))]; exact hq752
                                      refine hv_get hE k_Mo hI 5 (by decide) w521 hq758 rfl d_Mo_pack_328 ?_
                                      refine lv_iconst (v := 1) hx hb d_Mo_pack_331 (by decide) ?_
                                      refine lv_iadd hx hb d_Mo_pack_332 ?_
                                      refine hv_put hE k_Mo hI 5 (by decide) w521 hq758 rfl rfl rfl (Nat.le_of_ble_eq_true rfl) d_Mo_pack_333 (fun H locs hI => ?_)
                                      obtain ⟨g759, eg759⟩ : ∃ z : hv_M, z = hv_up g756 mo (moE a 0 (nI s9) (nI e9) ((nI c9) + 1) (true && sz ((((v).1) + (((v).2.1) - gr.toInt64)) + 0)) ((((v).1) + (((v).2.1) - gr.toInt64)) + 0) ((v).2.1) ((v).2.2.1) gr.toInt64 md) := ⟨_, rfl⟩
                                      have hI : hv_I D CL b0 g759 s.heap H locs := by rw [eg759]; exact hI
                                      have hq760 : g759 mo = some (moE a 0 (nI s9) (nI e9) ((nI c9) + 1) (true && sz ((((v).1) + (((v).2.1) - gr.toInt64)) + 0)) ((((v).1) + (((v).2.1) - gr.toInt64)) + 0) ((v).2.1) ((v).2.2.1) gr.toInt64 md) := by rw [eg759]; exact hv_up_self _ _ _
                                      refine lv_aload_n hx hb d_Mo_pack_336 rfl (lv_at hl 2 rfl) ?_
                                      refine lv_aload_n hx hb d_Mo_pack_337 rfl (lv_at hl 2 rfl) ?_
                                      refine hv_get hE k_Mo hI 4 (by decide) w520 hq760 rfl d_Mo_pack_338 ?_
                                      refine hv_put hE k_Mo hI 3 (by decide) w519 hq760 rfl rfl rfl (Nat.le_of_ble_eq_true rfl) d_Mo_pack_341 (fun H locs hI => ?_)
                                      obtain ⟨g761, eg761⟩ : ∃ z : hv_M, z = hv_up g759 mo (moE a 0 (nI e9) (nI e9) ((nI c9) + 1) (true && sz ((((v).1) + (((v).2.1) - gr.toInt64)) + 0)) ((((v).1) + (((v).2.1) - gr.toInt64)) + 0) ((v).2.1) ((v).2.2.1) gr.toInt64 md) := ⟨_, rfl⟩
                                      have hI : hv_I D CL b0 g761 s.heap H locs := by rw [eg761]; exact hI
                                      have hq762 : g761 mo = some (moE a 0 (nI e9) (nI e9) ((nI c9) + 1) (true && sz ((((v).1) + (((v).2.1) - gr.toInt64)) + 0)) ((((v).1) + (((v).2.1) - gr.toInt64)) + 0) ((v).2.1) ((v).2.2.1) gr.toInt64 md) := by rw [eg761]; exact hv_up_self _ _ _
                                      refine lv_aload_n hx hb d_Mo_pack_344 rfl (lv_at hl 2 rfl) ?_
                                      refine hv_get hE k_Mo hI 6 (by decide) w522 hq762 rfl d_Mo_pack_345 ?_
                                      refine lv_aload_n hx hb d_Mo_pack_348 rfl (lv_at hl 2 rfl) ?_
                                      refine hv_get hE k_Mo hI 5 (by decide) w521 hq762 rfl d_Mo_pack_349 ?_
                                      refine lv_aload_n hx hb d_Mo_pack_352 rfl (lv_at hl 2 rfl) ?_
                                      refine hv_get hE k_Mo hI 4 (by decide) w520 hq762 rfl d_Mo_pack_353 ?_
                                      have hq763 : g761 (a 2) = some (.inl (cA 0, 101, .inl (upd (fun b => nI (wF V b)) c9 (nI s9)))) := by rw [eg761, hv_up_ne _ _ (hnj.2 2 (by decide)), eg759, hv_up_ne _ _ (hnj.2 2 (by decide)), eg756, hv_up_ne _ _ (hnj.1 2 13 (by decide) (by decide) (by decide)), eg750, hv_up_ne _ _ (hnj.1 2 12 (by decide) (by decide) (by decide)), eg744, hv_up_ne _ _ (hnj.1 2 6 (by decide) (by decide) (by decide)), eg740, hv_up_ne _ _ (hnj.1 2 5 (by decide) (by decide) (by decide)), eg736, hv_up_ne _ _ (hnj.1 2 4 (by decide) (by decide) (by decide)), eg732, hv_up_ne _ _ (hnj.1 2 3 (by decide) (by decide) (by decide))]; exact hq729
                                      refine hv_iast hE hI 0 hq763 rfl (pk_in (c9 + 1) 101 (by omega) (nI_1 c9) (by omega)) d_Mo_pack_356 (fun H locs hI => ?_)
                                      rw [nI_1, nI_cl (by omega)] at hI
                                      obtain ⟨g764, eg764⟩ : ∃ z : hv_M, z = hv_up g761 (a 2) (.inl (cA 0, 101, .inl (upd (upd (fun b => nI (wF V b)) c9 (nI s9)) (c9 + 1) (nI e9)))) := ⟨_, rfl⟩
                                      have hI : hv_I D CL b0 g764 s.heap H locs := by rw [eg764]; exact hI
                                      have hq765 : g764 (a 2) = some (.inl (cA 0, 101, .inl (upd (upd (fun b => nI (wF V b)) c9 (nI s9)) (c9 + 1) (nI e9)))) := by rw [eg764]; exact hv_up_self _ _ _
                                      refine lv_iload hx hb d_Mo_pack_357 (lv_at hl 0 rfl) ?_
                                      have hq766 : g764 mo = some (moE a 0 (nI e9) (nI e9) ((nI c9) + 1) (true && sz ((((v).1) + (((v).2.1) - gr.toInt64)) + 0)) ((((v).1) + (((v).2.1) - gr.toInt64)) + 0) ((v).2.1) ((v).2.2.1) gr.toInt64 md) := by rw [eg764, hv_up_ne _ _ (Ne.symm (hnj.2 2 (by decide)))]; exact hq762
                                      have hq767 : g764 (a 0) = some (.inl (cA 0, 10200, .inl (wK V))) := by rw [eg764, hv_up_ne _ _ (hnj.1 0 2 (by decide) (by decide) (by decide)), eg761, hv_up_ne _ _ (hnj.2 0 (by decide)), eg759, hv_up_ne _ _ (hnj.2 0 (by decide)), eg756, hv_up_ne _ _ (hnj.1 0 13 (by decide) (by decide) (by decide))]; exact hq753
                                      have hq768 : g764 (a 1) = some (.inl (cA 0, 51000, .inl V.2.1)) := by rw [eg764, hv_up_ne _ _ (hnj.1 1 2 (by decide) (by decide) (by decide)), eg761, hv_up_ne _ _ (hnj.2 1 (by decide)), eg759, hv_up_ne _ _ (hnj.2 1 (by decide)), eg756, hv_up_ne _ _ (hnj.1 1 13 (by decide) (by decide) (by decide))]; exact hq754
                                      have hq769 : g764 (a 3) = some (.inl (cA 2, 100, .inl (upd (fun b => b2i (wB V b)) c9 (b2i bel)))) := by rw [eg764, hv_up_ne _ _ (hnj.1 3 2 (by decide) (by decide) (by decide)), eg761, hv_up_ne _ _ (hnj.2 3 (by decide)), eg759, hv_up_ne _ _ (hnj.2 3 (by decide)), eg756, hv_up_ne _ _ (hnj.1 3 13 (by decide) (by decide) (by decide)), eg750, hv_up_ne _ _ (hnj.1 3 12 (by decide) (by decide) (by decide)), eg744, hv_up_ne _ _ (hnj.1 3 6 (by decide) (by decide) (by decide)), eg740, hv_up_ne _ _ (hnj.1 3 5 (by decide) (by decide) (by decide)), eg736, hv_up_ne _ _ (hnj.1 3 4 (by decide) (by decide) (by decide))]; exact hq733
                                      have hq770 : g764 (a 4) = some (.inl (cA 0, 100, .inl (upd (wA V 0) c9 (((v).2.2.1).toInt32)))) := by rw [eg764, hv_up_ne _ _ (hnj.1 4 2 (by decide) (by decide) (by decide)), eg761, hv_up_ne _ _ (hnj.2 4 (by decide)), eg759, hv_up_ne _ _ (hnj.2 4 (by decide)), eg756, hv_up_ne _ _ (hnj.1 4 13 (by decide) (by decide) (by decide)), eg750, hv_up_ne _ _ (hnj.1 4 12 (by decide) (by decide) (by decide)), eg744, hv_up_ne _ _ (hnj.1 4 6 (by decide) (by decide) (by decide)), eg740, hv_up_ne _ _ (hnj.1 4 5 (by decide) (by decide) (by decide))]; exact hq737
                                      have hq771 : g764 (a 5) = some (.inl (cA 0, 100, .inl (upd (wA V 1) c9 (((((v).1) + (((v).2.1) - gr.toInt64)) + 0).toInt32)))) := by rw [eg764, hv_up_ne _ _ (hnj.1 5 2 (by decide) (by decide) (by decide)), eg761, hv_up_ne _ _ (hnj.2 5 (by decide)), eg759, hv_up_ne _ _ (hnj.2 5 (by decide)), eg756, hv_up_ne _ _ (hnj.1 5 13 (by decide) (by decide) (by decide)), eg750, hv_up_ne _ _ (hnj.1 5 12 (by decide) (by decide) (by decide)), eg744, hv_up_ne _ _ (hnj.1 5 6 (by decide) (by decide) (by decide))]; exact hq741
                                      have hq772 : g764 (a 6) = some (.inl (cA 0, 100, .inl (upd (wA V 2) c9 gr.toInt64.toInt32))) := by rw [eg764, hv_up_ne _ _ (hnj.1 6 2 (by decide) (by decide) (by decide)), eg761, hv_up_ne _ _ (hnj.2 6 (by decide)), eg759, hv_up_ne _ _ (hnj.2 6 (by decide)), eg756, hv_up_ne _ _ (hnj.1 6 13 (by decide) (by decide) (by decide)), eg750, hv_up_ne _ _ (hnj.1 6 12 (by decide) (by decide) (by decide))]; exact hq745
                                      have hq773 : g764 (a 7) = some (.inl (cA 0, 100, .inl (upd (wA V 3) c9 ((0 : Int64).toInt32)))) := by rw [eg764, hv_up_ne _ _ (hnj.1 7 2 (by decide) (by decide) (by decide)), eg761, hv_up_ne _ _ (hnj.2 7 (by decide)), eg759, hv_up_ne _ _ (hnj.2 7 (by decide)), eg756, hv_up_ne _ _ (hnj.1 7 13 (by decide) (by decide) (by decide)), eg750, hv_up_ne _ _ (hnj.1 7 12 (by decide) (by decide) (by decide)), eg744, hv_up_ne _ _ (hnj.1 7 6 (by decide) (by decide) (by decide)), eg740, hv_up_ne _ _ (hnj.1 7 5 (by decide) (by decide) (by decide)), eg736, hv_up_ne _ _ (hnj.1 7 4 (by decide) (by decide) (by decide)), eg732, hv_up_ne _ _ (hnj.1 7 3 (by decide) (by decide) (by decide)), eg728, hv_up_ne _ _ (hnj.1 7 2 (by decide) (by decide) (by decide))]; exact ha724
                                      have hq774 : g764 (a 8) = some (.inl (cA 0, 100, .inl (upd (wA V 4) c9 ((otF 0 ((v).2.2.2.2.1, (v).2.2.2.2.2)).1)))) := by rw [eg764, hv_up_ne _ _ (hnj.1 8 2 (by decide) (by decide) (by decide)), eg761, hv_up_ne _ _ (hnj.2 8 (by decide)), eg759, hv_up_ne _ _ (hnj.2 8 (by decide)), eg756, hv_up_ne _ _ (hnj.1 8 13 (by decide) (by decide) (by decide)), eg750, hv_up_ne _ _ (hnj.1 8 12 (by decide) (by decide) (by decide)), eg744, hv_up_ne _ _ (hnj.1 8 6 (by decide) (by decide) (by decide)), eg740, hv_up_ne _ _ (hnj.1 8 5 (by decide) (by decide) (by decide)), eg736, hv_up_ne _ _ (hnj.1 8 4 (by decide) (by decide) (by decide)), eg732, hv_up_ne _ _ (hnj.1 8 3 (by decide) (by decide) (by decide)), eg728, hv_up_ne _ _ (hnj.1 8 2 (by decide) (by decide) (by decide))]; exact hb724
                                      have hq775 : g764 (a 9) = some (.inl (cA 0, 100, .inl (upd (wA V 5) c9 ((otF 0 ((v).2.2.2.2.1, (v).2.2.2.2.2)).2)))) := by rw [eg764, hv_up_ne _ _ (hnj.1 9 2 (by decide) (by decide) (by decide)), eg761, hv_up_ne _ _ (hnj.2 9 (by decide)), eg759, hv_up_ne _ _ (hnj.2 9 (by decide)), eg756, hv_up_ne _ _ (hnj.1 9 13 (by decide) (by decide) (by decide)), eg750, hv_up_ne _ _ (hnj.1 9 12 (by decide) (by decide) (by decide)), eg744, hv_up_ne _ _ (hnj.1 9 6 (by decide) (by decide) (by decide)), eg740, hv_up_ne _ _ (hnj.1 9 5 (by decide) (by decide) (by decide)), eg736, hv_up_ne _ _ (hnj.1 9 4 (by decide) (by decide) (by decide)), eg732, hv_up_ne _ _ (hnj.1 9 3 (by decide) (by decide) (by decide)), eg728, hv_up_ne _ _ (hnj.1 9 2 (by decide) (by decide) (by decide))]; exact hc724
                                      have hq776 : g764 (a 10) = some (.inl (cA 0, 100, .inl (upd (wA V 6) c9 (baM 0 (otF 0 ((v).2.2.2.2.1, (v).2.2.2.2.2)))))) := by rw [eg764, hv_up_ne _ _ (hnj.1 10 2 (by decide) (by decide) (by decide)), eg761, hv_up_ne _ _ (hnj.2 10 (by decide)), eg759, hv_up_ne _ _ (hnj.2 10 (by decide)), eg756, hv_up_ne _ _ (hnj.1 10 13 (by decide) (by decide) (by decide)), eg750, hv_up_ne _ _ (hnj.1 10 12 (by decide) (by decide) (by decide)), eg744, hv_up_ne _ _ (hnj.1 10 6 (by decide) (by decide) (by decide)), eg740, hv_up_ne _ _ (hnj.1 10 5 (by decide) (by decide) (by decide)), eg736, hv_up_ne _ _ (hnj.1 10 4 (by decide) (by decide) (by decide)), eg732, hv_up_ne _ _ (hnj.1 10 3 (by decide) (by decide) (by decide)), eg728, hv_up_ne _ _ (hnj.1 10 2 (by decide) (by decide) (by decide))]; exact hd724
                                      have hq777 : g764 (a 11) = some (.inl (cA 0, 100, .inl (upd (wA V 7) c9 (ovM 0 (otF 0 ((v).2.2.2.2.1, (v).2.2.2.2.2)))))) := by rw [eg764, hv_up_ne _ _ (hnj.1 11 2 (by decide) (by decide) (by decide)), eg761, hv_up_ne _ _ (hnj.2 11 (by decide)), eg759, hv_up_ne _ _ (hnj.2 11 (by decide)), eg756, hv_up_ne _ _ (hnj.1 11 13 (by decide) (by decide) (by decide)), eg750, hv_up_ne _ _ (hnj.1 11 12 (by decide) (by decide) (by decide)), eg744, hv_up_ne _ _ (hnj.1 11 6 (by decide) (by decide) (by decide)), eg740, hv_up_ne _ _ (hnj.1 11 5 (by decide) (by decide) (by decide)), eg736, hv_up_ne _ _ (hnj.1 11 4 (by decide) (by decide) (by decide)), eg732, hv_up_ne _ _ (hnj.1 11 3 (by decide) (by decide) (by decide)), eg728, hv_up_ne _ _ (hnj.1 11 2 (by decide) (by decide) (by decide))]; exact he724
                                      have hq778 : g764 (a 12) = some (.inl (cA 0, 100, .inl (upd (wA V 8) c9 ((dL V s9 (e9 - s9)) + 1)))) := by rw [eg764, hv_up_ne _ _ (hnj.1 12 2 (by decide) (by decide) (by decide)), eg761, hv_up_ne _ _ (hnj.2 12 (by decide)), eg759, hv_up_ne _ _ (hnj.2 12 (by decide)), eg756, hv_up_ne _ _ (hnj.1 12 13 (by decide) (by decide) (by decide))]; exact hq751
                                      have hq779 : g764 (a 13) = some (.inl (cA 0, 100, .inl (upd (wA V 9) c9 (cA9 V s9 (e9 - s9))))) := by rw [eg764, hv_up_ne _ _ (hnj.1 13 2 (by decide) (by decide) (by decide)), eg761, hv_up_ne _ _ (hnj.2 13 (by decide)), eg759, hv_up_ne _ _ (hnj.2 13 (by decide))]; exact hq757
                                      have hq780 : g764 (a 14) = some (.inl (cA 1, 4, .inr (.inl (v).2.2.2.2.1))) := by rw [eg764, hv_up_ne _ _ (hnj.1 14 2 (by decide) (by decide) (by decide)), eg761, hv_up_ne _ _ (hnj.2 14 (by decide)), eg759, hv_up_ne _ _ (hnj.2 14 (by decide)), eg756, hv_up_ne _ _ (hnj.1 14 13 (by decide) (by decide) (by decide)), eg750, hv_up_ne _ _ (hnj.1 14 12 (by decide) (by decide) (by decide)), eg744, hv_up_ne _ _ (hnj.1 14 6 (by decide) (by decide) (by decide)), eg740, hv_up_ne _ _ (hnj.1 14 5 (by decide) (by decide) (by decide)), eg736, hv_up_ne _ _ (hnj.1 14 4 (by decide) (by decide) (by decide)), eg732, hv_up_ne _ _ (hnj.1 14 3 (by decide) (by decide) (by decide)), eg728, hv_up_ne _ _ (hnj.1 14 2 (by decide) (by decide) (by decide)), ho9724 _ (hnj.1 14 7 (by decide) (by decide) (by decide)) (hnj.1 14 8 (by decide) (by decide) (by decide)) (hnj.1 14 9 (by decide) (by decide) (by decide)) (hnj.1 14 10 (by decide) (by decide) (by decide)) (hnj.1 14 11 (by decide) (by decide) (by decide))]; exact hq721
                                      have hq781 : g764 (a 15) = some (.inl (cA 1, 4, .inr (.inl (v).2.2.2.2.2))) := by rw [eg764, hv_up_ne _ _ (hnj.1 15 2 (by decide) (by decide) (by decide)), eg761, hv_up_ne _ _ (hnj.2 15 (by decide)), eg759, hv_up_ne _ _ (hnj.2 15 (by decide)), eg756, hv_up_ne _ _ (hnj.1 15 13 (by decide) (by decide) (by decide)), eg750, hv_up_ne _ _ (hnj.1 15 12 (by decide) (by decide) (by decide)), eg744, hv_up_ne _ _ (hnj.1 15 6 (by decide) (by decide) (by decide)), eg740, hv_up_ne _ _ (hnj.1 15 5 (by decide) (by decide) (by decide)), eg736, hv_up_ne _ _ (hnj.1 15 4 (by decide) (by decide) (by decide)), eg732, hv_up_ne _ _ (hnj.1 15 3 (by decide) (by decide) (by decide)), eg728, hv_up_ne _ _ (hnj.1 15 2 (by decide) (by decide) (by decide)), ho9724 _ (hnj.1 15 7 (by decide) (by decide) (by decide)) (hnj.1 15 8 (by decide) (by decide) (by decide)) (hnj.1 15 9 (by decide) (by decide) (by decide)) (hnj.1 15 10 (by decide) (by decide) (by decide)) (hnj.1 15 11 (by decide) (by decide) (by decide))]; exact hq722
                                      have hat : atM V bel how size gr s9 (e9 - s9) v = fun j => [(((v).2.2.1).toInt32), (((((v).1) + (((v).2.1) - gr.toInt64)) + 0).toInt32), gr.toInt64.toInt32, (0 : Int64).toInt32, (otF 0 ((v).2.2.2.2.1, (v).2.2.2.2.2)).1, (otF 0 ((v).2.2.2.2.1, (v).2.2.2.2.2)).2, baM 0 (otF 0 ((v).2.2.2.2.1, (v).2.2.2.2.2)), ovM 0 (otF 0 ((v).2.2.2.2.1, (v).2.2.2.2.2)), ((dL V s9 (e9 - s9)) + 1), (cA9 V s9 (e9 - s9))].getD j 0 := by funext j9; simp only [atM, hln, hex, hun]; simp only [k99, if_true, if_false, Bool.false_eq_true]
                                      exact hv_iret hE hr hlocks hI hK (v := nI c9) ((show _ ∨ _ by rw [← ev, ← eG]; exact Or.inr (Or.inr (Or.inr ⟨(by simp [okPack, c2, n2, c7, n7, k15, k24]), hcc, c46, by rw [hgd, k172, k180]; simpa using k201, rfl, ⟨_, ((((v).1) + (((v).2.1) - gr.toInt64)) + 0, (v).2.1, (v).2.2.1, gr.toInt64, (v).2.2.2.2.1, (v).2.2.2.2.2), by rw [← nI_1]; exact hq766, hq780, hq781⟩, by rw [hat]; exact ⟨hq767, hq768, by rw [← pkW_F]; exact hq765, by rw [← pkW_B]; exact hq769, fun j hj => match j, hj with | 0, _ => hq770 | 1, _ => hq771 | 2, _ => hq772 | 3, _ => hq773 | 4, _ => hq774 | 5, _ => hq775 | 6, _ => hq776 | 7, _ => hq777 | 8, _ => hq778 | 9, _ => hq779 | j + 10, h9 => absurd h9 (by omega)⟩, fun z z1 hz => by rw [eg764, hv_up_ne _ _ (hz 2 (by decide) (by decide)), eg761, hv_up_ne _ _ z1, eg759, hv_up_ne _ _ z1, eg756, hv_up_ne _ _ (hz 13 (by decide) (by decide)), eg750, hv_up_ne _ _ (hz 12 (by decide) (by decide)), eg744, hv_up_ne _ _ (hz 6 (by decide) (by decide)), eg740, hv_up_ne _ _ (hz 5 (by decide) (by decide)), eg736, hv_up_ne _ _ (hz 4 (by decide) (by decide)), eg732, hv_up_ne _ _ (hz 3 (by decide) (by decide)), eg728, hv_up_ne _ _ (hz 2 (by decide) (by decide)), ho9724 _ (hz 7 (by decide) (by decide)) (hz 8 (by decide) (by decide)) (hz 9 (by decide) (by decide)) (hz 10 (by decide) (by decide)) (hz 11 (by decide) (by decide)), ho9719 _ z1, eg717, hv_up_ne _ _ z1, ho9529 _ z1, eg527, hv_up_ne _ _ z1, eg270, hv_up_ne _ _ z1]; exact hfo z z1 (hz 14 (by decide) (by decide)) (hz 15 (by decide) (by decide))⟩)))) (by decide) (by decide) d_Mo_pack_359
                                · skip
                                  have k201 := b2i_f c201
                                  refine lv_aload_n hx hb d_Mo_pack_204 rfl (lv_at hl 1 rfl) ?_
                                  refine lv_iconst (v := 3) hx hb d_Mo_pack_205 (by decide) ?_
                                  refine hv_put hE k_Mo hI 0 (by decide) w516 hg719 rfl rfl rfl (Nat.le_of_ble_eq_true rfl) d_Mo_pack_206 (fun H locs hI => ?_)
                                  obtain ⟨g782, eg782⟩ : ∃ z : hv_M, z = hv_up g720 mo (moE a 3 (nI s9) (nI e9) (nI c9) (true && sz ((((v).1) + (((v).2.1) - gr.toInt64)) + 0)) ((((v).1) + (((v).2.1) - gr.toInt64)) + 0) ((v).2.1) ((v).2.2.1) gr.toInt64 md) := ⟨_, rfl⟩
                                  have hI : hv_I D CL b0 g782 s.heap H locs := by rw [eg782]; exact hI
                                  have hq783 : g782 mo = some (moE a 3 (nI s9) (nI e9) (nI c9) (true && sz ((((v).1) + (((v).2.1) - gr.toInt64)) + 0)) ((((v).1) + (((v).2.1) - gr.toInt64)) + 0) ((v).2.1) ((v).2.2.1) gr.toInt64 md) := by rw [eg782]; exact hv_up_self _ _ _
                                  refine lv_iconst (v := 0) hx hb d_Mo_pack_209 (by decide) ?_
                                  have hq784 : g782 (a 14) = some (.inl (cA 1, 4, .inr (.inl (v).2.2.2.2.1))) := by rw [eg782, hv_up_ne _ _ (hnj.2 14 (by decide)), ho9719 _ (hnj.2 14 (by decide)), eg717, hv_up_ne _ _ (hnj.2 14 (by decide)), ho9529 _ (hnj.2 14 (by decide)), eg527, hv_up_ne _ _ (hnj.2 14 (by decide)), eg270, hv_up_ne _ _ (hnj.2 14 (by decide))]; exact hs.2.1
                                  have hq785 : g782 (a 15) = some (.inl (cA 1, 4, .inr (.inl (v).2.2.2.2.2))) := by rw [eg782, hv_up_ne _ _ (hnj.2 15 (by decide)), ho9719 _ (hnj.2 15 (by decide)), eg717, hv_up_ne _ _ (hnj.2 15 (by decide)), ho9529 _ (hnj.2 15 (by decide)), eg527, hv_up_ne _ _ (hnj.2 15 (by decide)), eg270, hv_up_ne _ _ (hnj.2 15 (by decide))]; exact hs.2.2
                                  exact hv_iret hE hr hlocks hI hK (v := 0) ((show _ ∨ _ by rw [← ev, ← eG]; exact Or.inr (Or.inr (Or.inl ⟨(by simp [okPack, c2, n2, c7, n7, k15, k24]), hcc, c46, by rw [hgd, k172, k180]; simpa using k201, rfl, ⟨_, ((((v).1) + (((v).2.1) - gr.toInt64)) + 0, (v).2.1, (v).2.2.1, gr.toInt64, (v).2.2.2.2.1, (v).2.2.2.2.2), hq783, hq784, hq785⟩, fun z z1 z2 z3 => by rw [eg782, hv_up_ne _ _ z1, ho9719 _ z1, eg717, hv_up_ne _ _ z1, ho9529 _ z1, eg527, hv_up_ne _ _ z1, eg270, hv_up_ne _ _ z1]; exact hfo z z1 z2 z3⟩)))) (by decide) (by decide) d_Mo_pack_210
                    · skip
                      have n82 := Int32.not_le.mp c82
                      exact absurd (nI_le (by omega) (by omega)) c82
                  | succ k ih =>
                    intro i  g H locs ls hik hs hfo hI hl
                    have hAg : moA cA g a V := ⟨by rw [hfo _ (hnj.2 0 (by decide)) (hnj.1 0 14 (by decide) (by decide) (by decide)) (hnj.1 0 15 (by decide) (by decide) (by decide))]; exact hA.1, by rw [hfo _ (hnj.2 1 (by decide)) (hnj.1 1 14 (by decide) (by decide) (by decide)) (hnj.1 1 15 (by decide) (by decide) (by decide))]; exact hA.2.1, by rw [hfo _ (hnj.2 2 (by decide)) (hnj.1 2 14 (by decide) (by decide) (by decide)) (hnj.1 2 15 (by decide) (by decide) (by decide))]; exact hA.2.2.1, by rw [hfo _ (hnj.2 3 (by decide)) (hnj.1 3 14 (by decide) (by decide) (by decide)) (hnj.1 3 15 (by decide) (by decide) (by decide))]; exact hA.2.2.2.1, fun j9 hj9 => by rw [hfo _ (hnj.2 (4 + j9) (by omega)) (hnj.1 (4 + j9) 14 (by omega) (by decide) (by omega)) (hnj.1 (4 + j9) 15 (by omega) (by decide) (by omega))]; exact hA.2.2.2.2 j9 hj9⟩
                    refine lv_iload hx hb d_Mo_pack_76 (lv_at hl 5 rfl) ?_
                    refine lv_aload_n hx hb d_Mo_pack_78 rfl (lv_at hl 0 rfl) ?_
                    refine hv_get hE k_Mo hI 4 (by decide) w520 hs.1 rfl d_Mo_pack_79 ?_
                    refine lv_icmp_ge (tgt := 98) hx hb d_Mo_pack_82 (by decide) (fun c82 => ?_) (fun c82 => ?_)
                    · skip
                      have n82 := Int32.not_lt.mpr c82
                      exact absurd c82 (nI_ge (by omega) (by omega))
                    · skip
                      have n82 := Int32.not_le.mp c82
                      refine lv_aload_n hx hb d_Mo_pack_85 rfl (lv_at hl 0 rfl) ?_
                      refine lv_iload hx hb d_Mo_pack_86 (lv_at hl 5 rfl) ?_
                      refine lv_iload_n hx hb d_Mo_pack_88 rfl (lv_at hl 1 rfl) ?_
                      refine hv_V (As := [.int (nI (s9 + i)), .int (b2i bel)]) (rest := []) hE hml hK hI (c_Mo_add l hl0 b0 D cA g mo a 0 (nI s9) (nI e9) (nI c9) (gL V bel s9 i) md (fL V bel s9 i) V (s9 + i) bel hs hnj hAg (by omega) (hiN i (by omega)).1 (hiN i (by omega)).2) cd_Mo_add w672 w674 ws23 hs.1 rfl rfl hl.1 (Nat.le_of_ble_eq_true rfl) d_Mo_pack_89 ⟨by decide, by decide⟩ ⟨by decide, by decide⟩ (fun v9 g787 H locs hp hI => ?_) (fun q9 E9 ce9 g9 H locs hp => hp.elim)
                      obtain ⟨hv, hs786, ho9786⟩ := hp
                      rw [hv]
                      refine W.eq (g2 := F0 m 92 ls []) rfl ?_
                      obtain ⟨v788, ev788⟩ : ∃ y : Int32, y = (nI (s9 + i)) + 1 := ⟨_, rfl⟩
                      refine lv_iinc (v := v788) (lv' := [(5, .int v788), (0, .ref mo), (1, .int (b2i bel)), (2, .int how), (3, .int size), (4, .int gr)]) hx hb d_Mo_pack_92 hl (k := 5) rfl (by rw [ev788]; rfl) (by decide) rfl (fun ls hl => ?_)
                      refine lv_goto (tgt := 76) hx hb d_Mo_pack_95 (by decide) ?_
                      exact ih (i + 1) _ _ _ ls (by omega) hs786 (fun z z1 z2 z3 => by rw [ho9786 _ z1 z2 z3]; exact hfo z z1 z2 z3) hI (by rw [show nI (s9 + (i + 1)) = v788 from by rw [ev788, nI_1]; rfl]; exact lv_sub hl [1, 2, 3, 4, 5, 0] rfl)
                exact loop (e9 - s9) 0 _ _ _ ls (by omega) hs13 (fun z z1 z2 z3 => by rw [ho913 _ z1 z2 z3, eg9, hv_up_ne _ _ z1]) hI (lv_sub hl [1, 2, 3, 4, 5, 0] rfl)
              · skip
                exact absurd (by decide) c61
            · skip
              refine lv_iconst (v := 2) hx hb d_Mo_pack_49 (by decide) ?_
              refine lv_goto (tgt := 54) hx hb d_Mo_pack_50 (by decide) ?_
              refine hv_put hE k_Mo hI 0 (by decide) w516 hmo rfl rfl rfl (Nat.le_of_ble_eq_true rfl) d_Mo_pack_54 (fun H locs hI => ?_)
              obtain ⟨g789, eg789⟩ : ∃ z : hv_M, z = hv_up f mo (moE a 2 (nI s9) (nI e9) (nI c9) gd ln bf ac un md) := ⟨_, rfl⟩
              have hI : hv_I D CL b0 g789 s.heap H locs := by rw [eg789]; exact hI
              have hq790 : g789 mo = some (moE a 2 (nI s9) (nI e9) (nI c9) gd ln bf ac un md) := by rw [eg789]; exact hv_up_self _ _ _
              refine lv_aload_n hx hb d_Mo_pack_57 rfl (lv_at hl 0 rfl) ?_
              refine hv_get hE k_Mo hI 0 (by decide) w516 hq790 rfl d_Mo_pack_58 ?_
              refine lv_if_le (tgt := 66) hx hb d_Mo_pack_61 (by decide) (fun c61 => ?_) (fun c61 => ?_)
              · skip
                exact absurd c61 (by decide)
              · skip
                have n61 := Int32.not_le.mp c61
                refine lv_iconst (v := 0) hx hb d_Mo_pack_64 (by decide) ?_
                exact hv_iret hE hr hlocks hI hK (v := 0) (Or.inr (Or.inl ⟨(by simp [okPack, c2, n2, c7, n7, k15, k24]), Or.inr ⟨hcc, c46⟩, rfl, hq790, fun z z1 => by rw [eg789, hv_up_ne _ _ z1]⟩)) (by decide) (by decide) d_Mo_pack_65
        · skip
          have k24 := b2i_f c24
          refine lv_iconst (v := 1) hx hb d_Mo_pack_27 (by decide) ?_
          refine lv_goto (tgt := 54) hx hb d_Mo_pack_28 (by decide) ?_
          refine hv_put hE k_Mo hI 0 (by decide) w516 hmo rfl rfl rfl (Nat.le_of_ble_eq_true rfl) d_Mo_pack_54 (fun H locs hI => ?_)
          obtain ⟨g791, eg791⟩ : ∃ z : hv_M, z = hv_up f mo (moE a 1 (nI s9) (nI e9) (nI c9) gd ln bf ac un md) := ⟨_, rfl⟩
          have hI : hv_I D CL b0 g791 s.heap H locs := by rw [eg791]; exact hI
          have hq792 : g791 mo = some (moE a 1 (nI s9) (nI e9) (nI c9) gd ln bf ac un md) := by rw [eg791]; exact hv_up_self _ _ _
          refine lv_aload_n hx hb d_Mo_pack_57 rfl (lv_at hl 0 rfl) ?_
          refine hv_get hE k_Mo hI 0 (by decide) w516 hq792 rfl d_Mo_pack_58 ?_
          refine lv_if_le (tgt := 66) hx hb d_Mo_pack_61 (by decide) (fun c61 => ?_) (fun c61 => ?_)
          · skip
            exact absurd c61 (by decide)
          · skip
            have n61 := Int32.not_le.mp c61
            refine lv_iconst (v := 0) hx hb d_Mo_pack_64 (by decide) ?_
            exact hv_iret hE hr hlocks hI hK (v := 0) (Or.inl ⟨(by simp [okPack, c2, n2, c7, n7, k15, k24]), rfl, hq792, fun z z1 => by rw [eg791, hv_up_ne _ _ z1]⟩) (by decide) (by decide) d_Mo_pack_65

