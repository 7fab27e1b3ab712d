/-! ===== the reference: one item more ===== -/
def scr (cA : Nat → ClassId) (f : hv_M) (mo : Nat) (a : Nat → Nat) (th st en ct md : Int32) (gd : Bool) (v : Vl) : Prop :=
  f mo = some (moE a th st en ct gd v.1 v.2.1 v.2.2.1 v.2.2.2.1 md) ∧ f (a 14) = some (.inl (cA 1, 4, .inr (.inl v.2.2.2.2.1))) ∧ f (a 15) = some (.inl (cA 1, 4, .inr (.inl v.2.2.2.2.2)))
theorem isSo_4 {V : Wd} {k : Nat} (h : isSo V k = true) (h0 : ¬ wK V k = 0) (h1 : ¬ wK V k = 1) : wK V k = 4 := by
  simpa [isSo, h0, h1] using h

set_option maxHeartbeats 4000000 in
set_option maxRecDepth 100000 in
theorem c_Mo_clear (l : Launch) (hl0 : l.stackTraces = false) (b0 : Nat) (D : va_G) (cA : Nat → ClassId) (f : hv_M) (mo : Nat) (a : Nat → Nat) (th st en ct : Int32) (gd : Bool) (ln bf ac un : Int64) (md : Int32) (s1 s2 : Nat → Int64) (hmo : f mo = some (moE a th st en ct gd ln bf ac un md)) (hnj : moN mo a) (h14 : f (a 14) = some (.inl (cA 1, 4, .inr (.inl s1)))) (h15 : f (a 15) = some (.inl (cA 1, 4, .inr (.inl s2)))) : hv_Met l y_Mo_clear [Cond.code y_Mo_clear b_Mo_clear 2 none] (RM 0 0 0) b0 (Fa D cA) D CL [.ref mo] f (fun v g => v = none ∧ scr cA g mo a th st en ct md true v0 ∧ ∀ z, z ≠ mo → z ≠ a 14 → z ≠ a 15 → g z = f z) (NX) := by
  refine hv_Met.of (own := "BoxPackerModel") (by decide) rfl (Nat.le_of_ble_eq_true rfl) ?_
  intro p e s m below meth c hE hml hout hr hlocks hname hK hI ls hl
  have hl : lv_has ls 2 [(0, .ref mo)] := hl
  obtain ⟨hx, hb, hown, hts, hVK⟩ := id hE
  refine lv_aload_n hx hb d_Mo_clear_0 rfl (lv_at hl 0 rfl) ?_
  refine lv_iconst (v := 1) hx hb d_Mo_clear_1 (by decide) ?_
  refine hv_put hE k_Mo hI 18 (by decide) w534 hmo rfl rfl rfl (Nat.le_of_ble_eq_true rfl) d_Mo_clear_2 (fun H locs hI => ?_)
  obtain ⟨g1, eg1⟩ : ∃ z : hv_M, z = hv_up f mo (moE a th st en ct true ln bf ac un md) := ⟨_, rfl⟩
  have hI : hv_I D CL b0 g1 s.heap H locs := by rw [eg1]; exact hI
  have hq2 : g1 mo = some (moE a th st en ct true ln bf ac un md) := by rw [eg1]; exact hv_up_self _ _ _
  refine lv_aload_n hx hb d_Mo_clear_5 rfl (lv_at hl 0 rfl) ?_
  refine lv_lconst (v := 0) hx hb d_Mo_clear_6 (by decide) ?_
  refine hv_put hE k_Mo hI 19 (by decide) w535 hq2 rfl rfl rfl (Nat.le_of_ble_eq_true rfl) d_Mo_clear_7 (fun H locs hI => ?_)
  obtain ⟨g3, eg3⟩ : ∃ z : hv_M, z = hv_up g1 mo (moE a th st en ct true 0 bf ac un md) := ⟨_, rfl⟩
  have hI : hv_I D CL b0 g3 s.heap H locs := by rw [eg3]; exact hI
  have hq4 : g3 mo = some (moE a th st en ct true 0 bf ac un md) := by rw [eg3]; exact hv_up_self _ _ _
  refine lv_aload_n hx hb d_Mo_clear_10 rfl (lv_at hl 0 rfl) ?_
  refine lv_lconst (v := 0) hx hb d_Mo_clear_11 (by decide) ?_
  refine hv_put hE k_Mo hI 20 (by decide) w536 hq4 rfl rfl rfl (Nat.le_of_ble_eq_true rfl) d_Mo_clear_12 (fun H locs hI => ?_)
  obtain ⟨g5, eg5⟩ : ∃ z : hv_M, z = hv_up g3 mo (moE a th st en ct true 0 0 ac un md) := ⟨_, rfl⟩
  have hI : hv_I D CL b0 g5 s.heap H locs := by rw [eg5]; exact hI
  have hq6 : g5 mo = some (moE a th st en ct true 0 0 ac un md) := by rw [eg5]; exact hv_up_self _ _ _
  refine lv_aload_n hx hb d_Mo_clear_15 rfl (lv_at hl 0 rfl) ?_
  refine lv_lconst (v := 0) hx hb d_Mo_clear_16 (by decide) ?_
  refine hv_put hE k_Mo hI 21 (by decide) w537 hq6 rfl rfl rfl (Nat.le_of_ble_eq_true rfl) d_Mo_clear_17 (fun H locs hI => ?_)
  obtain ⟨g7, eg7⟩ : ∃ z : hv_M, z = hv_up g5 mo (moE a th st en ct true 0 0 0 un md) := ⟨_, rfl⟩
  have hI : hv_I D CL b0 g7 s.heap H locs := by rw [eg7]; exact hI
  have hq8 : g7 mo = some (moE a th st en ct true 0 0 0 un md) := by rw [eg7]; exact hv_up_self _ _ _
  refine lv_aload_n hx hb d_Mo_clear_20 rfl (lv_at hl 0 rfl) ?_
  refine lv_lconst (v := 0) hx hb d_Mo_clear_21 (by decide) ?_
  refine hv_put hE k_Mo hI 22 (by decide) w538 hq8 rfl rfl rfl (Nat.le_of_ble_eq_true rfl) d_Mo_clear_22 (fun H locs hI => ?_)
  obtain ⟨g9, eg9⟩ : ∃ z : hv_M, z = hv_up g7 mo (moE a th st en ct true 0 0 0 0 md) := ⟨_, rfl⟩
  have hI : hv_I D CL b0 g9 s.heap H locs := by rw [eg9]; exact hI
  have hq10 : g9 mo = some (moE a th st en ct true 0 0 0 0 md) := by rw [eg9]; exact hv_up_self _ _ _
  refine lv_iconst (v := 0) hx hb d_Mo_clear_25 (by decide) ?_
  refine lv_istore_n (lv' := [(1, .int 0), (0, .ref mo)]) hx hb d_Mo_clear_26 rfl hl (by decide) rfl (fun ls hl => ?_)
  have loop : ∀ (k i : Nat) (t1 t2 : Nat → Int64) (g : hv_M) (H : Heap) (locs : List Loc) (ls : Array Slot), i + k = 4 → g mo = some (moE a th st en ct true 0 0 0 0 md) → g (a 14) = some (.inl (cA 1, 4, .inr (.inl t1))) → g (a 15) = some (.inl (cA 1, 4, .inr (.inl t2))) → (∀ j, j < i → t1 j = 0 ∧ t2 j = 0) → (∀ z, z ≠ mo → z ≠ a 14 → z ≠ a 15 → g z = f z) → hv_I D CL b0 g s.heap H locs → lv_has ls 2 [(0, .ref mo), (1, .int (nI i))] → W p l e (RM 0 0 0) s m ([.ref mo] : List Value).toArray below meth c H locs (0) (0) (xh_MQ below (hv_Q b0 (Fa D cA) D CL (fun v g => v = none ∧ scr cA g mo a th st en ct md true v0 ∧ ∀ z, z ≠ mo → z ≠ a 14 → z ≠ a 15 → g z = f z) (NX)) s 0 0 (fun q => b0 ≤ q)) (F0 m 27 ls []) := by
    intro k
    induction k with
    | zero =>
      intro i t1 t2 g H locs ls hik hgm hg1 hg2 hz hfo hI hl
      refine lv_iload_n hx hb d_Mo_clear_27 rfl (lv_at hl 1 rfl) ?_
      refine lv_iconst (v := 4) hx hb d_Mo_clear_28 (by decide) ?_
      refine lv_icmp_ge (tgt := 52) hx hb d_Mo_clear_29 (by decide) (fun c29 => ?_) (fun c29 => ?_)
      · skip
        have n29 := Int32.not_lt.mpr c29
        have hI2 := (hI.sameL hg1 (g' := fun _ => 0) (fun j hj => (hz j (by omega)).1)).sameL (q := a 15) (g := t2) (g' := fun _ => 0) (by rw [hv_up_ne _ _ (hnj.1 15 14 (by decide) (by decide) (by decide))]; exact hg2) (fun j hj => (hz j (by omega)).2)
        exact hv_vret hE hr hlocks hI2 hK ⟨rfl, ⟨by rw [hv_up_ne _ _ (Ne.symm (hnj.2 15 (by decide))), hv_up_ne _ _ (Ne.symm (hnj.2 14 (by decide)))]; exact hgm, by rw [hv_up_ne _ _ (hnj.1 14 15 (by decide) (by decide) (by decide))]; exact hv_up_self _ _ _, hv_up_self _ _ _⟩, fun z z1 z2 z3 => by rw [hv_up_ne _ _ z3, hv_up_ne _ _ z2]; exact hfo z z1 z2 z3⟩ (by decide) (by decide) d_Mo_clear_52
      · skip
        have n29 := Int32.not_le.mp c29
        exact absurd (show (4 : Int32) ≤ nI i from nI_le (a := 4) (by omega) (by omega)) c29
    | succ k ih =>
      intro i t1 t2 g H locs ls hik hgm hg1 hg2 hz hfo hI hl
      refine lv_iload_n hx hb d_Mo_clear_27 rfl (lv_at hl 1 rfl) ?_
      refine lv_iconst (v := 4) hx hb d_Mo_clear_28 (by decide) ?_
      refine lv_icmp_ge (tgt := 52) hx hb d_Mo_clear_29 (by decide) (fun c29 => ?_) (fun c29 => ?_)
      · skip
        have n29 := Int32.not_lt.mpr c29
        exact absurd c29 (nI_ge (b := 4) (by omega) (by omega))
      · skip
        have n29 := Int32.not_le.mp c29
        refine lv_aload_n hx hb d_Mo_clear_32 rfl (lv_at hl 0 rfl) ?_
        refine hv_get hE k_Mo hI 23 (by decide) w539 hgm rfl d_Mo_clear_33 ?_
        refine lv_iload_n hx hb d_Mo_clear_36 rfl (lv_at hl 1 rfl) ?_
        refine lv_lconst (v := 0) hx hb d_Mo_clear_37 (by decide) ?_
        refine hv_last hE hI 1 hg1 rfl (pk_in i 4 (by omega) rfl (by omega)) d_Mo_clear_38 (fun H locs hI => ?_)
        rw [nI_cl (by omega)] at hI
        obtain ⟨g11, eg11⟩ : ∃ z : hv_M, z = hv_up g (a 14) (.inl (cA 1, 4, .inr (.inl (vp_updL t1 i 0)))) := ⟨_, rfl⟩
        have hI : hv_I D CL b0 g11 s.heap H locs := by rw [eg11]; exact hI
        have hq12 : g11 (a 14) = some (.inl (cA 1, 4, .inr (.inl (vp_updL t1 i 0)))) := by rw [eg11]; exact hv_up_self _ _ _
        refine lv_aload_n hx hb d_Mo_clear_39 rfl (lv_at hl 0 rfl) ?_
        have hq13 : g11 mo = some (moE a th st en ct true 0 0 0 0 md) := by rw [eg11, hv_up_ne _ _ (Ne.symm (hnj.2 14 (by decide)))]; exact hgm
        refine hv_get hE k_Mo hI 24 (by decide) w540 hq13 rfl d_Mo_clear_40 ?_
        refine lv_iload_n hx hb d_Mo_clear_43 rfl (lv_at hl 1 rfl) ?_
        refine lv_lconst (v := 0) hx hb d_Mo_clear_44 (by decide) ?_
        have hq14 : g11 (a 15) = some (.inl (cA 1, 4, .inr (.inl t2))) := by rw [eg11, hv_up_ne _ _ (hnj.1 15 14 (by decide) (by decide) (by decide))]; exact hg2
        refine hv_last hE hI 1 hq14 rfl (pk_in i 4 (by omega) rfl (by omega)) d_Mo_clear_45 (fun H locs hI => ?_)
        rw [nI_cl (by omega)] at hI
        obtain ⟨g15, eg15⟩ : ∃ z : hv_M, z = hv_up g11 (a 15) (.inl (cA 1, 4, .inr (.inl (vp_updL t2 i 0)))) := ⟨_, rfl⟩
        have hI : hv_I D CL b0 g15 s.heap H locs := by rw [eg15]; exact hI
        have hq16 : g15 (a 15) = some (.inl (cA 1, 4, .inr (.inl (vp_updL t2 i 0)))) := by rw [eg15]; exact hv_up_self _ _ _
        obtain ⟨v17, ev17⟩ : ∃ y : Int32, y = (nI i) + 1 := ⟨_, rfl⟩
        refine lv_iinc (v := v17) (lv' := [(1, .int v17), (0, .ref mo)]) hx hb d_Mo_clear_46 hl (k := 1) rfl (by rw [ev17]; rfl) (by decide) rfl (fun ls hl => ?_)
        refine lv_goto (tgt := 27) hx hb d_Mo_clear_49 (by decide) ?_
        have hq18 : g15 mo = some (moE a th st en ct true 0 0 0 0 md) := by rw [eg15, hv_up_ne _ _ (Ne.symm (hnj.2 15 (by decide)))]; exact hq13
        have hq19 : g15 (a 14) = some (.inl (cA 1, 4, .inr (.inl (vp_updL t1 i 0)))) := by rw [eg15, hv_up_ne _ _ (hnj.1 14 15 (by decide) (by decide) (by decide))]; exact hq12
        exact ih (i + 1) _ _ _ _ _ ls (by omega) hq18 hq19 hq16 (fun j hj => by by_cases hji : j = i; (subst hji; exact ⟨by simp [vp_updL], by simp [vp_updL]⟩); (exact ⟨by simp [vp_updL, hji]; exact (hz j (by omega)).1, by simp [vp_updL, hji]; exact (hz j (by omega)).2⟩)) (fun z z1 z2 z3 => by rw [eg15, hv_up_ne _ _ z3, eg11, hv_up_ne _ _ z2]; exact hfo z z1 z2 z3) hI (by rw [← nI_1, ← ev17]; exact lv_sub hl [1, 0] rfl)
  have hq20 : g9 (a 14) = some (.inl (cA 1, 4, .inr (.inl s1))) := by rw [eg9, hv_up_ne _ _ (hnj.2 14 (by decide)), eg7, hv_up_ne _ _ (hnj.2 14 (by decide)), eg5, hv_up_ne _ _ (hnj.2 14 (by decide)), eg3, hv_up_ne _ _ (hnj.2 14 (by decide)), eg1, hv_up_ne _ _ (hnj.2 14 (by decide))]; exact h14
  have hq21 : g9 (a 15) = some (.inl (cA 1, 4, .inr (.inl s2))) := by rw [eg9, hv_up_ne _ _ (hnj.2 15 (by decide)), eg7, hv_up_ne _ _ (hnj.2 15 (by decide)), eg5, hv_up_ne _ _ (hnj.2 15 (by decide)), eg3, hv_up_ne _ _ (hnj.2 15 (by decide)), eg1, hv_up_ne _ _ (hnj.2 15 (by decide))]; exact h15
  exact loop 4 0 s1 s2 _ _ _ ls (by omega) hq10 hq20 hq21 (fun j hj => absurd hj (Nat.not_lt_zero j)) (fun z z1 z2 z3 => by rw [eg9, hv_up_ne _ _ z1, eg7, hv_up_ne _ _ z1, eg5, hv_up_ne _ _ z1, eg3, hv_up_ne _ _ z1, eg1, hv_up_ne _ _ z1]) hI (lv_sub hl [1, 0] rfl)

set_option maxHeartbeats 4000000 in
set_option maxRecDepth 100000 in
theorem c_Mo_addSolid (l : Launch) (hl0 : l.stackTraces = false) (b0 : Nat) (D : va_G) (cA : Nat → ClassId) (f : hv_M) (mo : Nat) (a : Nat → Nat) (th st en ct : Int32) (gd : Bool) (md : Int32) (v : Vl) (V : Wd) (k : Nat) (bel : Bool) (hmo : f mo = some (moE a th st en ct gd v.1 v.2.1 v.2.2.1 v.2.2.2.1 md)) (hnj : moN mo a) (hA : moA cA f a V) (hk : k < 10200) (hin : ¬ wK V k = 0 → ¬ wK V k = 1 → wI V k < 100 ∧ wN V k 0 = nI (wI V k)) : hv_Met l y_Mo_addSolid [Cond.code y_Mo_addSolid b_Mo_addSolid 4 none] (RM 3 0 0) b0 (Fa D cA) D CL [.ref mo, .int (nI k), .int (b2i bel)] f (fun v9 g => v9 = none ∧ g mo = some (moE a th st en ct (gd && ckS V bel k v) ((stS V bel k v).1) ((stS V bel k v).2.1) ((stS V bel k v).2.2.1) ((stS V bel k v).2.2.2.1) md) ∧ ∀ z, z ≠ mo → g z = f z) (NX) := by
  refine hv_Met.of (own := "BoxPackerModel") (by decide) rfl (Nat.le_of_ble_eq_true rfl) ?_
  intro p e s m below meth c hE hml hout hr hlocks hname hK hI ls hl
  have hl : lv_has ls 4 [(0, .ref mo), (1, .int (nI k)), (2, .int (b2i bel))] := hl
  obtain ⟨hx, hb, hown, hts, hVK⟩ := id hE
  refine lv_aload_n hx hb d_Mo_addSolid_0 rfl (lv_at hl 0 rfl) ?_
  refine hv_get hE k_Mo hI 1 (by decide) w517 hmo rfl d_Mo_addSolid_1 ?_
  refine lv_iload_n hx hb d_Mo_addSolid_4 rfl (lv_at hl 1 rfl) ?_
  refine hv_iald hE hI 0 hA.1 rfl (pk_in k 10200 (by omega) rfl (by omega)) d_Mo_addSolid_5 ?_
  rw [nI_cl (by omega)]
  refine W.eq (g2 := F0 m 6 ls [.int (wK V k)]) rfl ?_
  refine lv_iconst (v := 4) hx hb d_Mo_addSolid_6 (by decide) ?_
  refine lv_icmp_ne (tgt := 19) hx hb d_Mo_addSolid_7 (by decide) (fun c7 => ?_) (fun c7 => ?_)
  · skip
    refine lv_iconst (v := 0) hx hb d_Mo_addSolid_19 (by decide) ?_
    refine lv_istore_n (lv' := [(3, .int 0), (0, .ref mo), (1, .int (nI k)), (2, .int (b2i bel))]) hx hb d_Mo_addSolid_20 rfl hl (by decide) rfl (fun ls hl => ?_)
    refine lv_iload_n hx hb d_Mo_addSolid_21 rfl (lv_at hl 3 rfl) ?_
    refine lv_if_eq (tgt := 99) hx hb d_Mo_addSolid_22 (by decide) (fun c22 => ?_) (fun c22 => ?_)
    · skip
      have k22 := b2i_f c22
      refine lv_aload_n hx hb d_Mo_addSolid_99 rfl (lv_at hl 1 rfl) ?_
      refine lv_aload_n hx hb d_Mo_addSolid_100 rfl (lv_at hl 1 rfl) ?_
      refine lv_iload_n hx hb d_Mo_addSolid_101 rfl (lv_at hl 2 rfl) ?_
      refine lv_iconst (v := 0) hx hb d_Mo_addSolid_102 (by decide) ?_
      refine hv_Vp (As := [.int (nI k), .int 0]) (rest := [.ref mo]) hE hml hK hI (c_Mo_sizeOf0 l hl0 b0 D cA f mo a th st en ct gd v.1 v.2.1 v.2.2.1 v.2.2.2.1 md V k hmo hnj hA (by omega) hin) cd_Mo_sizeOf w688 w690 ws27 hmo rfl rfl rfl rfl hl.1 (Nat.le_of_ble_eq_true rfl) d_Mo_addSolid_103 ⟨by decide, by decide⟩ ⟨by decide, by decide⟩ (fun H locs hI => ?_)
      refine W.eq (g2 := F0 m 106 ls [.int (szO V k 0), .ref mo]) rfl ?_
      refine lv_i2l (v := (szO V k 0).toInt64) hx hb d_Mo_addSolid_106 rfl ?_
      refine hv_V (As := [.long ((szO V k 0).toInt64)]) (rest := []) hE hml hK hI (c_Mo_grow l hl0 b0 D cA f mo a th st en ct gd v.1 v.2.1 v.2.2.1 v.2.2.2.1 md ((szO V k 0).toInt64) hmo hnj) cd_Mo_grow w684 w686 ws26 hmo rfl rfl hl.1 (Nat.le_of_ble_eq_true rfl) d_Mo_addSolid_107 ⟨by decide, by decide⟩ ⟨by decide, by decide⟩ (fun v9 g2 H locs hp hI => ?_) (fun q9 E9 ce9 g9 H locs hp => hp.elim)
      obtain ⟨hv, hg1, ho91⟩ := hp
      rw [hv]
      refine W.eq (g2 := F0 m 110 ls []) rfl ?_
      refine lv_aload_n hx hb d_Mo_addSolid_110 rfl (lv_at hl 1 rfl) ?_
      refine hv_get hE k_Mo hI 1 (by decide) w517 hg1 rfl d_Mo_addSolid_111 ?_
      refine lv_iload_n hx hb d_Mo_addSolid_114 rfl (lv_at hl 2 rfl) ?_
      have hq3 : g2 (a 0) = some (.inl (cA 0, 10200, .inl (wK V))) := by rw [ho91 _ (hnj.2 0 (by decide))]; exact hA.1
      refine hv_iald hE hI 0 hq3 rfl (pk_in k 10200 (by omega) rfl (by omega)) d_Mo_addSolid_115 ?_
      rw [nI_cl (by omega)]
      refine W.eq (g2 := F0 m 116 ls [.int (wK V k)]) rfl ?_
      refine lv_iconst (v := 1) hx hb d_Mo_addSolid_116 (by decide) ?_
      refine lv_icmp_ne (tgt := 131) hx hb d_Mo_addSolid_117 (by decide) (fun c117 => ?_) (fun c117 => ?_)
      · skip
        refine lv_aload_n hx hb d_Mo_addSolid_131 rfl (lv_at hl 1 rfl) ?_
        refine lv_aload_n hx hb d_Mo_addSolid_132 rfl (lv_at hl 1 rfl) ?_
        refine lv_aload_n hx hb d_Mo_addSolid_133 rfl (lv_at hl 1 rfl) ?_
        refine hv_get hE k_Mo hI 21 (by decide) w537 hg1 rfl d_Mo_addSolid_134 ?_
        refine lv_aload_n hx hb d_Mo_addSolid_137 rfl (lv_at hl 1 rfl) ?_
        refine lv_iload_n hx hb d_Mo_addSolid_138 rfl (lv_at hl 2 rfl) ?_
        refine lv_iconst (v := 1) hx hb d_Mo_addSolid_139 (by decide) ?_
        have hA4 : moA cA g2 a V := ⟨by rw [ho91 _ (hnj.2 0 (by decide))]; exact hA.1, by rw [ho91 _ (hnj.2 1 (by decide))]; exact hA.2.1, by rw [ho91 _ (hnj.2 2 (by decide))]; exact hA.2.2.1, by rw [ho91 _ (hnj.2 3 (by decide))]; exact hA.2.2.2.1, fun j9 hj9 => by rw [ho91 _ (hnj.2 (4 + j9) (by omega))]; exact hA.2.2.2.2 j9 hj9⟩
        refine hv_Vp (As := [.int (nI k), .int 1]) (rest := [.long v.2.2.1, .ref mo, .ref mo]) hE hml hK hI (c_Mo_sizeOf1 l hl0 b0 D cA g2 mo a th st en ct (gd && sz (v.1 + ((szO V k 0).toInt64))) (v.1 + ((szO V k 0).toInt64)) v.2.1 v.2.2.1 v.2.2.2.1 md V k hg1 hnj hA4 (by omega) hin) cd_Mo_sizeOf w688 w690 ws27 hg1 rfl rfl rfl rfl hl.1 (Nat.le_of_ble_eq_true rfl) d_Mo_addSolid_140 ⟨by decide, by decide⟩ ⟨by decide, by decide⟩ (fun H locs hI => ?_)
        refine W.eq (g2 := F0 m 143 ls [.int (szO V k 1), .long v.2.2.1, .ref mo, .ref mo]) rfl ?_
        refine lv_i2l (v := (szO V k 1).toInt64) hx hb d_Mo_addSolid_143 rfl ?_
        refine lv_iload_n hx hb d_Mo_addSolid_144 rfl (lv_at hl 0 rfl) ?_
        refine lv_i2l (v := (0 : Int32).toInt64) hx hb d_Mo_addSolid_145 rfl ?_
        refine lv_lsub hx hb d_Mo_addSolid_146 ?_
        refine hv_V (As := [.long v.2.2.1, .long (((szO V k 1).toInt64) - ((0 : Int32).toInt64))]) (rest := [.ref mo]) hE hml hK hI (c_Mo_greater l hl0 b0 D cA g2 mo a th st en ct (gd && sz (v.1 + ((szO V k 0).toInt64))) (v.1 + ((szO V k 0).toInt64)) v.2.1 v.2.2.1 v.2.2.2.1 md v.2.2.1 (((szO V k 1).toInt64) - ((0 : Int32).toInt64)) hg1 hnj) cd_Mo_greater w696 w698 ws29 hg1 rfl rfl hl.1 (Nat.le_of_ble_eq_true rfl) d_Mo_addSolid_147 ⟨by decide, by decide⟩ ⟨by decide, by decide⟩ (fun v9 g6 H locs hp hI => ?_) (fun q9 E9 ce9 g9 H locs hp => hp.elim)
        obtain ⟨hv, hg5, ho95⟩ := hp
        rw [hv]
        refine W.eq (g2 := F0 m 150 ls [.long (gtr v.2.2.1 (((szO V k 1).toInt64) - ((0 : Int32).toInt64))), .ref mo]) rfl ?_
        refine hv_put hE k_Mo hI 21 (by decide) w537 hg5 rfl rfl rfl (Nat.le_of_ble_eq_true rfl) d_Mo_addSolid_150 (fun H locs hI => ?_)
        obtain ⟨g7, eg7⟩ : ∃ z : hv_M, z = hv_up g6 mo (moE a th st en ct ((gd && sz (v.1 + ((szO V k 0).toInt64))) && sz (((szO V k 1).toInt64) - ((0 : Int32).toInt64))) (v.1 + ((szO V k 0).toInt64)) v.2.1 (gtr v.2.2.1 (((szO V k 1).toInt64) - ((0 : Int32).toInt64))) v.2.2.2.1 md) := ⟨_, rfl⟩
        have hI : hv_I D CL b0 g7 s.heap H locs := by rw [eg7]; exact hI
        have hq8 : g7 mo = some (moE a th st en ct ((gd && sz (v.1 + ((szO V k 0).toInt64))) && sz (((szO V k 1).toInt64) - ((0 : Int32).toInt64))) (v.1 + ((szO V k 0).toInt64)) v.2.1 (gtr v.2.2.1 (((szO V k 1).toInt64) - ((0 : Int32).toInt64))) v.2.2.2.1 md) := by rw [eg7]; exact hv_up_self _ _ _
        refine lv_aload_n hx hb d_Mo_addSolid_153 rfl (lv_at hl 1 rfl) ?_
        refine hv_get hE k_Mo hI 1 (by decide) w517 hq8 rfl d_Mo_addSolid_154 ?_
        refine lv_iload_n hx hb d_Mo_addSolid_157 rfl (lv_at hl 2 rfl) ?_
        have hq9 : g7 (a 0) = some (.inl (cA 0, 10200, .inl (wK V))) := by rw [eg7, hv_up_ne _ _ (hnj.2 0 (by decide)), ho95 _ (hnj.2 0 (by decide))]; exact hq3
        refine hv_iald hE hI 0 hq9 rfl (pk_in k 10200 (by omega) rfl (by omega)) d_Mo_addSolid_158 ?_
        rw [nI_cl (by omega)]
        refine W.eq (g2 := F0 m 159 ls [.int (wK V k)]) rfl ?_
        refine lv_iconst (v := 1) hx hb d_Mo_addSolid_159 (by decide) ?_
        refine lv_icmp_ne (tgt := 174) hx hb d_Mo_addSolid_160 (by decide) (fun c160 => ?_) (fun c160 => ?_)
        · skip
          refine lv_aload_n hx hb d_Mo_addSolid_174 rfl (lv_at hl 1 rfl) ?_
          refine lv_aload_n hx hb d_Mo_addSolid_175 rfl (lv_at hl 1 rfl) ?_
          refine lv_aload_n hx hb d_Mo_addSolid_176 rfl (lv_at hl 1 rfl) ?_
          refine hv_get hE k_Mo hI 22 (by decide) w538 hq8 rfl d_Mo_addSolid_177 ?_
          refine lv_aload_n hx hb d_Mo_addSolid_180 rfl (lv_at hl 1 rfl) ?_
          refine lv_iload_n hx hb d_Mo_addSolid_181 rfl (lv_at hl 2 rfl) ?_
          refine lv_iconst (v := 2) hx hb d_Mo_addSolid_182 (by decide) ?_
          have hA10 : moA cA g7 a V := ⟨by rw [eg7, hv_up_ne _ _ (hnj.2 0 (by decide)), ho95 _ (hnj.2 0 (by decide))]; exact hA4.1, by rw [eg7, hv_up_ne _ _ (hnj.2 1 (by decide)), ho95 _ (hnj.2 1 (by decide))]; exact hA4.2.1, by rw [eg7, hv_up_ne _ _ (hnj.2 2 (by decide)), ho95 _ (hnj.2 2 (by decide))]; exact hA4.2.2.1, by rw [eg7, hv_up_ne _ _ (hnj.2 3 (by decide)), ho95 _ (hnj.2 3 (by decide))]; exact hA4.2.2.2.1, fun j9 hj9 => by rw [eg7, hv_up_ne _ _ (hnj.2 (4 + j9) (by omega)), ho95 _ (hnj.2 (4 + j9) (by omega))]; exact hA4.2.2.2.2 j9 hj9⟩
          refine hv_Vp (As := [.int (nI k), .int 2]) (rest := [.long v.2.2.2.1, .ref mo, .ref mo]) hE hml hK hI (c_Mo_sizeOf2 l hl0 b0 D cA g7 mo a th st en ct ((gd && sz (v.1 + ((szO V k 0).toInt64))) && sz (((szO V k 1).toInt64) - ((0 : Int32).toInt64))) (v.1 + ((szO V k 0).toInt64)) v.2.1 (gtr v.2.2.1 (((szO V k 1).toInt64) - ((0 : Int32).toInt64))) v.2.2.2.1 md V k hq8 hnj hA10 (by omega) hin) cd_Mo_sizeOf w688 w690 ws27 hq8 rfl rfl rfl rfl hl.1 (Nat.le_of_ble_eq_true rfl) d_Mo_addSolid_183 ⟨by decide, by decide⟩ ⟨by decide, by decide⟩ (fun H locs hI => ?_)
          refine W.eq (g2 := F0 m 186 ls [.int (szO V k 2), .long v.2.2.2.1, .ref mo, .ref mo]) rfl ?_
          refine lv_i2l (v := (szO V k 2).toInt64) hx hb d_Mo_addSolid_186 rfl ?_
          refine lv_iload_n hx hb d_Mo_addSolid_187 rfl (lv_at hl 0 rfl) ?_
          refine lv_i2l (v := (0 : Int32).toInt64) hx hb d_Mo_addSolid_188 rfl ?_
          refine lv_ladd hx hb d_Mo_addSolid_189 ?_
          refine hv_V (As := [.long v.2.2.2.1, .long (((szO V k 2).toInt64) + ((0 : Int32).toInt64))]) (rest := [.ref mo]) hE hml hK hI (c_Mo_greater l hl0 b0 D cA g7 mo a th st en ct ((gd && sz (v.1 + ((szO V k 0).toInt64))) && sz (((szO V k 1).toInt64) - ((0 : Int32).toInt64))) (v.1 + ((szO V k 0).toInt64)) v.2.1 (gtr v.2.2.1 (((szO V k 1).toInt64) - ((0 : Int32).toInt64))) v.2.2.2.1 md v.2.2.2.1 (((szO V k 2).toInt64) + ((0 : Int32).toInt64)) hq8 hnj) cd_Mo_greater w696 w698 ws29 hq8 rfl rfl hl.1 (Nat.le_of_ble_eq_true rfl) d_Mo_addSolid_190 ⟨by decide, by decide⟩ ⟨by decide, by decide⟩ (fun v9 g12 H locs hp hI => ?_) (fun q9 E9 ce9 g9 H locs hp => hp.elim)
          obtain ⟨hv, hg11, ho911⟩ := hp
          rw [hv]
          refine W.eq (g2 := F0 m 193 ls [.long (gtr v.2.2.2.1 (((szO V k 2).toInt64) + ((0 : Int32).toInt64))), .ref mo]) rfl ?_
          refine hv_put hE k_Mo hI 22 (by decide) w538 hg11 rfl rfl rfl (Nat.le_of_ble_eq_true rfl) d_Mo_addSolid_193 (fun H locs hI => ?_)
          obtain ⟨g13, eg13⟩ : ∃ z : hv_M, z = hv_up g12 mo (moE a th st en ct (((gd && sz (v.1 + ((szO V k 0).toInt64))) && sz (((szO V k 1).toInt64) - ((0 : Int32).toInt64))) && sz (((szO V k 2).toInt64) + ((0 : Int32).toInt64))) (v.1 + ((szO V k 0).toInt64)) v.2.1 (gtr v.2.2.1 (((szO V k 1).toInt64) - ((0 : Int32).toInt64))) (gtr v.2.2.2.1 (((szO V k 2).toInt64) + ((0 : Int32).toInt64))) md) := ⟨_, rfl⟩
          have hI : hv_I D CL b0 g13 s.heap H locs := by rw [eg13]; exact hI
          have hq14 : g13 mo = some (moE a th st en ct (((gd && sz (v.1 + ((szO V k 0).toInt64))) && sz (((szO V k 1).toInt64) - ((0 : Int32).toInt64))) && sz (((szO V k 2).toInt64) + ((0 : Int32).toInt64))) (v.1 + ((szO V k 0).toInt64)) v.2.1 (gtr v.2.2.1 (((szO V k 1).toInt64) - ((0 : Int32).toInt64))) (gtr v.2.2.2.1 (((szO V k 2).toInt64) + ((0 : Int32).toInt64))) md) := by rw [eg13]; exact hv_up_self _ _ _
          exact hv_vret hE hr hlocks hI hK (⟨rfl, by rw [show (gd && ckS V bel k v) = (((gd && sz (v.1 + ((szO V k 0).toInt64))) && sz (((szO V k 1).toInt64) - ((0 : Int32).toInt64))) && sz (((szO V k 2).toInt64) + ((0 : Int32).toInt64))) from by simp [ckS, ruO, shO, Bool.and_assoc, c7, k22, c117, c160], show stS V bel k v = (v.1 + ((szO V k 0).toInt64), v.2.1, gtr v.2.2.1 (((szO V k 1).toInt64) - ((0 : Int32).toInt64)), gtr v.2.2.2.1 (((szO V k 2).toInt64) + ((0 : Int32).toInt64)), v.2.2.2.2) from by simp [stS, ruO, shO, c7, k22, c117, c160]]; exact hq14, fun z z1 => by rw [eg13, hv_up_ne _ _ z1, ho911 _ z1, eg7, hv_up_ne _ _ z1, ho95 _ z1, ho91 _ z1]⟩) (by decide) (by decide) d_Mo_addSolid_196
        · skip
          exact absurd c160 c117
      · skip
        refine lv_aload_n hx hb d_Mo_addSolid_120 rfl (lv_at hl 1 rfl) ?_
        refine lv_iload_n hx hb d_Mo_addSolid_121 rfl (lv_at hl 2 rfl) ?_
        refine lv_iconst (v := 1) hx hb d_Mo_addSolid_122 (by decide) ?_
        have hq15 : g2 (a 1) = some (.inl (cA 0, 51000, .inl V.2.1)) := by rw [ho91 _ (hnj.2 1 (by decide))]; exact hA.2.1
        refine hv_Vp (As := [.int (nI k), .int 1]) (rest := []) hE hml hK hI (c_Mo_number l hl0 b0 D cA g2 mo a th st en ct (gd && sz (v.1 + ((szO V k 0).toInt64))) (v.1 + ((szO V k 0).toInt64)) v.2.1 v.2.2.1 v.2.2.2.1 md V k 1 hg1 hnj hq15 (by omega) (by omega)) cd_Mo_number w664 w666 ws21 hg1 rfl rfl rfl rfl hl.1 (Nat.le_of_ble_eq_true rfl) d_Mo_addSolid_123 ⟨by decide, by decide⟩ ⟨by decide, by decide⟩ (fun H locs hI => ?_)
        refine W.eq (g2 := F0 m 126 ls [.int (wN V k 1)]) rfl ?_
        refine lv_ldc (v := (-1073741824)) hx hb hown (hts _ w628) d_Mo_addSolid_126 ?_
        refine lv_icmp_eq (tgt := 153) hx hb d_Mo_addSolid_128 (by decide) (fun c128 => ?_) (fun c128 => ?_)
        · skip
          refine lv_aload_n hx hb d_Mo_addSolid_153 rfl (lv_at hl 1 rfl) ?_
          refine hv_get hE k_Mo hI 1 (by decide) w517 hg1 rfl d_Mo_addSolid_154 ?_
          refine lv_iload_n hx hb d_Mo_addSolid_157 rfl (lv_at hl 2 rfl) ?_
          refine hv_iald hE hI 0 hq3 rfl (pk_in k 10200 (by omega) rfl (by omega)) d_Mo_addSolid_158 ?_
          rw [nI_cl (by omega)]
          refine W.eq (g2 := F0 m 159 ls [.int (wK V k)]) rfl ?_
          refine lv_iconst (v := 1) hx hb d_Mo_addSolid_159 (by decide) ?_
          refine lv_icmp_ne (tgt := 174) hx hb d_Mo_addSolid_160 (by decide) (fun c160 => ?_) (fun c160 => ?_)
          · skip
            exact absurd c117 c160
          · skip
            refine lv_aload_n hx hb d_Mo_addSolid_163 rfl (lv_at hl 1 rfl) ?_
            refine lv_iload_n hx hb d_Mo_addSolid_164 rfl (lv_at hl 2 rfl) ?_
            refine lv_iconst (v := 2) hx hb d_Mo_addSolid_165 (by decide) ?_
            refine hv_Vp (As := [.int (nI k), .int 2]) (rest := []) hE hml hK hI (c_Mo_number l hl0 b0 D cA g2 mo a th st en ct (gd && sz (v.1 + ((szO V k 0).toInt64))) (v.1 + ((szO V k 0).toInt64)) v.2.1 v.2.2.1 v.2.2.2.1 md V k 2 hg1 hnj hq15 (by omega) (by omega)) cd_Mo_number w664 w666 ws21 hg1 rfl rfl rfl rfl hl.1 (Nat.le_of_ble_eq_true rfl) d_Mo_addSolid_166 ⟨by decide, by decide⟩ ⟨by decide, by decide⟩ (fun H locs hI => ?_)
            refine W.eq (g2 := F0 m 169 ls [.int (wN V k 2)]) rfl ?_
            refine lv_ldc (v := (-1073741824)) hx hb hown (hts _ w628) d_Mo_addSolid_169 ?_
            refine lv_icmp_eq (tgt := 196) hx hb d_Mo_addSolid_171 (by decide) (fun c171 => ?_) (fun c171 => ?_)
            · skip
              exact hv_vret hE hr hlocks hI hK (⟨rfl, by rw [show (gd && ckS V bel k v) = (gd && sz (v.1 + ((szO V k 0).toInt64))) from by simp [ckS, ruO, shO, Bool.and_assoc, c7, k22, c117, c128, c160, c171], show stS V bel k v = (v.1 + ((szO V k 0).toInt64), v.2.1, v.2.2.1, v.2.2.2.1, v.2.2.2.2) from by simp [stS, ruO, shO, c7, k22, c117, c128, c160, c171]]; exact hg1, fun z z1 => by rw [ho91 _ z1]⟩) (by decide) (by decide) d_Mo_addSolid_196
            · skip
              refine lv_aload_n hx hb d_Mo_addSolid_174 rfl (lv_at hl 1 rfl) ?_
              refine lv_aload_n hx hb d_Mo_addSolid_175 rfl (lv_at hl 1 rfl) ?_
              refine lv_aload_n hx hb d_Mo_addSolid_176 rfl (lv_at hl 1 rfl) ?_
              refine hv_get hE k_Mo hI 22 (by decide) w538 hg1 rfl d_Mo_addSolid_177 ?_
              refine lv_aload_n hx hb d_Mo_addSolid_180 rfl (lv_at hl 1 rfl) ?_
              refine lv_iload_n hx hb d_Mo_addSolid_181 rfl (lv_at hl 2 rfl) ?_
              refine lv_iconst (v := 2) hx hb d_Mo_addSolid_182 (by decide) ?_
              have hA16 : moA cA g2 a V := ⟨by rw [ho91 _ (hnj.2 0 (by decide))]; exact hA.1, by rw [ho91 _ (hnj.2 1 (by decide))]; exact hA.2.1, by rw [ho91 _ (hnj.2 2 (by decide))]; exact hA.2.2.1, by rw [ho91 _ (hnj.2 3 (by decide))]; exact hA.2.2.2.1, fun j9 hj9 => by rw [ho91 _ (hnj.2 (4 + j9) (by omega))]; exact hA.2.2.2.2 j9 hj9⟩
              refine hv_Vp (As := [.int (nI k), .int 2]) (rest := [.long v.2.2.2.1, .ref mo, .ref mo]) hE hml hK hI (c_Mo_sizeOf2 l hl0 b0 D cA g2 mo a th st en ct (gd && sz (v.1 + ((szO V k 0).toInt64))) (v.1 + ((szO V k 0).toInt64)) v.2.1 v.2.2.1 v.2.2.2.1 md V k hg1 hnj hA16 (by omega) hin) cd_Mo_sizeOf w688 w690 ws27 hg1 rfl rfl rfl rfl hl.1 (Nat.le_of_ble_eq_true rfl) d_Mo_addSolid_183 ⟨by decide, by decide⟩ ⟨by decide, by decide⟩ (fun H locs hI => ?_)
              refine W.eq (g2 := F0 m 186 ls [.int (szO V k 2), .long v.2.2.2.1, .ref mo, .ref mo]) rfl ?_
              refine lv_i2l (v := (szO V k 2).toInt64) hx hb d_Mo_addSolid_186 rfl ?_
              refine lv_iload_n hx hb d_Mo_addSolid_187 rfl (lv_at hl 0 rfl) ?_
              refine lv_i2l (v := (0 : Int32).toInt64) hx hb d_Mo_addSolid_188 rfl ?_
              refine lv_ladd hx hb d_Mo_addSolid_189 ?_
              refine hv_V (As := [.long v.2.2.2.1, .long (((szO V k 2).toInt64) + ((0 : Int32).toInt64))]) (rest := [.ref mo]) hE hml hK hI (c_Mo_greater l hl0 b0 D cA g2 mo a th st en ct (gd && sz (v.1 + ((szO V k 0).toInt64))) (v.1 + ((szO V k 0).toInt64)) v.2.1 v.2.2.1 v.2.2.2.1 md v.2.2.2.1 (((szO V k 2).toInt64) + ((0 : Int32).toInt64)) hg1 hnj) cd_Mo_greater w696 w698 ws29 hg1 rfl rfl hl.1 (Nat.le_of_ble_eq_true rfl) d_Mo_addSolid_190 ⟨by decide, by decide⟩ ⟨by decide, by decide⟩ (fun v9 g18 H locs hp hI => ?_) (fun q9 E9 ce9 g9 H locs hp => hp.elim)
              obtain ⟨hv, hg17, ho917⟩ := hp
              rw [hv]
              refine W.eq (g2 := F0 m 193 ls [.long (gtr v.2.2.2.1 (((szO V k 2).toInt64) + ((0 : Int32).toInt64))), .ref mo]) rfl ?_
              refine hv_put hE k_Mo hI 22 (by decide) w538 hg17 rfl rfl rfl (Nat.le_of_ble_eq_true rfl) d_Mo_addSolid_193 (fun H locs hI => ?_)
              obtain ⟨g19, eg19⟩ : ∃ z : hv_M, z = hv_up g18 mo (moE a th st en ct ((gd && sz (v.1 + ((szO V k 0).toInt64))) && sz (((szO V k 2).toInt64) + ((0 : Int32).toInt64))) (v.1 + ((szO V k 0).toInt64)) v.2.1 v.2.2.1 (gtr v.2.2.2.1 (((szO V k 2).toInt64) + ((0 : Int32).toInt64))) md) := ⟨_, rfl⟩
              have hI : hv_I D CL b0 g19 s.heap H locs := by rw [eg19]; exact hI
              have hq20 : g19 mo = some (moE a th st en ct ((gd && sz (v.1 + ((szO V k 0).toInt64))) && sz (((szO V k 2).toInt64) + ((0 : Int32).toInt64))) (v.1 + ((szO V k 0).toInt64)) v.2.1 v.2.2.1 (gtr v.2.2.2.1 (((szO V k 2).toInt64) + ((0 : Int32).toInt64))) md) := by rw [eg19]; exact hv_up_self _ _ _
              exact hv_vret hE hr hlocks hI hK (⟨rfl, by rw [show (gd && ckS V bel k v) = ((gd && sz (v.1 + ((szO V k 0).toInt64))) && sz (((szO V k 2).toInt64) + ((0 : Int32).toInt64))) from by simp [ckS, ruO, shO, Bool.and_assoc, c7, k22, c117, c128, c160, c171], show stS V bel k v = (v.1 + ((szO V k 0).toInt64), v.2.1, v.2.2.1, gtr v.2.2.2.1 (((szO V k 2).toInt64) + ((0 : Int32).toInt64)), v.2.2.2.2) from by simp [stS, ruO, shO, c7, k22, c117, c128, c160, c171]]; exact hq20, fun z z1 => by rw [eg19, hv_up_ne _ _ z1, ho917 _ z1, ho91 _ z1]⟩) (by decide) (by decide) d_Mo_addSolid_196
        · skip
          refine lv_aload_n hx hb d_Mo_addSolid_131 rfl (lv_at hl 1 rfl) ?_
          refine lv_aload_n hx hb d_Mo_addSolid_132 rfl (lv_at hl 1 rfl) ?_
          refine lv_aload_n hx hb d_Mo_addSolid_133 rfl (lv_at hl 1 rfl) ?_
          refine hv_get hE k_Mo hI 21 (by decide) w537 hg1 rfl d_Mo_addSolid_134 ?_
          refine lv_aload_n hx hb d_Mo_addSolid_137 rfl (lv_at hl 1 rfl) ?_
          refine lv_iload_n hx hb d_Mo_addSolid_138 rfl (lv_at hl 2 rfl) ?_
          refine lv_iconst (v := 1) hx hb d_Mo_addSolid_139 (by decide) ?_
          have hA21 : moA cA g2 a V := ⟨by rw [ho91 _ (hnj.2 0 (by decide))]; exact hA.1, by rw [ho91 _ (hnj.2 1 (by decide))]; exact hA.2.1, by rw [ho91 _ (hnj.2 2 (by decide))]; exact hA.2.2.1, by rw [ho91 _ (hnj.2 3 (by decide))]; exact hA.2.2.2.1, fun j9 hj9 => by rw [ho91 _ (hnj.2 (4 + j9) (by omega))]; exact hA.2.2.2.2 j9 hj9⟩
          refine hv_Vp (As := [.int (nI k), .int 1]) (rest := [.long v.2.2.1, .ref mo, .ref mo]) hE hml hK hI (c_Mo_sizeOf1 l hl0 b0 D cA g2 mo a th st en ct (gd && sz (v.1 + ((szO V k 0).toInt64))) (v.1 + ((szO V k 0).toInt64)) v.2.1 v.2.2.1 v.2.2.2.1 md V k hg1 hnj hA21 (by omega) hin) cd_Mo_sizeOf w688 w690 ws27 hg1 rfl rfl rfl rfl hl.1 (Nat.le_of_ble_eq_true rfl) d_Mo_addSolid_140 ⟨by decide, by decide⟩ ⟨by decide, by decide⟩ (fun H locs hI => ?_)
          refine W.eq (g2 := F0 m 143 ls [.int (szO V k 1), .long v.2.2.1, .ref mo, .ref mo]) rfl ?_
          refine lv_i2l (v := (szO V k 1).toInt64) hx hb d_Mo_addSolid_143 rfl ?_
          refine lv_iload_n hx hb d_Mo_addSolid_144 rfl (lv_at hl 0 rfl) ?_
          refine lv_i2l (v := (0 : Int32).toInt64) hx hb d_Mo_addSolid_145 rfl ?_
          refine lv_lsub hx hb d_Mo_addSolid_146 ?_
          refine hv_V (As := [.long v.2.2.1, .long (((szO V k 1).toInt64) - ((0 : Int32).toInt64))]) (rest := [.ref mo]) hE hml hK hI (c_Mo_greater l hl0 b0 D cA g2 mo a th st en ct (gd && sz (v.1 + ((szO V k 0).toInt64))) (v.1 + ((szO V k 0).toInt64)) v.2.1 v.2.2.1 v.2.2.2.1 md v.2.2.1 (((szO V k 1).toInt64) - ((0 : Int32).toInt64)) hg1 hnj) cd_Mo_greater w696 w698 ws29 hg1 rfl rfl hl.1 (Nat.le_of_ble_eq_true rfl) d_Mo_addSolid_147 ⟨by decide, by decide⟩ ⟨by decide, by decide⟩ (fun v9 g23 H locs hp hI => ?_) (fun q9 E9 ce9 g9 H locs hp => hp.elim)
          obtain ⟨hv, hg22, ho922⟩ := hp
          rw [hv]
          refine W.eq (g2 := F0 m 150 ls [.long (gtr v.2.2.1 (((szO V k 1).toInt64) - ((0 : Int32).toInt64))), .ref mo]) rfl ?_
          refine hv_put hE k_Mo hI 21 (by decide) w537 hg22 rfl rfl rfl (Nat.le_of_ble_eq_true rfl) d_Mo_addSolid_150 (fun H locs hI => ?_)
          obtain ⟨g24, eg24⟩ : ∃ z : hv_M, z = hv_up g23 mo (moE a th st en ct ((gd && sz (v.1 + ((szO V k 0).toInt64))) && sz (((szO V k 1).toInt64) - ((0 : Int32).toInt64))) (v.1 + ((szO V k 0).toInt64)) v.2.1 (gtr v.2.2.1 (((szO V k 1).toInt64) - ((0 : Int32).toInt64))) v.2.2.2.1 md) := ⟨_, rfl⟩
          have hI : hv_I D CL b0 g24 s.heap H locs := by rw [eg24]; exact hI
          have hq25 : g24 mo = some (moE a th st en ct ((gd && sz (v.1 + ((szO V k 0).toInt64))) && sz (((szO V k 1).toInt64) - ((0 : Int32).toInt64))) (v.1 + ((szO V k 0).toInt64)) v.2.1 (gtr v.2.2.1 (((szO V k 1).toInt64) - ((0 : Int32).toInt64))) v.2.2.2.1 md) := by rw [eg24]; exact hv_up_self _ _ _
          refine lv_aload_n hx hb d_Mo_addSolid_153 rfl (lv_at hl 1 rfl) ?_
          refine hv_get hE k_Mo hI 1 (by decide) w517 hq25 rfl d_Mo_addSolid_154 ?_
          refine lv_iload_n hx hb d_Mo_addSolid_157 rfl (lv_at hl 2 rfl) ?_
          have hq26 : g24 (a 0) = some (.inl (cA 0, 10200, .inl (wK V))) := by rw [eg24, hv_up_ne _ _ (hnj.2 0 (by decide)), ho922 _ (hnj.2 0 (by decide))]; exact hq3
          refine hv_iald hE hI 0 hq26 rfl (pk_in k 10200 (by omega) rfl (by omega)) d_Mo_addSolid_158 ?_
          rw [nI_cl (by omega)]
          refine W.eq (g2 := F0 m 159 ls [.int (wK V k)]) rfl ?_
          refine lv_iconst (v := 1) hx hb d_Mo_addSolid_159 (by decide) ?_
          refine lv_icmp_ne (tgt := 174) hx hb d_Mo_addSolid_160 (by decide) (fun c160 => ?_) (fun c160 => ?_)
          · skip
            exact absurd c117 c160
          · skip
            refine lv_aload_n hx hb d_Mo_addSolid_163 rfl (lv_at hl 1 rfl) ?_
            refine lv_iload_n hx hb d_Mo_addSolid_164 rfl (lv_at hl 2 rfl) ?_
            refine lv_iconst (v := 2) hx hb d_Mo_addSolid_165 (by decide) ?_
            have hq27 : g24 (a 1) = some (.inl (cA 0, 51000, .inl V.2.1)) := by rw [eg24, hv_up_ne _ _ (hnj.2 1 (by decide)), ho922 _ (hnj.2 1 (by decide))]; exact hq15
            refine hv_Vp (As := [.int (nI k), .int 2]) (rest := []) hE hml hK hI (c_Mo_number l hl0 b0 D cA g24 mo a th st en ct ((gd && sz (v.1 + ((szO V k 0).toInt64))) && sz (((szO V k 1).toInt64) - ((0 : Int32).toInt64))) (v.1 + ((szO V k 0).toInt64)) v.2.1 (gtr v.2.2.1 (((szO V k 1).toInt64) - ((0 : Int32).toInt64))) v.2.2.2.1 md V k 2 hq25 hnj hq27 (by omega) (by omega)) cd_Mo_number w664 w666 ws21 hq25 rfl rfl rfl rfl hl.1 (Nat.le_of_ble_eq_true rfl) d_Mo_addSolid_166 ⟨by decide, by decide⟩ ⟨by decide, by decide⟩ (fun H locs hI => ?_)
            refine W.eq (g2 := F0 m 169 ls [.int (wN V k 2)]) rfl ?_
            refine lv_ldc (v := (-1073741824)) hx hb hown (hts _ w628) d_Mo_addSolid_169 ?_
            refine lv_icmp_eq (tgt := 196) hx hb d_Mo_addSolid_171 (by decide) (fun c171 => ?_) (fun c171 => ?_)
            · skip
              exact hv_vret hE hr hlocks hI hK (⟨rfl, by rw [show (gd && ckS V bel k v) = ((gd && sz (v.1 + ((szO V k 0).toInt64))) && sz (((szO V k 1).toInt64) - ((0 : Int32).toInt64))) from by simp [ckS, ruO, shO, Bool.and_assoc, c7, k22, c117, c128, c160, c171], show stS V bel k v = (v.1 + ((szO V k 0).toInt64), v.2.1, gtr v.2.2.1 (((szO V k 1).toInt64) - ((0 : Int32).toInt64)), v.2.2.2.1, v.2.2.2.2) from by simp [stS, ruO, shO, c7, k22, c117, c128, c160, c171]]; exact hq25, fun z z1 => by rw [eg24, hv_up_ne _ _ z1, ho922 _ z1, ho91 _ z1]⟩) (by decide) (by decide) d_Mo_addSolid_196
            · skip
              refine lv_aload_n hx hb d_Mo_addSolid_174 rfl (lv_at hl 1 rfl) ?_
              refine lv_aload_n hx hb d_Mo_addSolid_175 rfl (lv_at hl 1 rfl) ?_
              refine lv_aload_n hx hb d_Mo_addSolid_176 rfl (lv_at hl 1 rfl) ?_
              refine hv_get hE k_Mo hI 22 (by decide) w538 hq25 rfl d_Mo_addSolid_177 ?_
              refine lv_aload_n hx hb d_Mo_addSolid_180 rfl (lv_at hl 1 rfl) ?_
              refine lv_iload_n hx hb d_Mo_addSolid_181 rfl (lv_at hl 2 rfl) ?_
              refine lv_iconst (v := 2) hx hb d_Mo_addSolid_182 (by decide) ?_
              have hA28 : moA cA g24 a V := ⟨by rw [eg24, hv_up_ne _ _ (hnj.2 0 (by decide)), ho922 _ (hnj.2 0 (by decide))]; exact hA21.1, by rw [eg24, hv_up_ne _ _ (hnj.2 1 (by decide)), ho922 _ (hnj.2 1 (by decide))]; exact hA21.2.1, by rw [eg24, hv_up_ne _ _ (hnj.2 2 (by decide)), ho922 _ (hnj.2 2 (by decide))]; exact hA21.2.2.1, by rw [eg24, hv_up_ne _ _ (hnj.2 3 (by decide)), ho922 _ (hnj.2 3 (by decide))]; exact hA21.2.2.2.1, fun j9 hj9 => by rw [eg24, hv_up_ne _ _ (hnj.2 (4 + j9) (by omega)), ho922 _ (hnj.2 (4 + j9) (by omega))]; exact hA21.2.2.2.2 j9 hj9⟩
              refine hv_Vp (As := [.int (nI k), .int 2]) (rest := [.long v.2.2.2.1, .ref mo, .ref mo]) hE hml hK hI (c_Mo_sizeOf2 l hl0 b0 D cA g24 mo a th st en ct ((gd && sz (v.1 + ((szO V k 0).toInt64))) && sz (((szO V k 1).toInt64) - ((0 : Int32).toInt64))) (v.1 + ((szO V k 0).toInt64)) v.2.1 (gtr v.2.2.1 (((szO V k 1).toInt64) - ((0 : Int32).toInt64))) v.2.2.2.1 md V k hq25 hnj hA28 (by omega) hin) cd_Mo_sizeOf w688 w690 ws27 hq25 rfl rfl rfl rfl hl.1 (Nat.le_of_ble_eq_true rfl) d_Mo_addSolid_183 ⟨by decide, by decide⟩ ⟨by decide, by decide⟩ (fun H locs hI => ?_)
              refine W.eq (g2 := F0 m 186 ls [.int (szO V k 2), .long v.2.2.2.1, .ref mo, .ref mo]) rfl ?_
              refine lv_i2l (v := (szO V k 2).toInt64) hx hb d_Mo_addSolid_186 rfl ?_
              refine lv_iload_n hx hb d_Mo_addSolid_187 rfl (lv_at hl 0 rfl) ?_
              refine lv_i2l (v := (0 : Int32).toInt64) hx hb d_Mo_addSolid_188 rfl ?_
              refine lv_ladd hx hb d_Mo_addSolid_189 ?_
              refine hv_V (As := [.long v.2.2.2.1, .long (((szO V k 2).toInt64) + ((0 : Int32).toInt64))]) (rest := [.ref mo]) hE hml hK hI (c_Mo_greater l hl0 b0 D cA g24 mo a th st en ct ((gd && sz (v.1 + ((szO V k 0).toInt64))) && sz (((szO V k 1).toInt64) - ((0 : Int32).toInt64))) (v.1 + ((szO V k 0).toInt64)) v.2.1 (gtr v.2.2.1 (((szO V k 1).toInt64) - ((0 : Int32).toInt64))) v.2.2.2.1 md v.2.2.2.1 (((szO V k 2).toInt64) + ((0 : Int32).toInt64)) hq25 hnj) cd_Mo_greater w696 w698 ws29 hq25 rfl rfl hl.1 (Nat.le_of_ble_eq_true rfl) d_Mo_addSolid_190 ⟨by decide, by decide⟩ ⟨by decide, by decide⟩ (fun v9 g30 H locs hp hI => ?_) (fun q9 E9 ce9 g9 H locs hp => hp.elim)
              obtain ⟨hv, hg29, ho929⟩ := hp
              rw [hv]
              refine W.eq (g2 := F0 m 193 ls [.long (gtr v.2.2.2.1 (((szO V k 2).toInt64) + ((0 : Int32).toInt64))), .ref mo]) rfl ?_
              refine hv_put hE k_Mo hI 22 (by decide) w538 hg29 rfl rfl rfl (Nat.le_of_ble_eq_true rfl) d_Mo_addSolid_193 (fun H locs hI => ?_)
              obtain ⟨g31, eg31⟩ : ∃ z : hv_M, z = hv_up g30 mo (moE a th st en ct (((gd && sz (v.1 + ((szO V k 0).toInt64))) && sz (((szO V k 1).toInt64) - ((0 : Int32).toInt64))) && sz (((szO V k 2).toInt64) + ((0 : Int32).toInt64))) (v.1 + ((szO V k 0).toInt64)) v.2.1 (gtr v.2.2.1 (((szO V k 1).toInt64) - ((0 : Int32).toInt64))) (gtr v.2.2.2.1 (((szO V k 2).toInt64) + ((0 : Int32).toInt64))) md) := ⟨_, rfl⟩
              have hI : hv_I D CL b0 g31 s.heap H locs := by rw [eg31]; exact hI
              have hq32 : g31 mo = some (moE a th st en ct (((gd && sz (v.1 + ((szO V k 0).toInt64))) && sz (((szO V k 1).toInt64) - ((0 : Int32).toInt64))) && sz (((szO V k 2).toInt64) + ((0 : Int32).toInt64))) (v.1 + ((szO V k 0).toInt64)) v.2.1 (gtr v.2.2.1 (((szO V k 1).toInt64) - ((0 : Int32).toInt64))) (gtr v.2.2.2.1 (((szO V k 2).toInt64) + ((0 : Int32).toInt64))) md) := by rw [eg31]; exact hv_up_self _ _ _
              exact hv_vret hE hr hlocks hI hK (⟨rfl, by rw [show (gd && ckS V bel k v) = (((gd && sz (v.1 + ((szO V k 0).toInt64))) && sz (((szO V k 1).toInt64) - ((0 : Int32).toInt64))) && sz (((szO V k 2).toInt64) + ((0 : Int32).toInt64))) from by simp [ckS, ruO, shO, Bool.and_assoc, c7, k22, c117, c128, c160, c171], show stS V bel k v = (v.1 + ((szO V k 0).toInt64), v.2.1, gtr v.2.2.1 (((szO V k 1).toInt64) - ((0 : Int32).toInt64)), gtr v.2.2.2.1 (((szO V k 2).toInt64) + ((0 : Int32).toInt64)), v.2.2.2.2) from by simp [stS, ruO, shO, c7, k22, c117, c128, c160, c171]]; exact hq32, fun z z1 => by rw [eg31, hv_up_ne _ _ z1, ho929 _ z1, eg24, hv_up_ne _ _ z1, ho922 _ z1, ho91 _ z1]⟩) (by decide) (by decide) d_Mo_addSolid_196
    · skip
      have k22 := b2i_t c22
      refine lv_aload_n hx hb d_Mo_addSolid_25 rfl (lv_at hl 1 rfl) ?_
      refine lv_aload_n hx hb d_Mo_addSolid_26 rfl (lv_at hl 1 rfl) ?_
      refine hv_get hE k_Mo hI 20 (by decide) w536 hmo rfl d_Mo_addSolid_27 ?_
      refine hv_V (As := [.long v.2.1]) (rest := []) hE hml hK hI (c_Mo_grow l hl0 b0 D cA f mo a th st en ct gd v.1 v.2.1 v.2.2.1 v.2.2.2.1 md v.2.1 hmo hnj) cd_Mo_grow w684 w686 ws26 hmo rfl rfl hl.1 (Nat.le_of_ble_eq_true rfl) d_Mo_addSolid_30 ⟨by decide, by decide⟩ ⟨by decide, by decide⟩ (fun v9 g34 H locs hp hI => ?_) (fun q9 E9 ce9 g9 H locs hp => hp.elim)
      obtain ⟨hv, hg33, ho933⟩ := hp
      rw [hv]
      refine W.eq (g2 := F0 m 33 ls []) rfl ?_
      refine lv_aload_n hx hb d_Mo_addSolid_33 rfl (lv_at hl 1 rfl) ?_
      refine lv_aload_n hx hb d_Mo_addSolid_34 rfl (lv_at hl 1 rfl) ?_
      refine lv_iload_n hx hb d_Mo_addSolid_35 rfl (lv_at hl 2 rfl) ?_
      refine lv_iconst (v := 1) hx hb d_Mo_addSolid_36 (by decide) ?_
      have hA35 : moA cA g34 a V := ⟨by rw [ho933 _ (hnj.2 0 (by decide))]; exact hA.1, by rw [ho933 _ (hnj.2 1 (by decide))]; exact hA.2.1, by rw [ho933 _ (hnj.2 2 (by decide))]; exact hA.2.2.1, by rw [ho933 _ (hnj.2 3 (by decide))]; exact hA.2.2.2.1, fun j9 hj9 => by rw [ho933 _ (hnj.2 (4 + j9) (by omega))]; exact hA.2.2.2.2 j9 hj9⟩
      refine hv_Vp (As := [.int (nI k), .int 1]) (rest := [.ref mo]) hE hml hK hI (c_Mo_sizeOf1 l hl0 b0 D cA g34 mo a th st en ct (gd && sz (v.1 + v.2.1)) (v.1 + v.2.1) v.2.1 v.2.2.1 v.2.2.2.1 md V k hg33 hnj hA35 (by omega) hin) cd_Mo_sizeOf w688 w690 ws27 hg33 rfl rfl rfl rfl hl.1 (Nat.le_of_ble_eq_true rfl) d_Mo_addSolid_37 ⟨by decide, by decide⟩ ⟨by decide, by decide⟩ (fun H locs hI => ?_)
      refine W.eq (g2 := F0 m 40 ls [.int (szO V k 1), .ref mo]) rfl ?_
      refine lv_i2l (v := (szO V k 1).toInt64) hx hb d_Mo_addSolid_40 rfl ?_
      refine hv_V (As := [.long ((szO V k 1).toInt64)]) (rest := []) hE hml hK hI (c_Mo_grow l hl0 b0 D cA g34 mo a th st en ct (gd && sz (v.1 + v.2.1)) (v.1 + v.2.1) v.2.1 v.2.2.1 v.2.2.2.1 md ((szO V k 1).toInt64) hg33 hnj) cd_Mo_grow w684 w686 ws26 hg33 rfl rfl hl.1 (Nat.le_of_ble_eq_true rfl) d_Mo_addSolid_41 ⟨by decide, by decide⟩ ⟨by decide, by decide⟩ (fun v9 g37 H locs hp hI => ?_) (fun q9 E9 ce9 g9 H locs hp => hp.elim)
      obtain ⟨hv, hg36, ho936⟩ := hp
      rw [hv]
      refine W.eq (g2 := F0 m 44 ls []) rfl ?_
      refine lv_aload_n hx hb d_Mo_addSolid_44 rfl (lv_at hl 1 rfl) ?_
      refine lv_aload_n hx hb d_Mo_addSolid_45 rfl (lv_at hl 1 rfl) ?_
      refine lv_iload_n hx hb d_Mo_addSolid_46 rfl (lv_at hl 2 rfl) ?_
      refine lv_iconst (v := 2) hx hb d_Mo_addSolid_47 (by decide) ?_
      have hA38 : moA cA g37 a V := ⟨by rw [ho936 _ (hnj.2 0 (by decide))]; exact hA35.1, by rw [ho936 _ (hnj.2 1 (by decide))]; exact hA35.2.1, by rw [ho936 _ (hnj.2 2 (by decide))]; exact hA35.2.2.1, by rw [ho936 _ (hnj.2 3 (by decide))]; exact hA35.2.2.2.1, fun j9 hj9 => by rw [ho936 _ (hnj.2 (4 + j9) (by omega))]; exact hA35.2.2.2.2 j9 hj9⟩
      refine hv_Vp (As := [.int (nI k), .int 2]) (rest := [.ref mo]) hE hml hK hI (c_Mo_sizeOf2 l hl0 b0 D cA g37 mo a th st en ct ((gd && sz (v.1 + v.2.1)) && sz ((v.1 + v.2.1) + ((szO V k 1).toInt64))) ((v.1 + v.2.1) + ((szO V k 1).toInt64)) v.2.1 v.2.2.1 v.2.2.2.1 md V k hg36 hnj hA38 (by omega) hin) cd_Mo_sizeOf w688 w690 ws27 hg36 rfl rfl rfl rfl hl.1 (Nat.le_of_ble_eq_true rfl) d_Mo_addSolid_48 ⟨by decide, by decide⟩ ⟨by decide, by decide⟩ (fun H locs hI => ?_)
      refine W.eq (g2 := F0 m 51 ls [.int (szO V k 2), .ref mo]) rfl ?_
      refine lv_i2l (v := (szO V k 2).toInt64) hx hb d_Mo_addSolid_51 rfl ?_
      refine hv_put hE k_Mo hI 20 (by decide) w536 hg36 rfl rfl rfl (Nat.le_of_ble_eq_true rfl) d_Mo_addSolid_52 (fun H locs hI => ?_)
      obtain ⟨g39, eg39⟩ : ∃ z : hv_M, z = hv_up g37 mo (moE a th st en ct ((gd && sz (v.1 + v.2.1)) && sz ((v.1 + v.2.1) + ((szO V k 1).toInt64))) ((v.1 + v.2.1) + ((szO V k 1).toInt64)) ((szO V k 2).toInt64) v.2.2.1 v.2.2.2.1 md) := ⟨_, rfl⟩
      have hI : hv_I D CL b0 g39 s.heap H locs := by rw [eg39]; exact hI
      have hq40 : g39 mo = some (moE a th st en ct ((gd && sz (v.1 + v.2.1)) && sz ((v.1 + v.2.1) + ((szO V k 1).toInt64))) ((v.1 + v.2.1) + ((szO V k 1).toInt64)) ((szO V k 2).toInt64) v.2.2.1 v.2.2.2.1 md) := by rw [eg39]; exact hv_up_self _ _ _
      refine lv_aload_n hx hb d_Mo_addSolid_55 rfl (lv_at hl 1 rfl) ?_
      refine hv_get hE k_Mo hI 1 (by decide) w517 hq40 rfl d_Mo_addSolid_56 ?_
      refine lv_iload_n hx hb d_Mo_addSolid_59 rfl (lv_at hl 2 rfl) ?_
      have hq41 : g39 (a 0) = some (.inl (cA 0, 10200, .inl (wK V))) := by rw [eg39, hv_up_ne _ _ (hnj.2 0 (by decide)), ho936 _ (hnj.2 0 (by decide)), ho933 _ (hnj.2 0 (by decide))]; exact hA.1
      refine hv_iald hE hI 0 hq41 rfl (pk_in k 10200 (by omega) rfl (by omega)) d_Mo_addSolid_60 ?_
      rw [nI_cl (by omega)]
      refine W.eq (g2 := F0 m 61 ls [.int (wK V k)]) rfl ?_
      refine lv_iconst (v := 1) hx hb d_Mo_addSolid_61 (by decide) ?_
      refine lv_icmp_ne (tgt := 76) hx hb d_Mo_addSolid_62 (by decide) (fun c62 => ?_) (fun c62 => ?_)
      · skip
        refine lv_aload_n hx hb d_Mo_addSolid_76 rfl (lv_at hl 1 rfl) ?_
        refine lv_aload_n hx hb d_Mo_addSolid_77 rfl (lv_at hl 1 rfl) ?_
        refine lv_aload_n hx hb d_Mo_addSolid_78 rfl (lv_at hl 1 rfl) ?_
        refine hv_get hE k_Mo hI 21 (by decide) w537 hq40 rfl d_Mo_addSolid_79 ?_
        refine lv_aload_n hx hb d_Mo_addSolid_82 rfl (lv_at hl 1 rfl) ?_
        refine lv_iload_n hx hb d_Mo_addSolid_83 rfl (lv_at hl 2 rfl) ?_
        refine lv_iconst (v := 0) hx hb d_Mo_addSolid_84 (by decide) ?_
        have hA42 : moA cA g39 a V := ⟨by rw [eg39, hv_up_ne _ _ (hnj.2 0 (by decide))]; exact hA38.1, by rw [eg39, hv_up_ne _ _ (hnj.2 1 (by decide))]; exact hA38.2.1, by rw [eg39, hv_up_ne _ _ (hnj.2 2 (by decide))]; exact hA38.2.2.1, by rw [eg39, hv_up_ne _ _ (hnj.2 3 (by decide))]; exact hA38.2.2.2.1, fun j9 hj9 => by rw [eg39, hv_up_ne _ _ (hnj.2 (4 + j9) (by omega))]; exact hA38.2.2.2.2 j9 hj9⟩
        refine hv_Vp (As := [.int (nI k), .int 0]) (rest := [.long v.2.2.1, .ref mo, .ref mo]) hE hml hK hI (c_Mo_sizeOf0 l hl0 b0 D cA g39 mo a th st en ct ((gd && sz (v.1 + v.2.1)) && sz ((v.1 + v.2.1) + ((szO V k 1).toInt64))) ((v.1 + v.2.1) + ((szO V k 1).toInt64)) ((szO V k 2).toInt64) v.2.2.1 v.2.2.2.1 md V k hq40 hnj hA42 (by omega) hin) cd_Mo_sizeOf w688 w690 ws27 hq40 rfl rfl rfl rfl hl.1 (Nat.le_of_ble_eq_true rfl) d_Mo_addSolid_85 ⟨by decide, by decide⟩ ⟨by decide, by decide⟩ (fun H locs hI => ?_)
        refine W.eq (g2 := F0 m 88 ls [.int (szO V k 0), .long v.2.2.1, .ref mo, .ref mo]) rfl ?_
        refine lv_i2l (v := (szO V k 0).toInt64) hx hb d_Mo_addSolid_88 rfl ?_
        refine lv_iload_n hx hb d_Mo_addSolid_89 rfl (lv_at hl 0 rfl) ?_
        refine lv_i2l (v := (0 : Int32).toInt64) hx hb d_Mo_addSolid_90 rfl ?_
        refine lv_ladd hx hb d_Mo_addSolid_91 ?_
        refine hv_V (As := [.long v.2.2.1, .long (((szO V k 0).toInt64) + ((0 : Int32).toInt64))]) (rest := [.ref mo]) hE hml hK hI (c_Mo_greater l hl0 b0 D cA g39 mo a th st en ct ((gd && sz (v.1 + v.2.1)) && sz ((v.1 + v.2.1) + ((szO V k 1).toInt64))) ((v.1 + v.2.1) + ((szO V k 1).toInt64)) ((szO V k 2).toInt64) v.2.2.1 v.2.2.2.1 md v.2.2.1 (((szO V k 0).toInt64) + ((0 : Int32).toInt64)) hq40 hnj) cd_Mo_greater w696 w698 ws29 hq40 rfl rfl hl.1 (Nat.le_of_ble_eq_true rfl) d_Mo_addSolid_92 ⟨by decide, by decide⟩ ⟨by decide, by decide⟩ (fun v9 g44 H locs hp hI => ?_) (fun q9 E9 ce9 g9 H locs hp => hp.elim)
        obtain ⟨hv, hg43, ho943⟩ := hp
        rw [hv]
        refine W.eq (g2 := F0 m 95 ls [.long (gtr v.2.2.1 (((szO V k 0).toInt64) + ((0 : Int32).toInt64))), .ref mo]) rfl ?_
        refine hv_put hE k_Mo hI 21 (by decide) w537 hg43 rfl rfl rfl (Nat.le_of_ble_eq_true rfl) d_Mo_addSolid_95 (fun H locs hI => ?_)
        obtain ⟨g45, eg45⟩ : ∃ z : hv_M, z = hv_up g44 mo (moE a th st en ct (((gd && sz (v.1 + v.2.1)) && sz ((v.1 + v.2.1) + ((szO V k 1).toInt64))) && sz (((szO V k 0).toInt64) + ((0 : Int32).toInt64))) ((v.1 + v.2.1) + ((szO V k 1).toInt64)) ((szO V k 2).toInt64) (gtr v.2.2.1 (((szO V k 0).toInt64) + ((0 : Int32).toInt64))) v.2.2.2.1 md) := ⟨_, rfl⟩
        have hI : hv_I D CL b0 g45 s.heap H locs := by rw [eg45]; exact hI
        have hq46 : g45 mo = some (moE a th st en ct (((gd && sz (v.1 + v.2.1)) && sz ((v.1 + v.2.1) + ((szO V k 1).toInt64))) && sz (((szO V k 0).toInt64) + ((0 : Int32).toInt64))) ((v.1 + v.2.1) + ((szO V k 1).toInt64)) ((szO V k 2).toInt64) (gtr v.2.2.1 (((szO V k 0).toInt64) + ((0 : Int32).toInt64))) v.2.2.2.1 md) := by rw [eg45]; exact hv_up_self _ _ _
        exact hv_vret hE hr hlocks hI hK (⟨rfl, by rw [show (gd && ckS V bel k v) = (((gd && sz (v.1 + v.2.1)) && sz ((v.1 + v.2.1) + ((szO V k 1).toInt64))) && sz (((szO V k 0).toInt64) + ((0 : Int32).toInt64))) from by simp [ckS, ruO, shO, Bool.and_assoc, c7, k22, c62], show stS V bel k v = ((v.1 + v.2.1) + ((szO V k 1).toInt64), (szO V k 2).toInt64, gtr v.2.2.1 (((szO V k 0).toInt64) + ((0 : Int32).toInt64)), v.2.2.2.1, v.2.2.2.2) from by simp [stS, ruO, shO, c7, k22, c62]]; exact hq46, fun z z1 => by rw [eg45, hv_up_ne _ _ z1, ho943 _ z1, eg39, hv_up_ne _ _ z1, ho936 _ z1, ho933 _ z1]⟩) (by decide) (by decide) d_Mo_addSolid_98
      · skip
        refine lv_aload_n hx hb d_Mo_addSolid_65 rfl (lv_at hl 1 rfl) ?_
        refine lv_iload_n hx hb d_Mo_addSolid_66 rfl (lv_at hl 2 rfl) ?_
        refine lv_iconst (v := 0) hx hb d_Mo_addSolid_67 (by decide) ?_
        have hq47 : g39 (a 1) = some (.inl (cA 0, 51000, .inl V.2.1)) := by rw [eg39, hv_up_ne _ _ (hnj.2 1 (by decide)), ho936 _ (hnj.2 1 (by decide)), ho933 _ (hnj.2 1 (by decide))]; exact hA.2.1
        refine hv_Vp (As := [.int (nI k), .int 0]) (rest := []) hE hml hK hI (c_Mo_number l hl0 b0 D cA g39 mo a th st en ct ((gd && sz (v.1 + v.2.1)) && sz ((v.1 + v.2.1) + ((szO V k 1).toInt64))) ((v.1 + v.2.1) + ((szO V k 1).toInt64)) ((szO V k 2).toInt64) v.2.2.1 v.2.2.2.1 md V k 0 hq40 hnj hq47 (by omega) (by omega)) cd_Mo_number w664 w666 ws21 hq40 rfl rfl rfl rfl hl.1 (Nat.le_of_ble_eq_true rfl) d_Mo_addSolid_68 ⟨by decide, by decide⟩ ⟨by decide, by decide⟩ (fun H locs hI => ?_)
        refine W.eq (g2 := F0 m 71 ls [.int (wN V k 0)]) rfl ?_
        refine lv_ldc (v := (-1073741824)) hx hb hown (hts _ w628) d_Mo_addSolid_71 ?_
        refine lv_icmp_eq (tgt := 98) hx hb d_Mo_addSolid_73 (by decide) (fun c73 => ?_) (fun c73 => ?_)
        · skip
          exact hv_vret hE hr hlocks hI hK (⟨rfl, by rw [show (gd && ckS V bel k v) = ((gd && sz (v.1 + v.2.1)) && sz ((v.1 + v.2.1) + ((szO V k 1).toInt64))) from by simp [ckS, ruO, shO, Bool.and_assoc, c7, k22, c62, c73], show stS V bel k v = ((v.1 + v.2.1) + ((szO V k 1).toInt64), (szO V k 2).toInt64, v.2.2.1, v.2.2.2.1, v.2.2.2.2) from by simp [stS, ruO, shO, c7, k22, c62, c73]]; exact hq40, fun z z1 => by rw [eg39, hv_up_ne _ _ z1, ho936 _ z1, ho933 _ z1]⟩) (by decide) (by decide) d_Mo_addSolid_98
        · skip
          refine lv_aload_n hx hb d_Mo_addSolid_76 rfl (lv_at hl 1 rfl) ?_
          refine lv_aload_n hx hb d_Mo_addSolid_77 rfl (lv_at hl 1 rfl) ?_
          refine lv_aload_n hx hb d_Mo_addSolid_78 rfl (lv_at hl 1 rfl) ?_
          refine hv_get hE k_Mo hI 21 (by decide) w537 hq40 rfl d_Mo_addSolid_79 ?_
          refine lv_aload_n hx hb d_Mo_addSolid_82 rfl (lv_at hl 1 rfl) ?_
          refine lv_iload_n hx hb d_Mo_addSolid_83 rfl (lv_at hl 2 rfl) ?_
          refine lv_iconst (v := 0) hx hb d_Mo_addSolid_84 (by decide) ?_
          have hA48 : moA cA g39 a V := ⟨by rw [eg39, hv_up_ne _ _ (hnj.2 0 (by decide))]; exact hA38.1, by rw [eg39, hv_up_ne _ _ (hnj.2 1 (by decide))]; exact hA38.2.1, by rw [eg39, hv_up_ne _ _ (hnj.2 2 (by decide))]; exact hA38.2.2.1, by rw [eg39, hv_up_ne _ _ (hnj.2 3 (by decide))]; exact hA38.2.2.2.1, fun j9 hj9 => by rw [eg39, hv_up_ne _ _ (hnj.2 (4 + j9) (by omega))]; exact hA38.2.2.2.2 j9 hj9⟩
          refine hv_Vp (As := [.int (nI k), .int 0]) (rest := [.long v.2.2.1, .ref mo, .ref mo]) hE hml hK hI (c_Mo_sizeOf0 l hl0 b0 D cA g39 mo a th st en ct ((gd && sz (v.1 + v.2.1)) && sz ((v.1 + v.2.1) + ((szO V k 1).toInt64))) ((v.1 + v.2.1) + ((szO V k 1).toInt64)) ((szO V k 2).toInt64) v.2.2.1 v.2.2.2.1 md V k hq40 hnj hA48 (by omega) hin) cd_Mo_sizeOf w688 w690 ws27 hq40 rfl rfl rfl rfl hl.1 (Nat.le_of_ble_eq_true rfl) d_Mo_addSolid_85 ⟨by decide, by decide⟩ ⟨by decide, by decide⟩ (fun H locs hI => ?_)
          refine W.eq (g2 := F0 m 88 ls [.int (szO V k 0), .long v.2.2.1, .ref mo, .ref mo]) rfl ?_
          refine lv_i2l (v := (szO V k 0).toInt64) hx hb d_Mo_addSolid_88 rfl ?_
          refine lv_iload_n hx hb d_Mo_addSolid_89 rfl (lv_at hl 0 rfl) ?_
          refine lv_i2l (v := (0 : Int32).toInt64) hx hb d_Mo_addSolid_90 rfl ?_
          refine lv_ladd hx hb d_Mo_addSolid_91 ?_
          refine hv_V (As := [.long v.2.2.1, .long (((szO V k 0).toInt64) + ((0 : Int32).toInt64))]) (rest := [.ref mo]) hE hml hK hI (c_Mo_greater l hl0 b0 D cA g39 mo a th st en ct ((gd && sz (v.1 + v.2.1)) && sz ((v.1 + v.2.1) + ((szO V k 1).toInt64))) ((v.1 + v.2.1) + ((szO V k 1).toInt64)) ((szO V k 2).toInt64) v.2.2.1 v.2.2.2.1 md v.2.2.1 (((szO V k 0).toInt64) + ((0 : Int32).toInt64)) hq40 hnj) cd_Mo_greater w696 w698 ws29 hq40 rfl rfl hl.1 (Nat.le_of_ble_eq_true rfl) d_Mo_addSolid_92 ⟨by decide, by decide⟩ ⟨by decide, by decide⟩ (fun v9 g50 H locs hp hI => ?_) (fun q9 E9 ce9 g9 H locs hp => hp.elim)
          obtain ⟨hv, hg49, ho949⟩ := hp
          rw [hv]
          refine W.eq (g2 := F0 m 95 ls [.long (gtr v.2.2.1 (((szO V k 0).toInt64) + ((0 : Int32).toInt64))), .ref mo]) rfl ?_
          refine hv_put hE k_Mo hI 21 (by decide) w537 hg49 rfl rfl rfl (Nat.le_of_ble_eq_true rfl) d_Mo_addSolid_95 (fun H locs hI => ?_)
          obtain ⟨g51, eg51⟩ : ∃ z : hv_M, z = hv_up g50 mo (moE a th st en ct (((gd && sz (v.1 + v.2.1)) && sz ((v.1 + v.2.1) + ((szO V k 1).toInt64))) && sz (((szO V k 0).toInt64) + ((0 : Int32).toInt64))) ((v.1 + v.2.1) + ((szO V k 1).toInt64)) ((szO V k 2).toInt64) (gtr v.2.2.1 (((szO V k 0).toInt64) + ((0 : Int32).toInt64))) v.2.2.2.1 md) := ⟨_, rfl⟩
          have hI : hv_I D CL b0 g51 s.heap H locs := by rw [eg51]; exact hI
          have hq52 : g51 mo = some (moE a th st en ct (((gd && sz (v.1 + v.2.1)) && sz ((v.1 + v.2.1) + ((szO V k 1).toInt64))) && sz (((szO V k 0).toInt64) + ((0 : Int32).toInt64))) ((v.1 + v.2.1) + ((szO V k 1).toInt64)) ((szO V k 2).toInt64) (gtr v.2.2.1 (((szO V k 0).toInt64) + ((0 : Int32).toInt64))) v.2.2.2.1 md) := by rw [eg51]; exact hv_up_self _ _ _
          exact hv_vret hE hr hlocks hI hK (⟨rfl, by rw [show (gd && ckS V bel k v) = (((gd && sz (v.1 + v.2.1)) && sz ((v.1 + v.2.1) + ((szO V k 1).toInt64))) && sz (((szO V k 0).toInt64) + ((0 : Int32).toInt64))) from by simp [ckS, ruO, shO, Bool.and_assoc, c7, k22, c62, c73], show stS V bel k v = ((v.1 + v.2.1) + ((szO V k 1).toInt64), (szO V k 2).toInt64, gtr v.2.2.1 (((szO V k 0).toInt64) + ((0 : Int32).toInt64)), v.2.2.2.1, v.2.2.2.2) from by simp [stS, ruO, shO, c7, k22, c62, c73]]; exact hq52, fun z z1 => by rw [eg51, hv_up_ne _ _ z1, ho949 _ z1, eg39, hv_up_ne _ _ z1, ho936 _ z1, ho933 _ z1]⟩) (by decide) (by decide) d_Mo_addSolid_98
  · skip
    refine lv_aload_n hx hb d_Mo_addSolid_10 rfl (lv_at hl 0 rfl) ?_
    refine lv_iload_n hx hb d_Mo_addSolid_11 rfl (lv_at hl 1 rfl) ?_
    refine lv_iconst (v := 1) hx hb d_Mo_addSolid_12 (by decide) ?_
    refine hv_Vp (As := [.int (nI k), .int 1]) (rest := []) hE hml hK hI (c_Mo_number l hl0 b0 D cA f mo a th st en ct gd v.1 v.2.1 v.2.2.1 v.2.2.2.1 md V k 1 hmo hnj hA.2.1 (by omega) (by omega)) cd_Mo_number w664 w666 ws21 hmo rfl rfl rfl rfl hl.1 (Nat.le_of_ble_eq_true rfl) d_Mo_addSolid_13 ⟨by decide, by decide⟩ ⟨by decide, by decide⟩ (fun H locs hI => ?_)
    refine W.eq (g2 := F0 m 16 ls [.int (wN V k 1)]) rfl ?_
    refine lv_goto (tgt := 20) hx hb d_Mo_addSolid_16 (by decide) ?_
    refine lv_istore_n (lv' := [(3, .int (wN V k 1)), (0, .ref mo), (1, .int (nI k)), (2, .int (b2i bel))]) hx hb d_Mo_addSolid_20 rfl hl (by decide) rfl (fun ls hl => ?_)
    refine lv_iload_n hx hb d_Mo_addSolid_21 rfl (lv_at hl 3 rfl) ?_
    refine lv_if_eq (tgt := 99) hx hb d_Mo_addSolid_22 (by decide) (fun c22 => ?_) (fun c22 => ?_)
    · skip
      have k22 := b2i_f c22
      refine lv_aload_n hx hb d_Mo_addSolid_99 rfl (lv_at hl 1 rfl) ?_
      refine lv_aload_n hx hb d_Mo_addSolid_100 rfl (lv_at hl 1 rfl) ?_
      refine lv_iload_n hx hb d_Mo_addSolid_101 rfl (lv_at hl 2 rfl) ?_
      refine lv_iconst (v := 0) hx hb d_Mo_addSolid_102 (by decide) ?_
      refine hv_Vp (As := [.int (nI k), .int 0]) (rest := [.ref mo]) hE hml hK hI (c_Mo_sizeOf0 l hl0 b0 D cA f mo a th st en ct gd v.1 v.2.1 v.2.2.1 v.2.2.2.1 md V k hmo hnj hA (by omega) hin) cd_Mo_sizeOf w688 w690 ws27 hmo rfl rfl rfl rfl hl.1 (Nat.le_of_ble_eq_true rfl) d_Mo_addSolid_103 ⟨by decide, by decide⟩ ⟨by decide, by decide⟩ (fun H locs hI => ?_)
      refine W.eq (g2 := F0 m 106 ls [.int (szO V k 0), .ref mo]) rfl ?_
      refine lv_i2l (v := (szO V k 0).toInt64) hx hb d_Mo_addSolid_106 rfl ?_
      refine hv_V (As := [.long ((szO V k 0).toInt64)]) (rest := []) hE hml hK hI (c_Mo_grow l hl0 b0 D cA f mo a th st en ct gd v.1 v.2.1 v.2.2.1 v.2.2.2.1 md ((szO V k 0).toInt64) hmo hnj) cd_Mo_grow w684 w686 ws26 hmo rfl rfl hl.1 (Nat.le_of_ble_eq_true rfl) d_Mo_addSolid_107 ⟨by decide, by decide⟩ ⟨by decide, by decide⟩ (fun v9 g54 H locs hp hI => ?_) (fun q9 E9 ce9 g9 H locs hp => hp.elim)
      obtain ⟨hv, hg53, ho953⟩ := hp
      rw [hv]
      refine W.eq (g2 := F0 m 110 ls []) rfl ?_
      refine lv_aload_n hx hb d_Mo_addSolid_110 rfl (lv_at hl 1 rfl) ?_
      refine hv_get hE k_Mo hI 1 (by decide) w517 hg53 rfl d_Mo_addSolid_111 ?_
      refine lv_iload_n hx hb d_Mo_addSolid_114 rfl (lv_at hl 2 rfl) ?_
      have hq55 : g54 (a 0) = some (.inl (cA 0, 10200, .inl (wK V))) := by rw [ho953 _ (hnj.2 0 (by decide))]; exact hA.1
      refine hv_iald hE hI 0 hq55 rfl (pk_in k 10200 (by omega) rfl (by omega)) d_Mo_addSolid_115 ?_
      rw [nI_cl (by omega)]
      refine W.eq (g2 := F0 m 116 ls [.int (wK V k)]) rfl ?_
      refine lv_iconst (v := 1) hx hb d_Mo_addSolid_116 (by decide) ?_
      refine lv_icmp_ne (tgt := 131) hx hb d_Mo_addSolid_117 (by decide) (fun c117 => ?_) (fun c117 => ?_)
      · skip
        refine lv_aload_n hx hb d_Mo_addSolid_131 rfl (lv_at hl 1 rfl) ?_
        refine lv_aload_n hx hb d_Mo_addSolid_132 rfl (lv_at hl 1 rfl) ?_
        refine lv_aload_n hx hb d_Mo_addSolid_133 rfl (lv_at hl 1 rfl) ?_
        refine hv_get hE k_Mo hI 21 (by decide) w537 hg53 rfl d_Mo_addSolid_134 ?_
        refine lv_aload_n hx hb d_Mo_addSolid_137 rfl (lv_at hl 1 rfl) ?_
        refine lv_iload_n hx hb d_Mo_addSolid_138 rfl (lv_at hl 2 rfl) ?_
        refine lv_iconst (v := 1) hx hb d_Mo_addSolid_139 (by decide) ?_
        have hA56 : moA cA g54 a V := ⟨by rw [ho953 _ (hnj.2 0 (by decide))]; exact hA.1, by rw [ho953 _ (hnj.2 1 (by decide))]; exact hA.2.1, by rw [ho953 _ (hnj.2 2 (by decide))]; exact hA.2.2.1, by rw [ho953 _ (hnj.2 3 (by decide))]; exact hA.2.2.2.1, fun j9 hj9 => by rw [ho953 _ (hnj.2 (4 + j9) (by omega))]; exact hA.2.2.2.2 j9 hj9⟩
        refine hv_Vp (As := [.int (nI k), .int 1]) (rest := [.long v.2.2.1, .ref mo, .ref mo]) hE hml hK hI (c_Mo_sizeOf1 l hl0 b0 D cA g54 mo a th st en ct (gd && sz (v.1 + ((szO V k 0).toInt64))) (v.1 + ((szO V k 0).toInt64)) v.2.1 v.2.2.1 v.2.2.2.1 md V k hg53 hnj hA56 (by omega) hin) cd_Mo_sizeOf w688 w690 ws27 hg53 rfl rfl rfl rfl hl.1 (Nat.le_of_ble_eq_true rfl) d_Mo_addSolid_140 ⟨by decide, by decide⟩ ⟨by decide, by decide⟩ (fun H locs hI => ?_)
        refine W.eq (g2 := F0 m 143 ls [.int (szO V k 1), .long v.2.2.1, .ref mo, .ref mo]) rfl ?_
        refine lv_i2l (v := (szO V k 1).toInt64) hx hb d_Mo_addSolid_143 rfl ?_
        refine lv_iload_n hx hb d_Mo_addSolid_144 rfl (lv_at hl 0 rfl) ?_
        refine lv_i2l (v := (wN V k 1).toInt64) hx hb d_Mo_addSolid_145 rfl ?_
        refine lv_lsub hx hb d_Mo_addSolid_146 ?_
        refine hv_V (As := [.long v.2.2.1, .long (((szO V k 1).toInt64) - ((wN V k 1).toInt64))]) (rest := [.ref mo]) hE hml hK hI (c_Mo_greater l hl0 b0 D cA g54 mo a th st en ct (gd && sz (v.1 + ((szO V k 0).toInt64))) (v.1 + ((szO V k 0).toInt64)) v.2.1 v.2.2.1 v.2.2.2.1 md v.2.2.1 (((szO V k 1).toInt64) - ((wN V k 1).toInt64)) hg53 hnj) cd_Mo_greater w696 w698 ws29 hg53 rfl rfl hl.1 (Nat.le_of_ble_eq_true rfl) d_Mo_addSolid_147 ⟨by decide, by decide⟩ ⟨by decide, by decide⟩ (fun v9 g58 H locs hp hI => ?_) (fun q9 E9 ce9 g9 H locs hp => hp.elim)
        obtain ⟨hv, hg57, ho957⟩ := hp
        rw [hv]
        refine W.eq (g2 := F0 m 150 ls [.long (gtr v.2.2.1 (((szO V k 1).toInt64) - ((wN V k 1).toInt64))), .ref mo]) rfl ?_
        refine hv_put hE k_Mo hI 21 (by decide) w537 hg57 rfl rfl rfl (Nat.le_of_ble_eq_true rfl) d_Mo_addSolid_150 (fun H locs hI => ?_)
        obtain ⟨g59, eg59⟩ : ∃ z : hv_M, z = hv_up g58 mo (moE a th st en ct ((gd && sz (v.1 + ((szO V k 0).toInt64))) && sz (((szO V k 1).toInt64) - ((wN V k 1).toInt64))) (v.1 + ((szO V k 0).toInt64)) v.2.1 (gtr v.2.2.1 (((szO V k 1).toInt64) - ((wN V k 1).toInt64))) v.2.2.2.1 md) := ⟨_, rfl⟩
        have hI : hv_I D CL b0 g59 s.heap H locs := by rw [eg59]; exact hI
        have hq60 : g59 mo = some (moE a th st en ct ((gd && sz (v.1 + ((szO V k 0).toInt64))) && sz (((szO V k 1).toInt64) - ((wN V k 1).toInt64))) (v.1 + ((szO V k 0).toInt64)) v.2.1 (gtr v.2.2.1 (((szO V k 1).toInt64) - ((wN V k 1).toInt64))) v.2.2.2.1 md) := by rw [eg59]; exact hv_up_self _ _ _
        refine lv_aload_n hx hb d_Mo_addSolid_153 rfl (lv_at hl 1 rfl) ?_
        refine hv_get hE k_Mo hI 1 (by decide) w517 hq60 rfl d_Mo_addSolid_154 ?_
        refine lv_iload_n hx hb d_Mo_addSolid_157 rfl (lv_at hl 2 rfl) ?_
        have hq61 : g59 (a 0) = some (.inl (cA 0, 10200, .inl (wK V))) := by rw [eg59, hv_up_ne _ _ (hnj.2 0 (by decide)), ho957 _ (hnj.2 0 (by decide))]; exact hq55
        refine hv_iald hE hI 0 hq61 rfl (pk_in k 10200 (by omega) rfl (by omega)) d_Mo_addSolid_158 ?_
        rw [nI_cl (by omega)]
        refine W.eq (g2 := F0 m 159 ls [.int (wK V k)]) rfl ?_
        refine lv_iconst (v := 1) hx hb d_Mo_addSolid_159 (by decide) ?_
        refine lv_icmp_ne (tgt := 174) hx hb d_Mo_addSolid_160 (by decide) (fun c160 => ?_) (fun c160 => ?_)
        · skip
          refine lv_aload_n hx hb d_Mo_addSolid_174 rfl (lv_at hl 1 rfl) ?_
          refine lv_aload_n hx hb d_Mo_addSolid_175 rfl (lv_at hl 1 rfl) ?_
          refine lv_aload_n hx hb d_Mo_addSolid_176 rfl (lv_at hl 1 rfl) ?_
          refine hv_get hE k_Mo hI 22 (by decide) w538 hq60 rfl d_Mo_addSolid_177 ?_
          refine lv_aload_n hx hb d_Mo_addSolid_180 rfl (lv_at hl 1 rfl) ?_
          refine lv_iload_n hx hb d_Mo_addSolid_181 rfl (lv_at hl 2 rfl) ?_
          refine lv_iconst (v := 2) hx hb d_Mo_addSolid_182 (by decide) ?_
          have hA62 : moA cA g59 a V := ⟨by rw [eg59, hv_up_ne _ _ (hnj.2 0 (by decide)), ho957 _ (hnj.2 0 (by decide))]; exact hA56.1, by rw [eg59, hv_up_ne _ _ (hnj.2 1 (by decide)), ho957 _ (hnj.2 1 (by decide))]; exact hA56.2.1, by rw [eg59, hv_up_ne _ _ (hnj.2 2 (by decide)), ho957 _ (hnj.2 2 (by decide))]; exact hA56.2.2.1, by rw [eg59, hv_up_ne _ _ (hnj.2 3 (by decide)), ho957 _ (hnj.2 3 (by decide))]; exact hA56.2.2.2.1, fun j9 hj9 => by rw [eg59, hv_up_ne _ _ (hnj.2 (4 + j9) (by omega)), ho957 _ (hnj.2 (4 + j9) (by omega))]; exact hA56.2.2.2.2 j9 hj9⟩
          refine hv_Vp (As := [.int (nI k), .int 2]) (rest := [.long v.2.2.2.1, .ref mo, .ref mo]) hE hml hK hI (c_Mo_sizeOf2 l hl0 b0 D cA g59 mo a th st en ct ((gd && sz (v.1 + ((szO V k 0).toInt64))) && sz (((szO V k 1).toInt64) - ((wN V k 1).toInt64))) (v.1 + ((szO V k 0).toInt64)) v.2.1 (gtr v.2.2.1 (((szO V k 1).toInt64) - ((wN V k 1).toInt64))) v.2.2.2.1 md V k hq60 hnj hA62 (by omega) hin) cd_Mo_sizeOf w688 w690 ws27 hq60 rfl rfl rfl rfl hl.1 (Nat.le_of_ble_eq_true rfl) d_Mo_addSolid_183 ⟨by decide, by decide⟩ ⟨by decide, by decide⟩ (fun H locs hI => ?_)
          refine W.eq (g2 := F0 m 186 ls [.int (szO V k 2), .long v.2.2.2.1, .ref mo, .ref mo]) rfl ?_
          refine lv_i2l (v := (szO V k 2).toInt64) hx hb d_Mo_addSolid_186 rfl ?_
          refine lv_iload_n hx hb d_Mo_addSolid_187 rfl (lv_at hl 0 rfl) ?_
          refine lv_i2l (v := (wN V k 1).toInt64) hx hb d_Mo_addSolid_188 rfl ?_
          refine lv_ladd hx hb d_Mo_addSolid_189 ?_
          refine hv_V (As := [.long v.2.2.2.1, .long (((szO V k 2).toInt64) + ((wN V k 1).toInt64))]) (rest := [.ref mo]) hE hml hK hI (c_Mo_greater l hl0 b0 D cA g59 mo a th st en ct ((gd && sz (v.1 + ((szO V k 0).toInt64))) && sz (((szO V k 1).toInt64) - ((wN V k 1).toInt64))) (v.1 + ((szO V k 0).toInt64)) v.2.1 (gtr v.2.2.1 (((szO V k 1).toInt64) - ((wN V k 1).toInt64))) v.2.2.2.1 md v.2.2.2.1 (((szO V k 2).toInt64) + ((wN V k 1).toInt64)) hq60 hnj) cd_Mo_greater w696 w698 ws29 hq60 rfl rfl hl.1 (Nat.le_of_ble_eq_true rfl) d_Mo_addSolid_190 ⟨by decide, by decide⟩ ⟨by decide, by decide⟩ (fun v9 g64 H locs hp hI => ?_) (fun q9 E9 ce9 g9 H locs hp => hp.elim)
          obtain ⟨hv, hg63, ho963⟩ := hp
          rw [hv]
          refine W.eq (g2 := F0 m 193 ls [.long (gtr v.2.2.2.1 (((szO V k 2).toInt64) + ((wN V k 1).toInt64))), .ref mo]) rfl ?_
          refine hv_put hE k_Mo hI 22 (by decide) w538 hg63 rfl rfl rfl (Nat.le_of_ble_eq_true rfl) d_Mo_addSolid_193 (fun H locs hI => ?_)
          obtain ⟨g65, eg65⟩ : ∃ z : hv_M, z = hv_up g64 mo (moE a th st en ct (((gd && sz (v.1 + ((szO V k 0).toInt64))) && sz (((szO V k 1).toInt64) - ((wN V k 1).toInt64))) && sz (((szO V k 2).toInt64) + ((wN V k 1).toInt64))) (v.1 + ((szO V k 0).toInt64)) v.2.1 (gtr v.2.2.1 (((szO V k 1).toInt64) - ((wN V k 1).toInt64))) (gtr v.2.2.2.1 (((szO V k 2).toInt64) + ((wN V k 1).toInt64))) md) := ⟨_, rfl⟩
          have hI : hv_I D CL b0 g65 s.heap H locs := by rw [eg65]; exact hI
          have hq66 : g65 mo = some (moE a th st en ct (((gd && sz (v.1 + ((szO V k 0).toInt64))) && sz (((szO V k 1).toInt64) - ((wN V k 1).toInt64))) && sz (((szO V k 2).toInt64) + ((wN V k 1).toInt64))) (v.1 + ((szO V k 0).toInt64)) v.2.1 (gtr v.2.2.1 (((szO V k 1).toInt64) - ((wN V k 1).toInt64))) (gtr v.2.2.2.1 (((szO V k 2).toInt64) + ((wN V k 1).toInt64))) md) := by rw [eg65]; exact hv_up_self _ _ _
          exact hv_vret hE hr hlocks hI hK (⟨rfl, by rw [show (gd && ckS V bel k v) = (((gd && sz (v.1 + ((szO V k 0).toInt64))) && sz (((szO V k 1).toInt64) - ((wN V k 1).toInt64))) && sz (((szO V k 2).toInt64) + ((wN V k 1).toInt64))) from by simp [ckS, ruO, shO, Bool.and_assoc, c7, k22, c117, c160], show stS V bel k v = (v.1 + ((szO V k 0).toInt64), v.2.1, gtr v.2.2.1 (((szO V k 1).toInt64) - ((wN V k 1).toInt64)), gtr v.2.2.2.1 (((szO V k 2).toInt64) + ((wN V k 1).toInt64)), v.2.2.2.2) from by simp [stS, ruO, shO, c7, k22, c117, c160]]; exact hq66, fun z z1 => by rw [eg65, hv_up_ne _ _ z1, ho963 _ z1, eg59, hv_up_ne _ _ z1, ho957 _ z1, ho953 _ z1]⟩) (by decide) (by decide) d_Mo_addSolid_196
        · skip
          exact absurd (c7.symm.trans c160) (by decide)
      · skip
        exact absurd (c7.symm.trans c117) (by decide)
    · skip
      have k22 := b2i_t c22
      refine lv_aload_n hx hb d_Mo_addSolid_25 rfl (lv_at hl 1 rfl) ?_
      refine lv_aload_n hx hb d_Mo_addSolid_26 rfl (lv_at hl 1 rfl) ?_
      refine hv_get hE k_Mo hI 20 (by decide) w536 hmo rfl d_Mo_addSolid_27 ?_
      refine hv_V (As := [.long v.2.1]) (rest := []) hE hml hK hI (c_Mo_grow l hl0 b0 D cA f mo a th st en ct gd v.1 v.2.1 v.2.2.1 v.2.2.2.1 md v.2.1 hmo hnj) cd_Mo_grow w684 w686 ws26 hmo rfl rfl hl.1 (Nat.le_of_ble_eq_true rfl) d_Mo_addSolid_30 ⟨by decide, by decide⟩ ⟨by decide, by decide⟩ (fun v9 g68 H locs hp hI => ?_) (fun q9 E9 ce9 g9 H locs hp => hp.elim)
      obtain ⟨hv, hg67, ho967⟩ := hp
      rw [hv]
      refine W.eq (g2 := F0 m 33 ls []) rfl ?_
      refine lv_aload_n hx hb d_Mo_addSolid_33 rfl (lv_at hl 1 rfl) ?_
      refine lv_aload_n hx hb d_Mo_addSolid_34 rfl (lv_at hl 1 rfl) ?_
      refine lv_iload_n hx hb d_Mo_addSolid_35 rfl (lv_at hl 2 rfl) ?_
      refine lv_iconst (v := 1) hx hb d_Mo_addSolid_36 (by decide) ?_
      have hA69 : moA cA g68 a V := ⟨by rw [ho967 _ (hnj.2 0 (by decide))]; exact hA.1, by rw [ho967 _ (hnj.2 1 (by decide))]; exact hA.2.1, by rw [ho967 _ (hnj.2 2 (by decide))]; exact hA.2.2.1, by rw [ho967 _ (hnj.2 3 (by decide))]; exact hA.2.2.2.1, fun j9 hj9 => by rw [ho967 _ (hnj.2 (4 + j9) (by omega))]; exact hA.2.2.2.2 j9 hj9⟩
      refine hv_Vp (As := [.int (nI k), .int 1]) (rest := [.ref mo]) hE hml hK hI (c_Mo_sizeOf1 l hl0 b0 D cA g68 mo a th st en ct (gd && sz (v.1 + v.2.1)) (v.1 + v.2.1) v.2.1 v.2.2.1 v.2.2.2.1 md V k hg67 hnj hA69 (by omega) hin) cd_Mo_sizeOf w688 w690 ws27 hg67 rfl rfl rfl rfl hl.1 (Nat.le_of_ble_eq_true rfl) d_Mo_addSolid_37 ⟨by decide, by decide⟩ ⟨by decide, by decide⟩ (fun H locs hI => ?_)
      refine W.eq (g2 := F0 m 40 ls [.int (szO V k 1), .ref mo]) rfl ?_
      refine lv_i2l (v := (szO V k 1).toInt64) hx hb d_Mo_addSolid_40 rfl ?_
      refine hv_V (As := [.long ((szO V k 1).toInt64)]) (rest := []) hE hml hK hI (c_Mo_grow l hl0 b0 D cA g68 mo a th st en ct (gd && sz (v.1 + v.2.1)) (v.1 + v.2.1) v.2.1 v.2.2.1 v.2.2.2.1 md ((szO V k 1).toInt64) hg67 hnj) cd_Mo_grow w684 w686 ws26 hg67 rfl rfl hl.1 (Nat.le_of_ble_eq_true rfl) d_Mo_addSolid_41 ⟨by decide, by decide⟩ ⟨by decide, by decide⟩ (fun v9 g71 H locs hp hI => ?_) (fun q9 E9 ce9 g9 H locs hp => hp.elim)
      obtain ⟨hv, hg70, ho970⟩ := hp
      rw [hv]
      refine W.eq (g2 := F0 m 44 ls []) rfl ?_
      refine lv_aload_n hx hb d_Mo_addSolid_44 rfl (lv_at hl 1 rfl) ?_
      refine lv_aload_n hx hb d_Mo_addSolid_45 rfl (lv_at hl 1 rfl) ?_
      refine lv_iload_n hx hb d_Mo_addSolid_46 rfl (lv_at hl 2 rfl) ?_
      refine lv_iconst (v := 2) hx hb d_Mo_addSolid_47 (by decide) ?_
      have hA72 : moA cA g71 a V := ⟨by rw [ho970 _ (hnj.2 0 (by decide))]; exact hA69.1, by rw [ho970 _ (hnj.2 1 (by decide))]; exact hA69.2.1, by rw [ho970 _ (hnj.2 2 (by decide))]; exact hA69.2.2.1, by rw [ho970 _ (hnj.2 3 (by decide))]; exact hA69.2.2.2.1, fun j9 hj9 => by rw [ho970 _ (hnj.2 (4 + j9) (by omega))]; exact hA69.2.2.2.2 j9 hj9⟩
      refine hv_Vp (As := [.int (nI k), .int 2]) (rest := [.ref mo]) hE hml hK hI (c_Mo_sizeOf2 l hl0 b0 D cA g71 mo a th st en ct ((gd && sz (v.1 + v.2.1)) && sz ((v.1 + v.2.1) + ((szO V k 1).toInt64))) ((v.1 + v.2.1) + ((szO V k 1).toInt64)) v.2.1 v.2.2.1 v.2.2.2.1 md V k hg70 hnj hA72 (by omega) hin) cd_Mo_sizeOf w688 w690 ws27 hg70 rfl rfl rfl rfl hl.1 (Nat.le_of_ble_eq_true rfl) d_Mo_addSolid_48 ⟨by decide, by decide⟩ ⟨by decide, by decide⟩ (fun H locs hI => ?_)
      refine W.eq (g2 := F0 m 51 ls [.int (szO V k 2), .ref mo]) rfl ?_
      refine lv_i2l (v := (szO V k 2).toInt64) hx hb d_Mo_addSolid_51 rfl ?_
      refine hv_put hE k_Mo hI 20 (by decide) w536 hg70 rfl rfl rfl (Nat.le_of_ble_eq_true rfl) d_Mo_addSolid_52 (fun H locs hI => ?_)
      obtain ⟨g73, eg73⟩ : ∃ z : hv_M, z = hv_up g71 mo (moE a th st en ct ((gd && sz (v.1 + v.2.1)) && sz ((v.1 + v.2.1) + ((szO V k 1).toInt64))) ((v.1 + v.2.1) + ((szO V k 1).toInt64)) ((szO V k 2).toInt64) v.2.2.1 v.2.2.2.1 md) := ⟨_, rfl⟩
      have hI : hv_I D CL b0 g73 s.heap H locs := by rw [eg73]; exact hI
      have hq74 : g73 mo = some (moE a th st en ct ((gd && sz (v.1 + v.2.1)) && sz ((v.1 + v.2.1) + ((szO V k 1).toInt64))) ((v.1 + v.2.1) + ((szO V k 1).toInt64)) ((szO V k 2).toInt64) v.2.2.1 v.2.2.2.1 md) := by rw [eg73]; exact hv_up_self _ _ _
      refine lv_aload_n hx hb d_Mo_addSolid_55 rfl (lv_at hl 1 rfl) ?_
      refine hv_get hE k_Mo hI 1 (by decide) w517 hq74 rfl d_Mo_addSolid_56 ?_
      refine lv_iload_n hx hb d_Mo_addSolid_59 rfl (lv_at hl 2 rfl) ?_
      have hq75 : g73 (a 0) = some (.inl (cA 0, 10200, .inl (wK V))) := by rw [eg73, hv_up_ne _ _ (hnj.2 0 (by decide)), ho970 _ (hnj.2 0 (by decide)), ho967 _ (hnj.2 0 (by decide))]; exact hA.1
      refine hv_iald hE hI 0 hq75 rfl (pk_in k 10200 (by omega) rfl (by omega)) d_Mo_addSolid_60 ?_
      rw [nI_cl (by omega)]
      refine W.eq (g2 := F0 m 61 ls [.int (wK V k)]) rfl ?_
      refine lv_iconst (v := 1) hx hb d_Mo_addSolid_61 (by decide) ?_
      refine lv_icmp_ne (tgt := 76) hx hb d_Mo_addSolid_62 (by decide) (fun c62 => ?_) (fun c62 => ?_)
      · skip
        refine lv_aload_n hx hb d_Mo_addSolid_76 rfl (lv_at hl 1 rfl) ?_
        refine lv_aload_n hx hb d_Mo_addSolid_77 rfl (lv_at hl 1 rfl) ?_
        refine lv_aload_n hx hb d_Mo_addSolid_78 rfl (lv_at hl 1 rfl) ?_
        refine hv_get hE k_Mo hI 21 (by decide) w537 hq74 rfl d_Mo_addSolid_79 ?_
        refine lv_aload_n hx hb d_Mo_addSolid_82 rfl (lv_at hl 1 rfl) ?_
        refine lv_iload_n hx hb d_Mo_addSolid_83 rfl (lv_at hl 2 rfl) ?_
        refine lv_iconst (v := 0) hx hb d_Mo_addSolid_84 (by decide) ?_
        have hA76 : moA cA g73 a V := ⟨by rw [eg73, hv_up_ne _ _ (hnj.2 0 (by decide))]; exact hA72.1, by rw [eg73, hv_up_ne _ _ (hnj.2 1 (by decide))]; exact hA72.2.1, by rw [eg73, hv_up_ne _ _ (hnj.2 2 (by decide))]; exact hA72.2.2.1, by rw [eg73, hv_up_ne _ _ (hnj.2 3 (by decide))]; exact hA72.2.2.2.1, fun j9 hj9 => by rw [eg73, hv_up_ne _ _ (hnj.2 (4 + j9) (by omega))]; exact hA72.2.2.2.2 j9 hj9⟩
        refine hv_Vp (As := [.int (nI k), .int 0]) (rest := [.long v.2.2.1, .ref mo, .ref mo]) hE hml hK hI (c_Mo_sizeOf0 l hl0 b0 D cA g73 mo a th st en ct ((gd && sz (v.1 + v.2.1)) && sz ((v.1 + v.2.1) + ((szO V k 1).toInt64))) ((v.1 + v.2.1) + ((szO V k 1).toInt64)) ((szO V k 2).toInt64) v.2.2.1 v.2.2.2.1 md V k hq74 hnj hA76 (by omega) hin) cd_Mo_sizeOf w688 w690 ws27 hq74 rfl rfl rfl rfl hl.1 (Nat.le_of_ble_eq_true rfl) d_Mo_addSolid_85 ⟨by decide, by decide⟩ ⟨by decide, by decide⟩ (fun H locs hI => ?_)
        refine W.eq (g2 := F0 m 88 ls [.int (szO V k 0), .long v.2.2.1, .ref mo, .ref mo]) rfl ?_
        refine lv_i2l (v := (szO V k 0).toInt64) hx hb d_Mo_addSolid_88 rfl ?_
        refine lv_iload_n hx hb d_Mo_addSolid_89 rfl (lv_at hl 0 rfl) ?_
        refine lv_i2l (v := (wN V k 1).toInt64) hx hb d_Mo_addSolid_90 rfl ?_
        refine lv_ladd hx hb d_Mo_addSolid_91 ?_
        refine hv_V (As := [.long v.2.2.1, .long (((szO V k 0).toInt64) + ((wN V k 1).toInt64))]) (rest := [.ref mo]) hE hml hK hI (c_Mo_greater l hl0 b0 D cA g73 mo a th st en ct ((gd && sz (v.1 + v.2.1)) && sz ((v.1 + v.2.1) + ((szO V k 1).toInt64))) ((v.1 + v.2.1) + ((szO V k 1).toInt64)) ((szO V k 2).toInt64) v.2.2.1 v.2.2.2.1 md v.2.2.1 (((szO V k 0).toInt64) + ((wN V k 1).toInt64)) hq74 hnj) cd_Mo_greater w696 w698 ws29 hq74 rfl rfl hl.1 (Nat.le_of_ble_eq_true rfl) d_Mo_addSolid_92 ⟨by decide, by decide⟩ ⟨by decide, by decide⟩ (fun v9 g78 H locs hp hI => ?_) (fun q9 E9 ce9 g9 H locs hp => hp.elim)
        obtain ⟨hv, hg77, ho977⟩ := hp
        rw [hv]
        refine W.eq (g2 := F0 m 95 ls [.long (gtr v.2.2.1 (((szO V k 0).toInt64) + ((wN V k 1).toInt64))), .ref mo]) rfl ?_
        refine hv_put hE k_Mo hI 21 (by decide) w537 hg77 rfl rfl rfl (Nat.le_of_ble_eq_true rfl) d_Mo_addSolid_95 (fun H locs hI => ?_)
        obtain ⟨g79, eg79⟩ : ∃ z : hv_M, z = hv_up g78 mo (moE a th st en ct (((gd && sz (v.1 + v.2.1)) && sz ((v.1 + v.2.1) + ((szO V k 1).toInt64))) && sz (((szO V k 0).toInt64) + ((wN V k 1).toInt64))) ((v.1 + v.2.1) + ((szO V k 1).toInt64)) ((szO V k 2).toInt64) (gtr v.2.2.1 (((szO V k 0).toInt64) + ((wN V k 1).toInt64))) v.2.2.2.1 md) := ⟨_, rfl⟩
        have hI : hv_I D CL b0 g79 s.heap H locs := by rw [eg79]; exact hI
        have hq80 : g79 mo = some (moE a th st en ct (((gd && sz (v.1 + v.2.1)) && sz ((v.1 + v.2.1) + ((szO V k 1).toInt64))) && sz (((szO V k 0).toInt64) + ((wN V k 1).toInt64))) ((v.1 + v.2.1) + ((szO V k 1).toInt64)) ((szO V k 2).toInt64) (gtr v.2.2.1 (((szO V k 0).toInt64) + ((wN V k 1).toInt64))) v.2.2.2.1 md) := by rw [eg79]; exact hv_up_self _ _ _
        exact hv_vret hE hr hlocks hI hK (⟨rfl, by rw [show (gd && ckS V bel k v) = (((gd && sz (v.1 + v.2.1)) && sz ((v.1 + v.2.1) + ((szO V k 1).toInt64))) && sz (((szO V k 0).toInt64) + ((wN V k 1).toInt64))) from by simp [ckS, ruO, shO, Bool.and_assoc, c7, k22, c62], show stS V bel k v = ((v.1 + v.2.1) + ((szO V k 1).toInt64), (szO V k 2).toInt64, gtr v.2.2.1 (((szO V k 0).toInt64) + ((wN V k 1).toInt64)), v.2.2.2.1, v.2.2.2.2) from by simp [stS, ruO, shO, c7, k22, c62]]; exact hq80, fun z z1 => by rw [eg79, hv_up_ne _ _ z1, ho977 _ z1, eg73, hv_up_ne _ _ z1, ho970 _ z1, ho967 _ z1]⟩) (by decide) (by decide) d_Mo_addSolid_98
      · skip
        exact absurd (c7.symm.trans c62) (by decide)

theorem st_ss {V : Wd} {bel : Bool} {k : Nat} {v : Vl} : (stS V bel k v).2.2.2.2 = v.2.2.2.2 := by cases bel <;> rfl

set_option maxHeartbeats 4000000 in
set_option maxRecDepth 100000 in
theorem c_Mo_add (l : Launch) (hl0 : l.stackTraces = false) (b0 : Nat) (D : va_G) (cA : Nat → ClassId) (f : hv_M) (mo : Nat) (a : Nat → Nat) (th st en ct : Int32) (gd : Bool) (md : Int32) (v : Vl) (V : Wd) (k : Nat) (bel : Bool) (hs : scr cA f mo a th st en ct md gd v) (hnj : moN mo a) (hA : moA cA f a V) (hk : k < 10200) (hin : wK V k = 4 → wI V k < 100 ∧ wN V k 0 = nI (wI V k)) (hor : wK V k = 2 → vp_in (wN V k 2) 4 ∧ vp_in (wN V k 4) 4) : hv_Met l y_Mo_add [Cond.code y_Mo_add b_Mo_add 5 none] (RM 4 0 0) b0 (Fa D cA) D CL [.ref mo, .int (nI k), .int (b2i bel)] f (fun v9 g => v9 = none ∧ scr cA g mo a th st en ct md (gd && ckV V bel k v) (stV V bel k v) ∧ ∀ z, z ≠ mo → z ≠ a 14 → z ≠ a 15 → g z = f z) (NX) := by
  refine hv_Met.of (own := "BoxPackerModel") (by decide) rfl (Nat.le_of_ble_eq_true rfl) ?_
  intro p e s m below meth c hE hml hout hr hlocks hname hK hI ls hl
  have hl : lv_has ls 5 [(0, .ref mo), (1, .int (nI k)), (2, .int (b2i bel))] := hl
  obtain ⟨hx, hb, hown, hts, hVK⟩ := id hE
  refine lv_aload_n hx hb d_Mo_add_0 rfl (lv_at hl 0 rfl) ?_
  refine lv_iload_n hx hb d_Mo_add_1 rfl (lv_at hl 1 rfl) ?_
  refine hv_Vp (As := [.int (nI k)]) (rest := []) hE hml hK hI (c_Mo_isSolid l hl0 b0 D cA f mo a th st en ct gd v.1 v.2.1 v.2.2.1 v.2.2.2.1 md V k hs.1 hnj hA (by omega)) cd_Mo_isSolid w676 w678 ws24 hs.1 rfl rfl rfl rfl hl.1 (Nat.le_of_ble_eq_true rfl) d_Mo_add_2 ⟨by decide, by decide⟩ ⟨by decide, by decide⟩ (fun H locs hI => ?_)
  refine W.eq (g2 := F0 m 5 ls [.int (b2i (isSo V k))]) rfl ?_
  refine lv_if_eq (tgt := 15) hx hb d_Mo_add_5 (by decide) (fun c5 => ?_) (fun c5 => ?_)
  · skip
    have k5 := b2i_f c5
    refine lv_iload_n hx hb d_Mo_add_15 rfl (lv_at hl 2 rfl) ?_
    refine lv_if_eq (tgt := 32) hx hb d_Mo_add_16 (by decide) (fun c16 => ?_) (fun c16 => ?_)
    · skip
      have k16 := b2i_f c16
      refine lv_aload_n hx hb d_Mo_add_32 rfl (lv_at hl 0 rfl) ?_
      refine lv_aload_n hx hb d_Mo_add_33 rfl (lv_at hl 0 rfl) ?_
      refine lv_iload_n hx hb d_Mo_add_34 rfl (lv_at hl 1 rfl) ?_
      refine lv_iconst (v := 0) hx hb d_Mo_add_35 (by decide) ?_
      refine hv_Vp (As := [.int (nI k), .int 0]) (rest := [.ref mo]) hE hml hK hI (c_Mo_number l hl0 b0 D cA f mo a th st en ct gd v.1 v.2.1 v.2.2.1 v.2.2.2.1 md V k 0 hs.1 hnj hA.2.1 (by omega) (by omega)) cd_Mo_number w664 w666 ws21 hs.1 rfl rfl rfl rfl hl.1 (Nat.le_of_ble_eq_true rfl) d_Mo_add_36 ⟨by decide, by decide⟩ ⟨by decide, by decide⟩ (fun H locs hI => ?_)
      refine W.eq (g2 := F0 m 39 ls [.int (wN V k 0), .ref mo]) rfl ?_
      refine lv_i2l (v := (wN V k 0).toInt64) hx hb d_Mo_add_39 rfl ?_
      refine hv_V (As := [.long ((wN V k 0).toInt64)]) (rest := []) hE hml hK hI (c_Mo_grow l hl0 b0 D cA f mo a th st en ct gd v.1 v.2.1 v.2.2.1 v.2.2.2.1 md ((wN V k 0).toInt64) hs.1 hnj) cd_Mo_grow w684 w686 ws26 hs.1 rfl rfl hl.1 (Nat.le_of_ble_eq_true rfl) d_Mo_add_40 ⟨by decide, by decide⟩ ⟨by decide, by decide⟩ (fun v9 g2 H locs hp hI => ?_) (fun q9 E9 ce9 g9 H locs hp => hp.elim)
      obtain ⟨hv, hg1, ho91⟩ := hp
      rw [hv]
      refine W.eq (g2 := F0 m 43 ls []) rfl ?_
      refine lv_aload_n hx hb d_Mo_add_43 rfl (lv_at hl 0 rfl) ?_
      refine hv_get hE k_Mo hI 1 (by decide) w517 hg1 rfl d_Mo_add_44 ?_
      refine lv_iload_n hx hb d_Mo_add_47 rfl (lv_at hl 1 rfl) ?_
      have hq3 : g2 (a 0) = some (.inl (cA 0, 10200, .inl (wK V))) := by rw [ho91 _ (hnj.2 0 (by decide))]; exact hA.1
      refine hv_iald hE hI 0 hq3 rfl (pk_in k 10200 (by omega) rfl (by omega)) d_Mo_add_48 ?_
      rw [nI_cl (by omega)]
      refine W.eq (g2 := F0 m 49 ls [.int (wK V k)]) rfl ?_
      refine lv_iconst (v := 2) hx hb d_Mo_add_49 (by decide) ?_
      refine lv_icmp_ne (tgt := 151) hx hb d_Mo_add_50 (by decide) (fun c50 => ?_) (fun c50 => ?_)
      · skip
        have hq4 : g2 (a 14) = some (.inl (cA 1, 4, .inr (.inl v.2.2.2.2.1))) := by rw [ho91 _ (hnj.2 14 (by decide))]; exact hs.2.1
        have hq5 : g2 (a 15) = some (.inl (cA 1, 4, .inr (.inl v.2.2.2.2.2))) := by rw [ho91 _ (hnj.2 15 (by decide))]; exact hs.2.2
        exact hv_vret hE hr hlocks hI hK (⟨rfl, by rw [show (gd && ckV V bel k v) = (gd && sz (v.1 + ((wN V k 0).toInt64))) from by simp [ckV, ckG, Bool.and_assoc, k5, k16, c50], show stV V bel k v = (v.1 + ((wN V k 0).toInt64), v.2.1, v.2.2.1, v.2.2.2.1, v.2.2.2.2.1, v.2.2.2.2.2) from by simp [stV, stG, k5, k16, c50]]; exact ⟨hg1, hq4, hq5⟩, fun z z1 z2 z3 => by rw [ho91 _ z1]⟩) (by decide) (by decide) d_Mo_add_151
      · skip
        refine lv_aload_n hx hb d_Mo_add_53 rfl (lv_at hl 0 rfl) ?_
        refine lv_iload_n hx hb d_Mo_add_54 rfl (lv_at hl 1 rfl) ?_
        refine lv_iconst (v := 2) hx hb d_Mo_add_55 (by decide) ?_
        have hq6 : g2 (a 1) = some (.inl (cA 0, 51000, .inl V.2.1)) := by rw [ho91 _ (hnj.2 1 (by decide))]; exact hA.2.1
        refine hv_Vp (As := [.int (nI k), .int 2]) (rest := []) hE hml hK hI (c_Mo_number l hl0 b0 D cA g2 mo a th st en ct (gd && sz (v.1 + ((wN V k 0).toInt64))) (v.1 + ((wN V k 0).toInt64)) v.2.1 v.2.2.1 v.2.2.2.1 md V k 2 hg1 hnj hq6 (by omega) (by omega)) cd_Mo_number w664 w666 ws21 hg1 rfl rfl rfl rfl hl.1 (Nat.le_of_ble_eq_true rfl) d_Mo_add_56 ⟨by decide, by decide⟩ ⟨by decide, by decide⟩ (fun H locs hI => ?_)
        refine W.eq (g2 := F0 m 59 ls [.int (wN V k 2)]) rfl ?_
        refine lv_istore_n (lv' := [(3, .int (wN V k 2)), (0, .ref mo), (1, .int (nI k)), (2, .int (b2i bel))]) hx hb d_Mo_add_59 rfl hl (by decide) rfl (fun ls hl => ?_)
        refine lv_aload_n hx hb d_Mo_add_60 rfl (lv_at hl 1 rfl) ?_
        refine lv_iload_n hx hb d_Mo_add_61 rfl (lv_at hl 2 rfl) ?_
        refine lv_iconst (v := 4) hx hb d_Mo_add_62 (by decide) ?_
        refine hv_Vp (As := [.int (nI k), .int 4]) (rest := []) hE hml hK hI (c_Mo_number l hl0 b0 D cA g2 mo a th st en ct (gd && sz (v.1 + ((wN V k 0).toInt64))) (v.1 + ((wN V k 0).toInt64)) v.2.1 v.2.2.1 v.2.2.2.1 md V k 4 hg1 hnj hq6 (by omega) (by omega)) cd_Mo_number w664 w666 ws21 hg1 rfl rfl rfl rfl hl.1 (Nat.le_of_ble_eq_true rfl) d_Mo_add_63 ⟨by decide, by decide⟩ ⟨by decide, by decide⟩ (fun H locs hI => ?_)
        refine W.eq (g2 := F0 m 66 ls [.int (wN V k 4)]) rfl ?_
        refine lv_istore (lv' := [(4, .int (wN V k 4)), (3, .int (wN V k 2)), (0, .ref mo), (1, .int (nI k)), (2, .int (b2i bel))]) hx hb d_Mo_add_66 hl (by decide) rfl (fun ls hl => ?_)
        refine lv_aload_n hx hb d_Mo_add_68 rfl (lv_at hl 2 rfl) ?_
        refine hv_get hE k_Mo hI 23 (by decide) w539 hg1 rfl d_Mo_add_69 ?_
        refine lv_iload_n hx hb d_Mo_add_72 rfl (lv_at hl 1 rfl) ?_
        refine lv_aload_n hx hb d_Mo_add_73 rfl (lv_at hl 2 rfl) ?_
        refine hv_get hE k_Mo hI 23 (by decide) w539 hg1 rfl d_Mo_add_74 ?_
        refine lv_iload_n hx hb d_Mo_add_77 rfl (lv_at hl 1 rfl) ?_
        have hq7 : g2 (a 14) = some (.inl (cA 1, 4, .inr (.inl v.2.2.2.2.1))) := by rw [ho91 _ (hnj.2 14 (by decide))]; exact hs.2.1
        refine hv_lald hE hI 1 hq7 rfl (hor c50).1 d_Mo_add_78 ?_
        refine lv_aload_n hx hb d_Mo_add_79 rfl (lv_at hl 2 rfl) ?_
        refine lv_iload_n hx hb d_Mo_add_80 rfl (lv_at hl 3 rfl) ?_
        refine lv_iconst (v := 1) hx hb d_Mo_add_81 (by decide) ?_
        refine hv_Vp (As := [.int (nI k), .int 1]) (rest := [.long (v.2.2.2.2.1 (wN V k 2).toNatClampNeg), .int (wN V k 2), .ref (a 14)]) hE hml hK hI (c_Mo_number l hl0 b0 D cA g2 mo a th st en ct (gd && sz (v.1 + ((wN V k 0).toInt64))) (v.1 + ((wN V k 0).toInt64)) v.2.1 v.2.2.1 v.2.2.2.1 md V k 1 hg1 hnj hq6 (by omega) (by omega)) cd_Mo_number w664 w666 ws21 hg1 rfl rfl rfl rfl hl.1 (Nat.le_of_ble_eq_true rfl) d_Mo_add_82 ⟨by decide, by decide⟩ ⟨by decide, by decide⟩ (fun H locs hI => ?_)
        refine W.eq (g2 := F0 m 85 ls [.int (wN V k 1), .long (v.2.2.2.2.1 (wN V k 2).toNatClampNeg), .int (wN V k 2), .ref (a 14)]) rfl ?_
        refine lv_i2l (v := (wN V k 1).toInt64) hx hb d_Mo_add_85 rfl ?_
        refine lv_ladd hx hb d_Mo_add_86 ?_
        refine hv_last hE hI 1 hq7 rfl (hor c50).1 d_Mo_add_87 (fun H locs hI => ?_)
        obtain ⟨g8, eg8⟩ : ∃ z : hv_M, z = hv_up g2 (a 14) (.inl (cA 1, 4, .inr (.inl (vp_updL v.2.2.2.2.1 (wN V k 2).toNatClampNeg ((v.2.2.2.2.1 (wN V k 2).toNatClampNeg) + ((wN V k 1).toInt64)))))) := ⟨_, rfl⟩
        have hI : hv_I D CL b0 g8 s.heap H locs := by rw [eg8]; exact hI
        have hq9 : g8 (a 14) = some (.inl (cA 1, 4, .inr (.inl (vp_updL v.2.2.2.2.1 (wN V k 2).toNatClampNeg ((v.2.2.2.2.1 (wN V k 2).toNatClampNeg) + ((wN V k 1).toInt64)))))) := by rw [eg8]; exact hv_up_self _ _ _
        refine lv_aload_n hx hb d_Mo_add_88 rfl (lv_at hl 2 rfl) ?_
        have hq10 : g8 mo = some (moE a th st en ct (gd && sz (v.1 + ((wN V k 0).toInt64))) (v.1 + ((wN V k 0).toInt64)) v.2.1 v.2.2.1 v.2.2.2.1 md) := by rw [eg8, hv_up_ne _ _ (Ne.symm (hnj.2 14 (by decide)))]; exact hg1
        refine hv_get hE k_Mo hI 24 (by decide) w540 hq10 rfl d_Mo_add_89 ?_
        refine lv_iload hx hb d_Mo_add_92 (lv_at hl 0 rfl) ?_
        refine lv_aload_n hx hb d_Mo_add_94 rfl (lv_at hl 2 rfl) ?_
        refine hv_get hE k_Mo hI 24 (by decide) w540 hq10 rfl d_Mo_add_95 ?_
        refine lv_iload hx hb d_Mo_add_98 (lv_at hl 0 rfl) ?_
        have hq11 : g8 (a 15) = some (.inl (cA 1, 4, .inr (.inl v.2.2.2.2.2))) := by rw [eg8, hv_up_ne _ _ (hnj.1 15 14 (by decide) (by decide) (by decide)), ho91 _ (hnj.2 15 (by decide))]; exact hs.2.2
        refine hv_lald hE hI 1 hq11 rfl (hor c50).2 d_Mo_add_100 ?_
        refine lv_aload_n hx hb d_Mo_add_101 rfl (lv_at hl 2 rfl) ?_
        refine lv_iload_n hx hb d_Mo_add_102 rfl (lv_at hl 3 rfl) ?_
        refine lv_iconst (v := 3) hx hb d_Mo_add_103 (by decide) ?_
        have hq12 : g8 (a 1) = some (.inl (cA 0, 51000, .inl V.2.1)) := by rw [eg8, hv_up_ne _ _ (hnj.1 1 14 (by decide) (by decide) (by decide))]; exact hq6
        refine hv_Vp (As := [.int (nI k), .int 3]) (rest := [.long (v.2.2.2.2.2 (wN V k 4).toNatClampNeg), .int (wN V k 4), .ref (a 15)]) hE hml hK hI (c_Mo_number l hl0 b0 D cA g8 mo a th st en ct (gd && sz (v.1 + ((wN V k 0).toInt64))) (v.1 + ((wN V k 0).toInt64)) v.2.1 v.2.2.1 v.2.2.2.1 md V k 3 hq10 hnj hq12 (by omega) (by omega)) cd_Mo_number w664 w666 ws21 hq10 rfl rfl rfl rfl hl.1 (Nat.le_of_ble_eq_true rfl) d_Mo_add_104 ⟨by decide, by decide⟩ ⟨by decide, by decide⟩ (fun H locs hI => ?_)
        refine W.eq (g2 := F0 m 107 ls [.int (wN V k 3), .long (v.2.2.2.2.2 (wN V k 4).toNatClampNeg), .int (wN V k 4), .ref (a 15)]) rfl ?_
        refine lv_i2l (v := (wN V k 3).toInt64) hx hb d_Mo_add_107 rfl ?_
        refine lv_ladd hx hb d_Mo_add_108 ?_
        refine hv_last hE hI 1 hq11 rfl (hor c50).2 d_Mo_add_109 (fun H locs hI => ?_)
        obtain ⟨g13, eg13⟩ : ∃ z : hv_M, z = hv_up g8 (a 15) (.inl (cA 1, 4, .inr (.inl (vp_updL v.2.2.2.2.2 (wN V k 4).toNatClampNeg ((v.2.2.2.2.2 (wN V k 4).toNatClampNeg) + ((wN V k 3).toInt64)))))) := ⟨_, rfl⟩
        have hI : hv_I D CL b0 g13 s.heap H locs := by rw [eg13]; exact hI
        have hq14 : g13 (a 15) = some (.inl (cA 1, 4, .inr (.inl (vp_updL v.2.2.2.2.2 (wN V k 4).toNatClampNeg ((v.2.2.2.2.2 (wN V k 4).toNatClampNeg) + ((wN V k 3).toInt64)))))) := by rw [eg13]; exact hv_up_self _ _ _
        refine lv_aload_n hx hb d_Mo_add_110 rfl (lv_at hl 2 rfl) ?_
        refine lv_aload_n hx hb d_Mo_add_111 rfl (lv_at hl 2 rfl) ?_
        have hq15 : g13 mo = some (moE a th st en ct (gd && sz (v.1 + ((wN V k 0).toInt64))) (v.1 + ((wN V k 0).toInt64)) v.2.1 v.2.2.1 v.2.2.2.1 md) := by rw [eg13, hv_up_ne _ _ (Ne.symm (hnj.2 15 (by decide)))]; exact hq10
        refine hv_get hE k_Mo hI 18 (by decide) w534 hq15 rfl d_Mo_add_112 ?_
        refine lv_if_eq (tgt := 147) hx hb d_Mo_add_115 (by decide) (fun c115 => ?_) (fun c115 => ?_)
        · skip
          have k115 := b2i_f c115
          refine lv_iconst (v := 0) hx hb d_Mo_add_147 (by decide) ?_
          refine hv_put hE k_Mo hI 18 (by decide) w534 hq15 rfl rfl rfl (Nat.le_of_ble_eq_true rfl) d_Mo_add_148 (fun H locs hI => ?_)
          obtain ⟨g16, eg16⟩ : ∃ z : hv_M, z = hv_up g13 mo (moE a th st en ct false (v.1 + ((wN V k 0).toInt64)) v.2.1 v.2.2.1 v.2.2.2.1 md) := ⟨_, rfl⟩
          have hI : hv_I D CL b0 g16 s.heap H locs := by rw [eg16]; exact hI
          have hq17 : g16 mo = some (moE a th st en ct false (v.1 + ((wN V k 0).toInt64)) v.2.1 v.2.2.1 v.2.2.2.1 md) := by rw [eg16]; exact hv_up_self _ _ _
          have hq18 : g16 (a 14) = some (.inl (cA 1, 4, .inr (.inl (vp_updL v.2.2.2.2.1 (wN V k 2).toNatClampNeg ((v.2.2.2.2.1 (wN V k 2).toNatClampNeg) + ((wN V k 1).toInt64)))))) := by rw [eg16, hv_up_ne _ _ (hnj.2 14 (by decide)), eg13, hv_up_ne _ _ (hnj.1 14 15 (by decide) (by decide) (by decide))]; exact hq9
          have hq19 : g16 (a 15) = some (.inl (cA 1, 4, .inr (.inl (vp_updL v.2.2.2.2.2 (wN V k 4).toNatClampNeg ((v.2.2.2.2.2 (wN V k 4).toNatClampNeg) + ((wN V k 3).toInt64)))))) := by rw [eg16, hv_up_ne _ _ (hnj.2 15 (by decide))]; exact hq14
          exact hv_vret hE hr hlocks hI hK (⟨rfl, by rw [show (gd && ckV V bel k v) = false from by rw [show (gd && ckV V bel k v) = ((gd && sz (v.1 + ((wN V k 0).toInt64))) && (sz (v.2.2.2.2.1 (wN V k 2).toNatClampNeg + (wN V k 1).toInt64) && sz (v.2.2.2.2.2 (wN V k 4).toNatClampNeg + (wN V k 3).toInt64))) from by simp [ckV, ckG, Bool.and_assoc, k5, c50, k16], k115]; simp [], show stV V bel k v = (v.1 + ((wN V k 0).toInt64), v.2.1, v.2.2.1, v.2.2.2.1, vp_updL v.2.2.2.2.1 (wN V k 2).toNatClampNeg ((v.2.2.2.2.1 (wN V k 2).toNatClampNeg) + ((wN V k 1).toInt64)), vp_updL v.2.2.2.2.2 (wN V k 4).toNatClampNeg ((v.2.2.2.2.2 (wN V k 4).toNatClampNeg) + ((wN V k 3).toInt64))) from by simp [stV, stG, k5, k16, c50, k115]]; exact ⟨hq17, hq18, hq19⟩, fun z z1 z2 z3 => by rw [eg16, hv_up_ne _ _ z1, eg13, hv_up_ne _ _ z3, eg8, hv_up_ne _ _ z2, ho91 _ z1]⟩) (by decide) (by decide) d_Mo_add_151
        · skip
          have k115 := b2i_t c115
          refine lv_aload_n hx hb d_Mo_add_118 rfl (lv_at hl 2 rfl) ?_
          refine hv_get hE k_Mo hI 23 (by decide) w539 hq15 rfl d_Mo_add_119 ?_
          refine lv_iload_n hx hb d_Mo_add_122 rfl (lv_at hl 1 rfl) ?_
          have hq20 : g13 (a 14) = some (.inl (cA 1, 4, .inr (.inl (vp_updL v.2.2.2.2.1 (wN V k 2).toNatClampNeg ((v.2.2.2.2.1 (wN V k 2).toNatClampNeg) + ((wN V k 1).toInt64)))))) := by rw [eg13, hv_up_ne _ _ (hnj.1 14 15 (by decide) (by decide) (by decide))]; exact hq9
          refine hv_lald hE hI 1 hq20 rfl (hor c50).1 d_Mo_add_123 ?_
          refine hv_Sp (As := [.long ((vp_updL v.2.2.2.2.1 (wN V k 2).toNatClampNeg ((v.2.2.2.2.1 (wN V k 2).toNatClampNeg) + ((wN V k 1).toInt64))) (wN V k 2).toNatClampNeg)]) (rest := [.ref mo]) hE hml hK hI (c_Mo_isSize l hl0 b0 D cA g13 ((vp_updL v.2.2.2.2.1 (wN V k 2).toNatClampNeg ((v.2.2.2.2.1 (wN V k 2).toNatClampNeg) + ((wN V k 1).toInt64))) (wN V k 2).toNatClampNeg)) cd_Mo_isSize w608 w609 rfl rfl rfl hl.1 (Nat.le_of_ble_eq_true rfl) d_Mo_add_124 ⟨by decide, by decide⟩ ⟨by decide, by decide⟩ (fun H locs hI => ?_)
          refine W.eq (g2 := F0 m 127 ls [.int (b2i (sz ((vp_updL v.2.2.2.2.1 (wN V k 2).toNatClampNeg ((v.2.2.2.2.1 (wN V k 2).toNatClampNeg) + ((wN V k 1).toInt64))) (wN V k 2).toNatClampNeg))), .ref mo]) rfl ?_
          refine lv_if_eq (tgt := 147) hx hb d_Mo_add_127 (by decide) (fun c127 => ?_) (fun c127 => ?_)
          · skip
            have k127 := b2i_f c127
            refine lv_iconst (v := 0) hx hb d_Mo_add_147 (by decide) ?_
            refine hv_put hE k_Mo hI 18 (by decide) w534 hq15 rfl rfl rfl (Nat.le_of_ble_eq_true rfl) d_Mo_add_148 (fun H locs hI => ?_)
            obtain ⟨g21, eg21⟩ : ∃ z : hv_M, z = hv_up g13 mo (moE a th st en ct false (v.1 + ((wN V k 0).toInt64)) v.2.1 v.2.2.1 v.2.2.2.1 md) := ⟨_, rfl⟩
            have hI : hv_I D CL b0 g21 s.heap H locs := by rw [eg21]; exact hI
            have hq22 : g21 mo = some (moE a th st en ct false (v.1 + ((wN V k 0).toInt64)) v.2.1 v.2.2.1 v.2.2.2.1 md) := by rw [eg21]; exact hv_up_self _ _ _
            have hq23 : g21 (a 14) = some (.inl (cA 1, 4, .inr (.inl (vp_updL v.2.2.2.2.1 (wN V k 2).toNatClampNeg ((v.2.2.2.2.1 (wN V k 2).toNatClampNeg) + ((wN V k 1).toInt64)))))) := by rw [eg21, hv_up_ne _ _ (hnj.2 14 (by decide))]; exact hq20
            have hq24 : g21 (a 15) = some (.inl (cA 1, 4, .inr (.inl (vp_updL v.2.2.2.2.2 (wN V k 4).toNatClampNeg ((v.2.2.2.2.2 (wN V k 4).toNatClampNeg) + ((wN V k 3).toInt64)))))) := by rw [eg21, hv_up_ne _ _ (hnj.2 15 (by decide))]; exact hq14
            exact hv_vret hE hr hlocks hI hK (⟨rfl, by rw [show (gd && ckV V bel k v) = false from by have q127 : sz (v.2.2.2.2.1 (wN V k 2).toNatClampNeg + (wN V k 1).toInt64) = false := (by have h9 := k127; simpa [vp_updL] using h9); rw [show (gd && ckV V bel k v) = ((gd && sz (v.1 + ((wN V k 0).toInt64))) && (sz (v.2.2.2.2.1 (wN V k 2).toNatClampNeg + (wN V k 1).toInt64) && sz (v.2.2.2.2.2 (wN V k 4).toNatClampNeg + (wN V k 3).toInt64))) from by simp [ckV, ckG, Bool.and_assoc, k5, c50, k16], k115]; simp [q127], show stV V bel k v = (v.1 + ((wN V k 0).toInt64), v.2.1, v.2.2.1, v.2.2.2.1, vp_updL v.2.2.2.2.1 (wN V k 2).toNatClampNeg ((v.2.2.2.2.1 (wN V k 2).toNatClampNeg) + ((wN V k 1).toInt64)), vp_updL v.2.2.2.2.2 (wN V k 4).toNatClampNeg ((v.2.2.2.2.2 (wN V k 4).toNatClampNeg) + ((wN V k 3).toInt64))) from by simp [stV, stG, k5, k16, c50, k115, k127]]; exact ⟨hq22, hq23, hq24⟩, fun z z1 z2 z3 => by rw [eg21, hv_up_ne _ _ z1, eg13, hv_up_ne _ _ z3, eg8, hv_up_ne _ _ z2, ho91 _ z1]⟩) (by decide) (by decide) d_Mo_add_151
          · skip
            have k127 := b2i_t c127
            refine lv_aload_n hx hb d_Mo_add_130 rfl (lv_at hl 2 rfl) ?_
            refine hv_get hE k_Mo hI 24 (by decide) w540 hq15 rfl d_Mo_add_131 ?_
            refine lv_iload hx hb d_Mo_add_134 (lv_at hl 0 rfl) ?_
            refine hv_lald hE hI 1 hq14 rfl (hor c50).2 d_Mo_add_136 ?_
            refine hv_Sp (As := [.long ((vp_updL v.2.2.2.2.2 (wN V k 4).toNatClampNeg ((v.2.2.2.2.2 (wN V k 4).toNatClampNeg) + ((wN V k 3).toInt64))) (wN V k 4).toNatClampNeg)]) (rest := [.ref mo]) hE hml hK hI (c_Mo_isSize l hl0 b0 D cA g13 ((vp_updL v.2.2.2.2.2 (wN V k 4).toNatClampNeg ((v.2.2.2.2.2 (wN V k 4).toNatClampNeg) + ((wN V k 3).toInt64))) (wN V k 4).toNatClampNeg)) cd_Mo_isSize w608 w609 rfl rfl rfl hl.1 (Nat.le_of_ble_eq_true rfl) d_Mo_add_137 ⟨by decide, by decide⟩ ⟨by decide, by decide⟩ (fun H locs hI => ?_)
            refine W.eq (g2 := F0 m 140 ls [.int (b2i (sz ((vp_updL v.2.2.2.2.2 (wN V k 4).toNatClampNeg ((v.2.2.2.2.2 (wN V k 4).toNatClampNeg) + ((wN V k 3).toInt64))) (wN V k 4).toNatClampNeg))), .ref mo]) rfl ?_
            refine lv_if_eq (tgt := 147) hx hb d_Mo_add_140 (by decide) (fun c140 => ?_) (fun c140 => ?_)
            · skip
              have k140 := b2i_f c140
              refine lv_iconst (v := 0) hx hb d_Mo_add_147 (by decide) ?_
              refine hv_put hE k_Mo hI 18 (by decide) w534 hq15 rfl rfl rfl (Nat.le_of_ble_eq_true rfl) d_Mo_add_148 (fun H locs hI => ?_)
              obtain ⟨g25, eg25⟩ : ∃ z : hv_M, z = hv_up g13 mo (moE a th st en ct false (v.1 + ((wN V k 0).toInt64)) v.2.1 v.2.2.1 v.2.2.2.1 md) := ⟨_, rfl⟩
              have hI : hv_I D CL b0 g25 s.heap H locs := by rw [eg25]; exact hI
              have hq26 : g25 mo = some (moE a th st en ct false (v.1 + ((wN V k 0).toInt64)) v.2.1 v.2.2.1 v.2.2.2.1 md) := by rw [eg25]; exact hv_up_self _ _ _
              have hq27 : g25 (a 14) = some (.inl (cA 1, 4, .inr (.inl (vp_updL v.2.2.2.2.1 (wN V k 2).toNatClampNeg ((v.2.2.2.2.1 (wN V k 2).toNatClampNeg) + ((wN V k 1).toInt64)))))) := by rw [eg25, hv_up_ne _ _ (hnj.2 14 (by decide))]; exact hq20
              have hq28 : g25 (a 15) = some (.inl (cA 1, 4, .inr (.inl (vp_updL v.2.2.2.2.2 (wN V k 4).toNatClampNeg ((v.2.2.2.2.2 (wN V k 4).toNatClampNeg) + ((wN V k 3).toInt64)))))) := by rw [eg25, hv_up_ne _ _ (hnj.2 15 (by decide))]; exact hq14
              exact hv_vret hE hr hlocks hI hK (⟨rfl, by rw [show (gd && ckV V bel k v) = false from by have q127 : sz (v.2.2.2.2.1 (wN V k 2).toNatClampNeg + (wN V k 1).toInt64) = true := (by have h9 := k127; simpa [vp_updL] using h9); have q140 : sz (v.2.2.2.2.2 (wN V k 4).toNatClampNeg + (wN V k 3).toInt64) = false := (by have h9 := k140; simpa [vp_updL] using h9); rw [show (gd && ckV V bel k v) = ((gd && sz (v.1 + ((wN V k 0).toInt64))) && (sz (v.2.2.2.2.1 (wN V k 2).toNatClampNeg + (wN V k 1).toInt64) && sz (v.2.2.2.2.2 (wN V k 4).toNatClampNeg + (wN V k 3).toInt64))) from by simp [ckV, ckG, Bool.and_assoc, k5, c50, k16], k115]; simp [q127, q140], show stV V bel k v = (v.1 + ((wN V k 0).toInt64), v.2.1, v.2.2.1, v.2.2.2.1, vp_updL v.2.2.2.2.1 (wN V k 2).toNatClampNeg ((v.2.2.2.2.1 (wN V k 2).toNatClampNeg) + ((wN V k 1).toInt64)), vp_updL v.2.2.2.2.2 (wN V k 4).toNatClampNeg ((v.2.2.2.2.2 (wN V k 4).toNatClampNeg) + ((wN V k 3).toInt64))) from by simp [stV, stG, k5, k16, c50, k115, k127, k140]]; exact ⟨hq26, hq27, hq28⟩, fun z z1 z2 z3 => by rw [eg25, hv_up_ne _ _ z1, eg13, hv_up_ne _ _ z3, eg8, hv_up_ne _ _ z2, ho91 _ z1]⟩) (by decide) (by decide) d_Mo_add_151
            · skip
              have k140 := b2i_t c140
              refine lv_iconst (v := 1) hx hb d_Mo_add_143 (by decide) ?_
              refine lv_goto (tgt := 148) hx hb d_Mo_add_144 (by decide) ?_
              refine hv_put hE k_Mo hI 18 (by decide) w534 hq15 rfl rfl rfl (Nat.le_of_ble_eq_true rfl) d_Mo_add_148 (fun H locs hI => ?_)
              obtain ⟨g29, eg29⟩ : ∃ z : hv_M, z = hv_up g13 mo (moE a th st en ct true (v.1 + ((wN V k 0).toInt64)) v.2.1 v.2.2.1 v.2.2.2.1 md) := ⟨_, rfl⟩
              have hI : hv_I D CL b0 g29 s.heap H locs := by rw [eg29]; exact hI
              have hq30 : g29 mo = some (moE a th st en ct true (v.1 + ((wN V k 0).toInt64)) v.2.1 v.2.2.1 v.2.2.2.1 md) := by rw [eg29]; exact hv_up_self _ _ _
              have hq31 : g29 (a 14) = some (.inl (cA 1, 4, .inr (.inl (vp_updL v.2.2.2.2.1 (wN V k 2).toNatClampNeg ((v.2.2.2.2.1 (wN V k 2).toNatClampNeg) + ((wN V k 1).toInt64)))))) := by rw [eg29, hv_up_ne _ _ (hnj.2 14 (by decide))]; exact hq20
              have hq32 : g29 (a 15) = some (.inl (cA 1, 4, .inr (.inl (vp_updL v.2.2.2.2.2 (wN V k 4).toNatClampNeg ((v.2.2.2.2.2 (wN V k 4).toNatClampNeg) + ((wN V k 3).toInt64)))))) := by rw [eg29, hv_up_ne _ _ (hnj.2 15 (by decide))]; exact hq14
              exact hv_vret hE hr hlocks hI hK (⟨rfl, by rw [show (gd && ckV V bel k v) = true from by have q127 : sz (v.2.2.2.2.1 (wN V k 2).toNatClampNeg + (wN V k 1).toInt64) = true := (by have h9 := k127; simpa [vp_updL] using h9); have q140 : sz (v.2.2.2.2.2 (wN V k 4).toNatClampNeg + (wN V k 3).toInt64) = true := (by have h9 := k140; simpa [vp_updL] using h9); rw [show (gd && ckV V bel k v) = ((gd && sz (v.1 + ((wN V k 0).toInt64))) && (sz (v.2.2.2.2.1 (wN V k 2).toNatClampNeg + (wN V k 1).toInt64) && sz (v.2.2.2.2.2 (wN V k 4).toNatClampNeg + (wN V k 3).toInt64))) from by simp [ckV, ckG, Bool.and_assoc, k5, c50, k16], k115]; simp [q127, q140], show stV V bel k v = (v.1 + ((wN V k 0).toInt64), v.2.1, v.2.2.1, v.2.2.2.1, vp_updL v.2.2.2.2.1 (wN V k 2).toNatClampNeg ((v.2.2.2.2.1 (wN V k 2).toNatClampNeg) + ((wN V k 1).toInt64)), vp_updL v.2.2.2.2.2 (wN V k 4).toNatClampNeg ((v.2.2.2.2.2 (wN V k 4).toNatClampNeg) + ((wN V k 3).toInt64))) from by simp [stV, stG, k5, k16, c50, k115, k127, k140]]; exact ⟨hq30, hq31, hq32⟩, fun z z1 z2 z3 => by rw [eg29, hv_up_ne _ _ z1, eg13, hv_up_ne _ _ z3, eg8, hv_up_ne _ _ z2, ho91 _ z1]⟩) (by decide) (by decide) d_Mo_add_151
    · skip
      have k16 := b2i_t c16
      refine lv_aload_n hx hb d_Mo_add_19 rfl (lv_at hl 0 rfl) ?_
      refine lv_aload_n hx hb d_Mo_add_20 rfl (lv_at hl 0 rfl) ?_
      refine hv_get hE k_Mo hI 20 (by decide) w536 hs.1 rfl d_Mo_add_21 ?_
      refine hv_V (As := [.long v.2.1]) (rest := []) hE hml hK hI (c_Mo_grow l hl0 b0 D cA f mo a th st en ct gd v.1 v.2.1 v.2.2.1 v.2.2.2.1 md v.2.1 hs.1 hnj) cd_Mo_grow w684 w686 ws26 hs.1 rfl rfl hl.1 (Nat.le_of_ble_eq_true rfl) d_Mo_add_24 ⟨by decide, by decide⟩ ⟨by decide, by decide⟩ (fun v9 g34 H locs hp hI => ?_) (fun q9 E9 ce9 g9 H locs hp => hp.elim)
      obtain ⟨hv, hg33, ho933⟩ := hp
      rw [hv]
      refine W.eq (g2 := F0 m 27 ls []) rfl ?_
      refine lv_aload_n hx hb d_Mo_add_27 rfl (lv_at hl 0 rfl) ?_
      refine lv_lconst (v := 0) hx hb d_Mo_add_28 (by decide) ?_
      refine hv_put hE k_Mo hI 20 (by decide) w536 hg33 rfl rfl rfl (Nat.le_of_ble_eq_true rfl) d_Mo_add_29 (fun H locs hI => ?_)
      obtain ⟨g35, eg35⟩ : ∃ z : hv_M, z = hv_up g34 mo (moE a th st en ct (gd && sz (v.1 + v.2.1)) (v.1 + v.2.1) 0 v.2.2.1 v.2.2.2.1 md) := ⟨_, rfl⟩
      have hI : hv_I D CL b0 g35 s.heap H locs := by rw [eg35]; exact hI
      have hq36 : g35 mo = some (moE a th st en ct (gd && sz (v.1 + v.2.1)) (v.1 + v.2.1) 0 v.2.2.1 v.2.2.2.1 md) := by rw [eg35]; exact hv_up_self _ _ _
      refine lv_aload_n hx hb d_Mo_add_32 rfl (lv_at hl 0 rfl) ?_
      refine lv_aload_n hx hb d_Mo_add_33 rfl (lv_at hl 0 rfl) ?_
      refine lv_iload_n hx hb d_Mo_add_34 rfl (lv_at hl 1 rfl) ?_
      refine lv_iconst (v := 0) hx hb d_Mo_add_35 (by decide) ?_
      have hq37 : g35 (a 1) = some (.inl (cA 0, 51000, .inl V.2.1)) := by rw [eg35, hv_up_ne _ _ (hnj.2 1 (by decide)), ho933 _ (hnj.2 1 (by decide))]; exact hA.2.1
      refine hv_Vp (As := [.int (nI k), .int 0]) (rest := [.ref mo]) hE hml hK hI (c_Mo_number l hl0 b0 D cA g35 mo a th st en ct (gd && sz (v.1 + v.2.1)) (v.1 + v.2.1) 0 v.2.2.1 v.2.2.2.1 md V k 0 hq36 hnj hq37 (by omega) (by omega)) cd_Mo_number w664 w666 ws21 hq36 rfl rfl rfl rfl hl.1 (Nat.le_of_ble_eq_true rfl) d_Mo_add_36 ⟨by decide, by decide⟩ ⟨by decide, by decide⟩ (fun H locs hI => ?_)
      refine W.eq (g2 := F0 m 39 ls [.int (wN V k 0), .ref mo]) rfl ?_
      refine lv_i2l (v := (wN V k 0).toInt64) hx hb d_Mo_add_39 rfl ?_
      refine hv_V (As := [.long ((wN V k 0).toInt64)]) (rest := []) hE hml hK hI (c_Mo_grow l hl0 b0 D cA g35 mo a th st en ct (gd && sz (v.1 + v.2.1)) (v.1 + v.2.1) 0 v.2.2.1 v.2.2.2.1 md ((wN V k 0).toInt64) hq36 hnj) cd_Mo_grow w684 w686 ws26 hq36 rfl rfl hl.1 (Nat.le_of_ble_eq_true rfl) d_Mo_add_40 ⟨by decide, by decide⟩ ⟨by decide, by decide⟩ (fun v9 g39 H locs hp hI => ?_) (fun q9 E9 ce9 g9 H locs hp => hp.elim)
      obtain ⟨hv, hg38, ho938⟩ := hp
      rw [hv]
      refine W.eq (g2 := F0 m 43 ls []) rfl ?_
      refine lv_aload_n hx hb d_Mo_add_43 rfl (lv_at hl 0 rfl) ?_
      refine hv_get hE k_Mo hI 1 (by decide) w517 hg38 rfl d_Mo_add_44 ?_
      refine lv_iload_n hx hb d_Mo_add_47 rfl (lv_at hl 1 rfl) ?_
      have hq40 : g39 (a 0) = some (.inl (cA 0, 10200, .inl (wK V))) := by rw [ho938 _ (hnj.2 0 (by decide)), eg35, hv_up_ne _ _ (hnj.2 0 (by decide)), ho933 _ (hnj.2 0 (by decide))]; exact hA.1
      refine hv_iald hE hI 0 hq40 rfl (pk_in k 10200 (by omega) rfl (by omega)) d_Mo_add_48 ?_
      rw [nI_cl (by omega)]
      refine W.eq (g2 := F0 m 49 ls [.int (wK V k)]) rfl ?_
      refine lv_iconst (v := 2) hx hb d_Mo_add_49 (by decide) ?_
      refine lv_icmp_ne (tgt := 151) hx hb d_Mo_add_50 (by decide) (fun c50 => ?_) (fun c50 => ?_)
      · skip
        have hq41 : g39 (a 14) = some (.inl (cA 1, 4, .inr (.inl v.2.2.2.2.1))) := by rw [ho938 _ (hnj.2 14 (by decide)), eg35, hv_up_ne _ _ (hnj.2 14 (by decide)), ho933 _ (hnj.2 14 (by decide))]; exact hs.2.1
        have hq42 : g39 (a 15) = some (.inl (cA 1, 4, .inr (.inl v.2.2.2.2.2))) := by rw [ho938 _ (hnj.2 15 (by decide)), eg35, hv_up_ne _ _ (hnj.2 15 (by decide)), ho933 _ (hnj.2 15 (by decide))]; exact hs.2.2
        exact hv_vret hE hr hlocks hI hK (⟨rfl, by rw [show (gd && ckV V bel k v) = ((gd && sz (v.1 + v.2.1)) && sz ((v.1 + v.2.1) + ((wN V k 0).toInt64))) from by simp [ckV, ckG, Bool.and_assoc, k5, k16, c50], show stV V bel k v = ((v.1 + v.2.1) + ((wN V k 0).toInt64), 0, v.2.2.1, v.2.2.2.1, v.2.2.2.2.1, v.2.2.2.2.2) from by simp [stV, stG, k5, k16, c50]]; exact ⟨hg38, hq41, hq42⟩, fun z z1 z2 z3 => by rw [ho938 _ z1, eg35, hv_up_ne _ _ z1, ho933 _ z1]⟩) (by decide) (by decide) d_Mo_add_151
      · skip
        refine lv_aload_n hx hb d_Mo_add_53 rfl (lv_at hl 0 rfl) ?_
        refine lv_iload_n hx hb d_Mo_add_54 rfl (lv_at hl 1 rfl) ?_
        refine lv_iconst (v := 2) hx hb d_Mo_add_55 (by decide) ?_
        have hq43 : g39 (a 1) = some (.inl (cA 0, 51000, .inl V.2.1)) := by rw [ho938 _ (hnj.2 1 (by decide))]; exact hq37
        refine hv_Vp (As := [.int (nI k), .int 2]) (rest := []) hE hml hK hI (c_Mo_number l hl0 b0 D cA g39 mo a th st en ct ((gd && sz (v.1 + v.2.1)) && sz ((v.1 + v.2.1) + ((wN V k 0).toInt64))) ((v.1 + v.2.1) + ((wN V k 0).toInt64)) 0 v.2.2.1 v.2.2.2.1 md V k 2 hg38 hnj hq43 (by omega) (by omega)) cd_Mo_number w664 w666 ws21 hg38 rfl rfl rfl rfl hl.1 (Nat.le_of_ble_eq_true rfl) d_Mo_add_56 ⟨by decide, by decide⟩ ⟨by decide, by decide⟩ (fun H locs hI => ?_)
        refine W.eq (g2 := F0 m 59 ls [.int (wN V k 2)]) rfl ?_
        refine lv_istore_n (lv' := [(3, .int (wN V k 2)), (0, .ref mo), (1, .int (nI k)), (2, .int (b2i bel))]) hx hb d_Mo_add_59 rfl hl (by decide) rfl (fun ls hl => ?_)
        refine lv_aload_n hx hb d_Mo_add_60 rfl (lv_at hl 1 rfl) ?_
        refine lv_iload_n hx hb d_Mo_add_61 rfl (lv_at hl 2 rfl) ?_
        refine lv_iconst (v := 4) hx hb d_Mo_add_62 (by decide) ?_
        refine hv_Vp (As := [.int (nI k), .int 4]) (rest := []) hE hml hK hI (c_Mo_number l hl0 b0 D cA g39 mo a th st en ct ((gd && sz (v.1 + v.2.1)) && sz ((v.1 + v.2.1) + ((wN V k 0).toInt64))) ((v.1 + v.2.1) + ((wN V k 0).toInt64)) 0 v.2.2.1 v.2.2.2.1 md V k 4 hg38 hnj hq43 (by omega) (by omega)) cd_Mo_number w664 w666 ws21 hg38 rfl rfl rfl rfl hl.1 (Nat.le_of_ble_eq_true rfl) d_Mo_add_63 ⟨by decide, by decide⟩ ⟨by decide, by decide⟩ (fun H locs hI => ?_)
        refine W.eq (g2 := F0 m 66 ls [.int (wN V k 4)]) rfl ?_
        refine lv_istore (lv' := [(4, .int (wN V k 4)), (3, .int (wN V k 2)), (0, .ref mo), (1, .int (nI k)), (2, .int (b2i bel))]) hx hb d_Mo_add_66 hl (by decide) rfl (fun ls hl => ?_)
        refine lv_aload_n hx hb d_Mo_add_68 rfl (lv_at hl 2 rfl) ?_
        refine hv_get hE k_Mo hI 23 (by decide) w539 hg38 rfl d_Mo_add_69 ?_
        refine lv_iload_n hx hb d_Mo_add_72 rfl (lv_at hl 1 rfl) ?_
        refine lv_aload_n hx hb d_Mo_add_73 rfl (lv_at hl 2 rfl) ?_
        refine hv_get hE k_Mo hI 23 (by decide) w539 hg38 rfl d_Mo_add_74 ?_
        refine lv_iload_n hx hb d_Mo_add_77 rfl (lv_at hl 1 rfl) ?_
        have hq44 : g39 (a 14) = some (.inl (cA 1, 4, .inr (.inl v.2.2.2.2.1))) := by rw [ho938 _ (hnj.2 14 (by decide)), eg35, hv_up_ne _ _ (hnj.2 14 (by decide)), ho933 _ (hnj.2 14 (by decide))]; exact hs.2.1
        refine hv_lald hE hI 1 hq44 rfl (hor c50).1 d_Mo_add_78 ?_
        refine lv_aload_n hx hb d_Mo_add_79 rfl (lv_at hl 2 rfl) ?_
        refine lv_iload_n hx hb d_Mo_add_80 rfl (lv_at hl 3 rfl) ?_
        refine lv_iconst (v := 1) hx hb d_Mo_add_81 (by decide) ?_
        refine hv_Vp (As := [.int (nI k), .int 1]) (rest := [.long (v.2.2.2.2.1 (wN V k 2).toNatClampNeg), .int (wN V k 2), .ref (a 14)]) hE hml hK hI (c_Mo_number l hl0 b0 D cA g39 mo a th st en ct ((gd && sz (v.1 + v.2.1)) && sz ((v.1 + v.2.1) + ((wN V k 0).toInt64))) ((v.1 + v.2.1) + ((wN V k 0).toInt64)) 0 v.2.2.1 v.2.2.2.1 md V k 1 hg38 hnj hq43 (by omega) (by omega)) cd_Mo_number w664 w666 ws21 hg38 rfl rfl rfl rfl hl.1 (Nat.le_of_ble_eq_true rfl) d_Mo_add_82 ⟨by decide, by decide⟩ ⟨by decide, by decide⟩ (fun H locs hI => ?_)
        refine W.eq (g2 := F0 m 85 ls [.int (wN V k 1), .long (v.2.2.2.2.1 (wN V k 2).toNatClampNeg), .int (wN V k 2), .ref (a 14)]) rfl ?_
        refine lv_i2l (v := (wN V k 1).toInt64) hx hb d_Mo_add_85 rfl ?_
        refine lv_ladd hx hb d_Mo_add_86 ?_
        refine hv_last hE hI 1 hq44 rfl (hor c50).1 d_Mo_add_87 (fun H locs hI => ?_)
        obtain ⟨g45, eg45⟩ : ∃ z : hv_M, z = hv_up g39 (a 14) (.inl (cA 1, 4, .inr (.inl (vp_updL v.2.2.2.2.1 (wN V k 2).toNatClampNeg ((v.2.2.2.2.1 (wN V k 2).toNatClampNeg) + ((wN V k 1).toInt64)))))) := ⟨_, rfl⟩
        have hI : hv_I D CL b0 g45 s.heap H locs := by rw [eg45]; exact hI
        have hq46 : g45 (a 14) = some (.inl (cA 1, 4, .inr (.inl (vp_updL v.2.2.2.2.1 (wN V k 2).toNatClampNeg ((v.2.2.2.2.1 (wN V k 2).toNatClampNeg) + ((wN V k 1).toInt64)))))) := by rw [eg45]; exact hv_up_self _ _ _
        refine lv_aload_n hx hb d_Mo_add_88 rfl (lv_at hl 2 rfl) ?_
        have hq47 : g45 mo = some (moE a th st en ct ((gd && sz (v.1 + v.2.1)) && sz ((v.1 + v.2.1) + ((wN V k 0).toInt64))) ((v.1 + v.2.1) + ((wN V k 0).toInt64)) 0 v.2.2.1 v.2.2.2.1 md) := by rw [eg45, hv_up_ne _ _ (Ne.symm (hnj.2 14 (by decide)))]; exact hg38
        refine hv_get hE k_Mo hI 24 (by decide) w540 hq47 rfl d_Mo_add_89 ?_
        refine lv_iload hx hb d_Mo_add_92 (lv_at hl 0 rfl) ?_
        refine lv_aload_n hx hb d_Mo_add_94 rfl (lv_at hl 2 rfl) ?_
        refine hv_get hE k_Mo hI 24 (by decide) w540 hq47 rfl d_Mo_add_95 ?_
        refine lv_iload hx hb d_Mo_add_98 (lv_at hl 0 rfl) ?_
        have hq48 : g45 (a 15) = some (.inl (cA 1, 4, .inr (.inl v.2.2.2.2.2))) := by rw [eg45, hv_up_ne _ _ (hnj.1 15 14 (by decide) (by decide) (by decide)), ho938 _ (hnj.2 15 (by decide)), eg35, hv_up_ne _ _ (hnj.2 15 (by decide)), ho933 _ (hnj.2 15 (by decide))]; exact hs.2.2
        refine hv_lald hE hI 1 hq48 rfl (hor c50).2 d_Mo_add_100 ?_
        refine lv_aload_n hx hb d_Mo_add_101 rfl (lv_at hl 2 rfl) ?_
        refine lv_iload_n hx hb d_Mo_add_102 rfl (lv_at hl 3 rfl) ?_
        refine lv_iconst (v := 3) hx hb d_Mo_add_103 (by decide) ?_
        have hq49 : g45 (a 1) = some (.inl (cA 0, 51000, .inl V.2.1)) := by rw [eg45, hv_up_ne _ _ (hnj.1 1 14 (by decide) (by decide) (by decide))]; exact hq43
        refine hv_Vp (As := [.int (nI k), .int 3]) (rest := [.long (v.2.2.2.2.2 (wN V k 4).toNatClampNeg), .int (wN V k 4), .ref (a 15)]) hE hml hK hI (c_Mo_number l hl0 b0 D cA g45 mo a th st en ct ((gd && sz (v.1 + v.2.1)) && sz ((v.1 + v.2.1) + ((wN V k 0).toInt64))) ((v.1 + v.2.1) + ((wN V k 0).toInt64)) 0 v.2.2.1 v.2.2.2.1 md V k 3 hq47 hnj hq49 (by omega) (by omega)) cd_Mo_number w664 w666 ws21 hq47 rfl rfl rfl rfl hl.1 (Nat.le_of_ble_eq_true rfl) d_Mo_add_104 ⟨by decide, by decide⟩ ⟨by decide, by decide⟩ (fun H locs hI => ?_)
        refine W.eq (g2 := F0 m 107 ls [.int (wN V k 3), .long (v.2.2.2.2.2 (wN V k 4).toNatClampNeg), .int (wN V k 4), .ref (a 15)]) rfl ?_
        refine lv_i2l (v := (wN V k 3).toInt64) hx hb d_Mo_add_107 rfl ?_
        refine lv_ladd hx hb d_Mo_add_108 ?_
        refine hv_last hE hI 1 hq48 rfl (hor c50).2 d_Mo_add_109 (fun H locs hI => ?_)
        obtain ⟨g50, eg50⟩ : ∃ z : hv_M, z = hv_up g45 (a 15) (.inl (cA 1, 4, .inr (.inl (vp_updL v.2.2.2.2.2 (wN V k 4).toNatClampNeg ((v.2.2.2.2.2 (wN V k 4).toNatClampNeg) + ((wN V k 3).toInt64)))))) := ⟨_, rfl⟩
        have hI : hv_I D CL b0 g50 s.heap H locs := by rw [eg50]; exact hI
        have hq51 : g50 (a 15) = some (.inl (cA 1, 4, .inr (.inl (vp_updL v.2.2.2.2.2 (wN V k 4).toNatClampNeg ((v.2.2.2.2.2 (wN V k 4).toNatClampNeg) + ((wN V k 3).toInt64)))))) := by rw [eg50]; exact hv_up_self _ _ _
        refine lv_aload_n hx hb d_Mo_add_110 rfl (lv_at hl 2 rfl) ?_
        refine lv_aload_n hx hb d_Mo_add_111 rfl (lv_at hl 2 rfl) ?_
        have hq52 : g50 mo = some (moE a th st en ct ((gd && sz (v.1 + v.2.1)) && sz ((v.1 + v.2.1) + ((wN V k 0).toInt64))) ((v.1 + v.2.1) + ((wN V k 0).toInt64)) 0 v.2.2.1 v.2.2.2.1 md) := by rw [eg50, hv_up_ne _ _ (Ne.symm (hnj.2 15 (by decide)))]; exact hq47
        refine hv_get hE k_Mo hI 18 (by decide) w534 hq52 rfl d_Mo_add_112 ?_
        refine lv_if_eq (tgt := 147) hx hb d_Mo_add_115 (by decide) (fun c115 => ?_) (fun c115 => ?_)
        · skip
          have k115 := b2i_f c115
          refine lv_iconst (v := 0) hx hb d_Mo_add_147 (by decide) ?_
          refine hv_put hE k_Mo hI 18 (by decide) w534 hq52 rfl rfl rfl (Nat.le_of_ble_eq_true rfl) d_Mo_add_148 (fun H locs hI => ?_)
          obtain ⟨g53, eg53⟩ : ∃ z : hv_M, z = hv_up g50 mo (moE a th st en ct false ((v.1 + v.2.1) + ((wN V k 0).toInt64)) 0 v.2.2.1 v.2.2.2.1 md) := ⟨_, rfl⟩
          have hI : hv_I D CL b0 g53 s.heap H locs := by rw [eg53]; exact hI
          have hq54 : g53 mo = some (moE a th st en ct false ((v.1 + v.2.1) + ((wN V k 0).toInt64)) 0 v.2.2.1 v.2.2.2.1 md) := by rw [eg53]; exact hv_up_self _ _ _
          have hq55 : g53 (a 14) = some (.inl (cA 1, 4, .inr (.inl (vp_updL v.2.2.2.2.1 (wN V k 2).toNatClampNeg ((v.2.2.2.2.1 (wN V k 2).toNatClampNeg) + ((wN V k 1).toInt64)))))) := by rw [eg53, hv_up_ne _ _ (hnj.2 14 (by decide)), eg50, hv_up_ne _ _ (hnj.1 14 15 (by decide) (by decide) (by decide))]; exact hq46
          have hq56 : g53 (a 15) = some (.inl (cA 1, 4, .inr (.inl (vp_updL v.2.2.2.2.2 (wN V k 4).toNatClampNeg ((v.2.2.2.2.2 (wN V k 4).toNatClampNeg) + ((wN V k 3).toInt64)))))) := by rw [eg53, hv_up_ne _ _ (hnj.2 15 (by decide))]; exact hq51
          exact hv_vret hE hr hlocks hI hK (⟨rfl, by rw [show (gd && ckV V bel k v) = false from by rw [show (gd && ckV V bel k v) = (((gd && sz (v.1 + v.2.1)) && sz ((v.1 + v.2.1) + ((wN V k 0).toInt64))) && (sz (v.2.2.2.2.1 (wN V k 2).toNatClampNeg + (wN V k 1).toInt64) && sz (v.2.2.2.2.2 (wN V k 4).toNatClampNeg + (wN V k 3).toInt64))) from by simp [ckV, ckG, Bool.and_assoc, k5, c50, k16], k115]; simp [], show stV V bel k v = ((v.1 + v.2.1) + ((wN V k 0).toInt64), 0, v.2.2.1, v.2.2.2.1, vp_updL v.2.2.2.2.1 (wN V k 2).toNatClampNeg ((v.2.2.2.2.1 (wN V k 2).toNatClampNeg) + ((wN V k 1).toInt64)), vp_updL v.2.2.2.2.2 (wN V k 4).toNatClampNeg ((v.2.2.2.2.2 (wN V k 4).toNatClampNeg) + ((wN V k 3).toInt64))) from by simp [stV, stG, k5, k16, c50, k115]]; exact ⟨hq54, hq55, hq56⟩, fun z z1 z2 z3 => by rw [eg53, hv_up_ne _ _ z1, eg50, hv_up_ne _ _ z3, eg45, hv_up_ne _ _ z2, ho938 _ z1, eg35, hv_up_ne _ _ z1, ho933 _ z1]⟩) (by decide) (by decide) d_Mo_add_151
        · skip
          have k115 := b2i_t c115
          refine lv_aload_n hx hb d_Mo_add_118 rfl (lv_at hl 2 rfl) ?_
          refine hv_get hE k_Mo hI 23 (by decide) w539 hq52 rfl d_Mo_add_119 ?_
          refine lv_iload_n hx hb d_Mo_add_122 rfl (lv_at hl 1 rfl) ?_
          have hq57 : g50 (a 14) = some (.inl (cA 1, 4, .inr (.inl (vp_updL v.2.2.2.2.1 (wN V k 2).toNatClampNeg ((v.2.2.2.2.1 (wN V k 2).toNatClampNeg) + ((wN V k 1).toInt64)))))) := by rw [eg50, hv_up_ne _ _ (hnj.1 14 15 (by decide) (by decide) (by decide))]; exact hq46
          refine hv_lald hE hI 1 hq57 rfl (hor c50).1 d_Mo_add_123 ?_
          refine hv_Sp (As := [.long ((vp_updL v.2.2.2.2.1 (wN V k 2).toNatClampNeg ((v.2.2.2.2.1 (wN V k 2).toNatClampNeg) + ((wN V k 1).toInt64))) (wN V k 2).toNatClampNeg)]) (rest := [.ref mo]) hE hml hK hI (c_Mo_isSize l hl0 b0 D cA g50 ((vp_updL v.2.2.2.2.1 (wN V k 2).toNatClampNeg ((v.2.2.2.2.1 (wN V k 2).toNatClampNeg) + ((wN V k 1).toInt64))) (wN V k 2).toNatClampNeg)) cd_Mo_isSize w608 w609 rfl rfl rfl hl.1 (Nat.le_of_ble_eq_true rfl) d_Mo_add_124 ⟨by decide, by decide⟩ ⟨by decide, by decide⟩ (fun H locs hI => ?_)
          refine W.eq (g2 := F0 m 127 ls [.int (b2i (sz ((vp_updL v.2.2.2.2.1 (wN V k 2).toNatClampNeg ((v.2.2.2.2.1 (wN V k 2).toNatClampNeg) + ((wN V k 1).toInt64))) (wN V k 2).toNatClampNeg))), .ref mo]) rfl ?_
          refine lv_if_eq (tgt := 147) hx hb d_Mo_add_127 (by decide) (fun c127 => ?_) (fun c127 => ?_)
          · skip
            have k127 := b2i_f c127
            refine lv_iconst (v := 0) hx hb d_Mo_add_147 (by decide) ?_
            refine hv_put hE k_Mo hI 18 (by decide) w534 hq52 rfl rfl rfl (Nat.le_of_ble_eq_true rfl) d_Mo_add_148 (fun H locs hI => ?_)
            obtain ⟨g58, eg58⟩ : ∃ z : hv_M, z = hv_up g50 mo (moE a th st en ct false ((v.1 + v.2.1) + ((wN V k 0).toInt64)) 0 v.2.2.1 v.2.2.2.1 md) := ⟨_, rfl⟩
            have hI : hv_I D CL b0 g58 s.heap H locs := by rw [eg58]; exact hI
            have hq59 : g58 mo = some (moE a th st en ct false ((v.1 + v.2.1) + ((wN V k 0).toInt64)) 0 v.2.2.1 v.2.2.2.1 md) := by rw [eg58]; exact hv_up_self _ _ _
            have hq60 : g58 (a 14) = some (.inl (cA 1, 4, .inr (.inl (vp_updL v.2.2.2.2.1 (wN V k 2).toNatClampNeg ((v.2.2.2.2.1 (wN V k 2).toNatClampNeg) + ((wN V k 1).toInt64)))))) := by rw [eg58, hv_up_ne _ _ (hnj.2 14 (by decide))]; exact hq57
            have hq61 : g58 (a 15) = some (.inl (cA 1, 4, .inr (.inl (vp_updL v.2.2.2.2.2 (wN V k 4).toNatClampNeg ((v.2.2.2.2.2 (wN V k 4).toNatClampNeg) + ((wN V k 3).toInt64)))))) := by rw [eg58, hv_up_ne _ _ (hnj.2 15 (by decide))]; exact hq51
            exact hv_vret hE hr hlocks hI hK (⟨rfl, by rw [show (gd && ckV V bel k v) = false from by have q127 : sz (v.2.2.2.2.1 (wN V k 2).toNatClampNeg + (wN V k 1).toInt64) = false := (by have h9 := k127; simpa [vp_updL] using h9); rw [show (gd && ckV V bel k v) = (((gd && sz (v.1 + v.2.1)) && sz ((v.1 + v.2.1) + ((wN V k 0).toInt64))) && (sz (v.2.2.2.2.1 (wN V k 2).toNatClampNeg + (wN V k 1).toInt64) && sz (v.2.2.2.2.2 (wN V k 4).toNatClampNeg + (wN V k 3).toInt64))) from by simp [ckV, ckG, Bool.and_assoc, k5, c50, k16], k115]; simp [q127], show stV V bel k v = ((v.1 + v.2.1) + ((wN V k 0).toInt64), 0, v.2.2.1, v.2.2.2.1, vp_updL v.2.2.2.2.1 (wN V k 2).toNatClampNeg ((v.2.2.2.2.1 (wN V k 2).toNatClampNeg) + ((wN V k 1).toInt64)), vp_updL v.2.2.2.2.2 (wN V k 4).toNatClampNeg ((v.2.2.2.2.2 (wN V k 4).toNatClampNeg) + ((wN V k 3).toInt64))) from by simp [stV, stG, k5, k16, c50, k115, k127]]; exact ⟨hq59, hq60, hq61⟩, fun z z1 z2 z3 => by rw [eg58, hv_up_ne _ _ z1, eg50, hv_up_ne _ _ z3, eg45, hv_up_ne _ _ z2, ho938 _ z1, eg35, hv_up_ne _ _ z1, ho933 _ z1]⟩) (by decide) (by decide) d_Mo_add_151
          · skip
            have k127 := b2i_t c127
            refine lv_aload_n hx hb d_Mo_add_130 rfl (lv_at hl 2 rfl) ?_
            refine hv_get hE k_Mo hI 24 (by decide) w540 hq52 rfl d_Mo_add_131 ?_
            refine lv_iload hx hb d_Mo_add_134 (lv_at hl 0 rfl) ?_
            refine hv_lald hE hI 1 hq51 rfl (hor c50).2 d_Mo_add_136 ?_
            refine hv_Sp (As := [.long ((vp_updL v.2.2.2.2.2 (wN V k 4).toNatClampNeg ((v.2.2.2.2.2 (wN V k 4).toNatClampNeg) + ((wN V k 3).toInt64))) (wN V k 4).toNatClampNeg)]) (rest := [.ref mo]) hE hml hK hI (c_Mo_isSize l hl0 b0 D cA g50 ((vp_updL v.2.2.2.2.2 (wN V k 4).toNatClampNeg ((v.2.2.2.2.2 (wN V k 4).toNatClampNeg) + ((wN V k 3).toInt64))) (wN V k 4).toNatClampNeg)) cd_Mo_isSize w608 w609 rfl rfl rfl hl.1 (Nat.le_of_ble_eq_true rfl) d_Mo_add_137 ⟨by decide, by decide⟩ ⟨by decide, by decide⟩ (fun H locs hI => ?_)
            refine W.eq (g2 := F0 m 140 ls [.int (b2i (sz ((vp_updL v.2.2.2.2.2 (wN V k 4).toNatClampNeg ((v.2.2.2.2.2 (wN V k 4).toNatClampNeg) + ((wN V k 3).toInt64))) (wN V k 4).toNatClampNeg))), .ref mo]) rfl ?_
            refine lv_if_eq (tgt := 147) hx hb d_Mo_add_140 (by decide) (fun c140 => ?_) (fun c140 => ?_)
            · skip
              have k140 := b2i_f c140
              refine lv_iconst (v := 0) hx hb d_Mo_add_147 (by decide) ?_
              refine hv_put hE k_Mo hI 18 (by decide) w534 hq52 rfl rfl rfl (Nat.le_of_ble_eq_true rfl) d_Mo_add_148 (fun H locs hI => ?_)
              obtain ⟨g62, eg62⟩ : ∃ z : hv_M, z = hv_up g50 mo (moE a th st en ct false ((v.1 + v.2.1) + ((wN V k 0).toInt64)) 0 v.2.2.1 v.2.2.2.1 md) := ⟨_, rfl⟩
              have hI : hv_I D CL b0 g62 s.heap H locs := by rw [eg62]; exact hI
              have hq63 : g62 mo = some (moE a th st en ct false ((v.1 + v.2.1) + ((wN V k 0).toInt64)) 0 v.2.2.1 v.2.2.2.1 md) := by rw [eg62]; exact hv_up_self _ _ _
              have hq64 : g62 (a 14) = some (.inl (cA 1, 4, .inr (.inl (vp_updL v.2.2.2.2.1 (wN V k 2).toNatClampNeg ((v.2.2.2.2.1 (wN V k 2).toNatClampNeg) + ((wN V k 1).toInt64)))))) := by rw [eg62, hv_up_ne _ _ (hnj.2 14 (by decide))]; exact hq57
              have hq65 : g62 (a 15) = some (.inl (cA 1, 4, .inr (.inl (vp_updL v.2.2.2.2.2 (wN V k 4).toNatClampNeg ((v.2.2.2.2.2 (wN V k 4).toNatClampNeg) + ((wN V k 3).toInt64)))))) := by rw [eg62, hv_up_ne _ _ (hnj.2 15 (by decide))]; exact hq51
              exact hv_vret hE hr hlocks hI hK (⟨rfl, by rw [show (gd && ckV V bel k v) = false from by have q127 : sz (v.2.2.2.2.1 (wN V k 2).toNatClampNeg + (wN V k 1).toInt64) = true := (by have h9 := k127; simpa [vp_updL] using h9); have q140 : sz (v.2.2.2.2.2 (wN V k 4).toNatClampNeg + (wN V k 3).toInt64) = false := (by have h9 := k140; simpa [vp_updL] using h9); rw [show (gd && ckV V bel k v) = (((gd && sz (v.1 + v.2.1)) && sz ((v.1 + v.2.1) + ((wN V k 0).toInt64))) && (sz (v.2.2.2.2.1 (wN V k 2).toNatClampNeg + (wN V k 1).toInt64) && sz (v.2.2.2.2.2 (wN V k 4).toNatClampNeg + (wN V k 3).toInt64))) from by simp [ckV, ckG, Bool.and_assoc, k5, c50, k16], k115]; simp [q127, q140], show stV V bel k v = ((v.1 + v.2.1) + ((wN V k 0).toInt64), 0, v.2.2.1, v.2.2.2.1, vp_updL v.2.2.2.2.1 (wN V k 2).toNatClampNeg ((v.2.2.2.2.1 (wN V k 2).toNatClampNeg) + ((wN V k 1).toInt64)), vp_updL v.2.2.2.2.2 (wN V k 4).toNatClampNeg ((v.2.2.2.2.2 (wN V k 4).toNatClampNeg) + ((wN V k 3).toInt64))) from by simp [stV, stG, k5, k16, c50, k115, k127, k140]]; exact ⟨hq63, hq64, hq65⟩, fun z z1 z2 z3 => by rw [eg62, hv_up_ne _ _ z1, eg50, hv_up_ne _ _ z3, eg45, hv_up_ne _ _ z2, ho938 _ z1, eg35, hv_up_ne _ _ z1, ho933 _ z1]⟩) (by decide) (by decide) d_Mo_add_151
            · skip
              have k140 := b2i_t c140
              refine lv_iconst (v := 1) hx hb d_Mo_add_143 (by decide) ?_
              refine lv_goto (tgt := 148) hx hb d_Mo_add_144 (by decide) ?_
              refine hv_put hE k_Mo hI 18 (by decide) w534 hq52 rfl rfl rfl (Nat.le_of_ble_eq_true rfl) d_Mo_add_148 (fun H locs hI => ?_)
              obtain ⟨g66, eg66⟩ : ∃ z : hv_M, z = hv_up g50 mo (moE a th st en ct true ((v.1 + v.2.1) + ((wN V k 0).toInt64)) 0 v.2.2.1 v.2.2.2.1 md) := ⟨_, rfl⟩
              have hI : hv_I D CL b0 g66 s.heap H locs := by rw [eg66]; exact hI
              have hq67 : g66 mo = some (moE a th st en ct true ((v.1 + v.2.1) + ((wN V k 0).toInt64)) 0 v.2.2.1 v.2.2.2.1 md) := by rw [eg66]; exact hv_up_self _ _ _
              have hq68 : g66 (a 14) = some (.inl (cA 1, 4, .inr (.inl (vp_updL v.2.2.2.2.1 (wN V k 2).toNatClampNeg ((v.2.2.2.2.1 (wN V k 2).toNatClampNeg) + ((wN V k 1).toInt64)))))) := by rw [eg66, hv_up_ne _ _ (hnj.2 14 (by decide))]; exact hq57
              have hq69 : g66 (a 15) = some (.inl (cA 1, 4, .inr (.inl (vp_updL v.2.2.2.2.2 (wN V k 4).toNatClampNeg ((v.2.2.2.2.2 (wN V k 4).toNatClampNeg) + ((wN V k 3).toInt64)))))) := by rw [eg66, hv_up_ne _ _ (hnj.2 15 (by decide))]; exact hq51
              exact hv_vret hE hr hlocks hI hK (⟨rfl, by rw [show (gd && ckV V bel k v) = true from by have q127 : sz (v.2.2.2.2.1 (wN V k 2).toNatClampNeg + (wN V k 1).toInt64) = true := (by have h9 := k127; simpa [vp_updL] using h9); have q140 : sz (v.2.2.2.2.2 (wN V k 4).toNatClampNeg + (wN V k 3).toInt64) = true := (by have h9 := k140; simpa [vp_updL] using h9); rw [show (gd && ckV V bel k v) = (((gd && sz (v.1 + v.2.1)) && sz ((v.1 + v.2.1) + ((wN V k 0).toInt64))) && (sz (v.2.2.2.2.1 (wN V k 2).toNatClampNeg + (wN V k 1).toInt64) && sz (v.2.2.2.2.2 (wN V k 4).toNatClampNeg + (wN V k 3).toInt64))) from by simp [ckV, ckG, Bool.and_assoc, k5, c50, k16], k115]; simp [q127, q140], show stV V bel k v = ((v.1 + v.2.1) + ((wN V k 0).toInt64), 0, v.2.2.1, v.2.2.2.1, vp_updL v.2.2.2.2.1 (wN V k 2).toNatClampNeg ((v.2.2.2.2.1 (wN V k 2).toNatClampNeg) + ((wN V k 1).toInt64)), vp_updL v.2.2.2.2.2 (wN V k 4).toNatClampNeg ((v.2.2.2.2.2 (wN V k 4).toNatClampNeg) + ((wN V k 3).toInt64))) from by simp [stV, stG, k5, k16, c50, k115, k127, k140]]; exact ⟨hq67, hq68, hq69⟩, fun z z1 z2 z3 => by rw [eg66, hv_up_ne _ _ z1, eg50, hv_up_ne _ _ z3, eg45, hv_up_ne _ _ z2, ho938 _ z1, eg35, hv_up_ne _ _ z1, ho933 _ z1]⟩) (by decide) (by decide) d_Mo_add_151
  · skip
    have k5 := b2i_t c5
    refine lv_aload_n hx hb d_Mo_add_8 rfl (lv_at hl 0 rfl) ?_
    refine lv_iload_n hx hb d_Mo_add_9 rfl (lv_at hl 1 rfl) ?_
    refine lv_iload_n hx hb d_Mo_add_10 rfl (lv_at hl 2 rfl) ?_
    refine hv_V (As := [.int (nI k), .int (b2i bel)]) (rest := []) hE hml hK hI (c_Mo_addSolid l hl0 b0 D cA f mo a th st en ct gd md v V k bel hs.1 hnj hA hk (fun h0 h1 => hin (isSo_4 k5 h0 h1))) cd_Mo_addSolid w680 w682 ws25 hs.1 rfl rfl hl.1 (Nat.le_of_ble_eq_true rfl) d_Mo_add_11 ⟨by decide, by decide⟩ ⟨by decide, by decide⟩ (fun v9 g71 H locs hp hI => ?_) (fun q9 E9 ce9 g9 H locs hp => hp.elim)
    obtain ⟨hv, hg70, ho970⟩ := hp
    rw [hv]
    refine W.eq (g2 := F0 m 14 ls []) rfl ?_
    have hq72 : g71 (a 14) = some (.inl (cA 1, 4, .inr (.inl v.2.2.2.2.1))) := by rw [ho970 _ (hnj.2 14 (by decide))]; exact hs.2.1
    have hq73 : g71 (a 15) = some (.inl (cA 1, 4, .inr (.inl v.2.2.2.2.2))) := by rw [ho970 _ (hnj.2 15 (by decide))]; exact hs.2.2
    exact hv_vret hE hr hlocks hI hK (⟨rfl, by rw [show (gd && ckV V bel k v) = (gd && ckS V bel k v) from by simp [ckV, k5], show stV V bel k v = stS V bel k v from by simp [stV, k5]]; exact ⟨hg70, by rw [st_ss]; exact hq72, by rw [st_ss]; exact hq73⟩, fun z z1 z2 z3 => by rw [ho970 _ z1]⟩) (by decide) (by decide) d_Mo_add_14

