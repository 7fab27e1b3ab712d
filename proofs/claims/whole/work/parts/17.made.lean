set_option maxHeartbeats 4000000 in
set_option maxRecDepth 100000 in
theorem c_Item_init (l : Launch) (hl0 : l.stackTraces = false) (b0 : Nat) (D : va_G) (cA : Nat → ClassId) (f : hv_M) (x : Nat)  : hv_Met l y_Item_init [Cond.code y_Item_init b_Item_init 1 none] (RM 1 0 0) b0 (Fa D cA) D CL [.ref x] f (PV f none) (NX) := by
  refine hv_Met.of (own := "BoxPacker$Item") (by decide) rfl (Nat.le_of_ble_eq_true rfl) ?_
  intro p e s m below meth c hE hml hout hr hlocks hname hK hI ls hl
  have hl : lv_has ls 1 [(0, .ref x)] := hl
  obtain ⟨hx, hb, hown, hts, hVK⟩ := id hE
  refine lv_aload_n hx hb d_Item_init_0 rfl (lv_at hl 0 rfl) ?_
  refine W.objInit hx hb hown (hts _ w165) (hts _ w22) (hts _ w23) rfl (by rw [hml]; exact hl.1) rfl d_Item_init_1 (by decide) (Nat.le_of_ble_eq_true rfl) ?_
  refine W.eq (g2 := F0 m 4 ls []) rfl ?_
  exact hv_vret hE hr hlocks hI hK (⟨rfl, rfl⟩) (by decide) (by decide) d_Item_init_4

set_option maxHeartbeats 4000000 in
set_option maxRecDepth 100000 in
theorem c_Solid_init (l : Launch) (hl0 : l.stackTraces = false) (b0 : Nat) (D : va_G) (cA : Nat → ClassId) (f : hv_M) (x : Nat) (t w h d sh : Int32) (hx0 : f x = some (.inr (2, [.int 0, .int 0, .int 0, .int 0, .null, .int 0]))) : hv_Met l y_Solid_init [Cond.code y_Solid_init b_Solid_init 7 none] (RM 2 0 0) b0 (Fa D cA) D CL [.ref x, .int t, .int w, .int h, .int d, .null, .int sh] f (fun v g => v = none ∧ g = hv_up f x (.inr (2, [.int t, .int w, .int h, .int d, .null, .int sh]))) (NX) := by
  refine hv_Met.of (own := "BoxPacker$Solid") (by decide) rfl (Nat.le_of_ble_eq_true rfl) ?_
  intro p e s m below meth c hE hml hout hr hlocks hname hK hI ls hl
  have hl : lv_has ls 7 [(0, .ref x), (1, .int t), (2, .int w), (3, .int h), (4, .int d), (5, .null), (6, .int sh)] := hl
  obtain ⟨hx, hb, hown, hts, hVK⟩ := id hE
  refine lv_aload_n hx hb d_Solid_init_0 rfl (lv_at hl 0 rfl) ?_
  refine hv_CN (As := []) (rest := []) hE hml hK hI (c_Item_init l hl0 b0 D cA f x) cd_Item_init rfl w162 w163 rfl hl.1 (Nat.le_of_ble_eq_true rfl) d_Solid_init_1 ⟨by decide, by decide⟩ ⟨by decide, by decide⟩ (fun v9 g1 H locs hp hI => ?_) (fun q E ce g9 H locs hp => hp.elim)
  obtain ⟨hv, eg1⟩ := hp
  rw [hv]
  refine W.eq (g2 := F0 m 4 ls []) rfl ?_
  have h2 : g1 x = some (.inr (2, [.int 0, .int 0, .int 0, .int 0, .null, .int 0])) := by rw [eg1]; exact hx0
  refine lv_aload_n hx hb d_Solid_init_4 rfl (lv_at hl 0 rfl) ?_
  refine lv_iload_n hx hb d_Solid_init_5 rfl (lv_at hl 1 rfl) ?_
  refine hv_putF hE k_Solid hI hname 0 (by decide) w166 h2 rfl rfl rfl rfl (Nat.le_of_ble_eq_true rfl) d_Solid_init_6 (fun H locs hI => ?_)
  obtain ⟨g3, eg3⟩ : ∃ z : hv_M, z = hv_up g1 x (.inr (2, [.int t, .int 0, .int 0, .int 0, .null, .int 0])) := ⟨_, rfl⟩
  have hI : hv_I D CL b0 g3 s.heap H locs := by rw [eg3]; exact hI
  have h4 : g3 x = some (.inr (2, [.int t, .int 0, .int 0, .int 0, .null, .int 0])) := by rw [eg3]; exact hv_up_self _ _ _
  refine lv_aload_n hx hb d_Solid_init_9 rfl (lv_at hl 0 rfl) ?_
  refine lv_iload_n hx hb d_Solid_init_10 rfl (lv_at hl 2 rfl) ?_
  refine hv_putF hE k_Solid hI hname 1 (by decide) w168 h4 rfl rfl rfl rfl (Nat.le_of_ble_eq_true rfl) d_Solid_init_11 (fun H locs hI => ?_)
  obtain ⟨g5, eg5⟩ : ∃ z : hv_M, z = hv_up g3 x (.inr (2, [.int t, .int w, .int 0, .int 0, .null, .int 0])) := ⟨_, rfl⟩
  have hI : hv_I D CL b0 g5 s.heap H locs := by rw [eg5]; exact hI
  have h6 : g5 x = some (.inr (2, [.int t, .int w, .int 0, .int 0, .null, .int 0])) := by rw [eg5]; exact hv_up_self _ _ _
  refine lv_aload_n hx hb d_Solid_init_14 rfl (lv_at hl 0 rfl) ?_
  refine lv_iload_n hx hb d_Solid_init_15 rfl (lv_at hl 3 rfl) ?_
  refine hv_putF hE k_Solid hI hname 2 (by decide) w171 h6 rfl rfl rfl rfl (Nat.le_of_ble_eq_true rfl) d_Solid_init_16 (fun H locs hI => ?_)
  obtain ⟨g7, eg7⟩ : ∃ z : hv_M, z = hv_up g5 x (.inr (2, [.int t, .int w, .int h, .int 0, .null, .int 0])) := ⟨_, rfl⟩
  have hI : hv_I D CL b0 g7 s.heap H locs := by rw [eg7]; exact hI
  have h8 : g7 x = some (.inr (2, [.int t, .int w, .int h, .int 0, .null, .int 0])) := by rw [eg7]; exact hv_up_self _ _ _
  refine lv_aload_n hx hb d_Solid_init_19 rfl (lv_at hl 0 rfl) ?_
  refine lv_iload hx hb d_Solid_init_20 (lv_at hl 4 rfl) ?_
  refine hv_putF hE k_Solid hI hname 3 (by decide) w174 h8 rfl rfl rfl rfl (Nat.le_of_ble_eq_true rfl) d_Solid_init_22 (fun H locs hI => ?_)
  obtain ⟨g9, eg9⟩ : ∃ z : hv_M, z = hv_up g7 x (.inr (2, [.int t, .int w, .int h, .int d, .null, .int 0])) := ⟨_, rfl⟩
  have hI : hv_I D CL b0 g9 s.heap H locs := by rw [eg9]; exact hI
  have h10 : g9 x = some (.inr (2, [.int t, .int w, .int h, .int d, .null, .int 0])) := by rw [eg9]; exact hv_up_self _ _ _
  refine lv_aload_n hx hb d_Solid_init_25 rfl (lv_at hl 0 rfl) ?_
  refine lv_aloadN hx hb d_Solid_init_26 (lv_at hl 5 rfl) ?_
  refine hv_putF hE k_Solid hI hname 4 (by decide) w177 h10 rfl rfl rfl rfl (Nat.le_of_ble_eq_true rfl) d_Solid_init_28 (fun H locs hI => ?_)
  obtain ⟨g11, eg11⟩ : ∃ z : hv_M, z = hv_up g9 x (.inr (2, [.int t, .int w, .int h, .int d, .null, .int 0])) := ⟨_, rfl⟩
  have hI : hv_I D CL b0 g11 s.heap H locs := by rw [eg11]; exact hI
  have h12 : g11 x = some (.inr (2, [.int t, .int w, .int h, .int d, .null, .int 0])) := by rw [eg11]; exact hv_up_self _ _ _
  refine lv_aload_n hx hb d_Solid_init_31 rfl (lv_at hl 0 rfl) ?_
  refine lv_iload hx hb d_Solid_init_32 (lv_at hl 6 rfl) ?_
  refine hv_putF hE k_Solid hI hname 5 (by decide) w180 h12 rfl rfl rfl rfl (Nat.le_of_ble_eq_true rfl) d_Solid_init_34 (fun H locs hI => ?_)
  obtain ⟨g13, eg13⟩ : ∃ z : hv_M, z = hv_up g11 x (.inr (2, [.int t, .int w, .int h, .int d, .null, .int sh])) := ⟨_, rfl⟩
  have hI : hv_I D CL b0 g13 s.heap H locs := by rw [eg13]; exact hI
  have h14 : g13 x = some (.inr (2, [.int t, .int w, .int h, .int d, .null, .int sh])) := by rw [eg13]; exact hv_up_self _ _ _
  exact hv_vret hE hr hlocks hI hK (⟨rfl, by simp only [eg13, eg11, eg9, eg7, eg5, eg3, eg1, hv_up_up]⟩) (by decide) (by decide) d_Solid_init_37

set_option maxHeartbeats 4000000 in
set_option maxRecDepth 100000 in
theorem c_Solid_initB (l : Launch) (hl0 : l.stackTraces = false) (b0 : Nat) (D : va_G) (cA : Nat → ClassId) (f : hv_M) (x : Nat) (t w h d sh : Int32) (q : Nat) (hx0 : f x = some (.inr (2, [.int 0, .int 0, .int 0, .int 0, .null, .int 0]))) : hv_Met l y_Solid_init [Cond.code y_Solid_init b_Solid_init 7 none] (RM 2 0 0) b0 (Fa D cA) D CL [.ref x, .int t, .int w, .int h, .int d, .ref q, .int sh] f (fun v g => v = none ∧ g = hv_up f x (.inr (2, [.int t, .int w, .int h, .int d, .ref q, .int sh]))) (NX) := by
  refine hv_Met.of (own := "BoxPacker$Solid") (by decide) rfl (Nat.le_of_ble_eq_true rfl) ?_
  intro p e s m below meth c hE hml hout hr hlocks hname hK hI ls hl
  have hl : lv_has ls 7 [(0, .ref x), (1, .int t), (2, .int w), (3, .int h), (4, .int d), (5, .ref q), (6, .int sh)] := hl
  obtain ⟨hx, hb, hown, hts, hVK⟩ := id hE
  refine lv_aload_n hx hb d_Solid_init_0 rfl (lv_at hl 0 rfl) ?_
  refine hv_CN (As := []) (rest := []) hE hml hK hI (c_Item_init l hl0 b0 D cA f x) cd_Item_init rfl w162 w163 rfl hl.1 (Nat.le_of_ble_eq_true rfl) d_Solid_init_1 ⟨by decide, by decide⟩ ⟨by decide, by decide⟩ (fun v9 g1 H locs hp hI => ?_) (fun q E ce g9 H locs hp => hp.elim)
  obtain ⟨hv, eg1⟩ := hp
  rw [hv]
  refine W.eq (g2 := F0 m 4 ls []) rfl ?_
  have h2 : g1 x = some (.inr (2, [.int 0, .int 0, .int 0, .int 0, .null, .int 0])) := by rw [eg1]; exact hx0
  refine lv_aload_n hx hb d_Solid_init_4 rfl (lv_at hl 0 rfl) ?_
  refine lv_iload_n hx hb d_Solid_init_5 rfl (lv_at hl 1 rfl) ?_
  refine hv_putF hE k_Solid hI hname 0 (by decide) w166 h2 rfl rfl rfl rfl (Nat.le_of_ble_eq_true rfl) d_Solid_init_6 (fun H locs hI => ?_)
  obtain ⟨g3, eg3⟩ : ∃ z : hv_M, z = hv_up g1 x (.inr (2, [.int t, .int 0, .int 0, .int 0, .null, .int 0])) := ⟨_, rfl⟩
  have hI : hv_I D CL b0 g3 s.heap H locs := by rw [eg3]; exact hI
  have h4 : g3 x = some (.inr (2, [.int t, .int 0, .int 0, .int 0, .null, .int 0])) := by rw [eg3]; exact hv_up_self _ _ _
  refine lv_aload_n hx hb d_Solid_init_9 rfl (lv_at hl 0 rfl) ?_
  refine lv_iload_n hx hb d_Solid_init_10 rfl (lv_at hl 2 rfl) ?_
  refine hv_putF hE k_Solid hI hname 1 (by decide) w168 h4 rfl rfl rfl rfl (Nat.le_of_ble_eq_true rfl) d_Solid_init_11 (fun H locs hI => ?_)
  obtain ⟨g5, eg5⟩ : ∃ z : hv_M, z = hv_up g3 x (.inr (2, [.int t, .int w, .int 0, .int 0, .null, .int 0])) := ⟨_, rfl⟩
  have hI : hv_I D CL b0 g5 s.heap H locs := by rw [eg5]; exact hI
  have h6 : g5 x = some (.inr (2, [.int t, .int w, .int 0, .int 0, .null, .int 0])) := by rw [eg5]; exact hv_up_self _ _ _
  refine lv_aload_n hx hb d_Solid_init_14 rfl (lv_at hl 0 rfl) ?_
  refine lv_iload_n hx hb d_Solid_init_15 rfl (lv_at hl 3 rfl) ?_
  refine hv_putF hE k_Solid hI hname 2 (by decide) w171 h6 rfl rfl rfl rfl (Nat.le_of_ble_eq_true rfl) d_Solid_init_16 (fun H locs hI => ?_)
  obtain ⟨g7, eg7⟩ : ∃ z : hv_M, z = hv_up g5 x (.inr (2, [.int t, .int w, .int h, .int 0, .null, .int 0])) := ⟨_, rfl⟩
  have hI : hv_I D CL b0 g7 s.heap H locs := by rw [eg7]; exact hI
  have h8 : g7 x = some (.inr (2, [.int t, .int w, .int h, .int 0, .null, .int 0])) := by rw [eg7]; exact hv_up_self _ _ _
  refine lv_aload_n hx hb d_Solid_init_19 rfl (lv_at hl 0 rfl) ?_
  refine lv_iload hx hb d_Solid_init_20 (lv_at hl 4 rfl) ?_
  refine hv_putF hE k_Solid hI hname 3 (by decide) w174 h8 rfl rfl rfl rfl (Nat.le_of_ble_eq_true rfl) d_Solid_init_22 (fun H locs hI => ?_)
  obtain ⟨g9, eg9⟩ : ∃ z : hv_M, z = hv_up g7 x (.inr (2, [.int t, .int w, .int h, .int d, .null, .int 0])) := ⟨_, rfl⟩
  have hI : hv_I D CL b0 g9 s.heap H locs := by rw [eg9]; exact hI
  have h10 : g9 x = some (.inr (2, [.int t, .int w, .int h, .int d, .null, .int 0])) := by rw [eg9]; exact hv_up_self _ _ _
  refine lv_aload_n hx hb d_Solid_init_25 rfl (lv_at hl 0 rfl) ?_
  refine lv_aload hx hb d_Solid_init_26 (lv_at hl 5 rfl) ?_
  refine hv_putF hE k_Solid hI hname 4 (by decide) w177 h10 rfl rfl rfl rfl (Nat.le_of_ble_eq_true rfl) d_Solid_init_28 (fun H locs hI => ?_)
  obtain ⟨g11, eg11⟩ : ∃ z : hv_M, z = hv_up g9 x (.inr (2, [.int t, .int w, .int h, .int d, .ref q, .int 0])) := ⟨_, rfl⟩
  have hI : hv_I D CL b0 g11 s.heap H locs := by rw [eg11]; exact hI
  have h12 : g11 x = some (.inr (2, [.int t, .int w, .int h, .int d, .ref q, .int 0])) := by rw [eg11]; exact hv_up_self _ _ _
  refine lv_aload_n hx hb d_Solid_init_31 rfl (lv_at hl 0 rfl) ?_
  refine lv_iload hx hb d_Solid_init_32 (lv_at hl 6 rfl) ?_
  refine hv_putF hE k_Solid hI hname 5 (by decide) w180 h12 rfl rfl rfl rfl (Nat.le_of_ble_eq_true rfl) d_Solid_init_34 (fun H locs hI => ?_)
  obtain ⟨g13, eg13⟩ : ∃ z : hv_M, z = hv_up g11 x (.inr (2, [.int t, .int w, .int h, .int d, .ref q, .int sh])) := ⟨_, rfl⟩
  have hI : hv_I D CL b0 g13 s.heap H locs := by rw [eg13]; exact hI
  have h14 : g13 x = some (.inr (2, [.int t, .int w, .int h, .int d, .ref q, .int sh])) := by rw [eg13]; exact hv_up_self _ _ _
  exact hv_vret hE hr hlocks hI hK (⟨rfl, by simp only [eg13, eg11, eg9, eg7, eg5, eg3, eg1, hv_up_up]⟩) (by decide) (by decide) d_Solid_init_37

set_option maxHeartbeats 4000000 in
set_option maxRecDepth 100000 in
theorem c_Space_init (l : Launch) (hl0 : l.stackTraces = false) (b0 : Nat) (D : va_G) (cA : Nat → ClassId) (f : hv_M) (x : Nat) (w a b d e9 : Int32) (hx0 : f x = some (.inr (3, [.int 0, .int 0, .int 0, .int 0, .int 0]))) : hv_Met l y_Space_init [Cond.code y_Space_init b_Space_init 6 none] (RM 2 0 0) b0 (Fa D cA) D CL [.ref x, .int w, .int a, .int b, .int d, .int e9] f (fun v g => v = none ∧ g = hv_up f x (.inr (3, [.int w, .int a, .int b, .int d, .int e9]))) (NX) := by
  refine hv_Met.of (own := "BoxPacker$Space") (by decide) rfl (Nat.le_of_ble_eq_true rfl) ?_
  intro p e s m below meth c hE hml hout hr hlocks hname hK hI ls hl
  have hl : lv_has ls 6 [(0, .ref x), (1, .int w), (2, .int a), (3, .int b), (4, .int d), (5, .int e9)] := hl
  obtain ⟨hx, hb, hown, hts, hVK⟩ := id hE
  refine lv_aload_n hx hb d_Space_init_0 rfl (lv_at hl 0 rfl) ?_
  refine hv_CN (As := []) (rest := []) hE hml hK hI (c_Item_init l hl0 b0 D cA f x) cd_Item_init rfl w246 w163 rfl hl.1 (Nat.le_of_ble_eq_true rfl) d_Space_init_1 ⟨by decide, by decide⟩ ⟨by decide, by decide⟩ (fun v9 g1 H locs hp hI => ?_) (fun q E ce g9 H locs hp => hp.elim)
  obtain ⟨hv, eg1⟩ := hp
  rw [hv]
  refine W.eq (g2 := F0 m 4 ls []) rfl ?_
  have h2 : g1 x = some (.inr (3, [.int 0, .int 0, .int 0, .int 0, .int 0])) := by rw [eg1]; exact hx0
  refine lv_aload_n hx hb d_Space_init_4 rfl (lv_at hl 0 rfl) ?_
  refine lv_iload_n hx hb d_Space_init_5 rfl (lv_at hl 1 rfl) ?_
  refine hv_putF hE k_Space hI hname 0 (by decide) w247 h2 rfl rfl rfl rfl (Nat.le_of_ble_eq_true rfl) d_Space_init_6 (fun H locs hI => ?_)
  obtain ⟨g3, eg3⟩ : ∃ z : hv_M, z = hv_up g1 x (.inr (3, [.int w, .int 0, .int 0, .int 0, .int 0])) := ⟨_, rfl⟩
  have hI : hv_I D CL b0 g3 s.heap H locs := by rw [eg3]; exact hI
  have h4 : g3 x = some (.inr (3, [.int w, .int 0, .int 0, .int 0, .int 0])) := by rw [eg3]; exact hv_up_self _ _ _
  refine lv_aload_n hx hb d_Space_init_9 rfl (lv_at hl 0 rfl) ?_
  refine lv_iload_n hx hb d_Space_init_10 rfl (lv_at hl 2 rfl) ?_
  refine hv_putF hE k_Space hI hname 1 (by decide) w249 h4 rfl rfl rfl rfl (Nat.le_of_ble_eq_true rfl) d_Space_init_11 (fun H locs hI => ?_)
  obtain ⟨g5, eg5⟩ : ∃ z : hv_M, z = hv_up g3 x (.inr (3, [.int w, .int a, .int 0, .int 0, .int 0])) := ⟨_, rfl⟩
  have hI : hv_I D CL b0 g5 s.heap H locs := by rw [eg5]; exact hI
  have h6 : g5 x = some (.inr (3, [.int w, .int a, .int 0, .int 0, .int 0])) := by rw [eg5]; exact hv_up_self _ _ _
  refine lv_aload_n hx hb d_Space_init_14 rfl (lv_at hl 0 rfl) ?_
  refine lv_iload_n hx hb d_Space_init_15 rfl (lv_at hl 3 rfl) ?_
  refine hv_putF hE k_Space hI hname 2 (by decide) w250 h6 rfl rfl rfl rfl (Nat.le_of_ble_eq_true rfl) d_Space_init_16 (fun H locs hI => ?_)
  obtain ⟨g7, eg7⟩ : ∃ z : hv_M, z = hv_up g5 x (.inr (3, [.int w, .int a, .int b, .int 0, .int 0])) := ⟨_, rfl⟩
  have hI : hv_I D CL b0 g7 s.heap H locs := by rw [eg7]; exact hI
  have h8 : g7 x = some (.inr (3, [.int w, .int a, .int b, .int 0, .int 0])) := by rw [eg7]; exact hv_up_self _ _ _
  refine lv_aload_n hx hb d_Space_init_19 rfl (lv_at hl 0 rfl) ?_
  refine lv_iload hx hb d_Space_init_20 (lv_at hl 4 rfl) ?_
  refine hv_putF hE k_Space hI hname 3 (by decide) w251 h8 rfl rfl rfl rfl (Nat.le_of_ble_eq_true rfl) d_Space_init_22 (fun H locs hI => ?_)
  obtain ⟨g9, eg9⟩ : ∃ z : hv_M, z = hv_up g7 x (.inr (3, [.int w, .int a, .int b, .int d, .int 0])) := ⟨_, rfl⟩
  have hI : hv_I D CL b0 g9 s.heap H locs := by rw [eg9]; exact hI
  have h10 : g9 x = some (.inr (3, [.int w, .int a, .int b, .int d, .int 0])) := by rw [eg9]; exact hv_up_self _ _ _
  refine lv_aload_n hx hb d_Space_init_25 rfl (lv_at hl 0 rfl) ?_
  refine lv_iload hx hb d_Space_init_26 (lv_at hl 5 rfl) ?_
  refine hv_putF hE k_Space hI hname 4 (by decide) w252 h10 rfl rfl rfl rfl (Nat.le_of_ble_eq_true rfl) d_Space_init_28 (fun H locs hI => ?_)
  obtain ⟨g11, eg11⟩ : ∃ z : hv_M, z = hv_up g9 x (.inr (3, [.int w, .int a, .int b, .int d, .int e9])) := ⟨_, rfl⟩
  have hI : hv_I D CL b0 g11 s.heap H locs := by rw [eg11]; exact hI
  have h12 : g11 x = some (.inr (3, [.int w, .int a, .int b, .int d, .int e9])) := by rw [eg11]; exact hv_up_self _ _ _
  exact hv_vret hE hr hlocks hI hK (⟨rfl, by simp only [eg11, eg9, eg7, eg5, eg3, eg1, hv_up_up]⟩) (by decide) (by decide) d_Space_init_31

set_option maxHeartbeats 4000000 in
set_option maxRecDepth 100000 in
theorem c_Space_give (l : Launch) (hl0 : l.stackTraces = false) (b0 : Nat) (D : va_G) (cA : Nat → ClassId) (f : hv_M) (x : Nat) (w a b d e9 : Int32) (sh : Bool) (hx0 : f x = some (.inr (3, [.int w, .int a, .int b, .int d, .int e9]))) : hv_Met l y_Space_give [Cond.code y_Space_give b_Space_give 2 (some FieldType.int)] (RM 0 0 0) b0 (Fa D cA) D CL [.ref x, .int (b2i sh)] f (PV f (some (.int (if sh = true then d else a)))) (NX) := by
  refine hv_Met.of (own := "BoxPacker$Space") (by decide) rfl (Nat.le_of_ble_eq_true rfl) ?_
  intro p e s m below meth c hE hml hout hr hlocks hname hK hI ls hl
  have hl : lv_has ls 2 [(0, .ref x), (1, .int (b2i sh))] := hl
  obtain ⟨hx, hb, hown, hts, hVK⟩ := id hE
  refine lv_iload_n hx hb d_Space_give_0 rfl (lv_at hl 1 rfl) ?_
  refine lv_if_eq (tgt := 11) hx hb d_Space_give_1 (by decide) (fun c1 => ?_) (fun c1 => ?_)
  · skip
    refine lv_aload_n hx hb d_Space_give_11 rfl (lv_at hl 0 rfl) ?_
    refine hv_get hE k_Space hI 1 (by decide) w249 hx0 rfl d_Space_give_12 ?_
    exact hv_iret hE hr hlocks hI hK (v := a) (⟨by have q1 := c1; simp only [b2i_ne] at q1; simp [*], rfl⟩) (by decide) (by decide) d_Space_give_15
  · skip
    refine lv_aload_n hx hb d_Space_give_4 rfl (lv_at hl 0 rfl) ?_
    refine hv_get hE k_Space hI 3 (by decide) w251 hx0 rfl d_Space_give_5 ?_
    refine lv_goto (tgt := 15) hx hb d_Space_give_8 (by decide) ?_
    exact hv_iret hE hr hlocks hI hK (v := d) (⟨by have q1 := c1; simp only [b2i_ne] at q1; simp [*], rfl⟩) (by decide) (by decide) d_Space_give_15

set_option maxHeartbeats 4000000 in
set_option maxRecDepth 100000 in
theorem c_Space_giveOrder (l : Launch) (hl0 : l.stackTraces = false) (b0 : Nat) (D : va_G) (cA : Nat → ClassId) (f : hv_M) (x : Nat) (w a b d e9 : Int32) (sh : Bool) (hx0 : f x = some (.inr (3, [.int w, .int a, .int b, .int d, .int e9]))) : hv_Met l y_Space_giveOrder [Cond.code y_Space_giveOrder b_Space_giveOrder 2 (some FieldType.int)] (RM 0 0 0) b0 (Fa D cA) D CL [.ref x, .int (b2i sh)] f (PV f (some (.int (if sh = true then e9 else b)))) (NX) := by
  refine hv_Met.of (own := "BoxPacker$Space") (by decide) rfl (Nat.le_of_ble_eq_true rfl) ?_
  intro p e s m below meth c hE hml hout hr hlocks hname hK hI ls hl
  have hl : lv_has ls 2 [(0, .ref x), (1, .int (b2i sh))] := hl
  obtain ⟨hx, hb, hown, hts, hVK⟩ := id hE
  refine lv_iload_n hx hb d_Space_giveOrder_0 rfl (lv_at hl 1 rfl) ?_
  refine lv_if_eq (tgt := 11) hx hb d_Space_giveOrder_1 (by decide) (fun c1 => ?_) (fun c1 => ?_)
  · skip
    refine lv_aload_n hx hb d_Space_giveOrder_11 rfl (lv_at hl 0 rfl) ?_
    refine hv_get hE k_Space hI 2 (by decide) w250 hx0 rfl d_Space_giveOrder_12 ?_
    exact hv_iret hE hr hlocks hI hK (v := b) (⟨by have q1 := c1; simp only [b2i_ne] at q1; simp [*], rfl⟩) (by decide) (by decide) d_Space_giveOrder_15
  · skip
    refine lv_aload_n hx hb d_Space_giveOrder_4 rfl (lv_at hl 0 rfl) ?_
    refine hv_get hE k_Space hI 4 (by decide) w252 hx0 rfl d_Space_giveOrder_5 ?_
    refine lv_goto (tgt := 15) hx hb d_Space_giveOrder_8 (by decide) ?_
    exact hv_iret hE hr hlocks hI hK (v := e9) (⟨by have q1 := c1; simp only [b2i_ne] at q1; simp [*], rfl⟩) (by decide) (by decide) d_Space_giveOrder_15

set_option maxHeartbeats 4000000 in
set_option maxRecDepth 100000 in
theorem c_Marks_init (l : Launch) (hl0 : l.stackTraces = false) (b0 : Nat) (D : va_G) (cA : Nat → ClassId) (f : hv_M) (x : Nat) (hx0 : f x = some (.inr (4, [.null, .int 0]))) : hv_Met l y_Marks_init [Cond.code y_Marks_init b_Marks_init 1 none] (RM 1 1 6000) b0 (Fa D cA) D CL [.ref x] f (fun v g => v = none ∧ ∃ q : Nat, f q = none ∧ g = hv_up (hv_up f q (.inl (cA 1, 6000, .inr (.inl (fun _ => 0))))) x (.inr (4, [.ref q, .int 0]))) (NX) := by
  refine hv_Met.of (own := "BoxPacker$Marks") (by decide) rfl (Nat.le_of_ble_eq_true rfl) ?_
  intro p e s m below meth c hE hml hout hr hlocks hname hK hI ls hl
  have hl : lv_has ls 1 [(0, .ref x)] := hl
  obtain ⟨hx, hb, hown, hts, hVK⟩ := id hE
  refine lv_aload_n hx hb d_Marks_init_0 rfl (lv_at hl 0 rfl) ?_
  refine W.objInit hx hb hown (hts _ w33) (hts _ w22) (hts _ w23) rfl (by rw [hml]; exact hl.1) rfl d_Marks_init_1 (by decide) (Nat.le_of_ble_eq_true rfl) ?_
  refine W.eq (g2 := F0 m 4 ls []) rfl ?_
  refine lv_aload_n hx hb d_Marks_init_4 rfl (lv_at hl 0 rfl) ?_
  refine lv_sipush (v := 6000) hx hb d_Marks_init_5 (by decide) ?_
  refine hv_newL hE hI 1 rfl w43 (n := 6000) (by decide) (by decide) (by decide) (by decide) (by decide) d_Marks_init_8 (fun q1 H hnq1 hI => ?_)
  obtain ⟨g2, eg2⟩ : ∃ z : hv_M, z = hv_up f q1 (.inl (cA 1, 6000, .inr (.inl (fun _ => 0)))) := ⟨_, rfl⟩
  have hI : hv_I D CL b0 g2 s.heap H [] := by rw [eg2]; exact hI
  have h3 : g2 x = some (.inr (4, [.null, .int 0])) := by rw [eg2]; rw [hv_up_ne _ _ (hv_nn hx0 hnq1)]; exact hx0
  have h4 : g2 q1 = some (.inl (cA 1, 6000, .inr (.inl (fun _ => 0)))) := by rw [eg2]; exact hv_up_self _ _ _
  refine hv_putF hE k_Marks hI hname 0 (by decide) w34 h3 rfl rfl rfl rfl (Nat.le_of_ble_eq_true rfl) d_Marks_init_10 (fun H locs hI => ?_)
  obtain ⟨g5, eg5⟩ : ∃ z : hv_M, z = hv_up g2 x (.inr (4, [.ref q1, .int 0])) := ⟨_, rfl⟩
  have hI : hv_I D CL b0 g5 s.heap H locs := by rw [eg5]; exact hI
  have h6 : g5 x = some (.inr (4, [.ref q1, .int 0])) := by rw [eg5]; exact hv_up_self _ _ _
  have h7 : g5 q1 = some (.inl (cA 1, 6000, .inr (.inl (fun _ => 0)))) := by rw [eg5]; rw [hv_up_ne _ _ (hv_ne h4 h3 (by simp))]; exact h4
  refine lv_aload_n hx hb d_Marks_init_13 rfl (lv_at hl 0 rfl) ?_
  refine lv_iconst (v := 0) hx hb d_Marks_init_14 (by decide) ?_
  refine hv_put hE k_Marks hI 1 (by decide) w36 h6 rfl rfl rfl (Nat.le_of_ble_eq_true rfl) d_Marks_init_15 (fun H locs hI => ?_)
  obtain ⟨g8, eg8⟩ : ∃ z : hv_M, z = hv_up g5 x (.inr (4, [.ref q1, .int 0])) := ⟨_, rfl⟩
  have hI : hv_I D CL b0 g8 s.heap H locs := by rw [eg8]; exact hI
  have h9 : g8 x = some (.inr (4, [.ref q1, .int 0])) := by rw [eg8]; exact hv_up_self _ _ _
  have h10 : g8 q1 = some (.inl (cA 1, 6000, .inr (.inl (fun _ => 0)))) := by rw [eg8]; rw [hv_up_ne _ _ (hv_ne h7 h6 (by simp))]; exact h7
  exact hv_vret hE hr hlocks hI hK (⟨rfl, q1, hnq1, by simp only [eg8, eg5, eg2, hv_up_up]⟩) (by decide) (by decide) d_Marks_init_18

set_option maxHeartbeats 4000000 in
set_option maxRecDepth 100000 in
theorem c_Marks_clear (l : Launch) (hl0 : l.stackTraces = false) (b0 : Nat) (D : va_G) (cA : Nat → ClassId) (f : hv_M) (x rw9 : Nat) (k : Int32) (hx0 : f x = some (.inr (4, [.ref rw9, .int k]))) : hv_Met l y_Marks_clear [Cond.code y_Marks_clear b_Marks_clear 1 none] (RM 0 0 0) b0 (Fa D cA) D CL [.ref x] f (fun v g => v = none ∧ g = hv_up f x (.inr (4, [.ref rw9, .int 0]))) (NX) := by
  refine hv_Met.of (own := "BoxPacker$Marks") (by decide) rfl (Nat.le_of_ble_eq_true rfl) ?_
  intro p e s m below meth c hE hml hout hr hlocks hname hK hI ls hl
  have hl : lv_has ls 1 [(0, .ref x)] := hl
  obtain ⟨hx, hb, hown, hts, hVK⟩ := id hE
  refine lv_aload_n hx hb d_Marks_clear_0 rfl (lv_at hl 0 rfl) ?_
  refine lv_iconst (v := 0) hx hb d_Marks_clear_1 (by decide) ?_
  refine hv_put hE k_Marks hI 1 (by decide) w36 hx0 rfl rfl rfl (Nat.le_of_ble_eq_true rfl) d_Marks_clear_2 (fun H locs hI => ?_)
  obtain ⟨g1, eg1⟩ : ∃ z : hv_M, z = hv_up f x (.inr (4, [.ref rw9, .int 0])) := ⟨_, rfl⟩
  have hI : hv_I D CL b0 g1 s.heap H locs := by rw [eg1]; exact hI
  have h2 : g1 x = some (.inr (4, [.ref rw9, .int 0])) := by rw [eg1]; exact hv_up_self _ _ _
  exact hv_vret hE hr hlocks hI hK (⟨rfl, by simp only [eg1]⟩) (by decide) (by decide) d_Marks_clear_5

set_option maxHeartbeats 4000000 in
set_option maxRecDepth 100000 in
theorem c_BP_items (l : Launch) (hl0 : l.stackTraces = false) (b0 : Nat) (D : va_G) (cA : Nat → ClassId) (f : hv_M) (x la ma mk n bn : Nat) (hx0 : f x = some (.inr (0, [.ref la, .int (nI n), .ref ma, .int (nI bn), .ref mk]))) : hv_Met l y_BP_items [Cond.code y_BP_items b_BP_items 1 (some FieldType.int)] (RM 0 0 0) b0 (Fa D cA) D CL [.ref x] f (PV f (some (.int (nI n)))) (NX) := by
  refine hv_Met.of (own := "BoxPacker") (by decide) rfl (Nat.le_of_ble_eq_true rfl) ?_
  intro p e s m below meth c hE hml hout hr hlocks hname hK hI ls hl
  have hl : lv_has ls 1 [(0, .ref x)] := hl
  obtain ⟨hx, hb, hown, hts, hVK⟩ := id hE
  refine lv_aload_n hx hb d_BP_items_0 rfl (lv_at hl 0 rfl) ?_
  refine hv_get hE k_BP hI 1 (by decide) w45 hx0 rfl d_BP_items_1 ?_
  exact hv_iret hE hr hlocks hI hK (v := nI n) (⟨rfl, rfl⟩) (by decide) (by decide) d_BP_items_4

set_option maxHeartbeats 4000000 in
set_option maxRecDepth 100000 in
theorem c_BP_boxes (l : Launch) (hl0 : l.stackTraces = false) (b0 : Nat) (D : va_G) (cA : Nat → ClassId) (f : hv_M) (x la ma mk n bn : Nat) (hx0 : f x = some (.inr (0, [.ref la, .int (nI n), .ref ma, .int (nI bn), .ref mk]))) : hv_Met l y_BP_boxes [Cond.code y_BP_boxes b_BP_boxes 1 (some FieldType.int)] (RM 0 0 0) b0 (Fa D cA) D CL [.ref x] f (PV f (some (.int (nI bn)))) (NX) := by
  refine hv_Met.of (own := "BoxPacker") (by decide) rfl (Nat.le_of_ble_eq_true rfl) ?_
  intro p e s m below meth c hE hml hout hr hlocks hname hK hI ls hl
  have hl : lv_has ls 1 [(0, .ref x)] := hl
  obtain ⟨hx, hb, hown, hts, hVK⟩ := id hE
  refine lv_aload_n hx hb d_BP_boxes_0 rfl (lv_at hl 0 rfl) ?_
  refine hv_get hE k_BP hI 3 (by decide) w47 hx0 rfl d_BP_boxes_1 ?_
  exact hv_iret hE hr hlocks hI hK (v := nI bn) (⟨rfl, rfl⟩) (by decide) (by decide) d_BP_boxes_4

set_option maxHeartbeats 4000000 in
set_option maxRecDepth 100000 in
theorem c_BP_keep (l : Launch) (hl0 : l.stackTraces = false) (b0 : Nat) (D : va_G) (cA : Nat → ClassId) (f : hv_M) (x la ma mk n bn : Nat) (k : Int32) (hx0 : f x = some (.inr (0, [.ref la, .int (nI n), .ref ma, .int (nI bn), .ref mk]))) : hv_Met l y_BP_keep [Cond.code y_BP_keep b_BP_keep 2 (some FieldType.boolean)] (RM 0 0 0) b0 (Fa D cA) D CL [.ref x, .int k] f (fun v g => (v = some (.int 0) ∧ g = f ∧ (k < 0 ∨ nI n < k)) ∨ (v = some (.int 1) ∧ g = hv_up f x (.inr (0, [.ref la, .int k, .ref ma, .int (nI bn), .ref mk])) ∧ ¬ k < 0 ∧ ¬ nI n < k)) (NX) := by
  refine hv_Met.of (own := "BoxPacker") (by decide) rfl (Nat.le_of_ble_eq_true rfl) ?_
  intro p e s m below meth c hE hml hout hr hlocks hname hK hI ls hl
  have hl : lv_has ls 2 [(0, .ref x), (1, .int k)] := hl
  obtain ⟨hx, hb, hown, hts, hVK⟩ := id hE
  refine lv_iload_n hx hb d_BP_keep_0 rfl (lv_at hl 1 rfl) ?_
  refine lv_if_lt (tgt := 12) hx hb d_BP_keep_1 (by decide) (fun c1 => ?_) (fun c1 => ?_)
  · skip
    refine lv_iconst (v := 0) hx hb d_BP_keep_12 (by decide) ?_
    exact hv_zret hE hr hlocks hI hK (v := 0) (by first | rfl | exact b2i_nar _) (Or.inl ⟨rfl, rfl, Or.inl c1⟩) (by decide) (by decide) d_BP_keep_13
  · skip
    refine lv_iload_n hx hb d_BP_keep_4 rfl (lv_at hl 1 rfl) ?_
    refine lv_aload_n hx hb d_BP_keep_5 rfl (lv_at hl 0 rfl) ?_
    refine hv_get hE k_BP hI 1 (by decide) w45 hx0 rfl d_BP_keep_6 ?_
    refine lv_icmp_le (tgt := 14) hx hb d_BP_keep_9 (by decide) (fun c9 => ?_) (fun c9 => ?_)
    · skip
      refine lv_aload_n hx hb d_BP_keep_14 rfl (lv_at hl 0 rfl) ?_
      refine lv_iload_n hx hb d_BP_keep_15 rfl (lv_at hl 1 rfl) ?_
      refine hv_put hE k_BP hI 1 (by decide) w45 hx0 rfl rfl rfl (Nat.le_of_ble_eq_true rfl) d_BP_keep_16 (fun H locs hI => ?_)
      obtain ⟨g1, eg1⟩ : ∃ z : hv_M, z = hv_up f x (.inr (0, [.ref la, .int k, .ref ma, .int (nI bn), .ref mk])) := ⟨_, rfl⟩
      have hI : hv_I D CL b0 g1 s.heap H locs := by rw [eg1]; exact hI
      have h2 : g1 x = some (.inr (0, [.ref la, .int k, .ref ma, .int (nI bn), .ref mk])) := by rw [eg1]; exact hv_up_self _ _ _
      refine lv_iconst (v := 1) hx hb d_BP_keep_19 (by decide) ?_
      exact hv_zret hE hr hlocks hI hK (v := 1) (by first | rfl | exact b2i_nar _) (Or.inr ⟨rfl, by simp only [eg1], c1, by simpa using c9⟩) (by decide) (by decide) d_BP_keep_20
    · skip
      refine lv_iconst (v := 0) hx hb d_BP_keep_12 (by decide) ?_
      exact hv_zret hE hr hlocks hI hK (v := 0) (by first | rfl | exact b2i_nar _) (Or.inl ⟨rfl, rfl, Or.inr (by simpa using c9)⟩) (by decide) (by decide) d_BP_keep_13

