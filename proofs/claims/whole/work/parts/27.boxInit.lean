/-! ===== a box is made: its content, how deep, how many in all ===== -/
/-- a box lies at q, of this depth and with so many in all -/
def bxAt (f : hv_M) (q : Nat) (b : Int32 × Int32) : Prop := ∃ (bel w h d ex od to ov : Int32) (ca pa : Nat), f q = some (.inr (1, [.int bel, .ref ca, .ref pa, .int b.1, .int b.2, .int w, .int h, .int d, .int ex, .int od, .int to, .int ov]))
def mn6 (x : Int32) : Int32 := if x < 1000000 then x else 1000000
def initF (bi : Nat → Int32 × Int32) (iv : Nat → It) : Nat → Nat → Int32 → Int32 → Int32 × Int32
  | 0, _, dp, al => (dp, al)
  | k + 1, i, dp, al => match iv i with
    | .inl (_, _, _, _, some q, _) => initF bi iv k (i + 1) (mx dp ((bi q).1 + 1)) (mn6 (al + (bi q).2))
    | .inl (_, _, _, _, none, _) => initF bi iv k (i + 1) dp al
    | .inr _ => initF bi iv k (i + 1) dp al

set_option maxHeartbeats 4000000 in
set_option maxRecDepth 100000 in
theorem c_Box_init (l : Launch) (hl0 : l.stackTraces = false) (b0 : Nat) (D : va_G) (cA : Nat → ClassId) (f : hv_M) (bx la n : Nat) (bel : Bool) (gl : Nat → Option Nat) (iv : Nat → It) (bi : Nat → Int32 × Int32) (hbx : f bx = some (.inr (1, [.int 0, .null, .null, .int 0, .int 0, .int 0, .int 0, .int 0, .int 0, .int 0, .int 0, .int 0]))) (hla : f la = some (.inl (cA 3, 100, .inr (.inr (.inr (.inr gl)))))) (hit : itsAt f n gl iv) (hbi : ∀ i, i < n → ∀ t w h d q z, iv i = .inl (t, w, h, d, some q, z) → bxAt f q (bi q)) (hn : n ≤ 100) : hv_Met l y_Box_init [Cond.code y_Box_init b_Box_init 9 none] (RM 1 2 200) b0 (Fa D cA) D CL [.ref bx, .int (b2i bel), .ref la, .int (nI n)] f (fun v g => v = none ∧ ∃ (q1 q2 : Nat) (gc : Nat → Option Nat) (dp al : Int32), f q1 = none ∧ f q2 = none ∧ q1 ≠ q2 ∧ (∀ j, j < n → gc j = gl j) ∧ initF bi iv n 0 1 (nI n) = (dp, al) ∧ g bx = some (.inr (1, [.int (b2i bel), .ref q1, .ref q2, .int dp, .int al, .int 0, .int 0, .int 0, .int 0, .int 0, .int 0, .int 0])) ∧ g q1 = some (.inl (cA 3, n, .inr (.inr (.inr (.inr gc))))) ∧ g q2 = some (.inl (cA 0, n, .inl (fun _ => 0))) ∧ ∀ z, z ≠ bx → z ≠ q1 → z ≠ q2 → g z = f z) (NX) := by
  refine hv_Met.of (own := "BoxPacker$Box") (by decide) rfl (Nat.le_of_ble_eq_true rfl) ?_
  intro p e s m below meth c hE hml hout hr hlocks hname hK hI ls hl
  have hl : lv_has ls 9 [(0, .ref bx), (1, .int (b2i bel)), (2, .ref la), (3, .int (nI n))] := hl
  obtain ⟨hx, hb, hown, hts, hVK⟩ := id hE
  refine lv_aload_n hx hb d_Box_init_0 rfl (lv_at hl 0 rfl) ?_
  refine W.objInit hx hb hown (hts _ w315) (hts _ w22) (hts _ w23) rfl (by rw [hml]; exact hl.1) rfl d_Box_init_1 (by decide) (Nat.le_of_ble_eq_true rfl) ?_
  refine W.eq (g2 := F0 m 4 ls []) rfl ?_
  refine lv_aload_n hx hb d_Box_init_4 rfl (lv_at hl 0 rfl) ?_
  refine lv_iconst (v := 0) hx hb d_Box_init_5 (by decide) ?_
  refine hv_put hE k_Box hI 5 (by decide) w335 hbx rfl (by first | rfl | (cases bel <;> rfl)) (by first | rfl | (cases bel <;> rfl)) (Nat.le_of_ble_eq_true rfl) d_Box_init_6 (fun H locs hI => ?_)
  obtain ⟨g1, eg1⟩ : ∃ z : hv_M, z = hv_up f bx (.inr (1, [.int 0, .null, .null, .int 0, .int 0, .int 0, .int 0, .int 0, .int 0, .int 0, .int 0, .int 0])) := ⟨_, rfl⟩
  have hI : hv_I D CL b0 g1 s.heap H locs := by rw [eg1]; exact hI
  have h2 : g1 bx = some (.inr (1, [.int 0, .null, .null, .int 0, .int 0, .int 0, .int 0, .int 0, .int 0, .int 0, .int 0, .int 0])) := by rw [eg1]; exact hv_up_self _ _ _
  refine lv_aload_n hx hb d_Box_init_9 rfl (lv_at hl 0 rfl) ?_
  refine lv_iconst (v := 0) hx hb d_Box_init_10 (by decide) ?_
  refine hv_put hE k_Box hI 6 (by decide) w337 h2 rfl (by first | rfl | (cases bel <;> rfl)) (by first | rfl | (cases bel <;> rfl)) (Nat.le_of_ble_eq_true rfl) d_Box_init_11 (fun H locs hI => ?_)
  obtain ⟨g3, eg3⟩ : ∃ z : hv_M, z = hv_up g1 bx (.inr (1, [.int 0, .null, .null, .int 0, .int 0, .int 0, .int 0, .int 0, .int 0, .int 0, .int 0, .int 0])) := ⟨_, rfl⟩
  have hI : hv_I D CL b0 g3 s.heap H locs := by rw [eg3]; exact hI
  have h4 : g3 bx = some (.inr (1, [.int 0, .null, .null, .int 0, .int 0, .int 0, .int 0, .int 0, .int 0, .int 0, .int 0, .int 0])) := by rw [eg3]; exact hv_up_self _ _ _
  refine lv_aload_n hx hb d_Box_init_14 rfl (lv_at hl 0 rfl) ?_
  refine lv_iconst (v := 0) hx hb d_Box_init_15 (by decide) ?_
  refine hv_put hE k_Box hI 7 (by decide) w339 h4 rfl (by first | rfl | (cases bel <;> rfl)) (by first | rfl | (cases bel <;> rfl)) (Nat.le_of_ble_eq_true rfl) d_Box_init_16 (fun H locs hI => ?_)
  obtain ⟨g5, eg5⟩ : ∃ z : hv_M, z = hv_up g3 bx (.inr (1, [.int 0, .null, .null, .int 0, .int 0, .int 0, .int 0, .int 0, .int 0, .int 0, .int 0, .int 0])) := ⟨_, rfl⟩
  have hI : hv_I D CL b0 g5 s.heap H locs := by rw [eg5]; exact hI
  have h6 : g5 bx = some (.inr (1, [.int 0, .null, .null, .int 0, .int 0, .int 0, .int 0, .int 0, .int 0, .int 0, .int 0, .int 0])) := by rw [eg5]; exact hv_up_self _ _ _
  refine lv_aload_n hx hb d_Box_init_19 rfl (lv_at hl 0 rfl) ?_
  refine lv_iconst (v := 0) hx hb d_Box_init_20 (by decide) ?_
  refine hv_put hE k_Box hI 8 (by decide) w341 h6 rfl (by first | rfl | (cases bel <;> rfl)) (by first | rfl | (cases bel <;> rfl)) (Nat.le_of_ble_eq_true rfl) d_Box_init_21 (fun H locs hI => ?_)
  obtain ⟨g7, eg7⟩ : ∃ z : hv_M, z = hv_up g5 bx (.inr (1, [.int 0, .null, .null, .int 0, .int 0, .int 0, .int 0, .int 0, .int 0, .int 0, .int 0, .int 0])) := ⟨_, rfl⟩
  have hI : hv_I D CL b0 g7 s.heap H locs := by rw [eg7]; exact hI
  have h8 : g7 bx = some (.inr (1, [.int 0, .null, .null, .int 0, .int 0, .int 0, .int 0, .int 0, .int 0, .int 0, .int 0, .int 0])) := by rw [eg7]; exact hv_up_self _ _ _
  refine lv_aload_n hx hb d_Box_init_24 rfl (lv_at hl 0 rfl) ?_
  refine lv_iconst (v := 0) hx hb d_Box_init_25 (by decide) ?_
  refine hv_put hE k_Box hI 9 (by decide) w343 h8 rfl (by first | rfl | (cases bel <;> rfl)) (by first | rfl | (cases bel <;> rfl)) (Nat.le_of_ble_eq_true rfl) d_Box_init_26 (fun H locs hI => ?_)
  obtain ⟨g9, eg9⟩ : ∃ z : hv_M, z = hv_up g7 bx (.inr (1, [.int 0, .null, .null, .int 0, .int 0, .int 0, .int 0, .int 0, .int 0, .int 0, .int 0, .int 0])) := ⟨_, rfl⟩
  have hI : hv_I D CL b0 g9 s.heap H locs := by rw [eg9]; exact hI
  have h10 : g9 bx = some (.inr (1, [.int 0, .null, .null, .int 0, .int 0, .int 0, .int 0, .int 0, .int 0, .int 0, .int 0, .int 0])) := by rw [eg9]; exact hv_up_self _ _ _
  refine lv_aload_n hx hb d_Box_init_29 rfl (lv_at hl 0 rfl) ?_
  refine lv_iconst (v := 0) hx hb d_Box_init_30 (by decide) ?_
  refine hv_put hE k_Box hI 10 (by decide) w345 h10 rfl (by first | rfl | (cases bel <;> rfl)) (by first | rfl | (cases bel <;> rfl)) (Nat.le_of_ble_eq_true rfl) d_Box_init_31 (fun H locs hI => ?_)
  obtain ⟨g11, eg11⟩ : ∃ z : hv_M, z = hv_up g9 bx (.inr (1, [.int 0, .null, .null, .int 0, .int 0, .int 0, .int 0, .int 0, .int 0, .int 0, .int 0, .int 0])) := ⟨_, rfl⟩
  have hI : hv_I D CL b0 g11 s.heap H locs := by rw [eg11]; exact hI
  have h12 : g11 bx = some (.inr (1, [.int 0, .null, .null, .int 0, .int 0, .int 0, .int 0, .int 0, .int 0, .int 0, .int 0, .int 0])) := by rw [eg11]; exact hv_up_self _ _ _
  refine lv_aload_n hx hb d_Box_init_34 rfl (lv_at hl 0 rfl) ?_
  refine lv_iconst (v := 0) hx hb d_Box_init_35 (by decide) ?_
  refine hv_put hE k_Box hI 11 (by decide) w347 h12 rfl (by first | rfl | (cases bel <;> rfl)) (by first | rfl | (cases bel <;> rfl)) (Nat.le_of_ble_eq_true rfl) d_Box_init_36 (fun H locs hI => ?_)
  obtain ⟨g13, eg13⟩ : ∃ z : hv_M, z = hv_up g11 bx (.inr (1, [.int 0, .null, .null, .int 0, .int 0, .int 0, .int 0, .int 0, .int 0, .int 0, .int 0, .int 0])) := ⟨_, rfl⟩
  have hI : hv_I D CL b0 g13 s.heap H locs := by rw [eg13]; exact hI
  have h14 : g13 bx = some (.inr (1, [.int 0, .null, .null, .int 0, .int 0, .int 0, .int 0, .int 0, .int 0, .int 0, .int 0, .int 0])) := by rw [eg13]; exact hv_up_self _ _ _
  refine lv_aload_n hx hb d_Box_init_39 rfl (lv_at hl 0 rfl) ?_
  refine lv_iload_n hx hb d_Box_init_40 rfl (lv_at hl 1 rfl) ?_
  refine hv_putF hE k_Box hI hname 0 (by decide) w325 h14 rfl rfl (by first | rfl | (cases bel <;> rfl)) (by first | rfl | (cases bel <;> rfl)) (Nat.le_of_ble_eq_true rfl) d_Box_init_41 (fun H locs hI => ?_)
  obtain ⟨g15, eg15⟩ : ∃ z : hv_M, z = hv_up g13 bx (.inr (1, [.int (b2i bel), .null, .null, .int 0, .int 0, .int 0, .int 0, .int 0, .int 0, .int 0, .int 0, .int 0])) := ⟨_, rfl⟩
  have hI : hv_I D CL b0 g15 s.heap H locs := by rw [eg15]; exact hI
  have h16 : g15 bx = some (.inr (1, [.int (b2i bel), .null, .null, .int 0, .int 0, .int 0, .int 0, .int 0, .int 0, .int 0, .int 0, .int 0])) := by rw [eg15]; exact hv_up_self _ _ _
  refine lv_aload_n hx hb d_Box_init_44 rfl (lv_at hl 0 rfl) ?_
  refine lv_iload_n hx hb d_Box_init_45 rfl (lv_at hl 3 rfl) ?_
  refine hv_newQ hE hI 3 rfl w316 w25 (n := n) (by rw [Int32.not_lt]; exact nI_le (a := 0) (by omega) (by omega)) (nI_cl (by omega)) (by omega) (by decide) (show _ ≤ 200 by omega) d_Box_init_46 (fun q17 H hnq17 hI => ?_)
  obtain ⟨g18, eg18⟩ : ∃ z : hv_M, z = hv_up g15 q17 (.inl (cA 3, n, .inr (.inr (.inr (.inr (fun _ => none)))))) := ⟨_, rfl⟩
  have hI : hv_I D CL b0 g18 s.heap H locs := by rw [eg18]; exact hI
  have h19 : g18 bx = some (.inr (1, [.int (b2i bel), .null, .null, .int 0, .int 0, .int 0, .int 0, .int 0, .int 0, .int 0, .int 0, .int 0])) := by rw [eg18]; rw [hv_up_ne _ _ (hv_nn h16 hnq17)]; exact h16
  have h20 : g18 q17 = some (.inl (cA 3, n, .inr (.inr (.inr (.inr (fun _ => none)))))) := by rw [eg18]; exact hv_up_self _ _ _
  refine hv_putF hE k_Box hI hname 1 (by decide) w327 h19 rfl rfl (by first | rfl | (cases bel <;> rfl)) (by first | rfl | (cases bel <;> rfl)) (Nat.le_of_ble_eq_true rfl) d_Box_init_49 (fun H locs hI => ?_)
  obtain ⟨g21, eg21⟩ : ∃ z : hv_M, z = hv_up g18 bx (.inr (1, [.int (b2i bel), .ref q17, .null, .int 0, .int 0, .int 0, .int 0, .int 0, .int 0, .int 0, .int 0, .int 0])) := ⟨_, rfl⟩
  have hI : hv_I D CL b0 g21 s.heap H locs := by rw [eg21]; exact hI
  have h22 : g21 bx = some (.inr (1, [.int (b2i bel), .ref q17, .null, .int 0, .int 0, .int 0, .int 0, .int 0, .int 0, .int 0, .int 0, .int 0])) := by rw [eg21]; exact hv_up_self _ _ _
  have h23 : g21 q17 = some (.inl (cA 3, n, .inr (.inr (.inr (.inr (fun _ => none)))))) := by rw [eg21]; rw [hv_up_ne _ _ (hv_ne h20 h19 (by simp))]; exact h20
  refine lv_aload_n hx hb d_Box_init_52 rfl (lv_at hl 0 rfl) ?_
  refine lv_iload_n hx hb d_Box_init_53 rfl (lv_at hl 3 rfl) ?_
  refine hv_newI hE hI 0 rfl w374 (n := n) (by rw [Int32.not_lt]; exact nI_le (a := 0) (by omega) (by omega)) (nI_cl (by omega)) (by omega) (by decide) (show _ ≤ 200 by omega) d_Box_init_54 (fun q24 H hnq24 hI => ?_)
  obtain ⟨g25, eg25⟩ : ∃ z : hv_M, z = hv_up g21 q24 (.inl (cA 0, n, .inl (fun _ => 0))) := ⟨_, rfl⟩
  have hI : hv_I D CL b0 g25 s.heap H locs := by rw [eg25]; exact hI
  have h26 : g25 bx = some (.inr (1, [.int (b2i bel), .ref q17, .null, .int 0, .int 0, .int 0, .int 0, .int 0, .int 0, .int 0, .int 0, .int 0])) := by rw [eg25]; rw [hv_up_ne _ _ (hv_nn h22 hnq24)]; exact h22
  have h27 : g25 q17 = some (.inl (cA 3, n, .inr (.inr (.inr (.inr (fun _ => none)))))) := by rw [eg25]; rw [hv_up_ne _ _ (hv_nn h23 hnq24)]; exact h23
  have h28 : g25 q24 = some (.inl (cA 0, n, .inl (fun _ => 0))) := by rw [eg25]; exact hv_up_self _ _ _
  refine hv_putF hE k_Box hI hname 2 (by decide) w329 h26 rfl rfl (by first | rfl | (cases bel <;> rfl)) (by first | rfl | (cases bel <;> rfl)) (Nat.le_of_ble_eq_true rfl) d_Box_init_56 (fun H locs hI => ?_)
  obtain ⟨g29, eg29⟩ : ∃ z : hv_M, z = hv_up g25 bx (.inr (1, [.int (b2i bel), .ref q17, .ref q24, .int 0, .int 0, .int 0, .int 0, .int 0, .int 0, .int 0, .int 0, .int 0])) := ⟨_, rfl⟩
  have hI : hv_I D CL b0 g29 s.heap H locs := by rw [eg29]; exact hI
  have h30 : g29 bx = some (.inr (1, [.int (b2i bel), .ref q17, .ref q24, .int 0, .int 0, .int 0, .int 0, .int 0, .int 0, .int 0, .int 0, .int 0])) := by rw [eg29]; exact hv_up_self _ _ _
  have h31 : g29 q17 = some (.inl (cA 3, n, .inr (.inr (.inr (.inr (fun _ => none)))))) := by rw [eg29]; rw [hv_up_ne _ _ (hv_ne h27 h26 (by simp))]; exact h27
  have h32 : g29 q24 = some (.inl (cA 0, n, .inl (fun _ => 0))) := by rw [eg29]; rw [hv_up_ne _ _ (hv_ne h28 h26 (by simp))]; exact h28
  refine lv_iconst (v := 1) hx hb d_Box_init_59 (by decide) ?_
  refine lv_istore (lv' := [(4, .int 1), (0, .ref bx), (1, .int (b2i bel)), (2, .ref la), (3, .int (nI n))]) hx hb d_Box_init_60 hl (by decide) rfl (fun ls hl => ?_)
  refine lv_iload_n hx hb d_Box_init_62 rfl (lv_at hl 4 rfl) ?_
  refine lv_istore (lv' := [(5, .int (nI n)), (4, .int 1), (0, .ref bx), (1, .int (b2i bel)), (2, .ref la), (3, .int (nI n))]) hx hb d_Box_init_63 hl (by decide) rfl (fun ls hl => ?_)
  refine lv_iconst (v := 0) hx hb d_Box_init_65 (by decide) ?_
  refine lv_istore (lv' := [(6, .int 0), (5, .int (nI n)), (4, .int 1), (0, .ref bx), (1, .int (b2i bel)), (2, .ref la), (3, .int (nI n))]) hx hb d_Box_init_66 hl (by decide) rfl (fun ls hl => ?_)
  have hb1 : q17 ≠ bx := fun q => by rw [q] at hnq17; simp [eg15, eg13, eg11, eg9, eg7, eg5, eg3, eg1, hv_up] at hnq17
  have hf1 : f q17 = none := by have h9 := hnq17; rw [eg15, hv_up_ne _ _ hb1, eg13, hv_up_ne _ _ hb1, eg11, hv_up_ne _ _ hb1, eg9, hv_up_ne _ _ hb1, eg7, hv_up_ne _ _ hb1, eg5, hv_up_ne _ _ hb1, eg3, hv_up_ne _ _ hb1, eg1, hv_up_ne _ _ hb1] at h9; exact h9
  have hb2 : q24 ≠ bx := fun q => by rw [q] at hnq24; simp [eg21, eg18, eg15, eg13, eg11, eg9, eg7, eg5, eg3, eg1, hv_up] at hnq24
  have hb3 : q24 ≠ q17 := fun q => by rw [q] at hnq24; simp [eg21, eg18, eg15, eg13, eg11, eg9, eg7, eg5, eg3, eg1, hv_up, hb1] at hnq24
  have hf2 : f q24 = none := by have h9 := hnq24; rw [eg21, hv_up_ne _ _ hb2, eg18, hv_up_ne _ _ hb3, eg15, hv_up_ne _ _ hb2, eg13, hv_up_ne _ _ hb2, eg11, hv_up_ne _ _ hb2, eg9, hv_up_ne _ _ hb2, eg7, hv_up_ne _ _ hb2, eg5, hv_up_ne _ _ hb2, eg3, hv_up_ne _ _ hb2, eg1, hv_up_ne _ _ hb2] at h9; exact h9
  have hlq : la ≠ q17 := hv_nn hla hf1
  have loop : ∀ (k i : Nat) (dp al : Int32) (gc : Nat → Option Nat) (g : hv_M) (H : Heap) (locs : List Loc) (ls : Array Slot), i + k = n → g bx = some (.inr (1, [.int (b2i bel), .ref q17, .ref q24, .int 0, .int 0, .int 0, .int 0, .int 0, .int 0, .int 0, .int 0, .int 0])) → g q17 = some (.inl (cA 3, n, .inr (.inr (.inr (.inr gc))))) → g q24 = some (.inl (cA 0, n, .inl (fun _ => 0))) → (∀ z, z ≠ bx → z ≠ q17 → z ≠ q24 → g z = f z) → (∀ j, j < i → gc j = gl j) → initF bi iv k i dp al = initF bi iv n 0 1 (nI n) → hv_I D CL b0 g s.heap H locs → lv_has ls 9 [(0, .ref bx), (2, .ref la), (3, .int (nI n)), (4, .int dp), (5, .int al), (6, .int (nI i))] → W p l e (RM 1 2 200) s m ([.ref bx, .int (b2i bel), .ref la, .int (nI n)] : List Value).toArray below meth c H locs (0 + 1 + 1) (0 + n + n) (xh_MQ below (hv_Q b0 (Fa D cA) D CL (fun v g => v = none ∧ ∃ (q1 q2 : Nat) (gc : Nat → Option Nat) (dp al : Int32), f q1 = none ∧ f q2 = none ∧ q1 ≠ q2 ∧ (∀ j, j < n → gc j = gl j) ∧ initF bi iv n 0 1 (nI n) = (dp, al) ∧ g bx = some (.inr (1, [.int (b2i bel), .ref q1, .ref q2, .int dp, .int al, .int 0, .int 0, .int 0, .int 0, .int 0, .int 0, .int 0])) ∧ g q1 = some (.inl (cA 3, n, .inr (.inr (.inr (.inr gc))))) ∧ g q2 = some (.inl (cA 0, n, .inl (fun _ => 0))) ∧ ∀ z, z ≠ bx → z ≠ q1 → z ≠ q2 → g z = f z) (NX)) s 2 200 (fun q => b0 ≤ q)) (F0 m 68 ls []) := by
    intro k
    induction k with
    | zero =>
      intro i dp al gc g H locs ls hik hgb hg1 hg2 hfo hcp heq hI hl
      have hgl : g la = some (.inl (cA 3, 100, .inr (.inr (.inr (.inr gl))))) := by rw [hfo la (hv_ne hla hbx (by simp)) (hv_nn hla hf1) (hv_nn hla hf2)]; exact hla
      refine lv_iload hx hb d_Box_init_68 (lv_at hl 5 rfl) ?_
      refine lv_iload_n hx hb d_Box_init_70 rfl (lv_at hl 2 rfl) ?_
      refine lv_icmp_ge (tgt := 155) hx hb d_Box_init_71 (by decide) (fun c71 => ?_) (fun c71 => ?_)
      · skip
        refine lv_aload_n hx hb d_Box_init_155 rfl (lv_at hl 0 rfl) ?_
        refine lv_iload hx hb d_Box_init_156 (lv_at hl 3 rfl) ?_
        refine hv_putF hE k_Box hI hname 3 (by decide) w331 hgb rfl rfl rfl rfl (Nat.le_of_ble_eq_true rfl) d_Box_init_158 (fun H locs hI => ?_)
        obtain ⟨g33, eg33⟩ : ∃ z : hv_M, z = hv_up g bx (.inr (1, [.int (b2i bel), .ref q17, .ref q24, .int dp, .int 0, .int 0, .int 0, .int 0, .int 0, .int 0, .int 0, .int 0])) := ⟨_, rfl⟩
        have hI : hv_I D CL b0 g33 s.heap H locs := by rw [eg33]; exact hI
        have h34 : g33 bx = some (.inr (1, [.int (b2i bel), .ref q17, .ref q24, .int dp, .int 0, .int 0, .int 0, .int 0, .int 0, .int 0, .int 0, .int 0])) := by rw [eg33]; exact hv_up_self _ _ _
        have h35 : g33 q17 = some (.inl (cA 3, n, .inr (.inr (.inr (.inr gc))))) := by rw [eg33]; rw [hv_up_ne _ _ (hv_ne hg1 hgb (by simp))]; exact hg1
        have h36 : g33 la = some (.inl (cA 3, 100, .inr (.inr (.inr (.inr gl))))) := by rw [eg33]; rw [hv_up_ne _ _ (hv_ne hgl hgb (by simp))]; exact hgl
        have h37 : g33 q24 = some (.inl (cA 0, n, .inl (fun _ => 0))) := by rw [eg33]; rw [hv_up_ne _ _ (hv_ne hg2 hgb (by simp))]; exact hg2
        refine lv_aload_n hx hb d_Box_init_161 rfl (lv_at hl 0 rfl) ?_
        refine lv_iload hx hb d_Box_init_162 (lv_at hl 4 rfl) ?_
        refine hv_putF hE k_Box hI hname 4 (by decide) w333 h34 rfl rfl rfl rfl (Nat.le_of_ble_eq_true rfl) d_Box_init_164 (fun H locs hI => ?_)
        obtain ⟨g38, eg38⟩ : ∃ z : hv_M, z = hv_up g33 bx (.inr (1, [.int (b2i bel), .ref q17, .ref q24, .int dp, .int al, .int 0, .int 0, .int 0, .int 0, .int 0, .int 0, .int 0])) := ⟨_, rfl⟩
        have hI : hv_I D CL b0 g38 s.heap H locs := by rw [eg38]; exact hI
        have h39 : g38 bx = some (.inr (1, [.int (b2i bel), .ref q17, .ref q24, .int dp, .int al, .int 0, .int 0, .int 0, .int 0, .int 0, .int 0, .int 0])) := by rw [eg38]; exact hv_up_self _ _ _
        have h40 : g38 q17 = some (.inl (cA 3, n, .inr (.inr (.inr (.inr gc))))) := by rw [eg38]; rw [hv_up_ne _ _ (hv_ne h35 h34 (by simp))]; exact h35
        have h41 : g38 la = some (.inl (cA 3, 100, .inr (.inr (.inr (.inr gl))))) := by rw [eg38]; rw [hv_up_ne _ _ (hv_ne h36 h34 (by simp))]; exact h36
        have h42 : g38 q24 = some (.inl (cA 0, n, .inl (fun _ => 0))) := by rw [eg38]; rw [hv_up_ne _ _ (hv_ne h37 h34 (by simp))]; exact h37
        exact hv_vret hE hr hlocks hI hK (⟨rfl, q17, q24, gc, dp, al, hf1, hf2, Ne.symm hb3, fun j hj => hcp j (by omega), heq.symm, h39, h40, h42, fun z z1 z2 z3 => by rw [eg38, hv_up_ne _ _ z1, eg33, hv_up_ne _ _ z1]; exact hfo z z1 z2 z3⟩) (by first | decide | exact (show _ ≤ 200 by omega)) (by first | decide | exact (show _ ≤ 200 by omega)) d_Box_init_167
      · skip
        exact absurd (nI_le (by omega) (by omega)) c71
    | succ k ih =>
      intro i dp al gc g H locs ls hik hgb hg1 hg2 hfo hcp heq hI hl
      have hgl : g la = some (.inl (cA 3, 100, .inr (.inr (.inr (.inr gl))))) := by rw [hfo la (hv_ne hla hbx (by simp)) (hv_nn hla hf1) (hv_nn hla hf2)]; exact hla
      obtain ⟨q, hq1, hq2⟩ := hit i (by omega)
      rcases hiv : iv i with ⟨t, iw, ih9, id9, inn, z9⟩ | ⟨iw, a9, b9, c9, e9⟩
      rcases inn with _ | qb
      · rw [hiv] at hq2
        have hgq : g q = some (.inr (2, [.int t, .int iw, .int ih9, .int id9, .null, .int z9])) := by rw [hfo q (hv_ne hq2 hbx (by simp [itE])) (hv_nn hq2 hf1) (hv_nn hq2 hf2)]; exact hq2
        refine lv_iload hx hb d_Box_init_68 (lv_at hl 5 rfl) ?_
        refine lv_iload_n hx hb d_Box_init_70 rfl (lv_at hl 2 rfl) ?_
        refine lv_icmp_ge (tgt := 155) hx hb d_Box_init_71 (by decide) (fun c71 => ?_) (fun c71 => ?_)
        · skip
          exact absurd c71 (nI_ge (by omega) (by omega))
        · skip
          refine lv_aload_n hx hb d_Box_init_74 rfl (lv_at hl 0 rfl) ?_
          refine hv_get hE k_Box hI 1 (by decide) w327 hgb rfl d_Box_init_75 ?_
          refine lv_iload hx hb d_Box_init_78 (lv_at hl 5 rfl) ?_
          refine lv_aload_n hx hb d_Box_init_80 rfl (lv_at hl 1 rfl) ?_
          refine lv_iload hx hb d_Box_init_81 (lv_at hl 5 rfl) ?_
          refine hv_aald hE hI 3 hgl rfl (pk_in i 100 (by omega) rfl (by omega)) d_Box_init_83 ?_
          rw [nI_cl (by omega)]
          rw [hq1]
          refine W.eq (g2 := F0 m 84 ls [.ref q, .int (nI i), .ref q17]) rfl ?_
          refine hv_aast hE hI 3 hg1 rfl hgq rfl w761 (pk_in i n (by omega) rfl (by omega)) d_Box_init_84 (fun H locs hI => ?_)
          rw [nI_cl (by omega)] at hI
          obtain ⟨g43, eg43⟩ : ∃ z : hv_M, z = hv_up g q17 (.inl (cA 3, n, .inr (.inr (.inr (.inr (va_up gc i (some q))))))) := ⟨_, rfl⟩
          have hI : hv_I D CL b0 g43 s.heap H locs := by rw [eg43]; exact hI
          have h44 : g43 bx = some (.inr (1, [.int (b2i bel), .ref q17, .ref q24, .int 0, .int 0, .int 0, .int 0, .int 0, .int 0, .int 0, .int 0, .int 0])) := by rw [eg43]; rw [hv_up_ne _ _ (hv_ne hgb hg1 (by simp))]; exact hgb
          have h45 : g43 q17 = some (.inl (cA 3, n, .inr (.inr (.inr (.inr (va_up gc i (some q))))))) := by rw [eg43]; exact hv_up_self _ _ _
          have h46 : g43 la = some (.inl (cA 3, 100, .inr (.inr (.inr (.inr gl))))) := by rw [eg43]; rw [hv_up_ne _ _ hlq]; exact hgl
          have h47 : g43 q24 = some (.inl (cA 0, n, .inl (fun _ => 0))) := by rw [eg43]; rw [hv_up_ne _ _ (hv_ne hg2 hg1 (by simp))]; exact hg2
          have h48 : g43 q = some (.inr (2, [.int t, .int iw, .int ih9, .int id9, .null, .int z9])) := by rw [eg43]; rw [hv_up_ne _ _ (hv_ne hgq hg1 (by simp))]; exact hgq
          refine lv_aload_n hx hb d_Box_init_85 rfl (lv_at hl 1 rfl) ?_
          refine lv_iload hx hb d_Box_init_86 (lv_at hl 5 rfl) ?_
          refine hv_aald hE hI 3 h46 rfl (pk_in i 100 (by omega) rfl (by omega)) d_Box_init_88 ?_
          rw [nI_cl (by omega)]
          rw [hq1]
          refine W.eq (g2 := F0 m 89 ls [.ref q]) rfl ?_
          refine lv_astore (lv' := [(8, .ref q), (0, .ref bx), (2, .ref la), (3, .int (nI n)), (4, .int dp), (5, .int al), (6, .int (nI i))]) hx hb d_Box_init_89 hl (by decide) rfl (fun ls hl => ?_)
          refine lv_aload hx hb d_Box_init_91 (lv_at hl 0 rfl) ?_
          refine hv_instS hE hI h48 rfl w317 d_Box_init_93 ?_
          refine lv_if_eq (tgt := 149) hx hb d_Box_init_96 (by decide) (fun c96 => ?_) (fun c96 => ?_)
          · skip
            exact absurd c96 (by decide)
          · skip
            refine lv_aload hx hb d_Box_init_99 (lv_at hl 0 rfl) ?_
            refine hv_castS hE hI h48 rfl w317 d_Box_init_101 ?_
            refine lv_astore (lv' := [(7, .ref q), (8, .ref q), (0, .ref bx), (2, .ref la), (3, .int (nI n)), (4, .int dp), (5, .int al), (6, .int (nI i))]) hx hb d_Box_init_104 hl (by decide) rfl (fun ls hl => ?_)
            refine lv_aload hx hb d_Box_init_106 (lv_at hl 0 rfl) ?_
            refine hv_getN hE k_Solid hI 4 (by decide) w178 h48 rfl d_Box_init_108 ?_
            refine lv_ifnullN (tgt := 149) hx hb d_Box_init_111 (by decide) ?_
            obtain ⟨v49, ev49⟩ : ∃ y : Int32, y = (nI i) + 1 := ⟨_, rfl⟩
            refine lv_iinc (v := v49) (lv' := [(6, .int v49), (7, .ref q), (8, .ref q), (0, .ref bx), (2, .ref la), (3, .int (nI n)), (4, .int dp), (5, .int al)]) hx hb d_Box_init_149 hl (k := 7) rfl (by rw [ev49]; rfl) (by decide) rfl (fun ls hl => ?_)
            refine lv_goto (tgt := 68) hx hb d_Box_init_152 (by decide) ?_
            exact ih (i + 1) dp al _ _ _ _ ls (by omega) h44 h45 h47 (fun z z1 z2 z3 => by rw [eg43, hv_up_ne _ _ z2]; exact hfo z z1 z2 z3) (fun j hj => by by_cases hji : j = i; (rw [hji, hq1]; simp [va_up]); (rw [show va_up gc i (some q) j = gc j from by simp [va_up, hji]]; exact hcp j (by omega))) (by rw [← heq]; simp only [initF, hiv, mn6]) hI (by rw [← nI_1, ← ev49]; exact lv_sub hl [3, 4, 5, 6, 7, 0] rfl)
      · rw [hiv] at hq2
        have hgq : g q = some (.inr (2, [.int t, .int iw, .int ih9, .int id9, .ref qb, .int z9])) := by rw [hfo q (hv_ne hq2 hbx (by simp [itE])) (hv_nn hq2 hf1) (hv_nn hq2 hf2)]; exact hq2
        obtain ⟨xb, xw, xh, xd, xe, xo, xt, xv, xc, xp, hqb⟩ := hbi i (by omega) _ _ _ _ _ _ hiv
        have hib : qb ≠ bx := hv_ne hqb hbx (by simp)
        have hgi : g qb = some (.inr (1, [.int xb, .ref xc, .ref xp, .int (bi qb).1, .int (bi qb).2, .int xw, .int xh, .int xd, .int xe, .int xo, .int xt, .int xv])) := by rw [hfo qb hib (hv_nn hqb hf1) (hv_nn hqb hf2)]; exact hqb
        refine lv_iload hx hb d_Box_init_68 (lv_at hl 5 rfl) ?_
        refine lv_iload_n hx hb d_Box_init_70 rfl (lv_at hl 2 rfl) ?_
        refine lv_icmp_ge (tgt := 155) hx hb d_Box_init_71 (by decide) (fun c71 => ?_) (fun c71 => ?_)
        · skip
          exact absurd c71 (nI_ge (by omega) (by omega))
        · skip
          refine lv_aload_n hx hb d_Box_init_74 rfl (lv_at hl 0 rfl) ?_
          refine hv_get hE k_Box hI 1 (by decide) w327 hgb rfl d_Box_init_75 ?_
          refine lv_iload hx hb d_Box_init_78 (lv_at hl 5 rfl) ?_
          refine lv_aload_n hx hb d_Box_init_80 rfl (lv_at hl 1 rfl) ?_
          refine lv_iload hx hb d_Box_init_81 (lv_at hl 5 rfl) ?_
          refine hv_aald hE hI 3 hgl rfl (pk_in i 100 (by omega) rfl (by omega)) d_Box_init_83 ?_
          rw [nI_cl (by omega)]
          rw [hq1]
          refine W.eq (g2 := F0 m 84 ls [.ref q, .int (nI i), .ref q17]) rfl ?_
          refine hv_aast hE hI 3 hg1 rfl hgq rfl w761 (pk_in i n (by omega) rfl (by omega)) d_Box_init_84 (fun H locs hI => ?_)
          rw [nI_cl (by omega)] at hI
          obtain ⟨g50, eg50⟩ : ∃ z : hv_M, z = hv_up g q17 (.inl (cA 3, n, .inr (.inr (.inr (.inr (va_up gc i (some q))))))) := ⟨_, rfl⟩
          have hI : hv_I D CL b0 g50 s.heap H locs := by rw [eg50]; exact hI
          have h51 : g50 bx = some (.inr (1, [.int (b2i bel), .ref q17, .ref q24, .int 0, .int 0, .int 0, .int 0, .int 0, .int 0, .int 0, .int 0, .int 0])) := by rw [eg50]; rw [hv_up_ne _ _ (hv_ne hgb hg1 (by simp))]; exact hgb
          have h52 : g50 q17 = some (.inl (cA 3, n, .inr (.inr (.inr (.inr (va_up gc i (some q))))))) := by rw [eg50]; exact hv_up_self _ _ _
          have h53 : g50 la = some (.inl (cA 3, 100, .inr (.inr (.inr (.inr gl))))) := by rw [eg50]; rw [hv_up_ne _ _ hlq]; exact hgl
          have h54 : g50 q24 = some (.inl (cA 0, n, .inl (fun _ => 0))) := by rw [eg50]; rw [hv_up_ne _ _ (hv_ne hg2 hg1 (by simp))]; exact hg2
          have h55 : g50 q = some (.inr (2, [.int t, .int iw, .int ih9, .int id9, .ref qb, .int z9])) := by rw [eg50]; rw [hv_up_ne _ _ (hv_ne hgq hg1 (by simp))]; exact hgq
          have h56 : g50 qb = some (.inr (1, [.int xb, .ref xc, .ref xp, .int (bi qb).1, .int (bi qb).2, .int xw, .int xh, .int xd, .int xe, .int xo, .int xt, .int xv])) := by rw [eg50]; rw [hv_up_ne _ _ (hv_ne hgi hg1 (by simp))]; exact hgi
          refine lv_aload_n hx hb d_Box_init_85 rfl (lv_at hl 1 rfl) ?_
          refine lv_iload hx hb d_Box_init_86 (lv_at hl 5 rfl) ?_
          refine hv_aald hE hI 3 h53 rfl (pk_in i 100 (by omega) rfl (by omega)) d_Box_init_88 ?_
          rw [nI_cl (by omega)]
          rw [hq1]
          refine W.eq (g2 := F0 m 89 ls [.ref q]) rfl ?_
          refine lv_astore (lv' := [(8, .ref q), (0, .ref bx), (2, .ref la), (3, .int (nI n)), (4, .int dp), (5, .int al), (6, .int (nI i))]) hx hb d_Box_init_89 hl (by decide) rfl (fun ls hl => ?_)
          refine lv_aload hx hb d_Box_init_91 (lv_at hl 0 rfl) ?_
          refine hv_instS hE hI h55 rfl w317 d_Box_init_93 ?_
          refine lv_if_eq (tgt := 149) hx hb d_Box_init_96 (by decide) (fun c96 => ?_) (fun c96 => ?_)
          · skip
            exact absurd c96 (by decide)
          · skip
            refine lv_aload hx hb d_Box_init_99 (lv_at hl 0 rfl) ?_
            refine hv_castS hE hI h55 rfl w317 d_Box_init_101 ?_
            refine lv_astore (lv' := [(7, .ref q), (8, .ref q), (0, .ref bx), (2, .ref la), (3, .int (nI n)), (4, .int dp), (5, .int al), (6, .int (nI i))]) hx hb d_Box_init_104 hl (by decide) rfl (fun ls hl => ?_)
            refine lv_aload hx hb d_Box_init_106 (lv_at hl 0 rfl) ?_
            refine hv_getN hE k_Solid hI 4 (by decide) w178 h55 rfl d_Box_init_108 ?_
            refine lv_ifnull hx hb d_Box_init_111 ?_
            refine lv_iload hx hb d_Box_init_114 (lv_at hl 5 rfl) ?_
            refine lv_aload hx hb d_Box_init_116 (lv_at hl 0 rfl) ?_
            refine hv_getN hE k_Solid hI 4 (by decide) w178 h55 rfl d_Box_init_118 ?_
            refine hv_get hE k_Box hI 3 (by decide) w331 h56 rfl d_Box_init_121 ?_
            refine lv_iconst (v := 1) hx hb d_Box_init_124 (by decide) ?_
            refine lv_iadd hx hb d_Box_init_125 ?_
            refine va_mmax hx hb (hml.trans hl.1.symm) hown (hts _ w318) (hts _ w319) (hts _ w14) (hts _ w320) (by decide) (Nat.le_of_ble_eq_true rfl) (by first | decide | exact (show _ ≤ 200 by omega)) (by first | decide | exact (show _ ≤ 200 by omega)) d_Box_init_126 ?_
            refine W.eq (g2 := F0 m 129 ls [.int (mx dp (((bi qb).1) + 1))]) rfl ?_
            refine lv_istore (lv' := [(4, .int (mx dp (((bi qb).1) + 1))), (7, .ref q), (8, .ref q), (0, .ref bx), (2, .ref la), (3, .int (nI n)), (5, .int al), (6, .int (nI i))]) hx hb d_Box_init_129 hl (by decide) rfl (fun ls hl => ?_)
            refine lv_ldc (v := 1000000) hx hb hown (hts _ w321) d_Box_init_131 ?_
            refine lv_iload hx hb d_Box_init_133 (lv_at hl 6 rfl) ?_
            refine lv_aload hx hb d_Box_init_135 (lv_at hl 1 rfl) ?_
            refine hv_getN hE k_Solid hI 4 (by decide) w178 h55 rfl d_Box_init_137 ?_
            refine hv_get hE k_Box hI 4 (by decide) w333 h56 rfl d_Box_init_140 ?_
            refine lv_iadd hx hb d_Box_init_143 ?_
            refine va_mmin hx hb (hml.trans hl.1.symm) hown (hts _ w322) (hts _ w323) (hts _ w14) (hts _ w324) (by decide) (Nat.le_of_ble_eq_true rfl) (by first | decide | exact (show _ ≤ 200 by omega)) (by first | decide | exact (show _ ≤ 200 by omega)) d_Box_init_144 ?_
            refine W.eq (g2 := F0 m 147 ls [.int (if al + ((bi qb).2) < 1000000 then al + ((bi qb).2) else 1000000)]) rfl ?_
            refine lv_istore (lv' := [(5, .int (if al + ((bi qb).2) < 1000000 then al + ((bi qb).2) else 1000000)), (4, .int (mx dp (((bi qb).1) + 1))), (7, .ref q), (8, .ref q), (0, .ref bx), (2, .ref la), (3, .int (nI n)), (6, .int (nI i))]) hx hb d_Box_init_147 hl (by decide) rfl (fun ls hl => ?_)
            obtain ⟨v57, ev57⟩ : ∃ y : Int32, y = (nI i) + 1 := ⟨_, rfl⟩
            refine lv_iinc (v := v57) (lv' := [(6, .int v57), (5, .int (if al + ((bi qb).2) < 1000000 then al + ((bi qb).2) else 1000000)), (4, .int (mx dp (((bi qb).1) + 1))), (7, .ref q), (8, .ref q), (0, .ref bx), (2, .ref la), (3, .int (nI n))]) hx hb d_Box_init_149 hl (k := 7) rfl (by rw [ev57]; rfl) (by decide) rfl (fun ls hl => ?_)
            refine lv_goto (tgt := 68) hx hb d_Box_init_152 (by decide) ?_
            exact ih (i + 1) (mx dp (((bi qb).1) + 1)) (if al + ((bi qb).2) < 1000000 then al + ((bi qb).2) else 1000000) _ _ _ _ ls (by omega) h51 h52 h54 (fun z z1 z2 z3 => by rw [eg50, hv_up_ne _ _ z2]; exact hfo z z1 z2 z3) (fun j hj => by by_cases hji : j = i; (rw [hji, hq1]; simp [va_up]); (rw [show va_up gc i (some q) j = gc j from by simp [va_up, hji]]; exact hcp j (by omega))) (by rw [← heq]; simp only [initF, hiv, mn6]) hI (by rw [← nI_1, ← ev57]; exact lv_sub hl [5, 6, 7, 2, 1, 0] rfl)
      · rw [hiv] at hq2
        have hgq : g q = some (.inr (3, [.int iw, .int a9, .int b9, .int c9, .int e9])) := by rw [hfo q (hv_ne hq2 hbx (by simp [itE])) (hv_nn hq2 hf1) (hv_nn hq2 hf2)]; exact hq2
        refine lv_iload hx hb d_Box_init_68 (lv_at hl 5 rfl) ?_
        refine lv_iload_n hx hb d_Box_init_70 rfl (lv_at hl 2 rfl) ?_
        refine lv_icmp_ge (tgt := 155) hx hb d_Box_init_71 (by decide) (fun c71 => ?_) (fun c71 => ?_)
        · skip
          exact absurd c71 (nI_ge (by omega) (by omega))
        · skip
          refine lv_aload_n hx hb d_Box_init_74 rfl (lv_at hl 0 rfl) ?_
          refine hv_get hE k_Box hI 1 (by decide) w327 hgb rfl d_Box_init_75 ?_
          refine lv_iload hx hb d_Box_init_78 (lv_at hl 5 rfl) ?_
          refine lv_aload_n hx hb d_Box_init_80 rfl (lv_at hl 1 rfl) ?_
          refine lv_iload hx hb d_Box_init_81 (lv_at hl 5 rfl) ?_
          refine hv_aald hE hI 3 hgl rfl (pk_in i 100 (by omega) rfl (by omega)) d_Box_init_83 ?_
          rw [nI_cl (by omega)]
          rw [hq1]
          refine W.eq (g2 := F0 m 84 ls [.ref q, .int (nI i), .ref q17]) rfl ?_
          refine hv_aast hE hI 3 hg1 rfl hgq rfl w762 (pk_in i n (by omega) rfl (by omega)) d_Box_init_84 (fun H locs hI => ?_)
          rw [nI_cl (by omega)] at hI
          obtain ⟨g58, eg58⟩ : ∃ z : hv_M, z = hv_up g q17 (.inl (cA 3, n, .inr (.inr (.inr (.inr (va_up gc i (some q))))))) := ⟨_, rfl⟩
          have hI : hv_I D CL b0 g58 s.heap H locs := by rw [eg58]; exact hI
          have h59 : g58 bx = some (.inr (1, [.int (b2i bel), .ref q17, .ref q24, .int 0, .int 0, .int 0, .int 0, .int 0, .int 0, .int 0, .int 0, .int 0])) := by rw [eg58]; rw [hv_up_ne _ _ (hv_ne hgb hg1 (by simp))]; exact hgb
          have h60 : g58 q17 = some (.inl (cA 3, n, .inr (.inr (.inr (.inr (va_up gc i (some q))))))) := by rw [eg58]; exact hv_up_self _ _ _
          have h61 : g58 la = some (.inl (cA 3, 100, .inr (.inr (.inr (.inr gl))))) := by rw [eg58]; rw [hv_up_ne _ _ hlq]; exact hgl
          have h62 : g58 q24 = some (.inl (cA 0, n, .inl (fun _ => 0))) := by rw [eg58]; rw [hv_up_ne _ _ (hv_ne hg2 hg1 (by simp))]; exact hg2
          have h63 : g58 q = some (.inr (3, [.int iw, .int a9, .int b9, .int c9, .int e9])) := by rw [eg58]; rw [hv_up_ne _ _ (hv_ne hgq hg1 (by simp))]; exact hgq
          refine lv_aload_n hx hb d_Box_init_85 rfl (lv_at hl 1 rfl) ?_
          refine lv_iload hx hb d_Box_init_86 (lv_at hl 5 rfl) ?_
          refine hv_aald hE hI 3 h61 rfl (pk_in i 100 (by omega) rfl (by omega)) d_Box_init_88 ?_
          rw [nI_cl (by omega)]
          rw [hq1]
          refine W.eq (g2 := F0 m 89 ls [.ref q]) rfl ?_
          refine lv_astore (lv' := [(8, .ref q), (0, .ref bx), (2, .ref la), (3, .int (nI n)), (4, .int dp), (5, .int al), (6, .int (nI i))]) hx hb d_Box_init_89 hl (by decide) rfl (fun ls hl => ?_)
          refine lv_aload hx hb d_Box_init_91 (lv_at hl 0 rfl) ?_
          refine hv_instN hE hI hK h63 rfl (nm := "BoxPacker$Solid") (by decide) w317 d_Box_init_93 ?_
          refine lv_if_eq (tgt := 149) hx hb d_Box_init_96 (by decide) (fun c96 => ?_) (fun c96 => ?_)
          · skip
            obtain ⟨v64, ev64⟩ : ∃ y : Int32, y = (nI i) + 1 := ⟨_, rfl⟩
            refine lv_iinc (v := v64) (lv' := [(6, .int v64), (8, .ref q), (0, .ref bx), (2, .ref la), (3, .int (nI n)), (4, .int dp), (5, .int al)]) hx hb d_Box_init_149 hl (k := 6) rfl (by rw [ev64]; rfl) (by decide) rfl (fun ls hl => ?_)
            refine lv_goto (tgt := 68) hx hb d_Box_init_152 (by decide) ?_
            exact ih (i + 1) dp al _ _ _ _ ls (by omega) h59 h60 h62 (fun z z1 z2 z3 => by rw [eg58, hv_up_ne _ _ z2]; exact hfo z z1 z2 z3) (fun j hj => by by_cases hji : j = i; (rw [hji, hq1]; simp [va_up]); (rw [show va_up gc i (some q) j = gc j from by simp [va_up, hji]]; exact hcp j (by omega))) (by rw [← heq]; simp only [initF, hiv, mn6]) hI (by rw [← nI_1, ← ev64]; exact lv_sub hl [2, 3, 4, 5, 6, 0] rfl)
          · skip
            exact absurd rfl c96
  exact loop n 0 1 (nI n) (fun _ => none) _ _ _ ls (by omega) h30 h31 h32 (fun z z1 z2 z3 => by rw [eg29, hv_up_ne _ _ z1, eg25, hv_up_ne _ _ z3, eg21, hv_up_ne _ _ z1, eg18, hv_up_ne _ _ z2, eg15, hv_up_ne _ _ z1, eg13, hv_up_ne _ _ z1, eg11, hv_up_ne _ _ z1, eg9, hv_up_ne _ _ z1, eg7, hv_up_ne _ _ z1, eg5, hv_up_ne _ _ z1, eg3, hv_up_ne _ _ z1, eg1, hv_up_ne _ _ z1]) (fun j hj => absurd hj (Nat.not_lt_zero j)) rfl hI (lv_sub hl [3, 5, 6, 2, 1, 0] rfl)

