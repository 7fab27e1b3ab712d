/-! ===== the reference: a new one ===== -/
def V00 : Wd := (fun _ => 0, fun _ => 0, fun _ => 0, fun _ => false, fun _ _ => 0)
theorem nodup_getD {L : List Nat} (h : L.Nodup) {i j : Nat} (hi : i < L.length) (hj : j < L.length) (hij : i ≠ j) : L.getD i 0 ≠ L.getD j 0 := by
  intro q
  rw [List.getD_eq_getElem?_getD, List.getD_eq_getElem?_getD, List.getElem?_eq_getElem hi, List.getElem?_eq_getElem hj, Option.getD_some, Option.getD_some] at q
  exact hij ((List.getElem?_inj hi h).mp (by rw [List.getElem?_eq_getElem hi, List.getElem?_eq_getElem hj, q]))

set_option maxHeartbeats 4000000 in
set_option maxRecDepth 100000 in
theorem c_Mo_init (l : Launch) (hl0 : l.stackTraces = false) (b0 : Nat) (D : va_G) (cA : Nat → ClassId) (f : hv_M) (x : Nat) (hx0 : f x = some (.inr (5, [.int 0, .null, .null, .int 0, .int 0, .int 0, .null, .null, .null, .null, .null, .null, .null, .null, .null, .null, .null, .null, .int 0, .long 0, .long 0, .long 0, .long 0, .null, .null, .null, .int 0]))) : hv_Met l y_Mo_init [Cond.code y_Mo_init b_Mo_init 1 none] (RM 1 17 68409) b0 (Fa D cA) D CL [.ref x] f (fun v g => v = none ∧ ∃ a : Nat → Nat, moN x a ∧ g x = some (moE a 0 0 0 0 false 0 0 0 0 0) ∧ moA cA g a V00 ∧ g (a 14) = some (.inl (cA 1, 4, .inr (.inl (fun _ => 0)))) ∧ g (a 15) = some (.inl (cA 1, 4, .inr (.inl (fun _ => 0)))) ∧ g (a 16) = some (.inl (cA 1, 6000, .inr (.inl (fun _ => 0)))) ∧ f (a 16) = none ∧ ∀ z y, z ≠ x → f z = some y → g z = some y) (NX) := by
  refine hv_Met.of (own := "BoxPackerModel") (by decide) rfl (Nat.le_of_ble_eq_true rfl) ?_
  intro p e s m below meth c hE hml hout hr hlocks hname hK hI ls hl
  have hl : lv_has ls 1 [(0, .ref x)] := hl
  obtain ⟨hx, hb, hown, hts, hVK⟩ := id hE
  refine lv_aload_n hx hb d_Mo_init_0 rfl (lv_at hl 0 rfl) ?_
  refine W.objInit hx hb hown (hts _ w514) (hts _ w22) (hts _ w23) rfl (by rw [hml]; exact hl.1) rfl d_Mo_init_1 (by decide) (Nat.le_of_ble_eq_true rfl) ?_
  refine W.eq (g2 := F0 m 4 ls []) rfl ?_
  refine lv_aload_n hx hb d_Mo_init_4 rfl (lv_at hl 0 rfl) ?_
  refine lv_sipush (v := 10200) hx hb d_Mo_init_5 (by decide) ?_
  refine hv_newI hE hI 0 rfl w374 (n := 10200) (by decide) (by decide) (by decide) (by decide) (by decide) d_Mo_init_8 (fun q1 H hnq1 hI => ?_)
  obtain ⟨g2, eg2⟩ : ∃ z : hv_M, z = hv_up f q1 (.inl (cA 0, 10200, .inl (fun _ => 0))) := ⟨_, rfl⟩
  have hI : hv_I D CL b0 g2 s.heap H [] := by rw [eg2]; exact hI
  have h3 : g2 x = some (.inr (5, [.int 0, .null, .null, .int 0, .int 0, .int 0, .null, .null, .null, .null, .null, .null, .null, .null, .null, .null, .null, .null, .int 0, .long 0, .long 0, .long 0, .long 0, .null, .null, .null, .int 0])) := by rw [eg2]; rw [hv_up_ne _ _ (hv_nn hx0 hnq1)]; exact hx0
  have h4 : g2 q1 = some (.inl (cA 0, 10200, .inl (fun _ => 0))) := by rw [eg2]; exact hv_up_self _ _ _
  have ndq1 : (q1 :: [x]).Nodup := List.nodup_cons.mpr ⟨fun h9 => by
      simp only [List.mem_cons, List.not_mem_nil, or_false] at h9
      exact absurd h9.symm (hv_nn hx0 hnq1)
    , List.nodup_cons.mpr ⟨List.not_mem_nil, List.nodup_nil⟩⟩
  have kpq1 : ∀ z y, z ≠ x → f z = some y → g2 z = some y := fun z y z1 hz => by
    have k9 := (fun z y (_ : z ≠ x) (h : f z = some y) => h) z y z1 hz
    have k9 : g2 z = some y := by rw [eg2, hv_up_ne _ _ (hv_nn k9 hnq1)]; exact k9
    exact k9
  refine hv_putF hE k_Mo hI hname 1 (by decide) w517 h3 rfl rfl rfl rfl (Nat.le_of_ble_eq_true rfl) d_Mo_init_10 (fun H locs hI => ?_)
  obtain ⟨g5, eg5⟩ : ∃ z : hv_M, z = hv_up g2 x (.inr (5, [.int 0, .ref q1, .null, .int 0, .int 0, .int 0, .null, .null, .null, .null, .null, .null, .null, .null, .null, .null, .null, .null, .int 0, .long 0, .long 0, .long 0, .long 0, .null, .null, .null, .int 0])) := ⟨_, rfl⟩
  have hI : hv_I D CL b0 g5 s.heap H locs := by rw [eg5]; exact hI
  have h6 : g5 x = some (.inr (5, [.int 0, .ref q1, .null, .int 0, .int 0, .int 0, .null, .null, .null, .null, .null, .null, .null, .null, .null, .null, .null, .null, .int 0, .long 0, .long 0, .long 0, .long 0, .null, .null, .null, .int 0])) := by rw [eg5]; exact hv_up_self _ _ _
  have h7 : g5 q1 = some (.inl (cA 0, 10200, .inl (fun _ => 0))) := by rw [eg5]; rw [hv_up_ne _ _ (hv_ne h4 h3 (by simp))]; exact h4
  refine lv_aload_n hx hb d_Mo_init_13 rfl (lv_at hl 0 rfl) ?_
  refine lv_ldc (v := 51000) hx hb hown (hts _ w515) d_Mo_init_14 ?_
  refine hv_newI hE hI 0 rfl w374 (n := 51000) (by decide) (by decide) (by decide) (by decide) (by decide) d_Mo_init_16 (fun q8 H hnq8 hI => ?_)
  obtain ⟨g9, eg9⟩ : ∃ z : hv_M, z = hv_up g5 q8 (.inl (cA 0, 51000, .inl (fun _ => 0))) := ⟨_, rfl⟩
  have hI : hv_I D CL b0 g9 s.heap H locs := by rw [eg9]; exact hI
  have h10 : g9 x = some (.inr (5, [.int 0, .ref q1, .null, .int 0, .int 0, .int 0, .null, .null, .null, .null, .null, .null, .null, .null, .null, .null, .null, .null, .int 0, .long 0, .long 0, .long 0, .long 0, .null, .null, .null, .int 0])) := by rw [eg9]; rw [hv_up_ne _ _ (hv_nn h6 hnq8)]; exact h6
  have h11 : g9 q1 = some (.inl (cA 0, 10200, .inl (fun _ => 0))) := by rw [eg9]; rw [hv_up_ne _ _ (hv_nn h7 hnq8)]; exact h7
  have h12 : g9 q8 = some (.inl (cA 0, 51000, .inl (fun _ => 0))) := by rw [eg9]; exact hv_up_self _ _ _
  have ndq8 : (q8 :: [q1, x]).Nodup := List.nodup_cons.mpr ⟨fun h9 => by
      simp only [List.mem_cons, List.not_mem_nil, or_false] at h9
      rcases h9 with e9 | e9
      · exact absurd e9.symm (hv_nn h7 hnq8)
      · exact absurd e9.symm (hv_nn h6 hnq8)
    , ndq1⟩
  have kpq8 : ∀ z y, z ≠ x → f z = some y → g9 z = some y := fun z y z1 hz => by
    have k9 := kpq1 z y z1 hz
    have k9 : g5 z = some y := by rw [eg5, hv_up_ne _ _ z1]; exact k9
    have k9 : g9 z = some y := by rw [eg9, hv_up_ne _ _ (hv_nn k9 hnq8)]; exact k9
    exact k9
  refine hv_putF hE k_Mo hI hname 2 (by decide) w518 h10 rfl rfl rfl rfl (Nat.le_of_ble_eq_true rfl) d_Mo_init_18 (fun H locs hI => ?_)
  obtain ⟨g13, eg13⟩ : ∃ z : hv_M, z = hv_up g9 x (.inr (5, [.int 0, .ref q1, .ref q8, .int 0, .int 0, .int 0, .null, .null, .null, .null, .null, .null, .null, .null, .null, .null, .null, .null, .int 0, .long 0, .long 0, .long 0, .long 0, .null, .null, .null, .int 0])) := ⟨_, rfl⟩
  have hI : hv_I D CL b0 g13 s.heap H locs := by rw [eg13]; exact hI
  have h14 : g13 x = some (.inr (5, [.int 0, .ref q1, .ref q8, .int 0, .int 0, .int 0, .null, .null, .null, .null, .null, .null, .null, .null, .null, .null, .null, .null, .int 0, .long 0, .long 0, .long 0, .long 0, .null, .null, .null, .int 0])) := by rw [eg13]; exact hv_up_self _ _ _
  have h15 : g13 q1 = some (.inl (cA 0, 10200, .inl (fun _ => 0))) := by rw [eg13]; rw [hv_up_ne _ _ (hv_ne h11 h10 (by simp))]; exact h11
  have h16 : g13 q8 = some (.inl (cA 0, 51000, .inl (fun _ => 0))) := by rw [eg13]; rw [hv_up_ne _ _ (hv_ne h12 h10 (by simp))]; exact h12
  refine lv_aload_n hx hb d_Mo_init_21 rfl (lv_at hl 0 rfl) ?_
  refine lv_bipush (v := 101) hx hb d_Mo_init_22 (by decide) ?_
  refine hv_newI hE hI 0 rfl w374 (n := 101) (by decide) (by decide) (by decide) (by decide) (by decide) d_Mo_init_24 (fun q17 H hnq17 hI => ?_)
  obtain ⟨g18, eg18⟩ : ∃ z : hv_M, z = hv_up g13 q17 (.inl (cA 0, 101, .inl (fun _ => 0))) := ⟨_, rfl⟩
  have hI : hv_I D CL b0 g18 s.heap H locs := by rw [eg18]; exact hI
  have h19 : g18 x = some (.inr (5, [.int 0, .ref q1, .ref q8, .int 0, .int 0, .int 0, .null, .null, .null, .null, .null, .null, .null, .null, .null, .null, .null, .null, .int 0, .long 0, .long 0, .long 0, .long 0, .null, .null, .null, .int 0])) := by rw [eg18]; rw [hv_up_ne _ _ (hv_nn h14 hnq17)]; exact h14
  have h20 : g18 q1 = some (.inl (cA 0, 10200, .inl (fun _ => 0))) := by rw [eg18]; rw [hv_up_ne _ _ (hv_nn h15 hnq17)]; exact h15
  have h21 : g18 q8 = some (.inl (cA 0, 51000, .inl (fun _ => 0))) := by rw [eg18]; rw [hv_up_ne _ _ (hv_nn h16 hnq17)]; exact h16
  have h22 : g18 q17 = some (.inl (cA 0, 101, .inl (fun _ => 0))) := by rw [eg18]; exact hv_up_self _ _ _
  have ndq17 : (q17 :: [q8, q1, x]).Nodup := List.nodup_cons.mpr ⟨fun h9 => by
      simp only [List.mem_cons, List.not_mem_nil, or_false] at h9
      rcases h9 with e9 | e9 | e9
      · exact absurd e9.symm (hv_nn h16 hnq17)
      · exact absurd e9.symm (hv_nn h15 hnq17)
      · exact absurd e9.symm (hv_nn h14 hnq17)
    , ndq8⟩
  have kpq17 : ∀ z y, z ≠ x → f z = some y → g18 z = some y := fun z y z1 hz => by
    have k9 := kpq8 z y z1 hz
    have k9 : g13 z = some y := by rw [eg13, hv_up_ne _ _ z1]; exact k9
    have k9 : g18 z = some y := by rw [eg18, hv_up_ne _ _ (hv_nn k9 hnq17)]; exact k9
    exact k9
  refine hv_putF hE k_Mo hI hname 6 (by decide) w522 h19 rfl rfl rfl rfl (Nat.le_of_ble_eq_true rfl) d_Mo_init_26 (fun H locs hI => ?_)
  obtain ⟨g23, eg23⟩ : ∃ z : hv_M, z = hv_up g18 x (.inr (5, [.int 0, .ref q1, .ref q8, .int 0, .int 0, .int 0, .ref q17, .null, .null, .null, .null, .null, .null, .null, .null, .null, .null, .null, .int 0, .long 0, .long 0, .long 0, .long 0, .null, .null, .null, .int 0])) := ⟨_, rfl⟩
  have hI : hv_I D CL b0 g23 s.heap H locs := by rw [eg23]; exact hI
  have h24 : g23 x = some (.inr (5, [.int 0, .ref q1, .ref q8, .int 0, .int 0, .int 0, .ref q17, .null, .null, .null, .null, .null, .null, .null, .null, .null, .null, .null, .int 0, .long 0, .long 0, .long 0, .long 0, .null, .null, .null, .int 0])) := by rw [eg23]; exact hv_up_self _ _ _
  have h25 : g23 q1 = some (.inl (cA 0, 10200, .inl (fun _ => 0))) := by rw [eg23]; rw [hv_up_ne _ _ (hv_ne h20 h19 (by simp))]; exact h20
  have h26 : g23 q8 = some (.inl (cA 0, 51000, .inl (fun _ => 0))) := by rw [eg23]; rw [hv_up_ne _ _ (hv_ne h21 h19 (by simp))]; exact h21
  have h27 : g23 q17 = some (.inl (cA 0, 101, .inl (fun _ => 0))) := by rw [eg23]; rw [hv_up_ne _ _ (hv_ne h22 h19 (by simp))]; exact h22
  refine lv_aload_n hx hb d_Mo_init_29 rfl (lv_at hl 0 rfl) ?_
  refine lv_bipush (v := 100) hx hb d_Mo_init_30 (by decide) ?_
  refine hv_newZ hE hI 2 rfl w598 (n := 100) (by decide) (by decide) (by decide) (by decide) (by decide) d_Mo_init_32 (fun q28 H hnq28 hI => ?_)
  obtain ⟨g29, eg29⟩ : ∃ z : hv_M, z = hv_up g23 q28 (.inl (cA 2, 100, .inl (fun _ => 0))) := ⟨_, rfl⟩
  have hI : hv_I D CL b0 g29 s.heap H locs := by rw [eg29]; exact hI
  have h30 : g29 x = some (.inr (5, [.int 0, .ref q1, .ref q8, .int 0, .int 0, .int 0, .ref q17, .null, .null, .null, .null, .null, .null, .null, .null, .null, .null, .null, .int 0, .long 0, .long 0, .long 0, .long 0, .null, .null, .null, .int 0])) := by rw [eg29]; rw [hv_up_ne _ _ (hv_nn h24 hnq28)]; exact h24
  have h31 : g29 q1 = some (.inl (cA 0, 10200, .inl (fun _ => 0))) := by rw [eg29]; rw [hv_up_ne _ _ (hv_nn h25 hnq28)]; exact h25
  have h32 : g29 q8 = some (.inl (cA 0, 51000, .inl (fun _ => 0))) := by rw [eg29]; rw [hv_up_ne _ _ (hv_nn h26 hnq28)]; exact h26
  have h33 : g29 q17 = some (.inl (cA 0, 101, .inl (fun _ => 0))) := by rw [eg29]; rw [hv_up_ne _ _ (hv_nn h27 hnq28)]; exact h27
  have h34 : g29 q28 = some (.inl (cA 2, 100, .inl (fun _ => 0))) := by rw [eg29]; exact hv_up_self _ _ _
  have ndq28 : (q28 :: [q17, q8, q1, x]).Nodup := List.nodup_cons.mpr ⟨fun h9 => by
      simp only [List.mem_cons, List.not_mem_nil, or_false] at h9
      rcases h9 with e9 | e9 | e9 | e9
      · exact absurd e9.symm (hv_nn h27 hnq28)
      · exact absurd e9.symm (hv_nn h26 hnq28)
      · exact absurd e9.symm (hv_nn h25 hnq28)
      · exact absurd e9.symm (hv_nn h24 hnq28)
    , ndq17⟩
  have kpq28 : ∀ z y, z ≠ x → f z = some y → g29 z = some y := fun z y z1 hz => by
    have k9 := kpq17 z y z1 hz
    have k9 : g23 z = some y := by rw [eg23, hv_up_ne _ _ z1]; exact k9
    have k9 : g29 z = some y := by rw [eg29, hv_up_ne _ _ (hv_nn k9 hnq28)]; exact k9
    exact k9
  refine hv_putF hE k_Mo hI hname 7 (by decide) w523 h30 rfl rfl rfl rfl (Nat.le_of_ble_eq_true rfl) d_Mo_init_34 (fun H locs hI => ?_)
  obtain ⟨g35, eg35⟩ : ∃ z : hv_M, z = hv_up g29 x (.inr (5, [.int 0, .ref q1, .ref q8, .int 0, .int 0, .int 0, .ref q17, .ref q28, .null, .null, .null, .null, .null, .null, .null, .null, .null, .null, .int 0, .long 0, .long 0, .long 0, .long 0, .null, .null, .null, .int 0])) := ⟨_, rfl⟩
  have hI : hv_I D CL b0 g35 s.heap H locs := by rw [eg35]; exact hI
  have h36 : g35 x = some (.inr (5, [.int 0, .ref q1, .ref q8, .int 0, .int 0, .int 0, .ref q17, .ref q28, .null, .null, .null, .null, .null, .null, .null, .null, .null, .null, .int 0, .long 0, .long 0, .long 0, .long 0, .null, .null, .null, .int 0])) := by rw [eg35]; exact hv_up_self _ _ _
  have h37 : g35 q1 = some (.inl (cA 0, 10200, .inl (fun _ => 0))) := by rw [eg35]; rw [hv_up_ne _ _ (hv_ne h31 h30 (by simp))]; exact h31
  have h38 : g35 q8 = some (.inl (cA 0, 51000, .inl (fun _ => 0))) := by rw [eg35]; rw [hv_up_ne _ _ (hv_ne h32 h30 (by simp))]; exact h32
  have h39 : g35 q17 = some (.inl (cA 0, 101, .inl (fun _ => 0))) := by rw [eg35]; rw [hv_up_ne _ _ (hv_ne h33 h30 (by simp))]; exact h33
  have h40 : g35 q28 = some (.inl (cA 2, 100, .inl (fun _ => 0))) := by rw [eg35]; rw [hv_up_ne _ _ (hv_ne h34 h30 (by simp))]; exact h34
  refine lv_aload_n hx hb d_Mo_init_37 rfl (lv_at hl 0 rfl) ?_
  refine lv_bipush (v := 100) hx hb d_Mo_init_38 (by decide) ?_
  refine hv_newI hE hI 0 rfl w374 (n := 100) (by decide) (by decide) (by decide) (by decide) (by decide) d_Mo_init_40 (fun q41 H hnq41 hI => ?_)
  obtain ⟨g42, eg42⟩ : ∃ z : hv_M, z = hv_up g35 q41 (.inl (cA 0, 100, .inl (fun _ => 0))) := ⟨_, rfl⟩
  have hI : hv_I D CL b0 g42 s.heap H locs := by rw [eg42]; exact hI
  have h43 : g42 x = some (.inr (5, [.int 0, .ref q1, .ref q8, .int 0, .int 0, .int 0, .ref q17, .ref q28, .null, .null, .null, .null, .null, .null, .null, .null, .null, .null, .int 0, .long 0, .long 0, .long 0, .long 0, .null, .null, .null, .int 0])) := by rw [eg42]; rw [hv_up_ne _ _ (hv_nn h36 hnq41)]; exact h36
  have h44 : g42 q1 = some (.inl (cA 0, 10200, .inl (fun _ => 0))) := by rw [eg42]; rw [hv_up_ne _ _ (hv_nn h37 hnq41)]; exact h37
  have h45 : g42 q8 = some (.inl (cA 0, 51000, .inl (fun _ => 0))) := by rw [eg42]; rw [hv_up_ne _ _ (hv_nn h38 hnq41)]; exact h38
  have h46 : g42 q17 = some (.inl (cA 0, 101, .inl (fun _ => 0))) := by rw [eg42]; rw [hv_up_ne _ _ (hv_nn h39 hnq41)]; exact h39
  have h47 : g42 q28 = some (.inl (cA 2, 100, .inl (fun _ => 0))) := by rw [eg42]; rw [hv_up_ne _ _ (hv_nn h40 hnq41)]; exact h40
  have h48 : g42 q41 = some (.inl (cA 0, 100, .inl (fun _ => 0))) := by rw [eg42]; exact hv_up_self _ _ _
  have ndq41 : (q41 :: [q28, q17, q8, q1, x]).Nodup := List.nodup_cons.mpr ⟨fun h9 => by
      simp only [List.mem_cons, List.not_mem_nil, or_false] at h9
      rcases h9 with e9 | e9 | e9 | e9 | e9
      · exact absurd e9.symm (hv_nn h40 hnq41)
      · exact absurd e9.symm (hv_nn h39 hnq41)
      · exact absurd e9.symm (hv_nn h38 hnq41)
      · exact absurd e9.symm (hv_nn h37 hnq41)
      · exact absurd e9.symm (hv_nn h36 hnq41)
    , ndq28⟩
  have kpq41 : ∀ z y, z ≠ x → f z = some y → g42 z = some y := fun z y z1 hz => by
    have k9 := kpq28 z y z1 hz
    have k9 : g35 z = some y := by rw [eg35, hv_up_ne _ _ z1]; exact k9
    have k9 : g42 z = some y := by rw [eg42, hv_up_ne _ _ (hv_nn k9 hnq41)]; exact k9
    exact k9
  refine hv_putF hE k_Mo hI hname 8 (by decide) w524 h43 rfl rfl rfl rfl (Nat.le_of_ble_eq_true rfl) d_Mo_init_42 (fun H locs hI => ?_)
  obtain ⟨g49, eg49⟩ : ∃ z : hv_M, z = hv_up g42 x (.inr (5, [.int 0, .ref q1, .ref q8, .int 0, .int 0, .int 0, .ref q17, .ref q28, .ref q41, .null, .null, .null, .null, .null, .null, .null, .null, .null, .int 0, .long 0, .long 0, .long 0, .long 0, .null, .null, .null, .int 0])) := ⟨_, rfl⟩
  have hI : hv_I D CL b0 g49 s.heap H locs := by rw [eg49]; exact hI
  have h50 : g49 x = some (.inr (5, [.int 0, .ref q1, .ref q8, .int 0, .int 0, .int 0, .ref q17, .ref q28, .ref q41, .null, .null, .null, .null, .null, .null, .null, .null, .null, .int 0, .long 0, .long 0, .long 0, .long 0, .null, .null, .null, .int 0])) := by rw [eg49]; exact hv_up_self _ _ _
  have h51 : g49 q1 = some (.inl (cA 0, 10200, .inl (fun _ => 0))) := by rw [eg49]; rw [hv_up_ne _ _ (hv_ne h44 h43 (by simp))]; exact h44
  have h52 : g49 q8 = some (.inl (cA 0, 51000, .inl (fun _ => 0))) := by rw [eg49]; rw [hv_up_ne _ _ (hv_ne h45 h43 (by simp))]; exact h45
  have h53 : g49 q17 = some (.inl (cA 0, 101, .inl (fun _ => 0))) := by rw [eg49]; rw [hv_up_ne _ _ (hv_ne h46 h43 (by simp))]; exact h46
  have h54 : g49 q28 = some (.inl (cA 2, 100, .inl (fun _ => 0))) := by rw [eg49]; rw [hv_up_ne _ _ (hv_ne h47 h43 (by simp))]; exact h47
  have h55 : g49 q41 = some (.inl (cA 0, 100, .inl (fun _ => 0))) := by rw [eg49]; rw [hv_up_ne _ _ (hv_ne h48 h43 (by simp))]; exact h48
  refine lv_aload_n hx hb d_Mo_init_45 rfl (lv_at hl 0 rfl) ?_
  refine lv_bipush (v := 100) hx hb d_Mo_init_46 (by decide) ?_
  refine hv_newI hE hI 0 rfl w374 (n := 100) (by decide) (by decide) (by decide) (by decide) (by decide) d_Mo_init_48 (fun q56 H hnq56 hI => ?_)
  obtain ⟨g57, eg57⟩ : ∃ z : hv_M, z = hv_up g49 q56 (.inl (cA 0, 100, .inl (fun _ => 0))) := ⟨_, rfl⟩
  have hI : hv_I D CL b0 g57 s.heap H locs := by rw [eg57]; exact hI
  have h58 : g57 x = some (.inr (5, [.int 0, .ref q1, .ref q8, .int 0, .int 0, .int 0, .ref q17, .ref q28, .ref q41, .null, .null, .null, .null, .null, .null, .null, .null, .null, .int 0, .long 0, .long 0, .long 0, .long 0, .null, .null, .null, .int 0])) := by rw [eg57]; rw [hv_up_ne _ _ (hv_nn h50 hnq56)]; exact h50
  have h59 : g57 q1 = some (.inl (cA 0, 10200, .inl (fun _ => 0))) := by rw [eg57]; rw [hv_up_ne _ _ (hv_nn h51 hnq56)]; exact h51
  have h60 : g57 q8 = some (.inl (cA 0, 51000, .inl (fun _ => 0))) := by rw [eg57]; rw [hv_up_ne _ _ (hv_nn h52 hnq56)]; exact h52
  have h61 : g57 q17 = some (.inl (cA 0, 101, .inl (fun _ => 0))) := by rw [eg57]; rw [hv_up_ne _ _ (hv_nn h53 hnq56)]; exact h53
  have h62 : g57 q28 = some (.inl (cA 2, 100, .inl (fun _ => 0))) := by rw [eg57]; rw [hv_up_ne _ _ (hv_nn h54 hnq56)]; exact h54
  have h63 : g57 q41 = some (.inl (cA 0, 100, .inl (fun _ => 0))) := by rw [eg57]; rw [hv_up_ne _ _ (hv_nn h55 hnq56)]; exact h55
  have h64 : g57 q56 = some (.inl (cA 0, 100, .inl (fun _ => 0))) := by rw [eg57]; exact hv_up_self _ _ _
  have ndq56 : (q56 :: [q41, q28, q17, q8, q1, x]).Nodup := List.nodup_cons.mpr ⟨fun h9 => by
      simp only [List.mem_cons, List.not_mem_nil, or_false] at h9
      rcases h9 with e9 | e9 | e9 | e9 | e9 | e9
      · exact absurd e9.symm (hv_nn h55 hnq56)
      · exact absurd e9.symm (hv_nn h54 hnq56)
      · exact absurd e9.symm (hv_nn h53 hnq56)
      · exact absurd e9.symm (hv_nn h52 hnq56)
      · exact absurd e9.symm (hv_nn h51 hnq56)
      · exact absurd e9.symm (hv_nn h50 hnq56)
    , ndq41⟩
  have kpq56 : ∀ z y, z ≠ x → f z = some y → g57 z = some y := fun z y z1 hz => by
    have k9 := kpq41 z y z1 hz
    have k9 : g49 z = some y := by rw [eg49, hv_up_ne _ _ z1]; exact k9
    have k9 : g57 z = some y := by rw [eg57, hv_up_ne _ _ (hv_nn k9 hnq56)]; exact k9
    exact k9
  refine hv_putF hE k_Mo hI hname 9 (by decide) w525 h58 rfl rfl rfl rfl (Nat.le_of_ble_eq_true rfl) d_Mo_init_50 (fun H locs hI => ?_)
  obtain ⟨g65, eg65⟩ : ∃ z : hv_M, z = hv_up g57 x (.inr (5, [.int 0, .ref q1, .ref q8, .int 0, .int 0, .int 0, .ref q17, .ref q28, .ref q41, .ref q56, .null, .null, .null, .null, .null, .null, .null, .null, .int 0, .long 0, .long 0, .long 0, .long 0, .null, .null, .null, .int 0])) := ⟨_, rfl⟩
  have hI : hv_I D CL b0 g65 s.heap H locs := by rw [eg65]; exact hI
  have h66 : g65 x = some (.inr (5, [.int 0, .ref q1, .ref q8, .int 0, .int 0, .int 0, .ref q17, .ref q28, .ref q41, .ref q56, .null, .null, .null, .null, .null, .null, .null, .null, .int 0, .long 0, .long 0, .long 0, .long 0, .null, .null, .null, .int 0])) := by rw [eg65]; exact hv_up_self _ _ _
  have h67 : g65 q1 = some (.inl (cA 0, 10200, .inl (fun _ => 0))) := by rw [eg65]; rw [hv_up_ne _ _ (hv_ne h59 h58 (by simp))]; exact h59
  have h68 : g65 q8 = some (.inl (cA 0, 51000, .inl (fun _ => 0))) := by rw [eg65]; rw [hv_up_ne _ _ (hv_ne h60 h58 (by simp))]; exact h60
  have h69 : g65 q17 = some (.inl (cA 0, 101, .inl (fun _ => 0))) := by rw [eg65]; rw [hv_up_ne _ _ (hv_ne h61 h58 (by simp))]; exact h61
  have h70 : g65 q28 = some (.inl (cA 2, 100, .inl (fun _ => 0))) := by rw [eg65]; rw [hv_up_ne _ _ (hv_ne h62 h58 (by simp))]; exact h62
  have h71 : g65 q41 = some (.inl (cA 0, 100, .inl (fun _ => 0))) := by rw [eg65]; rw [hv_up_ne _ _ (hv_ne h63 h58 (by simp))]; exact h63
  have h72 : g65 q56 = some (.inl (cA 0, 100, .inl (fun _ => 0))) := by rw [eg65]; rw [hv_up_ne _ _ (hv_ne h64 h58 (by simp))]; exact h64
  refine lv_aload_n hx hb d_Mo_init_53 rfl (lv_at hl 0 rfl) ?_
  refine lv_bipush (v := 100) hx hb d_Mo_init_54 (by decide) ?_
  refine hv_newI hE hI 0 rfl w374 (n := 100) (by decide) (by decide) (by decide) (by decide) (by decide) d_Mo_init_56 (fun q73 H hnq73 hI => ?_)
  obtain ⟨g74, eg74⟩ : ∃ z : hv_M, z = hv_up g65 q73 (.inl (cA 0, 100, .inl (fun _ => 0))) := ⟨_, rfl⟩
  have hI : hv_I D CL b0 g74 s.heap H locs := by rw [eg74]; exact hI
  have h75 : g74 x = some (.inr (5, [.int 0, .ref q1, .ref q8, .int 0, .int 0, .int 0, .ref q17, .ref q28, .ref q41, .ref q56, .null, .null, .null, .null, .null, .null, .null, .null, .int 0, .long 0, .long 0, .long 0, .long 0, .null, .null, .null, .int 0])) := by rw [eg74]; rw [hv_up_ne _ _ (hv_nn h66 hnq73)]; exact h66
  have h76 : g74 q1 = some (.inl (cA 0, 10200, .inl (fun _ => 0))) := by rw [eg74]; rw [hv_up_ne _ _ (hv_nn h67 hnq73)]; exact h67
  have h77 : g74 q8 = some (.inl (cA 0, 51000, .inl (fun _ => 0))) := by rw [eg74]; rw [hv_up_ne _ _ (hv_nn h68 hnq73)]; exact h68
  have h78 : g74 q17 = some (.inl (cA 0, 101, .inl (fun _ => 0))) := by rw [eg74]; rw [hv_up_ne _ _ (hv_nn h69 hnq73)]; exact h69
  have h79 : g74 q28 = some (.inl (cA 2, 100, .inl (fun _ => 0))) := by rw [eg74]; rw [hv_up_ne _ _ (hv_nn h70 hnq73)]; exact h70
  have h80 : g74 q41 = some (.inl (cA 0, 100, .inl (fun _ => 0))) := by rw [eg74]; rw [hv_up_ne _ _ (hv_nn h71 hnq73)]; exact h71
  have h81 : g74 q56 = some (.inl (cA 0, 100, .inl (fun _ => 0))) := by rw [eg74]; rw [hv_up_ne _ _ (hv_nn h72 hnq73)]; exact h72
  have h82 : g74 q73 = some (.inl (cA 0, 100, .inl (fun _ => 0))) := by rw [eg74]; exact hv_up_self _ _ _
  have ndq73 : (q73 :: [q56, q41, q28, q17, q8, q1, x]).Nodup := List.nodup_cons.mpr ⟨fun h9 => by
      simp only [List.mem_cons, List.not_mem_nil, or_false] at h9
      rcases h9 with e9 | e9 | e9 | e9 | e9 | e9 | e9
      · exact absurd e9.symm (hv_nn h72 hnq73)
      · exact absurd e9.symm (hv_nn h71 hnq73)
      · exact absurd e9.symm (hv_nn h70 hnq73)
      · exact absurd e9.symm (hv_nn h69 hnq73)
      · exact absurd e9.symm (hv_nn h68 hnq73)
      · exact absurd e9.symm (hv_nn h67 hnq73)
      · exact absurd e9.symm (hv_nn h66 hnq73)
    , ndq56⟩
  have kpq73 : ∀ z y, z ≠ x → f z = some y → g74 z = some y := fun z y z1 hz => by
    have k9 := kpq56 z y z1 hz
    have k9 : g65 z = some y := by rw [eg65, hv_up_ne _ _ z1]; exact k9
    have k9 : g74 z = some y := by rw [eg74, hv_up_ne _ _ (hv_nn k9 hnq73)]; exact k9
    exact k9
  refine hv_putF hE k_Mo hI hname 10 (by decide) w526 h75 rfl rfl rfl rfl (Nat.le_of_ble_eq_true rfl) d_Mo_init_58 (fun H locs hI => ?_)
  obtain ⟨g83, eg83⟩ : ∃ z : hv_M, z = hv_up g74 x (.inr (5, [.int 0, .ref q1, .ref q8, .int 0, .int 0, .int 0, .ref q17, .ref q28, .ref q41, .ref q56, .ref q73, .null, .null, .null, .null, .null, .null, .null, .int 0, .long 0, .long 0, .long 0, .long 0, .null, .null, .null, .int 0])) := ⟨_, rfl⟩
  have hI : hv_I D CL b0 g83 s.heap H locs := by rw [eg83]; exact hI
  have h84 : g83 x = some (.inr (5, [.int 0, .ref q1, .ref q8, .int 0, .int 0, .int 0, .ref q17, .ref q28, .ref q41, .ref q56, .ref q73, .null, .null, .null, .null, .null, .null, .null, .int 0, .long 0, .long 0, .long 0, .long 0, .null, .null, .null, .int 0])) := by rw [eg83]; exact hv_up_self _ _ _
  have h85 : g83 q1 = some (.inl (cA 0, 10200, .inl (fun _ => 0))) := by rw [eg83]; rw [hv_up_ne _ _ (hv_ne h76 h75 (by simp))]; exact h76
  have h86 : g83 q8 = some (.inl (cA 0, 51000, .inl (fun _ => 0))) := by rw [eg83]; rw [hv_up_ne _ _ (hv_ne h77 h75 (by simp))]; exact h77
  have h87 : g83 q17 = some (.inl (cA 0, 101, .inl (fun _ => 0))) := by rw [eg83]; rw [hv_up_ne _ _ (hv_ne h78 h75 (by simp))]; exact h78
  have h88 : g83 q28 = some (.inl (cA 2, 100, .inl (fun _ => 0))) := by rw [eg83]; rw [hv_up_ne _ _ (hv_ne h79 h75 (by simp))]; exact h79
  have h89 : g83 q41 = some (.inl (cA 0, 100, .inl (fun _ => 0))) := by rw [eg83]; rw [hv_up_ne _ _ (hv_ne h80 h75 (by simp))]; exact h80
  have h90 : g83 q56 = some (.inl (cA 0, 100, .inl (fun _ => 0))) := by rw [eg83]; rw [hv_up_ne _ _ (hv_ne h81 h75 (by simp))]; exact h81
  have h91 : g83 q73 = some (.inl (cA 0, 100, .inl (fun _ => 0))) := by rw [eg83]; rw [hv_up_ne _ _ (hv_ne h82 h75 (by simp))]; exact h82
  refine lv_aload_n hx hb d_Mo_init_61 rfl (lv_at hl 0 rfl) ?_
  refine lv_bipush (v := 100) hx hb d_Mo_init_62 (by decide) ?_
  refine hv_newI hE hI 0 rfl w374 (n := 100) (by decide) (by decide) (by decide) (by decide) (by decide) d_Mo_init_64 (fun q92 H hnq92 hI => ?_)
  obtain ⟨g93, eg93⟩ : ∃ z : hv_M, z = hv_up g83 q92 (.inl (cA 0, 100, .inl (fun _ => 0))) := ⟨_, rfl⟩
  have hI : hv_I D CL b0 g93 s.heap H locs := by rw [eg93]; exact hI
  have h94 : g93 x = some (.inr (5, [.int 0, .ref q1, .ref q8, .int 0, .int 0, .int 0, .ref q17, .ref q28, .ref q41, .ref q56, .ref q73, .null, .null, .null, .null, .null, .null, .null, .int 0, .long 0, .long 0, .long 0, .long 0, .null, .null, .null, .int 0])) := by rw [eg93]; rw [hv_up_ne _ _ (hv_nn h84 hnq92)]; exact h84
  have h95 : g93 q1 = some (.inl (cA 0, 10200, .inl (fun _ => 0))) := by rw [eg93]; rw [hv_up_ne _ _ (hv_nn h85 hnq92)]; exact h85
  have h96 : g93 q8 = some (.inl (cA 0, 51000, .inl (fun _ => 0))) := by rw [eg93]; rw [hv_up_ne _ _ (hv_nn h86 hnq92)]; exact h86
  have h97 : g93 q17 = some (.inl (cA 0, 101, .inl (fun _ => 0))) := by rw [eg93]; rw [hv_up_ne _ _ (hv_nn h87 hnq92)]; exact h87
  have h98 : g93 q28 = some (.inl (cA 2, 100, .inl (fun _ => 0))) := by rw [eg93]; rw [hv_up_ne _ _ (hv_nn h88 hnq92)]; exact h88
  have h99 : g93 q41 = some (.inl (cA 0, 100, .inl (fun _ => 0))) := by rw [eg93]; rw [hv_up_ne _ _ (hv_nn h89 hnq92)]; exact h89
  have h100 : g93 q56 = some (.inl (cA 0, 100, .inl (fun _ => 0))) := by rw [eg93]; rw [hv_up_ne _ _ (hv_nn h90 hnq92)]; exact h90
  have h101 : g93 q73 = some (.inl (cA 0, 100, .inl (fun _ => 0))) := by rw [eg93]; rw [hv_up_ne _ _ (hv_nn h91 hnq92)]; exact h91
  have h102 : g93 q92 = some (.inl (cA 0, 100, .inl (fun _ => 0))) := by rw [eg93]; exact hv_up_self _ _ _
  have ndq92 : (q92 :: [q73, q56, q41, q28, q17, q8, q1, x]).Nodup := List.nodup_cons.mpr ⟨fun h9 => by
      simp only [List.mem_cons, List.not_mem_nil, or_false] at h9
      rcases h9 with e9 | e9 | e9 | e9 | e9 | e9 | e9 | e9
      · exact absurd e9.symm (hv_nn h91 hnq92)
      · exact absurd e9.symm (hv_nn h90 hnq92)
      · exact absurd e9.symm (hv_nn h89 hnq92)
      · exact absurd e9.symm (hv_nn h88 hnq92)
      · exact absurd e9.symm (hv_nn h87 hnq92)
      · exact absurd e9.symm (hv_nn h86 hnq92)
      · exact absurd e9.symm (hv_nn h85 hnq92)
      · exact absurd e9.symm (hv_nn h84 hnq92)
    , ndq73⟩
  have kpq92 : ∀ z y, z ≠ x → f z = some y → g93 z = some y := fun z y z1 hz => by
    have k9 := kpq73 z y z1 hz
    have k9 : g83 z = some y := by rw [eg83, hv_up_ne _ _ z1]; exact k9
    have k9 : g93 z = some y := by rw [eg93, hv_up_ne _ _ (hv_nn k9 hnq92)]; exact k9
    exact k9
  refine hv_putF hE k_Mo hI hname 11 (by decide) w527 h94 rfl rfl rfl rfl (Nat.le_of_ble_eq_true rfl) d_Mo_init_66 (fun H locs hI => ?_)
  obtain ⟨g103, eg103⟩ : ∃ z : hv_M, z = hv_up g93 x (.inr (5, [.int 0, .ref q1, .ref q8, .int 0, .int 0, .int 0, .ref q17, .ref q28, .ref q41, .ref q56, .ref q73, .ref q92, .null, .null, .null, .null, .null, .null, .int 0, .long 0, .long 0, .long 0, .long 0, .null, .null, .null, .int 0])) := ⟨_, rfl⟩
  have hI : hv_I D CL b0 g103 s.heap H locs := by rw [eg103]; exact hI
  have h104 : g103 x = some (.inr (5, [.int 0, .ref q1, .ref q8, .int 0, .int 0, .int 0, .ref q17, .ref q28, .ref q41, .ref q56, .ref q73, .ref q92, .null, .null, .null, .null, .null, .null, .int 0, .long 0, .long 0, .long 0, .long 0, .null, .null, .null, .int 0])) := by rw [eg103]; exact hv_up_self _ _ _
  have h105 : g103 q1 = some (.inl (cA 0, 10200, .inl (fun _ => 0))) := by rw [eg103]; rw [hv_up_ne _ _ (hv_ne h95 h94 (by simp))]; exact h95
  have h106 : g103 q8 = some (.inl (cA 0, 51000, .inl (fun _ => 0))) := by rw [eg103]; rw [hv_up_ne _ _ (hv_ne h96 h94 (by simp))]; exact h96
  have h107 : g103 q17 = some (.inl (cA 0, 101, .inl (fun _ => 0))) := by rw [eg103]; rw [hv_up_ne _ _ (hv_ne h97 h94 (by simp))]; exact h97
  have h108 : g103 q28 = some (.inl (cA 2, 100, .inl (fun _ => 0))) := by rw [eg103]; rw [hv_up_ne _ _ (hv_ne h98 h94 (by simp))]; exact h98
  have h109 : g103 q41 = some (.inl (cA 0, 100, .inl (fun _ => 0))) := by rw [eg103]; rw [hv_up_ne _ _ (hv_ne h99 h94 (by simp))]; exact h99
  have h110 : g103 q56 = some (.inl (cA 0, 100, .inl (fun _ => 0))) := by rw [eg103]; rw [hv_up_ne _ _ (hv_ne h100 h94 (by simp))]; exact h100
  have h111 : g103 q73 = some (.inl (cA 0, 100, .inl (fun _ => 0))) := by rw [eg103]; rw [hv_up_ne _ _ (hv_ne h101 h94 (by simp))]; exact h101
  have h112 : g103 q92 = some (.inl (cA 0, 100, .inl (fun _ => 0))) := by rw [eg103]; rw [hv_up_ne _ _ (hv_ne h102 h94 (by simp))]; exact h102
  refine lv_aload_n hx hb d_Mo_init_69 rfl (lv_at hl 0 rfl) ?_
  refine lv_bipush (v := 100) hx hb d_Mo_init_70 (by decide) ?_
  refine hv_newI hE hI 0 rfl w374 (n := 100) (by decide) (by decide) (by decide) (by decide) (by decide) d_Mo_init_72 (fun q113 H hnq113 hI => ?_)
  obtain ⟨g114, eg114⟩ : ∃ z : hv_M, z = hv_up g103 q113 (.inl (cA 0, 100, .inl (fun _ => 0))) := ⟨_, rfl⟩
  have hI : hv_I D CL b0 g114 s.heap H locs := by rw [eg114]; exact hI
  have h115 : g114 x = some (.inr (5, [.int 0, .ref q1, .ref q8, .int 0, .int 0, .int 0, .ref q17, .ref q28, .ref q41, .ref q56, .ref q73, .ref q92, .null, .null, .null, .null, .null, .null, .int 0, .long 0, .long 0, .long 0, .long 0, .null, .null, .null, .int 0])) := by rw [eg114]; rw [hv_up_ne _ _ (hv_nn h104 hnq113)]; exact h104
  have h116 : g114 q1 = some (.inl (cA 0, 10200, .inl (fun _ => 0))) := by rw [eg114]; rw [hv_up_ne _ _ (hv_nn h105 hnq113)]; exact h105
  have h117 : g114 q8 = some (.inl (cA 0, 51000, .inl (fun _ => 0))) := by rw [eg114]; rw [hv_up_ne _ _ (hv_nn h106 hnq113)]; exact h106
  have h118 : g114 q17 = some (.inl (cA 0, 101, .inl (fun _ => 0))) := by rw [eg114]; rw [hv_up_ne _ _ (hv_nn h107 hnq113)]; exact h107
  have h119 : g114 q28 = some (.inl (cA 2, 100, .inl (fun _ => 0))) := by rw [eg114]; rw [hv_up_ne _ _ (hv_nn h108 hnq113)]; exact h108
  have h120 : g114 q41 = some (.inl (cA 0, 100, .inl (fun _ => 0))) := by rw [eg114]; rw [hv_up_ne _ _ (hv_nn h109 hnq113)]; exact h109
  have h121 : g114 q56 = some (.inl (cA 0, 100, .inl (fun _ => 0))) := by rw [eg114]; rw [hv_up_ne _ _ (hv_nn h110 hnq113)]; exact h110
  have h122 : g114 q73 = some (.inl (cA 0, 100, .inl (fun _ => 0))) := by rw [eg114]; rw [hv_up_ne _ _ (hv_nn h111 hnq113)]; exact h111
  have h123 : g114 q92 = some (.inl (cA 0, 100, .inl (fun _ => 0))) := by rw [eg114]; rw [hv_up_ne _ _ (hv_nn h112 hnq113)]; exact h112
  have h124 : g114 q113 = some (.inl (cA 0, 100, .inl (fun _ => 0))) := by rw [eg114]; exact hv_up_self _ _ _
  have ndq113 : (q113 :: [q92, q73, q56, q41, q28, q17, q8, q1, x]).Nodup := List.nodup_cons.mpr ⟨fun h9 => by
      simp only [List.mem_cons, List.not_mem_nil, or_false] at h9
      rcases h9 with e9 | e9 | e9 | e9 | e9 | e9 | e9 | e9 | e9
      · exact absurd e9.symm (hv_nn h112 hnq113)
      · exact absurd e9.symm (hv_nn h111 hnq113)
      · exact absurd e9.symm (hv_nn h110 hnq113)
      · exact absurd e9.symm (hv_nn h109 hnq113)
      · exact absurd e9.symm (hv_nn h108 hnq113)
      · exact absurd e9.symm (hv_nn h107 hnq113)
      · exact absurd e9.symm (hv_nn h106 hnq113)
      · exact absurd e9.symm (hv_nn h105 hnq113)
      · exact absurd e9.symm (hv_nn h104 hnq113)
    , ndq92⟩
  have kpq113 : ∀ z y, z ≠ x → f z = some y → g114 z = some y := fun z y z1 hz => by
    have k9 := kpq92 z y z1 hz
    have k9 : g103 z = some y := by rw [eg103, hv_up_ne _ _ z1]; exact k9
    have k9 : g114 z = some y := by rw [eg114, hv_up_ne _ _ (hv_nn k9 hnq113)]; exact k9
    exact k9
  refine hv_putF hE k_Mo hI hname 12 (by decide) w528 h115 rfl rfl rfl rfl (Nat.le_of_ble_eq_true rfl) d_Mo_init_74 (fun H locs hI => ?_)
  obtain ⟨g125, eg125⟩ : ∃ z : hv_M, z = hv_up g114 x (.inr (5, [.int 0, .ref q1, .ref q8, .int 0, .int 0, .int 0, .ref q17, .ref q28, .ref q41, .ref q56, .ref q73, .ref q92, .ref q113, .null, .null, .null, .null, .null, .int 0, .long 0, .long 0, .long 0, .long 0, .null, .null, .null, .int 0])) := ⟨_, rfl⟩
  have hI : hv_I D CL b0 g125 s.heap H locs := by rw [eg125]; exact hI
  have h126 : g125 x = some (.inr (5, [.int 0, .ref q1, .ref q8, .int 0, .int 0, .int 0, .ref q17, .ref q28, .ref q41, .ref q56, .ref q73, .ref q92, .ref q113, .null, .null, .null, .null, .null, .int 0, .long 0, .long 0, .long 0, .long 0, .null, .null, .null, .int 0])) := by rw [eg125]; exact hv_up_self _ _ _
  have h127 : g125 q1 = some (.inl (cA 0, 10200, .inl (fun _ => 0))) := by rw [eg125]; rw [hv_up_ne _ _ (hv_ne h116 h115 (by simp))]; exact h116
  have h128 : g125 q8 = some (.inl (cA 0, 51000, .inl (fun _ => 0))) := by rw [eg125]; rw [hv_up_ne _ _ (hv_ne h117 h115 (by simp))]; exact h117
  have h129 : g125 q17 = some (.inl (cA 0, 101, .inl (fun _ => 0))) := by rw [eg125]; rw [hv_up_ne _ _ (hv_ne h118 h115 (by simp))]; exact h118
  have h130 : g125 q28 = some (.inl (cA 2, 100, .inl (fun _ => 0))) := by rw [eg125]; rw [hv_up_ne _ _ (hv_ne h119 h115 (by simp))]; exact h119
  have h131 : g125 q41 = some (.inl (cA 0, 100, .inl (fun _ => 0))) := by rw [eg125]; rw [hv_up_ne _ _ (hv_ne h120 h115 (by simp))]; exact h120
  have h132 : g125 q56 = some (.inl (cA 0, 100, .inl (fun _ => 0))) := by rw [eg125]; rw [hv_up_ne _ _ (hv_ne h121 h115 (by simp))]; exact h121
  have h133 : g125 q73 = some (.inl (cA 0, 100, .inl (fun _ => 0))) := by rw [eg125]; rw [hv_up_ne _ _ (hv_ne h122 h115 (by simp))]; exact h122
  have h134 : g125 q92 = some (.inl (cA 0, 100, .inl (fun _ => 0))) := by rw [eg125]; rw [hv_up_ne _ _ (hv_ne h123 h115 (by simp))]; exact h123
  have h135 : g125 q113 = some (.inl (cA 0, 100, .inl (fun _ => 0))) := by rw [eg125]; rw [hv_up_ne _ _ (hv_ne h124 h115 (by simp))]; exact h124
  refine lv_aload_n hx hb d_Mo_init_77 rfl (lv_at hl 0 rfl) ?_
  refine lv_bipush (v := 100) hx hb d_Mo_init_78 (by decide) ?_
  refine hv_newI hE hI 0 rfl w374 (n := 100) (by decide) (by decide) (by decide) (by decide) (by decide) d_Mo_init_80 (fun q136 H hnq136 hI => ?_)
  obtain ⟨g137, eg137⟩ : ∃ z : hv_M, z = hv_up g125 q136 (.inl (cA 0, 100, .inl (fun _ => 0))) := ⟨_, rfl⟩
  have hI : hv_I D CL b0 g137 s.heap H locs := by rw [eg137]; exact hI
  have h138 : g137 x = some (.inr (5, [.int 0, .ref q1, .ref q8, .int 0, .int 0, .int 0, .ref q17, .ref q28, .ref q41, .ref q56, .ref q73, .ref q92, .ref q113, .null, .null, .null, .null, .null, .int 0, .long 0, .long 0, .long 0, .long 0, .null, .null, .null, .int 0])) := by rw [eg137]; rw [hv_up_ne _ _ (hv_nn h126 hnq136)]; exact h126
  have h139 : g137 q1 = some (.inl (cA 0, 10200, .inl (fun _ => 0))) := by rw [eg137]; rw [hv_up_ne _ _ (hv_nn h127 hnq136)]; exact h127
  have h140 : g137 q8 = some (.inl (cA 0, 51000, .inl (fun _ => 0))) := by rw [eg137]; rw [hv_up_ne _ _ (hv_nn h128 hnq136)]; exact h128
  have h141 : g137 q17 = some (.inl (cA 0, 101, .inl (fun _ => 0))) := by rw [eg137]; rw [hv_up_ne _ _ (hv_nn h129 hnq136)]; exact h129
  have h142 : g137 q28 = some (.inl (cA 2, 100, .inl (fun _ => 0))) := by rw [eg137]; rw [hv_up_ne _ _ (hv_nn h130 hnq136)]; exact h130
  have h143 : g137 q41 = some (.inl (cA 0, 100, .inl (fun _ => 0))) := by rw [eg137]; rw [hv_up_ne _ _ (hv_nn h131 hnq136)]; exact h131
  have h144 : g137 q56 = some (.inl (cA 0, 100, .inl (fun _ => 0))) := by rw [eg137]; rw [hv_up_ne _ _ (hv_nn h132 hnq136)]; exact h132
  have h145 : g137 q73 = some (.inl (cA 0, 100, .inl (fun _ => 0))) := by rw [eg137]; rw [hv_up_ne _ _ (hv_nn h133 hnq136)]; exact h133
  have h146 : g137 q92 = some (.inl (cA 0, 100, .inl (fun _ => 0))) := by rw [eg137]; rw [hv_up_ne _ _ (hv_nn h134 hnq136)]; exact h134
  have h147 : g137 q113 = some (.inl (cA 0, 100, .inl (fun _ => 0))) := by rw [eg137]; rw [hv_up_ne _ _ (hv_nn h135 hnq136)]; exact h135
  have h148 : g137 q136 = some (.inl (cA 0, 100, .inl (fun _ => 0))) := by rw [eg137]; exact hv_up_self _ _ _
  have ndq136 : (q136 :: [q113, q92, q73, q56, q41, q28, q17, q8, q1, x]).Nodup := List.nodup_cons.mpr ⟨fun h9 => by
      simp only [List.mem_cons, List.not_mem_nil, or_false] at h9
      rcases h9 with e9 | e9 | e9 | e9 | e9 | e9 | e9 | e9 | e9 | e9
      · exact absurd e9.symm (hv_nn h135 hnq136)
      · exact absurd e9.symm (hv_nn h134 hnq136)
      · exact absurd e9.symm (hv_nn h133 hnq136)
      · exact absurd e9.symm (hv_nn h132 hnq136)
      · exact absurd e9.symm (hv_nn h131 hnq136)
      · exact absurd e9.symm (hv_nn h130 hnq136)
      · exact absurd e9.symm (hv_nn h129 hnq136)
      · exact absurd e9.symm (hv_nn h128 hnq136)
      · exact absurd e9.symm (hv_nn h127 hnq136)
      · exact absurd e9.symm (hv_nn h126 hnq136)
    , ndq113⟩
  have kpq136 : ∀ z y, z ≠ x → f z = some y → g137 z = some y := fun z y z1 hz => by
    have k9 := kpq113 z y z1 hz
    have k9 : g125 z = some y := by rw [eg125, hv_up_ne _ _ z1]; exact k9
    have k9 : g137 z = some y := by rw [eg137, hv_up_ne _ _ (hv_nn k9 hnq136)]; exact k9
    exact k9
  refine hv_putF hE k_Mo hI hname 13 (by decide) w529 h138 rfl rfl rfl rfl (Nat.le_of_ble_eq_true rfl) d_Mo_init_82 (fun H locs hI => ?_)
  obtain ⟨g149, eg149⟩ : ∃ z : hv_M, z = hv_up g137 x (.inr (5, [.int 0, .ref q1, .ref q8, .int 0, .int 0, .int 0, .ref q17, .ref q28, .ref q41, .ref q56, .ref q73, .ref q92, .ref q113, .ref q136, .null, .null, .null, .null, .int 0, .long 0, .long 0, .long 0, .long 0, .null, .null, .null, .int 0])) := ⟨_, rfl⟩
  have hI : hv_I D CL b0 g149 s.heap H locs := by rw [eg149]; exact hI
  have h150 : g149 x = some (.inr (5, [.int 0, .ref q1, .ref q8, .int 0, .int 0, .int 0, .ref q17, .ref q28, .ref q41, .ref q56, .ref q73, .ref q92, .ref q113, .ref q136, .null, .null, .null, .null, .int 0, .long 0, .long 0, .long 0, .long 0, .null, .null, .null, .int 0])) := by rw [eg149]; exact hv_up_self _ _ _
  have h151 : g149 q1 = some (.inl (cA 0, 10200, .inl (fun _ => 0))) := by rw [eg149]; rw [hv_up_ne _ _ (hv_ne h139 h138 (by simp))]; exact h139
  have h152 : g149 q8 = some (.inl (cA 0, 51000, .inl (fun _ => 0))) := by rw [eg149]; rw [hv_up_ne _ _ (hv_ne h140 h138 (by simp))]; exact h140
  have h153 : g149 q17 = some (.inl (cA 0, 101, .inl (fun _ => 0))) := by rw [eg149]; rw [hv_up_ne _ _ (hv_ne h141 h138 (by simp))]; exact h141
  have h154 : g149 q28 = some (.inl (cA 2, 100, .inl (fun _ => 0))) := by rw [eg149]; rw [hv_up_ne _ _ (hv_ne h142 h138 (by simp))]; exact h142
  have h155 : g149 q41 = some (.inl (cA 0, 100, .inl (fun _ => 0))) := by rw [eg149]; rw [hv_up_ne _ _ (hv_ne h143 h138 (by simp))]; exact h143
  have h156 : g149 q56 = some (.inl (cA 0, 100, .inl (fun _ => 0))) := by rw [eg149]; rw [hv_up_ne _ _ (hv_ne h144 h138 (by simp))]; exact h144
  have h157 : g149 q73 = some (.inl (cA 0, 100, .inl (fun _ => 0))) := by rw [eg149]; rw [hv_up_ne _ _ (hv_ne h145 h138 (by simp))]; exact h145
  have h158 : g149 q92 = some (.inl (cA 0, 100, .inl (fun _ => 0))) := by rw [eg149]; rw [hv_up_ne _ _ (hv_ne h146 h138 (by simp))]; exact h146
  have h159 : g149 q113 = some (.inl (cA 0, 100, .inl (fun _ => 0))) := by rw [eg149]; rw [hv_up_ne _ _ (hv_ne h147 h138 (by simp))]; exact h147
  have h160 : g149 q136 = some (.inl (cA 0, 100, .inl (fun _ => 0))) := by rw [eg149]; rw [hv_up_ne _ _ (hv_ne h148 h138 (by simp))]; exact h148
  refine lv_aload_n hx hb d_Mo_init_85 rfl (lv_at hl 0 rfl) ?_
  refine lv_bipush (v := 100) hx hb d_Mo_init_86 (by decide) ?_
  refine hv_newI hE hI 0 rfl w374 (n := 100) (by decide) (by decide) (by decide) (by decide) (by decide) d_Mo_init_88 (fun q161 H hnq161 hI => ?_)
  obtain ⟨g162, eg162⟩ : ∃ z : hv_M, z = hv_up g149 q161 (.inl (cA 0, 100, .inl (fun _ => 0))) := ⟨_, rfl⟩
  have hI : hv_I D CL b0 g162 s.heap H locs := by rw [eg162]; exact hI
  have h163 : g162 x = some (.inr (5, [.int 0, .ref q1, .ref q8, .int 0, .int 0, .int 0, .ref q17, .ref q28, .ref q41, .ref q56, .ref q73, .ref q92, .ref q113, .ref q136, .null, .null, .null, .null, .int 0, .long 0, .long 0, .long 0, .long 0, .null, .null, .null, .int 0])) := by rw [eg162]; rw [hv_up_ne _ _ (hv_nn h150 hnq161)]; exact h150
  have h164 : g162 q1 = some (.inl (cA 0, 10200, .inl (fun _ => 0))) := by rw [eg162]; rw [hv_up_ne _ _ (hv_nn h151 hnq161)]; exact h151
  have h165 : g162 q8 = some (.inl (cA 0, 51000, .inl (fun _ => 0))) := by rw [eg162]; rw [hv_up_ne _ _ (hv_nn h152 hnq161)]; exact h152
  have h166 : g162 q17 = some (.inl (cA 0, 101, .inl (fun _ => 0))) := by rw [eg162]; rw [hv_up_ne _ _ (hv_nn h153 hnq161)]; exact h153
  have h167 : g162 q28 = some (.inl (cA 2, 100, .inl (fun _ => 0))) := by rw [eg162]; rw [hv_up_ne _ _ (hv_nn h154 hnq161)]; exact h154
  have h168 : g162 q41 = some (.inl (cA 0, 100, .inl (fun _ => 0))) := by rw [eg162]; rw [hv_up_ne _ _ (hv_nn h155 hnq161)]; exact h155
  have h169 : g162 q56 = some (.inl (cA 0, 100, .inl (fun _ => 0))) := by rw [eg162]; rw [hv_up_ne _ _ (hv_nn h156 hnq161)]; exact h156
  have h170 : g162 q73 = some (.inl (cA 0, 100, .inl (fun _ => 0))) := by rw [eg162]; rw [hv_up_ne _ _ (hv_nn h157 hnq161)]; exact h157
  have h171 : g162 q92 = some (.inl (cA 0, 100, .inl (fun _ => 0))) := by rw [eg162]; rw [hv_up_ne _ _ (hv_nn h158 hnq161)]; exact h158
  have h172 : g162 q113 = some (.inl (cA 0, 100, .inl (fun _ => 0))) := by rw [eg162]; rw [hv_up_ne _ _ (hv_nn h159 hnq161)]; exact h159
  have h173 : g162 q136 = some (.inl (cA 0, 100, .inl (fun _ => 0))) := by rw [eg162]; rw [hv_up_ne _ _ (hv_nn h160 hnq161)]; exact h160
  have h174 : g162 q161 = some (.inl (cA 0, 100, .inl (fun _ => 0))) := by rw [eg162]; exact hv_up_self _ _ _
  have ndq161 : (q161 :: [q136, q113, q92, q73, q56, q41, q28, q17, q8, q1, x]).Nodup := List.nodup_cons.mpr ⟨fun h9 => by
      simp only [List.mem_cons, List.not_mem_nil, or_false] at h9
      rcases h9 with e9 | e9 | e9 | e9 | e9 | e9 | e9 | e9 | e9 | e9 | e9
      · exact absurd e9.symm (hv_nn h160 hnq161)
      · exact absurd e9.symm (hv_nn h159 hnq161)
      · exact absurd e9.symm (hv_nn h158 hnq161)
      · exact absurd e9.symm (hv_nn h157 hnq161)
      · exact absurd e9.symm (hv_nn h156 hnq161)
      · exact absurd e9.symm (hv_nn h155 hnq161)
      · exact absurd e9.symm (hv_nn h154 hnq161)
      · exact absurd e9.symm (hv_nn h153 hnq161)
      · exact absurd e9.symm (hv_nn h152 hnq161)
      · exact absurd e9.symm (hv_nn h151 hnq161)
      · exact absurd e9.symm (hv_nn h150 hnq161)
    , ndq136⟩
  have kpq161 : ∀ z y, z ≠ x → f z = some y → g162 z = some y := fun z y z1 hz => by
    have k9 := kpq136 z y z1 hz
    have k9 : g149 z = some y := by rw [eg149, hv_up_ne _ _ z1]; exact k9
    have k9 : g162 z = some y := by rw [eg162, hv_up_ne _ _ (hv_nn k9 hnq161)]; exact k9
    exact k9
  refine hv_putF hE k_Mo hI hname 14 (by decide) w530 h163 rfl rfl rfl rfl (Nat.le_of_ble_eq_true rfl) d_Mo_init_90 (fun H locs hI => ?_)
  obtain ⟨g175, eg175⟩ : ∃ z : hv_M, z = hv_up g162 x (.inr (5, [.int 0, .ref q1, .ref q8, .int 0, .int 0, .int 0, .ref q17, .ref q28, .ref q41, .ref q56, .ref q73, .ref q92, .ref q113, .ref q136, .ref q161, .null, .null, .null, .int 0, .long 0, .long 0, .long 0, .long 0, .null, .null, .null, .int 0])) := ⟨_, rfl⟩
  have hI : hv_I D CL b0 g175 s.heap H locs := by rw [eg175]; exact hI
  have h176 : g175 x = some (.inr (5, [.int 0, .ref q1, .ref q8, .int 0, .int 0, .int 0, .ref q17, .ref q28, .ref q41, .ref q56, .ref q73, .ref q92, .ref q113, .ref q136, .ref q161, .null, .null, .null, .int 0, .long 0, .long 0, .long 0, .long 0, .null, .null, .null, .int 0])) := by rw [eg175]; exact hv_up_self _ _ _
  have h177 : g175 q1 = some (.inl (cA 0, 10200, .inl (fun _ => 0))) := by rw [eg175]; rw [hv_up_ne _ _ (hv_ne h164 h163 (by simp))]; exact h164
  have h178 : g175 q8 = some (.inl (cA 0, 51000, .inl (fun _ => 0))) := by rw [eg175]; rw [hv_up_ne _ _ (hv_ne h165 h163 (by simp))]; exact h165
  have h179 : g175 q17 = some (.inl (cA 0, 101, .inl (fun _ => 0))) := by rw [eg175]; rw [hv_up_ne _ _ (hv_ne h166 h163 (by simp))]; exact h166
  have h180 : g175 q28 = some (.inl (cA 2, 100, .inl (fun _ => 0))) := by rw [eg175]; rw [hv_up_ne _ _ (hv_ne h167 h163 (by simp))]; exact h167
  have h181 : g175 q41 = some (.inl (cA 0, 100, .inl (fun _ => 0))) := by rw [eg175]; rw [hv_up_ne _ _ (hv_ne h168 h163 (by simp))]; exact h168
  have h182 : g175 q56 = some (.inl (cA 0, 100, .inl (fun _ => 0))) := by rw [eg175]; rw [hv_up_ne _ _ (hv_ne h169 h163 (by simp))]; exact h169
  have h183 : g175 q73 = some (.inl (cA 0, 100, .inl (fun _ => 0))) := by rw [eg175]; rw [hv_up_ne _ _ (hv_ne h170 h163 (by simp))]; exact h170
  have h184 : g175 q92 = some (.inl (cA 0, 100, .inl (fun _ => 0))) := by rw [eg175]; rw [hv_up_ne _ _ (hv_ne h171 h163 (by simp))]; exact h171
  have h185 : g175 q113 = some (.inl (cA 0, 100, .inl (fun _ => 0))) := by rw [eg175]; rw [hv_up_ne _ _ (hv_ne h172 h163 (by simp))]; exact h172
  have h186 : g175 q136 = some (.inl (cA 0, 100, .inl (fun _ => 0))) := by rw [eg175]; rw [hv_up_ne _ _ (hv_ne h173 h163 (by simp))]; exact h173
  have h187 : g175 q161 = some (.inl (cA 0, 100, .inl (fun _ => 0))) := by rw [eg175]; rw [hv_up_ne _ _ (hv_ne h174 h163 (by simp))]; exact h174
  refine lv_aload_n hx hb d_Mo_init_93 rfl (lv_at hl 0 rfl) ?_
  refine lv_bipush (v := 100) hx hb d_Mo_init_94 (by decide) ?_
  refine hv_newI hE hI 0 rfl w374 (n := 100) (by decide) (by decide) (by decide) (by decide) (by decide) d_Mo_init_96 (fun q188 H hnq188 hI => ?_)
  obtain ⟨g189, eg189⟩ : ∃ z : hv_M, z = hv_up g175 q188 (.inl (cA 0, 100, .inl (fun _ => 0))) := ⟨_, rfl⟩
  have hI : hv_I D CL b0 g189 s.heap H locs := by rw [eg189]; exact hI
  have h190 : g189 x = some (.inr (5, [.int 0, .ref q1, .ref q8, .int 0, .int 0, .int 0, .ref q17, .ref q28, .ref q41, .ref q56, .ref q73, .ref q92, .ref q113, .ref q136, .ref q161, .null, .null, .null, .int 0, .long 0, .long 0, .long 0, .long 0, .null, .null, .null, .int 0])) := by rw [eg189]; rw [hv_up_ne _ _ (hv_nn h176 hnq188)]; exact h176
  have h191 : g189 q1 = some (.inl (cA 0, 10200, .inl (fun _ => 0))) := by rw [eg189]; rw [hv_up_ne _ _ (hv_nn h177 hnq188)]; exact h177
  have h192 : g189 q8 = some (.inl (cA 0, 51000, .inl (fun _ => 0))) := by rw [eg189]; rw [hv_up_ne _ _ (hv_nn h178 hnq188)]; exact h178
  have h193 : g189 q17 = some (.inl (cA 0, 101, .inl (fun _ => 0))) := by rw [eg189]; rw [hv_up_ne _ _ (hv_nn h179 hnq188)]; exact h179
  have h194 : g189 q28 = some (.inl (cA 2, 100, .inl (fun _ => 0))) := by rw [eg189]; rw [hv_up_ne _ _ (hv_nn h180 hnq188)]; exact h180
  have h195 : g189 q41 = some (.inl (cA 0, 100, .inl (fun _ => 0))) := by rw [eg189]; rw [hv_up_ne _ _ (hv_nn h181 hnq188)]; exact h181
  have h196 : g189 q56 = some (.inl (cA 0, 100, .inl (fun _ => 0))) := by rw [eg189]; rw [hv_up_ne _ _ (hv_nn h182 hnq188)]; exact h182
  have h197 : g189 q73 = some (.inl (cA 0, 100, .inl (fun _ => 0))) := by rw [eg189]; rw [hv_up_ne _ _ (hv_nn h183 hnq188)]; exact h183
  have h198 : g189 q92 = some (.inl (cA 0, 100, .inl (fun _ => 0))) := by rw [eg189]; rw [hv_up_ne _ _ (hv_nn h184 hnq188)]; exact h184
  have h199 : g189 q113 = some (.inl (cA 0, 100, .inl (fun _ => 0))) := by rw [eg189]; rw [hv_up_ne _ _ (hv_nn h185 hnq188)]; exact h185
  have h200 : g189 q136 = some (.inl (cA 0, 100, .inl (fun _ => 0))) := by rw [eg189]; rw [hv_up_ne _ _ (hv_nn h186 hnq188)]; exact h186
  have h201 : g189 q161 = some (.inl (cA 0, 100, .inl (fun _ => 0))) := by rw [eg189]; rw [hv_up_ne _ _ (hv_nn h187 hnq188)]; exact h187
  have h202 : g189 q188 = some (.inl (cA 0, 100, .inl (fun _ => 0))) := by rw [eg189]; exact hv_up_self _ _ _
  have ndq188 : (q188 :: [q161, q136, q113, q92, q73, q56, q41, q28, q17, q8, q1, x]).Nodup := List.nodup_cons.mpr ⟨fun h9 => by
      simp only [List.mem_cons, List.not_mem_nil, or_false] at h9
      rcases h9 with e9 | e9 | e9 | e9 | e9 | e9 | e9 | e9 | e9 | e9 | e9 | e9
      · exact absurd e9.symm (hv_nn h187 hnq188)
      · exact absurd e9.symm (hv_nn h186 hnq188)
      · exact absurd e9.symm (hv_nn h185 hnq188)
      · exact absurd e9.symm (hv_nn h184 hnq188)
      · exact absurd e9.symm (hv_nn h183 hnq188)
      · exact absurd e9.symm (hv_nn h182 hnq188)
      · exact absurd e9.symm (hv_nn h181 hnq188)
      · exact absurd e9.symm (hv_nn h180 hnq188)
      · exact absurd e9.symm (hv_nn h179 hnq188)
      · exact absurd e9.symm (hv_nn h178 hnq188)
      · exact absurd e9.symm (hv_nn h177 hnq188)
      · exact absurd e9.symm (hv_nn h176 hnq188)
    , ndq161⟩
  have kpq188 : ∀ z y, z ≠ x → f z = some y → g189 z = some y := fun z y z1 hz => by
    have k9 := kpq161 z y z1 hz
    have k9 : g175 z = some y := by rw [eg175, hv_up_ne _ _ z1]; exact k9
    have k9 : g189 z = some y := by rw [eg189, hv_up_ne _ _ (hv_nn k9 hnq188)]; exact k9
    exact k9
  refine hv_putF hE k_Mo hI hname 15 (by decide) w531 h190 rfl rfl rfl rfl (Nat.le_of_ble_eq_true rfl) d_Mo_init_98 (fun H locs hI => ?_)
  obtain ⟨g203, eg203⟩ : ∃ z : hv_M, z = hv_up g189 x (.inr (5, [.int 0, .ref q1, .ref q8, .int 0, .int 0, .int 0, .ref q17, .ref q28, .ref q41, .ref q56, .ref q73, .ref q92, .ref q113, .ref q136, .ref q161, .ref q188, .null, .null, .int 0, .long 0, .long 0, .long 0, .long 0, .null, .null, .null, .int 0])) := ⟨_, rfl⟩
  have hI : hv_I D CL b0 g203 s.heap H locs := by rw [eg203]; exact hI
  have h204 : g203 x = some (.inr (5, [.int 0, .ref q1, .ref q8, .int 0, .int 0, .int 0, .ref q17, .ref q28, .ref q41, .ref q56, .ref q73, .ref q92, .ref q113, .ref q136, .ref q161, .ref q188, .null, .null, .int 0, .long 0, .long 0, .long 0, .long 0, .null, .null, .null, .int 0])) := by rw [eg203]; exact hv_up_self _ _ _
  have h205 : g203 q1 = some (.inl (cA 0, 10200, .inl (fun _ => 0))) := by rw [eg203]; rw [hv_up_ne _ _ (hv_ne h191 h190 (by simp))]; exact h191
  have h206 : g203 q8 = some (.inl (cA 0, 51000, .inl (fun _ => 0))) := by rw [eg203]; rw [hv_up_ne _ _ (hv_ne h192 h190 (by simp))]; exact h192
  have h207 : g203 q17 = some (.inl (cA 0, 101, .inl (fun _ => 0))) := by rw [eg203]; rw [hv_up_ne _ _ (hv_ne h193 h190 (by simp))]; exact h193
  have h208 : g203 q28 = some (.inl (cA 2, 100, .inl (fun _ => 0))) := by rw [eg203]; rw [hv_up_ne _ _ (hv_ne h194 h190 (by simp))]; exact h194
  have h209 : g203 q41 = some (.inl (cA 0, 100, .inl (fun _ => 0))) := by rw [eg203]; rw [hv_up_ne _ _ (hv_ne h195 h190 (by simp))]; exact h195
  have h210 : g203 q56 = some (.inl (cA 0, 100, .inl (fun _ => 0))) := by rw [eg203]; rw [hv_up_ne _ _ (hv_ne h196 h190 (by simp))]; exact h196
  have h211 : g203 q73 = some (.inl (cA 0, 100, .inl (fun _ => 0))) := by rw [eg203]; rw [hv_up_ne _ _ (hv_ne h197 h190 (by simp))]; exact h197
  have h212 : g203 q92 = some (.inl (cA 0, 100, .inl (fun _ => 0))) := by rw [eg203]; rw [hv_up_ne _ _ (hv_ne h198 h190 (by simp))]; exact h198
  have h213 : g203 q113 = some (.inl (cA 0, 100, .inl (fun _ => 0))) := by rw [eg203]; rw [hv_up_ne _ _ (hv_ne h199 h190 (by simp))]; exact h199
  have h214 : g203 q136 = some (.inl (cA 0, 100, .inl (fun _ => 0))) := by rw [eg203]; rw [hv_up_ne _ _ (hv_ne h200 h190 (by simp))]; exact h200
  have h215 : g203 q161 = some (.inl (cA 0, 100, .inl (fun _ => 0))) := by rw [eg203]; rw [hv_up_ne _ _ (hv_ne h201 h190 (by simp))]; exact h201
  have h216 : g203 q188 = some (.inl (cA 0, 100, .inl (fun _ => 0))) := by rw [eg203]; rw [hv_up_ne _ _ (hv_ne h202 h190 (by simp))]; exact h202
  refine lv_aload_n hx hb d_Mo_init_101 rfl (lv_at hl 0 rfl) ?_
  refine lv_bipush (v := 100) hx hb d_Mo_init_102 (by decide) ?_
  refine hv_newI hE hI 0 rfl w374 (n := 100) (by decide) (by decide) (by decide) (by decide) (by decide) d_Mo_init_104 (fun q217 H hnq217 hI => ?_)
  obtain ⟨g218, eg218⟩ : ∃ z : hv_M, z = hv_up g203 q217 (.inl (cA 0, 100, .inl (fun _ => 0))) := ⟨_, rfl⟩
  have hI : hv_I D CL b0 g218 s.heap H locs := by rw [eg218]; exact hI
  have h219 : g218 x = some (.inr (5, [.int 0, .ref q1, .ref q8, .int 0, .int 0, .int 0, .ref q17, .ref q28, .ref q41, .ref q56, .ref q73, .ref q92, .ref q113, .ref q136, .ref q161, .ref q188, .null, .null, .int 0, .long 0, .long 0, .long 0, .long 0, .null, .null, .null, .int 0])) := by rw [eg218]; rw [hv_up_ne _ _ (hv_nn h204 hnq217)]; exact h204
  have h220 : g218 q1 = some (.inl (cA 0, 10200, .inl (fun _ => 0))) := by rw [eg218]; rw [hv_up_ne _ _ (hv_nn h205 hnq217)]; exact h205
  have h221 : g218 q8 = some (.inl (cA 0, 51000, .inl (fun _ => 0))) := by rw [eg218]; rw [hv_up_ne _ _ (hv_nn h206 hnq217)]; exact h206
  have h222 : g218 q17 = some (.inl (cA 0, 101, .inl (fun _ => 0))) := by rw [eg218]; rw [hv_up_ne _ _ (hv_nn h207 hnq217)]; exact h207
  have h223 : g218 q28 = some (.inl (cA 2, 100, .inl (fun _ => 0))) := by rw [eg218]; rw [hv_up_ne _ _ (hv_nn h208 hnq217)]; exact h208
  have h224 : g218 q41 = some (.inl (cA 0, 100, .inl (fun _ => 0))) := by rw [eg218]; rw [hv_up_ne _ _ (hv_nn h209 hnq217)]; exact h209
  have h225 : g218 q56 = some (.inl (cA 0, 100, .inl (fun _ => 0))) := by rw [eg218]; rw [hv_up_ne _ _ (hv_nn h210 hnq217)]; exact h210
  have h226 : g218 q73 = some (.inl (cA 0, 100, .inl (fun _ => 0))) := by rw [eg218]; rw [hv_up_ne _ _ (hv_nn h211 hnq217)]; exact h211
  have h227 : g218 q92 = some (.inl (cA 0, 100, .inl (fun _ => 0))) := by rw [eg218]; rw [hv_up_ne _ _ (hv_nn h212 hnq217)]; exact h212
  have h228 : g218 q113 = some (.inl (cA 0, 100, .inl (fun _ => 0))) := by rw [eg218]; rw [hv_up_ne _ _ (hv_nn h213 hnq217)]; exact h213
  have h229 : g218 q136 = some (.inl (cA 0, 100, .inl (fun _ => 0))) := by rw [eg218]; rw [hv_up_ne _ _ (hv_nn h214 hnq217)]; exact h214
  have h230 : g218 q161 = some (.inl (cA 0, 100, .inl (fun _ => 0))) := by rw [eg218]; rw [hv_up_ne _ _ (hv_nn h215 hnq217)]; exact h215
  have h231 : g218 q188 = some (.inl (cA 0, 100, .inl (fun _ => 0))) := by rw [eg218]; rw [hv_up_ne _ _ (hv_nn h216 hnq217)]; exact h216
  have h232 : g218 q217 = some (.inl (cA 0, 100, .inl (fun _ => 0))) := by rw [eg218]; exact hv_up_self _ _ _
  have ndq217 : (q217 :: [q188, q161, q136, q113, q92, q73, q56, q41, q28, q17, q8, q1, x]).Nodup := List.nodup_cons.mpr ⟨fun h9 => by
      simp only [List.mem_cons, List.not_mem_nil, or_false] at h9
      rcases h9 with e9 | e9 | e9 | e9 | e9 | e9 | e9 | e9 | e9 | e9 | e9 | e9 | e9
      · exact absurd e9.symm (hv_nn h216 hnq217)
      · exact absurd e9.symm (hv_nn h215 hnq217)
      · exact absurd e9.symm (hv_nn h214 hnq217)
      · exact absurd e9.symm (hv_nn h213 hnq217)
      · exact absurd e9.symm (hv_nn h212 hnq217)
      · exact absurd e9.symm (hv_nn h211 hnq217)
      · exact absurd e9.symm (hv_nn h210 hnq217)
      · exact absurd e9.symm (hv_nn h209 hnq217)
      · exact absurd e9.symm (hv_nn h208 hnq217)
      · exact absurd e9.symm (hv_nn h207 hnq217)
      · exact absurd e9.symm (hv_nn h206 hnq217)
      · exact absurd e9.symm (hv_nn h205 hnq217)
      · exact absurd e9.symm (hv_nn h204 hnq217)
    , ndq188⟩
  have kpq217 : ∀ z y, z ≠ x → f z = some y → g218 z = some y := fun z y z1 hz => by
    have k9 := kpq188 z y z1 hz
    have k9 : g203 z = some y := by rw [eg203, hv_up_ne _ _ z1]; exact k9
    have k9 : g218 z = some y := by rw [eg218, hv_up_ne _ _ (hv_nn k9 hnq217)]; exact k9
    exact k9
  refine hv_putF hE k_Mo hI hname 16 (by decide) w532 h219 rfl rfl rfl rfl (Nat.le_of_ble_eq_true rfl) d_Mo_init_106 (fun H locs hI => ?_)
  obtain ⟨g233, eg233⟩ : ∃ z : hv_M, z = hv_up g218 x (.inr (5, [.int 0, .ref q1, .ref q8, .int 0, .int 0, .int 0, .ref q17, .ref q28, .ref q41, .ref q56, .ref q73, .ref q92, .ref q113, .ref q136, .ref q161, .ref q188, .ref q217, .null, .int 0, .long 0, .long 0, .long 0, .long 0, .null, .null, .null, .int 0])) := ⟨_, rfl⟩
  have hI : hv_I D CL b0 g233 s.heap H locs := by rw [eg233]; exact hI
  have h234 : g233 x = some (.inr (5, [.int 0, .ref q1, .ref q8, .int 0, .int 0, .int 0, .ref q17, .ref q28, .ref q41, .ref q56, .ref q73, .ref q92, .ref q113, .ref q136, .ref q161, .ref q188, .ref q217, .null, .int 0, .long 0, .long 0, .long 0, .long 0, .null, .null, .null, .int 0])) := by rw [eg233]; exact hv_up_self _ _ _
  have h235 : g233 q1 = some (.inl (cA 0, 10200, .inl (fun _ => 0))) := by rw [eg233]; rw [hv_up_ne _ _ (hv_ne h220 h219 (by simp))]; exact h220
  have h236 : g233 q8 = some (.inl (cA 0, 51000, .inl (fun _ => 0))) := by rw [eg233]; rw [hv_up_ne _ _ (hv_ne h221 h219 (by simp))]; exact h221
  have h237 : g233 q17 = some (.inl (cA 0, 101, .inl (fun _ => 0))) := by rw [eg233]; rw [hv_up_ne _ _ (hv_ne h222 h219 (by simp))]; exact h222
  have h238 : g233 q28 = some (.inl (cA 2, 100, .inl (fun _ => 0))) := by rw [eg233]; rw [hv_up_ne _ _ (hv_ne h223 h219 (by simp))]; exact h223
  have h239 : g233 q41 = some (.inl (cA 0, 100, .inl (fun _ => 0))) := by rw [eg233]; rw [hv_up_ne _ _ (hv_ne h224 h219 (by simp))]; exact h224
  have h240 : g233 q56 = some (.inl (cA 0, 100, .inl (fun _ => 0))) := by rw [eg233]; rw [hv_up_ne _ _ (hv_ne h225 h219 (by simp))]; exact h225
  have h241 : g233 q73 = some (.inl (cA 0, 100, .inl (fun _ => 0))) := by rw [eg233]; rw [hv_up_ne _ _ (hv_ne h226 h219 (by simp))]; exact h226
  have h242 : g233 q92 = some (.inl (cA 0, 100, .inl (fun _ => 0))) := by rw [eg233]; rw [hv_up_ne _ _ (hv_ne h227 h219 (by simp))]; exact h227
  have h243 : g233 q113 = some (.inl (cA 0, 100, .inl (fun _ => 0))) := by rw [eg233]; rw [hv_up_ne _ _ (hv_ne h228 h219 (by simp))]; exact h228
  have h244 : g233 q136 = some (.inl (cA 0, 100, .inl (fun _ => 0))) := by rw [eg233]; rw [hv_up_ne _ _ (hv_ne h229 h219 (by simp))]; exact h229
  have h245 : g233 q161 = some (.inl (cA 0, 100, .inl (fun _ => 0))) := by rw [eg233]; rw [hv_up_ne _ _ (hv_ne h230 h219 (by simp))]; exact h230
  have h246 : g233 q188 = some (.inl (cA 0, 100, .inl (fun _ => 0))) := by rw [eg233]; rw [hv_up_ne _ _ (hv_ne h231 h219 (by simp))]; exact h231
  have h247 : g233 q217 = some (.inl (cA 0, 100, .inl (fun _ => 0))) := by rw [eg233]; rw [hv_up_ne _ _ (hv_ne h232 h219 (by simp))]; exact h232
  refine lv_aload_n hx hb d_Mo_init_109 rfl (lv_at hl 0 rfl) ?_
  refine lv_bipush (v := 100) hx hb d_Mo_init_110 (by decide) ?_
  refine hv_newI hE hI 0 rfl w374 (n := 100) (by decide) (by decide) (by decide) (by decide) (by decide) d_Mo_init_112 (fun q248 H hnq248 hI => ?_)
  obtain ⟨g249, eg249⟩ : ∃ z : hv_M, z = hv_up g233 q248 (.inl (cA 0, 100, .inl (fun _ => 0))) := ⟨_, rfl⟩
  have hI : hv_I D CL b0 g249 s.heap H locs := by rw [eg249]; exact hI
  have h250 : g249 x = some (.inr (5, [.int 0, .ref q1, .ref q8, .int 0, .int 0, .int 0, .ref q17, .ref q28, .ref q41, .ref q56, .ref q73, .ref q92, .ref q113, .ref q136, .ref q161, .ref q188, .ref q217, .null, .int 0, .long 0, .long 0, .long 0, .long 0, .null, .null, .null, .int 0])) := by rw [eg249]; rw [hv_up_ne _ _ (hv_nn h234 hnq248)]; exact h234
  have h251 : g249 q1 = some (.inl (cA 0, 10200, .inl (fun _ => 0))) := by rw [eg249]; rw [hv_up_ne _ _ (hv_nn h235 hnq248)]; exact h235
  have h252 : g249 q8 = some (.inl (cA 0, 51000, .inl (fun _ => 0))) := by rw [eg249]; rw [hv_up_ne _ _ (hv_nn h236 hnq248)]; exact h236
  have h253 : g249 q17 = some (.inl (cA 0, 101, .inl (fun _ => 0))) := by rw [eg249]; rw [hv_up_ne _ _ (hv_nn h237 hnq248)]; exact h237
  have h254 : g249 q28 = some (.inl (cA 2, 100, .inl (fun _ => 0))) := by rw [eg249]; rw [hv_up_ne _ _ (hv_nn h238 hnq248)]; exact h238
  have h255 : g249 q41 = some (.inl (cA 0, 100, .inl (fun _ => 0))) := by rw [eg249]; rw [hv_up_ne _ _ (hv_nn h239 hnq248)]; exact h239
  have h256 : g249 q56 = some (.inl (cA 0, 100, .inl (fun _ => 0))) := by rw [eg249]; rw [hv_up_ne _ _ (hv_nn h240 hnq248)]; exact h240
  have h257 : g249 q73 = some (.inl (cA 0, 100, .inl (fun _ => 0))) := by rw [eg249]; rw [hv_up_ne _ _ (hv_nn h241 hnq248)]; exact h241
  have h258 : g249 q92 = some (.inl (cA 0, 100, .inl (fun _ => 0))) := by rw [eg249]; rw [hv_up_ne _ _ (hv_nn h242 hnq248)]; exact h242
  have h259 : g249 q113 = some (.inl (cA 0, 100, .inl (fun _ => 0))) := by rw [eg249]; rw [hv_up_ne _ _ (hv_nn h243 hnq248)]; exact h243
  have h260 : g249 q136 = some (.inl (cA 0, 100, .inl (fun _ => 0))) := by rw [eg249]; rw [hv_up_ne _ _ (hv_nn h244 hnq248)]; exact h244
  have h261 : g249 q161 = some (.inl (cA 0, 100, .inl (fun _ => 0))) := by rw [eg249]; rw [hv_up_ne _ _ (hv_nn h245 hnq248)]; exact h245
  have h262 : g249 q188 = some (.inl (cA 0, 100, .inl (fun _ => 0))) := by rw [eg249]; rw [hv_up_ne _ _ (hv_nn h246 hnq248)]; exact h246
  have h263 : g249 q217 = some (.inl (cA 0, 100, .inl (fun _ => 0))) := by rw [eg249]; rw [hv_up_ne _ _ (hv_nn h247 hnq248)]; exact h247
  have h264 : g249 q248 = some (.inl (cA 0, 100, .inl (fun _ => 0))) := by rw [eg249]; exact hv_up_self _ _ _
  have ndq248 : (q248 :: [q217, q188, q161, q136, q113, q92, q73, q56, q41, q28, q17, q8, q1, x]).Nodup := List.nodup_cons.mpr ⟨fun h9 => by
      simp only [List.mem_cons, List.not_mem_nil, or_false] at h9
      rcases h9 with e9 | e9 | e9 | e9 | e9 | e9 | e9 | e9 | e9 | e9 | e9 | e9 | e9 | e9
      · exact absurd e9.symm (hv_nn h247 hnq248)
      · exact absurd e9.symm (hv_nn h246 hnq248)
      · exact absurd e9.symm (hv_nn h245 hnq248)
      · exact absurd e9.symm (hv_nn h244 hnq248)
      · exact absurd e9.symm (hv_nn h243 hnq248)
      · exact absurd e9.symm (hv_nn h242 hnq248)
      · exact absurd e9.symm (hv_nn h241 hnq248)
      · exact absurd e9.symm (hv_nn h240 hnq248)
      · exact absurd e9.symm (hv_nn h239 hnq248)
      · exact absurd e9.symm (hv_nn h238 hnq248)
      · exact absurd e9.symm (hv_nn h237 hnq248)
      · exact absurd e9.symm (hv_nn h236 hnq248)
      · exact absurd e9.symm (hv_nn h235 hnq248)
      · exact absurd e9.symm (hv_nn h234 hnq248)
    , ndq217⟩
  have kpq248 : ∀ z y, z ≠ x → f z = some y → g249 z = some y := fun z y z1 hz => by
    have k9 := kpq217 z y z1 hz
    have k9 : g233 z = some y := by rw [eg233, hv_up_ne _ _ z1]; exact k9
    have k9 : g249 z = some y := by rw [eg249, hv_up_ne _ _ (hv_nn k9 hnq248)]; exact k9
    exact k9
  refine hv_putF hE k_Mo hI hname 17 (by decide) w533 h250 rfl rfl rfl rfl (Nat.le_of_ble_eq_true rfl) d_Mo_init_114 (fun H locs hI => ?_)
  obtain ⟨g265, eg265⟩ : ∃ z : hv_M, z = hv_up g249 x (.inr (5, [.int 0, .ref q1, .ref q8, .int 0, .int 0, .int 0, .ref q17, .ref q28, .ref q41, .ref q56, .ref q73, .ref q92, .ref q113, .ref q136, .ref q161, .ref q188, .ref q217, .ref q248, .int 0, .long 0, .long 0, .long 0, .long 0, .null, .null, .null, .int 0])) := ⟨_, rfl⟩
  have hI : hv_I D CL b0 g265 s.heap H locs := by rw [eg265]; exact hI
  have h266 : g265 x = some (.inr (5, [.int 0, .ref q1, .ref q8, .int 0, .int 0, .int 0, .ref q17, .ref q28, .ref q41, .ref q56, .ref q73, .ref q92, .ref q113, .ref q136, .ref q161, .ref q188, .ref q217, .ref q248, .int 0, .long 0, .long 0, .long 0, .long 0, .null, .null, .null, .int 0])) := by rw [eg265]; exact hv_up_self _ _ _
  have h267 : g265 q1 = some (.inl (cA 0, 10200, .inl (fun _ => 0))) := by rw [eg265]; rw [hv_up_ne _ _ (hv_ne h251 h250 (by simp))]; exact h251
  have h268 : g265 q8 = some (.inl (cA 0, 51000, .inl (fun _ => 0))) := by rw [eg265]; rw [hv_up_ne _ _ (hv_ne h252 h250 (by simp))]; exact h252
  have h269 : g265 q17 = some (.inl (cA 0, 101, .inl (fun _ => 0))) := by rw [eg265]; rw [hv_up_ne _ _ (hv_ne h253 h250 (by simp))]; exact h253
  have h270 : g265 q28 = some (.inl (cA 2, 100, .inl (fun _ => 0))) := by rw [eg265]; rw [hv_up_ne _ _ (hv_ne h254 h250 (by simp))]; exact h254
  have h271 : g265 q41 = some (.inl (cA 0, 100, .inl (fun _ => 0))) := by rw [eg265]; rw [hv_up_ne _ _ (hv_ne h255 h250 (by simp))]; exact h255
  have h272 : g265 q56 = some (.inl (cA 0, 100, .inl (fun _ => 0))) := by rw [eg265]; rw [hv_up_ne _ _ (hv_ne h256 h250 (by simp))]; exact h256
  have h273 : g265 q73 = some (.inl (cA 0, 100, .inl (fun _ => 0))) := by rw [eg265]; rw [hv_up_ne _ _ (hv_ne h257 h250 (by simp))]; exact h257
  have h274 : g265 q92 = some (.inl (cA 0, 100, .inl (fun _ => 0))) := by rw [eg265]; rw [hv_up_ne _ _ (hv_ne h258 h250 (by simp))]; exact h258
  have h275 : g265 q113 = some (.inl (cA 0, 100, .inl (fun _ => 0))) := by rw [eg265]; rw [hv_up_ne _ _ (hv_ne h259 h250 (by simp))]; exact h259
  have h276 : g265 q136 = some (.inl (cA 0, 100, .inl (fun _ => 0))) := by rw [eg265]; rw [hv_up_ne _ _ (hv_ne h260 h250 (by simp))]; exact h260
  have h277 : g265 q161 = some (.inl (cA 0, 100, .inl (fun _ => 0))) := by rw [eg265]; rw [hv_up_ne _ _ (hv_ne h261 h250 (by simp))]; exact h261
  have h278 : g265 q188 = some (.inl (cA 0, 100, .inl (fun _ => 0))) := by rw [eg265]; rw [hv_up_ne _ _ (hv_ne h262 h250 (by simp))]; exact h262
  have h279 : g265 q217 = some (.inl (cA 0, 100, .inl (fun _ => 0))) := by rw [eg265]; rw [hv_up_ne _ _ (hv_ne h263 h250 (by simp))]; exact h263
  have h280 : g265 q248 = some (.inl (cA 0, 100, .inl (fun _ => 0))) := by rw [eg265]; rw [hv_up_ne _ _ (hv_ne h264 h250 (by simp))]; exact h264
  refine lv_aload_n hx hb d_Mo_init_117 rfl (lv_at hl 0 rfl) ?_
  refine lv_iconst (v := 4) hx hb d_Mo_init_118 (by decide) ?_
  refine hv_newL hE hI 1 rfl w43 (n := 4) (by decide) (by decide) (by decide) (by decide) (by decide) d_Mo_init_119 (fun q281 H hnq281 hI => ?_)
  obtain ⟨g282, eg282⟩ : ∃ z : hv_M, z = hv_up g265 q281 (.inl (cA 1, 4, .inr (.inl (fun _ => 0)))) := ⟨_, rfl⟩
  have hI : hv_I D CL b0 g282 s.heap H locs := by rw [eg282]; exact hI
  have h283 : g282 x = some (.inr (5, [.int 0, .ref q1, .ref q8, .int 0, .int 0, .int 0, .ref q17, .ref q28, .ref q41, .ref q56, .ref q73, .ref q92, .ref q113, .ref q136, .ref q161, .ref q188, .ref q217, .ref q248, .int 0, .long 0, .long 0, .long 0, .long 0, .null, .null, .null, .int 0])) := by rw [eg282]; rw [hv_up_ne _ _ (hv_nn h266 hnq281)]; exact h266
  have h284 : g282 q1 = some (.inl (cA 0, 10200, .inl (fun _ => 0))) := by rw [eg282]; rw [hv_up_ne _ _ (hv_nn h267 hnq281)]; exact h267
  have h285 : g282 q8 = some (.inl (cA 0, 51000, .inl (fun _ => 0))) := by rw [eg282]; rw [hv_up_ne _ _ (hv_nn h268 hnq281)]; exact h268
  have h286 : g282 q17 = some (.inl (cA 0, 101, .inl (fun _ => 0))) := by rw [eg282]; rw [hv_up_ne _ _ (hv_nn h269 hnq281)]; exact h269
  have h287 : g282 q28 = some (.inl (cA 2, 100, .inl (fun _ => 0))) := by rw [eg282]; rw [hv_up_ne _ _ (hv_nn h270 hnq281)]; exact h270
  have h288 : g282 q41 = some (.inl (cA 0, 100, .inl (fun _ => 0))) := by rw [eg282]; rw [hv_up_ne _ _ (hv_nn h271 hnq281)]; exact h271
  have h289 : g282 q56 = some (.inl (cA 0, 100, .inl (fun _ => 0))) := by rw [eg282]; rw [hv_up_ne _ _ (hv_nn h272 hnq281)]; exact h272
  have h290 : g282 q73 = some (.inl (cA 0, 100, .inl (fun _ => 0))) := by rw [eg282]; rw [hv_up_ne _ _ (hv_nn h273 hnq281)]; exact h273
  have h291 : g282 q92 = some (.inl (cA 0, 100, .inl (fun _ => 0))) := by rw [eg282]; rw [hv_up_ne _ _ (hv_nn h274 hnq281)]; exact h274
  have h292 : g282 q113 = some (.inl (cA 0, 100, .inl (fun _ => 0))) := by rw [eg282]; rw [hv_up_ne _ _ (hv_nn h275 hnq281)]; exact h275
  have h293 : g282 q136 = some (.inl (cA 0, 100, .inl (fun _ => 0))) := by rw [eg282]; rw [hv_up_ne _ _ (hv_nn h276 hnq281)]; exact h276
  have h294 : g282 q161 = some (.inl (cA 0, 100, .inl (fun _ => 0))) := by rw [eg282]; rw [hv_up_ne _ _ (hv_nn h277 hnq281)]; exact h277
  have h295 : g282 q188 = some (.inl (cA 0, 100, .inl (fun _ => 0))) := by rw [eg282]; rw [hv_up_ne _ _ (hv_nn h278 hnq281)]; exact h278
  have h296 : g282 q217 = some (.inl (cA 0, 100, .inl (fun _ => 0))) := by rw [eg282]; rw [hv_up_ne _ _ (hv_nn h279 hnq281)]; exact h279
  have h297 : g282 q248 = some (.inl (cA 0, 100, .inl (fun _ => 0))) := by rw [eg282]; rw [hv_up_ne _ _ (hv_nn h280 hnq281)]; exact h280
  have h298 : g282 q281 = some (.inl (cA 1, 4, .inr (.inl (fun _ => 0)))) := by rw [eg282]; exact hv_up_self _ _ _
  have ndq281 : (q281 :: [q248, q217, q188, q161, q136, q113, q92, q73, q56, q41, q28, q17, q8, q1, x]).Nodup := List.nodup_cons.mpr ⟨fun h9 => by
      simp only [List.mem_cons, List.not_mem_nil, or_false] at h9
      rcases h9 with e9 | e9 | e9 | e9 | e9 | e9 | e9 | e9 | e9 | e9 | e9 | e9 | e9 | e9 | e9
      · exact absurd e9.symm (hv_nn h280 hnq281)
      · exact absurd e9.symm (hv_nn h279 hnq281)
      · exact absurd e9.symm (hv_nn h278 hnq281)
      · exact absurd e9.symm (hv_nn h277 hnq281)
      · exact absurd e9.symm (hv_nn h276 hnq281)
      · exact absurd e9.symm (hv_nn h275 hnq281)
      · exact absurd e9.symm (hv_nn h274 hnq281)
      · exact absurd e9.symm (hv_nn h273 hnq281)
      · exact absurd e9.symm (hv_nn h272 hnq281)
      · exact absurd e9.symm (hv_nn h271 hnq281)
      · exact absurd e9.symm (hv_nn h270 hnq281)
      · exact absurd e9.symm (hv_nn h269 hnq281)
      · exact absurd e9.symm (hv_nn h268 hnq281)
      · exact absurd e9.symm (hv_nn h267 hnq281)
      · exact absurd e9.symm (hv_nn h266 hnq281)
    , ndq248⟩
  have kpq281 : ∀ z y, z ≠ x → f z = some y → g282 z = some y := fun z y z1 hz => by
    have k9 := kpq248 z y z1 hz
    have k9 : g265 z = some y := by rw [eg265, hv_up_ne _ _ z1]; exact k9
    have k9 : g282 z = some y := by rw [eg282, hv_up_ne _ _ (hv_nn k9 hnq281)]; exact k9
    exact k9
  refine hv_putF hE k_Mo hI hname 23 (by decide) w539 h283 rfl rfl rfl rfl (Nat.le_of_ble_eq_true rfl) d_Mo_init_121 (fun H locs hI => ?_)
  obtain ⟨g299, eg299⟩ : ∃ z : hv_M, z = hv_up g282 x (.inr (5, [.int 0, .ref q1, .ref q8, .int 0, .int 0, .int 0, .ref q17, .ref q28, .ref q41, .ref q56, .ref q73, .ref q92, .ref q113, .ref q136, .ref q161, .ref q188, .ref q217, .ref q248, .int 0, .long 0, .long 0, .long 0, .long 0, .ref q281, .null, .null, .int 0])) := ⟨_, rfl⟩
  have hI : hv_I D CL b0 g299 s.heap H locs := by rw [eg299]; exact hI
  have h300 : g299 x = some (.inr (5, [.int 0, .ref q1, .ref q8, .int 0, .int 0, .int 0, .ref q17, .ref q28, .ref q41, .ref q56, .ref q73, .ref q92, .ref q113, .ref q136, .ref q161, .ref q188, .ref q217, .ref q248, .int 0, .long 0, .long 0, .long 0, .long 0, .ref q281, .null, .null, .int 0])) := by rw [eg299]; exact hv_up_self _ _ _
  have h301 : g299 q1 = some (.inl (cA 0, 10200, .inl (fun _ => 0))) := by rw [eg299]; rw [hv_up_ne _ _ (hv_ne h284 h283 (by simp))]; exact h284
  have h302 : g299 q8 = some (.inl (cA 0, 51000, .inl (fun _ => 0))) := by rw [eg299]; rw [hv_up_ne _ _ (hv_ne h285 h283 (by simp))]; exact h285
  have h303 : g299 q17 = some (.inl (cA 0, 101, .inl (fun _ => 0))) := by rw [eg299]; rw [hv_up_ne _ _ (hv_ne h286 h283 (by simp))]; exact h286
  have h304 : g299 q28 = some (.inl (cA 2, 100, .inl (fun _ => 0))) := by rw [eg299]; rw [hv_up_ne _ _ (hv_ne h287 h283 (by simp))]; exact h287
  have h305 : g299 q41 = some (.inl (cA 0, 100, .inl (fun _ => 0))) := by rw [eg299]; rw [hv_up_ne _ _ (hv_ne h288 h283 (by simp))]; exact h288
  have h306 : g299 q56 = some (.inl (cA 0, 100, .inl (fun _ => 0))) := by rw [eg299]; rw [hv_up_ne _ _ (hv_ne h289 h283 (by simp))]; exact h289
  have h307 : g299 q73 = some (.inl (cA 0, 100, .inl (fun _ => 0))) := by rw [eg299]; rw [hv_up_ne _ _ (hv_ne h290 h283 (by simp))]; exact h290
  have h308 : g299 q92 = some (.inl (cA 0, 100, .inl (fun _ => 0))) := by rw [eg299]; rw [hv_up_ne _ _ (hv_ne h291 h283 (by simp))]; exact h291
  have h309 : g299 q113 = some (.inl (cA 0, 100, .inl (fun _ => 0))) := by rw [eg299]; rw [hv_up_ne _ _ (hv_ne h292 h283 (by simp))]; exact h292
  have h310 : g299 q136 = some (.inl (cA 0, 100, .inl (fun _ => 0))) := by rw [eg299]; rw [hv_up_ne _ _ (hv_ne h293 h283 (by simp))]; exact h293
  have h311 : g299 q161 = some (.inl (cA 0, 100, .inl (fun _ => 0))) := by rw [eg299]; rw [hv_up_ne _ _ (hv_ne h294 h283 (by simp))]; exact h294
  have h312 : g299 q188 = some (.inl (cA 0, 100, .inl (fun _ => 0))) := by rw [eg299]; rw [hv_up_ne _ _ (hv_ne h295 h283 (by simp))]; exact h295
  have h313 : g299 q217 = some (.inl (cA 0, 100, .inl (fun _ => 0))) := by rw [eg299]; rw [hv_up_ne _ _ (hv_ne h296 h283 (by simp))]; exact h296
  have h314 : g299 q248 = some (.inl (cA 0, 100, .inl (fun _ => 0))) := by rw [eg299]; rw [hv_up_ne _ _ (hv_ne h297 h283 (by simp))]; exact h297
  have h315 : g299 q281 = some (.inl (cA 1, 4, .inr (.inl (fun _ => 0)))) := by rw [eg299]; rw [hv_up_ne _ _ (hv_ne h298 h283 (by simp))]; exact h298
  refine lv_aload_n hx hb d_Mo_init_124 rfl (lv_at hl 0 rfl) ?_
  refine lv_iconst (v := 4) hx hb d_Mo_init_125 (by decide) ?_
  refine hv_newL hE hI 1 rfl w43 (n := 4) (by decide) (by decide) (by decide) (by decide) (by decide) d_Mo_init_126 (fun q316 H hnq316 hI => ?_)
  obtain ⟨g317, eg317⟩ : ∃ z : hv_M, z = hv_up g299 q316 (.inl (cA 1, 4, .inr (.inl (fun _ => 0)))) := ⟨_, rfl⟩
  have hI : hv_I D CL b0 g317 s.heap H locs := by rw [eg317]; exact hI
  have h318 : g317 x = some (.inr (5, [.int 0, .ref q1, .ref q8, .int 0, .int 0, .int 0, .ref q17, .ref q28, .ref q41, .ref q56, .ref q73, .ref q92, .ref q113, .ref q136, .ref q161, .ref q188, .ref q217, .ref q248, .int 0, .long 0, .long 0, .long 0, .long 0, .ref q281, .null, .null, .int 0])) := by rw [eg317]; rw [hv_up_ne _ _ (hv_nn h300 hnq316)]; exact h300
  have h319 : g317 q1 = some (.inl (cA 0, 10200, .inl (fun _ => 0))) := by rw [eg317]; rw [hv_up_ne _ _ (hv_nn h301 hnq316)]; exact h301
  have h320 : g317 q8 = some (.inl (cA 0, 51000, .inl (fun _ => 0))) := by rw [eg317]; rw [hv_up_ne _ _ (hv_nn h302 hnq316)]; exact h302
  have h321 : g317 q17 = some (.inl (cA 0, 101, .inl (fun _ => 0))) := by rw [eg317]; rw [hv_up_ne _ _ (hv_nn h303 hnq316)]; exact h303
  have h322 : g317 q28 = some (.inl (cA 2, 100, .inl (fun _ => 0))) := by rw [eg317]; rw [hv_up_ne _ _ (hv_nn h304 hnq316)]; exact h304
  have h323 : g317 q41 = some (.inl (cA 0, 100, .inl (fun _ => 0))) := by rw [eg317]; rw [hv_up_ne _ _ (hv_nn h305 hnq316)]; exact h305
  have h324 : g317 q56 = some (.inl (cA 0, 100, .inl (fun _ => 0))) := by rw [eg317]; rw [hv_up_ne _ _ (hv_nn h306 hnq316)]; exact h306
  have h325 : g317 q73 = some (.inl (cA 0, 100, .inl (fun _ => 0))) := by rw [eg317]; rw [hv_up_ne _ _ (hv_nn h307 hnq316)]; exact h307
  have h326 : g317 q92 = some (.inl (cA 0, 100, .inl (fun _ => 0))) := by rw [eg317]; rw [hv_up_ne _ _ (hv_nn h308 hnq316)]; exact h308
  have h327 : g317 q113 = some (.inl (cA 0, 100, .inl (fun _ => 0))) := by rw [eg317]; rw [hv_up_ne _ _ (hv_nn h309 hnq316)]; exact h309
  have h328 : g317 q136 = some (.inl (cA 0, 100, .inl (fun _ => 0))) := by rw [eg317]; rw [hv_up_ne _ _ (hv_nn h310 hnq316)]; exact h310
  have h329 : g317 q161 = some (.inl (cA 0, 100, .inl (fun _ => 0))) := by rw [eg317]; rw [hv_up_ne _ _ (hv_nn h311 hnq316)]; exact h311
  have h330 : g317 q188 = some (.inl (cA 0, 100, .inl (fun _ => 0))) := by rw [eg317]; rw [hv_up_ne _ _ (hv_nn h312 hnq316)]; exact h312
  have h331 : g317 q217 = some (.inl (cA 0, 100, .inl (fun _ => 0))) := by rw [eg317]; rw [hv_up_ne _ _ (hv_nn h313 hnq316)]; exact h313
  have h332 : g317 q248 = some (.inl (cA 0, 100, .inl (fun _ => 0))) := by rw [eg317]; rw [hv_up_ne _ _ (hv_nn h314 hnq316)]; exact h314
  have h333 : g317 q281 = some (.inl (cA 1, 4, .inr (.inl (fun _ => 0)))) := by rw [eg317]; rw [hv_up_ne _ _ (hv_nn h315 hnq316)]; exact h315
  have h334 : g317 q316 = some (.inl (cA 1, 4, .inr (.inl (fun _ => 0)))) := by rw [eg317]; exact hv_up_self _ _ _
  have ndq316 : (q316 :: [q281, q248, q217, q188, q161, q136, q113, q92, q73, q56, q41, q28, q17, q8, q1, x]).Nodup := List.nodup_cons.mpr ⟨fun h9 => by
      simp only [List.mem_cons, List.not_mem_nil, or_false] at h9
      rcases h9 with e9 | e9 | e9 | e9 | e9 | e9 | e9 | e9 | e9 | e9 | e9 | e9 | e9 | e9 | e9 | e9
      · exact absurd e9.symm (hv_nn h315 hnq316)
      · exact absurd e9.symm (hv_nn h314 hnq316)
      · exact absurd e9.symm (hv_nn h313 hnq316)
      · exact absurd e9.symm (hv_nn h312 hnq316)
      · exact absurd e9.symm (hv_nn h311 hnq316)
      · exact absurd e9.symm (hv_nn h310 hnq316)
      · exact absurd e9.symm (hv_nn h309 hnq316)
      · exact absurd e9.symm (hv_nn h308 hnq316)
      · exact absurd e9.symm (hv_nn h307 hnq316)
      · exact absurd e9.symm (hv_nn h306 hnq316)
      · exact absurd e9.symm (hv_nn h305 hnq316)
      · exact absurd e9.symm (hv_nn h304 hnq316)
      · exact absurd e9.symm (hv_nn h303 hnq316)
      · exact absurd e9.symm (hv_nn h302 hnq316)
      · exact absurd e9.symm (hv_nn h301 hnq316)
      · exact absurd e9.symm (hv_nn h300 hnq316)
    , ndq281⟩
  have kpq316 : ∀ z y, z ≠ x → f z = some y → g317 z = some y := fun z y z1 hz => by
    have k9 := kpq281 z y z1 hz
    have k9 : g299 z = some y := by rw [eg299, hv_up_ne _ _ z1]; exact k9
    have k9 : g317 z = some y := by rw [eg317, hv_up_ne _ _ (hv_nn k9 hnq316)]; exact k9
    exact k9
  refine hv_putF hE k_Mo hI hname 24 (by decide) w540 h318 rfl rfl rfl rfl (Nat.le_of_ble_eq_true rfl) d_Mo_init_128 (fun H locs hI => ?_)
  obtain ⟨g335, eg335⟩ : ∃ z : hv_M, z = hv_up g317 x (.inr (5, [.int 0, .ref q1, .ref q8, .int 0, .int 0, .int 0, .ref q17, .ref q28, .ref q41, .ref q56, .ref q73, .ref q92, .ref q113, .ref q136, .ref q161, .ref q188, .ref q217, .ref q248, .int 0, .long 0, .long 0, .long 0, .long 0, .ref q281, .ref q316, .null, .int 0])) := ⟨_, rfl⟩
  have hI : hv_I D CL b0 g335 s.heap H locs := by rw [eg335]; exact hI
  have h336 : g335 x = some (.inr (5, [.int 0, .ref q1, .ref q8, .int 0, .int 0, .int 0, .ref q17, .ref q28, .ref q41, .ref q56, .ref q73, .ref q92, .ref q113, .ref q136, .ref q161, .ref q188, .ref q217, .ref q248, .int 0, .long 0, .long 0, .long 0, .long 0, .ref q281, .ref q316, .null, .int 0])) := by rw [eg335]; exact hv_up_self _ _ _
  have h337 : g335 q1 = some (.inl (cA 0, 10200, .inl (fun _ => 0))) := by rw [eg335]; rw [hv_up_ne _ _ (hv_ne h319 h318 (by simp))]; exact h319
  have h338 : g335 q8 = some (.inl (cA 0, 51000, .inl (fun _ => 0))) := by rw [eg335]; rw [hv_up_ne _ _ (hv_ne h320 h318 (by simp))]; exact h320
  have h339 : g335 q17 = some (.inl (cA 0, 101, .inl (fun _ => 0))) := by rw [eg335]; rw [hv_up_ne _ _ (hv_ne h321 h318 (by simp))]; exact h321
  have h340 : g335 q28 = some (.inl (cA 2, 100, .inl (fun _ => 0))) := by rw [eg335]; rw [hv_up_ne _ _ (hv_ne h322 h318 (by simp))]; exact h322
  have h341 : g335 q41 = some (.inl (cA 0, 100, .inl (fun _ => 0))) := by rw [eg335]; rw [hv_up_ne _ _ (hv_ne h323 h318 (by simp))]; exact h323
  have h342 : g335 q56 = some (.inl (cA 0, 100, .inl (fun _ => 0))) := by rw [eg335]; rw [hv_up_ne _ _ (hv_ne h324 h318 (by simp))]; exact h324
  have h343 : g335 q73 = some (.inl (cA 0, 100, .inl (fun _ => 0))) := by rw [eg335]; rw [hv_up_ne _ _ (hv_ne h325 h318 (by simp))]; exact h325
  have h344 : g335 q92 = some (.inl (cA 0, 100, .inl (fun _ => 0))) := by rw [eg335]; rw [hv_up_ne _ _ (hv_ne h326 h318 (by simp))]; exact h326
  have h345 : g335 q113 = some (.inl (cA 0, 100, .inl (fun _ => 0))) := by rw [eg335]; rw [hv_up_ne _ _ (hv_ne h327 h318 (by simp))]; exact h327
  have h346 : g335 q136 = some (.inl (cA 0, 100, .inl (fun _ => 0))) := by rw [eg335]; rw [hv_up_ne _ _ (hv_ne h328 h318 (by simp))]; exact h328
  have h347 : g335 q161 = some (.inl (cA 0, 100, .inl (fun _ => 0))) := by rw [eg335]; rw [hv_up_ne _ _ (hv_ne h329 h318 (by simp))]; exact h329
  have h348 : g335 q188 = some (.inl (cA 0, 100, .inl (fun _ => 0))) := by rw [eg335]; rw [hv_up_ne _ _ (hv_ne h330 h318 (by simp))]; exact h330
  have h349 : g335 q217 = some (.inl (cA 0, 100, .inl (fun _ => 0))) := by rw [eg335]; rw [hv_up_ne _ _ (hv_ne h331 h318 (by simp))]; exact h331
  have h350 : g335 q248 = some (.inl (cA 0, 100, .inl (fun _ => 0))) := by rw [eg335]; rw [hv_up_ne _ _ (hv_ne h332 h318 (by simp))]; exact h332
  have h351 : g335 q281 = some (.inl (cA 1, 4, .inr (.inl (fun _ => 0)))) := by rw [eg335]; rw [hv_up_ne _ _ (hv_ne h333 h318 (by simp))]; exact h333
  have h352 : g335 q316 = some (.inl (cA 1, 4, .inr (.inl (fun _ => 0)))) := by rw [eg335]; rw [hv_up_ne _ _ (hv_ne h334 h318 (by simp))]; exact h334
  refine lv_aload_n hx hb d_Mo_init_131 rfl (lv_at hl 0 rfl) ?_
  refine lv_sipush (v := 6000) hx hb d_Mo_init_132 (by decide) ?_
  refine hv_newL hE hI 1 rfl w43 (n := 6000) (by decide) (by decide) (by decide) (by decide) (by decide) d_Mo_init_135 (fun q353 H hnq353 hI => ?_)
  obtain ⟨g354, eg354⟩ : ∃ z : hv_M, z = hv_up g335 q353 (.inl (cA 1, 6000, .inr (.inl (fun _ => 0)))) := ⟨_, rfl⟩
  have hI : hv_I D CL b0 g354 s.heap H locs := by rw [eg354]; exact hI
  have h355 : g354 x = some (.inr (5, [.int 0, .ref q1, .ref q8, .int 0, .int 0, .int 0, .ref q17, .ref q28, .ref q41, .ref q56, .ref q73, .ref q92, .ref q113, .ref q136, .ref q161, .ref q188, .ref q217, .ref q248, .int 0, .long 0, .long 0, .long 0, .long 0, .ref q281, .ref q316, .null, .int 0])) := by rw [eg354]; rw [hv_up_ne _ _ (hv_nn h336 hnq353)]; exact h336
  have h356 : g354 q1 = some (.inl (cA 0, 10200, .inl (fun _ => 0))) := by rw [eg354]; rw [hv_up_ne _ _ (hv_nn h337 hnq353)]; exact h337
  have h357 : g354 q8 = some (.inl (cA 0, 51000, .inl (fun _ => 0))) := by rw [eg354]; rw [hv_up_ne _ _ (hv_nn h338 hnq353)]; exact h338
  have h358 : g354 q17 = some (.inl (cA 0, 101, .inl (fun _ => 0))) := by rw [eg354]; rw [hv_up_ne _ _ (hv_nn h339 hnq353)]; exact h339
  have h359 : g354 q28 = some (.inl (cA 2, 100, .inl (fun _ => 0))) := by rw [eg354]; rw [hv_up_ne _ _ (hv_nn h340 hnq353)]; exact h340
  have h360 : g354 q41 = some (.inl (cA 0, 100, .inl (fun _ => 0))) := by rw [eg354]; rw [hv_up_ne _ _ (hv_nn h341 hnq353)]; exact h341
  have h361 : g354 q56 = some (.inl (cA 0, 100, .inl (fun _ => 0))) := by rw [eg354]; rw [hv_up_ne _ _ (hv_nn h342 hnq353)]; exact h342
  have h362 : g354 q73 = some (.inl (cA 0, 100, .inl (fun _ => 0))) := by rw [eg354]; rw [hv_up_ne _ _ (hv_nn h343 hnq353)]; exact h343
  have h363 : g354 q92 = some (.inl (cA 0, 100, .inl (fun _ => 0))) := by rw [eg354]; rw [hv_up_ne _ _ (hv_nn h344 hnq353)]; exact h344
  have h364 : g354 q113 = some (.inl (cA 0, 100, .inl (fun _ => 0))) := by rw [eg354]; rw [hv_up_ne _ _ (hv_nn h345 hnq353)]; exact h345
  have h365 : g354 q136 = some (.inl (cA 0, 100, .inl (fun _ => 0))) := by rw [eg354]; rw [hv_up_ne _ _ (hv_nn h346 hnq353)]; exact h346
  have h366 : g354 q161 = some (.inl (cA 0, 100, .inl (fun _ => 0))) := by rw [eg354]; rw [hv_up_ne _ _ (hv_nn h347 hnq353)]; exact h347
  have h367 : g354 q188 = some (.inl (cA 0, 100, .inl (fun _ => 0))) := by rw [eg354]; rw [hv_up_ne _ _ (hv_nn h348 hnq353)]; exact h348
  have h368 : g354 q217 = some (.inl (cA 0, 100, .inl (fun _ => 0))) := by rw [eg354]; rw [hv_up_ne _ _ (hv_nn h349 hnq353)]; exact h349
  have h369 : g354 q248 = some (.inl (cA 0, 100, .inl (fun _ => 0))) := by rw [eg354]; rw [hv_up_ne _ _ (hv_nn h350 hnq353)]; exact h350
  have h370 : g354 q281 = some (.inl (cA 1, 4, .inr (.inl (fun _ => 0)))) := by rw [eg354]; rw [hv_up_ne _ _ (hv_nn h351 hnq353)]; exact h351
  have h371 : g354 q316 = some (.inl (cA 1, 4, .inr (.inl (fun _ => 0)))) := by rw [eg354]; rw [hv_up_ne _ _ (hv_nn h352 hnq353)]; exact h352
  have h372 : g354 q353 = some (.inl (cA 1, 6000, .inr (.inl (fun _ => 0)))) := by rw [eg354]; exact hv_up_self _ _ _
  have ndq353 : (q353 :: [q316, q281, q248, q217, q188, q161, q136, q113, q92, q73, q56, q41, q28, q17, q8, q1, x]).Nodup := List.nodup_cons.mpr ⟨fun h9 => by
      simp only [List.mem_cons, List.not_mem_nil, or_false] at h9
      rcases h9 with e9 | e9 | e9 | e9 | e9 | e9 | e9 | e9 | e9 | e9 | e9 | e9 | e9 | e9 | e9 | e9 | e9
      · exact absurd e9.symm (hv_nn h352 hnq353)
      · exact absurd e9.symm (hv_nn h351 hnq353)
      · exact absurd e9.symm (hv_nn h350 hnq353)
      · exact absurd e9.symm (hv_nn h349 hnq353)
      · exact absurd e9.symm (hv_nn h348 hnq353)
      · exact absurd e9.symm (hv_nn h347 hnq353)
      · exact absurd e9.symm (hv_nn h346 hnq353)
      · exact absurd e9.symm (hv_nn h345 hnq353)
      · exact absurd e9.symm (hv_nn h344 hnq353)
      · exact absurd e9.symm (hv_nn h343 hnq353)
      · exact absurd e9.symm (hv_nn h342 hnq353)
      · exact absurd e9.symm (hv_nn h341 hnq353)
      · exact absurd e9.symm (hv_nn h340 hnq353)
      · exact absurd e9.symm (hv_nn h339 hnq353)
      · exact absurd e9.symm (hv_nn h338 hnq353)
      · exact absurd e9.symm (hv_nn h337 hnq353)
      · exact absurd e9.symm (hv_nn h336 hnq353)
    , ndq316⟩
  have fnq353 : f q353 = none := by
    cases hf9 : f q353 with
    | none => rfl
    | some y =>
      have z1 : q353 ≠ x := Ne.symm (hv_nn h336 hnq353)
      have k9 := kpq316 q353 y z1 hf9
      have k9 : g335 q353 = some y := by rw [eg335, hv_up_ne _ _ z1]; exact k9
      rw [hnq353] at k9
      cases k9
  have kpq353 : ∀ z y, z ≠ x → f z = some y → g354 z = some y := fun z y z1 hz => by
    have k9 := kpq316 z y z1 hz
    have k9 : g335 z = some y := by rw [eg335, hv_up_ne _ _ z1]; exact k9
    have k9 : g354 z = some y := by rw [eg354, hv_up_ne _ _ (hv_nn k9 hnq353)]; exact k9
    exact k9
  refine hv_putF hE k_Mo hI hname 25 (by decide) w541 h355 rfl rfl rfl rfl (Nat.le_of_ble_eq_true rfl) d_Mo_init_137 (fun H locs hI => ?_)
  obtain ⟨g373, eg373⟩ : ∃ z : hv_M, z = hv_up g354 x (.inr (5, [.int 0, .ref q1, .ref q8, .int 0, .int 0, .int 0, .ref q17, .ref q28, .ref q41, .ref q56, .ref q73, .ref q92, .ref q113, .ref q136, .ref q161, .ref q188, .ref q217, .ref q248, .int 0, .long 0, .long 0, .long 0, .long 0, .ref q281, .ref q316, .ref q353, .int 0])) := ⟨_, rfl⟩
  have hI : hv_I D CL b0 g373 s.heap H locs := by rw [eg373]; exact hI
  have h374 : g373 x = some (.inr (5, [.int 0, .ref q1, .ref q8, .int 0, .int 0, .int 0, .ref q17, .ref q28, .ref q41, .ref q56, .ref q73, .ref q92, .ref q113, .ref q136, .ref q161, .ref q188, .ref q217, .ref q248, .int 0, .long 0, .long 0, .long 0, .long 0, .ref q281, .ref q316, .ref q353, .int 0])) := by rw [eg373]; exact hv_up_self _ _ _
  have h375 : g373 q1 = some (.inl (cA 0, 10200, .inl (fun _ => 0))) := by rw [eg373]; rw [hv_up_ne _ _ (hv_ne h356 h355 (by simp))]; exact h356
  have h376 : g373 q8 = some (.inl (cA 0, 51000, .inl (fun _ => 0))) := by rw [eg373]; rw [hv_up_ne _ _ (hv_ne h357 h355 (by simp))]; exact h357
  have h377 : g373 q17 = some (.inl (cA 0, 101, .inl (fun _ => 0))) := by rw [eg373]; rw [hv_up_ne _ _ (hv_ne h358 h355 (by simp))]; exact h358
  have h378 : g373 q28 = some (.inl (cA 2, 100, .inl (fun _ => 0))) := by rw [eg373]; rw [hv_up_ne _ _ (hv_ne h359 h355 (by simp))]; exact h359
  have h379 : g373 q41 = some (.inl (cA 0, 100, .inl (fun _ => 0))) := by rw [eg373]; rw [hv_up_ne _ _ (hv_ne h360 h355 (by simp))]; exact h360
  have h380 : g373 q56 = some (.inl (cA 0, 100, .inl (fun _ => 0))) := by rw [eg373]; rw [hv_up_ne _ _ (hv_ne h361 h355 (by simp))]; exact h361
  have h381 : g373 q73 = some (.inl (cA 0, 100, .inl (fun _ => 0))) := by rw [eg373]; rw [hv_up_ne _ _ (hv_ne h362 h355 (by simp))]; exact h362
  have h382 : g373 q92 = some (.inl (cA 0, 100, .inl (fun _ => 0))) := by rw [eg373]; rw [hv_up_ne _ _ (hv_ne h363 h355 (by simp))]; exact h363
  have h383 : g373 q113 = some (.inl (cA 0, 100, .inl (fun _ => 0))) := by rw [eg373]; rw [hv_up_ne _ _ (hv_ne h364 h355 (by simp))]; exact h364
  have h384 : g373 q136 = some (.inl (cA 0, 100, .inl (fun _ => 0))) := by rw [eg373]; rw [hv_up_ne _ _ (hv_ne h365 h355 (by simp))]; exact h365
  have h385 : g373 q161 = some (.inl (cA 0, 100, .inl (fun _ => 0))) := by rw [eg373]; rw [hv_up_ne _ _ (hv_ne h366 h355 (by simp))]; exact h366
  have h386 : g373 q188 = some (.inl (cA 0, 100, .inl (fun _ => 0))) := by rw [eg373]; rw [hv_up_ne _ _ (hv_ne h367 h355 (by simp))]; exact h367
  have h387 : g373 q217 = some (.inl (cA 0, 100, .inl (fun _ => 0))) := by rw [eg373]; rw [hv_up_ne _ _ (hv_ne h368 h355 (by simp))]; exact h368
  have h388 : g373 q248 = some (.inl (cA 0, 100, .inl (fun _ => 0))) := by rw [eg373]; rw [hv_up_ne _ _ (hv_ne h369 h355 (by simp))]; exact h369
  have h389 : g373 q281 = some (.inl (cA 1, 4, .inr (.inl (fun _ => 0)))) := by rw [eg373]; rw [hv_up_ne _ _ (hv_ne h370 h355 (by simp))]; exact h370
  have h390 : g373 q316 = some (.inl (cA 1, 4, .inr (.inl (fun _ => 0)))) := by rw [eg373]; rw [hv_up_ne _ _ (hv_ne h371 h355 (by simp))]; exact h371
  have h391 : g373 q353 = some (.inl (cA 1, 6000, .inr (.inl (fun _ => 0)))) := by rw [eg373]; rw [hv_up_ne _ _ (hv_ne h372 h355 (by simp))]; exact h372
  obtain ⟨a, ea⟩ : ∃ z : Nat → Nat, z = fun i => [q353, q316, q281, q248, q217, q188, q161, q136, q113, q92, q73, q56, q41, q28, q17, q8, q1, x].getD (16 - i) 0 := ⟨_, rfl⟩
  have hN : moN x a := ⟨fun i j hi hj hij => by rw [ea]; exact nodup_getD ndq353 (show 16 - i < 18 by omega) (show 16 - j < 18 by omega) (by omega), fun i hi => by rw [ea]; exact nodup_getD (j := 17) ndq353 (show 16 - i < 18 by omega) (show 17 < 18 by omega) (by omega)⟩
  have kpe : ∀ z y, z ≠ x → f z = some y → g373 z = some y := fun z y z1 hz => by
    have k9 := kpq353 z y z1 hz
    have k9 : g373 z = some y := by rw [eg373, hv_up_ne _ _ z1]; exact k9
    exact k9
  exact hv_vret hE hr hlocks hI hK (⟨rfl, a, hN, by rw [ea]; exact h374, ⟨by rw [ea]; exact h375, by rw [ea]; exact h376, by rw [ea]; exact h377, by rw [ea]; exact h378, fun j hj => match j, hj with | 0, _ => by rw [ea]; exact h379 | 1, _ => by rw [ea]; exact h380 | 2, _ => by rw [ea]; exact h381 | 3, _ => by rw [ea]; exact h382 | 4, _ => by rw [ea]; exact h383 | 5, _ => by rw [ea]; exact h384 | 6, _ => by rw [ea]; exact h385 | 7, _ => by rw [ea]; exact h386 | 8, _ => by rw [ea]; exact h387 | 9, _ => by rw [ea]; exact h388 | j + 10, h9 => absurd h9 (by omega)⟩, by rw [ea]; exact h389, by rw [ea]; exact h390, by rw [ea]; exact h391, by rw [ea]; exact fnq353, kpe⟩) (by decide) (by decide) d_Mo_init_140

