/-! ===== the law: what holds at its start ===== -/
set_option maxRecDepth 100000 in
theorem st_words : ∀ q ∈ ST, Cond.stringRef q.1 q.2.1 q.2.2 ∈ lw_tbl := by decide +kernel
theorem st_own : ∀ q ∈ ST, q.1 = "BoxPacker" := by decide
set_option maxRecDepth 100000 in
theorem nc_words : ∀ q ∈ NC, Cond.not (Cond.castable q.1 q.2) ∈ flatC (Jvm.Cond.and given_1 narrow_1) := by decide +kernel
set_option maxRecDepth 100000 in
theorem tx_lays : Cond.laysStatic Bundle.tN "UNASSIGNED_STACK" Bundle.steD ∈ lw_tbl ∧ Cond.laysStatic Bundle.tN "SUPPRESSED_SENTINEL" Bundle.listD ∈ lw_tbl := by decide +kernel
set_option maxRecDepth 100000 in
theorem tx_refs : Cond.isRef (.static Bundle.tN "UNASSIGNED_STACK" Bundle.steD) ∈ flatC (Jvm.Cond.and given_1 narrow_1) ∧ Cond.isRef (.static Bundle.tN "SUPPRESSED_SENTINEL" Bundle.listD) ∈ flatC (Jvm.Cond.and given_1 narrow_1) := by decide +kernel
set_option maxHeartbeats 4000000 in
set_option maxRecDepth 100000 in
theorem law_facts {p : Program} {s : State} {m : MethodId} {meth : Method} {c : Code} {b L : Nat} {xs : Nat → Int32} (C0 : lw_At p s m meth c b L xs) : ∃ (D : va_G) (cA : Nat → ClassId), hv_KK s.heap.size (Fa D cA) s := by
  obtain ⟨hx, hb, hr, hml, hown, hts, hX, hbl, hlocks, hgv⟩ := C0
  have hw : ∀ w ∈ TS, w.before #[Value.ref b] s = true := fun w hw => hts w (List.mem_filter.mp hw).1
  have hgf := flat_of_before _ hgv
  obtain ⟨c0, i0, hk0⟩ := u_known (C := R_BP) (T := F_BP) (N := 5) (n := 5) hw k_BP.2.1 (hw _ w17)
  obtain ⟨c1, i1, hk1⟩ := u_known (C := R_Box) (T := F_Box) (N := 12) (n := 12) hw k_Box.2.1 (hw _ w311)
  obtain ⟨c2, i2, hk2⟩ := u_known (C := R_Solid) (T := F_Solid) (N := 6) (n := 6) hw k_Solid.2.1 (hw _ w158)
  obtain ⟨c3, i3, hk3⟩ := u_known (C := R_Space) (T := F_Space) (N := 5) (n := 5) hw k_Space.2.1 (hw _ w242)
  obtain ⟨c4, i4, hk4⟩ := u_known (C := R_Marks) (T := F_Marks) (N := 2) (n := 2) hw k_Marks.2.1 (hw _ w29)
  obtain ⟨c5, i5, hk5⟩ := u_known (C := R_Mo) (T := F_Mo) (N := 27) (n := 27) hw k_Mo.2.1 (hw _ w510)
  obtain ⟨a0, ka0, co0, x0, y0, z0⟩ := Cond.arrayClass_spec (hw _ w374)
  obtain ⟨a1, ka1, co1, x1, y1, z1⟩ := Cond.arrayClass_spec (hw _ w43)
  obtain ⟨a2, ka2, co2, x2, y2, z2⟩ := Cond.arrayClass_spec (hw _ w598)
  obtain ⟨co3, a3, ka3, x3, -, y3, z3, n3⟩ := Cond.arrayOver_spec (hw _ w25)
  obtain ⟨co4, a4, ka4, x4, -, y4, z4, n4⟩ := Cond.arrayOver_spec (hw _ w27)
  obtain ⟨D, hD⟩ : ∃ D : va_G, ∀ (k : Nat) (q : vw_C), CL[k]? = some q → u_Kn s q.1 q.2.1 q.2.2 (D.1 k) (D.2 k) := by
    refine ⟨(fun k => if k = 0 then c0 else if k = 1 then c1 else if k = 2 then c2 else if k = 3 then c3 else if k = 4 then c4 else c5, fun k => if k = 0 then i0 else if k = 1 then i1 else if k = 2 then i2 else if k = 3 then i3 else if k = 4 then i4 else i5), ?_⟩
    intro k q hq
    match k, hq with
    | 0, hq => cases hq; exact hk0
    | 1, hq => cases hq; exact hk1
    | 2, hq => cases hq; exact hk2
    | 3, hq => cases hq; exact hk3
    | 4, hq => cases hq; exact hk4
    | 5, hq => cases hq; exact hk5
    | k + 6, hq => simp at hq
  obtain ⟨cA, hA⟩ : ∃ cA : Nat → ClassId, ∀ (k : Nat) (q : ClassId × FieldType), (TY cA)[k]? = some q → ArrOfT s q.1 q.2 ∧ va_RA s q.1 q.2 := by
    refine ⟨fun k => if k = 0 then a0 else if k = 1 then a1 else if k = 2 then a2 else if k = 3 then a3 else a4, ?_⟩
    intro k q hq
    match k, hq with
    | 0, hq => cases hq; exact ⟨fun N z => ⟨fun k h => (by cases h), ka0, y0, co0, z0⟩, x0⟩
    | 1, hq => cases hq; exact ⟨fun N z => ⟨fun k h => (by cases h), ka1, y1, co1, z1⟩, x1⟩
    | 2, hq => cases hq; exact ⟨fun N z => ⟨fun k h => (by cases h), ka2, y2, co2, z2⟩, x2⟩
    | 3, hq => cases hq; exact ⟨fun N z => ⟨fun k h => (by cases h), ka3, y3, co3, z3⟩, ka3, co3, y3, z3, x3, n3⟩
    | 4, hq => cases hq; exact ⟨fun N z => ⟨fun k h => (by cases h), ka4, y4, co4, z4⟩, ka4, co4, y4, z4, x4, n4⟩
    | k + 5, hq => simp at hq
  refine ⟨D, cA, fun V hW hq => ⟨fun A w h => ts_stay h hW (hw w h), va_K.moved hW.alike ⟨hD, hA⟩, fun A w h => ?_, fun q h => ?_, fun q h => va_Nc.moved hW.alike (va_Nc.of (hgf _ (nc_words q h)))⟩⟩
  · have l1 := hts _ tx_lays.1
    have l2 := hts _ tx_lays.2
    have r1 := hgf _ tx_refs.1
    have r2 := hgf _ tx_refs.2
    simp only [TX, List.mem_cons, List.not_mem_nil, or_false] at h
    rcases h with rfl | rfl | rfl | rfl
    · exact hv_stayL hW (Nat.le_refl _) hq l1
    · exact hv_stayL hW (Nat.le_refl _) hq l2
    · exact hv_stayR hW (Nat.le_refl _) hq l1 r1
    · exact hv_stayR hW (Nat.le_refl _) hq l2 r2
  · have h1 := hts _ (st_words q h)
    have h2 := st_own q h
    have h3 : s.vm.findClass q.1 = some c0 := by rw [h2]; exact hk0.2.1
    obtain ⟨k9, cf, i9, a9, -, -, -, -, -, hev⟩ := Cond.stringRef_spec h3 h1
    exact ⟨a9, vk_R.warm hW (vk_R.of h1 hev)⟩

set_option maxHeartbeats 4000000 in
set_option maxRecDepth 100000 in
theorem whole_start {p : Program} {e : Env} {s : State} {m : MethodId} {below : List Frame} {meth : Method} {c : Code} (l : Launch) (hl0 : l.stackTraces = false) {b L : Nat} {xs : Nat → Int32} (hL : L ≤ 3072) (C0 : lw_At p s m meth c b L xs) : W p l e room_1 s m #[Value.ref b] below meth c s.heap [] 0 0 (lw_Z below #[Value.ref b] s) (entryFrame m ([Value.ref b] : List Value).toArray 8) := by
  obtain ⟨D, cA, hK⟩ := law_facts C0
  obtain ⟨hx, hb, hr, hml, hown, hts, hX, hbl, hlocks, hgv⟩ := id C0
  have hE : hv_E p c code s m #[Value.ref b] "BoxPackerLaw" TS D CL (TY cA) := ⟨hx, hb, hown, hK.here.1 _, hK.here.2.1⟩
  have hl := lv_entry ([.ref b]) (n := 8) (Nat.le_of_ble_eq_true rfl)
  rw [lg_entry_eq]
  generalize (lg_sl ([.ref b]) ++ List.replicate (8 - (lg_sl ([.ref b])).length) Slot.unset).toArray = ls at hl ⊢
  have hl : lv_has ls 8 [(0, .ref b)] := hl
  have hI : hv_I D CL s.heap.size (fun _ => none) s.heap s.heap [] := ⟨fun a x h => (by cases h), fun a x h => (by cases h), Nat.le_refl _, va_S.rf⟩
  refine hv_new hE k_BP hI w16 w17 w1 (fs := [.null, .int 0, .null, .int 0, .null]) (by decide +kernel) (Nat.le_of_ble_eq_true rfl) (Nat.le_of_ble_eq_true rfl) d_Law_law_0 (fun x H hnx hI => ?_)
  obtain ⟨g0, eg0⟩ : ∃ z : hv_M, z = hv_up (fun _ => none) x (.inr (0, [.null, .int 0, .null, .int 0, .null])) := ⟨_, rfl⟩
  rw [← eg0] at hI
  have hg0 : g0 x = some (.inr (0, [.null, .int 0, .null, .int 0, .null])) := by rw [eg0]; exact hv_up_self _ _ _
  refine lv_dup hx hb d_Law_law_3 rfl ?_
  refine hv_C (As := []) (rest := [.ref x]) hE hml hK hI (c_BP_init l hl0 s.heap.size D cA g0 x hg0) cd_BP_init rfl w18 w19 rfl hl.1 (Nat.le_of_ble_eq_true rfl) d_Law_law_4 ⟨Nat.le_of_ble_eq_true rfl, Nat.le_of_ble_eq_true rfl⟩ ⟨Nat.le_of_ble_eq_true rfl, Nat.le_of_ble_eq_true rfl⟩ (fun v9 g1 H locs hp hI => ?_) (fun q9 E9 ce9 g9 H locs hp => hp.elim)
  obtain ⟨hv9, la, ma, mk, rw9, hlm, b1, b2, b3, b4, b5, bk⟩ := hp
  rw [hv9]
  refine W.eq (g2 := F0 m 7 ls [.ref x]) rfl ?_
  refine lv_astore_n (lv' := [(1, .ref x), (0, .ref b)]) hx hb d_Law_law_7 rfl hl (by decide) rfl (fun ls hl => ?_)
  refine hv_new hE k_Mo hI w509 w510 w3 (fs := [.int 0, .null, .null, .int 0, .int 0, .int 0, .null, .null, .null, .null, .null, .null, .null, .null, .null, .null, .null, .null, .int 0, .long 0, .long 0, .long 0, .long 0, .null, .null, .null, .int 0]) (by decide +kernel) (Nat.le_of_ble_eq_true rfl) (Nat.le_of_ble_eq_true rfl) d_Law_law_8 (fun mo H hnmo hI => ?_)
  obtain ⟨g2, eg2⟩ : ∃ z : hv_M, z = hv_up g1 mo (.inr (5, [.int 0, .null, .null, .int 0, .int 0, .int 0, .null, .null, .null, .null, .null, .null, .null, .null, .null, .null, .null, .null, .int 0, .long 0, .long 0, .long 0, .long 0, .null, .null, .null, .int 0])) := ⟨_, rfl⟩
  rw [← eg2] at hI
  have hg2 : g2 mo = some (.inr (5, [.int 0, .null, .null, .int 0, .int 0, .int 0, .null, .null, .null, .null, .null, .null, .null, .null, .null, .null, .null, .null, .int 0, .long 0, .long 0, .long 0, .long 0, .null, .null, .null, .int 0])) := by rw [eg2]; exact hv_up_self _ _ _
  have k2 : ∀ z y, g1 z = some y → g2 z = some y := fun z y hz => by rw [eg2, hv_up_ne _ _ (hv_nn hz hnmo)]; exact hz
  refine lv_dup hx hb d_Law_law_11 rfl ?_
  refine hv_C (As := []) (rest := [.ref mo]) hE hml hK hI (c_Mo_init l hl0 s.heap.size D cA g2 mo hg2) cd_Mo_init rfl w511 w512 rfl hl.1 (Nat.le_of_ble_eq_true rfl) d_Law_law_12 ⟨Nat.le_of_ble_eq_true rfl, Nat.le_of_ble_eq_true rfl⟩ ⟨Nat.le_of_ble_eq_true rfl, Nat.le_of_ble_eq_true rfl⟩ (fun v9 g3 H locs hp hI => ?_) (fun q9 E9 ce9 g9 H locs hp => hp.elim)
  obtain ⟨hv9, a, hN, q1, q2, q3, q4, q5, q6, qk⟩ := hp
  rw [hv9]
  refine W.eq (g2 := F0 m 15 ls [.ref mo]) rfl ?_
  refine lv_astore_n (lv' := [(2, .ref mo), (1, .ref x), (0, .ref b)]) hx hb d_Law_law_15 rfl hl (by decide) rfl (fun ls hl => ?_)
  have k3 : ∀ z y, g1 z = some y → g3 z = some y := fun z y hz => qk z y (hv_nn hz hnmo) (k2 z y hz)
  refine lv_iconst (v := 1) hx hb d_Law_law_16 (by decide) ?_
  refine hv_newL hE hI 1 rfl w43 (n := 1) (by decide) (by decide) (by decide) (Nat.le_of_ble_eq_true rfl) (Nat.le_of_ble_eq_true rfl) d_Law_law_17 (fun o H hno hI => ?_)
  obtain ⟨g4, eg4⟩ : ∃ z : hv_M, z = hv_up g3 o (.inl (cA 1, 1, .inr (.inl (fun _ => 0)))) := ⟨_, rfl⟩
  rw [← eg4] at hI
  have k4 : ∀ z y, g3 z = some y → g4 z = some y := fun z y hz => by rw [eg4, hv_up_ne _ _ (hv_nn hz hno)]; exact hz
  have ho : g4 o = some (outE cA (fun _ => 0)) := by rw [eg4]; exact hv_up_self _ _ _
  refine lv_astore_n (lv' := [(3, .ref o), (2, .ref mo), (1, .ref x), (0, .ref b)]) hx hb d_Law_law_19 rfl hl (by decide) rfl (fun ls hl => ?_)
  refine lv_iconst (v := 0) hx hb d_Law_law_20 (by decide) ?_
  refine lv_istore (lv' := [(4, .int 0), (3, .ref o), (2, .ref mo), (1, .ref x), (0, .ref b)]) hx hb d_Law_law_21 hl (by decide) rfl (fun ls hl => ?_)
  have hRP : RP cA g4 x mo o 0 (fun _ => 0) := RP_start hlm (k4 _ _ (k3 _ _ b1)) (k4 _ _ (k3 _ _ b2)) (k4 _ _ (k3 _ _ b3)) (k4 _ _ (k3 _ _ b4)) (k4 _ _ (k3 _ _ b5)) hN (k4 _ _ q1) ⟨k4 _ _ q2.1, k4 _ _ q2.2.1, k4 _ _ q2.2.2.1, k4 _ _ q2.2.2.2.1, fun j hj => k4 _ _ (q2.2.2.2.2 j hj)⟩ (k4 _ _ q3) (k4 _ _ q4) (k4 _ _ q5) (hv_nn (k2 _ _ b5) q6) ho
  refine W_widen (k := 100 + 12 * 0) (n9 := 75000 + 300 * 0) (Nat.le_of_ble_eq_true rfl) (Nat.le_of_ble_eq_true rfl) ?_
  exact law_loop hl0 hL hx hb hr hml hlocks hE hK hX hbl x mo o 513 0 g4 0 (fun _ => 0) H locs ls (by omega) (by omega) hRP hI (lv_sub hl [4, 3, 2, 1, 0] rfl)
