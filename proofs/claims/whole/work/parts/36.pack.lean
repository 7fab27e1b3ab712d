section HVF
variable {p : Program} {l : Launch} {e : Env} {R : Room} {s : State} {m : MethodId} {args : Array Value} {below : List Frame} {meth : Method} {c : Code} {H : Heap} {locs : List Loc} {cells slots : Nat} {Q : State → Prop}
variable {cc : ByteArray} {pc : Nat} {ls : Array Slot} {rest : List Value} {D : va_G} {cl : List vw_C} {tys : List (ClassId × FieldType)} {Ts : List Cond} {b0 a ci N index : Nat} {f : hv_M} {H0 : Heap} {own host C : String} {T : u_T} {ty : Nat → FieldType} {fs : List Value} {v : Value}
variable {n t0 : Nat} {cA : ClassId} {i : Int32}
theorem hv_aastS (hE : hv_E p c cc s m args own Ts D cl tys) (hI : hv_I D cl b0 f H0 H locs) (t0 : Nat) {B : String} {g : Nat → Option Nat} {v0 : Nat} {vs : List Value} {T9 : u_T} {N9 : Nat} (he : f a = some (.inl (cA, n, .inr (.inr (.inr (.inr g)))))) (ht : tys[t0]? = some (cA, .object B)) (hv : f v0 = some (.inr (ci, vs))) (hc : cl[ci]? = some (B, T9, N9)) (hin : vp_in i n) (hd : decode cc pc = .ok (.aastore, 1))
    (kk : ∀ (H1 : Heap) (locs1 : List Loc), hv_I D cl b0 (hv_up f a (.inl (cA, n, .inr (.inr (.inr (.inr (va_up g i.toNatClampNeg (some v0)))))))) H0 H1 locs1 → W p l e R s m args below meth c H1 locs1 cells slots Q (F0 m (pc + 1) ls rest)) : W p l e R s m args below meth c H locs cells slots Q (F0 m pc ls (.ref v0 :: .int i :: .ref a :: rest)) := by
  obtain ⟨hx, hb, hown, hts, hK⟩ := hE
  have hlt : i.toNatClampNeg < n := Nat.not_le.mp fun q => hin (Or.inr q)
  have h0 : ¬ i < 0 := fun q => hin (Or.inl q)
  obtain ⟨r', hr', cellV, g1, g2, g3, -⟩ := hI.1 v0 _ hv
  cases hc.symm.trans hr'
  have hcls := (hK.1 ci _ hc).2.1
  obtain ⟨kA, comp, k1, k2, k3, -⟩ := (hK.2 t0 _ ht).2
  obtain ⟨kE, hkE, -⟩ := Vm.findClass_spec k3
  obtain ⟨kC, hkC, -⟩ := Vm.findClass_spec hcls
  cases k3.symm.trans hcls
  have f3 := va_assign (hK.1 ci _ hc).2
  refine W.aast hx hb (hI.1 a _ he) (fun q h => by cases h) (fun h => by cases h) k1 k2 rfl hkE ⟨h0, by show _ < (arrV _ _ _).slots.size; rw [arrV_size]; exact hlt⟩ g1 (fun q h => by rw [g3] at h; cases h) (by rw [g2]; exact hkC) (by rw [g2]; exact f3) rfl rfl hd fun H1 e1 z oq => ?_
  refine kk H1 _ (hI.set he ?_ z oq)
  show H1[a]? = some (vp_cell _ _)
  rw [e1, vp_cell_q, vp_cell_q, arrV_store]
  congr 2
  funext q
  by_cases hq : q = i.toNatClampNeg
  · subst hq
    simp [updV, va_up, va_rf]
  · simp [updV, va_up, hq]
end HVF

/-! ===== lay, pack ===== -/
def layR (V : Wd) (b : Nat) (x y : Int64) (r : Mk) : Mk × Int32 :=
  if 20000 < wA V 9 b then ((r.1, 0), -1) else if (layF V 10 b x y (r.1, 0)).1 = true then ((layF V 10 b x y (r.1, 0)).2, nI (layF V 10 b x y (r.1, 0)).2.2) else (((layF V 10 b x y (r.1, 0)).2.1, 0), -1)

set_option maxHeartbeats 4000000 in
set_option maxRecDepth 100000 in
theorem c_BP_lay (l : Launch) (hl0 : l.stackTraces = false) (b0 : Nat) (D : va_G) (cA : Nat → ClassId) (f : hv_M) (x la ma mk n bn : Nat) (rw9 : Nat) (k X Y : Int32) (r : Mk) (V : Wd) (gb : Nat → Option Nat) (ad ca pa : Nat → Nat) (gc : Nat → Nat → Option Nat) (gp : Nat → Nat → Int32) (hx0 : f x = some (.inr (0, [.ref la, .int (nI n), .ref ma, .int (nI bn), .ref mk]))) (hma : f ma = some (.inl (cA 4, 100, .inr (.inr (.inr (.inr gb)))))) (had : ∀ j, j < bn → gb j = some (ad j)) (hbn : bn ≤ 100) (hbs : ∀ b, b < bn → boxR cA f V ad ca pa gc gp b) (hbv : ∀ b, b < bn → bxV V b) (hm : mkAt cA f mk rw9 r) : hv_Met l y_BP_lay [Cond.code y_BP_lay b_BP_lay 5 (some FieldType.int)] (RM 23 2 12) b0 (Fa D cA) D CL [.ref x, .int k, .int X, .int Y] f (fun v g => isBx k bn = true ∧ sz X.toInt64 = true ∧ sz Y.toInt64 = true ∧ v = some (.int (layR V k.toNatClampNeg X.toInt64 Y.toInt64 r).2) ∧ mkAt cA g mk rw9 (layR V k.toNatClampNeg X.toInt64 Y.toInt64 r).1 ∧ ∀ z, z ≠ mk → z ≠ rw9 → g z = f z) (fun E g => g = f ∧ ((E = "java/lang/IndexOutOfBoundsException" ∧ isBx k bn = false) ∨ (E = "java/lang/IllegalArgumentException" ∧ isBx k bn = true ∧ (sz X.toInt64 && sz Y.toInt64) = false))) := by
  refine hv_Met.of (own := "BoxPacker") (by decide) rfl (Nat.le_of_ble_eq_true rfl) ?_
  intro p e s m below meth c hE hml hout hr hlocks hname hK hI ls hl
  have hl : lv_has ls 5 [(0, .ref x), (1, .int k), (2, .int X), (3, .int Y)] := hl
  obtain ⟨hx, hb, hown, hts, hVK⟩ := id hE
  have hin : isBx k bn = true → f (ad k.toNatClampNeg) = some (boxC V ca pa k.toNatClampNeg) := fun hk => (hbs _ (isBx_nat hk hbn).1).1
  have hx1 : x ≠ mk := hv_ne hx0 hm.1 (by simp)
  have hx2 : x ≠ rw9 := hv_ne hx0 hm.2 (by simp)
  have hmr : mk ≠ rw9 := hv_ne hm.1 hm.2 (by simp)
  refine lv_aload_n hx hb d_BP_lay_0 rfl (lv_at hl 0 rfl) ?_
  refine lv_iload_n hx hb d_BP_lay_1 rfl (lv_at hl 1 rfl) ?_
  obtain ⟨aj, eaj⟩ : ∃ z : Nat, z = ad k.toNatClampNeg := ⟨_, rfl⟩
  refine hv_V (As := [.int k]) (rest := []) hE hml hK hI (c_BP_boxNumbered l hl0 b0 D cA f x la ma mk n bn k gb ad hx0 hma had hbn) cd_BP_boxNumbered w279 w281 ws2 hx0 rfl rfl hl.1 (Nat.le_of_ble_eq_true rfl) d_BP_lay_2 ⟨by decide, by decide⟩ ⟨by decide, by decide⟩ (fun v9 g1 H locs hp hI => ?_) (fun q9 E9 ce9 g9 H locs hp hI hce hcv hcl => ?_)
  rotate_left
  · skip
    obtain ⟨hE9, hg9, hc9⟩ := hp
    rw [hE9] at hcl
    rw [hg9] at hI
    exact hv_out hout hlocks hI hK hce hcv hcl (⟨rfl, Or.inl ⟨rfl, hc9⟩⟩) (by decide) (by decide)
  obtain ⟨hv, hk, hg9⟩ := hp
  rw [hv, ← eaj]
  rw [hg9] at hI
  refine W.eq (g2 := F0 m 5 ls [.ref aj]) rfl ?_
  have hgj : f aj = some (boxC V ca pa k.toNatClampNeg) := by rw [eaj]; exact hin hk
  refine lv_astore (lv' := [(4, .ref aj), (0, .ref x), (1, .int k), (2, .int X), (3, .int Y)]) hx hb d_BP_lay_5 hl (by decide) rfl (fun ls hl => ?_)
  refine lv_iload_n hx hb d_BP_lay_7 rfl (lv_at hl 3 rfl) ?_
  refine lv_i2l (v := X.toInt64) hx hb d_BP_lay_8 rfl ?_
  refine hv_Sp (As := [.long X.toInt64]) (rest := []) hE hml hK hI (c_BP_isSize l hl0 b0 D cA f X.toInt64) cd_BP_isSize w151 w152 rfl rfl rfl hl.1 (Nat.le_of_ble_eq_true rfl) d_BP_lay_9 ⟨by decide, by decide⟩ ⟨by decide, by decide⟩ (fun H locs hI => ?_)
  refine W.eq (g2 := F0 m 12 ls [.int (b2i (sz X.toInt64))]) rfl ?_
  refine lv_if_eq (tgt := 23) hx hb d_BP_lay_12 (by decide) (fun c12 => ?_) (fun c12 => ?_)
  · skip
    have k12 := b2i_f c12
    exact hv_throw hE hl0 (cls := "java/lang/IllegalArgumentException") (text := "x or y is no size") (names := NMS) (by decide) (by decide) hI hK (hv_thr tw_IAE (by decide)) (by rw [hml]; exact hl.1) d_BP_lay_23 d_BP_lay_26 d_BP_lay_27 d_BP_lay_29 d_BP_lay_32 hout (by decide) (by decide) hlocks (⟨rfl, Or.inr ⟨rfl, hk, by simp [k12]⟩⟩) (by decide) (by decide) (by decide) (by decide)
  · skip
    have k12 := b2i_t c12
    refine lv_iload_n hx hb d_BP_lay_15 rfl (lv_at hl 4 rfl) ?_
    refine lv_i2l (v := Y.toInt64) hx hb d_BP_lay_16 rfl ?_
    refine hv_Sp (As := [.long Y.toInt64]) (rest := []) hE hml hK hI (c_BP_isSize l hl0 b0 D cA f Y.toInt64) cd_BP_isSize w151 w152 rfl rfl rfl hl.1 (Nat.le_of_ble_eq_true rfl) d_BP_lay_17 ⟨by decide, by decide⟩ ⟨by decide, by decide⟩ (fun H locs hI => ?_)
    refine W.eq (g2 := F0 m 20 ls [.int (b2i (sz Y.toInt64))]) rfl ?_
    refine lv_if_ne (tgt := 33) hx hb d_BP_lay_20 (by decide) (fun c20 => ?_) (fun c20 => ?_)
    · skip
      have k20 := b2i_t c20
      refine lv_aload_n hx hb d_BP_lay_33 rfl (lv_at hl 1 rfl) ?_
      refine hv_get hE k_BP hI 4 (by decide) w48 hx0 rfl d_BP_lay_34 ?_
      refine hv_VN (As := []) (rest := []) hE hml hK hI (c_Marks_clear l hl0 b0 D cA f mk rw9 (nI r.2) hm.1) cd_Marks_clear w483 w485 ws13 hm.1 rfl rfl hl.1 (Nat.le_of_ble_eq_true rfl) d_BP_lay_37 ⟨by decide, by decide⟩ ⟨by decide, by decide⟩ (fun v9 g3 H locs hp hI => ?_) (fun q9 E9 ce9 g9 H locs hp => hp.elim)
      obtain ⟨hv, egc⟩ := hp
      rw [hv]
      refine W.eq (g2 := F0 m 40 ls []) rfl ?_
      have hgk2 : g3 mk = some (.inr (4, [.ref rw9, .int 0])) := by rw [egc]; exact hv_up_self _ _ _
      have hfo : ∀ z, z ≠ mk → z ≠ rw9 → g3 z = f z := fun z z1 z2 => by rw [egc, hv_up_ne _ _ z1]
      have hgm : mkAt cA g3 mk rw9 (r.1, 0) := ⟨hgk2, by rw [egc, hv_up_ne _ _ (Ne.symm hmr)]; exact hm.2⟩
      have h4 : g3 x = some (.inr (0, [.ref la, .int (nI n), .ref ma, .int (nI bn), .ref mk])) := by rw [egc, hv_up_ne _ _ (hv_ne hx0 hm.1 (by simp))]; exact hx0
      have h5 : g3 ma = some (.inl (cA 4, 100, .inr (.inr (.inr (.inr gb))))) := by rw [egc, hv_up_ne _ _ (hv_ne hma hm.1 (by simp))]; exact hma
      have h6 : g3 rw9 = some (.inl (cA 1, 6000, .inr (.inl (r.1)))) := by rw [egc, hv_up_ne _ _ (hv_ne hm.2 hm.1 (by simp))]; exact hm.2
      have h7 : g3 aj = some (boxC V ca pa k.toNatClampNeg) := by rw [egc, hv_up_ne _ _ (hv_ne hgj hm.1 (by simp))]; exact hgj
      refine lv_aload hx hb d_BP_lay_40 (lv_at hl 0 rfl) ?_
      refine hv_getN hE k_Box hI 4 (by decide) w334 h7 rfl d_BP_lay_42 ?_
      refine lv_sipush (v := 20000) hx hb d_BP_lay_45 (by decide) ?_
      refine lv_icmp_gt (tgt := 64) hx hb d_BP_lay_48 (by decide) (fun c48 => ?_) (fun c48 => ?_)
      · skip
        refine lv_aload_n hx hb d_BP_lay_64 rfl (lv_at hl 1 rfl) ?_
        refine hv_get hE k_BP hI 4 (by decide) w48 h4 rfl d_BP_lay_65 ?_
        refine hv_VN (As := []) (rest := []) hE hml hK hI (c_Marks_clear l hl0 b0 D cA g3 mk rw9 0 hgk2) cd_Marks_clear w483 w485 ws13 hgk2 rfl rfl hl.1 (Nat.le_of_ble_eq_true rfl) d_BP_lay_68 ⟨by decide, by decide⟩ ⟨by decide, by decide⟩ (fun v9 g9 H locs hp hI => ?_) (fun q9 E9 ce9 g9 H locs hp => hp.elim)
        obtain ⟨hv, egc⟩ := hp
        rw [hv]
        refine W.eq (g2 := F0 m 71 ls []) rfl ?_
        have hgk8 : g9 mk = some (.inr (4, [.ref rw9, .int 0])) := by rw [egc]; exact hv_up_self _ _ _
        have hfo : ∀ z, z ≠ mk → z ≠ rw9 → g9 z = f z := fun z z1 z2 => by rw [egc, hv_up_ne _ _ z1]; exact hfo z z1 z2
        have hgm : mkAt cA g9 mk rw9 (r.1, 0) := ⟨hgk8, by rw [egc, hv_up_ne _ _ (Ne.symm hmr)]; exact h6⟩
        have h10 : g9 x = some (.inr (0, [.ref la, .int (nI n), .ref ma, .int (nI bn), .ref mk])) := by rw [egc, hv_up_ne _ _ (hv_ne h4 hgk2 (by simp))]; exact h4
        have h11 : g9 ma = some (.inl (cA 4, 100, .inr (.inr (.inr (.inr gb))))) := by rw [egc, hv_up_ne _ _ (hv_ne h5 hgk2 (by simp))]; exact h5
        have h12 : g9 rw9 = some (.inl (cA 1, 6000, .inr (.inl (r.1)))) := by rw [egc, hv_up_ne _ _ (hv_ne h6 hgk2 (by simp))]; exact h6
        have h13 : g9 aj = some (boxC V ca pa k.toNatClampNeg) := by rw [egc, hv_up_ne _ _ (hv_ne h7 hgk2 (by simp))]; exact h7
        refine lv_iconst (v := (-1)) hx hb d_BP_lay_71 (by decide) ?_
        exact hv_iret hE hr hlocks hI hK (v := (-1)) ((show _ ∧ _ ∧ _ ∧ _ ∧ _ ∧ _ by rw [show layR V k.toNatClampNeg X.toInt64 Y.toInt64 r = _ from if_pos c48]; exact ⟨hk, k12, k20, rfl, hgm, hfo⟩)) (by decide) (by decide) d_BP_lay_72
      · skip
        refine lv_aload_n hx hb d_BP_lay_51 rfl (lv_at hl 1 rfl) ?_
        refine lv_aload hx hb d_BP_lay_52 (lv_at hl 0 rfl) ?_
        refine lv_iload_n hx hb d_BP_lay_54 rfl (lv_at hl 3 rfl) ?_
        refine lv_i2l (v := X.toInt64) hx hb d_BP_lay_55 rfl ?_
        refine lv_iload_n hx hb d_BP_lay_56 rfl (lv_at hl 4 rfl) ?_
        refine lv_i2l (v := Y.toInt64) hx hb d_BP_lay_57 rfl ?_
        have hcon := layP_all l hl0 b0 D cA x la ma mk n bn rw9 V bn ad ca pa gc gp hbv 10 g3 k.toNatClampNeg X.toInt64 Y.toInt64 (r.1, 0) h4 (fun b hb => (hbs b hb).marks hm hfo) hgm (Nat.zero_le _) (isBx_nat hk hbn).1 (hbv _ (isBx_nat hk hbn).1).2.2.2.2.2.2.2.2.1.2
        rw [← eaj] at hcon
        refine hv_V (As := [.ref aj, .long X.toInt64, .long Y.toInt64]) (rest := []) hE hml hK hI hcon cd_BP_layOut w487 w489 ws14 h4 rfl rfl hl.1 (Nat.le_of_ble_eq_true rfl) d_BP_lay_58 ⟨by decide, by decide⟩ ⟨by decide, by decide⟩ (fun v9 g14 H locs hp hI => ?_) (fun q9 E9 ce9 g9 H locs hp => hp.elim)
        obtain ⟨hv, hm9, ho9⟩ := hp
        rw [hv]
        refine W.eq (g2 := F0 m 61 ls [.int (b2i (layF V 10 k.toNatClampNeg X.toInt64 Y.toInt64 (r.1, 0)).1)]) rfl ?_
        have hfo : ∀ z, z ≠ mk → z ≠ rw9 → g14 z = f z := fun z z1 z2 => by rw [ho9 z z1 z2]; exact hfo z z1 z2
        have h15 : g14 x = some (.inr (0, [.ref la, .int (nI n), .ref ma, .int (nI bn), .ref mk])) := by rw [ho9 _ (hv_ne h4 hgm.1 (by simp)) (hv_ne h4 hgm.2 (by simp))]; exact h4
        have h16 : g14 ma = some (.inl (cA 4, 100, .inr (.inr (.inr (.inr gb))))) := by rw [ho9 _ (hv_ne h5 hgm.1 (by simp)) (hv_ne h5 hgm.2 (by simp))]; exact h5
        have h17 : g14 aj = some (boxC V ca pa k.toNatClampNeg) := by rw [ho9 _ (hv_ne h7 hgm.1 (by simp)) (hv_ne h7 hgm.2 (by simp))]; exact h7
        refine lv_if_ne (tgt := 73) hx hb d_BP_lay_61 (by decide) (fun c61 => ?_) (fun c61 => ?_)
        · skip
          have k61 := b2i_t c61
          refine lv_aload_n hx hb d_BP_lay_73 rfl (lv_at hl 1 rfl) ?_
          refine hv_get hE k_BP hI 4 (by decide) w48 h15 rfl d_BP_lay_74 ?_
          refine hv_getN hE k_Marks hI 1 (by decide) w37 hm9.1 rfl d_BP_lay_77 ?_
          exact hv_iret hE hr hlocks hI hK (v := nI (layF V 10 k.toNatClampNeg X.toInt64 Y.toInt64 (r.1, 0)).2.2) ((show _ ∧ _ ∧ _ ∧ _ ∧ _ ∧ _ by rw [show layR V k.toNatClampNeg X.toInt64 Y.toInt64 r = _ from (if_neg c48).trans (if_pos k61)]; exact ⟨hk, k12, k20, rfl, hm9, hfo⟩)) (by decide) (by decide) d_BP_lay_80
        · skip
          have k61 := b2i_f c61
          refine lv_aload_n hx hb d_BP_lay_64 rfl (lv_at hl 1 rfl) ?_
          refine hv_get hE k_BP hI 4 (by decide) w48 h15 rfl d_BP_lay_65 ?_
          refine hv_VN (As := []) (rest := []) hE hml hK hI (c_Marks_clear l hl0 b0 D cA g14 mk rw9 (nI (layF V 10 k.toNatClampNeg X.toInt64 Y.toInt64 (r.1, 0)).2.2) hm9.1) cd_Marks_clear w483 w485 ws13 hm9.1 rfl rfl hl.1 (Nat.le_of_ble_eq_true rfl) d_BP_lay_68 ⟨by decide, by decide⟩ ⟨by decide, by decide⟩ (fun v9 g19 H locs hp hI => ?_) (fun q9 E9 ce9 g9 H locs hp => hp.elim)
          obtain ⟨hv, egc⟩ := hp
          rw [hv]
          refine W.eq (g2 := F0 m 71 ls []) rfl ?_
          have hgk18 : g19 mk = some (.inr (4, [.ref rw9, .int 0])) := by rw [egc]; exact hv_up_self _ _ _
          have hfo : ∀ z, z ≠ mk → z ≠ rw9 → g19 z = f z := fun z z1 z2 => by rw [egc, hv_up_ne _ _ z1]; exact hfo z z1 z2
          have hgm : mkAt cA g19 mk rw9 ((layF V 10 k.toNatClampNeg X.toInt64 Y.toInt64 (r.1, 0)).2.1, 0) := ⟨hgk18, by rw [egc, hv_up_ne _ _ (Ne.symm hmr)]; exact hm9.2⟩
          have h20 : g19 x = some (.inr (0, [.ref la, .int (nI n), .ref ma, .int (nI bn), .ref mk])) := by rw [egc, hv_up_ne _ _ (hv_ne h15 hm9.1 (by simp))]; exact h15
          have h21 : g19 ma = some (.inl (cA 4, 100, .inr (.inr (.inr (.inr gb))))) := by rw [egc, hv_up_ne _ _ (hv_ne h16 hm9.1 (by simp))]; exact h16
          have h22 : g19 rw9 = some (.inl (cA 1, 6000, .inr (.inl ((layF V 10 k.toNatClampNeg X.toInt64 Y.toInt64 (r.1, 0)).2.1)))) := by rw [egc, hv_up_ne _ _ (hv_ne hm9.2 hm9.1 (by simp))]; exact hm9.2
          have h23 : g19 aj = some (boxC V ca pa k.toNatClampNeg) := by rw [egc, hv_up_ne _ _ (hv_ne h17 hm9.1 (by simp))]; exact h17
          refine lv_iconst (v := (-1)) hx hb d_BP_lay_71 (by decide) ?_
          exact hv_iret hE hr hlocks hI hK (v := (-1)) ((show _ ∧ _ ∧ _ ∧ _ ∧ _ ∧ _ by rw [show layR V k.toNatClampNeg X.toInt64 Y.toInt64 r = _ from (if_neg c48).trans (if_neg (by rw [k61]; decide))]; exact ⟨hk, k12, k20, rfl, hgm, hfo⟩)) (by decide) (by decide) d_BP_lay_72
    · skip
      have k20 := b2i_f c20
      exact hv_throw hE hl0 (cls := "java/lang/IllegalArgumentException") (text := "x or y is no size") (names := NMS) (by decide) (by decide) hI hK (hv_thr tw_IAE (by decide)) (by rw [hml]; exact hl.1) d_BP_lay_23 d_BP_lay_26 d_BP_lay_27 d_BP_lay_29 d_BP_lay_32 hout (by decide) (by decide) hlocks (⟨rfl, Or.inr ⟨rfl, hk, by simp [k12, k20]⟩⟩) (by decide) (by decide) (by decide) (by decide)

def okPack (how size gr : Int32) : Bool := !decide (how < 0) && decide (how ≤ 2) && sz size.toInt64 && sz gr.toInt64

set_option maxHeartbeats 4000000 in
set_option maxRecDepth 100000 in
theorem c_BP_pack (l : Launch) (hl0 : l.stackTraces = false) (b0 : Nat) (D : va_G) (cA : Nat → ClassId) (f : hv_M) (x la ma mk n bn : Nat) (bel : Bool) (how size gr : Int32) (gl gb : Nat → Option Nat) (iv : Nat → It) (bi : Nat → Int32 × Int32) (hx0 : f x = some (.inr (0, [.ref la, .int (nI n), .ref ma, .int (nI bn), .ref mk]))) (hla : f la = some (.inl (cA 3, 100, .inr (.inr (.inr (.inr gl)))))) (hma : f ma = some (.inl (cA 4, 100, .inr (.inr (.inr (.inr gb)))))) (hit : itsAt f n gl iv) (hbi : ∀ i, i < n → ∀ t w h d q z, iv i = .inl (t, w, h, d, some q, z) → bxAt f q (bi q)) (hor : ordsIn n iv) (hn : n ≤ 100) (hbn : bn ≤ 100) (hlm : la ≠ ma) : hv_Met l y_BP_pack [Cond.code y_BP_pack b_BP_pack 7 (some FieldType.int)] (RM 5 12 300) b0 (Fa D cA) D CL [.ref x, .int (b2i bel), .int how, .int size, .int gr] f (fun v g => v = some (.int (nI bn)) ∧ okPack how size gr = true ∧ bn < 100 ∧ ∃ (dp al w h d ex od to ov : Int32) (q q1 q2 : Nat) (gc : Nat → Option Nat) (gp : Nat → Int32), initF bi iv n 0 1 (nI n) = (dp, al) ∧ ¬ 10 < dp ∧ fitF bel how size gr iv n = some (w, h, d, ex, od, to, ov, gp) ∧ f q = none ∧ f q1 = none ∧ f q2 = none ∧ g q = some (.inr (1, [.int (b2i bel), .ref q1, .ref q2, .int dp, .int al, .int w, .int h, .int d, .int ex, .int od, .int to, .int ov])) ∧ g q1 = some (.inl (cA 3, n, .inr (.inr (.inr (.inr gc))))) ∧ (∀ j, j < n → gc j = gl j) ∧ g q2 = some (.inl (cA 0, n, .inl gp)) ∧ g ma = some (.inl (cA 4, 100, .inr (.inr (.inr (.inr (va_up gb bn (some q))))))) ∧ g x = some (bpE la ma mk 0 (bn + 1)) ∧ ∀ z y, z ≠ x → z ≠ ma → f z = some y → g z = some y) (fun E g => (∀ z y, f z = some y → g z = some y) ∧ ((E = "java/lang/IllegalArgumentException" ∧ okPack how size gr = false) ∨ (E = "java/lang/UnsupportedOperationException" ∧ okPack how size gr = true ∧ (100 ≤ bn ∨ (bn < 100 ∧ 10 < (initF bi iv n 0 1 (nI n)).1))) ∨ (E = "java/lang/IllegalStateException" ∧ okPack how size gr = true ∧ bn < 100 ∧ ¬ 10 < (initF bi iv n 0 1 (nI n)).1 ∧ fitF bel how size gr iv n = none))) := by
  refine hv_Met.of (own := "BoxPacker") (by decide) rfl (Nat.le_of_ble_eq_true rfl) ?_
  intro p e s m below meth c hE hml hout hr hlocks hname hK hI ls hl
  have hl : lv_has ls 7 [(0, .ref x), (1, .int (b2i bel)), (2, .int how), (3, .int size), (4, .int gr)] := hl
  obtain ⟨hx, hb, hown, hts, hVK⟩ := id hE
  refine lv_iload_n hx hb d_BP_pack_0 rfl (lv_at hl 2 rfl) ?_
  refine lv_if_lt (tgt := 9) hx hb d_BP_pack_1 (by decide) (fun c1 => ?_) (fun c1 => ?_)
  · skip
    exact hv_throw hE hl0 (cls := "java/lang/IllegalArgumentException") (text := "how is not 0 .. 2") (names := NMS) (by decide) (by decide) hI hK (hv_thr tw_IAE (by decide)) (by rw [hml]; exact hl.1) d_BP_pack_9 d_BP_pack_12 d_BP_pack_13 d_BP_pack_15 d_BP_pack_18 hout (by decide) (by decide) hlocks (⟨fun _ _ h => h, Or.inl ⟨rfl, (by simp [okPack, c1])⟩⟩) (by decide) (by decide) (by decide) (by decide)
  · skip
    refine lv_iload_n hx hb d_BP_pack_4 rfl (lv_at hl 2 rfl) ?_
    refine lv_iconst (v := 2) hx hb d_BP_pack_5 (by decide) ?_
    refine lv_icmp_le (tgt := 19) hx hb d_BP_pack_6 (by decide) (fun c6 => ?_) (fun c6 => ?_)
    · skip
      refine lv_iload_n hx hb d_BP_pack_19 rfl (lv_at hl 3 rfl) ?_
      refine lv_i2l (v := size.toInt64) hx hb d_BP_pack_20 rfl ?_
      refine hv_Sp (As := [.long size.toInt64]) (rest := []) hE hml hK hI (c_BP_isSize l hl0 b0 D cA f size.toInt64) cd_BP_isSize w151 w152 rfl rfl rfl hl.1 (Nat.le_of_ble_eq_true rfl) d_BP_pack_21 ⟨by decide, by decide⟩ ⟨by decide, by decide⟩ (fun H locs hI => ?_)
      refine W.eq (g2 := F0 m 24 ls [.int (b2i (sz size.toInt64))]) rfl ?_
      refine lv_if_eq (tgt := 36) hx hb d_BP_pack_24 (by decide) (fun c24 => ?_) (fun c24 => ?_)
      · skip
        have k24 := b2i_f c24
        exact hv_throw hE hl0 (cls := "java/lang/IllegalArgumentException") (text := "the size or the greatest depth is no size") (names := NMS) (by decide) (by decide) hI hK (hv_thr tw_IAE (by decide)) (by rw [hml]; exact hl.1) d_BP_pack_36 d_BP_pack_39 d_BP_pack_40 d_BP_pack_42 d_BP_pack_45 hout (by decide) (by decide) hlocks (⟨fun _ _ h => h, Or.inl ⟨rfl, (by simp [okPack, c1, c6, k24])⟩⟩) (by decide) (by decide) (by decide) (by decide)
      · skip
        have k24 := b2i_t c24
        refine lv_iload hx hb d_BP_pack_27 (lv_at hl 4 rfl) ?_
        refine lv_i2l (v := gr.toInt64) hx hb d_BP_pack_29 rfl ?_
        refine hv_Sp (As := [.long gr.toInt64]) (rest := []) hE hml hK hI (c_BP_isSize l hl0 b0 D cA f gr.toInt64) cd_BP_isSize w151 w152 rfl rfl rfl hl.1 (Nat.le_of_ble_eq_true rfl) d_BP_pack_30 ⟨by decide, by decide⟩ ⟨by decide, by decide⟩ (fun H locs hI => ?_)
        refine W.eq (g2 := F0 m 33 ls [.int (b2i (sz gr.toInt64))]) rfl ?_
        refine lv_if_ne (tgt := 46) hx hb d_BP_pack_33 (by decide) (fun c33 => ?_) (fun c33 => ?_)
        · skip
          have k33 := b2i_t c33
          refine lv_aload_n hx hb d_BP_pack_46 rfl (lv_at hl 0 rfl) ?_
          refine hv_get hE k_BP hI 3 (by decide) w47 hx0 rfl d_BP_pack_47 ?_
          refine lv_bipush (v := 100) hx hb d_BP_pack_50 (by decide) ?_
          refine lv_icmp_lt (tgt := 65) hx hb d_BP_pack_52 (by decide) (fun c52 => ?_) (fun c52 => ?_)
          · skip
            have hb1 : bn < 100 := (nI_lt100 (by omega)).mp c52
            refine hv_new hE k_Box hI w26 w311 w13 (fs := [.int 0, .null, .null, .int 0, .int 0, .int 0, .int 0, .int 0, .int 0, .int 0, .int 0, .int 0]) (by decide +kernel) (by decide) (by decide) d_BP_pack_65 (fun q1 H hnq1 hI => ?_)
            obtain ⟨g2, eg2⟩ : ∃ z : hv_M, z = hv_up f q1 (.inr (1, [.int 0, .null, .null, .int 0, .int 0, .int 0, .int 0, .int 0, .int 0, .int 0, .int 0, .int 0])) := ⟨_, rfl⟩
            have hI : hv_I D CL b0 g2 s.heap H locs := by rw [eg2]; exact hI
            have h3 : g2 x = some (.inr (0, [.ref la, .int (nI n), .ref ma, .int (nI bn), .ref mk])) := by rw [eg2]; rw [hv_up_ne _ _ (hv_nn hx0 hnq1)]; exact hx0
            have h4 : g2 la = some (.inl (cA 3, 100, .inr (.inr (.inr (.inr gl))))) := by rw [eg2]; rw [hv_up_ne _ _ (hv_nn hla hnq1)]; exact hla
            have h5 : g2 ma = some (.inl (cA 4, 100, .inr (.inr (.inr (.inr gb))))) := by rw [eg2]; rw [hv_up_ne _ _ (hv_nn hma hnq1)]; exact hma
            have h6 : g2 q1 = some (.inr (1, [.int 0, .null, .null, .int 0, .int 0, .int 0, .int 0, .int 0, .int 0, .int 0, .int 0, .int 0])) := by rw [eg2]; exact hv_up_self _ _ _
            refine lv_dup hx hb d_BP_pack_68 rfl ?_
            refine lv_iload_n hx hb d_BP_pack_69 rfl (lv_at hl 1 rfl) ?_
            refine lv_aload_n hx hb d_BP_pack_70 rfl (lv_at hl 0 rfl) ?_
            refine hv_get hE k_BP hI 0 (by decide) w44 h3 rfl d_BP_pack_71 ?_
            refine lv_aload_n hx hb d_BP_pack_74 rfl (lv_at hl 0 rfl) ?_
            refine hv_get hE k_BP hI 1 (by decide) w45 h3 rfl d_BP_pack_75 ?_
            have hkp : ∀ z y, f z = some y → g2 z = some y := fun z y hz => by rw [eg2, hv_up_ne _ _ (hv_nn hz hnq1)]; exact hz
            have hitg : itsAt g2 n gl iv := hit.keep (fun z x9 hz => by rw [hkp z _ hz, hz])
            have hbig : ∀ i, i < n → ∀ t w h d q z, iv i = .inl (t, w, h, d, some q, z) → bxAt g2 q (bi q) := fun i hi t w h d q z e9 => by obtain ⟨a1, a2, a3, a4, a5, a6, a7, a8, a9, a10, h9⟩ := hbi i hi t w h d q z e9; exact ⟨a1, a2, a3, a4, a5, a6, a7, a8, a9, a10, hkp _ _ h9⟩
            refine hv_CN (As := [.int (b2i bel), .ref la, .int (nI n)]) (rest := [.ref q1]) hE hml hK hI (c_Box_init l hl0 b0 D cA g2 q1 la n bel gl iv bi h6 h4 hitg hbig hn) cd_Box_init rfl w312 w313 rfl hl.1 (Nat.le_of_ble_eq_true rfl) d_BP_pack_78 ⟨by decide, by decide⟩ ⟨by decide, by decide⟩ (fun v9 g7 H locs hp hI => ?_) (fun q9 E9 ce9 g9 H locs hp => hp.elim)
            obtain ⟨hv, qc, qp, gc, dp, al, hnc, hnp, hcp, hgl, hin9, hgb, hgc, hgp, hfo9⟩ := hp
            rw [hv]
            refine W.eq (g2 := F0 m 81 ls [.ref q1]) rfl ?_
            have hkq : ∀ z y, z ≠ q1 → g2 z = some y → g7 z = some y := fun z y z1 hz => by rw [hfo9 z z1 (hv_nn hz hnc) (hv_nn hz hnp)]; exact hz
            have hkp2 : ∀ z y, f z = some y → g7 z = some y := fun z y hz => hkq z y (hv_nn hz hnq1) (hkp z y hz)
            have hitg : itsAt g7 n gc iv := fun i hi => by obtain ⟨z, z1, z2⟩ := hit i hi; exact ⟨z, by rw [hgl i hi]; exact z1, hkp2 _ _ z2⟩
            have hfc : f qc = none := by cases h9 : f qc with | none => rfl | some y => rw [hkp _ _ h9] at hnc; cases hnc
            have hfp : f qp = none := by cases h9 : f qp with | none => rfl | some y => rw [hkp _ _ h9] at hnp; cases hnp
            have h8 : g7 x = some (.inr (0, [.ref la, .int (nI n), .ref ma, .int (nI bn), .ref mk])) := by rw [hfo9 _ (hv_ne h3 h6 (by simp)) (hv_nn h3 hnc) (hv_nn h3 hnp)]; exact h3
            have h9 : g7 la = some (.inl (cA 3, 100, .inr (.inr (.inr (.inr gl))))) := by rw [hfo9 _ (hv_ne h4 h6 (by simp)) (hv_nn h4 hnc) (hv_nn h4 hnp)]; exact h4
            have h10 : g7 ma = some (.inl (cA 4, 100, .inr (.inr (.inr (.inr gb))))) := by rw [hfo9 _ (hv_ne h5 h6 (by simp)) (hv_nn h5 hnc) (hv_nn h5 hnp)]; exact h5
            refine lv_astore (lv' := [(5, .ref q1), (0, .ref x), (1, .int (b2i bel)), (2, .int how), (3, .int size), (4, .int gr)]) hx hb d_BP_pack_81 hl (by decide) rfl (fun ls hl => ?_)
            refine lv_aload hx hb d_BP_pack_83 (lv_at hl 0 rfl) ?_
            refine hv_getN hE k_Box hI 3 (by decide) w332 hgb rfl d_BP_pack_85 ?_
            refine lv_bipush (v := 10) hx hb d_BP_pack_88 (by decide) ?_
            refine lv_icmp_le (tgt := 103) hx hb d_BP_pack_90 (by decide) (fun c90 => ?_) (fun c90 => ?_)
            · skip
              refine lv_aload hx hb d_BP_pack_103 (lv_at hl 0 rfl) ?_
              refine lv_iload_n hx hb d_BP_pack_105 rfl (lv_at hl 3 rfl) ?_
              refine lv_iload_n hx hb d_BP_pack_106 rfl (lv_at hl 4 rfl) ?_
              refine lv_iload hx hb d_BP_pack_107 (lv_at hl 5 rfl) ?_
              refine hv_VN (As := [.int how, .int size, .int gr]) (rest := []) hE hml hK hI (c_Box_fit l hl0 b0 D cA g7 q1 qc qp n bel dp al how size gr gc iv hgb hgc hgp hitg hor hn) cd_Box_fit w376 w378 ws3 hgb rfl rfl hl.1 (Nat.le_of_ble_eq_true rfl) d_BP_pack_109 ⟨by decide, by decide⟩ ⟨by decide, by decide⟩ (fun v9 g11 H locs hp hI => ?_) (fun q9 E9 ce9 g9 H locs hp hI hce hcv hcl => ?_)
              rotate_left
              · skip
                obtain ⟨hE9, hf9, hk9⟩ := hp
                rw [hE9] at hcl
                exact hv_out hout hlocks hI hK hce hcv hcl ⟨fun z y hz => hk9 z y (hv_nn hz hnq1) (hv_nn hz hfp) (hkp2 z y hz), Or.inr (Or.inr ⟨rfl, (by simp [okPack, c1, c6, k24, k33]), hb1, by rw [hin9]; exact Int32.not_lt.mpr c90, hf9⟩)⟩ (by decide) (by decide)
              obtain ⟨hv, w, h, d, ex, od, to, ov, gp, hft, hgb2, hgp2, hk9⟩ := hp
              rw [hv]
              refine W.eq (g2 := F0 m 112 ls []) rfl ?_
              have hkp3 : ∀ z y, f z = some y → g11 z = some y := fun z y hz => hk9 z y (hv_nn hz hnq1) (hv_nn hz hfp) (hkp2 z y hz)
              have hgc3 := hk9 qc _ (hv_ne hgc hgb (by simp)) hcp hgc
              have hk_x := hkp3 _ _ hx0
              have hk_la := hkp3 _ _ hla
              have hk_ma := hkp3 _ _ hma
              refine lv_aload_n hx hb d_BP_pack_112 rfl (lv_at hl 1 rfl) ?_
              refine hv_get hE k_BP hI 3 (by decide) w47 hk_x rfl d_BP_pack_113 ?_
              refine lv_istore (lv' := [(6, .int (nI bn)), (5, .ref q1), (0, .ref x), (1, .int (b2i bel)), (2, .int how), (3, .int size), (4, .int gr)]) hx hb d_BP_pack_116 hl (by decide) rfl (fun ls hl => ?_)
              refine lv_aload_n hx hb d_BP_pack_118 rfl (lv_at hl 2 rfl) ?_
              refine hv_get hE k_BP hI 2 (by decide) w46 hk_x rfl d_BP_pack_119 ?_
              refine lv_iload hx hb d_BP_pack_122 (lv_at hl 0 rfl) ?_
              refine lv_aload hx hb d_BP_pack_124 (lv_at hl 1 rfl) ?_
              refine hv_aastS hE hI 4 hk_ma rfl hgb2 rfl (pk_in bn 100 hb1 rfl (by omega)) d_BP_pack_126 (fun H locs hI => ?_)
              rw [nI_cl (by omega)] at hI
              obtain ⟨g12, eg12⟩ : ∃ z : hv_M, z = hv_up g11 ma (.inl (cA 4, 100, .inr (.inr (.inr (.inr (va_up gb bn (some q1))))))) := ⟨_, rfl⟩
              have hI : hv_I D CL b0 g12 s.heap H locs := by rw [eg12]; exact hI
              have h13 : g12 x = some (.inr (0, [.ref la, .int (nI n), .ref ma, .int (nI bn), .ref mk])) := by rw [eg12]; rw [hv_up_ne _ _ (hv_ne hk_x hk_ma (by simp))]; exact hk_x
              have h14 : g12 la = some (.inl (cA 3, 100, .inr (.inr (.inr (.inr gl))))) := by rw [eg12]; rw [hv_up_ne _ _ hlm]; exact hk_la
              have h15 : g12 ma = some (.inl (cA 4, 100, .inr (.inr (.inr (.inr (va_up gb bn (some q1))))))) := by rw [eg12]; exact hv_up_self _ _ _
              have h16 : g12 q1 = some (.inr (1, [.int (b2i bel), .ref qc, .ref qp, .int dp, .int al, .int w, .int h, .int d, .int ex, .int od, .int to, .int ov])) := by rw [eg12]; rw [hv_up_ne _ _ (hv_ne hgb2 hk_ma (by simp))]; exact hgb2
              have h17 : g12 qc = some (.inl (cA 3, n, .inr (.inr (.inr (.inr gc))))) := by rw [eg12]; rw [hv_up_ne _ _ (Ne.symm (hv_nn hma hfc))]; exact hgc3
              have h18 : g12 qp = some (.inl (cA 0, n, .inl gp)) := by rw [eg12]; rw [hv_up_ne _ _ (hv_ne hgp2 hk_ma (by simp))]; exact hgp2
              refine lv_aload_n hx hb d_BP_pack_127 rfl (lv_at hl 2 rfl) ?_
              refine lv_dup hx hb d_BP_pack_128 rfl ?_
              refine hv_get hE k_BP hI 3 (by decide) w47 h13 rfl d_BP_pack_129 ?_
              refine lv_iconst (v := 1) hx hb d_BP_pack_132 (by decide) ?_
              refine lv_iadd hx hb d_BP_pack_133 ?_
              refine hv_put hE k_BP hI 3 (by decide) w47 h13 rfl rfl rfl (Nat.le_of_ble_eq_true rfl) d_BP_pack_134 (fun H locs hI => ?_)
              obtain ⟨g19, eg19⟩ : ∃ z : hv_M, z = hv_up g12 x (.inr (0, [.ref la, .int (nI n), .ref ma, .int ((nI bn) + 1), .ref mk])) := ⟨_, rfl⟩
              have hI : hv_I D CL b0 g19 s.heap H locs := by rw [eg19]; exact hI
              have h20 : g19 x = some (.inr (0, [.ref la, .int (nI n), .ref ma, .int ((nI bn) + 1), .ref mk])) := by rw [eg19]; exact hv_up_self _ _ _
              have h21 : g19 la = some (.inl (cA 3, 100, .inr (.inr (.inr (.inr gl))))) := by rw [eg19]; rw [hv_up_ne _ _ (hv_ne h14 h13 (by simp))]; exact h14
              have h22 : g19 ma = some (.inl (cA 4, 100, .inr (.inr (.inr (.inr (va_up gb bn (some q1))))))) := by rw [eg19]; rw [hv_up_ne _ _ (hv_ne h15 h13 (by simp))]; exact h15
              have h23 : g19 q1 = some (.inr (1, [.int (b2i bel), .ref qc, .ref qp, .int dp, .int al, .int w, .int h, .int d, .int ex, .int od, .int to, .int ov])) := by rw [eg19]; rw [hv_up_ne _ _ (hv_ne h16 h13 (by simp))]; exact h16
              have h24 : g19 qc = some (.inl (cA 3, n, .inr (.inr (.inr (.inr gc))))) := by rw [eg19]; rw [hv_up_ne _ _ (hv_ne h17 h13 (by simp))]; exact h17
              have h25 : g19 qp = some (.inl (cA 0, n, .inl gp)) := by rw [eg19]; rw [hv_up_ne _ _ (hv_ne h18 h13 (by simp))]; exact h18
              refine lv_aload_n hx hb d_BP_pack_137 rfl (lv_at hl 2 rfl) ?_
              refine lv_iconst (v := 0) hx hb d_BP_pack_138 (by decide) ?_
              refine hv_put hE k_BP hI 1 (by decide) w45 h20 rfl rfl rfl (Nat.le_of_ble_eq_true rfl) d_BP_pack_139 (fun H locs hI => ?_)
              obtain ⟨g26, eg26⟩ : ∃ z : hv_M, z = hv_up g19 x (.inr (0, [.ref la, .int 0, .ref ma, .int ((nI bn) + 1), .ref mk])) := ⟨_, rfl⟩
              have hI : hv_I D CL b0 g26 s.heap H locs := by rw [eg26]; exact hI
              have h27 : g26 x = some (.inr (0, [.ref la, .int 0, .ref ma, .int ((nI bn) + 1), .ref mk])) := by rw [eg26]; exact hv_up_self _ _ _
              have h28 : g26 la = some (.inl (cA 3, 100, .inr (.inr (.inr (.inr gl))))) := by rw [eg26]; rw [hv_up_ne _ _ (hv_ne h21 h20 (by simp))]; exact h21
              have h29 : g26 ma = some (.inl (cA 4, 100, .inr (.inr (.inr (.inr (va_up gb bn (some q1))))))) := by rw [eg26]; rw [hv_up_ne _ _ (hv_ne h22 h20 (by simp))]; exact h22
              have h30 : g26 q1 = some (.inr (1, [.int (b2i bel), .ref qc, .ref qp, .int dp, .int al, .int w, .int h, .int d, .int ex, .int od, .int to, .int ov])) := by rw [eg26]; rw [hv_up_ne _ _ (hv_ne h23 h20 (by simp))]; exact h23
              have h31 : g26 qc = some (.inl (cA 3, n, .inr (.inr (.inr (.inr gc))))) := by rw [eg26]; rw [hv_up_ne _ _ (hv_ne h24 h20 (by simp))]; exact h24
              have h32 : g26 qp = some (.inl (cA 0, n, .inl gp)) := by rw [eg26]; rw [hv_up_ne _ _ (hv_ne h25 h20 (by simp))]; exact h25
              refine lv_iload hx hb d_BP_pack_142 (lv_at hl 0 rfl) ?_
              have hkp4 : ∀ z y, z ≠ x → z ≠ ma → f z = some y → g26 z = some y := fun z y z1 z2 hz => by rw [eg26, hv_up_ne _ _ z1, eg19, hv_up_ne _ _ z1, eg12, hv_up_ne _ _ z2]; exact hkp3 z y hz
              exact hv_iret hE hr hlocks hI hK (v := nI bn) (⟨rfl, (by simp [okPack, c1, c6, k24, k33]), hb1, dp, al, w, h, d, ex, od, to, ov, q1, qc, qp, gc, gp, hin9, Int32.not_lt.mpr c90, hft, hnq1, hfc, hfp, h30, h31, hgl, h32, h29, by rw [show bpE la ma mk 0 (bn + 1) = .inr (0, [.ref la, .int 0, .ref ma, .int (nI bn + 1), .ref mk]) from by rw [nI_1]; rfl]; exact h27, hkp4⟩) (by decide) (by decide) d_BP_pack_144
            · skip
              exact hv_throw hE hl0 (cls := "java/lang/UnsupportedOperationException") (text := "the box would be more than 10 deep") (names := NMS) (by decide) (by decide) hI hK (hv_thr tw_UOE (by decide)) (by rw [hml]; exact hl.1) d_BP_pack_93 d_BP_pack_96 d_BP_pack_97 d_BP_pack_99 d_BP_pack_102 hout (by decide) (by decide) hlocks (⟨hkp2, Or.inr (Or.inl ⟨rfl, (by simp [okPack, c1, c6, k24, k33]), Or.inr ⟨hb1, by rw [hin9]; exact Int32.not_le.mp c90⟩⟩)⟩) (by decide) (by decide) (by decide) (by decide)
          · skip
            have hb1 : 100 ≤ bn := Nat.le_of_not_lt (fun q => c52 ((nI_lt100 (by omega)).mpr q))
            exact hv_throw hE hl0 (cls := "java/lang/UnsupportedOperationException") (text := "there are 100 boxes") (names := NMS) (by decide) (by decide) hI hK (hv_thr tw_UOE (by decide)) (by rw [hml]; exact hl.1) d_BP_pack_55 d_BP_pack_58 d_BP_pack_59 d_BP_pack_61 d_BP_pack_64 hout (by decide) (by decide) hlocks (⟨fun _ _ h => h, Or.inr (Or.inl ⟨rfl, (by simp [okPack, c1, c6, k24, k33]), Or.inl hb1⟩)⟩) (by decide) (by decide) (by decide) (by decide)
        · skip
          have k33 := b2i_f c33
          exact hv_throw hE hl0 (cls := "java/lang/IllegalArgumentException") (text := "the size or the greatest depth is no size") (names := NMS) (by decide) (by decide) hI hK (hv_thr tw_IAE (by decide)) (by rw [hml]; exact hl.1) d_BP_pack_36 d_BP_pack_39 d_BP_pack_40 d_BP_pack_42 d_BP_pack_45 hout (by decide) (by decide) hlocks (⟨fun _ _ h => h, Or.inl ⟨rfl, (by simp [okPack, c1, c6, k24, k33])⟩⟩) (by decide) (by decide) (by decide) (by decide)
    · skip
      exact hv_throw hE hl0 (cls := "java/lang/IllegalArgumentException") (text := "how is not 0 .. 2") (names := NMS) (by decide) (by decide) hI hK (hv_thr tw_IAE (by decide)) (by rw [hml]; exact hl.1) d_BP_pack_9 d_BP_pack_12 d_BP_pack_13 d_BP_pack_15 d_BP_pack_18 hout (by decide) (by decide) hlocks (⟨fun _ _ h => h, Or.inl ⟨rfl, (by simp [okPack, c1, c6])⟩⟩) (by decide) (by decide) (by decide) (by decide)

