/-! ===== items are added ===== -/
theorem b2i_t {b : Bool} (h : ¬ b2i b = 0) : b = true := by cases b with | true => rfl | false => exact absurd rfl h
theorem b2i_f {b : Bool} (h : b2i b = 0) : b = false := b2i_ne.mp h
abbrev bpE (la ma mk : Nat) (n bn : Nat) : va_E := .inr (0, [.ref la, .int (nI n), .ref ma, .int (nI bn), .ref mk])
/-- one item more: its cell is new -/
def addedI (cA : Nat → ClassId) (f g : hv_M) (x la ma mk n bn : Nat) (gl : Nat → Option Nat) (e : va_E) : Prop :=
  ∃ q, f q = none ∧ g x = some (bpE la ma mk (n + 1) bn) ∧ g la = some (.inl (cA 3, 100, .inr (.inr (.inr (.inr (va_up gl n (some q))))))) ∧ g q = some e ∧ ∀ z, z ≠ x → z ≠ la → z ≠ q → g z = f z
def okLeaf (t w h d : Int32) : Bool := !decide (t < 0) && decide (t ≤ 65535) && sz w.toInt64 && sz h.toInt64 && sz d.toInt64
def okRule (w h d : Int32) : Bool := szr w && szr h && szr d
def okGlue (w a b d z : Int32) : Bool := sz w.toInt64 && sz a.toInt64 && !decide (a < 0) && sz d.toInt64 && !decide (d < 0) && ord4 b && ord4 z

set_option maxHeartbeats 4000000 in
set_option maxRecDepth 100000 in
theorem c_BP_leaf (l : Launch) (hl0 : l.stackTraces = false) (b0 : Nat) (D : va_G) (cA : Nat → ClassId) (f : hv_M) (x la ma mk n bn : Nat) (t w h d : Int32) (gl : Nat → Option Nat) (hx0 : f x = some (.inr (0, [.ref la, .int (nI n), .ref ma, .int (nI bn), .ref mk]))) (hla : f la = some (.inl (cA 3, 100, .inr (.inr (.inr (.inr gl)))))) (hn : n < 2 ^ 31) : hv_Met l y_BP_leaf [Cond.code y_BP_leaf b_BP_leaf 5 (some FieldType.int)] (RM 4 3 18) b0 (Fa D cA) D CL [.ref x, .int t, .int w, .int h, .int d] f (fun v g => v = some (.int (nI n)) ∧ okLeaf t w h d = true ∧ n < 100 ∧ addedI cA f g x la ma mk n bn gl (itE (.inl (t, w, h, d, none, 0)))) (fun E g => (E = "java/lang/IllegalArgumentException" ∧ okLeaf t w h d = false ∧ g = f) ∨ (E = "java/lang/UnsupportedOperationException" ∧ okLeaf t w h d = true ∧ 100 ≤ n ∧ g = f)) := by
  refine hv_Met.of (own := "BoxPacker") (by decide) rfl (Nat.le_of_ble_eq_true rfl) ?_
  intro p e s m below meth c hE hml hout hr hlocks hname hK hI ls hl
  have hl : lv_has ls 5 [(0, .ref x), (1, .int t), (2, .int w), (3, .int h), (4, .int d)] := hl
  obtain ⟨hx, hb, hown, hts, hVK⟩ := id hE
  refine lv_iload_n hx hb d_BP_leaf_0 rfl (lv_at hl 1 rfl) ?_
  refine lv_if_lt (tgt := 10) hx hb d_BP_leaf_1 (by decide) (fun c1 => ?_) (fun c1 => ?_)
  · skip
    exact hv_throw hE hl0 (cls := "java/lang/IllegalArgumentException") (text := "the tag is not 0 .. 65535") (names := NMS) (by decide) (by decide) hI hK (hv_thr tw_IAE (by decide)) (by rw [hml]; exact hl.1) d_BP_leaf_10 d_BP_leaf_13 d_BP_leaf_14 d_BP_leaf_16 d_BP_leaf_19 hout (by decide) (by decide) hlocks (Or.inl ⟨rfl, by simp [okLeaf, c1], rfl⟩) (by decide) (by decide) (by decide) (by decide)
  · skip
    refine lv_iload_n hx hb d_BP_leaf_4 rfl (lv_at hl 1 rfl) ?_
    refine lv_ldc (v := 65535) hx hb hown (hts _ w81) d_BP_leaf_5 ?_
    refine lv_icmp_le (tgt := 20) hx hb d_BP_leaf_7 (by decide) (fun c7 => ?_) (fun c7 => ?_)
    · skip
      refine lv_iload_n hx hb d_BP_leaf_20 rfl (lv_at hl 2 rfl) ?_
      refine lv_i2l (v := w.toInt64) hx hb d_BP_leaf_21 rfl ?_
      refine hv_Sp (As := [.long w.toInt64]) (rest := []) hE hml hK hI (c_BP_isSize l hl0 b0 D cA f w.toInt64) cd_BP_isSize w151 w152 rfl rfl rfl hl.1 (Nat.le_of_ble_eq_true rfl) d_BP_leaf_22 ⟨by decide, by decide⟩ ⟨by decide, by decide⟩ (fun H locs hI => ?_)
      refine W.eq (g2 := F0 m 25 ls [.int (b2i (sz w.toInt64))]) rfl ?_
      refine lv_if_eq (tgt := 45) hx hb d_BP_leaf_25 (by decide) (fun c25 => ?_) (fun c25 => ?_)
      · skip
        have k25 := b2i_f c25
        exact hv_throw hE hl0 (cls := "java/lang/IllegalArgumentException") (text := "the width, height or depth is no size") (names := NMS) (by decide) (by decide) hI hK (hv_thr tw_IAE (by decide)) (by rw [hml]; exact hl.1) d_BP_leaf_45 d_BP_leaf_48 d_BP_leaf_49 d_BP_leaf_51 d_BP_leaf_54 hout (by decide) (by decide) hlocks (Or.inl ⟨rfl, by simp [okLeaf, c1, c7, k25], rfl⟩) (by decide) (by decide) (by decide) (by decide)
      · skip
        have k25 := b2i_t c25
        refine lv_iload_n hx hb d_BP_leaf_28 rfl (lv_at hl 3 rfl) ?_
        refine lv_i2l (v := h.toInt64) hx hb d_BP_leaf_29 rfl ?_
        refine hv_Sp (As := [.long h.toInt64]) (rest := []) hE hml hK hI (c_BP_isSize l hl0 b0 D cA f h.toInt64) cd_BP_isSize w151 w152 rfl rfl rfl hl.1 (Nat.le_of_ble_eq_true rfl) d_BP_leaf_30 ⟨by decide, by decide⟩ ⟨by decide, by decide⟩ (fun H locs hI => ?_)
        refine W.eq (g2 := F0 m 33 ls [.int (b2i (sz h.toInt64))]) rfl ?_
        refine lv_if_eq (tgt := 45) hx hb d_BP_leaf_33 (by decide) (fun c33 => ?_) (fun c33 => ?_)
        · skip
          have k33 := b2i_f c33
          exact hv_throw hE hl0 (cls := "java/lang/IllegalArgumentException") (text := "the width, height or depth is no size") (names := NMS) (by decide) (by decide) hI hK (hv_thr tw_IAE (by decide)) (by rw [hml]; exact hl.1) d_BP_leaf_45 d_BP_leaf_48 d_BP_leaf_49 d_BP_leaf_51 d_BP_leaf_54 hout (by decide) (by decide) hlocks (Or.inl ⟨rfl, by simp [okLeaf, c1, c7, k25, k33], rfl⟩) (by decide) (by decide) (by decide) (by decide)
        · skip
          have k33 := b2i_t c33
          refine lv_iload hx hb d_BP_leaf_36 (lv_at hl 4 rfl) ?_
          refine lv_i2l (v := d.toInt64) hx hb d_BP_leaf_38 rfl ?_
          refine hv_Sp (As := [.long d.toInt64]) (rest := []) hE hml hK hI (c_BP_isSize l hl0 b0 D cA f d.toInt64) cd_BP_isSize w151 w152 rfl rfl rfl hl.1 (Nat.le_of_ble_eq_true rfl) d_BP_leaf_39 ⟨by decide, by decide⟩ ⟨by decide, by decide⟩ (fun H locs hI => ?_)
          refine W.eq (g2 := F0 m 42 ls [.int (b2i (sz d.toInt64))]) rfl ?_
          refine lv_if_ne (tgt := 55) hx hb d_BP_leaf_42 (by decide) (fun c42 => ?_) (fun c42 => ?_)
          · skip
            have k42 := b2i_t c42
            refine lv_aload_n hx hb d_BP_leaf_55 rfl (lv_at hl 0 rfl) ?_
            refine hv_new hE k_Solid hI w157 w158 w9 (fs := [.int 0, .int 0, .int 0, .int 0, .null, .int 0]) (by decide +kernel) (by decide) (by decide) d_BP_leaf_56 (fun q1 H hnq1 hI => ?_)
            obtain ⟨g2, eg2⟩ : ∃ z : hv_M, z = hv_up f q1 (.inr (2, [.int 0, .int 0, .int 0, .int 0, .null, .int 0])) := ⟨_, rfl⟩
            have hI : hv_I D CL b0 g2 s.heap H locs := by rw [eg2]; exact hI
            have h3 : g2 x = some (.inr (0, [.ref la, .int (nI n), .ref ma, .int (nI bn), .ref mk])) := by rw [eg2]; rw [hv_up_ne _ _ (hv_nn hx0 hnq1)]; exact hx0
            have h4 : g2 la = some (.inl (cA 3, 100, .inr (.inr (.inr (.inr gl))))) := by rw [eg2]; rw [hv_up_ne _ _ (hv_nn hla hnq1)]; exact hla
            have h5 : g2 q1 = some (.inr (2, [.int 0, .int 0, .int 0, .int 0, .null, .int 0])) := by rw [eg2]; exact hv_up_self _ _ _
            refine lv_dup hx hb d_BP_leaf_59 rfl ?_
            refine lv_iload_n hx hb d_BP_leaf_60 rfl (lv_at hl 1 rfl) ?_
            refine lv_iload_n hx hb d_BP_leaf_61 rfl (lv_at hl 2 rfl) ?_
            refine lv_iload_n hx hb d_BP_leaf_62 rfl (lv_at hl 3 rfl) ?_
            refine lv_iload hx hb d_BP_leaf_63 (lv_at hl 4 rfl) ?_
            refine lv_null hx hb d_BP_leaf_65 ?_
            refine lv_iconst (v := 0) hx hb d_BP_leaf_66 (by decide) ?_
            have hfq : f q1 = none := hnq1
            have hfo : ∀ z, z ≠ x → z ≠ la → z ≠ q1 → g2 z = f z := fun z z1 z2 z3 => by rw [eg2, hv_up_ne _ _ z3]
            have hlo : ∀ z, z ≠ q1 → g2 z = f z := fun z z3 => by rw [eg2, hv_up_ne _ _ z3]
            refine hv_CN (As := [.int t, .int w, .int h, .int d, .null, .int 0]) (rest := [.ref q1, .ref x]) hE hml hK hI (c_Solid_init l hl0 b0 D cA g2 q1 t w h d 0 h5) cd_Solid_init rfl w159 w160 rfl hl.1 (Nat.le_of_ble_eq_true rfl) d_BP_leaf_67 ⟨by decide, by decide⟩ ⟨by decide, by decide⟩ (fun v9 g6 H locs hp hI => ?_) (fun q9 E9 ce9 g9 H locs hp => hp.elim)
            obtain ⟨hv, egs⟩ := hp
            rw [hv]
            refine W.eq (g2 := F0 m 70 ls [.ref q1, .ref x]) rfl ?_
            have hgs : g6 q1 = some (.inr (2, [.int t, .int w, .int h, .int d, .null, .int 0])) := by rw [egs]; exact hv_up_self _ _ _
            have hfo : ∀ z, z ≠ x → z ≠ la → z ≠ q1 → g6 z = f z := fun z z1 z2 z3 => by rw [egs, hv_up_ne _ _ z3]; exact hfo z z1 z2 z3
            have hlo : ∀ z, z ≠ q1 → g6 z = f z := fun z z3 => by rw [egs, hv_up_ne _ _ z3]; exact hlo z z3
            have h7 : g6 x = some (.inr (0, [.ref la, .int (nI n), .ref ma, .int (nI bn), .ref mk])) := by rw [egs, hv_up_ne _ _ (hv_ne h3 h5 (by simp))]; exact h3
            have h8 : g6 la = some (.inl (cA 3, 100, .inr (.inr (.inr (.inr gl))))) := by rw [egs, hv_up_ne _ _ (hv_ne h4 h5 (by simp))]; exact h4
            refine hv_V (As := [.ref q1]) (rest := []) hE hml hK hI (c_BP_appendS l hl0 b0 D cA g6 x la ma mk n bn q1 gl [.int t, .int w, .int h, .int d, .null, .int 0] h7 h8 hgs hn) cd_BP_append w196 w198 ws1 h7 rfl rfl hl.1 (Nat.le_of_ble_eq_true rfl) d_BP_leaf_70 ⟨by decide, by decide⟩ ⟨by decide, by decide⟩ (fun v9 g9 H locs hp hI => ?_) (fun q9 E9 ce9 g9 H locs hp hI hce hcv hcl => ?_)
            rotate_left
            · skip
              obtain ⟨hE9, hg9, hc9⟩ := hp
              rw [hE9] at hcl
              rw [hg9] at hI
              have hI := hI.less (f := f) (fun z y hz => (hlo z (hv_nn hz hfq)).trans hz)
              exact hv_out hout hlocks hI hK hce hcv hcl (Or.inr ⟨rfl, by simp [okLeaf, c1, c7, k25, k33, k42], hc9, rfl⟩) (by decide) (by decide)
            obtain ⟨hv, hn1, ega⟩ := hp
            rw [hv]
            refine W.eq (g2 := F0 m 73 ls [.int (nI n)]) rfl ?_
            have hg1 : g9 x = some (bpE la ma mk (n + 1) bn) := by rw [ega]; exact hv_up_self _ _ _
            have hg2 : g9 la = some (.inl (cA 3, 100, .inr (.inr (.inr (.inr (va_up gl n (some q1))))))) := by rw [ega, hv_up_ne _ _ (hv_ne h8 h7 (by simp))]; exact hv_up_self _ _ _
            have hg3 : g9 q1 = some (.inr (2, [.int t, .int w, .int h, .int d, .null, .int 0])) := by rw [ega, hv_up_ne _ _ (hv_ne hgs h7 (by simp)), hv_up_ne _ _ (hv_ne hgs h8 (by simp))]; exact hgs
            have hfo : ∀ z, z ≠ x → z ≠ la → z ≠ q1 → g9 z = f z := fun z z1 z2 z3 => by rw [ega, hv_up_ne _ _ z1, hv_up_ne _ _ z2]; exact hfo z z1 z2 z3
            exact hv_iret hE hr hlocks hI hK (v := nI n) (⟨rfl, by simp [okLeaf, c1, c7, k25, k33, k42], hn1, q1, hfq, hg1, hg2, hg3, hfo⟩) (by decide) (by decide) d_BP_leaf_73
          · skip
            have k42 := b2i_f c42
            exact hv_throw hE hl0 (cls := "java/lang/IllegalArgumentException") (text := "the width, height or depth is no size") (names := NMS) (by decide) (by decide) hI hK (hv_thr tw_IAE (by decide)) (by rw [hml]; exact hl.1) d_BP_leaf_45 d_BP_leaf_48 d_BP_leaf_49 d_BP_leaf_51 d_BP_leaf_54 hout (by decide) (by decide) hlocks (Or.inl ⟨rfl, by simp [okLeaf, c1, c7, k25, k33, k42], rfl⟩) (by decide) (by decide) (by decide) (by decide)
    · skip
      exact hv_throw hE hl0 (cls := "java/lang/IllegalArgumentException") (text := "the tag is not 0 .. 65535") (names := NMS) (by decide) (by decide) hI hK (hv_thr tw_IAE (by decide)) (by rw [hml]; exact hl.1) d_BP_leaf_10 d_BP_leaf_13 d_BP_leaf_14 d_BP_leaf_16 d_BP_leaf_19 hout (by decide) (by decide) hlocks (Or.inl ⟨rfl, by simp [okLeaf, c1, c7], rfl⟩) (by decide) (by decide) (by decide) (by decide)

set_option maxHeartbeats 4000000 in
set_option maxRecDepth 100000 in
theorem c_BP_rule (l : Launch) (hl0 : l.stackTraces = false) (b0 : Nat) (D : va_G) (cA : Nat → ClassId) (f : hv_M) (x la ma mk n bn : Nat) (w h d : Int32) (gl : Nat → Option Nat) (hx0 : f x = some (.inr (0, [.ref la, .int (nI n), .ref ma, .int (nI bn), .ref mk]))) (hla : f la = some (.inl (cA 3, 100, .inr (.inr (.inr (.inr gl)))))) (hn : n < 2 ^ 31) : hv_Met l y_BP_rule [Cond.code y_BP_rule b_BP_rule 4 (some FieldType.int)] (RM 4 3 18) b0 (Fa D cA) D CL [.ref x, .int w, .int h, .int d] f (fun v g => v = some (.int (nI n)) ∧ okRule w h d = true ∧ n < 100 ∧ addedI cA f g x la ma mk n bn gl (itE (.inl (-1, w, h, d, none, 0)))) (fun E g => (E = "java/lang/IllegalArgumentException" ∧ okRule w h d = false ∧ g = f) ∨ (E = "java/lang/UnsupportedOperationException" ∧ okRule w h d = true ∧ 100 ≤ n ∧ g = f)) := by
  refine hv_Met.of (own := "BoxPacker") (by decide) rfl (Nat.le_of_ble_eq_true rfl) ?_
  intro p e s m below meth c hE hml hout hr hlocks hname hK hI ls hl
  have hl : lv_has ls 4 [(0, .ref x), (1, .int w), (2, .int h), (3, .int d)] := hl
  obtain ⟨hx, hb, hown, hts, hVK⟩ := id hE
  refine lv_iload_n hx hb d_BP_rule_0 rfl (lv_at hl 1 rfl) ?_
  refine hv_Sp (As := [.int w]) (rest := []) hE hml hK hI (c_BP_isSizeOrRunning l hl0 b0 D cA f w) cd_BP_isSizeOrRunning w223 w224 rfl rfl rfl hl.1 (Nat.le_of_ble_eq_true rfl) d_BP_rule_1 ⟨by decide, by decide⟩ ⟨by decide, by decide⟩ (fun H locs hI => ?_)
  refine W.eq (g2 := F0 m 4 ls [.int (b2i (szr w))]) rfl ?_
  refine lv_if_eq (tgt := 21) hx hb d_BP_rule_4 (by decide) (fun c4 => ?_) (fun c4 => ?_)
  · skip
    have k4 := b2i_f c4
    exact hv_throw hE hl0 (cls := "java/lang/IllegalArgumentException") (text := "the width, height or depth is neither a size nor RUNNING") (names := NMS) (by decide) (by decide) hI hK (hv_thr tw_IAE (by decide)) (by rw [hml]; exact hl.1) d_BP_rule_21 d_BP_rule_24 d_BP_rule_25 d_BP_rule_27 d_BP_rule_30 hout (by decide) (by decide) hlocks (Or.inl ⟨rfl, by simp [okRule, k4], rfl⟩) (by decide) (by decide) (by decide) (by decide)
  · skip
    have k4 := b2i_t c4
    refine lv_iload_n hx hb d_BP_rule_7 rfl (lv_at hl 2 rfl) ?_
    refine hv_Sp (As := [.int h]) (rest := []) hE hml hK hI (c_BP_isSizeOrRunning l hl0 b0 D cA f h) cd_BP_isSizeOrRunning w223 w224 rfl rfl rfl hl.1 (Nat.le_of_ble_eq_true rfl) d_BP_rule_8 ⟨by decide, by decide⟩ ⟨by decide, by decide⟩ (fun H locs hI => ?_)
    refine W.eq (g2 := F0 m 11 ls [.int (b2i (szr h))]) rfl ?_
    refine lv_if_eq (tgt := 21) hx hb d_BP_rule_11 (by decide) (fun c11 => ?_) (fun c11 => ?_)
    · skip
      have k11 := b2i_f c11
      exact hv_throw hE hl0 (cls := "java/lang/IllegalArgumentException") (text := "the width, height or depth is neither a size nor RUNNING") (names := NMS) (by decide) (by decide) hI hK (hv_thr tw_IAE (by decide)) (by rw [hml]; exact hl.1) d_BP_rule_21 d_BP_rule_24 d_BP_rule_25 d_BP_rule_27 d_BP_rule_30 hout (by decide) (by decide) hlocks (Or.inl ⟨rfl, by simp [okRule, k4, k11], rfl⟩) (by decide) (by decide) (by decide) (by decide)
    · skip
      have k11 := b2i_t c11
      refine lv_iload_n hx hb d_BP_rule_14 rfl (lv_at hl 3 rfl) ?_
      refine hv_Sp (As := [.int d]) (rest := []) hE hml hK hI (c_BP_isSizeOrRunning l hl0 b0 D cA f d) cd_BP_isSizeOrRunning w223 w224 rfl rfl rfl hl.1 (Nat.le_of_ble_eq_true rfl) d_BP_rule_15 ⟨by decide, by decide⟩ ⟨by decide, by decide⟩ (fun H locs hI => ?_)
      refine W.eq (g2 := F0 m 18 ls [.int (b2i (szr d))]) rfl ?_
      refine lv_if_ne (tgt := 31) hx hb d_BP_rule_18 (by decide) (fun c18 => ?_) (fun c18 => ?_)
      · skip
        have k18 := b2i_t c18
        refine lv_aload_n hx hb d_BP_rule_31 rfl (lv_at hl 0 rfl) ?_
        refine hv_new hE k_Solid hI w157 w158 w9 (fs := [.int 0, .int 0, .int 0, .int 0, .null, .int 0]) (by decide +kernel) (by decide) (by decide) d_BP_rule_32 (fun q1 H hnq1 hI => ?_)
        obtain ⟨g2, eg2⟩ : ∃ z : hv_M, z = hv_up f q1 (.inr (2, [.int 0, .int 0, .int 0, .int 0, .null, .int 0])) := ⟨_, rfl⟩
        have hI : hv_I D CL b0 g2 s.heap H locs := by rw [eg2]; exact hI
        have h3 : g2 x = some (.inr (0, [.ref la, .int (nI n), .ref ma, .int (nI bn), .ref mk])) := by rw [eg2]; rw [hv_up_ne _ _ (hv_nn hx0 hnq1)]; exact hx0
        have h4 : g2 la = some (.inl (cA 3, 100, .inr (.inr (.inr (.inr gl))))) := by rw [eg2]; rw [hv_up_ne _ _ (hv_nn hla hnq1)]; exact hla
        have h5 : g2 q1 = some (.inr (2, [.int 0, .int 0, .int 0, .int 0, .null, .int 0])) := by rw [eg2]; exact hv_up_self _ _ _
        refine lv_dup hx hb d_BP_rule_35 rfl ?_
        refine lv_iconst (v := (-1)) hx hb d_BP_rule_36 (by decide) ?_
        refine lv_iload_n hx hb d_BP_rule_37 rfl (lv_at hl 1 rfl) ?_
        refine lv_iload_n hx hb d_BP_rule_38 rfl (lv_at hl 2 rfl) ?_
        refine lv_iload_n hx hb d_BP_rule_39 rfl (lv_at hl 3 rfl) ?_
        refine lv_null hx hb d_BP_rule_40 ?_
        refine lv_iconst (v := 0) hx hb d_BP_rule_41 (by decide) ?_
        have hfq : f q1 = none := hnq1
        have hfo : ∀ z, z ≠ x → z ≠ la → z ≠ q1 → g2 z = f z := fun z z1 z2 z3 => by rw [eg2, hv_up_ne _ _ z3]
        have hlo : ∀ z, z ≠ q1 → g2 z = f z := fun z z3 => by rw [eg2, hv_up_ne _ _ z3]
        refine hv_CN (As := [.int (-1), .int w, .int h, .int d, .null, .int 0]) (rest := [.ref q1, .ref x]) hE hml hK hI (c_Solid_init l hl0 b0 D cA g2 q1 (-1) w h d 0 h5) cd_Solid_init rfl w159 w160 rfl hl.1 (Nat.le_of_ble_eq_true rfl) d_BP_rule_42 ⟨by decide, by decide⟩ ⟨by decide, by decide⟩ (fun v9 g6 H locs hp hI => ?_) (fun q9 E9 ce9 g9 H locs hp => hp.elim)
        obtain ⟨hv, egs⟩ := hp
        rw [hv]
        refine W.eq (g2 := F0 m 45 ls [.ref q1, .ref x]) rfl ?_
        have hgs : g6 q1 = some (.inr (2, [.int (-1), .int w, .int h, .int d, .null, .int 0])) := by rw [egs]; exact hv_up_self _ _ _
        have hfo : ∀ z, z ≠ x → z ≠ la → z ≠ q1 → g6 z = f z := fun z z1 z2 z3 => by rw [egs, hv_up_ne _ _ z3]; exact hfo z z1 z2 z3
        have hlo : ∀ z, z ≠ q1 → g6 z = f z := fun z z3 => by rw [egs, hv_up_ne _ _ z3]; exact hlo z z3
        have h7 : g6 x = some (.inr (0, [.ref la, .int (nI n), .ref ma, .int (nI bn), .ref mk])) := by rw [egs, hv_up_ne _ _ (hv_ne h3 h5 (by simp))]; exact h3
        have h8 : g6 la = some (.inl (cA 3, 100, .inr (.inr (.inr (.inr gl))))) := by rw [egs, hv_up_ne _ _ (hv_ne h4 h5 (by simp))]; exact h4
        refine hv_V (As := [.ref q1]) (rest := []) hE hml hK hI (c_BP_appendS l hl0 b0 D cA g6 x la ma mk n bn q1 gl [.int (-1), .int w, .int h, .int d, .null, .int 0] h7 h8 hgs hn) cd_BP_append w196 w198 ws1 h7 rfl rfl hl.1 (Nat.le_of_ble_eq_true rfl) d_BP_rule_45 ⟨by decide, by decide⟩ ⟨by decide, by decide⟩ (fun v9 g9 H locs hp hI => ?_) (fun q9 E9 ce9 g9 H locs hp hI hce hcv hcl => ?_)
        rotate_left
        · skip
          obtain ⟨hE9, hg9, hc9⟩ := hp
          rw [hE9] at hcl
          rw [hg9] at hI
          have hI := hI.less (f := f) (fun z y hz => (hlo z (hv_nn hz hfq)).trans hz)
          exact hv_out hout hlocks hI hK hce hcv hcl (Or.inr ⟨rfl, by simp [okRule, k4, k11, k18], hc9, rfl⟩) (by decide) (by decide)
        obtain ⟨hv, hn1, ega⟩ := hp
        rw [hv]
        refine W.eq (g2 := F0 m 48 ls [.int (nI n)]) rfl ?_
        have hg1 : g9 x = some (bpE la ma mk (n + 1) bn) := by rw [ega]; exact hv_up_self _ _ _
        have hg2 : g9 la = some (.inl (cA 3, 100, .inr (.inr (.inr (.inr (va_up gl n (some q1))))))) := by rw [ega, hv_up_ne _ _ (hv_ne h8 h7 (by simp))]; exact hv_up_self _ _ _
        have hg3 : g9 q1 = some (.inr (2, [.int (-1), .int w, .int h, .int d, .null, .int 0])) := by rw [ega, hv_up_ne _ _ (hv_ne hgs h7 (by simp)), hv_up_ne _ _ (hv_ne hgs h8 (by simp))]; exact hgs
        have hfo : ∀ z, z ≠ x → z ≠ la → z ≠ q1 → g9 z = f z := fun z z1 z2 z3 => by rw [ega, hv_up_ne _ _ z1, hv_up_ne _ _ z2]; exact hfo z z1 z2 z3
        exact hv_iret hE hr hlocks hI hK (v := nI n) (⟨rfl, by simp [okRule, k4, k11, k18], hn1, q1, hfq, hg1, hg2, hg3, hfo⟩) (by decide) (by decide) d_BP_rule_48
      · skip
        have k18 := b2i_f c18
        exact hv_throw hE hl0 (cls := "java/lang/IllegalArgumentException") (text := "the width, height or depth is neither a size nor RUNNING") (names := NMS) (by decide) (by decide) hI hK (hv_thr tw_IAE (by decide)) (by rw [hml]; exact hl.1) d_BP_rule_21 d_BP_rule_24 d_BP_rule_25 d_BP_rule_27 d_BP_rule_30 hout (by decide) (by decide) hlocks (Or.inl ⟨rfl, by simp [okRule, k4, k11, k18], rfl⟩) (by decide) (by decide) (by decide) (by decide)

set_option maxHeartbeats 4000000 in
set_option maxRecDepth 100000 in
theorem c_BP_glue (l : Launch) (hl0 : l.stackTraces = false) (b0 : Nat) (D : va_G) (cA : Nat → ClassId) (f : hv_M) (x la ma mk n bn : Nat) (w a b d z : Int32) (gl : Nat → Option Nat) (hx0 : f x = some (.inr (0, [.ref la, .int (nI n), .ref ma, .int (nI bn), .ref mk]))) (hla : f la = some (.inl (cA 3, 100, .inr (.inr (.inr (.inr gl)))))) (hn : n < 2 ^ 31) : hv_Met l y_BP_glue [Cond.code y_BP_glue b_BP_glue 6 (some FieldType.int)] (RM 4 3 18) b0 (Fa D cA) D CL [.ref x, .int w, .int a, .int b, .int d, .int z] f (fun v g => v = some (.int (nI n)) ∧ okGlue w a b d z = true ∧ n < 100 ∧ addedI cA f g x la ma mk n bn gl (itE (.inr (w, a, b, d, z)))) (fun E g => (E = "java/lang/IllegalArgumentException" ∧ okGlue w a b d z = false ∧ g = f) ∨ (E = "java/lang/UnsupportedOperationException" ∧ okGlue w a b d z = true ∧ 100 ≤ n ∧ g = f)) := by
  refine hv_Met.of (own := "BoxPacker") (by decide) rfl (Nat.le_of_ble_eq_true rfl) ?_
  intro p e s m below meth c hE hml hout hr hlocks hname hK hI ls hl
  have hl : lv_has ls 6 [(0, .ref x), (1, .int w), (2, .int a), (3, .int b), (4, .int d), (5, .int z)] := hl
  obtain ⟨hx, hb, hown, hts, hVK⟩ := id hE
  refine lv_iload_n hx hb d_BP_glue_0 rfl (lv_at hl 1 rfl) ?_
  refine lv_i2l (v := w.toInt64) hx hb d_BP_glue_1 rfl ?_
  refine hv_Sp (As := [.long w.toInt64]) (rest := []) hE hml hK hI (c_BP_isSize l hl0 b0 D cA f w.toInt64) cd_BP_isSize w151 w152 rfl rfl rfl hl.1 (Nat.le_of_ble_eq_true rfl) d_BP_glue_2 ⟨by decide, by decide⟩ ⟨by decide, by decide⟩ (fun H locs hI => ?_)
  refine W.eq (g2 := F0 m 5 ls [.int (b2i (sz w.toInt64))]) rfl ?_
  refine lv_if_ne (tgt := 18) hx hb d_BP_glue_5 (by decide) (fun c5 => ?_) (fun c5 => ?_)
  · skip
    have k5 := b2i_t c5
    refine lv_iload_n hx hb d_BP_glue_18 rfl (lv_at hl 2 rfl) ?_
    refine lv_i2l (v := a.toInt64) hx hb d_BP_glue_19 rfl ?_
    refine hv_Sp (As := [.long a.toInt64]) (rest := []) hE hml hK hI (c_BP_isSize l hl0 b0 D cA f a.toInt64) cd_BP_isSize w151 w152 rfl rfl rfl hl.1 (Nat.le_of_ble_eq_true rfl) d_BP_glue_20 ⟨by decide, by decide⟩ ⟨by decide, by decide⟩ (fun H locs hI => ?_)
    refine W.eq (g2 := F0 m 23 ls [.int (b2i (sz a.toInt64))]) rfl ?_
    refine lv_if_eq (tgt := 44) hx hb d_BP_glue_23 (by decide) (fun c23 => ?_) (fun c23 => ?_)
    · skip
      have k23 := b2i_f c23
      exact hv_throw hE hl0 (cls := "java/lang/IllegalArgumentException") (text := "the stretch or shrink is no size or below 0") (names := NMS) (by decide) (by decide) hI hK (hv_thr tw_IAE (by decide)) (by rw [hml]; exact hl.1) d_BP_glue_44 d_BP_glue_47 d_BP_glue_48 d_BP_glue_50 d_BP_glue_53 hout (by decide) (by decide) hlocks (Or.inl ⟨rfl, by simp [okGlue, k5, k23], rfl⟩) (by decide) (by decide) (by decide) (by decide)
    · skip
      have k23 := b2i_t c23
      refine lv_iload_n hx hb d_BP_glue_26 rfl (lv_at hl 2 rfl) ?_
      refine lv_if_lt (tgt := 44) hx hb d_BP_glue_27 (by decide) (fun c27 => ?_) (fun c27 => ?_)
      · skip
        exact hv_throw hE hl0 (cls := "java/lang/IllegalArgumentException") (text := "the stretch or shrink is no size or below 0") (names := NMS) (by decide) (by decide) hI hK (hv_thr tw_IAE (by decide)) (by rw [hml]; exact hl.1) d_BP_glue_44 d_BP_glue_47 d_BP_glue_48 d_BP_glue_50 d_BP_glue_53 hout (by decide) (by decide) hlocks (Or.inl ⟨rfl, by simp [okGlue, k5, k23, c27], rfl⟩) (by decide) (by decide) (by decide) (by decide)
      · skip
        refine lv_iload hx hb d_BP_glue_30 (lv_at hl 4 rfl) ?_
        refine lv_i2l (v := d.toInt64) hx hb d_BP_glue_32 rfl ?_
        refine hv_Sp (As := [.long d.toInt64]) (rest := []) hE hml hK hI (c_BP_isSize l hl0 b0 D cA f d.toInt64) cd_BP_isSize w151 w152 rfl rfl rfl hl.1 (Nat.le_of_ble_eq_true rfl) d_BP_glue_33 ⟨by decide, by decide⟩ ⟨by decide, by decide⟩ (fun H locs hI => ?_)
        refine W.eq (g2 := F0 m 36 ls [.int (b2i (sz d.toInt64))]) rfl ?_
        refine lv_if_eq (tgt := 44) hx hb d_BP_glue_36 (by decide) (fun c36 => ?_) (fun c36 => ?_)
        · skip
          have k36 := b2i_f c36
          exact hv_throw hE hl0 (cls := "java/lang/IllegalArgumentException") (text := "the stretch or shrink is no size or below 0") (names := NMS) (by decide) (by decide) hI hK (hv_thr tw_IAE (by decide)) (by rw [hml]; exact hl.1) d_BP_glue_44 d_BP_glue_47 d_BP_glue_48 d_BP_glue_50 d_BP_glue_53 hout (by decide) (by decide) hlocks (Or.inl ⟨rfl, by simp [okGlue, k5, k23, c27, k36], rfl⟩) (by decide) (by decide) (by decide) (by decide)
        · skip
          have k36 := b2i_t c36
          refine lv_iload hx hb d_BP_glue_39 (lv_at hl 4 rfl) ?_
          refine lv_if_ge (tgt := 54) hx hb d_BP_glue_41 (by decide) (fun c41 => ?_) (fun c41 => ?_)
          · skip
            refine lv_iload_n hx hb d_BP_glue_54 rfl (lv_at hl 3 rfl) ?_
            refine hv_Sp (As := [.int b]) (rest := []) hE hml hK hI (c_BP_isOrder l hl0 b0 D cA f b) cd_BP_isOrder w237 w238 rfl rfl rfl hl.1 (Nat.le_of_ble_eq_true rfl) d_BP_glue_55 ⟨by decide, by decide⟩ ⟨by decide, by decide⟩ (fun H locs hI => ?_)
            refine W.eq (g2 := F0 m 58 ls [.int (b2i (ord4 b))]) rfl ?_
            refine lv_if_eq (tgt := 69) hx hb d_BP_glue_58 (by decide) (fun c58 => ?_) (fun c58 => ?_)
            · skip
              have k58 := b2i_f c58
              exact hv_throw hE hl0 (cls := "java/lang/IllegalArgumentException") (text := "an order is not 0 .. 3") (names := NMS) (by decide) (by decide) hI hK (hv_thr tw_IAE (by decide)) (by rw [hml]; exact hl.1) d_BP_glue_69 d_BP_glue_72 d_BP_glue_73 d_BP_glue_75 d_BP_glue_78 hout (by decide) (by decide) hlocks (Or.inl ⟨rfl, by simp [okGlue, k5, k23, c27, k36, c41, k58], rfl⟩) (by decide) (by decide) (by decide) (by decide)
            · skip
              have k58 := b2i_t c58
              refine lv_iload hx hb d_BP_glue_61 (lv_at hl 5 rfl) ?_
              refine hv_Sp (As := [.int z]) (rest := []) hE hml hK hI (c_BP_isOrder l hl0 b0 D cA f z) cd_BP_isOrder w237 w238 rfl rfl rfl hl.1 (Nat.le_of_ble_eq_true rfl) d_BP_glue_63 ⟨by decide, by decide⟩ ⟨by decide, by decide⟩ (fun H locs hI => ?_)
              refine W.eq (g2 := F0 m 66 ls [.int (b2i (ord4 z))]) rfl ?_
              refine lv_if_ne (tgt := 79) hx hb d_BP_glue_66 (by decide) (fun c66 => ?_) (fun c66 => ?_)
              · skip
                have k66 := b2i_t c66
                refine lv_aload_n hx hb d_BP_glue_79 rfl (lv_at hl 0 rfl) ?_
                refine hv_new hE k_Space hI w241 w242 w11 (fs := [.int 0, .int 0, .int 0, .int 0, .int 0]) (by decide +kernel) (by decide) (by decide) d_BP_glue_80 (fun q1 H hnq1 hI => ?_)
                obtain ⟨g2, eg2⟩ : ∃ z : hv_M, z = hv_up f q1 (.inr (3, [.int 0, .int 0, .int 0, .int 0, .int 0])) := ⟨_, rfl⟩
                have hI : hv_I D CL b0 g2 s.heap H locs := by rw [eg2]; exact hI
                have h3 : g2 x = some (.inr (0, [.ref la, .int (nI n), .ref ma, .int (nI bn), .ref mk])) := by rw [eg2]; rw [hv_up_ne _ _ (hv_nn hx0 hnq1)]; exact hx0
                have h4 : g2 la = some (.inl (cA 3, 100, .inr (.inr (.inr (.inr gl))))) := by rw [eg2]; rw [hv_up_ne _ _ (hv_nn hla hnq1)]; exact hla
                have h5 : g2 q1 = some (.inr (3, [.int 0, .int 0, .int 0, .int 0, .int 0])) := by rw [eg2]; exact hv_up_self _ _ _
                refine lv_dup hx hb d_BP_glue_83 rfl ?_
                refine lv_iload_n hx hb d_BP_glue_84 rfl (lv_at hl 1 rfl) ?_
                refine lv_iload_n hx hb d_BP_glue_85 rfl (lv_at hl 2 rfl) ?_
                refine lv_iload_n hx hb d_BP_glue_86 rfl (lv_at hl 3 rfl) ?_
                refine lv_iload hx hb d_BP_glue_87 (lv_at hl 4 rfl) ?_
                refine lv_iload hx hb d_BP_glue_89 (lv_at hl 5 rfl) ?_
                have hfq : f q1 = none := hnq1
                have hfo : ∀ z, z ≠ x → z ≠ la → z ≠ q1 → g2 z = f z := fun z z1 z2 z3 => by rw [eg2, hv_up_ne _ _ z3]
                have hlo : ∀ z, z ≠ q1 → g2 z = f z := fun z z3 => by rw [eg2, hv_up_ne _ _ z3]
                refine hv_CN (As := [.int w, .int a, .int b, .int d, .int z]) (rest := [.ref q1, .ref x]) hE hml hK hI (c_Space_init l hl0 b0 D cA g2 q1 w a b d z h5) cd_Space_init rfl w243 w244 rfl hl.1 (Nat.le_of_ble_eq_true rfl) d_BP_glue_91 ⟨by decide, by decide⟩ ⟨by decide, by decide⟩ (fun v9 g6 H locs hp hI => ?_) (fun q9 E9 ce9 g9 H locs hp => hp.elim)
                obtain ⟨hv, egs⟩ := hp
                rw [hv]
                refine W.eq (g2 := F0 m 94 ls [.ref q1, .ref x]) rfl ?_
                have hgs : g6 q1 = some (.inr (3, [.int w, .int a, .int b, .int d, .int z])) := by rw [egs]; exact hv_up_self _ _ _
                have hfo : ∀ z, z ≠ x → z ≠ la → z ≠ q1 → g6 z = f z := fun z z1 z2 z3 => by rw [egs, hv_up_ne _ _ z3]; exact hfo z z1 z2 z3
                have hlo : ∀ z, z ≠ q1 → g6 z = f z := fun z z3 => by rw [egs, hv_up_ne _ _ z3]; exact hlo z z3
                have h7 : g6 x = some (.inr (0, [.ref la, .int (nI n), .ref ma, .int (nI bn), .ref mk])) := by rw [egs, hv_up_ne _ _ (hv_ne h3 h5 (by simp))]; exact h3
                have h8 : g6 la = some (.inl (cA 3, 100, .inr (.inr (.inr (.inr gl))))) := by rw [egs, hv_up_ne _ _ (hv_ne h4 h5 (by simp))]; exact h4
                refine hv_V (As := [.ref q1]) (rest := []) hE hml hK hI (c_BP_appendP l hl0 b0 D cA g6 x la ma mk n bn q1 gl [.int w, .int a, .int b, .int d, .int z] h7 h8 hgs hn) cd_BP_append w196 w198 ws1 h7 rfl rfl hl.1 (Nat.le_of_ble_eq_true rfl) d_BP_glue_94 ⟨by decide, by decide⟩ ⟨by decide, by decide⟩ (fun v9 g9 H locs hp hI => ?_) (fun q9 E9 ce9 g9 H locs hp hI hce hcv hcl => ?_)
                rotate_left
                · skip
                  obtain ⟨hE9, hg9, hc9⟩ := hp
                  rw [hE9] at hcl
                  rw [hg9] at hI
                  have hI := hI.less (f := f) (fun z y hz => (hlo z (hv_nn hz hfq)).trans hz)
                  exact hv_out hout hlocks hI hK hce hcv hcl (Or.inr ⟨rfl, by simp [okGlue, k5, k23, c27, k36, c41, k58, k66], hc9, rfl⟩) (by decide) (by decide)
                obtain ⟨hv, hn1, ega⟩ := hp
                rw [hv]
                refine W.eq (g2 := F0 m 97 ls [.int (nI n)]) rfl ?_
                have hg1 : g9 x = some (bpE la ma mk (n + 1) bn) := by rw [ega]; exact hv_up_self _ _ _
                have hg2 : g9 la = some (.inl (cA 3, 100, .inr (.inr (.inr (.inr (va_up gl n (some q1))))))) := by rw [ega, hv_up_ne _ _ (hv_ne h8 h7 (by simp))]; exact hv_up_self _ _ _
                have hg3 : g9 q1 = some (.inr (3, [.int w, .int a, .int b, .int d, .int z])) := by rw [ega, hv_up_ne _ _ (hv_ne hgs h7 (by simp)), hv_up_ne _ _ (hv_ne hgs h8 (by simp))]; exact hgs
                have hfo : ∀ z, z ≠ x → z ≠ la → z ≠ q1 → g9 z = f z := fun z z1 z2 z3 => by rw [ega, hv_up_ne _ _ z1, hv_up_ne _ _ z2]; exact hfo z z1 z2 z3
                exact hv_iret hE hr hlocks hI hK (v := nI n) (⟨rfl, by simp [okGlue, k5, k23, c27, k36, c41, k58, k66], hn1, q1, hfq, hg1, hg2, hg3, hfo⟩) (by decide) (by decide) d_BP_glue_97
              · skip
                have k66 := b2i_f c66
                exact hv_throw hE hl0 (cls := "java/lang/IllegalArgumentException") (text := "an order is not 0 .. 3") (names := NMS) (by decide) (by decide) hI hK (hv_thr tw_IAE (by decide)) (by rw [hml]; exact hl.1) d_BP_glue_69 d_BP_glue_72 d_BP_glue_73 d_BP_glue_75 d_BP_glue_78 hout (by decide) (by decide) hlocks (Or.inl ⟨rfl, by simp [okGlue, k5, k23, c27, k36, c41, k58, k66], rfl⟩) (by decide) (by decide) (by decide) (by decide)
          · skip
            exact hv_throw hE hl0 (cls := "java/lang/IllegalArgumentException") (text := "the stretch or shrink is no size or below 0") (names := NMS) (by decide) (by decide) hI hK (hv_thr tw_IAE (by decide)) (by rw [hml]; exact hl.1) d_BP_glue_44 d_BP_glue_47 d_BP_glue_48 d_BP_glue_50 d_BP_glue_53 hout (by decide) (by decide) hlocks (Or.inl ⟨rfl, by simp [okGlue, k5, k23, c27, k36, c41], rfl⟩) (by decide) (by decide) (by decide) (by decide)
  · skip
    have k5 := b2i_f c5
    exact hv_throw hE hl0 (cls := "java/lang/IllegalArgumentException") (text := "the width is no size") (names := NMS) (by decide) (by decide) hI hK (hv_thr tw_IAE (by decide)) (by rw [hml]; exact hl.1) d_BP_glue_8 d_BP_glue_11 d_BP_glue_12 d_BP_glue_14 d_BP_glue_17 hout (by decide) (by decide) hlocks (Or.inl ⟨rfl, by simp [okGlue, k5], rfl⟩) (by decide) (by decide) (by decide) (by decide)

set_option maxHeartbeats 4000000 in
set_option maxRecDepth 100000 in
theorem c_BP_kern (l : Launch) (hl0 : l.stackTraces = false) (b0 : Nat) (D : va_G) (cA : Nat → ClassId) (f : hv_M) (x la ma mk n bn : Nat) (w : Int32) (gl : Nat → Option Nat) (hx0 : f x = some (.inr (0, [.ref la, .int (nI n), .ref ma, .int (nI bn), .ref mk]))) (hla : f la = some (.inl (cA 3, 100, .inr (.inr (.inr (.inr gl)))))) (hn : n < 2 ^ 31) : hv_Met l y_BP_kern [Cond.code y_BP_kern b_BP_kern 2 (some FieldType.int)] (RM 4 3 18) b0 (Fa D cA) D CL [.ref x, .int w] f (fun v g => v = some (.int (nI n)) ∧ sz w.toInt64 = true ∧ n < 100 ∧ addedI cA f g x la ma mk n bn gl (itE (.inr (w, 0, 0, 0, 0)))) (fun E g => (E = "java/lang/IllegalArgumentException" ∧ sz w.toInt64 = false ∧ g = f) ∨ (E = "java/lang/UnsupportedOperationException" ∧ sz w.toInt64 = true ∧ 100 ≤ n ∧ g = f)) := by
  refine hv_Met.of (own := "BoxPacker") (by decide) rfl (Nat.le_of_ble_eq_true rfl) ?_
  intro p e s m below meth c hE hml hout hr hlocks hname hK hI ls hl
  have hl : lv_has ls 2 [(0, .ref x), (1, .int w)] := hl
  obtain ⟨hx, hb, hown, hts, hVK⟩ := id hE
  refine lv_iload_n hx hb d_BP_kern_0 rfl (lv_at hl 1 rfl) ?_
  refine lv_i2l (v := w.toInt64) hx hb d_BP_kern_1 rfl ?_
  refine hv_Sp (As := [.long w.toInt64]) (rest := []) hE hml hK hI (c_BP_isSize l hl0 b0 D cA f w.toInt64) cd_BP_isSize w151 w152 rfl rfl rfl hl.1 (Nat.le_of_ble_eq_true rfl) d_BP_kern_2 ⟨by decide, by decide⟩ ⟨by decide, by decide⟩ (fun H locs hI => ?_)
  refine W.eq (g2 := F0 m 5 ls [.int (b2i (sz w.toInt64))]) rfl ?_
  refine lv_if_ne (tgt := 18) hx hb d_BP_kern_5 (by decide) (fun c5 => ?_) (fun c5 => ?_)
  · skip
    have k5 := b2i_t c5
    refine lv_aload_n hx hb d_BP_kern_18 rfl (lv_at hl 0 rfl) ?_
    refine hv_new hE k_Space hI w241 w242 w11 (fs := [.int 0, .int 0, .int 0, .int 0, .int 0]) (by decide +kernel) (by decide) (by decide) d_BP_kern_19 (fun q1 H hnq1 hI => ?_)
    obtain ⟨g2, eg2⟩ : ∃ z : hv_M, z = hv_up f q1 (.inr (3, [.int 0, .int 0, .int 0, .int 0, .int 0])) := ⟨_, rfl⟩
    have hI : hv_I D CL b0 g2 s.heap H locs := by rw [eg2]; exact hI
    have h3 : g2 x = some (.inr (0, [.ref la, .int (nI n), .ref ma, .int (nI bn), .ref mk])) := by rw [eg2]; rw [hv_up_ne _ _ (hv_nn hx0 hnq1)]; exact hx0
    have h4 : g2 la = some (.inl (cA 3, 100, .inr (.inr (.inr (.inr gl))))) := by rw [eg2]; rw [hv_up_ne _ _ (hv_nn hla hnq1)]; exact hla
    have h5 : g2 q1 = some (.inr (3, [.int 0, .int 0, .int 0, .int 0, .int 0])) := by rw [eg2]; exact hv_up_self _ _ _
    refine lv_dup hx hb d_BP_kern_22 rfl ?_
    refine lv_iload_n hx hb d_BP_kern_23 rfl (lv_at hl 1 rfl) ?_
    refine lv_iconst (v := 0) hx hb d_BP_kern_24 (by decide) ?_
    refine lv_iconst (v := 0) hx hb d_BP_kern_25 (by decide) ?_
    refine lv_iconst (v := 0) hx hb d_BP_kern_26 (by decide) ?_
    refine lv_iconst (v := 0) hx hb d_BP_kern_27 (by decide) ?_
    have hfq : f q1 = none := hnq1
    have hfo : ∀ z, z ≠ x → z ≠ la → z ≠ q1 → g2 z = f z := fun z z1 z2 z3 => by rw [eg2, hv_up_ne _ _ z3]
    have hlo : ∀ z, z ≠ q1 → g2 z = f z := fun z z3 => by rw [eg2, hv_up_ne _ _ z3]
    refine hv_CN (As := [.int w, .int 0, .int 0, .int 0, .int 0]) (rest := [.ref q1, .ref x]) hE hml hK hI (c_Space_init l hl0 b0 D cA g2 q1 w 0 0 0 0 h5) cd_Space_init rfl w243 w244 rfl hl.1 (Nat.le_of_ble_eq_true rfl) d_BP_kern_28 ⟨by decide, by decide⟩ ⟨by decide, by decide⟩ (fun v9 g6 H locs hp hI => ?_) (fun q9 E9 ce9 g9 H locs hp => hp.elim)
    obtain ⟨hv, egs⟩ := hp
    rw [hv]
    refine W.eq (g2 := F0 m 31 ls [.ref q1, .ref x]) rfl ?_
    have hgs : g6 q1 = some (.inr (3, [.int w, .int 0, .int 0, .int 0, .int 0])) := by rw [egs]; exact hv_up_self _ _ _
    have hfo : ∀ z, z ≠ x → z ≠ la → z ≠ q1 → g6 z = f z := fun z z1 z2 z3 => by rw [egs, hv_up_ne _ _ z3]; exact hfo z z1 z2 z3
    have hlo : ∀ z, z ≠ q1 → g6 z = f z := fun z z3 => by rw [egs, hv_up_ne _ _ z3]; exact hlo z z3
    have h7 : g6 x = some (.inr (0, [.ref la, .int (nI n), .ref ma, .int (nI bn), .ref mk])) := by rw [egs, hv_up_ne _ _ (hv_ne h3 h5 (by simp))]; exact h3
    have h8 : g6 la = some (.inl (cA 3, 100, .inr (.inr (.inr (.inr gl))))) := by rw [egs, hv_up_ne _ _ (hv_ne h4 h5 (by simp))]; exact h4
    refine hv_V (As := [.ref q1]) (rest := []) hE hml hK hI (c_BP_appendP l hl0 b0 D cA g6 x la ma mk n bn q1 gl [.int w, .int 0, .int 0, .int 0, .int 0] h7 h8 hgs hn) cd_BP_append w196 w198 ws1 h7 rfl rfl hl.1 (Nat.le_of_ble_eq_true rfl) d_BP_kern_31 ⟨by decide, by decide⟩ ⟨by decide, by decide⟩ (fun v9 g9 H locs hp hI => ?_) (fun q9 E9 ce9 g9 H locs hp hI hce hcv hcl => ?_)
    rotate_left
    · skip
      obtain ⟨hE9, hg9, hc9⟩ := hp
      rw [hE9] at hcl
      rw [hg9] at hI
      have hI := hI.less (f := f) (fun z y hz => (hlo z (hv_nn hz hfq)).trans hz)
      exact hv_out hout hlocks hI hK hce hcv hcl (Or.inr ⟨rfl, by simp [okLeaf, k5], hc9, rfl⟩) (by decide) (by decide)
    obtain ⟨hv, hn1, ega⟩ := hp
    rw [hv]
    refine W.eq (g2 := F0 m 34 ls [.int (nI n)]) rfl ?_
    have hg1 : g9 x = some (bpE la ma mk (n + 1) bn) := by rw [ega]; exact hv_up_self _ _ _
    have hg2 : g9 la = some (.inl (cA 3, 100, .inr (.inr (.inr (.inr (va_up gl n (some q1))))))) := by rw [ega, hv_up_ne _ _ (hv_ne h8 h7 (by simp))]; exact hv_up_self _ _ _
    have hg3 : g9 q1 = some (.inr (3, [.int w, .int 0, .int 0, .int 0, .int 0])) := by rw [ega, hv_up_ne _ _ (hv_ne hgs h7 (by simp)), hv_up_ne _ _ (hv_ne hgs h8 (by simp))]; exact hgs
    have hfo : ∀ z, z ≠ x → z ≠ la → z ≠ q1 → g9 z = f z := fun z z1 z2 z3 => by rw [ega, hv_up_ne _ _ z1, hv_up_ne _ _ z2]; exact hfo z z1 z2 z3
    exact hv_iret hE hr hlocks hI hK (v := nI n) (⟨rfl, by simp [okLeaf, k5], hn1, q1, hfq, hg1, hg2, hg3, hfo⟩) (by decide) (by decide) d_BP_kern_34
  · skip
    have k5 := b2i_f c5
    exact hv_throw hE hl0 (cls := "java/lang/IllegalArgumentException") (text := "the width is no size") (names := NMS) (by decide) (by decide) hI hK (hv_thr tw_IAE (by decide)) (by rw [hml]; exact hl.1) d_BP_kern_8 d_BP_kern_11 d_BP_kern_12 d_BP_kern_14 d_BP_kern_17 hout (by decide) (by decide) hlocks (Or.inl ⟨rfl, by simp [okLeaf, k5], rfl⟩) (by decide) (by decide) (by decide) (by decide)

