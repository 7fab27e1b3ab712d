/-! ===== the boxes in the picture ===== -/
abbrev boxC (V : Wd) (ca pa : Nat → Nat) (b : Nat) : va_E := .inr (1, [.int (b2i (wB V b)), .ref (ca b), .ref (pa b), .int (wA V 8 b), .int (wA V 9 b), .int (wA V 0 b), .int (wA V 1 b), .int (wA V 2 b), .int (wA V 3 b), .int (wA V 4 b), .int (wA V 5 b), .int (wA V 7 b)])
def boxR (cA : Nat → ClassId) (f : hv_M) (V : Wd) (ad ca pa : Nat → Nat) (gc : Nat → Nat → Option Nat) (gp : Nat → Nat → Int32) (b : Nat) : Prop :=
  f (ad b) = some (boxC V ca pa b) ∧ f (ca b) = some (.inl (cA 3, wF V (b + 1) - wF V b, .inr (.inr (.inr (.inr (gc b)))))) ∧ f (pa b) = some (.inl (cA 0, wF V (b + 1) - wF V b, .inl (gp b))) ∧
  itsAt f (wF V (b + 1) - wF V b) (gc b) (fun i => itO V ad (wF V b + i)) ∧ ∀ i, i < wF V (b + 1) - wF V b → (gp b i).toInt64 = plF V b i
theorem boxR.keep {cA : Nat → ClassId} {f g : hv_M} {V : Wd} {ad ca pa : Nat → Nat} {gc : Nat → Nat → Option Nat} {gp : Nat → Nat → Int32} {b : Nat} (h : boxR cA f V ad ca pa gc gp b) (h1 : g (ad b) = f (ad b)) (h2 : g (ca b) = f (ca b)) (h3 : g (pa b) = f (pa b)) (h4 : ∀ (z : Nat) (x : It), f z = some (itE x) → g z = f z) : boxR cA g V ad ca pa gc gp b :=
  ⟨by rw [h1]; exact h.1, by rw [h2]; exact h.2.1, by rw [h3]; exact h.2.2.1, h.2.2.2.1.keep h4, h.2.2.2.2⟩
theorem itE_mk (x : It) (fs : List Value) : itE x ≠ .inr (4, fs) := by
  rcases x with ⟨t, w, h, d, q, z⟩ | ⟨w, a, b, d, z⟩ <;> simp [itE]
theorem itE_bp (x : It) (fs : List Value) : itE x ≠ .inr (0, fs) := by
  rcases x with ⟨t, w, h, d, q, z⟩ | ⟨w, a, b, d, z⟩ <;> simp [itE]
/-- only the marks have changed -/
theorem boxR.marks {cA : Nat → ClassId} {f g : hv_M} {V : Wd} {ad ca pa : Nat → Nat} {gc : Nat → Nat → Option Nat} {gp : Nat → Nat → Int32} {b mk rw9 : Nat} {r : Mk} (h : boxR cA f V ad ca pa gc gp b) (hm : mkAt cA f mk rw9 r) (ho : ∀ z, z ≠ mk → z ≠ rw9 → g z = f z) : boxR cA g V ad ca pa gc gp b :=
  h.keep (ho _ (hv_ne h.1 hm.1 (by simp)) (hv_ne h.1 hm.2 (by simp))) (ho _ (hv_ne h.2.1 hm.1 (by simp)) (hv_ne h.2.1 hm.2 (by simp))) (ho _ (hv_ne h.2.2.1 hm.1 (by simp)) (hv_ne h.2.2.1 hm.2 (by simp))) (fun z x hz => ho z (hv_ne hz hm.1 (itE_mk _ _)) (hv_ne hz hm.2 (itE_arr _ _)))
/-- layOut of boxes at most dd deep -/
def layP (l : Launch) (b0 : Nat) (D : va_G) (cA : Nat → ClassId) (x la ma mk n bn rw9 : Nat) (V : Wd) (ct : Nat) (ad ca pa : Nat → Nat) (gc : Nat → Nat → Option Nat) (gp : Nat → Nat → Int32) (dd : Nat) : Prop :=
  ∀ (f : hv_M) (b : Nat) (X Y : Int64) (r : Mk), f x = some (bpE la ma mk n bn) → (∀ b, b < ct → boxR cA f V ad ca pa gc gp b) → mkAt cA f mk rw9 r → r.2 ≤ 1000 → b < ct → (wA V 8 b).toInt ≤ dd →
    hv_Met l y_BP_layOut [Cond.code y_BP_layOut b_BP_layOut 9 (some FieldType.boolean)] (RM (2 + 2 * dd) 0 0) b0 (Fa D cA) D CL [.ref x, .ref (ad b), .long X, .long Y] f
      (fun v g => v = some (.int (b2i (layF V dd b X Y r).1)) ∧ mkAt cA g mk rw9 (layF V dd b X Y r).2 ∧ ∀ z, z ≠ mk → z ≠ rw9 → g z = f z) NX

set_option maxHeartbeats 4000000 in
set_option maxRecDepth 100000 in
theorem c_BP_layOutS (l : Launch) (hl0 : l.stackTraces = false) (b0 : Nat) (D : va_G) (cA : Nat → ClassId) (f : hv_M) (x la ma mk n bn rw9 : Nat) (V : Wd) (ct : Nat) (ad ca pa : Nat → Nat) (gc : Nat → Nat → Option Nat) (gp : Nat → Nat → Int32) (dd b : Nat) (X Y : Int64) (r : Mk) (hx0 : f x = some (.inr (0, [.ref la, .int (nI n), .ref ma, .int (nI bn), .ref mk]))) (hbs : ∀ b, b < ct → boxR cA f V ad ca pa gc gp b) (hbv : ∀ b, b < ct → bxV V b) (hm : mkAt cA f mk rw9 r) (hr9 : r.2 ≤ 1000) (hbc : b < ct) (hdp : (wA V 8 b).toInt ≤ dd + 1) (hrec : layP l b0 D cA x la ma mk n bn rw9 V ct ad ca pa gc gp dd) : hv_Met l y_BP_layOut [Cond.code y_BP_layOut b_BP_layOut 9 (some FieldType.boolean)] (RM (2 + 2 * (dd + 1)) 0 0) b0 (Fa D cA) D CL [.ref x, .ref (ad b), .long X, .long Y] f (fun v g => v = some (.int (b2i (layF V (dd + 1) b X Y r).1)) ∧ mkAt cA g mk rw9 (layF V (dd + 1) b X Y r).2 ∧ ∀ z, z ≠ mk → z ≠ rw9 → g z = f z) (NX) := by
  refine hv_Met.of (own := "BoxPacker") (by decide) rfl (Nat.le_of_ble_eq_true rfl) ?_
  intro p e s m below meth c hE hml hout hr hlocks hname hK hI ls hl
  have hl : lv_has ls 9 [(0, .ref x), (1, .ref (ad b)), (2, .long X), (4, .long Y)] := hl
  obtain ⟨hx, hb, hown, hts, hVK⟩ := id hE
  refine lv_iconst (v := 0) hx hb d_BP_layOut_0 (by decide) ?_
  refine lv_istore (lv' := [(6, .int 0), (0, .ref x), (1, .ref (ad b)), (2, .long X), (4, .long Y)]) hx hb d_BP_layOut_1 hl (by decide) rfl (fun ls hl => ?_)
  have hR9 := hbs b hbc
  have hV9 := hbv b hbc
  obtain ⟨hF1, hF2, -, hs1, hs2, -, -, -, -, -, -, hits⟩ := hV9
  have hx1 : x ≠ mk := hv_ne hx0 hm.1 (by simp)
  have hx2 : x ≠ rw9 := hv_ne hx0 hm.2 (by simp)
  have loop : ∀ (k i : Nat) (rr : Mk) (g : hv_M) (H : Heap) (locs : List Loc) (ls : Array Slot), i + k = (wF V (b + 1) - wF V b) → mkAt cA g mk rw9 rr → rr.2 ≤ 1000 → (∀ z, z ≠ mk → z ≠ rw9 → g z = f z) → layL (layI V (layF V dd) b X Y) k i rr = layL (layI V (layF V dd) b X Y) (wF V (b + 1) - wF V b) 0 r → hv_I D CL b0 g s.heap H locs → lv_has ls 9 [(0, .ref x), (1, .ref (ad b)), (2, .long X), (4, .long Y), (6, .int (nI i))] → W p l e (RM (2 + 2 * (dd + 1)) 0 0) s m ([.ref x, .ref (ad b), .long X, .long Y] : List Value).toArray below meth c H locs (0) (0) (xh_MQ below (hv_Q b0 (Fa D cA) D CL (fun v g => v = some (.int (b2i (layF V (dd + 1) b X Y r).1)) ∧ mkAt cA g mk rw9 (layF V (dd + 1) b X Y r).2 ∧ ∀ z, z ≠ mk → z ≠ rw9 → g z = f z) (NX)) s 0 0 (fun q => b0 ≤ q)) (F0 m 3 ls []) := by
    intro k
    induction k with
    | zero =>
      intro i rr g H locs ls hik hgm hgr9 hfo heq hI hl
      have hgx : g x = some (.inr (0, [.ref la, .int (nI n), .ref ma, .int (nI bn), .ref mk])) := by rw [hfo x hx1 hx2]; exact hx0
      have hgbs : ∀ b, b < ct → boxR cA g V ad ca pa gc gp b := fun b hb => (hbs b hb).marks hm hfo
      have hgR := hgbs b hbc
      refine lv_iload hx hb d_BP_layOut_3 (lv_at hl 4 rfl) ?_
      refine lv_aload_n hx hb d_BP_layOut_5 rfl (lv_at hl 1 rfl) ?_
      refine hv_getN hE k_Box hI 1 (by decide) w328 hgR.1 rfl d_BP_layOut_6 ?_
      refine hv_alen hE hI 3 hgR.2.1 rfl (z := nI (wF V (b + 1) - wF V b)) rfl d_BP_layOut_9 ?_
      refine lv_icmp_ge (tgt := 65) hx hb d_BP_layOut_10 (by decide) (fun c10 => ?_) (fun c10 => ?_)
      · skip
        refine lv_iconst (v := 1) hx hb d_BP_layOut_65 (by decide) ?_
        exact hv_zret hE hr hlocks hI hK (v := 1) (by first | rfl | exact b2i_nar _) ((show _ ∧ _ ∧ _ by rw [show layF V (dd + 1) b X Y r = (true, rr) from heq.symm]; exact ⟨rfl, hgm, hfo⟩)) (by exact Nat.le_refl _) (by exact Nat.le_refl _) d_BP_layOut_66
      · skip
        exact absurd (nI_le (by omega) (by omega)) c10
    | succ k ih =>
      intro i rr g H locs ls hik hgm hgr9 hfo heq hI hl
      have hgx : g x = some (.inr (0, [.ref la, .int (nI n), .ref ma, .int (nI bn), .ref mk])) := by rw [hfo x hx1 hx2]; exact hx0
      have hgbs : ∀ b, b < ct → boxR cA g V ad ca pa gc gp b := fun b hb => (hbs b hb).marks hm hfo
      have hgR := hgbs b hbc
      obtain ⟨q, hq1, hq2⟩ := hgR.2.2.2.1 i (by omega)
      have hiv9 := hits i (by omega)
      rcases hiv : itO V ad (wF V b + i) with ⟨t, iw, ih9, id9, inn, z9⟩ | ⟨iw, a9, b9, c9, e9⟩
      rcases inn with _ | qb
      · simp only [hiv, itE, va_rf] at hq2
        refine lv_iload hx hb d_BP_layOut_3 (lv_at hl 4 rfl) ?_
        refine lv_aload_n hx hb d_BP_layOut_5 rfl (lv_at hl 1 rfl) ?_
        refine hv_getN hE k_Box hI 1 (by decide) w328 hgR.1 rfl d_BP_layOut_6 ?_
        refine hv_alen hE hI 3 hgR.2.1 rfl (z := nI (wF V (b + 1) - wF V b)) rfl d_BP_layOut_9 ?_
        refine lv_icmp_ge (tgt := 65) hx hb d_BP_layOut_10 (by decide) (fun c10 => ?_) (fun c10 => ?_)
        · skip
          exact absurd c10 (nI_ge (by omega) (by omega))
        · skip
          refine lv_aload_n hx hb d_BP_layOut_13 rfl (lv_at hl 1 rfl) ?_
          refine hv_getN hE k_Box hI 1 (by decide) w328 hgR.1 rfl d_BP_layOut_14 ?_
          refine lv_iload hx hb d_BP_layOut_17 (lv_at hl 4 rfl) ?_
          refine hv_aald hE hI 3 hgR.2.1 rfl (pk_in i (wF V (b + 1) - wF V b) (by omega) rfl (by omega)) d_BP_layOut_19 ?_
          rw [nI_cl (by omega)]
          rw [hq1]
          refine W.eq (g2 := F0 m 20 ls [.ref q]) rfl ?_
          refine lv_astore (lv' := [(8, .ref q), (0, .ref x), (1, .ref (ad b)), (2, .long X), (4, .long Y), (6, .int (nI i))]) hx hb d_BP_layOut_20 hl (by decide) rfl (fun ls hl => ?_)
          refine lv_aload hx hb d_BP_layOut_22 (lv_at hl 0 rfl) ?_
          refine hv_instS hE hI hq2 rfl w157 d_BP_layOut_24 ?_
          refine lv_if_eq (tgt := 59) hx hb d_BP_layOut_27 (by decide) (fun c27 => ?_) (fun c27 => ?_)
          · skip
            exact absurd c27 (by decide)
          · skip
            refine lv_aload hx hb d_BP_layOut_30 (lv_at hl 0 rfl) ?_
            refine hv_castS hE hI hq2 rfl w157 d_BP_layOut_32 ?_
            refine lv_astore (lv' := [(7, .ref q), (8, .ref q), (0, .ref x), (1, .ref (ad b)), (2, .long X), (4, .long Y), (6, .int (nI i))]) hx hb d_BP_layOut_35 hl (by decide) rfl (fun ls hl => ?_)
            refine lv_aload_n hx hb d_BP_layOut_37 rfl (lv_at hl 2 rfl) ?_
            refine lv_aload_n hx hb d_BP_layOut_38 rfl (lv_at hl 3 rfl) ?_
            refine lv_aload hx hb d_BP_layOut_39 (lv_at hl 0 rfl) ?_
            refine lv_aload_n hx hb d_BP_layOut_41 rfl (lv_at hl 3 rfl) ?_
            refine hv_getN hE k_Box hI 2 (by decide) w330 hgR.1 rfl d_BP_layOut_42 ?_
            refine lv_iload hx hb d_BP_layOut_45 (lv_at hl 6 rfl) ?_
            refine hv_iald hE hI 0 hgR.2.2.1 rfl (pk_in i (wF V (b + 1) - wF V b) (by omega) rfl (by omega)) d_BP_layOut_47 ?_
            rw [nI_cl (by omega)]
            refine lv_lload_n hx hb d_BP_layOut_48 rfl (lv_at hl 4 rfl) ?_
            refine lv_lload hx hb d_BP_layOut_49 (lv_at hl 5 rfl) ?_
            have hcon := (c_BP_layOutItemN l hl0 b0 D cA g x la ma mk n bn rw9 (ad b) (ca b) (pa b) q (wB V b) (wA V 8 b) (wA V 9 b) (wA V 0 b) (wA V 1 b) (wA V 2 b) (wA V 3 b) (wA V 4 b) (wA V 5 b) (wA V 7 b) t iw ih9 id9 z9 (gp b i) X Y rr hgx hgR.1 hgm hgr9 hq2)
            rw [← layI_none (go := layF V dd) (hR9.2.2.2.2 i (by omega)) hiv9.1 hs1 hs2 hiv] at hcon
            refine hv_V (As := [.ref (ad b), .ref q, .int ((gp b) i), .long X, .long Y]) (rest := []) hE hml hK hI hcon cd_BP_layOutItem w491 w493 ws15 hgx rfl rfl hl.1 (Nat.le_of_ble_eq_true rfl) d_BP_layOut_51 ⟨by first | (show 10 + _ + 1 ≤ 10 + _; omega) | (show 8 + (_ + 11) + (200 + 40 * _) ≤ 200 + 40 * _; omega), by first | (show 10 + _ + 1 ≤ 10 + _; omega) | (show 8 + (_ + 11) + (200 + 40 * _) ≤ 200 + 40 * _; omega)⟩ ⟨by exact Nat.le_refl _, by exact Nat.le_refl _⟩ (fun v9 g1 H locs hp hI => ?_) (fun q9 E9 ce9 g9 H locs hp => hp.elim)
            obtain ⟨hv, hm9, ho9⟩ := hp
            rw [hv]
            refine W.eq (g2 := F0 m 54 ls [.int (b2i (layI V (layF V dd) b X Y i rr).1)]) rfl ?_
            refine lv_if_ne (tgt := 59) hx hb d_BP_layOut_54 (by decide) (fun c54 => ?_) (fun c54 => ?_)
            · skip
              obtain ⟨v2, ev2⟩ : ∃ y : Int32, y = (nI i) + 1 := ⟨_, rfl⟩
              refine lv_iinc (v := v2) (lv' := [(6, .int v2), (7, .ref q), (8, .ref q), (0, .ref x), (1, .ref (ad b)), (2, .long X), (4, .long Y)]) hx hb d_BP_layOut_59 hl (k := 6) rfl (by rw [ev2]; rfl) (by decide) rfl (fun ls hl => ?_)
              refine lv_goto (tgt := 3) hx hb d_BP_layOut_62 (by decide) ?_
              exact ih (i + 1) _ _ _ _ ls (by omega) hm9 (layI_le (layF_le V dd) hgr9) (fun z z1 z2 => by rw [ho9 z z1 z2]; exact hfo z z1 z2) (by rw [← heq, layL, if_pos (b2i_t c54)]) hI (by rw [← nI_1, ← ev2]; exact lv_sub hl [3, 4, 5, 6, 0] rfl)
            · skip
              refine lv_iconst (v := 0) hx hb d_BP_layOut_57 (by decide) ?_
              exact hv_zret hE hr hlocks hI hK (v := 0) (by first | rfl | exact b2i_nar _) ((show _ ∧ _ ∧ _ by rw [show layF V (dd + 1) b X Y r = (false, (layI V (layF V dd) b X Y i rr).2) from by rw [layF, ← heq, layL, if_neg (by rw [b2i_f c54]; decide)]]; exact ⟨rfl, hm9, fun z z1 z2 => by rw [ho9 z z1 z2]; exact hfo z z1 z2⟩)) (by exact Nat.le_refl _) (by exact Nat.le_refl _) d_BP_layOut_58
      · simp only [hiv, itE, va_rf] at hq2
        have hic : wI V (wF V b + i) < ct := by
          rcases hiv9.1 with ⟨k0, -⟩ | ⟨k0, -⟩ | ⟨k0, -⟩ | ⟨k0, -⟩ | ⟨-, -, k0, -⟩
          · rw [itO, if_pos k0] at hiv; simp at hiv
          · rw [itO, if_neg (by rw [k0]; decide), if_pos k0] at hiv; simp at hiv
          · rw [itO, if_neg (by rw [k0]; decide), if_neg (by rw [k0]; decide), if_neg (by rw [k0]; decide)] at hiv; cases hiv
          · rw [itO, if_neg (by rw [k0]; decide), if_neg (by rw [k0]; decide), if_neg (by rw [k0]; decide)] at hiv; cases hiv
          · omega
        have hs9 : szI (wA V 1 (wI V (wF V b + i))) := (hbv _ hic).2.2.2.1
        refine lv_iload hx hb d_BP_layOut_3 (lv_at hl 4 rfl) ?_
        refine lv_aload_n hx hb d_BP_layOut_5 rfl (lv_at hl 1 rfl) ?_
        refine hv_getN hE k_Box hI 1 (by decide) w328 hgR.1 rfl d_BP_layOut_6 ?_
        refine hv_alen hE hI 3 hgR.2.1 rfl (z := nI (wF V (b + 1) - wF V b)) rfl d_BP_layOut_9 ?_
        refine lv_icmp_ge (tgt := 65) hx hb d_BP_layOut_10 (by decide) (fun c10 => ?_) (fun c10 => ?_)
        · skip
          exact absurd c10 (nI_ge (by omega) (by omega))
        · skip
          refine lv_aload_n hx hb d_BP_layOut_13 rfl (lv_at hl 1 rfl) ?_
          refine hv_getN hE k_Box hI 1 (by decide) w328 hgR.1 rfl d_BP_layOut_14 ?_
          refine lv_iload hx hb d_BP_layOut_17 (lv_at hl 4 rfl) ?_
          refine hv_aald hE hI 3 hgR.2.1 rfl (pk_in i (wF V (b + 1) - wF V b) (by omega) rfl (by omega)) d_BP_layOut_19 ?_
          rw [nI_cl (by omega)]
          rw [hq1]
          refine W.eq (g2 := F0 m 20 ls [.ref q]) rfl ?_
          refine lv_astore (lv' := [(8, .ref q), (0, .ref x), (1, .ref (ad b)), (2, .long X), (4, .long Y), (6, .int (nI i))]) hx hb d_BP_layOut_20 hl (by decide) rfl (fun ls hl => ?_)
          refine lv_aload hx hb d_BP_layOut_22 (lv_at hl 0 rfl) ?_
          refine hv_instS hE hI hq2 rfl w157 d_BP_layOut_24 ?_
          refine lv_if_eq (tgt := 59) hx hb d_BP_layOut_27 (by decide) (fun c27 => ?_) (fun c27 => ?_)
          · skip
            exact absurd c27 (by decide)
          · skip
            refine lv_aload hx hb d_BP_layOut_30 (lv_at hl 0 rfl) ?_
            refine hv_castS hE hI hq2 rfl w157 d_BP_layOut_32 ?_
            refine lv_astore (lv' := [(7, .ref q), (8, .ref q), (0, .ref x), (1, .ref (ad b)), (2, .long X), (4, .long Y), (6, .int (nI i))]) hx hb d_BP_layOut_35 hl (by decide) rfl (fun ls hl => ?_)
            refine lv_aload_n hx hb d_BP_layOut_37 rfl (lv_at hl 2 rfl) ?_
            refine lv_aload_n hx hb d_BP_layOut_38 rfl (lv_at hl 3 rfl) ?_
            refine lv_aload hx hb d_BP_layOut_39 (lv_at hl 0 rfl) ?_
            refine lv_aload_n hx hb d_BP_layOut_41 rfl (lv_at hl 3 rfl) ?_
            refine hv_getN hE k_Box hI 2 (by decide) w330 hgR.1 rfl d_BP_layOut_42 ?_
            refine lv_iload hx hb d_BP_layOut_45 (lv_at hl 6 rfl) ?_
            refine hv_iald hE hI 0 hgR.2.2.1 rfl (pk_in i (wF V (b + 1) - wF V b) (by omega) rfl (by omega)) d_BP_layOut_47 ?_
            rw [nI_cl (by omega)]
            refine lv_lload_n hx hb d_BP_layOut_48 rfl (lv_at hl 4 rfl) ?_
            refine lv_lload hx hb d_BP_layOut_49 (lv_at hl 5 rfl) ?_
            obtain ⟨hk4, hqb, hli⟩ := layI_box (go := layF V dd) (x := X) (y := Y) (r := rr) (hR9.2.2.2.2 i (by omega)) hs9 hiv
            have hrc := hrec g (wI V (wF V b + i)) (if wB V b = true then X + z9.toInt64 else X + (gp b i).toInt64) (if wB V b = true then Y - (wA V 1 b).toInt64 + (gp b i).toInt64 + (kn ih9 0).toInt64 else Y + z9.toInt64) rr hgx hgbs hgm hgr9 hic (by have := hiv9.2 hk4; omega)
            rw [← hli, ← hqb] at hrc
            have hcon := (c_BP_layOutItemB l hl0 b0 D cA g x la ma mk n bn rw9 (ad b) (ca b) (pa b) q qb (2 + 2 * dd) (wB V b) (wA V 8 b) (wA V 9 b) (wA V 0 b) (wA V 1 b) (wA V 2 b) (wA V 3 b) (wA V 4 b) (wA V 5 b) (wA V 7 b) t iw ih9 id9 z9 (gp b i) X Y rr _ _ hgx hgR.1 hgm hgr9 hq2 (by omega) hrc)
            refine hv_V (As := [.ref (ad b), .ref q, .int ((gp b) i), .long X, .long Y]) (rest := []) hE hml hK hI hcon cd_BP_layOutItem w491 w493 ws15 hgx rfl rfl hl.1 (Nat.le_of_ble_eq_true rfl) d_BP_layOut_51 ⟨by first | (show 10 + _ + 1 ≤ 10 + _; omega) | (show 8 + (_ + 11) + (200 + 40 * _) ≤ 200 + 40 * _; omega), by first | (show 10 + _ + 1 ≤ 10 + _; omega) | (show 8 + (_ + 11) + (200 + 40 * _) ≤ 200 + 40 * _; omega)⟩ ⟨by exact Nat.le_refl _, by exact Nat.le_refl _⟩ (fun v9 g3 H locs hp hI => ?_) (fun q9 E9 ce9 g9 H locs hp => hp.elim)
            obtain ⟨hv, hm9, ho9⟩ := hp
            rw [hv]
            refine W.eq (g2 := F0 m 54 ls [.int (b2i (layI V (layF V dd) b X Y i rr).1)]) rfl ?_
            refine lv_if_ne (tgt := 59) hx hb d_BP_layOut_54 (by decide) (fun c54 => ?_) (fun c54 => ?_)
            · skip
              obtain ⟨v4, ev4⟩ : ∃ y : Int32, y = (nI i) + 1 := ⟨_, rfl⟩
              refine lv_iinc (v := v4) (lv' := [(6, .int v4), (7, .ref q), (8, .ref q), (0, .ref x), (1, .ref (ad b)), (2, .long X), (4, .long Y)]) hx hb d_BP_layOut_59 hl (k := 6) rfl (by rw [ev4]; rfl) (by decide) rfl (fun ls hl => ?_)
              refine lv_goto (tgt := 3) hx hb d_BP_layOut_62 (by decide) ?_
              exact ih (i + 1) _ _ _ _ ls (by omega) hm9 (layI_le (layF_le V dd) hgr9) (fun z z1 z2 => by rw [ho9 z z1 z2]; exact hfo z z1 z2) (by rw [← heq, layL, if_pos (b2i_t c54)]) hI (by rw [← nI_1, ← ev4]; exact lv_sub hl [3, 4, 5, 6, 0] rfl)
            · skip
              refine lv_iconst (v := 0) hx hb d_BP_layOut_57 (by decide) ?_
              exact hv_zret hE hr hlocks hI hK (v := 0) (by first | rfl | exact b2i_nar _) ((show _ ∧ _ ∧ _ by rw [show layF V (dd + 1) b X Y r = (false, (layI V (layF V dd) b X Y i rr).2) from by rw [layF, ← heq, layL, if_neg (by rw [b2i_f c54]; decide)]]; exact ⟨rfl, hm9, fun z z1 z2 => by rw [ho9 z z1 z2]; exact hfo z z1 z2⟩)) (by exact Nat.le_refl _) (by exact Nat.le_refl _) d_BP_layOut_58
      · simp only [hiv, itE, va_rf] at hq2
        refine lv_iload hx hb d_BP_layOut_3 (lv_at hl 4 rfl) ?_
        refine lv_aload_n hx hb d_BP_layOut_5 rfl (lv_at hl 1 rfl) ?_
        refine hv_getN hE k_Box hI 1 (by decide) w328 hgR.1 rfl d_BP_layOut_6 ?_
        refine hv_alen hE hI 3 hgR.2.1 rfl (z := nI (wF V (b + 1) - wF V b)) rfl d_BP_layOut_9 ?_
        refine lv_icmp_ge (tgt := 65) hx hb d_BP_layOut_10 (by decide) (fun c10 => ?_) (fun c10 => ?_)
        · skip
          exact absurd c10 (nI_ge (by omega) (by omega))
        · skip
          refine lv_aload_n hx hb d_BP_layOut_13 rfl (lv_at hl 1 rfl) ?_
          refine hv_getN hE k_Box hI 1 (by decide) w328 hgR.1 rfl d_BP_layOut_14 ?_
          refine lv_iload hx hb d_BP_layOut_17 (lv_at hl 4 rfl) ?_
          refine hv_aald hE hI 3 hgR.2.1 rfl (pk_in i (wF V (b + 1) - wF V b) (by omega) rfl (by omega)) d_BP_layOut_19 ?_
          rw [nI_cl (by omega)]
          rw [hq1]
          refine W.eq (g2 := F0 m 20 ls [.ref q]) rfl ?_
          refine lv_astore (lv' := [(8, .ref q), (0, .ref x), (1, .ref (ad b)), (2, .long X), (4, .long Y), (6, .int (nI i))]) hx hb d_BP_layOut_20 hl (by decide) rfl (fun ls hl => ?_)
          refine lv_aload hx hb d_BP_layOut_22 (lv_at hl 0 rfl) ?_
          refine hv_instN hE hI hK hq2 rfl (nm := "BoxPacker$Solid") (by decide) w157 d_BP_layOut_24 ?_
          refine lv_if_eq (tgt := 59) hx hb d_BP_layOut_27 (by decide) (fun c27 => ?_) (fun c27 => ?_)
          · skip
            obtain ⟨v5, ev5⟩ : ∃ y : Int32, y = (nI i) + 1 := ⟨_, rfl⟩
            refine lv_iinc (v := v5) (lv' := [(6, .int v5), (8, .ref q), (0, .ref x), (1, .ref (ad b)), (2, .long X), (4, .long Y)]) hx hb d_BP_layOut_59 hl (k := 5) rfl (by rw [ev5]; rfl) (by decide) rfl (fun ls hl => ?_)
            refine lv_goto (tgt := 3) hx hb d_BP_layOut_62 (by decide) ?_
            exact ih (i + 1) rr _ _ _ ls (by omega) hgm hgr9 hfo (by rw [← heq, layL, layI_space hiv, if_pos rfl]) hI (by rw [← nI_1, ← ev5]; exact lv_sub hl [2, 3, 4, 5, 0] rfl)
          · skip
            exact absurd rfl c27
  exact loop (wF V (b + 1) - wF V b) 0 r f _ _ ls (by omega) hm hr9 (fun z _ _ => rfl) rfl hI (lv_sub hl [1, 2, 3, 4, 0] rfl)

theorem layP_all (l : Launch) (hl0 : l.stackTraces = false) (b0 : Nat) (D : va_G) (cA : Nat → ClassId) (x la ma mk n bn rw9 : Nat) (V : Wd) (ct : Nat) (ad ca pa : Nat → Nat) (gc : Nat → Nat → Option Nat) (gp : Nat → Nat → Int32) (hbv : ∀ b, b < ct → bxV V b) : ∀ dd, layP l b0 D cA x la ma mk n bn rw9 V ct ad ca pa gc gp dd
  | 0 => fun f b X Y r _ _ _ _ hb hd => by
    have := (hbv b hb).2.2.2.2.2.2.2.2.1.1
    omega
  | dd + 1 => fun f b X Y r hx0 hbs hm hr9 hb hd => c_BP_layOutS l hl0 b0 D cA f x la ma mk n bn rw9 V ct ad ca pa gc gp dd b X Y r hx0 hbs hbv hm hr9 hb (by omega) (layP_all l hl0 b0 D cA x la ma mk n bn rw9 V ct ad ca pa gc gp hbv dd)

