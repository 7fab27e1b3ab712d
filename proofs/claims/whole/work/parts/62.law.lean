/-! ===== the law: its loop ===== -/
set_option maxHeartbeats 16000000 in
set_option maxRecDepth 100000 in
theorem law_loop {p : Program} {l : Launch} {e : Env} {s : State} {m : MethodId} {below : List Frame} {meth : Method} {c : Code} {D : va_G} {cA : Nat → ClassId} {b L : Nat} {xs : Nat → Int32} (hl0 : l.stackTraces = false) (hL : L ≤ 3072) (hx : p.tables.exec = Jvm.exec) (hb : c.code = code) (hr : meth.sig.returnType = ret) (hml : c.maxLocals = 8) (hlocks : meth.locks = false) (hE : hv_E p c code s m #[Value.ref b] "BoxPackerLaw" TS D CL (TY cA)) (hK : hv_KK s.heap.size (Fa D cA) s) (hX : va_X b L xs s s.heap) (hbl : b < s.heap.size) (x mo o : Nat) : ∀ (k j : Nat) (f : hv_M) (th : Int32) (ow : Nat → Int64) (H : Heap) (locs : List Loc) (ls : Array Slot), L < 6 * (j + k) → j ≤ 512 → RP cA f x mo o th ow → hv_I D CL s.heap.size f s.heap H locs → lv_has ls 8 [(0, .ref b), (1, .ref x), (2, .ref mo), (3, .ref o), (4, .int (nI (6 * j)))] → W p l e room_1 s m #[Value.ref b] below meth c H locs (100 + 12 * j) (75000 + 300 * j) (lw_Z below #[Value.ref b] s) (F0 m 23 ls []) := by
  have hbA : ¬ (fun q : Nat => s.heap.size ≤ q) b := Nat.not_le.mpr hbl
  intro k
  induction k with
  | zero =>
    intro j f th ow H locs ls hjk hj hRP hI hl
    refine lv_iload hx hb d_Law_law_23 (lv_at hl 4 rfl) ?_
    refine lv_aload_n hx hb d_Law_law_25 rfl (lv_at hl 0 rfl) ?_
    refine va_slen hx hb hX hbl hbA hI.2.2.2 d_Law_law_26 ?_
    refine lv_bipush (v := 6) hx hb d_Law_law_27 (by decide) ?_
    refine lv_isub hx hb d_Law_law_29 ?_
    refine lv_icmp_gt (tgt := 956) hx hb d_Law_law_30 (by decide) (fun c30 => ?_) (fun c30 => ?_)
    · skip
      refine lv_iconst (v := 1) hx hb d_Law_law_956 (by decide) ?_
      refine va_forget (fun q hq => hI.2.2.2.2.2 q hq) ?_
      refine W_widen (k := 601024) (n9 := 7293034) (by omega) (by omega) ?_
      exact lw_ret hx hb hr hlocks d_Law_law_957
    · skip
      have hj6 : 6 * j + 6 ≤ L := Nat.le_of_not_lt (fun q => c30 ((law_gt hL hj).mpr q))
      exact absurd hjk (by omega)
  | succ k ih =>
    intro j f th ow H locs ls hjk hj hRP hI hl
    have nx : ∀ (f1 : hv_M) (th1 : Int32) (ow1 : Nat → Int64) (H : Heap) (locs : List Loc) (ls : Array Slot), RP cA f1 x mo o th1 ow1 → hv_I D CL s.heap.size f1 s.heap H locs → 6 * j + 6 ≤ L → lv_has ls 8 [(0, .ref b), (1, .ref x), (2, .ref mo), (3, .ref o), (4, .int (nI (6 * j)))] → W p l e room_1 s m #[Value.ref b] below meth c H locs (100 + 12 * (j + 1)) (75000 + 300 * (j + 1)) (lw_Z below #[Value.ref b] s) (F0 m 950 ls []) := by
      intro f1 th1 ow1 H locs ls hRP1 hI hj6 hl
      refine lv_iinc (v := nI (6 * (j + 1))) (lv' := [(4, .int (nI (6 * (j + 1)))), (0, .ref b), (1, .ref x), (2, .ref mo), (3, .ref o)]) hx hb d_Law_law_950 hl (k := 4) rfl (by rw [show 6 * (j + 1) = 6 * j + 6 by omega, ← nI_add]; rfl) (by decide) rfl (fun ls hl => ?_)
      refine lv_goto (tgt := 23) hx hb d_Law_law_953 (by decide) ?_
      exact ih (j + 1) f1 th1 ow1 H locs ls (by omega) (by omega) hRP1 hI (lv_sub hl [1, 2, 3, 4, 0] rfl)
    refine lv_iload hx hb d_Law_law_23 (lv_at hl 4 rfl) ?_
    refine lv_aload_n hx hb d_Law_law_25 rfl (lv_at hl 0 rfl) ?_
    refine va_slen hx hb hX hbl hbA hI.2.2.2 d_Law_law_26 ?_
    refine lv_bipush (v := 6) hx hb d_Law_law_27 (by decide) ?_
    refine lv_isub hx hb d_Law_law_29 ?_
    refine lv_icmp_gt (tgt := 956) hx hb d_Law_law_30 (by decide) (fun c30 => ?_) (fun c30 => ?_)
    · skip
      refine lv_iconst (v := 1) hx hb d_Law_law_956 (by decide) ?_
      refine va_forget (fun q hq => hI.2.2.2.2.2 q hq) ?_
      refine W_widen (k := 601024) (n9 := 7293034) (by omega) (by omega) ?_
      exact lw_ret hx hb hr hlocks d_Law_law_957
    · skip
      have hj6 : 6 * j + 6 ≤ L := Nat.le_of_not_lt (fun q => c30 ((law_gt hL hj).mpr q))
      refine lv_aload_n hx hb d_Law_law_33 rfl (lv_at hl 0 rfl) ?_
      refine lv_iload hx hb d_Law_law_34 (lv_at hl 4 rfl) ?_
      refine va_sld hx hb hX hbl hbA hI.2.2.2 (pk_in (6 * j) L (by omega) rfl (by omega)) d_Law_law_36 ?_
      rw [nI_clamp (show 6 * j < 2 ^ 31 by omega)]
      refine lv_bipush (v := 15) hx hb d_Law_law_37 (by decide) ?_
      refine lv_iand hx hb d_Law_law_39 ?_
      by_cases hsw : (((xs (6 * j)) &&& 15)).toInt < 0 ∨ 12 < (((xs (6 * j)) &&& 15)).toInt
      · refine lv_tableOut (tgt := 950) hx hb d_Law_law_40 hsw (by decide) ?_
        exact W_widen (by show 100 + 12 * j ≤ 100 + 12 * (j + 1); omega) (by show 75000 + 300 * j ≤ 75000 + 300 * (j + 1); omega) (nx _ _ _ _ _ _ hRP hI hj6 (lv_sub hl [0, 1, 2, 3, 4] rfl))
      obtain ⟨j9, hj9, ej9⟩ := sw_nat (n := 12) hsw
      rcases (show j9 = 0 ∨ j9 = 1 ∨ j9 = 2 ∨ j9 = 3 ∨ j9 = 4 ∨ j9 = 5 ∨ j9 = 6 ∨ j9 = 7 ∨ j9 = 8 ∨ j9 = 9 ∨ j9 = 10 ∨ j9 = 11 ∨ j9 = 12 by omega) with e9 | e9 | e9 | e9 | e9 | e9 | e9 | e9 | e9 | e9 | e9 | e9 | e9
      · rw [e9] at ej9
        refine lv_tableIn (tgt := 108) hx hb d_Law_law_40 (by rw [ej9]; decide) (by rw [ej9]; decide) (by rw [ej9]; rfl) (by decide) ?_
        obtain ⟨V, st, en, ct, r, la, ma, mk, rw9, gl, gb, ad, ca, pa, gc, gp, a, hS9, hC, hM, hD, ho⟩ := hRP
        refine lv_aload_n hx hb d_Law_law_108 rfl (lv_at hl 1 rfl) ?_
        refine lv_aload_n hx hb d_Law_law_109 rfl (lv_at hl 0 rfl) ?_
        refine lv_iload hx hb d_Law_law_110 (lv_at hl 4 rfl) ?_
        refine lv_iconst (v := 1) hx hb d_Law_law_112 (by decide) ?_
        refine lv_iadd hx hb d_Law_law_113 ?_
        refine va_sld hx hb hX hbl hbA hI.2.2.2 (pk_in (6 * j + 1) L (by omega) (nI_add (6 * j) 1) (by omega)) d_Law_law_114 ?_
        rw [show (nI (6 * j) + 1).toNatClampNeg = 6 * j + 1 from law_ix (k := 1) hj (by decide)]
        refine lv_aload_n hx hb d_Law_law_115 rfl (lv_at hl 0 rfl) ?_
        refine lv_iload hx hb d_Law_law_116 (lv_at hl 4 rfl) ?_
        refine lv_iconst (v := 2) hx hb d_Law_law_118 (by decide) ?_
        refine lv_iadd hx hb d_Law_law_119 ?_
        refine va_sld hx hb hX hbl hbA hI.2.2.2 (pk_in (6 * j + 2) L (by omega) (nI_add (6 * j) 2) (by omega)) d_Law_law_120 ?_
        rw [show (nI (6 * j) + 2).toNatClampNeg = 6 * j + 2 from law_ix (k := 2) hj (by decide)]
        refine lv_aload_n hx hb d_Law_law_121 rfl (lv_at hl 0 rfl) ?_
        refine lv_iload hx hb d_Law_law_122 (lv_at hl 4 rfl) ?_
        refine lv_iconst (v := 3) hx hb d_Law_law_124 (by decide) ?_
        refine lv_iadd hx hb d_Law_law_125 ?_
        refine va_sld hx hb hX hbl hbA hI.2.2.2 (pk_in (6 * j + 3) L (by omega) (nI_add (6 * j) 3) (by omega)) d_Law_law_126 ?_
        rw [show (nI (6 * j) + 3).toNatClampNeg = 6 * j + 3 from law_ix (k := 3) hj (by decide)]
        refine lv_aload_n hx hb d_Law_law_127 rfl (lv_at hl 0 rfl) ?_
        refine lv_iload hx hb d_Law_law_128 (lv_at hl 4 rfl) ?_
        refine lv_iconst (v := 4) hx hb d_Law_law_130 (by decide) ?_
        refine lv_iadd hx hb d_Law_law_131 ?_
        refine va_sld hx hb hX hbl hbA hI.2.2.2 (pk_in (6 * j + 4) L (by omega) (nI_add (6 * j) 4) (by omega)) d_Law_law_132 ?_
        rw [show (nI (6 * j) + 4).toNatClampNeg = 6 * j + 4 from law_ix (k := 4) hj (by decide)]
        refine lv_aload_n hx hb d_Law_law_133 rfl (lv_at hl 3 rfl) ?_
        have hH := c_Law_leaf l s.heap.size D cA f x o (xs (6 * j + 1)) (xs (6 * j + 2)) (xs (6 * j + 3)) (xs (6 * j + 4)) ow _ (PAdd cA f x la ma mk (en - st) ct gl (okLeaf (xs (6 * j + 1)) (xs (6 * j + 2)) (xs (6 * j + 3)) (xs (6 * j + 4))) (.inl (xs (6 * j + 1), xs (6 * j + 2), xs (6 * j + 3), xs (6 * j + 4), none, 0))) (TAdd f (en - st) (okLeaf (xs (6 * j + 1)) (xs (6 * j + 2)) (xs (6 * j + 3)) (xs (6 * j + 4)))) hC.1 (c_BP_leaf l hl0 s.heap.size D cA f x la ma mk (en - st) ct (xs (6 * j + 1)) (xs (6 * j + 2)) (xs (6 * j + 3)) (xs (6 * j + 4)) gl hC.1 hC.2.1 (Nat.lt_of_le_of_lt hS9.2.1 (by decide))) (fun v g hp => ⟨⟨_, hp.1⟩, (CF.of_added hp.2.2.2).keepO hC ho⟩) (fun E g hp => hp.elim (fun q => Or.inl q.1) (fun q => Or.inr q.1))
        refine hv_SH (As := [.ref x, .int (xs (6 * j + 1)), .int (xs (6 * j + 2)), .int (xs (6 * j + 3)), .int (xs (6 * j + 4)), .ref o]) (rest := []) hE hml hK hI hH cd_Law_leaf w72 w73 rfl hl.1 (Nat.le_of_ble_eq_true rfl) d_Law_law_134 ⟨Nat.le_of_ble_eq_true rfl, Nat.le_of_ble_eq_true rfl⟩ ⟨by show 100 + 12 * j + 3 ≤ 601024; omega, by show 75000 + 300 * j + 18 ≤ 7293034; omega⟩ (fun v9 g1 H locs hp hI => ?_)
        obtain ⟨k9, hv9, hp1⟩ := hp
        rw [hv9]
        refine W.eq (g2 := F0 m 137 ls [.int k9]) rfl ?_
        have hM1 := mid_i hS9 hC hM hD ho (fun v g hp => CF.of_added hp.2.2.2) (fun E g hp => hp.elim (fun q => by rw [q.2.2]; exact CF.rfl') (fun q => by rw [q.2.2.2]; exact CF.rfl')) hp1
        obtain ⟨hN1, hA1, ⟨gd, v0, m0, m14, m15⟩, m16⟩ := id hM1
        refine lv_istore (lv' := [(5, .int k9), (0, .ref b), (1, .ref x), (2, .ref mo), (3, .ref o), (4, .int (nI (6 * j)))]) hx hb d_Law_law_137 hl (by decide) rfl (fun ls hl => ?_)
        refine lv_aload_n hx hb d_Law_law_139 rfl (lv_at hl 3 rfl) ?_
        refine lv_aload_n hx hb d_Law_law_140 rfl (lv_at hl 1 rfl) ?_
        refine lv_iload hx hb d_Law_law_141 (lv_at hl 5 rfl) ?_
        refine lv_iconst (v := 1) hx hb d_Law_law_143 (by decide) ?_
        refine lv_iadd hx hb d_Law_law_144 ?_
        refine va_sld hx hb hX hbl hbA hI.2.2.2 (pk_in (6 * j + 1) L (by omega) (nI_add (6 * j) 1) (by omega)) d_Law_law_145 ?_
        rw [show (nI (6 * j) + 1).toNatClampNeg = 6 * j + 1 from law_ix (k := 1) hj (by decide)]
        refine lv_aload_n hx hb d_Law_law_146 rfl (lv_at hl 1 rfl) ?_
        refine lv_iload hx hb d_Law_law_147 (lv_at hl 5 rfl) ?_
        refine lv_iconst (v := 2) hx hb d_Law_law_149 (by decide) ?_
        refine lv_iadd hx hb d_Law_law_150 ?_
        refine va_sld hx hb hX hbl hbA hI.2.2.2 (pk_in (6 * j + 2) L (by omega) (nI_add (6 * j) 2) (by omega)) d_Law_law_151 ?_
        rw [show (nI (6 * j) + 2).toNatClampNeg = 6 * j + 2 from law_ix (k := 2) hj (by decide)]
        refine lv_aload_n hx hb d_Law_law_152 rfl (lv_at hl 1 rfl) ?_
        refine lv_iload hx hb d_Law_law_153 (lv_at hl 5 rfl) ?_
        refine lv_iconst (v := 3) hx hb d_Law_law_155 (by decide) ?_
        refine lv_iadd hx hb d_Law_law_156 ?_
        refine va_sld hx hb hX hbl hbA hI.2.2.2 (pk_in (6 * j + 3) L (by omega) (nI_add (6 * j) 3) (by omega)) d_Law_law_157 ?_
        rw [show (nI (6 * j) + 3).toNatClampNeg = 6 * j + 3 from law_ix (k := 3) hj (by decide)]
        refine lv_aload_n hx hb d_Law_law_158 rfl (lv_at hl 1 rfl) ?_
        refine lv_iload hx hb d_Law_law_159 (lv_at hl 5 rfl) ?_
        refine lv_iconst (v := 4) hx hb d_Law_law_161 (by decide) ?_
        refine lv_iadd hx hb d_Law_law_162 ?_
        refine va_sld hx hb hX hbl hbA hI.2.2.2 (pk_in (6 * j + 4) L (by omega) (nI_add (6 * j) 4) (by omega)) d_Law_law_163 ?_
        rw [show (nI (6 * j) + 4).toNatClampNeg = 6 * j + 4 from law_ix (k := 4) hj (by decide)]
        refine hv_V (As := [.int (xs (6 * j + 1)), .int (xs (6 * j + 2)), .int (xs (6 * j + 3)), .int (xs (6 * j + 4))]) (rest := []) hE hml hK hI (c_Mo_leaf l hl0 s.heap.size D cA g1 mo a th st en (nI ct) gd v0.1 v0.2.1 v0.2.2.1 v0.2.2.2.1 (nI r.2) V (xs (6 * j + 1)) (xs (6 * j + 2)) (xs (6 * j + 3)) (xs (6 * j + 4)) m0 hN1 hA1 hS9.1 hS9.lt hS9.2.1) cd_Mo_leaf w603 w604 w605 m0 rfl rfl hl.1 (Nat.le_of_ble_eq_true rfl) d_Law_law_164 ⟨Nat.le_of_ble_eq_true rfl, Nat.le_of_ble_eq_true rfl⟩ ⟨by show 100 + 12 * j + 3 + 0 ≤ 601024; omega, by show 75000 + 300 * j + 18 + 0 ≤ 7293034; omega⟩ (fun v2 g2 H locs hp2 hI => ?_) (fun q9 E9 ce9 g9 H locs hp => hp.elim)
        obtain ⟨b9, ow1, hv2, hRP1, hkb⟩ := op_add hS9 hC hM hD ho io_leaf it_leaf hp1 hM1 hp2
        rw [hv2]
        refine W.eq (g2 := F0 m 167 ls [.int b9]) rfl ?_
        refine lv_istore (lv' := [(6, .int b9), (5, .int k9), (0, .ref b), (1, .ref x), (2, .ref mo), (3, .ref o), (4, .int (nI (6 * j)))]) hx hb d_Law_law_167 hl (by decide) rfl (fun ls hl => ?_)
        refine lv_aload_n hx hb d_Law_law_169 rfl (lv_at hl 4 rfl) ?_
        obtain ⟨a8, st8, en8, ct8, gd8, ln8, bf8, ac8, un8, md8, m8, n8⟩ := hRP1.thrown
        refine hv_Vp (As := []) (rest := []) hE hml hK hI (c_Mo_thrown l hl0 s.heap.size D cA g2 mo a8 k9 st8 en8 ct8 gd8 ln8 bf8 ac8 un8 md8 m8 n8) cd_Mo_thrown w599 w600 w601 m8 rfl rfl rfl rfl hl.1 (Nat.le_of_ble_eq_true rfl) d_Law_law_170 ⟨Nat.le_of_ble_eq_true rfl, Nat.le_of_ble_eq_true rfl⟩ ⟨by show 100 + 12 * j + 3 + 0 ≤ 601024; omega, by show 75000 + 300 * j + 18 + 0 ≤ 7293034; omega⟩ (fun H locs hI => ?_)
        refine W.eq (g2 := F0 m 173 ls [.int k9]) rfl ?_
        refine lv_iload hx hb d_Law_law_173 (lv_at hl 1 rfl) ?_
        refine lv_icmp_eq (tgt := 180) hx hb d_Law_law_175 (by decide) (fun c175 => ?_) (fun c175 => ?_)
        · skip
          refine lv_iload hx hb d_Law_law_180 (lv_at hl 1 rfl) ?_
          refine lv_if_ne (tgt := 197) hx hb d_Law_law_182 (by decide) (fun c182 => ?_) (fun c182 => ?_)
          · skip
            refine lv_goto (tgt := 950) hx hb d_Law_law_197 (by decide) ?_
            exact W_widen (by show 100 + 12 * j + 3 + 0 ≤ 100 + 12 * (j + 1); omega) (by show 75000 + 300 * j + 18 + 0 ≤ 75000 + 300 * (j + 1); omega) (nx _ _ _ _ _ _ hRP1 hI hj6 (lv_sub hl [2, 3, 4, 5, 6] rfl))
          · skip
            have hkz : k9 = 0 := c182
            refine lv_aload_n hx hb d_Law_law_185 rfl (lv_at hl 5 rfl) ?_
            refine lv_iconst (v := 0) hx hb d_Law_law_186 (by decide) ?_
            refine hv_lald hE hI 1 hRP1.outAt rfl (pk_in 0 1 (by decide) rfl) d_Law_law_187 ?_
            rw [show (0 : Int32).toNatClampNeg = 0 from by decide]
            refine lv_iload hx hb d_Law_law_188 (lv_at hl 0 rfl) ?_
            refine lv_i2l (v := b9.toInt64) hx hb d_Law_law_190 rfl ?_
            refine W.lcmp hx hb d_Law_law_191 ?_
            refine lv_if_eq (tgt := 197) hx hb d_Law_law_192 (by decide) (fun c192 => ?_) (fun c192 => ?_)
            · skip
              refine lv_goto (tgt := 950) hx hb d_Law_law_197 (by decide) ?_
              exact W_widen (by show 100 + 12 * j + 3 + 0 ≤ 100 + 12 * (j + 1); omega) (by show 75000 + 300 * j + 18 + 0 ≤ 75000 + 300 * (j + 1); omega) (nx _ _ _ _ _ _ hRP1 hI hj6 (lv_sub hl [2, 3, 4, 5, 6] rfl))
            · skip
              exact absurd ((lg_cmp_eq _ _).mpr (hkb hkz)) c192
        · skip
          exact absurd rfl c175
      · rw [e9] at ej9
        refine lv_tableIn (tgt := 200) hx hb d_Law_law_40 (by rw [ej9]; decide) (by rw [ej9]; decide) (by rw [ej9]; rfl) (by decide) ?_
        obtain ⟨V, st, en, ct, r, la, ma, mk, rw9, gl, gb, ad, ca, pa, gc, gp, a, hS9, hC, hM, hD, ho⟩ := hRP
        refine lv_aload_n hx hb d_Law_law_200 rfl (lv_at hl 1 rfl) ?_
        refine lv_aload_n hx hb d_Law_law_201 rfl (lv_at hl 0 rfl) ?_
        refine lv_iload hx hb d_Law_law_202 (lv_at hl 4 rfl) ?_
        refine lv_iconst (v := 1) hx hb d_Law_law_204 (by decide) ?_
        refine lv_iadd hx hb d_Law_law_205 ?_
        refine va_sld hx hb hX hbl hbA hI.2.2.2 (pk_in (6 * j + 1) L (by omega) (nI_add (6 * j) 1) (by omega)) d_Law_law_206 ?_
        rw [show (nI (6 * j) + 1).toNatClampNeg = 6 * j + 1 from law_ix (k := 1) hj (by decide)]
        refine lv_aload_n hx hb d_Law_law_207 rfl (lv_at hl 0 rfl) ?_
        refine lv_iload hx hb d_Law_law_208 (lv_at hl 4 rfl) ?_
        refine lv_iconst (v := 2) hx hb d_Law_law_210 (by decide) ?_
        refine lv_iadd hx hb d_Law_law_211 ?_
        refine va_sld hx hb hX hbl hbA hI.2.2.2 (pk_in (6 * j + 2) L (by omega) (nI_add (6 * j) 2) (by omega)) d_Law_law_212 ?_
        rw [show (nI (6 * j) + 2).toNatClampNeg = 6 * j + 2 from law_ix (k := 2) hj (by decide)]
        refine lv_aload_n hx hb d_Law_law_213 rfl (lv_at hl 0 rfl) ?_
        refine lv_iload hx hb d_Law_law_214 (lv_at hl 4 rfl) ?_
        refine lv_iconst (v := 3) hx hb d_Law_law_216 (by decide) ?_
        refine lv_iadd hx hb d_Law_law_217 ?_
        refine va_sld hx hb hX hbl hbA hI.2.2.2 (pk_in (6 * j + 3) L (by omega) (nI_add (6 * j) 3) (by omega)) d_Law_law_218 ?_
        rw [show (nI (6 * j) + 3).toNatClampNeg = 6 * j + 3 from law_ix (k := 3) hj (by decide)]
        refine lv_aload_n hx hb d_Law_law_219 rfl (lv_at hl 3 rfl) ?_
        have hH := c_Law_rule l s.heap.size D cA f x o (xs (6 * j + 1)) (xs (6 * j + 2)) (xs (6 * j + 3)) ow _ (PAdd cA f x la ma mk (en - st) ct gl (okRule (xs (6 * j + 1)) (xs (6 * j + 2)) (xs (6 * j + 3))) (.inl (-1, xs (6 * j + 1), xs (6 * j + 2), xs (6 * j + 3), none, 0))) (TAdd f (en - st) (okRule (xs (6 * j + 1)) (xs (6 * j + 2)) (xs (6 * j + 3)))) hC.1 (c_BP_rule l hl0 s.heap.size D cA f x la ma mk (en - st) ct (xs (6 * j + 1)) (xs (6 * j + 2)) (xs (6 * j + 3)) gl hC.1 hC.2.1 (Nat.lt_of_le_of_lt hS9.2.1 (by decide))) (fun v g hp => ⟨⟨_, hp.1⟩, (CF.of_added hp.2.2.2).keepO hC ho⟩) (fun E g hp => hp.elim (fun q => Or.inl q.1) (fun q => Or.inr q.1))
        refine hv_SH (As := [.ref x, .int (xs (6 * j + 1)), .int (xs (6 * j + 2)), .int (xs (6 * j + 3)), .ref o]) (rest := []) hE hml hK hI hH cd_Law_rule w216 w217 rfl hl.1 (Nat.le_of_ble_eq_true rfl) d_Law_law_220 ⟨Nat.le_of_ble_eq_true rfl, Nat.le_of_ble_eq_true rfl⟩ ⟨by show 100 + 12 * j + 3 ≤ 601024; omega, by show 75000 + 300 * j + 18 ≤ 7293034; omega⟩ (fun v9 g1 H locs hp hI => ?_)
        obtain ⟨k9, hv9, hp1⟩ := hp
        rw [hv9]
        refine W.eq (g2 := F0 m 223 ls [.int k9]) rfl ?_
        have hM1 := mid_i hS9 hC hM hD ho (fun v g hp => CF.of_added hp.2.2.2) (fun E g hp => hp.elim (fun q => by rw [q.2.2]; exact CF.rfl') (fun q => by rw [q.2.2.2]; exact CF.rfl')) hp1
        obtain ⟨hN1, hA1, ⟨gd, v0, m0, m14, m15⟩, m16⟩ := id hM1
        refine lv_istore (lv' := [(5, .int k9), (0, .ref b), (1, .ref x), (2, .ref mo), (3, .ref o), (4, .int (nI (6 * j)))]) hx hb d_Law_law_223 hl (by decide) rfl (fun ls hl => ?_)
        refine lv_aload_n hx hb d_Law_law_225 rfl (lv_at hl 3 rfl) ?_
        refine lv_aload_n hx hb d_Law_law_226 rfl (lv_at hl 1 rfl) ?_
        refine lv_iload hx hb d_Law_law_227 (lv_at hl 5 rfl) ?_
        refine lv_iconst (v := 1) hx hb d_Law_law_229 (by decide) ?_
        refine lv_iadd hx hb d_Law_law_230 ?_
        refine va_sld hx hb hX hbl hbA hI.2.2.2 (pk_in (6 * j + 1) L (by omega) (nI_add (6 * j) 1) (by omega)) d_Law_law_231 ?_
        rw [show (nI (6 * j) + 1).toNatClampNeg = 6 * j + 1 from law_ix (k := 1) hj (by decide)]
        refine lv_aload_n hx hb d_Law_law_232 rfl (lv_at hl 1 rfl) ?_
        refine lv_iload hx hb d_Law_law_233 (lv_at hl 5 rfl) ?_
        refine lv_iconst (v := 2) hx hb d_Law_law_235 (by decide) ?_
        refine lv_iadd hx hb d_Law_law_236 ?_
        refine va_sld hx hb hX hbl hbA hI.2.2.2 (pk_in (6 * j + 2) L (by omega) (nI_add (6 * j) 2) (by omega)) d_Law_law_237 ?_
        rw [show (nI (6 * j) + 2).toNatClampNeg = 6 * j + 2 from law_ix (k := 2) hj (by decide)]
        refine lv_aload_n hx hb d_Law_law_238 rfl (lv_at hl 1 rfl) ?_
        refine lv_iload hx hb d_Law_law_239 (lv_at hl 5 rfl) ?_
        refine lv_iconst (v := 3) hx hb d_Law_law_241 (by decide) ?_
        refine lv_iadd hx hb d_Law_law_242 ?_
        refine va_sld hx hb hX hbl hbA hI.2.2.2 (pk_in (6 * j + 3) L (by omega) (nI_add (6 * j) 3) (by omega)) d_Law_law_243 ?_
        rw [show (nI (6 * j) + 3).toNatClampNeg = 6 * j + 3 from law_ix (k := 3) hj (by decide)]
        refine hv_V (As := [.int (xs (6 * j + 1)), .int (xs (6 * j + 2)), .int (xs (6 * j + 3))]) (rest := []) hE hml hK hI (c_Mo_rule l hl0 s.heap.size D cA g1 mo a th st en (nI ct) gd v0.1 v0.2.1 v0.2.2.1 v0.2.2.2.1 (nI r.2) V (xs (6 * j + 1)) (xs (6 * j + 2)) (xs (6 * j + 3)) m0 hN1 hA1 hS9.1 hS9.lt hS9.2.1) cd_Mo_rule w621 w622 w623 m0 rfl rfl hl.1 (Nat.le_of_ble_eq_true rfl) d_Law_law_244 ⟨Nat.le_of_ble_eq_true rfl, Nat.le_of_ble_eq_true rfl⟩ ⟨by show 100 + 12 * j + 3 + 0 ≤ 601024; omega, by show 75000 + 300 * j + 18 + 0 ≤ 7293034; omega⟩ (fun v2 g2 H locs hp2 hI => ?_) (fun q9 E9 ce9 g9 H locs hp => hp.elim)
        obtain ⟨b9, ow1, hv2, hRP1, hkb⟩ := op_add hS9 hC hM hD ho io_rule it_rule hp1 hM1 hp2
        rw [hv2]
        refine W.eq (g2 := F0 m 247 ls [.int b9]) rfl ?_
        refine lv_istore (lv' := [(6, .int b9), (5, .int k9), (0, .ref b), (1, .ref x), (2, .ref mo), (3, .ref o), (4, .int (nI (6 * j)))]) hx hb d_Law_law_247 hl (by decide) rfl (fun ls hl => ?_)
        refine lv_aload_n hx hb d_Law_law_249 rfl (lv_at hl 4 rfl) ?_
        obtain ⟨a8, st8, en8, ct8, gd8, ln8, bf8, ac8, un8, md8, m8, n8⟩ := hRP1.thrown
        refine hv_Vp (As := []) (rest := []) hE hml hK hI (c_Mo_thrown l hl0 s.heap.size D cA g2 mo a8 k9 st8 en8 ct8 gd8 ln8 bf8 ac8 un8 md8 m8 n8) cd_Mo_thrown w599 w600 w601 m8 rfl rfl rfl rfl hl.1 (Nat.le_of_ble_eq_true rfl) d_Law_law_250 ⟨Nat.le_of_ble_eq_true rfl, Nat.le_of_ble_eq_true rfl⟩ ⟨by show 100 + 12 * j + 3 + 0 ≤ 601024; omega, by show 75000 + 300 * j + 18 + 0 ≤ 7293034; omega⟩ (fun H locs hI => ?_)
        refine W.eq (g2 := F0 m 253 ls [.int k9]) rfl ?_
        refine lv_iload hx hb d_Law_law_253 (lv_at hl 1 rfl) ?_
        refine lv_icmp_eq (tgt := 260) hx hb d_Law_law_255 (by decide) (fun c255 => ?_) (fun c255 => ?_)
        · skip
          refine lv_iload hx hb d_Law_law_260 (lv_at hl 1 rfl) ?_
          refine lv_if_ne (tgt := 277) hx hb d_Law_law_262 (by decide) (fun c262 => ?_) (fun c262 => ?_)
          · skip
            refine lv_goto (tgt := 950) hx hb d_Law_law_277 (by decide) ?_
            exact W_widen (by show 100 + 12 * j + 3 + 0 ≤ 100 + 12 * (j + 1); omega) (by show 75000 + 300 * j + 18 + 0 ≤ 75000 + 300 * (j + 1); omega) (nx _ _ _ _ _ _ hRP1 hI hj6 (lv_sub hl [2, 3, 4, 5, 6] rfl))
          · skip
            have hkz : k9 = 0 := c262
            refine lv_aload_n hx hb d_Law_law_265 rfl (lv_at hl 5 rfl) ?_
            refine lv_iconst (v := 0) hx hb d_Law_law_266 (by decide) ?_
            refine hv_lald hE hI 1 hRP1.outAt rfl (pk_in 0 1 (by decide) rfl) d_Law_law_267 ?_
            rw [show (0 : Int32).toNatClampNeg = 0 from by decide]
            refine lv_iload hx hb d_Law_law_268 (lv_at hl 0 rfl) ?_
            refine lv_i2l (v := b9.toInt64) hx hb d_Law_law_270 rfl ?_
            refine W.lcmp hx hb d_Law_law_271 ?_
            refine lv_if_eq (tgt := 277) hx hb d_Law_law_272 (by decide) (fun c272 => ?_) (fun c272 => ?_)
            · skip
              refine lv_goto (tgt := 950) hx hb d_Law_law_277 (by decide) ?_
              exact W_widen (by show 100 + 12 * j + 3 + 0 ≤ 100 + 12 * (j + 1); omega) (by show 75000 + 300 * j + 18 + 0 ≤ 75000 + 300 * (j + 1); omega) (nx _ _ _ _ _ _ hRP1 hI hj6 (lv_sub hl [2, 3, 4, 5, 6] rfl))
            · skip
              exact absurd ((lg_cmp_eq _ _).mpr (hkb hkz)) c272
        · skip
          exact absurd rfl c255
      · rw [e9] at ej9
        refine lv_tableIn (tgt := 280) hx hb d_Law_law_40 (by rw [ej9]; decide) (by rw [ej9]; decide) (by rw [ej9]; rfl) (by decide) ?_
        obtain ⟨V, st, en, ct, r, la, ma, mk, rw9, gl, gb, ad, ca, pa, gc, gp, a, hS9, hC, hM, hD, ho⟩ := hRP
        refine lv_aload_n hx hb d_Law_law_280 rfl (lv_at hl 1 rfl) ?_
        refine lv_aload_n hx hb d_Law_law_281 rfl (lv_at hl 0 rfl) ?_
        refine lv_iload hx hb d_Law_law_282 (lv_at hl 4 rfl) ?_
        refine lv_iconst (v := 1) hx hb d_Law_law_284 (by decide) ?_
        refine lv_iadd hx hb d_Law_law_285 ?_
        refine va_sld hx hb hX hbl hbA hI.2.2.2 (pk_in (6 * j + 1) L (by omega) (nI_add (6 * j) 1) (by omega)) d_Law_law_286 ?_
        rw [show (nI (6 * j) + 1).toNatClampNeg = 6 * j + 1 from law_ix (k := 1) hj (by decide)]
        refine lv_aload_n hx hb d_Law_law_287 rfl (lv_at hl 0 rfl) ?_
        refine lv_iload hx hb d_Law_law_288 (lv_at hl 4 rfl) ?_
        refine lv_iconst (v := 2) hx hb d_Law_law_290 (by decide) ?_
        refine lv_iadd hx hb d_Law_law_291 ?_
        refine va_sld hx hb hX hbl hbA hI.2.2.2 (pk_in (6 * j + 2) L (by omega) (nI_add (6 * j) 2) (by omega)) d_Law_law_292 ?_
        rw [show (nI (6 * j) + 2).toNatClampNeg = 6 * j + 2 from law_ix (k := 2) hj (by decide)]
        refine lv_aload_n hx hb d_Law_law_293 rfl (lv_at hl 0 rfl) ?_
        refine lv_iload hx hb d_Law_law_294 (lv_at hl 4 rfl) ?_
        refine lv_iconst (v := 3) hx hb d_Law_law_296 (by decide) ?_
        refine lv_iadd hx hb d_Law_law_297 ?_
        refine va_sld hx hb hX hbl hbA hI.2.2.2 (pk_in (6 * j + 3) L (by omega) (nI_add (6 * j) 3) (by omega)) d_Law_law_298 ?_
        rw [show (nI (6 * j) + 3).toNatClampNeg = 6 * j + 3 from law_ix (k := 3) hj (by decide)]
        refine lv_aload_n hx hb d_Law_law_299 rfl (lv_at hl 0 rfl) ?_
        refine lv_iload hx hb d_Law_law_300 (lv_at hl 4 rfl) ?_
        refine lv_iconst (v := 4) hx hb d_Law_law_302 (by decide) ?_
        refine lv_iadd hx hb d_Law_law_303 ?_
        refine va_sld hx hb hX hbl hbA hI.2.2.2 (pk_in (6 * j + 4) L (by omega) (nI_add (6 * j) 4) (by omega)) d_Law_law_304 ?_
        rw [show (nI (6 * j) + 4).toNatClampNeg = 6 * j + 4 from law_ix (k := 4) hj (by decide)]
        refine lv_aload_n hx hb d_Law_law_305 rfl (lv_at hl 0 rfl) ?_
        refine lv_iload hx hb d_Law_law_306 (lv_at hl 4 rfl) ?_
        refine lv_iconst (v := 5) hx hb d_Law_law_308 (by decide) ?_
        refine lv_iadd hx hb d_Law_law_309 ?_
        refine va_sld hx hb hX hbl hbA hI.2.2.2 (pk_in (6 * j + 5) L (by omega) (nI_add (6 * j) 5) (by omega)) d_Law_law_310 ?_
        rw [show (nI (6 * j) + 5).toNatClampNeg = 6 * j + 5 from law_ix (k := 5) hj (by decide)]
        refine lv_aload_n hx hb d_Law_law_311 rfl (lv_at hl 3 rfl) ?_
        have hH := c_Law_glue l s.heap.size D cA f x o (xs (6 * j + 1)) (xs (6 * j + 2)) (xs (6 * j + 3)) (xs (6 * j + 4)) (xs (6 * j + 5)) ow _ (PAdd cA f x la ma mk (en - st) ct gl (okGlue (xs (6 * j + 1)) (xs (6 * j + 2)) (xs (6 * j + 3)) (xs (6 * j + 4)) (xs (6 * j + 5))) (.inr (xs (6 * j + 1), xs (6 * j + 2), xs (6 * j + 3), xs (6 * j + 4), xs (6 * j + 5)))) (TAdd f (en - st) (okGlue (xs (6 * j + 1)) (xs (6 * j + 2)) (xs (6 * j + 3)) (xs (6 * j + 4)) (xs (6 * j + 5)))) hC.1 (c_BP_glue l hl0 s.heap.size D cA f x la ma mk (en - st) ct (xs (6 * j + 1)) (xs (6 * j + 2)) (xs (6 * j + 3)) (xs (6 * j + 4)) (xs (6 * j + 5)) gl hC.1 hC.2.1 (Nat.lt_of_le_of_lt hS9.2.1 (by decide))) (fun v g hp => ⟨⟨_, hp.1⟩, (CF.of_added hp.2.2.2).keepO hC ho⟩) (fun E g hp => hp.elim (fun q => Or.inl q.1) (fun q => Or.inr q.1))
        refine hv_SH (As := [.ref x, .int (xs (6 * j + 1)), .int (xs (6 * j + 2)), .int (xs (6 * j + 3)), .int (xs (6 * j + 4)), .int (xs (6 * j + 5)), .ref o]) (rest := []) hE hml hK hI hH cd_Law_glue w228 w229 rfl hl.1 (Nat.le_of_ble_eq_true rfl) d_Law_law_312 ⟨Nat.le_of_ble_eq_true rfl, Nat.le_of_ble_eq_true rfl⟩ ⟨by show 100 + 12 * j + 3 ≤ 601024; omega, by show 75000 + 300 * j + 18 ≤ 7293034; omega⟩ (fun v9 g1 H locs hp hI => ?_)
        obtain ⟨k9, hv9, hp1⟩ := hp
        rw [hv9]
        refine W.eq (g2 := F0 m 315 ls [.int k9]) rfl ?_
        have hM1 := mid_i hS9 hC hM hD ho (fun v g hp => CF.of_added hp.2.2.2) (fun E g hp => hp.elim (fun q => by rw [q.2.2]; exact CF.rfl') (fun q => by rw [q.2.2.2]; exact CF.rfl')) hp1
        obtain ⟨hN1, hA1, ⟨gd, v0, m0, m14, m15⟩, m16⟩ := id hM1
        refine lv_istore (lv' := [(5, .int k9), (0, .ref b), (1, .ref x), (2, .ref mo), (3, .ref o), (4, .int (nI (6 * j)))]) hx hb d_Law_law_315 hl (by decide) rfl (fun ls hl => ?_)
        refine lv_aload_n hx hb d_Law_law_317 rfl (lv_at hl 3 rfl) ?_
        refine lv_aload_n hx hb d_Law_law_318 rfl (lv_at hl 1 rfl) ?_
        refine lv_iload hx hb d_Law_law_319 (lv_at hl 5 rfl) ?_
        refine lv_iconst (v := 1) hx hb d_Law_law_321 (by decide) ?_
        refine lv_iadd hx hb d_Law_law_322 ?_
        refine va_sld hx hb hX hbl hbA hI.2.2.2 (pk_in (6 * j + 1) L (by omega) (nI_add (6 * j) 1) (by omega)) d_Law_law_323 ?_
        rw [show (nI (6 * j) + 1).toNatClampNeg = 6 * j + 1 from law_ix (k := 1) hj (by decide)]
        refine lv_aload_n hx hb d_Law_law_324 rfl (lv_at hl 1 rfl) ?_
        refine lv_iload hx hb d_Law_law_325 (lv_at hl 5 rfl) ?_
        refine lv_iconst (v := 2) hx hb d_Law_law_327 (by decide) ?_
        refine lv_iadd hx hb d_Law_law_328 ?_
        refine va_sld hx hb hX hbl hbA hI.2.2.2 (pk_in (6 * j + 2) L (by omega) (nI_add (6 * j) 2) (by omega)) d_Law_law_329 ?_
        rw [show (nI (6 * j) + 2).toNatClampNeg = 6 * j + 2 from law_ix (k := 2) hj (by decide)]
        refine lv_aload_n hx hb d_Law_law_330 rfl (lv_at hl 1 rfl) ?_
        refine lv_iload hx hb d_Law_law_331 (lv_at hl 5 rfl) ?_
        refine lv_iconst (v := 3) hx hb d_Law_law_333 (by decide) ?_
        refine lv_iadd hx hb d_Law_law_334 ?_
        refine va_sld hx hb hX hbl hbA hI.2.2.2 (pk_in (6 * j + 3) L (by omega) (nI_add (6 * j) 3) (by omega)) d_Law_law_335 ?_
        rw [show (nI (6 * j) + 3).toNatClampNeg = 6 * j + 3 from law_ix (k := 3) hj (by decide)]
        refine lv_aload_n hx hb d_Law_law_336 rfl (lv_at hl 1 rfl) ?_
        refine lv_iload hx hb d_Law_law_337 (lv_at hl 5 rfl) ?_
        refine lv_iconst (v := 4) hx hb d_Law_law_339 (by decide) ?_
        refine lv_iadd hx hb d_Law_law_340 ?_
        refine va_sld hx hb hX hbl hbA hI.2.2.2 (pk_in (6 * j + 4) L (by omega) (nI_add (6 * j) 4) (by omega)) d_Law_law_341 ?_
        rw [show (nI (6 * j) + 4).toNatClampNeg = 6 * j + 4 from law_ix (k := 4) hj (by decide)]
        refine lv_aload_n hx hb d_Law_law_342 rfl (lv_at hl 1 rfl) ?_
        refine lv_iload hx hb d_Law_law_343 (lv_at hl 5 rfl) ?_
        refine lv_iconst (v := 5) hx hb d_Law_law_345 (by decide) ?_
        refine lv_iadd hx hb d_Law_law_346 ?_
        refine va_sld hx hb hX hbl hbA hI.2.2.2 (pk_in (6 * j + 5) L (by omega) (nI_add (6 * j) 5) (by omega)) d_Law_law_347 ?_
        rw [show (nI (6 * j) + 5).toNatClampNeg = 6 * j + 5 from law_ix (k := 5) hj (by decide)]
        refine hv_V (As := [.int (xs (6 * j + 1)), .int (xs (6 * j + 2)), .int (xs (6 * j + 3)), .int (xs (6 * j + 4)), .int (xs (6 * j + 5))]) (rest := []) hE hml hK hI (c_Mo_glue l hl0 s.heap.size D cA g1 mo a th st en (nI ct) gd v0.1 v0.2.1 v0.2.2.1 v0.2.2.2.1 (nI r.2) V (xs (6 * j + 1)) (xs (6 * j + 2)) (xs (6 * j + 3)) (xs (6 * j + 4)) (xs (6 * j + 5)) m0 hN1 hA1 hS9.1 hS9.lt hS9.2.1) cd_Mo_glue w629 w630 w631 m0 rfl rfl hl.1 (Nat.le_of_ble_eq_true rfl) d_Law_law_348 ⟨Nat.le_of_ble_eq_true rfl, Nat.le_of_ble_eq_true rfl⟩ ⟨by show 100 + 12 * j + 3 + 0 ≤ 601024; omega, by show 75000 + 300 * j + 18 + 0 ≤ 7293034; omega⟩ (fun v2 g2 H locs hp2 hI => ?_) (fun q9 E9 ce9 g9 H locs hp => hp.elim)
        obtain ⟨b9, ow1, hv2, hRP1, hkb⟩ := op_add hS9 hC hM hD ho io_glue it_glue hp1 hM1 hp2
        rw [hv2]
        refine W.eq (g2 := F0 m 351 ls [.int b9]) rfl ?_
        refine lv_istore (lv' := [(6, .int b9), (5, .int k9), (0, .ref b), (1, .ref x), (2, .ref mo), (3, .ref o), (4, .int (nI (6 * j)))]) hx hb d_Law_law_351 hl (by decide) rfl (fun ls hl => ?_)
        refine lv_aload_n hx hb d_Law_law_353 rfl (lv_at hl 4 rfl) ?_
        obtain ⟨a8, st8, en8, ct8, gd8, ln8, bf8, ac8, un8, md8, m8, n8⟩ := hRP1.thrown
        refine hv_Vp (As := []) (rest := []) hE hml hK hI (c_Mo_thrown l hl0 s.heap.size D cA g2 mo a8 k9 st8 en8 ct8 gd8 ln8 bf8 ac8 un8 md8 m8 n8) cd_Mo_thrown w599 w600 w601 m8 rfl rfl rfl rfl hl.1 (Nat.le_of_ble_eq_true rfl) d_Law_law_354 ⟨Nat.le_of_ble_eq_true rfl, Nat.le_of_ble_eq_true rfl⟩ ⟨by show 100 + 12 * j + 3 + 0 ≤ 601024; omega, by show 75000 + 300 * j + 18 + 0 ≤ 7293034; omega⟩ (fun H locs hI => ?_)
        refine W.eq (g2 := F0 m 357 ls [.int k9]) rfl ?_
        refine lv_iload hx hb d_Law_law_357 (lv_at hl 1 rfl) ?_
        refine lv_icmp_eq (tgt := 364) hx hb d_Law_law_359 (by decide) (fun c359 => ?_) (fun c359 => ?_)
        · skip
          refine lv_iload hx hb d_Law_law_364 (lv_at hl 1 rfl) ?_
          refine lv_if_ne (tgt := 381) hx hb d_Law_law_366 (by decide) (fun c366 => ?_) (fun c366 => ?_)
          · skip
            refine lv_goto (tgt := 950) hx hb d_Law_law_381 (by decide) ?_
            exact W_widen (by show 100 + 12 * j + 3 + 0 ≤ 100 + 12 * (j + 1); omega) (by show 75000 + 300 * j + 18 + 0 ≤ 75000 + 300 * (j + 1); omega) (nx _ _ _ _ _ _ hRP1 hI hj6 (lv_sub hl [2, 3, 4, 5, 6] rfl))
          · skip
            have hkz : k9 = 0 := c366
            refine lv_aload_n hx hb d_Law_law_369 rfl (lv_at hl 5 rfl) ?_
            refine lv_iconst (v := 0) hx hb d_Law_law_370 (by decide) ?_
            refine hv_lald hE hI 1 hRP1.outAt rfl (pk_in 0 1 (by decide) rfl) d_Law_law_371 ?_
            rw [show (0 : Int32).toNatClampNeg = 0 from by decide]
            refine lv_iload hx hb d_Law_law_372 (lv_at hl 0 rfl) ?_
            refine lv_i2l (v := b9.toInt64) hx hb d_Law_law_374 rfl ?_
            refine W.lcmp hx hb d_Law_law_375 ?_
            refine lv_if_eq (tgt := 381) hx hb d_Law_law_376 (by decide) (fun c376 => ?_) (fun c376 => ?_)
            · skip
              refine lv_goto (tgt := 950) hx hb d_Law_law_381 (by decide) ?_
              exact W_widen (by show 100 + 12 * j + 3 + 0 ≤ 100 + 12 * (j + 1); omega) (by show 75000 + 300 * j + 18 + 0 ≤ 75000 + 300 * (j + 1); omega) (nx _ _ _ _ _ _ hRP1 hI hj6 (lv_sub hl [2, 3, 4, 5, 6] rfl))
            · skip
              exact absurd ((lg_cmp_eq _ _).mpr (hkb hkz)) c376
        · skip
          exact absurd rfl c359
      · rw [e9] at ej9
        refine lv_tableIn (tgt := 384) hx hb d_Law_law_40 (by rw [ej9]; decide) (by rw [ej9]; decide) (by rw [ej9]; rfl) (by decide) ?_
        obtain ⟨V, st, en, ct, r, la, ma, mk, rw9, gl, gb, ad, ca, pa, gc, gp, a, hS9, hC, hM, hD, ho⟩ := hRP
        refine lv_aload_n hx hb d_Law_law_384 rfl (lv_at hl 1 rfl) ?_
        refine lv_aload_n hx hb d_Law_law_385 rfl (lv_at hl 0 rfl) ?_
        refine lv_iload hx hb d_Law_law_386 (lv_at hl 4 rfl) ?_
        refine lv_iconst (v := 1) hx hb d_Law_law_388 (by decide) ?_
        refine lv_iadd hx hb d_Law_law_389 ?_
        refine va_sld hx hb hX hbl hbA hI.2.2.2 (pk_in (6 * j + 1) L (by omega) (nI_add (6 * j) 1) (by omega)) d_Law_law_390 ?_
        rw [show (nI (6 * j) + 1).toNatClampNeg = 6 * j + 1 from law_ix (k := 1) hj (by decide)]
        refine lv_aload_n hx hb d_Law_law_391 rfl (lv_at hl 3 rfl) ?_
        have hH := c_Law_kern l s.heap.size D cA f x o (xs (6 * j + 1)) ow _ (PAdd cA f x la ma mk (en - st) ct gl (sz (xs (6 * j + 1)).toInt64) (.inr (xs (6 * j + 1), 0, 0, 0, 0))) (TAdd f (en - st) (sz (xs (6 * j + 1)).toInt64)) hC.1 (c_BP_kern l hl0 s.heap.size D cA f x la ma mk (en - st) ct (xs (6 * j + 1)) gl hC.1 hC.2.1 (Nat.lt_of_le_of_lt hS9.2.1 (by decide))) (fun v g hp => ⟨⟨_, hp.1⟩, (CF.of_added hp.2.2.2).keepO hC ho⟩) (fun E g hp => hp.elim (fun q => Or.inl q.1) (fun q => Or.inr q.1))
        refine hv_SH (As := [.ref x, .int (xs (6 * j + 1)), .ref o]) (rest := []) hE hml hK hI hH cd_Law_kern w264 w265 rfl hl.1 (Nat.le_of_ble_eq_true rfl) d_Law_law_392 ⟨Nat.le_of_ble_eq_true rfl, Nat.le_of_ble_eq_true rfl⟩ ⟨by show 100 + 12 * j + 3 ≤ 601024; omega, by show 75000 + 300 * j + 18 ≤ 7293034; omega⟩ (fun v9 g1 H locs hp hI => ?_)
        obtain ⟨k9, hv9, hp1⟩ := hp
        rw [hv9]
        refine W.eq (g2 := F0 m 395 ls [.int k9]) rfl ?_
        have hM1 := mid_i hS9 hC hM hD ho (fun v g hp => CF.of_added hp.2.2.2) (fun E g hp => hp.elim (fun q => by rw [q.2.2]; exact CF.rfl') (fun q => by rw [q.2.2.2]; exact CF.rfl')) hp1
        obtain ⟨hN1, hA1, ⟨gd, v0, m0, m14, m15⟩, m16⟩ := id hM1
        refine lv_istore (lv' := [(5, .int k9), (0, .ref b), (1, .ref x), (2, .ref mo), (3, .ref o), (4, .int (nI (6 * j)))]) hx hb d_Law_law_395 hl (by decide) rfl (fun ls hl => ?_)
        refine lv_aload_n hx hb d_Law_law_397 rfl (lv_at hl 3 rfl) ?_
        refine lv_aload_n hx hb d_Law_law_398 rfl (lv_at hl 1 rfl) ?_
        refine lv_iload hx hb d_Law_law_399 (lv_at hl 5 rfl) ?_
        refine lv_iconst (v := 1) hx hb d_Law_law_401 (by decide) ?_
        refine lv_iadd hx hb d_Law_law_402 ?_
        refine va_sld hx hb hX hbl hbA hI.2.2.2 (pk_in (6 * j + 1) L (by omega) (nI_add (6 * j) 1) (by omega)) d_Law_law_403 ?_
        rw [show (nI (6 * j) + 1).toNatClampNeg = 6 * j + 1 from law_ix (k := 1) hj (by decide)]
        refine hv_V (As := [.int (xs (6 * j + 1))]) (rest := []) hE hml hK hI (c_Mo_kern l hl0 s.heap.size D cA g1 mo a th st en (nI ct) gd v0.1 v0.2.1 v0.2.2.1 v0.2.2.2.1 (nI r.2) V (xs (6 * j + 1)) m0 hN1 hA1 hS9.1 hS9.lt hS9.2.1) cd_Mo_kern w636 w637 w638 m0 rfl rfl hl.1 (Nat.le_of_ble_eq_true rfl) d_Law_law_404 ⟨Nat.le_of_ble_eq_true rfl, Nat.le_of_ble_eq_true rfl⟩ ⟨by show 100 + 12 * j + 3 + 0 ≤ 601024; omega, by show 75000 + 300 * j + 18 + 0 ≤ 7293034; omega⟩ (fun v2 g2 H locs hp2 hI => ?_) (fun q9 E9 ce9 g9 H locs hp => hp.elim)
        obtain ⟨b9, ow1, hv2, hRP1, hkb⟩ := op_add hS9 hC hM hD ho io_kern it_kern hp1 hM1 hp2
        rw [hv2]
        refine W.eq (g2 := F0 m 407 ls [.int b9]) rfl ?_
        refine lv_istore (lv' := [(6, .int b9), (5, .int k9), (0, .ref b), (1, .ref x), (2, .ref mo), (3, .ref o), (4, .int (nI (6 * j)))]) hx hb d_Law_law_407 hl (by decide) rfl (fun ls hl => ?_)
        refine lv_aload_n hx hb d_Law_law_409 rfl (lv_at hl 4 rfl) ?_
        obtain ⟨a8, st8, en8, ct8, gd8, ln8, bf8, ac8, un8, md8, m8, n8⟩ := hRP1.thrown
        refine hv_Vp (As := []) (rest := []) hE hml hK hI (c_Mo_thrown l hl0 s.heap.size D cA g2 mo a8 k9 st8 en8 ct8 gd8 ln8 bf8 ac8 un8 md8 m8 n8) cd_Mo_thrown w599 w600 w601 m8 rfl rfl rfl rfl hl.1 (Nat.le_of_ble_eq_true rfl) d_Law_law_410 ⟨Nat.le_of_ble_eq_true rfl, Nat.le_of_ble_eq_true rfl⟩ ⟨by show 100 + 12 * j + 3 + 0 ≤ 601024; omega, by show 75000 + 300 * j + 18 + 0 ≤ 7293034; omega⟩ (fun H locs hI => ?_)
        refine W.eq (g2 := F0 m 413 ls [.int k9]) rfl ?_
        refine lv_iload hx hb d_Law_law_413 (lv_at hl 1 rfl) ?_
        refine lv_icmp_eq (tgt := 420) hx hb d_Law_law_415 (by decide) (fun c415 => ?_) (fun c415 => ?_)
        · skip
          refine lv_iload hx hb d_Law_law_420 (lv_at hl 1 rfl) ?_
          refine lv_if_ne (tgt := 437) hx hb d_Law_law_422 (by decide) (fun c422 => ?_) (fun c422 => ?_)
          · skip
            refine lv_goto (tgt := 950) hx hb d_Law_law_437 (by decide) ?_
            exact W_widen (by show 100 + 12 * j + 3 + 0 ≤ 100 + 12 * (j + 1); omega) (by show 75000 + 300 * j + 18 + 0 ≤ 75000 + 300 * (j + 1); omega) (nx _ _ _ _ _ _ hRP1 hI hj6 (lv_sub hl [2, 3, 4, 5, 6] rfl))
          · skip
            have hkz : k9 = 0 := c422
            refine lv_aload_n hx hb d_Law_law_425 rfl (lv_at hl 5 rfl) ?_
            refine lv_iconst (v := 0) hx hb d_Law_law_426 (by decide) ?_
            refine hv_lald hE hI 1 hRP1.outAt rfl (pk_in 0 1 (by decide) rfl) d_Law_law_427 ?_
            rw [show (0 : Int32).toNatClampNeg = 0 from by decide]
            refine lv_iload hx hb d_Law_law_428 (lv_at hl 0 rfl) ?_
            refine lv_i2l (v := b9.toInt64) hx hb d_Law_law_430 rfl ?_
            refine W.lcmp hx hb d_Law_law_431 ?_
            refine lv_if_eq (tgt := 437) hx hb d_Law_law_432 (by decide) (fun c432 => ?_) (fun c432 => ?_)
            · skip
              refine lv_goto (tgt := 950) hx hb d_Law_law_437 (by decide) ?_
              exact W_widen (by show 100 + 12 * j + 3 + 0 ≤ 100 + 12 * (j + 1); omega) (by show 75000 + 300 * j + 18 + 0 ≤ 75000 + 300 * (j + 1); omega) (nx _ _ _ _ _ _ hRP1 hI hj6 (lv_sub hl [2, 3, 4, 5, 6] rfl))
            · skip
              exact absurd ((lg_cmp_eq _ _).mpr (hkb hkz)) c432
        · skip
          exact absurd rfl c415
      · rw [e9] at ej9
        refine lv_tableIn (tgt := 440) hx hb d_Law_law_40 (by rw [ej9]; decide) (by rw [ej9]; decide) (by rw [ej9]; rfl) (by decide) ?_
        obtain ⟨V, st, en, ct, r, la, ma, mk, rw9, gl, gb, ad, ca, pa, gc, gp, a, hS9, hC, hM, hD, ho⟩ := hRP
        refine lv_aload_n hx hb d_Law_law_440 rfl (lv_at hl 1 rfl) ?_
        refine lv_aload_n hx hb d_Law_law_441 rfl (lv_at hl 0 rfl) ?_
        refine lv_iload hx hb d_Law_law_442 (lv_at hl 4 rfl) ?_
        refine lv_iconst (v := 1) hx hb d_Law_law_444 (by decide) ?_
        refine lv_iadd hx hb d_Law_law_445 ?_
        refine va_sld hx hb hX hbl hbA hI.2.2.2 (pk_in (6 * j + 1) L (by omega) (nI_add (6 * j) 1) (by omega)) d_Law_law_446 ?_
        rw [show (nI (6 * j) + 1).toNatClampNeg = 6 * j + 1 from law_ix (k := 1) hj (by decide)]
        refine lv_aload_n hx hb d_Law_law_447 rfl (lv_at hl 0 rfl) ?_
        refine lv_iload hx hb d_Law_law_448 (lv_at hl 4 rfl) ?_
        refine lv_iconst (v := 2) hx hb d_Law_law_450 (by decide) ?_
        refine lv_iadd hx hb d_Law_law_451 ?_
        refine va_sld hx hb hX hbl hbA hI.2.2.2 (pk_in (6 * j + 2) L (by omega) (nI_add (6 * j) 2) (by omega)) d_Law_law_452 ?_
        rw [show (nI (6 * j) + 2).toNatClampNeg = 6 * j + 2 from law_ix (k := 2) hj (by decide)]
        refine lv_aload_n hx hb d_Law_law_453 rfl (lv_at hl 3 rfl) ?_
        have hH := c_Law_box l s.heap.size D cA f x o (xs (6 * j + 1)) (xs (6 * j + 2)) ow _ (PBox cA f x la ma mk (en - st) ct gl (xs (6 * j + 1)) (xs (6 * j + 2)) (wA V 0 (xs (6 * j + 1)).toNatClampNeg) (wA V 1 (xs (6 * j + 1)).toNatClampNeg) (wA V 2 (xs (6 * j + 1)).toNatClampNeg) (ad (xs (6 * j + 1)).toNatClampNeg)) (TBox f (en - st) ct (xs (6 * j + 1)) (xs (6 * j + 2))) hC.1 (c_BP_box l hl0 s.heap.size D cA f x la ma mk (en - st) ct (xs (6 * j + 1)) (xs (6 * j + 2)) gl gb ad (ca (xs (6 * j + 1)).toNatClampNeg) (pa (xs (6 * j + 1)).toNatClampNeg) (wA V 8 (xs (6 * j + 1)).toNatClampNeg) (wA V 9 (xs (6 * j + 1)).toNatClampNeg) (wA V 0 (xs (6 * j + 1)).toNatClampNeg) (wA V 1 (xs (6 * j + 1)).toNatClampNeg) (wA V 2 (xs (6 * j + 1)).toNatClampNeg) (wA V 3 (xs (6 * j + 1)).toNatClampNeg) (wA V 4 (xs (6 * j + 1)).toNatClampNeg) (wA V 5 (xs (6 * j + 1)).toNatClampNeg) (wA V 7 (xs (6 * j + 1)).toNatClampNeg) (b2i (wB V (xs (6 * j + 1)).toNatClampNeg)) hC.1 hC.2.1 (Nat.lt_of_le_of_lt hS9.2.1 (by decide)) hC.2.2.1 hC.2.2.2.2.2.2.1 hS9.2.2.1 (fun hq => (hC.2.2.2.2.2.2.2.1 _ (isBx_nat hq hS9.2.2.1).1).1)) (fun v g hp => ⟨⟨_, hp.1⟩, (CF.of_added hp.2.2.2.2).keepO hC ho⟩) (fun E g hp => hp.elim (fun q => Or.inl q.1) (fun q => Or.inr (q.elim (fun q => Or.inl q.1) (fun q => Or.inr q.1))))
        refine hv_SH (As := [.ref x, .int (xs (6 * j + 1)), .int (xs (6 * j + 2)), .ref o]) (rest := []) hE hml hK hI hH cd_Law_box w271 w272 rfl hl.1 (Nat.le_of_ble_eq_true rfl) d_Law_law_454 ⟨Nat.le_of_ble_eq_true rfl, Nat.le_of_ble_eq_true rfl⟩ ⟨by show 100 + 12 * j + 3 ≤ 601024; omega, by show 75000 + 300 * j + 18 ≤ 7293034; omega⟩ (fun v9 g1 H locs hp hI => ?_)
        obtain ⟨k9, hv9, hp1⟩ := hp
        rw [hv9]
        refine W.eq (g2 := F0 m 457 ls [.int k9]) rfl ?_
        have hM1 := mid_i hS9 hC hM hD ho (fun v g hp => CF.of_added hp.2.2.2.2) (fun E g hp => hp.elim (fun q => by rw [q.2.2]; exact CF.rfl') (fun q => q.elim (fun q => by rw [q.2.2.2]; exact CF.rfl') (fun q => by rw [q.2.2.2.2]; exact CF.rfl'))) hp1
        obtain ⟨hN1, hA1, ⟨gd, v0, m0, m14, m15⟩, m16⟩ := id hM1
        refine lv_istore (lv' := [(5, .int k9), (0, .ref b), (1, .ref x), (2, .ref mo), (3, .ref o), (4, .int (nI (6 * j)))]) hx hb d_Law_law_457 hl (by decide) rfl (fun ls hl => ?_)
        refine lv_aload_n hx hb d_Law_law_459 rfl (lv_at hl 3 rfl) ?_
        refine lv_aload_n hx hb d_Law_law_460 rfl (lv_at hl 1 rfl) ?_
        refine lv_iload hx hb d_Law_law_461 (lv_at hl 5 rfl) ?_
        refine lv_iconst (v := 1) hx hb d_Law_law_463 (by decide) ?_
        refine lv_iadd hx hb d_Law_law_464 ?_
        refine va_sld hx hb hX hbl hbA hI.2.2.2 (pk_in (6 * j + 1) L (by omega) (nI_add (6 * j) 1) (by omega)) d_Law_law_465 ?_
        rw [show (nI (6 * j) + 1).toNatClampNeg = 6 * j + 1 from law_ix (k := 1) hj (by decide)]
        refine lv_aload_n hx hb d_Law_law_466 rfl (lv_at hl 1 rfl) ?_
        refine lv_iload hx hb d_Law_law_467 (lv_at hl 5 rfl) ?_
        refine lv_iconst (v := 2) hx hb d_Law_law_469 (by decide) ?_
        refine lv_iadd hx hb d_Law_law_470 ?_
        refine va_sld hx hb hX hbl hbA hI.2.2.2 (pk_in (6 * j + 2) L (by omega) (nI_add (6 * j) 2) (by omega)) d_Law_law_471 ?_
        rw [show (nI (6 * j) + 2).toNatClampNeg = 6 * j + 2 from law_ix (k := 2) hj (by decide)]
        refine hv_V (As := [.int (xs (6 * j + 1)), .int (xs (6 * j + 2))]) (rest := []) hE hml hK hI (c_Mo_box l hl0 s.heap.size D cA g1 mo a th st en (nI ct) gd v0.1 v0.2.1 v0.2.2.1 v0.2.2.2.1 (nI r.2) V (xs (6 * j + 1)) (xs (6 * j + 2)) ct m0 hN1 hA1 hS9.1 hS9.lt hS9.2.1 rfl) cd_Mo_box w640 w641 w642 m0 rfl rfl hl.1 (Nat.le_of_ble_eq_true rfl) d_Law_law_472 ⟨Nat.le_of_ble_eq_true rfl, Nat.le_of_ble_eq_true rfl⟩ ⟨by show 100 + 12 * j + 3 + 0 ≤ 601024; omega, by show 75000 + 300 * j + 18 + 0 ≤ 7293034; omega⟩ (fun v2 g2 H locs hp2 hI => ?_) (fun q9 E9 ce9 g9 H locs hp => hp.elim)
        obtain ⟨b9, ow1, hv2, hRP1, hkb⟩ := op_box hS9 hC hM hD ho hp1 hM1 hp2
        rw [hv2]
        refine W.eq (g2 := F0 m 475 ls [.int b9]) rfl ?_
        refine lv_istore (lv' := [(6, .int b9), (5, .int k9), (0, .ref b), (1, .ref x), (2, .ref mo), (3, .ref o), (4, .int (nI (6 * j)))]) hx hb d_Law_law_475 hl (by decide) rfl (fun ls hl => ?_)
        refine lv_aload_n hx hb d_Law_law_477 rfl (lv_at hl 4 rfl) ?_
        obtain ⟨a8, st8, en8, ct8, gd8, ln8, bf8, ac8, un8, md8, m8, n8⟩ := hRP1.thrown
        refine hv_Vp (As := []) (rest := []) hE hml hK hI (c_Mo_thrown l hl0 s.heap.size D cA g2 mo a8 k9 st8 en8 ct8 gd8 ln8 bf8 ac8 un8 md8 m8 n8) cd_Mo_thrown w599 w600 w601 m8 rfl rfl rfl rfl hl.1 (Nat.le_of_ble_eq_true rfl) d_Law_law_478 ⟨Nat.le_of_ble_eq_true rfl, Nat.le_of_ble_eq_true rfl⟩ ⟨by show 100 + 12 * j + 3 + 0 ≤ 601024; omega, by show 75000 + 300 * j + 18 + 0 ≤ 7293034; omega⟩ (fun H locs hI => ?_)
        refine W.eq (g2 := F0 m 481 ls [.int k9]) rfl ?_
        refine lv_iload hx hb d_Law_law_481 (lv_at hl 1 rfl) ?_
        refine lv_icmp_eq (tgt := 488) hx hb d_Law_law_483 (by decide) (fun c483 => ?_) (fun c483 => ?_)
        · skip
          refine lv_iload hx hb d_Law_law_488 (lv_at hl 1 rfl) ?_
          refine lv_if_ne (tgt := 505) hx hb d_Law_law_490 (by decide) (fun c490 => ?_) (fun c490 => ?_)
          · skip
            refine lv_goto (tgt := 950) hx hb d_Law_law_505 (by decide) ?_
            exact W_widen (by show 100 + 12 * j + 3 + 0 ≤ 100 + 12 * (j + 1); omega) (by show 75000 + 300 * j + 18 + 0 ≤ 75000 + 300 * (j + 1); omega) (nx _ _ _ _ _ _ hRP1 hI hj6 (lv_sub hl [2, 3, 4, 5, 6] rfl))
          · skip
            have hkz : k9 = 0 := c490
            refine lv_aload_n hx hb d_Law_law_493 rfl (lv_at hl 5 rfl) ?_
            refine lv_iconst (v := 0) hx hb d_Law_law_494 (by decide) ?_
            refine hv_lald hE hI 1 hRP1.outAt rfl (pk_in 0 1 (by decide) rfl) d_Law_law_495 ?_
            rw [show (0 : Int32).toNatClampNeg = 0 from by decide]
            refine lv_iload hx hb d_Law_law_496 (lv_at hl 0 rfl) ?_
            refine lv_i2l (v := b9.toInt64) hx hb d_Law_law_498 rfl ?_
            refine W.lcmp hx hb d_Law_law_499 ?_
            refine lv_if_eq (tgt := 505) hx hb d_Law_law_500 (by decide) (fun c500 => ?_) (fun c500 => ?_)
            · skip
              refine lv_goto (tgt := 950) hx hb d_Law_law_505 (by decide) ?_
              exact W_widen (by show 100 + 12 * j + 3 + 0 ≤ 100 + 12 * (j + 1); omega) (by show 75000 + 300 * j + 18 + 0 ≤ 75000 + 300 * (j + 1); omega) (nx _ _ _ _ _ _ hRP1 hI hj6 (lv_sub hl [2, 3, 4, 5, 6] rfl))
            · skip
              exact absurd ((lg_cmp_eq _ _).mpr (hkb hkz)) c500
        · skip
          exact absurd rfl c483
      · rw [e9] at ej9
        refine lv_tableIn (tgt := 508) hx hb d_Law_law_40 (by rw [ej9]; decide) (by rw [ej9]; decide) (by rw [ej9]; rfl) (by decide) ?_
        obtain ⟨V, st, en, ct, r, la, ma, mk, rw9, gl, gb, ad, ca, pa, gc, gp, a, hS9, hC, hM, hD, ho⟩ := hRP
        refine lv_aload_n hx hb d_Law_law_508 rfl (lv_at hl 1 rfl) ?_
        refine lv_aload_n hx hb d_Law_law_509 rfl (lv_at hl 0 rfl) ?_
        refine lv_iload hx hb d_Law_law_510 (lv_at hl 4 rfl) ?_
        refine lv_iconst (v := 1) hx hb d_Law_law_512 (by decide) ?_
        refine lv_iadd hx hb d_Law_law_513 ?_
        refine va_sld hx hb hX hbl hbA hI.2.2.2 (pk_in (6 * j + 1) L (by omega) (nI_add (6 * j) 1) (by omega)) d_Law_law_514 ?_
        rw [show (nI (6 * j) + 1).toNatClampNeg = 6 * j + 1 from law_ix (k := 1) hj (by decide)]
        refine hv_V (As := [.int (xs (6 * j + 1))]) (rest := []) hE hml hK hI (c_BP_keep l hl0 s.heap.size D cA f x la ma mk (en - st) ct (xs (6 * j + 1)) hC.1) cd_BP_keep w60 w61 w62 hC.1 rfl rfl hl.1 (Nat.le_of_ble_eq_true rfl) d_Law_law_515 ⟨Nat.le_of_ble_eq_true rfl, Nat.le_of_ble_eq_true rfl⟩ ⟨by show 100 + 12 * j + 0 ≤ 601024; omega, by show 75000 + 300 * j + 0 ≤ 7293034; omega⟩ (fun v9 g1 H locs hp hI => ?_) (fun q9 E9 ce9 g9 H locs hp => hp.elim)
        obtain ⟨hM1, ⟨z1, hz1⟩, hnx⟩ := op_keep hS9 hC hM hD ho hp
        rw [hz1]
        refine W.eq (g2 := F0 m 518 ls [.int z1]) rfl ?_
        obtain ⟨hN1, hA1, ⟨gd, v0, m0, m14, m15⟩, m16⟩ := id hM1
        refine lv_aload_n hx hb d_Law_law_518 rfl (lv_at hl 2 rfl) ?_
        refine lv_aload_n hx hb d_Law_law_519 rfl (lv_at hl 0 rfl) ?_
        refine lv_iload hx hb d_Law_law_520 (lv_at hl 4 rfl) ?_
        refine lv_iconst (v := 1) hx hb d_Law_law_522 (by decide) ?_
        refine lv_iadd hx hb d_Law_law_523 ?_
        refine va_sld hx hb hX hbl hbA hI.2.2.2 (pk_in (6 * j + 1) L (by omega) (nI_add (6 * j) 1) (by omega)) d_Law_law_524 ?_
        rw [show (nI (6 * j) + 1).toNatClampNeg = 6 * j + 1 from law_ix (k := 1) hj (by decide)]
        refine hv_V (As := [.int (xs (6 * j + 1))]) (rest := [.int z1]) hE hml hK hI (c_Mo_keep l hl0 s.heap.size D cA g1 mo a th st en (nI ct) gd v0.1 v0.2.1 v0.2.2.1 v0.2.2.2.1 (nI r.2) V (xs (6 * j + 1)) m0 hN1 hA1 hS9.1 hS9.lt) cd_Mo_keep w648 w649 w650 m0 rfl rfl hl.1 (Nat.le_of_ble_eq_true rfl) d_Law_law_525 ⟨Nat.le_of_ble_eq_true rfl, Nat.le_of_ble_eq_true rfl⟩ ⟨by show 100 + 12 * j + 0 + 0 ≤ 601024; omega, by show 75000 + 300 * j + 0 + 0 ≤ 7293034; omega⟩ (fun v2 g2 H locs hp2 hI => ?_) (fun q9 E9 ce9 g9 H locs hp => hp.elim)
        obtain ⟨hv2, hRP1⟩ := hnx g2 v2 _ _ _ _ _ hp2
        rw [hv2, hz1]
        refine W.eq (g2 := F0 m 528 ls [.int z1, .int z1]) rfl ?_
        refine lv_icmp_eq (tgt := 950) hx hb d_Law_law_528 (by decide) (fun c528 => ?_) (fun c528 => ?_)
        · skip
          exact W_widen (by show 100 + 12 * j + 0 + 0 ≤ 100 + 12 * (j + 1); omega) (by show 75000 + 300 * j + 0 + 0 ≤ 75000 + 300 * (j + 1); omega) (nx _ _ _ _ _ _ hRP1 hI hj6 (lv_sub hl [0, 1, 2, 3, 4] rfl))
        · skip
          exact absurd rfl c528
      · rw [e9] at ej9
        refine lv_tableIn (tgt := 533) hx hb d_Law_law_40 (by rw [ej9]; decide) (by rw [ej9]; decide) (by rw [ej9]; rfl) (by decide) ?_
        obtain ⟨V, st, en, ct, r, la, ma, mk, rw9, gl, gb, ad, ca, pa, gc, gp, a, hS9, hC, hM, hD, ho⟩ := hRP
        refine lv_aload_n hx hb d_Law_law_533 rfl (lv_at hl 1 rfl) ?_
        refine hv_Vp (As := []) (rest := []) hE hml hK hI (c_BP_items l hl0 s.heap.size D cA f x la ma mk (en - st) ct hC.1) cd_BP_items w64 w65 w66 hC.1 rfl rfl rfl rfl hl.1 (Nat.le_of_ble_eq_true rfl) d_Law_law_534 ⟨Nat.le_of_ble_eq_true rfl, Nat.le_of_ble_eq_true rfl⟩ ⟨by show 100 + 12 * j ≤ 601024; omega, by show 75000 + 300 * j ≤ 7293034; omega⟩ (fun H locs hI => ?_)
        refine W.eq (g2 := F0 m 537 ls [.int (nI (en - st))]) rfl ?_
        obtain ⟨hN1, hA1, ⟨gd, v0, m0, m14, m15⟩, m16⟩ := id hM
        refine lv_aload_n hx hb d_Law_law_537 rfl (lv_at hl 2 rfl) ?_
        refine hv_V (As := []) (rest := [.int (nI (en - st))]) hE hml hK hI (c_Mo_items l hl0 s.heap.size D cA f mo a th st en (nI ct) gd v0.1 v0.2.1 v0.2.2.1 v0.2.2.2.1 (nI r.2) V m0 hN1 hA1 hS9.1 hS9.lt) cd_Mo_items w652 w653 w654 m0 rfl rfl hl.1 (Nat.le_of_ble_eq_true rfl) d_Law_law_538 ⟨Nat.le_of_ble_eq_true rfl, Nat.le_of_ble_eq_true rfl⟩ ⟨by show 100 + 12 * j + 0 ≤ 601024; omega, by show 75000 + 300 * j + 0 ≤ 7293034; omega⟩ (fun v2 g2 H locs hp2 hI => ?_) (fun q9 E9 ce9 g9 H locs hp => hp.elim)
        obtain ⟨hv2, hr2⟩ := hp2
        have hRP1 := op_same hS9 hC hM hD ho hr2
        rw [hv2]
        refine W.eq (g2 := F0 m 541 ls [.int (nI (en - st)), .int (nI (en - st))]) rfl ?_
        refine lv_icmp_eq (tgt := 950) hx hb d_Law_law_541 (by decide) (fun c541 => ?_) (fun c541 => ?_)
        · skip
          exact W_widen (by show 100 + 12 * j + 0 ≤ 100 + 12 * (j + 1); omega) (by show 75000 + 300 * j + 0 ≤ 75000 + 300 * (j + 1); omega) (nx _ _ _ _ _ _ hRP1 hI hj6 (lv_sub hl [0, 1, 2, 3, 4] rfl))
        · skip
          exact absurd rfl c541
      · rw [e9] at ej9
        refine lv_tableIn (tgt := 546) hx hb d_Law_law_40 (by rw [ej9]; decide) (by rw [ej9]; decide) (by rw [ej9]; rfl) (by decide) ?_
        obtain ⟨V, st, en, ct, r, la, ma, mk, rw9, gl, gb, ad, ca, pa, gc, gp, a, hS9, hC, hM, hD, ho⟩ := hRP
        refine lv_aload_n hx hb d_Law_law_546 rfl (lv_at hl 1 rfl) ?_
        refine lv_aload_n hx hb d_Law_law_547 rfl (lv_at hl 0 rfl) ?_
        refine lv_iload hx hb d_Law_law_548 (lv_at hl 4 rfl) ?_
        refine lv_iconst (v := 1) hx hb d_Law_law_550 (by decide) ?_
        refine lv_iadd hx hb d_Law_law_551 ?_
        refine va_sld hx hb hX hbl hbA hI.2.2.2 (pk_in (6 * j + 1) L (by omega) (nI_add (6 * j) 1) (by omega)) d_Law_law_552 ?_
        rw [show (nI (6 * j) + 1).toNatClampNeg = 6 * j + 1 from law_ix (k := 1) hj (by decide)]
        refine lv_if_eq (tgt := 560) hx hb d_Law_law_553 (by decide) (fun c553 => ?_) (fun c553 => ?_)
        · skip
          have hbz := c553
          refine lv_iconst (v := 0) hx hb d_Law_law_560 (by decide) ?_
          refine W.eq (g2 := F0 m 561 ls [.int (b2i false), .ref x]) rfl ?_
          refine lv_aload_n hx hb d_Law_law_561 rfl (lv_at hl 0 rfl) ?_
          refine lv_iload hx hb d_Law_law_562 (lv_at hl 4 rfl) ?_
          refine lv_iconst (v := 2) hx hb d_Law_law_564 (by decide) ?_
          refine lv_iadd hx hb d_Law_law_565 ?_
          refine va_sld hx hb hX hbl hbA hI.2.2.2 (pk_in (6 * j + 2) L (by omega) (nI_add (6 * j) 2) (by omega)) d_Law_law_566 ?_
          rw [show (nI (6 * j) + 2).toNatClampNeg = 6 * j + 2 from law_ix (k := 2) hj (by decide)]
          refine lv_aload_n hx hb d_Law_law_567 rfl (lv_at hl 0 rfl) ?_
          refine lv_iload hx hb d_Law_law_568 (lv_at hl 4 rfl) ?_
          refine lv_iconst (v := 3) hx hb d_Law_law_570 (by decide) ?_
          refine lv_iadd hx hb d_Law_law_571 ?_
          refine va_sld hx hb hX hbl hbA hI.2.2.2 (pk_in (6 * j + 3) L (by omega) (nI_add (6 * j) 3) (by omega)) d_Law_law_572 ?_
          rw [show (nI (6 * j) + 3).toNatClampNeg = 6 * j + 3 from law_ix (k := 3) hj (by decide)]
          refine lv_aload_n hx hb d_Law_law_573 rfl (lv_at hl 0 rfl) ?_
          refine lv_iload hx hb d_Law_law_574 (lv_at hl 4 rfl) ?_
          refine lv_iconst (v := 4) hx hb d_Law_law_576 (by decide) ?_
          refine lv_iadd hx hb d_Law_law_577 ?_
          refine va_sld hx hb hX hbl hbA hI.2.2.2 (pk_in (6 * j + 4) L (by omega) (nI_add (6 * j) 4) (by omega)) d_Law_law_578 ?_
          rw [show (nI (6 * j) + 4).toNatClampNeg = 6 * j + 4 from law_ix (k := 4) hj (by decide)]
          refine lv_aload_n hx hb d_Law_law_579 rfl (lv_at hl 3 rfl) ?_
          have hH := c_Law_pack l s.heap.size D cA f x o (b2i false) (xs (6 * j + 2)) (xs (6 * j + 3)) (xs (6 * j + 4)) ow _ (PPk cA f x la ma mk (en - st) ct gl gb (fun i => itO V ad (st + i)) (biF f) false (xs (6 * j + 2)) (xs (6 * j + 3)) (xs (6 * j + 4))) (TPk f (en - st) ct (fun i => itO V ad (st + i)) (biF f) false (xs (6 * j + 2)) (xs (6 * j + 3)) (xs (6 * j + 4))) hC.1 (c_BP_pack l hl0 s.heap.size D cA f x la ma mk (en - st) ct false (xs (6 * j + 2)) (xs (6 * j + 3)) (xs (6 * j + 4)) gl gb (fun i => itO V ad (st + i)) (biF f) hC.1 hC.2.1 hC.2.2.1 hC.2.2.2.2.2.1 (pk_bi hS9 hC) (pk_or hS9) hS9.2.1 hS9.2.2.1 hC.2.2.2.1) (fun v g hp => ⟨⟨_, hp.1⟩, (CF.of_pack hp).keepO hC ho⟩) (fun E g hp => hp.2.elim (fun q => Or.inl q.1) (fun q => Or.inr (q.elim (fun q => Or.inl q.1) (fun q => Or.inr q.1))))
          refine hv_SH (As := [.ref x, .int (b2i false), .int (xs (6 * j + 2)), .int (xs (6 * j + 3)), .int (xs (6 * j + 4)), .ref o]) (rest := []) hE hml hK hI hH cd_Law_pack w300 w301 rfl hl.1 (Nat.le_of_ble_eq_true rfl) d_Law_law_580 ⟨Nat.le_of_ble_eq_true rfl, Nat.le_of_ble_eq_true rfl⟩ ⟨by show 100 + 12 * j + 12 ≤ 601024; omega, by show 75000 + 300 * j + 300 ≤ 7293034; omega⟩ (fun v9 g1 H locs hp hI => ?_)
          obtain ⟨k9, hv9, hp1⟩ := hp
          rw [hv9]
          refine W.eq (g2 := F0 m 583 ls [.int k9]) rfl ?_
          have hM1 := mid_i hS9 hC hM hD ho (fun v g hp => CF.of_pack hp) (fun E g hp => (hC.more hp.1).2) hp1
          obtain ⟨hN1, hA1, ⟨gd, v0, m0, m14, m15⟩, m16⟩ := id hM1
          refine lv_istore (lv' := [(5, .int k9), (0, .ref b), (1, .ref x), (2, .ref mo), (3, .ref o), (4, .int (nI (6 * j)))]) hx hb d_Law_law_583 hl (by decide) rfl (fun ls hl => ?_)
          refine lv_aload_n hx hb d_Law_law_585 rfl (lv_at hl 3 rfl) ?_
          refine lv_aload_n hx hb d_Law_law_586 rfl (lv_at hl 1 rfl) ?_
          refine lv_iload hx hb d_Law_law_587 (lv_at hl 5 rfl) ?_
          refine lv_iconst (v := 1) hx hb d_Law_law_589 (by decide) ?_
          refine lv_iadd hx hb d_Law_law_590 ?_
          refine va_sld hx hb hX hbl hbA hI.2.2.2 (pk_in (6 * j + 1) L (by omega) (nI_add (6 * j) 1) (by omega)) d_Law_law_591 ?_
          rw [show (nI (6 * j) + 1).toNatClampNeg = 6 * j + 1 from law_ix (k := 1) hj (by decide)]
          refine lv_if_eq (tgt := 599) hx hb d_Law_law_592 (by decide) (fun c592 => ?_) (fun c592 => ?_)
          · skip
            refine lv_iconst (v := 0) hx hb d_Law_law_599 (by decide) ?_
            refine W.eq (g2 := F0 m 600 ls [.int (b2i false), .ref mo]) rfl ?_
            refine lv_aload_n hx hb d_Law_law_600 rfl (lv_at hl 1 rfl) ?_
            refine lv_iload hx hb d_Law_law_601 (lv_at hl 5 rfl) ?_
            refine lv_iconst (v := 2) hx hb d_Law_law_603 (by decide) ?_
            refine lv_iadd hx hb d_Law_law_604 ?_
            refine va_sld hx hb hX hbl hbA hI.2.2.2 (pk_in (6 * j + 2) L (by omega) (nI_add (6 * j) 2) (by omega)) d_Law_law_605 ?_
            rw [show (nI (6 * j) + 2).toNatClampNeg = 6 * j + 2 from law_ix (k := 2) hj (by decide)]
            refine lv_aload_n hx hb d_Law_law_606 rfl (lv_at hl 1 rfl) ?_
            refine lv_iload hx hb d_Law_law_607 (lv_at hl 5 rfl) ?_
            refine lv_iconst (v := 3) hx hb d_Law_law_609 (by decide) ?_
            refine lv_iadd hx hb d_Law_law_610 ?_
            refine va_sld hx hb hX hbl hbA hI.2.2.2 (pk_in (6 * j + 3) L (by omega) (nI_add (6 * j) 3) (by omega)) d_Law_law_611 ?_
            rw [show (nI (6 * j) + 3).toNatClampNeg = 6 * j + 3 from law_ix (k := 3) hj (by decide)]
            refine lv_aload_n hx hb d_Law_law_612 rfl (lv_at hl 1 rfl) ?_
            refine lv_iload hx hb d_Law_law_613 (lv_at hl 5 rfl) ?_
            refine lv_iconst (v := 4) hx hb d_Law_law_615 (by decide) ?_
            refine lv_iadd hx hb d_Law_law_616 ?_
            refine va_sld hx hb hX hbl hbA hI.2.2.2 (pk_in (6 * j + 4) L (by omega) (nI_add (6 * j) 4) (by omega)) d_Law_law_617 ?_
            rw [show (nI (6 * j) + 4).toNatClampNeg = 6 * j + 4 from law_ix (k := 4) hj (by decide)]
            refine hv_V (As := [.int (b2i false), .int (xs (6 * j + 2)), .int (xs (6 * j + 3)), .int (xs (6 * j + 4))]) (rest := []) hE hml hK hI (c_Mo_pack l hl0 s.heap.size D cA g1 mo a th st en ct gd v0.1 v0.2.1 v0.2.2.1 v0.2.2.2.1 (nI r.2) V _ _ false (xs (6 * j + 2)) (xs (6 * j + 3)) (xs (6 * j + 4)) m0 hN1 hA1 m14 m15 hS9.1 hS9.lt hS9.2.2.1 hS9.items) cd_Mo_pack w656 w657 w658 m0 rfl rfl hl.1 (Nat.le_of_ble_eq_true rfl) d_Law_law_618 ⟨Nat.le_of_ble_eq_true rfl, Nat.le_of_ble_eq_true rfl⟩ ⟨by show 100 + 12 * j + 12 + 0 ≤ 601024; omega, by show 75000 + 300 * j + 300 + 0 ≤ 7293034; omega⟩ (fun v2 g2 H locs hp2 hI => ?_) (fun q9 E9 ce9 g9 H locs hp => hp.elim)
            obtain ⟨b9, ow1, hv2, hRP1, hkb⟩ := op_pack hS9 hC hM hD ho hp1 hM1 hp2
            rw [hv2]
            refine W.eq (g2 := F0 m 621 ls [.int b9]) rfl ?_
            refine lv_istore (lv' := [(6, .int b9), (5, .int k9), (0, .ref b), (1, .ref x), (2, .ref mo), (3, .ref o), (4, .int (nI (6 * j)))]) hx hb d_Law_law_621 hl (by decide) rfl (fun ls hl => ?_)
            refine lv_aload_n hx hb d_Law_law_623 rfl (lv_at hl 4 rfl) ?_
            obtain ⟨a8, st8, en8, ct8, gd8, ln8, bf8, ac8, un8, md8, m8, n8⟩ := hRP1.thrown
            refine hv_Vp (As := []) (rest := []) hE hml hK hI (c_Mo_thrown l hl0 s.heap.size D cA g2 mo a8 k9 st8 en8 ct8 gd8 ln8 bf8 ac8 un8 md8 m8 n8) cd_Mo_thrown w599 w600 w601 m8 rfl rfl rfl rfl hl.1 (Nat.le_of_ble_eq_true rfl) d_Law_law_624 ⟨Nat.le_of_ble_eq_true rfl, Nat.le_of_ble_eq_true rfl⟩ ⟨by show 100 + 12 * j + 12 + 0 ≤ 601024; omega, by show 75000 + 300 * j + 300 + 0 ≤ 7293034; omega⟩ (fun H locs hI => ?_)
            refine W.eq (g2 := F0 m 627 ls [.int k9]) rfl ?_
            refine lv_iload hx hb d_Law_law_627 (lv_at hl 1 rfl) ?_
            refine lv_icmp_eq (tgt := 634) hx hb d_Law_law_629 (by decide) (fun c629 => ?_) (fun c629 => ?_)
            · skip
              refine lv_iload hx hb d_Law_law_634 (lv_at hl 1 rfl) ?_
              refine lv_if_ne (tgt := 651) hx hb d_Law_law_636 (by decide) (fun c636 => ?_) (fun c636 => ?_)
              · skip
                refine lv_goto (tgt := 950) hx hb d_Law_law_651 (by decide) ?_
                exact W_widen (by show 100 + 12 * j + 12 + 0 ≤ 100 + 12 * (j + 1); omega) (by show 75000 + 300 * j + 300 + 0 ≤ 75000 + 300 * (j + 1); omega) (nx _ _ _ _ _ _ hRP1 hI hj6 (lv_sub hl [2, 3, 4, 5, 6] rfl))
              · skip
                have hkz : k9 = 0 := c636
                refine lv_aload_n hx hb d_Law_law_639 rfl (lv_at hl 5 rfl) ?_
                refine lv_iconst (v := 0) hx hb d_Law_law_640 (by decide) ?_
                refine hv_lald hE hI 1 hRP1.outAt rfl (pk_in 0 1 (by decide) rfl) d_Law_law_641 ?_
                rw [show (0 : Int32).toNatClampNeg = 0 from by decide]
                refine lv_iload hx hb d_Law_law_642 (lv_at hl 0 rfl) ?_
                refine lv_i2l (v := b9.toInt64) hx hb d_Law_law_644 rfl ?_
                refine W.lcmp hx hb d_Law_law_645 ?_
                refine lv_if_eq (tgt := 651) hx hb d_Law_law_646 (by decide) (fun c646 => ?_) (fun c646 => ?_)
                · skip
                  refine lv_goto (tgt := 950) hx hb d_Law_law_651 (by decide) ?_
                  exact W_widen (by show 100 + 12 * j + 12 + 0 ≤ 100 + 12 * (j + 1); omega) (by show 75000 + 300 * j + 300 + 0 ≤ 75000 + 300 * (j + 1); omega) (nx _ _ _ _ _ _ hRP1 hI hj6 (lv_sub hl [2, 3, 4, 5, 6] rfl))
                · skip
                  exact absurd ((lg_cmp_eq _ _).mpr (hkb hkz)) c646
            · skip
              exact absurd rfl c629
          · skip
            exact absurd hbz c592
        · skip
          have hbz := c553
          refine lv_iconst (v := 1) hx hb d_Law_law_556 (by decide) ?_
          refine lv_goto (tgt := 561) hx hb d_Law_law_557 (by decide) ?_
          refine W.eq (g2 := F0 m 561 ls [.int (b2i true), .ref x]) rfl ?_
          refine lv_aload_n hx hb d_Law_law_561 rfl (lv_at hl 0 rfl) ?_
          refine lv_iload hx hb d_Law_law_562 (lv_at hl 4 rfl) ?_
          refine lv_iconst (v := 2) hx hb d_Law_law_564 (by decide) ?_
          refine lv_iadd hx hb d_Law_law_565 ?_
          refine va_sld hx hb hX hbl hbA hI.2.2.2 (pk_in (6 * j + 2) L (by omega) (nI_add (6 * j) 2) (by omega)) d_Law_law_566 ?_
          rw [show (nI (6 * j) + 2).toNatClampNeg = 6 * j + 2 from law_ix (k := 2) hj (by decide)]
          refine lv_aload_n hx hb d_Law_law_567 rfl (lv_at hl 0 rfl) ?_
          refine lv_iload hx hb d_Law_law_568 (lv_at hl 4 rfl) ?_
          refine lv_iconst (v := 3) hx hb d_Law_law_570 (by decide) ?_
          refine lv_iadd hx hb d_Law_law_571 ?_
          refine va_sld hx hb hX hbl hbA hI.2.2.2 (pk_in (6 * j + 3) L (by omega) (nI_add (6 * j) 3) (by omega)) d_Law_law_572 ?_
          rw [show (nI (6 * j) + 3).toNatClampNeg = 6 * j + 3 from law_ix (k := 3) hj (by decide)]
          refine lv_aload_n hx hb d_Law_law_573 rfl (lv_at hl 0 rfl) ?_
          refine lv_iload hx hb d_Law_law_574 (lv_at hl 4 rfl) ?_
          refine lv_iconst (v := 4) hx hb d_Law_law_576 (by decide) ?_
          refine lv_iadd hx hb d_Law_law_577 ?_
          refine va_sld hx hb hX hbl hbA hI.2.2.2 (pk_in (6 * j + 4) L (by omega) (nI_add (6 * j) 4) (by omega)) d_Law_law_578 ?_
          rw [show (nI (6 * j) + 4).toNatClampNeg = 6 * j + 4 from law_ix (k := 4) hj (by decide)]
          refine lv_aload_n hx hb d_Law_law_579 rfl (lv_at hl 3 rfl) ?_
          have hH := c_Law_pack l s.heap.size D cA f x o (b2i true) (xs (6 * j + 2)) (xs (6 * j + 3)) (xs (6 * j + 4)) ow _ (PPk cA f x la ma mk (en - st) ct gl gb (fun i => itO V ad (st + i)) (biF f) true (xs (6 * j + 2)) (xs (6 * j + 3)) (xs (6 * j + 4))) (TPk f (en - st) ct (fun i => itO V ad (st + i)) (biF f) true (xs (6 * j + 2)) (xs (6 * j + 3)) (xs (6 * j + 4))) hC.1 (c_BP_pack l hl0 s.heap.size D cA f x la ma mk (en - st) ct true (xs (6 * j + 2)) (xs (6 * j + 3)) (xs (6 * j + 4)) gl gb (fun i => itO V ad (st + i)) (biF f) hC.1 hC.2.1 hC.2.2.1 hC.2.2.2.2.2.1 (pk_bi hS9 hC) (pk_or hS9) hS9.2.1 hS9.2.2.1 hC.2.2.2.1) (fun v g hp => ⟨⟨_, hp.1⟩, (CF.of_pack hp).keepO hC ho⟩) (fun E g hp => hp.2.elim (fun q => Or.inl q.1) (fun q => Or.inr (q.elim (fun q => Or.inl q.1) (fun q => Or.inr q.1))))
          refine hv_SH (As := [.ref x, .int (b2i true), .int (xs (6 * j + 2)), .int (xs (6 * j + 3)), .int (xs (6 * j + 4)), .ref o]) (rest := []) hE hml hK hI hH cd_Law_pack w300 w301 rfl hl.1 (Nat.le_of_ble_eq_true rfl) d_Law_law_580 ⟨Nat.le_of_ble_eq_true rfl, Nat.le_of_ble_eq_true rfl⟩ ⟨by show 100 + 12 * j + 12 ≤ 601024; omega, by show 75000 + 300 * j + 300 ≤ 7293034; omega⟩ (fun v9 g1 H locs hp hI => ?_)
          obtain ⟨k9, hv9, hp1⟩ := hp
          rw [hv9]
          refine W.eq (g2 := F0 m 583 ls [.int k9]) rfl ?_
          have hM1 := mid_i hS9 hC hM hD ho (fun v g hp => CF.of_pack hp) (fun E g hp => (hC.more hp.1).2) hp1
          obtain ⟨hN1, hA1, ⟨gd, v0, m0, m14, m15⟩, m16⟩ := id hM1
          refine lv_istore (lv' := [(5, .int k9), (0, .ref b), (1, .ref x), (2, .ref mo), (3, .ref o), (4, .int (nI (6 * j)))]) hx hb d_Law_law_583 hl (by decide) rfl (fun ls hl => ?_)
          refine lv_aload_n hx hb d_Law_law_585 rfl (lv_at hl 3 rfl) ?_
          refine lv_aload_n hx hb d_Law_law_586 rfl (lv_at hl 1 rfl) ?_
          refine lv_iload hx hb d_Law_law_587 (lv_at hl 5 rfl) ?_
          refine lv_iconst (v := 1) hx hb d_Law_law_589 (by decide) ?_
          refine lv_iadd hx hb d_Law_law_590 ?_
          refine va_sld hx hb hX hbl hbA hI.2.2.2 (pk_in (6 * j + 1) L (by omega) (nI_add (6 * j) 1) (by omega)) d_Law_law_591 ?_
          rw [show (nI (6 * j) + 1).toNatClampNeg = 6 * j + 1 from law_ix (k := 1) hj (by decide)]
          refine lv_if_eq (tgt := 599) hx hb d_Law_law_592 (by decide) (fun c592 => ?_) (fun c592 => ?_)
          · skip
            exact absurd c592 hbz
          · skip
            refine lv_iconst (v := 1) hx hb d_Law_law_595 (by decide) ?_
            refine lv_goto (tgt := 600) hx hb d_Law_law_596 (by decide) ?_
            refine W.eq (g2 := F0 m 600 ls [.int (b2i true), .ref mo]) rfl ?_
            refine lv_aload_n hx hb d_Law_law_600 rfl (lv_at hl 1 rfl) ?_
            refine lv_iload hx hb d_Law_law_601 (lv_at hl 5 rfl) ?_
            refine lv_iconst (v := 2) hx hb d_Law_law_603 (by decide) ?_
            refine lv_iadd hx hb d_Law_law_604 ?_
            refine va_sld hx hb hX hbl hbA hI.2.2.2 (pk_in (6 * j + 2) L (by omega) (nI_add (6 * j) 2) (by omega)) d_Law_law_605 ?_
            rw [show (nI (6 * j) + 2).toNatClampNeg = 6 * j + 2 from law_ix (k := 2) hj (by decide)]
            refine lv_aload_n hx hb d_Law_law_606 rfl (lv_at hl 1 rfl) ?_
            refine lv_iload hx hb d_Law_law_607 (lv_at hl 5 rfl) ?_
            refine lv_iconst (v := 3) hx hb d_Law_law_609 (by decide) ?_
            refine lv_iadd hx hb d_Law_law_610 ?_
            refine va_sld hx hb hX hbl hbA hI.2.2.2 (pk_in (6 * j + 3) L (by omega) (nI_add (6 * j) 3) (by omega)) d_Law_law_611 ?_
            rw [show (nI (6 * j) + 3).toNatClampNeg = 6 * j + 3 from law_ix (k := 3) hj (by decide)]
            refine lv_aload_n hx hb d_Law_law_612 rfl (lv_at hl 1 rfl) ?_
            refine lv_iload hx hb d_Law_law_613 (lv_at hl 5 rfl) ?_
            refine lv_iconst (v := 4) hx hb d_Law_law_615 (by decide) ?_
            refine lv_iadd hx hb d_Law_law_616 ?_
            refine va_sld hx hb hX hbl hbA hI.2.2.2 (pk_in (6 * j + 4) L (by omega) (nI_add (6 * j) 4) (by omega)) d_Law_law_617 ?_
            rw [show (nI (6 * j) + 4).toNatClampNeg = 6 * j + 4 from law_ix (k := 4) hj (by decide)]
            refine hv_V (As := [.int (b2i true), .int (xs (6 * j + 2)), .int (xs (6 * j + 3)), .int (xs (6 * j + 4))]) (rest := []) hE hml hK hI (c_Mo_pack l hl0 s.heap.size D cA g1 mo a th st en ct gd v0.1 v0.2.1 v0.2.2.1 v0.2.2.2.1 (nI r.2) V _ _ true (xs (6 * j + 2)) (xs (6 * j + 3)) (xs (6 * j + 4)) m0 hN1 hA1 m14 m15 hS9.1 hS9.lt hS9.2.2.1 hS9.items) cd_Mo_pack w656 w657 w658 m0 rfl rfl hl.1 (Nat.le_of_ble_eq_true rfl) d_Law_law_618 ⟨Nat.le_of_ble_eq_true rfl, Nat.le_of_ble_eq_true rfl⟩ ⟨by show 100 + 12 * j + 12 + 0 ≤ 601024; omega, by show 75000 + 300 * j + 300 + 0 ≤ 7293034; omega⟩ (fun v2 g2 H locs hp2 hI => ?_) (fun q9 E9 ce9 g9 H locs hp => hp.elim)
            obtain ⟨b9, ow1, hv2, hRP1, hkb⟩ := op_pack hS9 hC hM hD ho hp1 hM1 hp2
            rw [hv2]
            refine W.eq (g2 := F0 m 621 ls [.int b9]) rfl ?_
            refine lv_istore (lv' := [(6, .int b9), (5, .int k9), (0, .ref b), (1, .ref x), (2, .ref mo), (3, .ref o), (4, .int (nI (6 * j)))]) hx hb d_Law_law_621 hl (by decide) rfl (fun ls hl => ?_)
            refine lv_aload_n hx hb d_Law_law_623 rfl (lv_at hl 4 rfl) ?_
            obtain ⟨a8, st8, en8, ct8, gd8, ln8, bf8, ac8, un8, md8, m8, n8⟩ := hRP1.thrown
            refine hv_Vp (As := []) (rest := []) hE hml hK hI (c_Mo_thrown l hl0 s.heap.size D cA g2 mo a8 k9 st8 en8 ct8 gd8 ln8 bf8 ac8 un8 md8 m8 n8) cd_Mo_thrown w599 w600 w601 m8 rfl rfl rfl rfl hl.1 (Nat.le_of_ble_eq_true rfl) d_Law_law_624 ⟨Nat.le_of_ble_eq_true rfl, Nat.le_of_ble_eq_true rfl⟩ ⟨by show 100 + 12 * j + 12 + 0 ≤ 601024; omega, by show 75000 + 300 * j + 300 + 0 ≤ 7293034; omega⟩ (fun H locs hI => ?_)
            refine W.eq (g2 := F0 m 627 ls [.int k9]) rfl ?_
            refine lv_iload hx hb d_Law_law_627 (lv_at hl 1 rfl) ?_
            refine lv_icmp_eq (tgt := 634) hx hb d_Law_law_629 (by decide) (fun c629 => ?_) (fun c629 => ?_)
            · skip
              refine lv_iload hx hb d_Law_law_634 (lv_at hl 1 rfl) ?_
              refine lv_if_ne (tgt := 651) hx hb d_Law_law_636 (by decide) (fun c636 => ?_) (fun c636 => ?_)
              · skip
                refine lv_goto (tgt := 950) hx hb d_Law_law_651 (by decide) ?_
                exact W_widen (by show 100 + 12 * j + 12 + 0 ≤ 100 + 12 * (j + 1); omega) (by show 75000 + 300 * j + 300 + 0 ≤ 75000 + 300 * (j + 1); omega) (nx _ _ _ _ _ _ hRP1 hI hj6 (lv_sub hl [2, 3, 4, 5, 6] rfl))
              · skip
                have hkz : k9 = 0 := c636
                refine lv_aload_n hx hb d_Law_law_639 rfl (lv_at hl 5 rfl) ?_
                refine lv_iconst (v := 0) hx hb d_Law_law_640 (by decide) ?_
                refine hv_lald hE hI 1 hRP1.outAt rfl (pk_in 0 1 (by decide) rfl) d_Law_law_641 ?_
                rw [show (0 : Int32).toNatClampNeg = 0 from by decide]
                refine lv_iload hx hb d_Law_law_642 (lv_at hl 0 rfl) ?_
                refine lv_i2l (v := b9.toInt64) hx hb d_Law_law_644 rfl ?_
                refine W.lcmp hx hb d_Law_law_645 ?_
                refine lv_if_eq (tgt := 651) hx hb d_Law_law_646 (by decide) (fun c646 => ?_) (fun c646 => ?_)
                · skip
                  refine lv_goto (tgt := 950) hx hb d_Law_law_651 (by decide) ?_
                  exact W_widen (by show 100 + 12 * j + 12 + 0 ≤ 100 + 12 * (j + 1); omega) (by show 75000 + 300 * j + 300 + 0 ≤ 75000 + 300 * (j + 1); omega) (nx _ _ _ _ _ _ hRP1 hI hj6 (lv_sub hl [2, 3, 4, 5, 6] rfl))
                · skip
                  exact absurd ((lg_cmp_eq _ _).mpr (hkb hkz)) c646
            · skip
              exact absurd rfl c629
      · rw [e9] at ej9
        refine lv_tableIn (tgt := 654) hx hb d_Law_law_40 (by rw [ej9]; decide) (by rw [ej9]; decide) (by rw [ej9]; rfl) (by decide) ?_
        obtain ⟨V, st, en, ct, r, la, ma, mk, rw9, gl, gb, ad, ca, pa, gc, gp, a, hS9, hC, hM, hD, ho⟩ := hRP
        refine lv_aload_n hx hb d_Law_law_654 rfl (lv_at hl 1 rfl) ?_
        refine hv_Vp (As := []) (rest := []) hE hml hK hI (c_BP_boxes l hl0 s.heap.size D cA f x la ma mk (en - st) ct hC.1) cd_BP_boxes w68 w69 w70 hC.1 rfl rfl rfl rfl hl.1 (Nat.le_of_ble_eq_true rfl) d_Law_law_655 ⟨Nat.le_of_ble_eq_true rfl, Nat.le_of_ble_eq_true rfl⟩ ⟨by show 100 + 12 * j ≤ 601024; omega, by show 75000 + 300 * j ≤ 7293034; omega⟩ (fun H locs hI => ?_)
        refine W.eq (g2 := F0 m 658 ls [.int (nI ct)]) rfl ?_
        obtain ⟨hN1, hA1, ⟨gd, v0, m0, m14, m15⟩, m16⟩ := id hM
        refine lv_aload_n hx hb d_Law_law_658 rfl (lv_at hl 2 rfl) ?_
        refine hv_V (As := []) (rest := [.int (nI ct)]) hE hml hK hI (c_Mo_boxes l hl0 s.heap.size D cA f mo a th (nI st) (nI en) (nI ct) gd v0.1 v0.2.1 v0.2.2.1 v0.2.2.2.1 (nI r.2) m0 hN1) cd_Mo_boxes w719 w720 w721 m0 rfl rfl hl.1 (Nat.le_of_ble_eq_true rfl) d_Law_law_659 ⟨Nat.le_of_ble_eq_true rfl, Nat.le_of_ble_eq_true rfl⟩ ⟨by show 100 + 12 * j + 0 ≤ 601024; omega, by show 75000 + 300 * j + 0 ≤ 7293034; omega⟩ (fun v2 g2 H locs hp2 hI => ?_) (fun q9 E9 ce9 g9 H locs hp => hp.elim)
        obtain ⟨hv2, hr2⟩ := hp2
        have hRP1 := op_same hS9 hC hM hD ho hr2
        rw [hv2]
        refine W.eq (g2 := F0 m 662 ls [.int (nI ct), .int (nI ct)]) rfl ?_
        refine lv_icmp_eq (tgt := 950) hx hb d_Law_law_662 (by decide) (fun c662 => ?_) (fun c662 => ?_)
        · skip
          exact W_widen (by show 100 + 12 * j + 0 ≤ 100 + 12 * (j + 1); omega) (by show 75000 + 300 * j + 0 ≤ 75000 + 300 * (j + 1); omega) (nx _ _ _ _ _ _ hRP1 hI hj6 (lv_sub hl [0, 1, 2, 3, 4] rfl))
        · skip
          exact absurd rfl c662
      · rw [e9] at ej9
        refine lv_tableIn (tgt := 667) hx hb d_Law_law_40 (by rw [ej9]; decide) (by rw [ej9]; decide) (by rw [ej9]; rfl) (by decide) ?_
        obtain ⟨V, st, en, ct, r, la, ma, mk, rw9, gl, gb, ad, ca, pa, gc, gp, a, hS9, hC, hM, hD, ho⟩ := hRP
        refine lv_aload_n hx hb d_Law_law_667 rfl (lv_at hl 1 rfl) ?_
        refine lv_aload_n hx hb d_Law_law_668 rfl (lv_at hl 0 rfl) ?_
        refine lv_iload hx hb d_Law_law_669 (lv_at hl 4 rfl) ?_
        refine lv_iconst (v := 1) hx hb d_Law_law_671 (by decide) ?_
        refine lv_iadd hx hb d_Law_law_672 ?_
        refine va_sld hx hb hX hbl hbA hI.2.2.2 (pk_in (6 * j + 1) L (by omega) (nI_add (6 * j) 1) (by omega)) d_Law_law_673 ?_
        rw [show (nI (6 * j) + 1).toNatClampNeg = 6 * j + 1 from law_ix (k := 1) hj (by decide)]
        refine lv_aload_n hx hb d_Law_law_674 rfl (lv_at hl 0 rfl) ?_
        refine lv_iload hx hb d_Law_law_675 (lv_at hl 4 rfl) ?_
        refine lv_iconst (v := 2) hx hb d_Law_law_677 (by decide) ?_
        refine lv_iadd hx hb d_Law_law_678 ?_
        refine va_sld hx hb hX hbl hbA hI.2.2.2 (pk_in (6 * j + 2) L (by omega) (nI_add (6 * j) 2) (by omega)) d_Law_law_679 ?_
        rw [show (nI (6 * j) + 2).toNatClampNeg = 6 * j + 2 from law_ix (k := 2) hj (by decide)]
        refine lv_aload_n hx hb d_Law_law_680 rfl (lv_at hl 3 rfl) ?_
        have hH := c_Law_of l s.heap.size D cA f x o (xs (6 * j + 1)) (xs (6 * j + 2)) ow _ (POf f ct (xs (6 * j + 1)) (xs (6 * j + 2)) (wA V 0 (xs (6 * j + 1)).toNatClampNeg) (wA V 1 (xs (6 * j + 1)).toNatClampNeg) (wA V 2 (xs (6 * j + 1)).toNatClampNeg) (wA V 3 (xs (6 * j + 1)).toNatClampNeg) (wA V 4 (xs (6 * j + 1)).toNatClampNeg) (wA V 5 (xs (6 * j + 1)).toNatClampNeg) (wA V 7 (xs (6 * j + 1)).toNatClampNeg) (wA V 8 (xs (6 * j + 1)).toNatClampNeg) (wA V 9 (xs (6 * j + 1)).toNatClampNeg) (wF V ((xs (6 * j + 1)).toNatClampNeg + 1) - wF V (xs (6 * j + 1)).toNatClampNeg)) (TOf f ct (xs (6 * j + 1)) (xs (6 * j + 2))) hC.1 (c_BP_of l hl0 s.heap.size D cA f x la ma mk (en - st) ct (xs (6 * j + 1)) (xs (6 * j + 2)) (wF V ((xs (6 * j + 1)).toNatClampNeg + 1) - wF V (xs (6 * j + 1)).toNatClampNeg) (gc (xs (6 * j + 1)).toNatClampNeg) gb ad (ca (xs (6 * j + 1)).toNatClampNeg) (pa (xs (6 * j + 1)).toNatClampNeg) (b2i (wB V (xs (6 * j + 1)).toNatClampNeg)) (wA V 8 (xs (6 * j + 1)).toNatClampNeg) (wA V 9 (xs (6 * j + 1)).toNatClampNeg) (wA V 0 (xs (6 * j + 1)).toNatClampNeg) (wA V 1 (xs (6 * j + 1)).toNatClampNeg) (wA V 2 (xs (6 * j + 1)).toNatClampNeg) (wA V 3 (xs (6 * j + 1)).toNatClampNeg) (wA V 4 (xs (6 * j + 1)).toNatClampNeg) (wA V 5 (xs (6 * j + 1)).toNatClampNeg) (wA V 7 (xs (6 * j + 1)).toNatClampNeg) hC.1 hC.2.2.1 hC.2.2.2.2.2.2.1 hS9.2.2.1 (fun hq => (hC.2.2.2.2.2.2.2.1 _ (isBx_nat hq hS9.2.2.1).1).1) (fun hq => (hC.2.2.2.2.2.2.2.1 _ (isBx_nat hq hS9.2.2.1).1).2.1)) (fun v g hp => ⟨hp.2.2.elim (fun j q => ⟨_, q.2.2⟩), by rw [hp.1]; exact ho⟩) (fun E g hp => hp.1)
        refine hv_SH (As := [.ref x, .int (xs (6 * j + 1)), .int (xs (6 * j + 2)), .ref o]) (rest := []) hE hml hK hI hH cd_Law_of w445 w446 rfl hl.1 (Nat.le_of_ble_eq_true rfl) d_Law_law_681 ⟨Nat.le_of_ble_eq_true rfl, Nat.le_of_ble_eq_true rfl⟩ ⟨by show 100 + 12 * j + 2 ≤ 601024; omega, by show 75000 + 300 * j + 12 ≤ 7293034; omega⟩ (fun v9 g1 H locs hp hI => ?_)
        obtain ⟨k9, hv9, hp1⟩ := hp
        rw [hv9]
        refine W.eq (g2 := F0 m 684 ls [.int k9]) rfl ?_
        have hM1 := mid_i hS9 hC hM hD ho (fun v g hp => by rw [hp.1]; exact CF.rfl') (fun E g hp => by rw [hp.2.1]; exact CF.rfl') hp1
        obtain ⟨hN1, hA1, ⟨gd, v0, m0, m14, m15⟩, m16⟩ := id hM1
        refine lv_istore (lv' := [(5, .int k9), (0, .ref b), (1, .ref x), (2, .ref mo), (3, .ref o), (4, .int (nI (6 * j)))]) hx hb d_Law_law_684 hl (by decide) rfl (fun ls hl => ?_)
        refine lv_aload_n hx hb d_Law_law_686 rfl (lv_at hl 3 rfl) ?_
        refine lv_aload_n hx hb d_Law_law_687 rfl (lv_at hl 1 rfl) ?_
        refine lv_iload hx hb d_Law_law_688 (lv_at hl 5 rfl) ?_
        refine lv_iconst (v := 1) hx hb d_Law_law_690 (by decide) ?_
        refine lv_iadd hx hb d_Law_law_691 ?_
        refine va_sld hx hb hX hbl hbA hI.2.2.2 (pk_in (6 * j + 1) L (by omega) (nI_add (6 * j) 1) (by omega)) d_Law_law_692 ?_
        rw [show (nI (6 * j) + 1).toNatClampNeg = 6 * j + 1 from law_ix (k := 1) hj (by decide)]
        refine lv_aload_n hx hb d_Law_law_693 rfl (lv_at hl 1 rfl) ?_
        refine lv_iload hx hb d_Law_law_694 (lv_at hl 5 rfl) ?_
        refine lv_iconst (v := 2) hx hb d_Law_law_696 (by decide) ?_
        refine lv_iadd hx hb d_Law_law_697 ?_
        refine va_sld hx hb hX hbl hbA hI.2.2.2 (pk_in (6 * j + 2) L (by omega) (nI_add (6 * j) 2) (by omega)) d_Law_law_698 ?_
        rw [show (nI (6 * j) + 2).toNatClampNeg = 6 * j + 2 from law_ix (k := 2) hj (by decide)]
        refine hv_V (As := [.int (xs (6 * j + 1)), .int (xs (6 * j + 2))]) (rest := []) hE hml hK hI (c_Mo_of l hl0 s.heap.size D cA g1 mo a th (nI st) (nI en) (nI ct) gd v0.1 v0.2.1 v0.2.2.1 v0.2.2.2.1 (nI r.2) V (xs (6 * j + 1)) (xs (6 * j + 2)) ct m0 hN1 hA1 rfl hS9.2.2.1 (fun b hb => (hS9.boxes b hb).1)) cd_Mo_of w723 w724 w725 m0 rfl rfl hl.1 (Nat.le_of_ble_eq_true rfl) d_Law_law_699 ⟨Nat.le_of_ble_eq_true rfl, Nat.le_of_ble_eq_true rfl⟩ ⟨by show 100 + 12 * j + 2 + 0 ≤ 601024; omega, by show 75000 + 300 * j + 12 + 0 ≤ 7293034; omega⟩ (fun v2 g2 H locs hp2 hI => ?_) (fun q9 E9 ce9 g9 H locs hp => hp.elim)
        obtain ⟨b9, ow1, hv2, hRP1, hkb⟩ := op_of hS9 hC hM hD ho hp1 hM1 hp2
        rw [hv2]
        refine W.eq (g2 := F0 m 702 ls [.int b9]) rfl ?_
        refine lv_istore (lv' := [(6, .int b9), (5, .int k9), (0, .ref b), (1, .ref x), (2, .ref mo), (3, .ref o), (4, .int (nI (6 * j)))]) hx hb d_Law_law_702 hl (by decide) rfl (fun ls hl => ?_)
        refine lv_aload_n hx hb d_Law_law_704 rfl (lv_at hl 4 rfl) ?_
        obtain ⟨a8, st8, en8, ct8, gd8, ln8, bf8, ac8, un8, md8, m8, n8⟩ := hRP1.thrown
        refine hv_Vp (As := []) (rest := []) hE hml hK hI (c_Mo_thrown l hl0 s.heap.size D cA g2 mo a8 k9 st8 en8 ct8 gd8 ln8 bf8 ac8 un8 md8 m8 n8) cd_Mo_thrown w599 w600 w601 m8 rfl rfl rfl rfl hl.1 (Nat.le_of_ble_eq_true rfl) d_Law_law_705 ⟨Nat.le_of_ble_eq_true rfl, Nat.le_of_ble_eq_true rfl⟩ ⟨by show 100 + 12 * j + 2 + 0 ≤ 601024; omega, by show 75000 + 300 * j + 12 + 0 ≤ 7293034; omega⟩ (fun H locs hI => ?_)
        refine W.eq (g2 := F0 m 708 ls [.int k9]) rfl ?_
        refine lv_iload hx hb d_Law_law_708 (lv_at hl 1 rfl) ?_
        refine lv_icmp_eq (tgt := 715) hx hb d_Law_law_710 (by decide) (fun c710 => ?_) (fun c710 => ?_)
        · skip
          refine lv_iload hx hb d_Law_law_715 (lv_at hl 1 rfl) ?_
          refine lv_if_ne (tgt := 732) hx hb d_Law_law_717 (by decide) (fun c717 => ?_) (fun c717 => ?_)
          · skip
            refine lv_goto (tgt := 950) hx hb d_Law_law_732 (by decide) ?_
            exact W_widen (by show 100 + 12 * j + 2 + 0 ≤ 100 + 12 * (j + 1); omega) (by show 75000 + 300 * j + 12 + 0 ≤ 75000 + 300 * (j + 1); omega) (nx _ _ _ _ _ _ hRP1 hI hj6 (lv_sub hl [2, 3, 4, 5, 6] rfl))
          · skip
            have hkz : k9 = 0 := c717
            refine lv_aload_n hx hb d_Law_law_720 rfl (lv_at hl 5 rfl) ?_
            refine lv_iconst (v := 0) hx hb d_Law_law_721 (by decide) ?_
            refine hv_lald hE hI 1 hRP1.outAt rfl (pk_in 0 1 (by decide) rfl) d_Law_law_722 ?_
            rw [show (0 : Int32).toNatClampNeg = 0 from by decide]
            refine lv_iload hx hb d_Law_law_723 (lv_at hl 0 rfl) ?_
            refine lv_i2l (v := b9.toInt64) hx hb d_Law_law_725 rfl ?_
            refine W.lcmp hx hb d_Law_law_726 ?_
            refine lv_if_eq (tgt := 732) hx hb d_Law_law_727 (by decide) (fun c727 => ?_) (fun c727 => ?_)
            · skip
              refine lv_goto (tgt := 950) hx hb d_Law_law_732 (by decide) ?_
              exact W_widen (by show 100 + 12 * j + 2 + 0 ≤ 100 + 12 * (j + 1); omega) (by show 75000 + 300 * j + 12 + 0 ≤ 75000 + 300 * (j + 1); omega) (nx _ _ _ _ _ _ hRP1 hI hj6 (lv_sub hl [2, 3, 4, 5, 6] rfl))
            · skip
              exact absurd ((lg_cmp_eq _ _).mpr (hkb hkz)) c727
        · skip
          exact absurd rfl c710
      · rw [e9] at ej9
        refine lv_tableIn (tgt := 735) hx hb d_Law_law_40 (by rw [ej9]; decide) (by rw [ej9]; decide) (by rw [ej9]; rfl) (by decide) ?_
        obtain ⟨V, st, en, ct, r, la, ma, mk, rw9, gl, gb, ad, ca, pa, gc, gp, a, hS9, hC, hM, hD, ho⟩ := hRP
        refine lv_aload_n hx hb d_Law_law_735 rfl (lv_at hl 1 rfl) ?_
        refine lv_aload_n hx hb d_Law_law_736 rfl (lv_at hl 0 rfl) ?_
        refine lv_iload hx hb d_Law_law_737 (lv_at hl 4 rfl) ?_
        refine lv_iconst (v := 1) hx hb d_Law_law_739 (by decide) ?_
        refine lv_iadd hx hb d_Law_law_740 ?_
        refine va_sld hx hb hX hbl hbA hI.2.2.2 (pk_in (6 * j + 1) L (by omega) (nI_add (6 * j) 1) (by omega)) d_Law_law_741 ?_
        rw [show (nI (6 * j) + 1).toNatClampNeg = 6 * j + 1 from law_ix (k := 1) hj (by decide)]
        refine lv_aload_n hx hb d_Law_law_742 rfl (lv_at hl 0 rfl) ?_
        refine lv_iload hx hb d_Law_law_743 (lv_at hl 4 rfl) ?_
        refine lv_iconst (v := 2) hx hb d_Law_law_745 (by decide) ?_
        refine lv_iadd hx hb d_Law_law_746 ?_
        refine va_sld hx hb hX hbl hbA hI.2.2.2 (pk_in (6 * j + 2) L (by omega) (nI_add (6 * j) 2) (by omega)) d_Law_law_747 ?_
        rw [show (nI (6 * j) + 2).toNatClampNeg = 6 * j + 2 from law_ix (k := 2) hj (by decide)]
        refine lv_aload_n hx hb d_Law_law_748 rfl (lv_at hl 3 rfl) ?_
        obtain ⟨cn, hcq, hcn⟩ : ∃ cn : Nat, (isBx (xs (6 * j + 1)) ct = true → cn = (wF V ((xs (6 * j + 1)).toNatClampNeg + 1) - wF V (xs (6 * j + 1)).toNatClampNeg)) ∧ cn ≤ 100 := by
          by_cases hq : isBx (xs (6 * j + 1)) ct = true
          · exact ⟨_, fun _ => rfl, (hS9.boxes _ (isBx_nat hq hS9.2.2.1).1).2.1⟩
          · exact ⟨0, fun q => absurd q hq, Nat.zero_le _⟩
        have hH := c_Law_place l s.heap.size D cA f x o (xs (6 * j + 1)) (xs (6 * j + 2)) ow _ (PPl f ct (xs (6 * j + 1)) (xs (6 * j + 2)) cn (gp (xs (6 * j + 1)).toNatClampNeg)) (TPl f ct (xs (6 * j + 1)) (xs (6 * j + 2)) cn) hC.1 (c_BP_place l hl0 s.heap.size D cA f x la ma mk (en - st) ct (xs (6 * j + 1)) (xs (6 * j + 2)) cn (gp (xs (6 * j + 1)).toNatClampNeg) gb ad (ca (xs (6 * j + 1)).toNatClampNeg) (pa (xs (6 * j + 1)).toNatClampNeg) (b2i (wB V (xs (6 * j + 1)).toNatClampNeg)) (wA V 8 (xs (6 * j + 1)).toNatClampNeg) (wA V 9 (xs (6 * j + 1)).toNatClampNeg) (wA V 0 (xs (6 * j + 1)).toNatClampNeg) (wA V 1 (xs (6 * j + 1)).toNatClampNeg) (wA V 2 (xs (6 * j + 1)).toNatClampNeg) (wA V 3 (xs (6 * j + 1)).toNatClampNeg) (wA V 4 (xs (6 * j + 1)).toNatClampNeg) (wA V 5 (xs (6 * j + 1)).toNatClampNeg) (wA V 7 (xs (6 * j + 1)).toNatClampNeg) hC.1 hC.2.2.1 hC.2.2.2.2.2.2.1 hS9.2.2.1 (fun hq => (hC.2.2.2.2.2.2.2.1 _ (isBx_nat hq hS9.2.2.1).1).1) (fun hq => by rw [hcq hq]; exact (hC.2.2.2.2.2.2.2.1 _ (isBx_nat hq hS9.2.2.1).1).2.2.1) hcn) (fun v g hp => ⟨⟨_, hp.2.2.2⟩, by rw [hp.1]; exact ho⟩) (fun E g hp => hp.1)
        refine hv_SH (As := [.ref x, .int (xs (6 * j + 1)), .int (xs (6 * j + 2)), .ref o]) (rest := []) hE hml hK hI hH cd_Law_place w467 w468 rfl hl.1 (Nat.le_of_ble_eq_true rfl) d_Law_law_749 ⟨Nat.le_of_ble_eq_true rfl, Nat.le_of_ble_eq_true rfl⟩ ⟨by show 100 + 12 * j + 2 ≤ 601024; omega, by show 75000 + 300 * j + 12 ≤ 7293034; omega⟩ (fun v9 g1 H locs hp hI => ?_)
        obtain ⟨k9, hv9, hp1⟩ := hp
        rw [hv9]
        refine W.eq (g2 := F0 m 752 ls [.int k9]) rfl ?_
        have hM1 := mid_i hS9 hC hM hD ho (fun v g hp => by rw [hp.1]; exact CF.rfl') (fun E g hp => by rw [hp.2.1]; exact CF.rfl') hp1
        obtain ⟨hN1, hA1, ⟨gd, v0, m0, m14, m15⟩, m16⟩ := id hM1
        refine lv_istore (lv' := [(5, .int k9), (0, .ref b), (1, .ref x), (2, .ref mo), (3, .ref o), (4, .int (nI (6 * j)))]) hx hb d_Law_law_752 hl (by decide) rfl (fun ls hl => ?_)
        refine lv_aload_n hx hb d_Law_law_754 rfl (lv_at hl 3 rfl) ?_
        refine lv_aload_n hx hb d_Law_law_755 rfl (lv_at hl 1 rfl) ?_
        refine lv_iload hx hb d_Law_law_756 (lv_at hl 5 rfl) ?_
        refine lv_iconst (v := 1) hx hb d_Law_law_758 (by decide) ?_
        refine lv_iadd hx hb d_Law_law_759 ?_
        refine va_sld hx hb hX hbl hbA hI.2.2.2 (pk_in (6 * j + 1) L (by omega) (nI_add (6 * j) 1) (by omega)) d_Law_law_760 ?_
        rw [show (nI (6 * j) + 1).toNatClampNeg = 6 * j + 1 from law_ix (k := 1) hj (by decide)]
        refine lv_aload_n hx hb d_Law_law_761 rfl (lv_at hl 1 rfl) ?_
        refine lv_iload hx hb d_Law_law_762 (lv_at hl 5 rfl) ?_
        refine lv_iconst (v := 2) hx hb d_Law_law_764 (by decide) ?_
        refine lv_iadd hx hb d_Law_law_765 ?_
        refine va_sld hx hb hX hbl hbA hI.2.2.2 (pk_in (6 * j + 2) L (by omega) (nI_add (6 * j) 2) (by omega)) d_Law_law_766 ?_
        rw [show (nI (6 * j) + 2).toNatClampNeg = 6 * j + 2 from law_ix (k := 2) hj (by decide)]
        refine hv_V (As := [.int (xs (6 * j + 1)), .int (xs (6 * j + 2))]) (rest := []) hE hml hK hI (c_Mo_place l hl0 s.heap.size D cA g1 mo a th (nI st) (nI en) (nI ct) gd v0.1 v0.2.1 v0.2.2.1 v0.2.2.2.1 (nI r.2) V _ _ (xs (6 * j + 1)) (xs (6 * j + 2)) ct m0 hN1 hA1 m14 m15 rfl hS9.2.2.1 hS9.boxes) cd_Mo_place w727 w728 w729 m0 rfl rfl hl.1 (Nat.le_of_ble_eq_true rfl) d_Law_law_767 ⟨Nat.le_of_ble_eq_true rfl, Nat.le_of_ble_eq_true rfl⟩ ⟨by show 100 + 12 * j + 2 + 0 ≤ 601024; omega, by show 75000 + 300 * j + 12 + 0 ≤ 7293034; omega⟩ (fun v2 g2 H locs hp2 hI => ?_) (fun q9 E9 ce9 g9 H locs hp => hp.elim)
        obtain ⟨b9, ow1, hv2, hRP1, hkb⟩ := op_place hS9 hC hM hD ho hcq hp1 hM1 hp2
        rw [hv2]
        refine W.eq (g2 := F0 m 770 ls [.int b9]) rfl ?_
        refine lv_istore (lv' := [(6, .int b9), (5, .int k9), (0, .ref b), (1, .ref x), (2, .ref mo), (3, .ref o), (4, .int (nI (6 * j)))]) hx hb d_Law_law_770 hl (by decide) rfl (fun ls hl => ?_)
        refine lv_aload_n hx hb d_Law_law_772 rfl (lv_at hl 4 rfl) ?_
        obtain ⟨a8, st8, en8, ct8, gd8, ln8, bf8, ac8, un8, md8, m8, n8⟩ := hRP1.thrown
        refine hv_Vp (As := []) (rest := []) hE hml hK hI (c_Mo_thrown l hl0 s.heap.size D cA g2 mo a8 k9 st8 en8 ct8 gd8 ln8 bf8 ac8 un8 md8 m8 n8) cd_Mo_thrown w599 w600 w601 m8 rfl rfl rfl rfl hl.1 (Nat.le_of_ble_eq_true rfl) d_Law_law_773 ⟨Nat.le_of_ble_eq_true rfl, Nat.le_of_ble_eq_true rfl⟩ ⟨by show 100 + 12 * j + 2 + 0 ≤ 601024; omega, by show 75000 + 300 * j + 12 + 0 ≤ 7293034; omega⟩ (fun H locs hI => ?_)
        refine W.eq (g2 := F0 m 776 ls [.int k9]) rfl ?_
        refine lv_iload hx hb d_Law_law_776 (lv_at hl 1 rfl) ?_
        refine lv_icmp_eq (tgt := 783) hx hb d_Law_law_778 (by decide) (fun c778 => ?_) (fun c778 => ?_)
        · skip
          refine lv_iload hx hb d_Law_law_783 (lv_at hl 1 rfl) ?_
          refine lv_if_ne (tgt := 800) hx hb d_Law_law_785 (by decide) (fun c785 => ?_) (fun c785 => ?_)
          · skip
            refine lv_goto (tgt := 950) hx hb d_Law_law_800 (by decide) ?_
            exact W_widen (by show 100 + 12 * j + 2 + 0 ≤ 100 + 12 * (j + 1); omega) (by show 75000 + 300 * j + 12 + 0 ≤ 75000 + 300 * (j + 1); omega) (nx _ _ _ _ _ _ hRP1 hI hj6 (lv_sub hl [2, 3, 4, 5, 6] rfl))
          · skip
            have hkz : k9 = 0 := c785
            refine lv_aload_n hx hb d_Law_law_788 rfl (lv_at hl 5 rfl) ?_
            refine lv_iconst (v := 0) hx hb d_Law_law_789 (by decide) ?_
            refine hv_lald hE hI 1 hRP1.outAt rfl (pk_in 0 1 (by decide) rfl) d_Law_law_790 ?_
            rw [show (0 : Int32).toNatClampNeg = 0 from by decide]
            refine lv_iload hx hb d_Law_law_791 (lv_at hl 0 rfl) ?_
            refine lv_i2l (v := b9.toInt64) hx hb d_Law_law_793 rfl ?_
            refine W.lcmp hx hb d_Law_law_794 ?_
            refine lv_if_eq (tgt := 800) hx hb d_Law_law_795 (by decide) (fun c795 => ?_) (fun c795 => ?_)
            · skip
              refine lv_goto (tgt := 950) hx hb d_Law_law_800 (by decide) ?_
              exact W_widen (by show 100 + 12 * j + 2 + 0 ≤ 100 + 12 * (j + 1); omega) (by show 75000 + 300 * j + 12 + 0 ≤ 75000 + 300 * (j + 1); omega) (nx _ _ _ _ _ _ hRP1 hI hj6 (lv_sub hl [2, 3, 4, 5, 6] rfl))
            · skip
              exact absurd ((lg_cmp_eq _ _).mpr (hkb hkz)) c795
        · skip
          exact absurd rfl c778
      · rw [e9] at ej9
        refine lv_tableIn (tgt := 803) hx hb d_Law_law_40 (by rw [ej9]; decide) (by rw [ej9]; decide) (by rw [ej9]; rfl) (by decide) ?_
        obtain ⟨V, st, en, ct, r, la, ma, mk, rw9, gl, gb, ad, ca, pa, gc, gp, a, hS9, hC, hM, hD, ho⟩ := hRP
        refine lv_aload_n hx hb d_Law_law_803 rfl (lv_at hl 1 rfl) ?_
        refine lv_aload_n hx hb d_Law_law_804 rfl (lv_at hl 0 rfl) ?_
        refine lv_iload hx hb d_Law_law_805 (lv_at hl 4 rfl) ?_
        refine lv_iconst (v := 1) hx hb d_Law_law_807 (by decide) ?_
        refine lv_iadd hx hb d_Law_law_808 ?_
        refine va_sld hx hb hX hbl hbA hI.2.2.2 (pk_in (6 * j + 1) L (by omega) (nI_add (6 * j) 1) (by omega)) d_Law_law_809 ?_
        rw [show (nI (6 * j) + 1).toNatClampNeg = 6 * j + 1 from law_ix (k := 1) hj (by decide)]
        refine lv_aload_n hx hb d_Law_law_810 rfl (lv_at hl 0 rfl) ?_
        refine lv_iload hx hb d_Law_law_811 (lv_at hl 4 rfl) ?_
        refine lv_iconst (v := 2) hx hb d_Law_law_813 (by decide) ?_
        refine lv_iadd hx hb d_Law_law_814 ?_
        refine va_sld hx hb hX hbl hbA hI.2.2.2 (pk_in (6 * j + 2) L (by omega) (nI_add (6 * j) 2) (by omega)) d_Law_law_815 ?_
        rw [show (nI (6 * j) + 2).toNatClampNeg = 6 * j + 2 from law_ix (k := 2) hj (by decide)]
        refine lv_aload_n hx hb d_Law_law_816 rfl (lv_at hl 0 rfl) ?_
        refine lv_iload hx hb d_Law_law_817 (lv_at hl 4 rfl) ?_
        refine lv_iconst (v := 3) hx hb d_Law_law_819 (by decide) ?_
        refine lv_iadd hx hb d_Law_law_820 ?_
        refine va_sld hx hb hX hbl hbA hI.2.2.2 (pk_in (6 * j + 3) L (by omega) (nI_add (6 * j) 3) (by omega)) d_Law_law_821 ?_
        rw [show (nI (6 * j) + 3).toNatClampNeg = 6 * j + 3 from law_ix (k := 3) hj (by decide)]
        refine lv_aload_n hx hb d_Law_law_822 rfl (lv_at hl 3 rfl) ?_
        have hH := c_Law_lay l s.heap.size D cA f x o (xs (6 * j + 1)) (xs (6 * j + 2)) (xs (6 * j + 3)) ow _ (PLay cA f mk rw9 ct V r (xs (6 * j + 1)) (xs (6 * j + 2)) (xs (6 * j + 3))) (TLay f ct (xs (6 * j + 1)) (xs (6 * j + 2)) (xs (6 * j + 3))) hC.1 (c_BP_lay l hl0 s.heap.size D cA f x la ma mk (en - st) ct rw9 (xs (6 * j + 1)) (xs (6 * j + 2)) (xs (6 * j + 3)) r V gb ad ca pa gc gp hC.1 hC.2.2.1 hC.2.2.2.2.2.2.1 hS9.2.2.1 hC.2.2.2.2.2.2.2.1 hS9.2.2.2.2.2.1 hC.2.2.2.2.1) (fun v g hp => ⟨⟨_, hp.2.2.2.1⟩, (hC.marked hp.2.2.2.2.1 hp.2.2.2.2.2).2.keepO hC ho⟩) (fun E g hp => hp.2.elim (fun q => Or.inl q.1) (fun q => Or.inr q.1))
        refine hv_SH (As := [.ref x, .int (xs (6 * j + 1)), .int (xs (6 * j + 2)), .int (xs (6 * j + 3)), .ref o]) (rest := []) hE hml hK hI hH cd_Law_lay w475 w476 rfl hl.1 (Nat.le_of_ble_eq_true rfl) d_Law_law_823 ⟨Nat.le_of_ble_eq_true rfl, Nat.le_of_ble_eq_true rfl⟩ ⟨by show 100 + 12 * j + 2 ≤ 601024; omega, by show 75000 + 300 * j + 12 ≤ 7293034; omega⟩ (fun v9 g1 H locs hp hI => ?_)
        obtain ⟨k9, hv9, hp1⟩ := hp
        rw [hv9]
        refine W.eq (g2 := F0 m 826 ls [.int k9]) rfl ?_
        have hM1 := mid_i hS9 hC hM hD ho (fun v g hp => (hC.marked hp.2.2.2.2.1 hp.2.2.2.2.2).2) (fun E g hp => by rw [hp.1]; exact CF.rfl') hp1
        obtain ⟨hN1, hA1, ⟨gd, v0, m0, m14, m15⟩, m16⟩ := id hM1
        refine lv_istore (lv' := [(5, .int k9), (0, .ref b), (1, .ref x), (2, .ref mo), (3, .ref o), (4, .int (nI (6 * j)))]) hx hb d_Law_law_826 hl (by decide) rfl (fun ls hl => ?_)
        refine lv_aload_n hx hb d_Law_law_828 rfl (lv_at hl 3 rfl) ?_
        refine lv_aload_n hx hb d_Law_law_829 rfl (lv_at hl 1 rfl) ?_
        refine lv_iload hx hb d_Law_law_830 (lv_at hl 5 rfl) ?_
        refine lv_iconst (v := 1) hx hb d_Law_law_832 (by decide) ?_
        refine lv_iadd hx hb d_Law_law_833 ?_
        refine va_sld hx hb hX hbl hbA hI.2.2.2 (pk_in (6 * j + 1) L (by omega) (nI_add (6 * j) 1) (by omega)) d_Law_law_834 ?_
        rw [show (nI (6 * j) + 1).toNatClampNeg = 6 * j + 1 from law_ix (k := 1) hj (by decide)]
        refine lv_aload_n hx hb d_Law_law_835 rfl (lv_at hl 1 rfl) ?_
        refine lv_iload hx hb d_Law_law_836 (lv_at hl 5 rfl) ?_
        refine lv_iconst (v := 2) hx hb d_Law_law_838 (by decide) ?_
        refine lv_iadd hx hb d_Law_law_839 ?_
        refine va_sld hx hb hX hbl hbA hI.2.2.2 (pk_in (6 * j + 2) L (by omega) (nI_add (6 * j) 2) (by omega)) d_Law_law_840 ?_
        rw [show (nI (6 * j) + 2).toNatClampNeg = 6 * j + 2 from law_ix (k := 2) hj (by decide)]
        refine lv_aload_n hx hb d_Law_law_841 rfl (lv_at hl 1 rfl) ?_
        refine lv_iload hx hb d_Law_law_842 (lv_at hl 5 rfl) ?_
        refine lv_iconst (v := 3) hx hb d_Law_law_844 (by decide) ?_
        refine lv_iadd hx hb d_Law_law_845 ?_
        refine va_sld hx hb hX hbl hbA hI.2.2.2 (pk_in (6 * j + 3) L (by omega) (nI_add (6 * j) 3) (by omega)) d_Law_law_846 ?_
        rw [show (nI (6 * j) + 3).toNatClampNeg = 6 * j + 3 from law_ix (k := 3) hj (by decide)]
        refine hv_V (As := [.int (xs (6 * j + 1)), .int (xs (6 * j + 2)), .int (xs (6 * j + 3))]) (rest := []) hE hml hK hI (c_Mo_lay l hl0 s.heap.size D cA g1 mo a th (nI st) (nI en) (nI ct) gd v0.1 v0.2.1 v0.2.2.1 v0.2.2.2.1 V _ _ r (xs (6 * j + 1)) (xs (6 * j + 2)) (xs (6 * j + 3)) ct m0 hN1 hA1 m14 m15 m16 hS9.2.2.2.2.2.2.2.2 rfl hS9.2.2.1 hS9.2.2.2.2.2.1 (fun b hb => (hS9.boxes b hb).2.2.1)) cd_Mo_lay w738 w739 w740 m0 rfl rfl hl.1 (Nat.le_of_ble_eq_true rfl) d_Law_law_847 ⟨Nat.le_of_ble_eq_true rfl, Nat.le_of_ble_eq_true rfl⟩ ⟨by show 100 + 12 * j + 2 + 0 ≤ 601024; omega, by show 75000 + 300 * j + 12 + 0 ≤ 7293034; omega⟩ (fun v2 g2 H locs hp2 hI => ?_) (fun q9 E9 ce9 g9 H locs hp => hp.elim)
        obtain ⟨b9, ow1, hv2, hRP1, hkb⟩ := op_lay hS9 hC hM hD ho hp1 hM1 hp2
        rw [hv2]
        refine W.eq (g2 := F0 m 850 ls [.int b9]) rfl ?_
        refine lv_istore (lv' := [(6, .int b9), (5, .int k9), (0, .ref b), (1, .ref x), (2, .ref mo), (3, .ref o), (4, .int (nI (6 * j)))]) hx hb d_Law_law_850 hl (by decide) rfl (fun ls hl => ?_)
        refine lv_aload_n hx hb d_Law_law_852 rfl (lv_at hl 4 rfl) ?_
        obtain ⟨a8, st8, en8, ct8, gd8, ln8, bf8, ac8, un8, md8, m8, n8⟩ := hRP1.thrown
        refine hv_Vp (As := []) (rest := []) hE hml hK hI (c_Mo_thrown l hl0 s.heap.size D cA g2 mo a8 k9 st8 en8 ct8 gd8 ln8 bf8 ac8 un8 md8 m8 n8) cd_Mo_thrown w599 w600 w601 m8 rfl rfl rfl rfl hl.1 (Nat.le_of_ble_eq_true rfl) d_Law_law_853 ⟨Nat.le_of_ble_eq_true rfl, Nat.le_of_ble_eq_true rfl⟩ ⟨by show 100 + 12 * j + 2 + 0 ≤ 601024; omega, by show 75000 + 300 * j + 12 + 0 ≤ 7293034; omega⟩ (fun H locs hI => ?_)
        refine W.eq (g2 := F0 m 856 ls [.int k9]) rfl ?_
        refine lv_iload hx hb d_Law_law_856 (lv_at hl 1 rfl) ?_
        refine lv_icmp_eq (tgt := 863) hx hb d_Law_law_858 (by decide) (fun c858 => ?_) (fun c858 => ?_)
        · skip
          refine lv_iload hx hb d_Law_law_863 (lv_at hl 1 rfl) ?_
          refine lv_if_ne (tgt := 880) hx hb d_Law_law_865 (by decide) (fun c865 => ?_) (fun c865 => ?_)
          · skip
            refine lv_goto (tgt := 950) hx hb d_Law_law_880 (by decide) ?_
            exact W_widen (by show 100 + 12 * j + 2 + 0 ≤ 100 + 12 * (j + 1); omega) (by show 75000 + 300 * j + 12 + 0 ≤ 75000 + 300 * (j + 1); omega) (nx _ _ _ _ _ _ hRP1 hI hj6 (lv_sub hl [2, 3, 4, 5, 6] rfl))
          · skip
            have hkz : k9 = 0 := c865
            refine lv_aload_n hx hb d_Law_law_868 rfl (lv_at hl 5 rfl) ?_
            refine lv_iconst (v := 0) hx hb d_Law_law_869 (by decide) ?_
            refine hv_lald hE hI 1 hRP1.outAt rfl (pk_in 0 1 (by decide) rfl) d_Law_law_870 ?_
            rw [show (0 : Int32).toNatClampNeg = 0 from by decide]
            refine lv_iload hx hb d_Law_law_871 (lv_at hl 0 rfl) ?_
            refine lv_i2l (v := b9.toInt64) hx hb d_Law_law_873 rfl ?_
            refine W.lcmp hx hb d_Law_law_874 ?_
            refine lv_if_eq (tgt := 880) hx hb d_Law_law_875 (by decide) (fun c875 => ?_) (fun c875 => ?_)
            · skip
              refine lv_goto (tgt := 950) hx hb d_Law_law_880 (by decide) ?_
              exact W_widen (by show 100 + 12 * j + 2 + 0 ≤ 100 + 12 * (j + 1); omega) (by show 75000 + 300 * j + 12 + 0 ≤ 75000 + 300 * (j + 1); omega) (nx _ _ _ _ _ _ hRP1 hI hj6 (lv_sub hl [2, 3, 4, 5, 6] rfl))
            · skip
              exact absurd ((lg_cmp_eq _ _).mpr (hkb hkz)) c875
        · skip
          exact absurd rfl c858
      · rw [e9] at ej9
        refine lv_tableIn (tgt := 883) hx hb d_Law_law_40 (by rw [ej9]; decide) (by rw [ej9]; decide) (by rw [ej9]; rfl) (by decide) ?_
        obtain ⟨V, st, en, ct, r, la, ma, mk, rw9, gl, gb, ad, ca, pa, gc, gp, a, hS9, hC, hM, hD, ho⟩ := hRP
        refine lv_aload_n hx hb d_Law_law_883 rfl (lv_at hl 1 rfl) ?_
        refine lv_aload_n hx hb d_Law_law_884 rfl (lv_at hl 0 rfl) ?_
        refine lv_iload hx hb d_Law_law_885 (lv_at hl 4 rfl) ?_
        refine lv_iconst (v := 1) hx hb d_Law_law_887 (by decide) ?_
        refine lv_iadd hx hb d_Law_law_888 ?_
        refine va_sld hx hb hX hbl hbA hI.2.2.2 (pk_in (6 * j + 1) L (by omega) (nI_add (6 * j) 1) (by omega)) d_Law_law_889 ?_
        rw [show (nI (6 * j) + 1).toNatClampNeg = 6 * j + 1 from law_ix (k := 1) hj (by decide)]
        refine lv_aload_n hx hb d_Law_law_890 rfl (lv_at hl 0 rfl) ?_
        refine lv_iload hx hb d_Law_law_891 (lv_at hl 4 rfl) ?_
        refine lv_iconst (v := 2) hx hb d_Law_law_893 (by decide) ?_
        refine lv_iadd hx hb d_Law_law_894 ?_
        refine va_sld hx hb hX hbl hbA hI.2.2.2 (pk_in (6 * j + 2) L (by omega) (nI_add (6 * j) 2) (by omega)) d_Law_law_895 ?_
        rw [show (nI (6 * j) + 2).toNatClampNeg = 6 * j + 2 from law_ix (k := 2) hj (by decide)]
        refine lv_aload_n hx hb d_Law_law_896 rfl (lv_at hl 3 rfl) ?_
        have hH := c_Law_mark l s.heap.size D cA f x o (xs (6 * j + 1)) (xs (6 * j + 2)) ow _ (PMk f r.2 (xs (6 * j + 1)) (xs (6 * j + 2)) r.1) (TMk f r.2 (xs (6 * j + 1)) (xs (6 * j + 2))) hC.1 (c_BP_mark l hl0 s.heap.size D cA f x la ma mk (en - st) ct rw9 r.2 (xs (6 * j + 1)) (xs (6 * j + 2)) r.1 hC.1 hC.2.2.2.2.1.1 hC.2.2.2.2.1.2 hS9.2.2.2.2.2.2.2.2) (fun v g hp => ⟨⟨_, hp.2.2.2⟩, by rw [hp.1]; exact ho⟩) (fun E g hp => hp.1)
        refine hv_SH (As := [.ref x, .int (xs (6 * j + 1)), .int (xs (6 * j + 2)), .ref o]) (rest := []) hE hml hK hI hH cd_Law_mark w500 w501 rfl hl.1 (Nat.le_of_ble_eq_true rfl) d_Law_law_897 ⟨Nat.le_of_ble_eq_true rfl, Nat.le_of_ble_eq_true rfl⟩ ⟨by show 100 + 12 * j + 1 ≤ 601024; omega, by show 75000 + 300 * j + 6 ≤ 7293034; omega⟩ (fun v9 g1 H locs hp hI => ?_)
        obtain ⟨k9, hv9, hp1⟩ := hp
        rw [hv9]
        refine W.eq (g2 := F0 m 900 ls [.int k9]) rfl ?_
        have hM1 := mid_l hS9 hC hM hD ho (fun v g hp => by rw [hp.1]; exact CF.rfl') (fun E g hp => by rw [hp.2.1]; exact CF.rfl') hp1
        obtain ⟨hN1, hA1, ⟨gd, v0, m0, m14, m15⟩, m16⟩ := id hM1
        refine lv_istore (lv' := [(5, .int k9), (0, .ref b), (1, .ref x), (2, .ref mo), (3, .ref o), (4, .int (nI (6 * j)))]) hx hb d_Law_law_900 hl (by decide) rfl (fun ls hl => ?_)
        refine lv_aload_n hx hb d_Law_law_902 rfl (lv_at hl 3 rfl) ?_
        refine lv_aload_n hx hb d_Law_law_903 rfl (lv_at hl 1 rfl) ?_
        refine lv_iload hx hb d_Law_law_904 (lv_at hl 5 rfl) ?_
        refine lv_iconst (v := 1) hx hb d_Law_law_906 (by decide) ?_
        refine lv_iadd hx hb d_Law_law_907 ?_
        refine va_sld hx hb hX hbl hbA hI.2.2.2 (pk_in (6 * j + 1) L (by omega) (nI_add (6 * j) 1) (by omega)) d_Law_law_908 ?_
        rw [show (nI (6 * j) + 1).toNatClampNeg = 6 * j + 1 from law_ix (k := 1) hj (by decide)]
        refine lv_aload_n hx hb d_Law_law_909 rfl (lv_at hl 1 rfl) ?_
        refine lv_iload hx hb d_Law_law_910 (lv_at hl 5 rfl) ?_
        refine lv_iconst (v := 2) hx hb d_Law_law_912 (by decide) ?_
        refine lv_iadd hx hb d_Law_law_913 ?_
        refine va_sld hx hb hX hbl hbA hI.2.2.2 (pk_in (6 * j + 2) L (by omega) (nI_add (6 * j) 2) (by omega)) d_Law_law_914 ?_
        rw [show (nI (6 * j) + 2).toNatClampNeg = 6 * j + 2 from law_ix (k := 2) hj (by decide)]
        refine hv_V (As := [.int (xs (6 * j + 1)), .int (xs (6 * j + 2))]) (rest := []) hE hml hK hI (c_Mo_mark l hl0 s.heap.size D cA g1 mo a th (nI st) (nI en) (nI ct) gd v0.1 v0.2.1 v0.2.2.1 v0.2.2.2.1 r.2 (xs (6 * j + 1)) (xs (6 * j + 2)) r.1 m0 hN1 m16 hS9.2.2.2.2.2.2.2.2) cd_Mo_mark w754 w755 w756 m0 rfl rfl hl.1 (Nat.le_of_ble_eq_true rfl) d_Law_law_915 ⟨Nat.le_of_ble_eq_true rfl, Nat.le_of_ble_eq_true rfl⟩ ⟨by show 100 + 12 * j + 1 + 0 ≤ 601024; omega, by show 75000 + 300 * j + 6 + 0 ≤ 7293034; omega⟩ (fun v2 g2 H locs hp2 hI => ?_) (fun q9 E9 ce9 g9 H locs hp => hp.elim)
        obtain ⟨b9, ow1, hv2, hRP1, hkb⟩ := op_mark hS9 hC hM hD ho hp1 hM1 hp2
        rw [hv2]
        refine W.eq (g2 := F0 m 918 ls [.long b9]) rfl ?_
        refine lv_lstore (lv' := [(6, .long b9), (5, .int k9), (0, .ref b), (1, .ref x), (2, .ref mo), (3, .ref o), (4, .int (nI (6 * j)))]) hx hb d_Law_law_918 hl (by decide) rfl (fun ls hl => ?_)
        refine lv_aload_n hx hb d_Law_law_920 rfl (lv_at hl 4 rfl) ?_
        obtain ⟨a8, st8, en8, ct8, gd8, ln8, bf8, ac8, un8, md8, m8, n8⟩ := hRP1.thrown
        refine hv_Vp (As := []) (rest := []) hE hml hK hI (c_Mo_thrown l hl0 s.heap.size D cA g2 mo a8 k9 st8 en8 ct8 gd8 ln8 bf8 ac8 un8 md8 m8 n8) cd_Mo_thrown w599 w600 w601 m8 rfl rfl rfl rfl hl.1 (Nat.le_of_ble_eq_true rfl) d_Law_law_921 ⟨Nat.le_of_ble_eq_true rfl, Nat.le_of_ble_eq_true rfl⟩ ⟨by show 100 + 12 * j + 1 + 0 ≤ 601024; omega, by show 75000 + 300 * j + 6 + 0 ≤ 7293034; omega⟩ (fun H locs hI => ?_)
        refine W.eq (g2 := F0 m 924 ls [.int k9]) rfl ?_
        refine lv_iload hx hb d_Law_law_924 (lv_at hl 1 rfl) ?_
        refine lv_icmp_eq (tgt := 931) hx hb d_Law_law_926 (by decide) (fun c926 => ?_) (fun c926 => ?_)
        · skip
          refine lv_iload hx hb d_Law_law_931 (lv_at hl 1 rfl) ?_
          refine lv_if_ne (tgt := 947) hx hb d_Law_law_933 (by decide) (fun c933 => ?_) (fun c933 => ?_)
          · skip
            refine lv_goto (tgt := 950) hx hb d_Law_law_947 (by decide) ?_
            exact W_widen (by show 100 + 12 * j + 1 + 0 ≤ 100 + 12 * (j + 1); omega) (by show 75000 + 300 * j + 6 + 0 ≤ 75000 + 300 * (j + 1); omega) (nx _ _ _ _ _ _ hRP1 hI hj6 (lv_sub hl [2, 3, 4, 5, 6] rfl))
          · skip
            have hkz : k9 = 0 := c933
            refine lv_aload_n hx hb d_Law_law_936 rfl (lv_at hl 5 rfl) ?_
            refine lv_iconst (v := 0) hx hb d_Law_law_937 (by decide) ?_
            refine hv_lald hE hI 1 hRP1.outAt rfl (pk_in 0 1 (by decide) rfl) d_Law_law_938 ?_
            rw [show (0 : Int32).toNatClampNeg = 0 from by decide]
            refine lv_lload hx hb d_Law_law_939 (lv_at hl 0 rfl) ?_
            refine W.lcmp hx hb d_Law_law_941 ?_
            refine lv_if_eq (tgt := 947) hx hb d_Law_law_942 (by decide) (fun c942 => ?_) (fun c942 => ?_)
            · skip
              refine lv_goto (tgt := 950) hx hb d_Law_law_947 (by decide) ?_
              exact W_widen (by show 100 + 12 * j + 1 + 0 ≤ 100 + 12 * (j + 1); omega) (by show 75000 + 300 * j + 6 + 0 ≤ 75000 + 300 * (j + 1); omega) (nx _ _ _ _ _ _ hRP1 hI hj6 (lv_sub hl [2, 3, 4, 5, 6] rfl))
            · skip
              exact absurd ((lg_cmp_eq _ _).mpr (hkb hkz)) c942
        · skip
          exact absurd rfl c926
