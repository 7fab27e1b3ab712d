/-! ===== fit ===== -/
theorem fit_sim {V : Wd} {ad : Nat → Nat} {bel : Bool} {how size gr : Int32} {c k0 n : Nat} (hv : ∀ i, i < n → itV V c (k0 + i)) (hb : ∀ b, b < c → szI (wA V 0 b) ∧ szI (wA V 1 b) ∧ szI (wA V 2 b)) (hok : okPack how size gr = true) :
    (fitF bel how size gr (fun i => itO V ad (k0 + i)) n = none ∧ (gL V bel k0 n && gdM bel how size gr (fL V bel k0 n)) = false) ∨
    (∃ (A : Nat → Int32) (gp : Nat → Int32), A = atM V bel how size gr k0 n (fL V bel k0 n) ∧ fitF bel how size gr (fun i => itO V ad (k0 + i)) n = some (A 0, A 1, A 2, A 3, A 4, A 5, A 7, gp) ∧ (gL V bel k0 n && gdM bel how size gr (fL V bel k0 n)) = true ∧ (∀ j, j < n → (gp j).toInt64 = plX V bel (A 3) (A 4) (A 5) (A 7) k0 j) ∧
      szI (A 0) ∧ szI (A 1) ∧ szI (A 2) ∧ szI (A 3) ∧ szI (A 5) ∧ 0 ≤ (A 5).toInt ∧ A 6 = badF (A 3) (A 4) (A 5) (A 7)) := by
  simp only [okPack, Bool.and_eq_true, Bool.not_eq_true', decide_eq_false_iff_not, decide_eq_true_eq] at hok
  obtain ⟨⟨⟨h0, h2⟩, hz⟩, hgr⟩ := hok
  have gF : ∀ j, j < n → (ck1 V bel (k0 + j) (fL V bel k0 j) = false ∨ ck2 V (k0 + j) (fL V bel k0 j).2.2.2.2.1 = false ∨ ck3 V (k0 + j) (fL V bel k0 j).2.2.2.2.2 = false) → gL V bel k0 n = false := fun j hj q => by
    apply Bool.eq_false_iff.mpr
    intro w
    obtain ⟨w1, w2, w3⟩ := (gL_iff n).mp w j hj
    rcases q with q | q | q
    · rw [q] at w1; cases w1
    · rw [q] at w2; cases w2
    · rw [q] at w3; cases w3
  rcases meas_sim (ad := ad) (bel := bel) (gr := gr) hv hb with ⟨w, h, d, gp, m1, m2, m3, m4, m5, m6, m7⟩ | ⟨m1, m2⟩
  · rcases gives_sim (ad := ad) (bel := bel) (s := false) hv hb n 0 (fun _ => 0) (by omega) (fun o => ⟨i0_64, szI_0, Int.le_refl _⟩) with ⟨gs, s1, s2, s3⟩ | ⟨s1, j, s2, s3, s4⟩
    · rcases gives_sim (ad := ad) (bel := bel) (s := true) hv hb n 0 (fun _ => 0) (by omega) (fun o => ⟨i0_64, szI_0, Int.le_refl _⟩) with ⟨hs, r1, r2, r3⟩ | ⟨r1, j, r2, r3, r4⟩
      · have gT : gL V bel k0 n = true := (gL_iff n).mpr fun j hj => ⟨m2 j hj, s2 j (by omega) hj, r2 j (by omega) hj⟩
        have fa := fl_all hv hb m2 n (Nat.le_refl n)
        have hl : sz (lnM bel gr (fL V bel k0 n)) = true := by
          by_cases q : bel = true ∧ gr.toInt64 < (fL V bel k0 n).2.1
          · rw [q.1, decide_eq_true (by rw [← q.1]; exact q.2)] at m3
            rw [q.1]
            simpa using m3
          · rw [lnM, if_neg q]; exact fa.1
        rcases fill_sim (bel := bel) (how := how) (size := size) m4 hl hz h0 h2 with ⟨ex, ll, f1, f2, f3, f4, f5⟩ | ⟨f1, f2⟩
        · obtain ⟨ot, hot⟩ : ∃ ot, ot = otF (exM how size (lnM bel gr (fL V bel k0 n))) (fL V bel k0 n).2.2.2.2 := ⟨_, rfl⟩
          have fd : fndF gs hs ex = ot := by rw [hot]; exact fnd_sim f4 (fun o => (s3 o).1) (fun o => (r3 o).1)
          have he : szI ex := by rw [szI, f4]; exact f2
          have ho : ot = (0, 0) ∨ ∃ o, o < 4 ∧ ot.1 = nI o ∧ ot.2 = (if ex < 0 then hs else gs) o := by
            rw [hot, otF]
            split
            · exact Or.inl rfl
            · by_cases q : 0 < exM how size (lnM bel gr (fL V bel k0 n))
              · have q2 : ¬ ex < 0 := fun n9 => by
                  have := lt64_n.mp n9
                  rw [f4] at this
                  exact Int64.lt_asymm q this
                rw [if_pos q]
                rcases oL_of (fL V bel k0 n).2.2.2.2.1 4 with p | ⟨o, p1, p2⟩
                · exact Or.inl p
                · exact Or.inr ⟨o, p1, by rw [p2], by rw [p2, if_neg q2]; exact to32 (s3 o).1⟩
              · rename_i q0
                have q2 : ex < 0 := lt64_n.mpr (by rw [f4]; exact Int64.lt_of_le_of_ne (Int64.not_lt.mp q) q0)
                rw [if_neg q]
                rcases oL_of (fL V bel k0 n).2.2.2.2.2 4 with p | ⟨o, p1, p2⟩
                · exact Or.inl p
                · exact Or.inr ⟨o, p1, by rw [p2], by rw [p2, if_pos q2]; exact to32 (r3 o).1⟩
          have ht : szI ot.2 ∧ 0 ≤ ot.2.toInt := by
            rcases ho with p | ⟨o, p1, p2, p3⟩
            · rw [p]; exact ⟨szI_0, Int.le_refl _⟩
            · rw [p3]; split
              · exact (r3 o).2
              · exact (s3 o).2
          have hto : ¬ ot.2 = 0 → ¬ ot.1 < 0 ∧ ot.2.toInt64 = gvS (decide (ex < 0)) (fL V bel k0 n) ot.1.toNatClampNeg := fun q => by
            rcases ho with p | ⟨o, p1, p2, p3⟩
            · rw [p] at q; exact absurd rfl q
            · rw [p2, p3, nI_clamp (by omega)]
              refine ⟨fun q9 => ?_, ?_⟩
              · have := Int32.lt_iff_toInt_lt.mp q9
                rw [nI_toInt (by omega), show (0 : Int32).toInt = 0 by decide] at this
                omega
              · by_cases q9 : ex < 0
                · rw [if_pos q9, decide_eq_true q9]; exact (r3 o).1
                · rw [if_neg q9, decide_eq_false q9]; exact (s3 o).1
          obtain ⟨o1, o2, o3⟩ := ov_sim (od := ot.1) he ht.1 ht.2
          have bd := bad_sim (od := ot.1) he ht.1 ht.2
          have cx : ∀ j, j < n → ckX (decide (ex < 0)) V (k0 + j) (gvS (decide (ex < 0)) (fL V bel k0 j)) = true := fun j hj => by
            by_cases q9 : ex < 0
            · rw [decide_eq_true q9]; exact r2 j (by omega) hj
            · rw [decide_eq_false q9]; exact s2 j (by omega) hj
          have sh := addS_sim (ad := ad) (ov := ovF ex ot.1 ot.2) hv hb m2 cx m7 he ht.1 ht.2 hto
          have a3 : (exM how size (lnM bel gr (fL V bel k0 n))).toInt32 = ex := to32 f4
          have a7 : ovM (exM how size (lnM bel gr (fL V bel k0 n))) ot = ovF ex ot.1 ot.2 := by rw [← f4]; exact o1.symm
          have a6 : baM (exM how size (lnM bel gr (fL V bel k0 n))) ot = badF ex ot.1 ot.2 (ovF ex ot.1 ot.2) := by rw [← f4]; exact bd.symm
          have a0 : (if bel = true then (fL V bel k0 n).2.2.1 else lnM bel gr (fL V bel k0 n) + exM how size (lnM bel gr (fL V bel k0 n))).toInt32 = if bel = true then w else ll := by
            by_cases q : bel = true
            · rw [if_pos q, if_pos q]; rw [if_pos q] at m5; exact to32 m5
            · rw [if_neg q, if_neg q]; exact to32 f5
          have a1 : (if bel = true then lnM bel gr (fL V bel k0 n) + exM how size (lnM bel gr (fL V bel k0 n)) else (fL V bel k0 n).2.2.1).toInt32 = if bel = true then ll else h := by
            by_cases q : bel = true
            · rw [if_pos q, if_pos q]; exact to32 f5
            · rw [if_neg q, if_neg q]; rw [if_neg q] at m5; exact to32 m5
          have a2 : (unM bel gr (fL V bel k0 n)).toInt32 = d := to32 m6
          have hll : szI ll := by rw [szI, f5]; exact f3
          have hac : szI (if bel = true then w else h) := by rw [szI, m5]; exact fa.2.2.1
          have hd9 : szI d := by
            rw [szI, m6, unM]
            split
            · split
              · exact hgr
              · exact fa.2.1
            · exact fa.2.2.2
          obtain ⟨A, hA⟩ : ∃ A, A = atM V bel how size gr k0 n (fL V bel k0 n) := ⟨_, rfl⟩
          have A0 : A 0 = if bel = true then w else ll := by rw [hA]; exact a0
          have A1 : A 1 = if bel = true then ll else h := by rw [hA]; exact a1
          have A2 : A 2 = d := by rw [hA]; exact a2
          have A3 : A 3 = ex := by rw [hA]; exact a3
          have A4 : A 4 = ot.1 := by rw [hA, hot]; rfl
          have A5 : A 5 = ot.2 := by rw [hA, hot]; rfl
          have A6 : A 6 = badF ex ot.1 ot.2 (ovF ex ot.1 ot.2) := by rw [hA, ← a6, hot]; rfl
          have A7 : A 7 = ovF ex ot.1 ot.2 := by rw [hA, ← a7, hot]; rfl
          refine Or.inr ⟨A, addS ex ot.1 ot.2 (ovF ex ot.1 ot.2) (fun i => itO V ad (k0 + i)) n gp, hA, ?_, ?_, fun j hj => ?_, ?_, ?_, ?_, ?_, ?_, ?_, ?_⟩
          · rw [fitF, m1, Option.bind_some, s1, Option.bind_some, r1, Option.bind_some, f1, Option.bind_some, A0, A1, A2, A3, A4, A5, A7]
            simp only [fd]
          · rw [gT, gdM, m3, f2, f3]; rfl
          · rw [A3, A4, A5, A7]; exact sh j hj
          · rw [A0]
            by_cases q : bel = true
            · rw [if_pos q]; rw [if_pos q] at hac; exact hac
            · rw [if_neg q]; exact hll
          · rw [A1]
            by_cases q : bel = true
            · rw [if_pos q]; exact hll
            · rw [if_neg q]; rw [if_neg q] at hac; exact hac
          · rw [A2]; exact hd9
          · rw [A3]; exact he
          · rw [A5]; exact ht.1
          · rw [A5]; exact ht.2
          · rw [A6, A3, A4, A5, A7]
        · refine Or.inl ⟨by rw [fitF, m1, Option.bind_some, s1, Option.bind_some, r1, Option.bind_some, f1]; rfl, ?_⟩
          rw [gT, gdM, m3, Bool.true_and, Bool.true_and]
          exact f2
      · exact Or.inl ⟨by rw [fitF, m1, Option.bind_some, s1, Option.bind_some, r1]; rfl, by rw [gF j r3 (Or.inr (Or.inr r4))]; rfl⟩
    · exact Or.inl ⟨by rw [fitF, m1, Option.bind_some, s1]; rfl, by rw [gF j s3 (Or.inr (Or.inl s4))]; rfl⟩
  · refine Or.inl ⟨by rw [fitF, m1]; rfl, ?_⟩
    rcases m2 with ⟨j, q1, q2⟩ | q
    · rw [gF j q1 (Or.inl q2)]; rfl
    · rw [gdM, q]; simp
/-! ===== how deep, how many in all ===== -/
theorem kd_box {V : Wd} {ad : Nat → Nat} {c k : Nat} (hv : itV V c k) : (wK V k = 4 ∧ wI V k < c ∧ ∃ t w h d z, itO V ad k = .inl (t, w, h, d, some (ad (wI V k)), z)) ∨ (¬ wK V k = 4 ∧ ((∃ t w h d z, itO V ad k = .inl (t, w, h, d, none, z)) ∨ ∃ z, itO V ad k = .inr z)) := by
  rcases hv with ⟨k0, -⟩ | ⟨k0, -⟩ | ⟨k0, -⟩ | ⟨k0, -⟩ | ⟨k0, -, g1, -⟩
  · exact Or.inr ⟨by rw [k0]; decide, Or.inl ⟨_, _, _, _, _, by rw [itO, if_pos k0]⟩⟩
  · exact Or.inr ⟨by rw [k0]; decide, Or.inl ⟨_, _, _, _, _, by rw [itO, if_neg (by rw [k0]; decide), if_pos k0]⟩⟩
  · exact Or.inr ⟨by rw [k0]; decide, Or.inr ⟨_, by rw [itO, if_neg (by rw [k0]; decide), if_neg (by rw [k0]; decide), if_neg (by rw [k0]; decide)]⟩⟩
  · exact Or.inr ⟨by rw [k0]; decide, Or.inr ⟨_, by rw [itO, if_neg (by rw [k0]; decide), if_neg (by rw [k0]; decide), if_neg (by rw [k0]; decide)]⟩⟩
  · exact Or.inl ⟨k0, g1, _, _, _, _, _, by rw [itO, if_neg (by rw [k0]; decide), if_neg (by rw [k0]; decide), if_pos k0]⟩
theorem dL_le {V : Wd} {c k0 n : Nat} (hv : ∀ i, i < n → itV V c (k0 + i)) (hb : ∀ b, b < c → 1 ≤ (wA V 8 b).toInt ∧ (wA V 8 b).toInt ≤ 10) : ∀ i, i ≤ n → (0 ≤ (dL V k0 i).toInt ∧ (dL V k0 i).toInt ≤ 10) ∧ ∀ j, j < i → wK V (k0 + j) = 4 → (wA V 8 (wI V (k0 + j))).toInt ≤ (dL V k0 i).toInt
  | 0, _ => ⟨⟨Int.le_refl _, (show (0 : Int32).toInt ≤ 10 by decide)⟩, fun j hj => absurd hj (Nat.not_lt_zero j)⟩
  | i + 1, hi => by
    obtain ⟨⟨a1, a2⟩, a3⟩ := dL_le hv hb i (by omega)
    rw [dL]
    by_cases k4 : wK V (k0 + i) = 4
    · have hw : wI V (k0 + i) < c := by
        rcases kd_box (ad := fun _ => 0) (hv i (by omega)) with q | q
        · exact q.2.1
        · exact absurd k4 q.1
      have hw2 := hb _ hw
      rw [if_pos k4]
      by_cases q : dL V k0 i < wA V 8 (wI V (k0 + i))
      · rw [if_pos q]
        have q2 := Int32.lt_iff_toInt_lt.mp q
        refine ⟨by omega, fun j hj h4 => ?_⟩
        by_cases e : j = i
        · subst e; exact Int.le_refl _
        · exact Int.le_trans (a3 j (by omega) h4) (by omega)
      · rw [if_neg q]
        have q2 : ¬ (dL V k0 i).toInt < (wA V 8 (wI V (k0 + i))).toInt := fun n => q (Int32.lt_iff_toInt_lt.mpr n)
        refine ⟨⟨a1, a2⟩, fun j hj h4 => ?_⟩
        by_cases e : j = i
        · subst e; omega
        · exact a3 j (by omega) h4
    · have q : ¬ dL V k0 i < 0 := fun n => by
        have := Int32.lt_iff_toInt_lt.mp n
        rw [show (0 : Int32).toInt = 0 by decide] at this
        omega
      rw [if_neg k4, if_neg q]
      refine ⟨⟨a1, a2⟩, fun j hj h4 => ?_⟩
      by_cases e : j = i
      · subst e; exact absurd h4 k4
      · exact a3 j (by omega) h4
theorem cL_le {V : Wd} {c k0 n : Nat} (hn : n ≤ 100) (hv : ∀ i, i < n → itV V c (k0 + i)) (hb : ∀ b, b < c → 0 ≤ (wA V 9 b).toInt ∧ (wA V 9 b).toInt ≤ 1000000) : ∀ i, i ≤ n → 0 ≤ (cL V k0 n i).toInt ∧ (cL V k0 n i).toInt ≤ 100 + 1000000 * (i : Int)
  | 0, _ => by
    rw [cL, Int32.toInt_toInt64, nI_toInt (by omega)]
    omega
  | i + 1, hi => by
    obtain ⟨a1, a2⟩ := cL_le hn hv hb i (by omega)
    rw [cL]
    split
    · rename_i k4
      have hw : wI V (k0 + i) < c := by
        rcases kd_box (ad := fun _ => 0) (hv i (by omega)) with q | q
        · exact q.2.1
        · exact absurd k4 q.1
      have hw2 := hb _ hw
      rw [Int64.toInt_add, Int32.toInt_toInt64, Int.bmod_eq_of_le (by omega) (by omega)]
      omega
    · omega
theorem init_sim {V : Wd} {ad : Nat → Nat} {bi : Nat → Int32 × Int32} {c k0 n : Nat} (hn : n ≤ 100) (hv : ∀ i, i < n → itV V c (k0 + i)) (hb8 : ∀ b, b < c → 1 ≤ (wA V 8 b).toInt ∧ (wA V 8 b).toInt ≤ 10) (hb9 : ∀ b, b < c → 0 ≤ (wA V 9 b).toInt ∧ (wA V 9 b).toInt ≤ 1000000) (hbi : ∀ b, b < c → bi (ad b) = (wA V 8 b, wA V 9 b)) : ∀ (k i : Nat) (dp al : Int32), i + k = n → dp = dL V k0 i + 1 → al.toInt = (if 1000000 < (cL V k0 n i).toInt then 1000000 else (cL V k0 n i).toInt) →
    ∃ al' : Int32, initF bi (fun i => itO V ad (k0 + i)) k i dp al = (dL V k0 n + 1, al') ∧ al'.toInt = (if 1000000 < (cL V k0 n n).toInt then 1000000 else (cL V k0 n n).toInt)
  | 0, i, dp, al, hik, hd, ha => by
    have e : i = n := by omega
    subst e
    exact ⟨al, by rw [initF, hd], ha⟩
  | k + 1, i, dp, al, hik, hd, ha => by
    have hi := hv i (by omega)
    obtain ⟨⟨d1, d2⟩, -⟩ := dL_le hv hb8 i (by omega)
    obtain ⟨c1, c2⟩ := cL_le hn hv hb9 i (by omega)
    rcases kd_box (ad := ad) hi with ⟨k4, w4, t, w, h, d, z, e4⟩ | ⟨k4, ⟨t, w, h, d, z, e4⟩ | ⟨z, e4⟩⟩
    · simp only [initF, e4, hbi _ w4]
      have x8 := hb8 _ w4
      have x9 := hb9 _ w4
      refine init_sim hn hv hb8 hb9 hbi k (i + 1) _ _ (by omega) ?_ ?_
      · rw [hd, mx, dL, if_pos k4]
        have p1 : (dL V k0 i + 1).toInt = (dL V k0 i).toInt + 1 := by rw [Int32.toInt_add, show (1 : Int32).toInt = 1 by decide, Int.bmod_eq_of_le (by omega) (by omega)]
        have p2 : (wA V 8 (wI V (k0 + i)) + 1).toInt = (wA V 8 (wI V (k0 + i))).toInt + 1 := by rw [Int32.toInt_add, show (1 : Int32).toInt = 1 by decide, Int.bmod_eq_of_le (by omega) (by omega)]
        have p3 : (dL V k0 i + 1 < wA V 8 (wI V (k0 + i)) + 1) ↔ (dL V k0 i < wA V 8 (wI V (k0 + i))) := by
          rw [Int32.lt_iff_toInt_lt, Int32.lt_iff_toInt_lt, p1, p2]; omega
        by_cases q : dL V k0 i < wA V 8 (wI V (k0 + i))
        · rw [if_pos q, if_pos (p3.mpr q)]
        · rw [if_neg q, if_neg (fun n => q (p3.mp n))]
      · have p1 : (al + wA V 9 (wI V (k0 + i))).toInt = al.toInt + (wA V 9 (wI V (k0 + i))).toInt := by
          rw [Int32.toInt_add, Int.bmod_eq_of_le (by rw [ha]; split <;> omega) (by rw [ha]; split <;> omega)]
        have p2 : (cL V k0 n (i + 1)).toInt = (cL V k0 n i).toInt + (wA V 9 (wI V (k0 + i))).toInt := by
          rw [cL, if_pos k4, Int64.toInt_add, Int32.toInt_toInt64, Int.bmod_eq_of_le (by omega) (by omega)]
        have p3 : (al + wA V 9 (wI V (k0 + i)) < 1000000) ↔ al.toInt + (wA V 9 (wI V (k0 + i))).toInt < 1000000 := by
          rw [Int32.lt_iff_toInt_lt, p1, show (1000000 : Int32).toInt = 1000000 by decide]
        rw [mn6, p2]
        by_cases q : al.toInt + (wA V 9 (wI V (k0 + i))).toInt < 1000000
        · rw [if_pos (p3.mpr q), p1]
          rw [ha] at q ⊢
          split at q
          · omega
          · rename_i q2; rw [if_neg q2, if_neg (by omega)]
        · rw [if_neg (fun n => q (p3.mp n)), show (1000000 : Int32).toInt = 1000000 by decide]
          rw [ha] at q
          split at q
          · rename_i q2; rw [if_pos (by omega)]
          · split <;> omega
    · simp only [initF, e4]
      refine init_sim hn hv hb8 hb9 hbi k (i + 1) _ _ (by omega) ?_ ?_
      · have q : ¬ dL V k0 i < 0 := fun n => by
          have := Int32.lt_iff_toInt_lt.mp n
          rw [show (0 : Int32).toInt = 0 by decide] at this
          omega
        rw [hd, dL, if_neg k4, if_neg q]
      · rw [cL, if_neg k4]; exact ha
    · simp only [initF, e4]
      refine init_sim hn hv hb8 hb9 hbi k (i + 1) _ _ (by omega) ?_ ?_
      · have q : ¬ dL V k0 i < 0 := fun n => by
          have := Int32.lt_iff_toInt_lt.mp n
          rw [show (0 : Int32).toInt = 0 by decide] at this
          omega
        rw [hd, dL, if_neg k4, if_neg q]
      · rw [cL, if_neg k4]; exact ha
theorem cA9_int {V : Wd} {c k0 n : Nat} (hn : n ≤ 100) (hv : ∀ i, i < n → itV V c (k0 + i)) (hb9 : ∀ b, b < c → 0 ≤ (wA V 9 b).toInt ∧ (wA V 9 b).toInt ≤ 1000000) : (cA9 V k0 n).toInt = (if 1000000 < (cL V k0 n n).toInt then 1000000 else (cL V k0 n n).toInt) ∧ 0 ≤ (cA9 V k0 n).toInt ∧ (cA9 V k0 n).toInt ≤ 1000000 := by
  obtain ⟨c1, c2⟩ := cL_le hn hv hb9 n (Nat.le_refl n)
  have e : (cA9 V k0 n).toInt = (if 1000000 < (cL V k0 n n).toInt then 1000000 else (cL V k0 n n).toInt) := by
    rw [cA9]
    have p : (1000000 < cL V k0 n n) ↔ 1000000 < (cL V k0 n n).toInt := by rw [Int64.lt_iff_toInt_lt]; rfl
    by_cases q : 1000000 < (cL V k0 n n).toInt
    · rw [if_pos q, if_pos (p.mpr q)]; rfl
    · rw [if_neg q, if_neg (fun n => q (p.mp n)), Int64.toInt_toInt32, Int.bmod_eq_of_le (by omega) (by omega)]
  refine ⟨e, ?_, ?_⟩ <;> rw [e] <;> split <;> omega
theorem init_all {V : Wd} {ad : Nat → Nat} {bi : Nat → Int32 × Int32} {c k0 n : Nat} (hn : n ≤ 100) (hv : ∀ i, i < n → itV V c (k0 + i)) (hb8 : ∀ b, b < c → 1 ≤ (wA V 8 b).toInt ∧ (wA V 8 b).toInt ≤ 10) (hb9 : ∀ b, b < c → 0 ≤ (wA V 9 b).toInt ∧ (wA V 9 b).toInt ≤ 1000000) (hbi : ∀ b, b < c → bi (ad b) = (wA V 8 b, wA V 9 b)) : initF bi (fun i => itO V ad (k0 + i)) n 0 1 (nI n) = (dL V k0 n + 1, cA9 V k0 n) := by
  have h0 : (cL V k0 n 0).toInt = n := by rw [cL, Int32.toInt_toInt64, nI_toInt (by omega)]
  obtain ⟨al, a1, a2⟩ := init_sim (ad := ad) hn hv hb8 hb9 hbi n 0 1 (nI n) (by omega) (by rw [dL]; rfl) (by rw [h0, if_neg (by omega), nI_toInt (by omega)])
  rw [a1]
  rw [← (cA9_int hn hv hb9).1] at a2
  rw [Int32.toInt_inj.mp a2]
theorem dL_10 {V : Wd} {c k0 n : Nat} (hv : ∀ i, i < n → itV V c (k0 + i)) (hb8 : ∀ b, b < c → 1 ≤ (wA V 8 b).toInt ∧ (wA V 8 b).toInt ≤ 10) : (10 < dL V k0 n + 1 ↔ dL V k0 n = 10) ∧ (dL V k0 n + 1).toInt = (dL V k0 n).toInt + 1 := by
  obtain ⟨⟨d1, d2⟩, -⟩ := dL_le hv hb8 n (Nat.le_refl n)
  have p1 : (dL V k0 n + 1).toInt = (dL V k0 n).toInt + 1 := by rw [Int32.toInt_add, show (1 : Int32).toInt = 1 by decide, Int.bmod_eq_of_le (by omega) (by omega)]
  refine ⟨?_, p1⟩
  rw [Int32.lt_iff_toInt_lt, p1, show (10 : Int32).toInt = 10 by decide]
  constructor
  · intro q; exact Int32.toInt_inj.mp (by rw [show (10 : Int32).toInt = 10 by decide]; omega)
  · intro q; rw [q]; decide
