/-! ===== words that stay true in warmer tables, over the same cells below ===== -/
def hv_st : Cond → Bool
  | .fieldLinkNest .. => true
  | .methodLinkNest .. => true
  | .arrayOver (.object _) => true
  | w => goodWord w || (w.onTables && w.keepsCast)
theorem hv_stay {s V : State} {A A' : Array Value} (hW : s.WarmedH V.vm) : ∀ w : Cond, hv_st w = true → w.before A s = true → w.before A' V = true := by
  intro w hw h
  have key : ∀ w : Cond, (goodWord w || (w.onTables && w.keepsCast)) = true → w.before A s = true → w.before A' V = true := by
    intro w hw h
    simp only [Bool.or_eq_true, Bool.and_eq_true] at hw
    rcases hw with hw | ⟨h1, h2⟩
    · exact word_at hW (good_of_word hw) h
    · exact va_tabs h1 (rfl : (s.setVm V.vm).vm = V.vm) (Cond.before_shiftedCast (State.Shifted.of_warmed hW) w h2 h)
  cases w with
  | fieldLinkNest a i b n d h9 => exact va_tabs rfl (rfl : (s.setVm V.vm).vm = V.vm) (Cond.fieldLinkNest_warmed hW h)
  | methodLinkNest a i x h9 => exact va_tabs rfl (rfl : (s.setVm V.vm).vm = V.vm) (Cond.methodLinkNest_warmed hW h)
  | arrayOver t =>
    cases t with
    | object C => exact va_AO.use (va_AO.moved hW.alike (va_AO.of h))
    | _ => exact key _ hw h
  | _ => exact key _ hw h
/-- where a static field lies: a cell below b0 -/
theorem hv_stayL {s V : State} {A A' : Array Value} {b0 : Nat} {C n d : String} (hW : s.WarmedH V.vm) (hb : s.heap.size ≤ b0) (hq : ∀ q : Nat, q < b0 → V.heap[q]? = s.heap[q]?) (h : (Cond.laysStatic C n d).before A s = true) : (Cond.laysStatic C n d).before A' V = true := by
  obtain ⟨c, k, i, f, a, cell, h1, h2, h3, h4, h5, h6, h7, h8, h9⟩ := Cond.laysStatic_spec h
  obtain ⟨k', hi', he⟩ := State.fieldFound?_setVm hW.alike h2
  have hlt : a < s.heap.size := (Array.getElem?_eq_some_iff.mp h5).1
  show (Cond.laysStatic C n d).holds A' V none V [] = true
  exact Cond.laysStatic_of (by rw [hW.alike.findClass]; exact h1) hi' h3 (by rw [he]; exact h4) (by rw [hq a (Nat.lt_of_lt_of_le hlt hb)]; exact h5) h6 h7 h8 (by rw [he]; exact h9)
/-- .. and it holds a reference, or null -/
theorem hv_stayR {s V : State} {A A' : Array Value} {b0 : Nat} {C n d : String} (hW : s.WarmedH V.vm) (hb : s.heap.size ≤ b0) (hq : ∀ q : Nat, q < b0 → V.heap[q]? = s.heap[q]?) (hl : (Cond.laysStatic C n d).before A s = true) (h : (Cond.isRef (.static C n d)).before A s = true) : (Cond.isRef (.static C n d)).before A' V = true := by
  obtain ⟨c, k, i, f, a, cell, h1, h2, h3, h4, h5, h6, h7, h8, h9⟩ := Cond.laysStatic_spec hl
  obtain ⟨k', hi', he⟩ := State.fieldFound?_setVm hW.alike h2
  have hlt : a < s.heap.size := (Array.getElem?_eq_some_iff.mp h5).1
  cases hv : (Term.static C n d).eval A s none [] s with
  | none => simp [Cond.before, Cond.holds, Cond.value, hv] at h
  | some w =>
    obtain ⟨-, a', cell', ha', hcell', -, hslot⟩ := Term.static_spec h2 hv
    cases h4.symm.trans ha'
    cases h5.symm.trans hcell'
    have h5' : V.heap[a]? = some cell := by rw [hq a (Nat.lt_of_lt_of_le hlt hb)]; exact h5
    have h4' : k'.statics = some a := by rw [he]; exact h4
    have hi2 : V.fieldFound? C n d = some (c, k', i, f) := hi'
    have hv' : (Term.static C n d).eval A' V none [] V = some w := by
      simp [Term.eval, State.fieldNamed?, hi2, h3, h4', h5', h6, hslot]
    simp only [Cond.before, Cond.holds, Cond.value, hv] at h
    simp only [Cond.before, Cond.holds, Cond.value, hv']
    exact h
