/-! one item, in the class: its name, its numbers, then what is taken -/
def wb (c : Nat) : Nat := if c = 97 then 1 else if c = 99 then 1 else if c = 104 then 2 else if c = 108 then 1 else if c = 116 then 4 else 0
theorem wb_le (c : Nat) : wb c ≤ 4 := by
  unfold wb
  repeat' split
  all_goals omega
theorem nI_lit {c k : Nat} (hc : c < 1000) (hk : k < 1000) : (nI c = nI k) ↔ c = k := eq_letter hc hk
theorem xX0_numbersBehind {c : Nat} (hc : c < 1000) : m_X0_numbersBehind (nI c) = some (nI (wb c)) := by
  unfold m_X0_numbersBehind wb
  have e1 : (nI c = (97 : Int32)) ↔ c = 97 := eq_letter (e := 97) hc (by decide)
  have e2 : (nI c = (99 : Int32)) ↔ c = 99 := eq_letter (e := 99) hc (by decide)
  have e3 : (nI c = (104 : Int32)) ↔ c = 104 := eq_letter (e := 104) hc (by decide)
  have e4 : (nI c = (108 : Int32)) ↔ c = 108 := eq_letter (e := 108) hc (by decide)
  have e5 : (nI c = (116 : Int32)) ↔ c = 116 := eq_letter (e := 116) hc (by decide)
  simp only [e1, e2, e3, e4, e5]
  repeat' split
  all_goals rfl
theorem xX0_readItem {T : Nat → Nat} {n L N : Nat} {text : Nat → Int32} (ht : Tx T n text) (hn : n ≤ L) (hL : L < 2 ^ 20) (hN : 100 ≤ N) {k : Nat} (hk : k < n) (tasks helpers askedFirst crumbsFirst lastDay : Int32) (kinds days rideDays helpKinds nexts helperKinds prices masks numbers : Nat → Int32) : match rdl T n (wb (T k)) (k + 1) with
    | some (l, k') => ∃ num', l.length = wb (T k) ∧ (∀ (i : Nat) (h : i < l.length), num' i = nI l[i] ∧ l[i] ≤ 99) ∧ k < k' ∧ (wb (T k) ≠ 0 → k' ≤ n) ∧ m_X0_readItem N tasks helpers askedFirst crumbsFirst lastDay kinds days rideDays helpKinds nexts helperKinds prices masks numbers L text (nI n) (nI k) = (m_X0_takeItem tasks helpers askedFirst crumbsFirst lastDay kinds days rideDays helpKinds nexts helperKinds prices masks num' (nI (T k))).bind fun r21 => if r21.1 = 0 then
        some ((-2 : Int32), r21.2.1, r21.2.2.1, r21.2.2.2.1, r21.2.2.2.2.1, r21.2.2.2.2.2.1, r21.2.2.2.2.2.2.1, r21.2.2.2.2.2.2.2.1, r21.2.2.2.2.2.2.2.2.1, r21.2.2.2.2.2.2.2.2.2.1, r21.2.2.2.2.2.2.2.2.2.2.1, r21.2.2.2.2.2.2.2.2.2.2.2.1, r21.2.2.2.2.2.2.2.2.2.2.2.2.1, r21.2.2.2.2.2.2.2.2.2.2.2.2.2, num')
      else
        some (nI k', r21.2.1, r21.2.2.1, r21.2.2.2.1, r21.2.2.2.2.1, r21.2.2.2.2.2.1, r21.2.2.2.2.2.2.1, r21.2.2.2.2.2.2.2.1, r21.2.2.2.2.2.2.2.2.1, r21.2.2.2.2.2.2.2.2.2.1, r21.2.2.2.2.2.2.2.2.2.2.1, r21.2.2.2.2.2.2.2.2.2.2.2.1, r21.2.2.2.2.2.2.2.2.2.2.2.2.1, r21.2.2.2.2.2.2.2.2.2.2.2.2.2, num')
    | none => ∃ num', m_X0_readItem N tasks helpers askedFirst crumbsFirst lastDay kinds days rideDays helpKinds nexts helperKinds prices masks numbers L text (nI n) (nI k) = some ((-2 : Int32), tasks, helpers, askedFirst, crumbsFirst, lastDay, kinds, days, rideDays, helpKinds, nexts, helperKinds, prices, masks, num') := by
  have hw := wb_le (T k)
  have hloop := xX0_readItem_loop ht hn hL (w := wb (T k)) hw (wb (T k)) 0 (k + 1) N numbers (by omega) (by omega) (by omega)
  unfold m_X0_readItem
  rw [xX0_letterAt ht hn (by omega) (by omega), Option.bind_some, if_pos hk, xX0_numbersBehind (ht k hk).2, Option.bind_some, nI_1]
  cases hr : rdl T n (wb (T k)) (k + 1) with
  | none =>
    rw [hr] at hloop
    obtain ⟨x, hx⟩ := hloop
    have hx' : lp_X0_readItem_23 (nI n) (nI (wb (T k))) L text N (nI (k + 1)) (0 : Int32) numbers = some (Sum.inr x) := hx
    simp only
    rw [hx', Option.bind_some, Sum.elim_inr]
    cases x with
    | inl y => exact ⟨y, rfl⟩
    | inr y => exact ⟨y, rfl⟩
  | some lk =>
    obtain ⟨l, k'⟩ := lk
    rw [hr] at hloop
    obtain ⟨num', g1, g2, g3, -, g5, g6⟩ := hloop
    have g1' : lp_X0_readItem_23 (nI n) (nI (wb (T k))) L text N (nI (k + 1)) (0 : Int32) numbers = some (Sum.inl (nI k', num')) := g1
    simp only
    refine ⟨num', g2, fun i h => ?_, by omega, fun q => (g6 q).2, ?_⟩
    · have := g3 i h
      rw [Nat.zero_add] at this
      exact this
    · rw [g1', Option.bind_some, Sum.elim_inl]
