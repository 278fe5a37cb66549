/-! the item t -/
theorem rdl_len {T : Nat → Nat} {n : Nat} : ∀ {m k : Nat} {l : List Nat} {k' : Nat}, rdl T n m k = some (l, k') → l.length = m := by
  intro m
  induction m with
  | zero => intro k l k' h; cases h; rfl
  | succ m ih =>
    intro k l k' h
    have h2 : (match rd T n k (if m = 0 then 59 else 44) with
      | some (v, k') => match rdl T n m k' with
        | some (l, k'') => some (v :: l, k'')
        | none => none
      | none => none) = some (l, k') := h
    cases hr : rd T n k (if m = 0 then 59 else 44) with
    | none => rw [hr] at h2; cases h2
    | some vk =>
      obtain ⟨v, k1⟩ := vk
      rw [hr] at h2
      simp only at h2
      cases hr2 : rdl T n m k1 with
      | none => rw [hr2] at h2; cases h2
      | some lk =>
        obtain ⟨l1, k2⟩ := lk
        rw [hr2] at h2
        cases h2
        rw [List.length_cons, ih hr2]
/-- a good item t: its numbers and the place behind -/
def goodT (T : Nat → Nat) (n k T0 a b c d k' : Nat) : Prop := rdl T n 4 (k + 1) = some ([a, b, c, d], k') ∧ T0 < 8 ∧ a ≤ 4 ∧ b ≤ 9 ∧ c ≤ 5 ∧ d ≤ 7
theorem item_t_class {T : Nat → Nat} {n L N : Nat} {text : Nat → Int32} (ht : Tx T n text) (hn : n ≤ L) (hL : L < 2 ^ 20) (hN : 100 ≤ N) {k : Nat} (hk : k < n) {T0 : Nat} (h8 : T0 ≤ 8) (helpers askedFirst crumbsFirst lastDay : Int32) (kinds days rideDays helpKinds nexts helperKinds prices masks numbers : Nat → Int32) (hc : T k = 116) : (∃ cr, m_X0_readItem N (nI T0) helpers askedFirst crumbsFirst lastDay kinds days rideDays helpKinds nexts helperKinds prices masks numbers L text (nI n) (nI k) = some cr ∧ cr.1 = -2 ∧ ∀ a b c d k', ¬ goodT T n k T0 a b c d k') ∨ ∃ a b c d k' num', goodT T n k T0 a b c d k' ∧ k < k' ∧ k' ≤ n ∧ m_X0_readItem N (nI T0) helpers askedFirst crumbsFirst lastDay kinds days rideDays helpKinds nexts helperKinds prices masks numbers L text (nI n) (nI k) = some (nI k', nI (T0 + 1), helpers, askedFirst, crumbsFirst, lastDay, upd kinds T0 (nI a), upd days T0 (nI b), upd rideDays T0 (nI (if a = 2 then 0 else b)), upd helpKinds T0 (nI c), upd nexts T0 (nI d), helperKinds, prices, masks, num') := by
  have h1 := xX0_readItem ht hn hL hN hk (nI T0) helpers askedFirst crumbsFirst lastDay kinds days rideDays helpKinds nexts helperKinds prices masks numbers
  have hwb : wb 116 = 4 := by decide
  rw [hc, hwb] at h1
  cases hr : rdl T n 4 (k + 1) with
  | none =>
    rw [hr] at h1
    obtain ⟨num', g5⟩ := h1
    left
    refine ⟨_, g5, rfl, fun a b c d k' z => ?_⟩
    have := z.1
    rw [hr] at this
    cases this
  | some lk =>
    obtain ⟨l, k'⟩ := lk
    have hl := rdl_len hr
    rw [hr] at h1
    obtain ⟨num', -, g2, g3, g4, g5⟩ := h1
    match l, hl, g2 with
    | [a, b, c, d], _, g2 =>
      have ga := g2 0 (by simp)
      have gb := g2 1 (by simp)
      have gc := g2 2 (by simp)
      have gd := g2 3 (by simp)
      have ga1 : num' 0 = nI a := ga.1
      have gn : m_X5_numberAt 4 num' (0 : Int32) = some (nI a) := by rw [show (0 : Int32) = nI 0 from rfl, numberAt_is (by decide), ga1]
      have htt := xX0_takeTask (T := T0) (a := a) (b := b) (c := c) (d := d) h8 ga.2 gb.2 gc.2 gd.2 (kinds := kinds) (days := days) (rideDays := rideDays) (helpKinds := helpKinds) (nexts := nexts) ga.1 gb.1 gc.1 gd.1
      unfold m_X0_takeItem at g5
      rw [gn, Option.bind_some, if_neg (show ¬ nI 116 = (97 : Int32) by decide), if_neg (show ¬ nI 116 = (99 : Int32) by decide), if_neg (show ¬ nI 116 = (104 : Int32) by decide), if_neg (show ¬ nI 116 = (108 : Int32) by decide), if_pos (show nI 116 = (116 : Int32) from rfl), htt] at g5
      by_cases hok : T0 < 8 ∧ a ≤ 4 ∧ b ≤ 9 ∧ c ≤ 5 ∧ d ≤ 7
      · right
        rw [if_pos hok, Option.bind_some] at g5
        simp only at g5
        rw [if_pos (show isB (1 : Int32) by decide), Option.bind_some] at g5
        simp only at g5
        rw [if_neg n10] at g5
        exact ⟨a, b, c, d, k', num', ⟨hr, hok⟩, by omega, g4 (by decide), g5⟩
      · left
        rw [if_neg hok, Option.bind_some] at g5
        simp only at g5
        rw [if_pos (show isB (0 : Int32) by decide), Option.bind_some, if_pos (show (0 : Int32) = 0 from rfl)] at g5
        refine ⟨_, g5, rfl, fun a' b' c' d' k2 z => ?_⟩
        have z1 := z.1
        rw [hr] at z1
        cases z1
        exact hok z.2
