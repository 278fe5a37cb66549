/-! one item, on both sides -/
abbrev CR : Type := Int32 × Int32 × Int32 × Int32 × Int32 × Int32 × (Nat → Int32) × (Nat → Int32) × (Nat → Int32) × (Nat → Int32) × (Nat → Int32) × (Nat → Int32) × (Nat → Int32) × (Nat → Int32) × (Nat → Int32)
/-- both fail, or both go on to the same place, told the same -/
def Itm (n k : Nat) (cr : CR) (mr : Int32 × Int32 × (Nat → Int32)) : Prop := (¬ nI k < cr.1 ∧ mr.1 = 0) ∨ ∃ k' δ', k < k' ∧ k' ≤ n ∧ cr.1 = nI k' ∧ mr.1 = 1 ∧ mr.2.1 = nI k' ∧ DrI δ' cr.2.1 cr.2.2.1 cr.2.2.2.1 cr.2.2.2.2.1 cr.2.2.2.2.2.1 cr.2.2.2.2.2.2.1 cr.2.2.2.2.2.2.2.1 cr.2.2.2.2.2.2.2.2.1 cr.2.2.2.2.2.2.2.2.2.1 cr.2.2.2.2.2.2.2.2.2.2.1 cr.2.2.2.2.2.2.2.2.2.2.2.1 cr.2.2.2.2.2.2.2.2.2.2.2.2.1 cr.2.2.2.2.2.2.2.2.2.2.2.2.2.1 mr.2.2
theorem not_m2 (k : Nat) (hk : k < 2 ^ 30) : ¬ nI k < (-2 : Int32) := fun z => by
  have h0 : ¬ nI k < 0 := nI_pos (by omega)
  exact h0 (Int32.lt_trans z (by decide))
theorem item_c {T : Nat → Nat} {n L N : Nat} {text mtext : Nat → Int32} (ht : Tx T n text) (htm : Tx T n mtext) (hn : n ≤ L) (hn2 : n ≤ 200) (hL : L < 2 ^ 20) (hN : 100 ≤ N) {k : Nat} (hk : k < n) {δ : Td} {tasks helpers askedFirst crumbsFirst lastDay : Int32} {kinds days rideDays helpKinds nexts helperKinds prices masks draft : Nat → Int32} (hd : DrI δ tasks helpers askedFirst crumbsFirst lastDay kinds days rideDays helpKinds nexts helperKinds prices masks draft) (numbers : Nat → Int32) (hc : T k = 99) : ∃ cr mr, m_X0_readItem N tasks helpers askedFirst crumbsFirst lastDay kinds days rideDays helpKinds nexts helperKinds prices masks numbers L text (nI n) (nI k) = some cr ∧ m_X6_readsItem (nI n) (nI (k + 1)) mtext draft (nI (T k)) = some mr ∧ Itm n k cr mr := by
  have h1 := xX0_readItem ht hn hL hN hk tasks helpers askedFirst crumbsFirst lastDay kinds days rideDays helpKinds nexts helperKinds prices masks numbers
  rw [hc] at h1 ⊢
  have hwb : wb 99 = 1 := by decide
  rw [hwb, rdl_1] at h1
  unfold m_X6_readsItem
  rw [if_neg (show ¬ nI 99 = (97 : Int32) by decide), if_pos (show nI 99 = (99 : Int32) from rfl)]
  rcases num_cases htm hn2 (k := k + 1) (e := 59) (by omega) (by decide) 0 99 with ⟨v, k', hr, hv, hk1, hk2, hin⟩ | ⟨hr, at', hnum⟩
  · rw [hr] at h1
    obtain ⟨num', -, g2, g3, -, g5⟩ := h1
    have gv : num' 0 = nI v := (g2 0 (Nat.succ_pos 0)).1
    have gn : m_X5_numberAt 4 num' (0 : Int32) = some (nI v) := by rw [show (0 : Int32) = nI 0 from rfl, numberAt_is (by decide), gv]
    have hinv : m_X6_in (nI v) 0 99 = some 1 := by
      have := in_nat (v := v) (lo := 0) (hi := 99) (by omega) (by decide) (by decide)
      rw [if_pos (by omega)] at this
      exact this
    have hnum : m_X6_number (nI n) (nI (k + 1)) mtext 0 99 (59 : Int32) = some (nI v, nI k') := by
      rcases hin with ⟨q, -⟩ | ⟨-, q⟩
      · rw [hinv] at q; cases q
      · exact q
    rw [hnum, Option.bind_some, g5]
    unfold m_X0_takeItem
    rw [gn, Option.bind_some, if_neg (show ¬ nI 99 = (97 : Int32) by decide), if_pos (show nI 99 = (99 : Int32) from rfl), if_neg (show ¬ (99 : Int32) < nI v from nI_nlt (a := 99) (by omega) (by decide)), Option.bind_some]
    simp only
    rw [if_neg n10, if_neg (nI_pos (by omega))]
    obtain ⟨δ', hδ'⟩ := hd.crumbs hv
    exact ⟨_, _, rfl, rfl, Or.inr ⟨k', δ', by omega, hk2, rfl, rfl, rfl, hδ'⟩⟩
  · rw [hr] at h1
    obtain ⟨num', g5⟩ := h1
    have hnum' : m_X6_number (nI n) (nI (k + 1)) mtext 0 99 (59 : Int32) = some (-1, at') := hnum
    rw [hnum', Option.bind_some, g5, if_pos (show (-1 : Int32) < 0 by decide)]
    exact ⟨_, _, rfl, rfl, Or.inl ⟨not_m2 k (by omega), rfl⟩⟩
theorem item_l {T : Nat → Nat} {n L N : Nat} {text mtext : Nat → Int32} (ht : Tx T n text) (htm : Tx T n mtext) (hn : n ≤ L) (hn2 : n ≤ 200) (hL : L < 2 ^ 20) (hN : 100 ≤ N) {k : Nat} (hk : k < n) {δ : Td} {tasks helpers askedFirst crumbsFirst lastDay : Int32} {kinds days rideDays helpKinds nexts helperKinds prices masks draft : Nat → Int32} (hd : DrI δ tasks helpers askedFirst crumbsFirst lastDay kinds days rideDays helpKinds nexts helperKinds prices masks draft) (numbers : Nat → Int32) (hc : T k = 108) : ∃ cr mr, m_X0_readItem N tasks helpers askedFirst crumbsFirst lastDay kinds days rideDays helpKinds nexts helperKinds prices masks numbers L text (nI n) (nI k) = some cr ∧ m_X6_readsItem (nI n) (nI (k + 1)) mtext draft (nI (T k)) = some mr ∧ Itm n k cr mr := by
  have h1 := xX0_readItem ht hn hL hN hk tasks helpers askedFirst crumbsFirst lastDay kinds days rideDays helpKinds nexts helperKinds prices masks numbers
  rw [hc] at h1 ⊢
  have hwb : wb 108 = 1 := by decide
  rw [hwb, rdl_1] at h1
  unfold m_X6_readsItem
  rw [if_neg (show ¬ nI 108 = (97 : Int32) by decide), if_neg (show ¬ nI 108 = (99 : Int32) by decide), if_neg (show ¬ nI 108 = (104 : Int32) by decide), if_pos (show nI 108 = (108 : Int32) from rfl)]
  rcases num_cases htm hn2 (k := k + 1) (e := 59) (by omega) (by decide) 1 60 with ⟨v, k', hr, hv, hk1, hk2, hin⟩ | ⟨hr, at', hnum⟩
  · rw [hr] at h1
    obtain ⟨num', -, g2, g3, -, g5⟩ := h1
    have gv : num' 0 = nI v := (g2 0 (Nat.succ_pos 0)).1
    have gn : m_X5_numberAt 4 num' (0 : Int32) = some (nI v) := by rw [show (0 : Int32) = nI 0 from rfl, numberAt_is (by decide), gv]
    have hinv : m_X6_in (nI v) 1 60 = some (if 1 ≤ v ∧ v ≤ 60 then 1 else 0) := in_nat (v := v) (lo := 1) (hi := 60) (by omega) (by decide) (by decide)
    rw [g5]
    unfold m_X0_takeItem
    rw [gn, Option.bind_some, if_neg (show ¬ nI 108 = (97 : Int32) by decide), if_neg (show ¬ nI 108 = (99 : Int32) by decide), if_neg (show ¬ nI 108 = (104 : Int32) by decide), if_pos (show nI 108 = (108 : Int32) from rfl)]
    by_cases hok : 1 ≤ v ∧ v ≤ 60
    · rw [if_pos hok] at hinv
      have hnum : m_X6_number (nI n) (nI (k + 1)) mtext 1 60 (59 : Int32) = some (nI v, nI k') := by
        rcases hin with ⟨q, -⟩ | ⟨-, q⟩
        · rw [hinv] at q; cases q
        · exact q
      rw [hnum, Option.bind_some, if_neg (show ¬ nI v < (1 : Int32) from nI_nlt (b := 1) (by omega) (by omega)), if_neg (show ¬ (60 : Int32) < nI v from nI_nlt (a := 60) (by omega) (by decide)), Option.bind_some]
      simp only
      rw [if_neg n10, if_neg (show ¬ nI v ≤ 0 from nI_nle (by omega) (by omega))]
      obtain ⟨δ', hδ'⟩ := hd.last hok.1 hok.2
      exact ⟨_, _, rfl, rfl, Or.inr ⟨k', δ', by omega, hk2, rfl, rfl, rfl, hδ'⟩⟩
    · rw [if_neg hok] at hinv
      have hnum : m_X6_number (nI n) (nI (k + 1)) mtext 1 60 (59 : Int32) = some (-1, nI k') := by
        rcases hin with ⟨-, q⟩ | ⟨q, -⟩
        · exact q
        · rw [hinv] at q; cases q
      rw [hnum, Option.bind_some, if_pos (show (-1 : Int32) ≤ 0 by decide)]
      by_cases q : v < 1
      · rw [if_pos (show nI v < (1 : Int32) from nI_lt (b := 1) q (by decide)), Option.bind_some, if_pos (show (0 : Int32) = 0 from rfl)]
        exact ⟨_, _, rfl, rfl, Or.inl ⟨not_m2 k (by omega), rfl⟩⟩
      · rw [if_neg (show ¬ nI v < (1 : Int32) from nI_nlt (b := 1) (by omega) (by omega)), if_pos (show (60 : Int32) < nI v from nI_lt (a := 60) (by omega) (by omega)), Option.bind_some, if_pos (show (0 : Int32) = 0 from rfl)]
        exact ⟨_, _, rfl, rfl, Or.inl ⟨not_m2 k (by omega), rfl⟩⟩
  · rw [hr] at h1
    obtain ⟨num', g5⟩ := h1
    have hnum' : m_X6_number (nI n) (nI (k + 1)) mtext 1 60 (59 : Int32) = some (-1, at') := hnum
    rw [hnum', Option.bind_some, g5, if_pos (show (-1 : Int32) ≤ 0 by decide)]
    exact ⟨_, _, rfl, rfl, Or.inl ⟨not_m2 k (by omega), rfl⟩⟩
theorem item_a {T : Nat → Nat} {n L N : Nat} {text mtext : Nat → Int32} (ht : Tx T n text) (htm : Tx T n mtext) (hn : n ≤ L) (hn2 : n ≤ 200) (hL : L < 2 ^ 20) (hN : 100 ≤ N) {k : Nat} (hk : k < n) {δ : Td} {tasks helpers askedFirst crumbsFirst lastDay : Int32} {kinds days rideDays helpKinds nexts helperKinds prices masks draft : Nat → Int32} (hd : DrI δ tasks helpers askedFirst crumbsFirst lastDay kinds days rideDays helpKinds nexts helperKinds prices masks draft) (numbers : Nat → Int32) (hc : T k = 97) : ∃ cr mr, m_X0_readItem N tasks helpers askedFirst crumbsFirst lastDay kinds days rideDays helpKinds nexts helperKinds prices masks numbers L text (nI n) (nI k) = some cr ∧ m_X6_readsItem (nI n) (nI (k + 1)) mtext draft (nI (T k)) = some mr ∧ Itm n k cr mr := by
  have h1 := xX0_readItem ht hn hL hN hk tasks helpers askedFirst crumbsFirst lastDay kinds days rideDays helpKinds nexts helperKinds prices masks numbers
  rw [hc] at h1 ⊢
  have hwb : wb 97 = 1 := by decide
  rw [hwb, rdl_1] at h1
  have h8 := hd.1.1
  unfold m_X6_readsItem
  rw [if_pos (show nI 97 = (97 : Int32) from rfl), (hd.2.2 0 (by decide)).1, (hd.2.2 4 (by decide)).1]
  rcases num_cases htm hn2 (k := k + 1) (e := 59) (by omega) (by decide) 0 (nI (δ 0) - 1) with ⟨v, k', hr, hv, hk1, hk2, hin⟩ | ⟨hr, at', hnum⟩
  · rw [hr] at h1
    obtain ⟨num', -, g2, g3, -, g5⟩ := h1
    have gv : num' 0 = nI v := (g2 0 (Nat.succ_pos 0)).1
    have gn : m_X5_numberAt 4 num' (0 : Int32) = some (nI v) := by rw [show (0 : Int32) = nI 0 from rfl, numberAt_is (by decide), gv]
    have hinv := in_pred (v := v) (d := δ 0) (by omega) (by omega)
    rw [g5]
    unfold m_X0_takeItem
    rw [gn, Option.bind_some, if_pos (show nI 97 = (97 : Int32) from rfl), hd.2.1.1, hasTask_nat (by omega) (by omega), Option.bind_some]
    by_cases hok : v < δ 0
    · rw [if_pos hok] at hinv
      have hnum : m_X6_number (nI n) (nI (k + 1)) mtext 0 (nI (δ 0) - 1) (59 : Int32) = some (nI v, nI k') := by
        rcases hin with ⟨q, -⟩ | ⟨-, q⟩
        · rw [hinv] at q; cases q
        · exact q
      rw [hnum, Option.bind_some, if_pos hok, if_neg n10, xX5_bit (by omega), Option.bind_some, Option.bind_some, hd.2.1.2.2.1, j_or]
      simp only
      rw [if_neg n10, if_pos (nI_pos' (by omega)), j_bit v (by omega), j_or, Option.bind_some, if_neg (nI_pos (by omega))]
      obtain ⟨δ', hδ'⟩ := hd.ask hok
      rw [hd.2.1.1] at hδ'
      exact ⟨_, _, rfl, rfl, Or.inr ⟨k', δ', by omega, hk2, rfl, rfl, rfl, hδ'⟩⟩
    · rw [if_neg hok] at hinv
      have hnum : m_X6_number (nI n) (nI (k + 1)) mtext 0 (nI (δ 0) - 1) (59 : Int32) = some (-1, nI k') := by
        rcases hin with ⟨-, q⟩ | ⟨q, -⟩
        · exact q
        · rw [hinv] at q; cases q
      rw [hnum, Option.bind_some, if_neg hok, if_pos (show (0 : Int32) = 0 from rfl), Option.bind_some, if_pos (show (0 : Int32) = 0 from rfl)]
      simp only
      rw [if_neg (show ¬ (0 : Int32) ≤ -1 by decide), if_pos (show (-1 : Int32) < 0 by decide)]
      exact ⟨_, _, rfl, rfl, Or.inl ⟨not_m2 k (by omega), rfl⟩⟩
  · rw [hr] at h1
    obtain ⟨num', g5⟩ := h1
    have hnum' : m_X6_number (nI n) (nI (k + 1)) mtext 0 (nI (δ 0) - 1) (59 : Int32) = some (-1, at') := hnum
    rw [hnum', Option.bind_some, g5, if_neg (show ¬ (0 : Int32) ≤ -1 by decide), if_pos (show (-1 : Int32) < 0 by decide)]
    exact ⟨_, _, rfl, rfl, Or.inl ⟨not_m2 k (by omega), rfl⟩⟩
theorem item_o {T : Nat → Nat} {n L N : Nat} {text mtext : Nat → Int32} (ht : Tx T n text) (hn : n ≤ L) (hL : L < 2 ^ 20) (hN : 100 ≤ N) {k : Nat} (hk : k < n) {tasks helpers askedFirst crumbsFirst lastDay : Int32} {kinds days rideDays helpKinds nexts helperKinds prices masks draft : Nat → Int32} (numbers : Nat → Int32) (c1 : T k ≠ 97) (c2 : T k ≠ 99) (c3 : T k ≠ 104) (c4 : T k ≠ 108) (c5 : T k ≠ 116) : ∃ cr mr, m_X0_readItem N tasks helpers askedFirst crumbsFirst lastDay kinds days rideDays helpKinds nexts helperKinds prices masks numbers L text (nI n) (nI k) = some cr ∧ m_X6_readsItem (nI n) (nI (k + 1)) mtext draft (nI (T k)) = some mr ∧ Itm n k cr mr := by
  have h1 := xX0_readItem ht hn hL hN hk tasks helpers askedFirst crumbsFirst lastDay kinds days rideDays helpKinds nexts helperKinds prices masks numbers
  have hT := (ht k hk).2
  have hwb : wb (T k) = 0 := by
    unfold wb
    rw [if_neg c1, if_neg c2, if_neg c3, if_neg c4, if_neg c5]
  have e1 : ¬ nI (T k) = (97 : Int32) := fun z => c1 ((eq_letter (e := 97) hT (by decide)).mp z)
  have e2 : ¬ nI (T k) = (99 : Int32) := fun z => c2 ((eq_letter (e := 99) hT (by decide)).mp z)
  have e3 : ¬ nI (T k) = (104 : Int32) := fun z => c3 ((eq_letter (e := 104) hT (by decide)).mp z)
  have e4 : ¬ nI (T k) = (108 : Int32) := fun z => c4 ((eq_letter (e := 108) hT (by decide)).mp z)
  have e5 : ¬ nI (T k) = (116 : Int32) := fun z => c5 ((eq_letter (e := 116) hT (by decide)).mp z)
  rw [hwb] at h1
  obtain ⟨num', -, -, -, -, g5⟩ := h1
  have gn : m_X5_numberAt 4 num' (0 : Int32) = some (num' 0) := by rw [show (0 : Int32) = nI 0 from rfl, numberAt_is (by decide)]
  rw [g5]
  unfold m_X0_takeItem m_X6_readsItem
  rw [gn, Option.bind_some, if_neg e1, if_neg e2, if_neg e3, if_neg e4, if_neg e5, if_neg e1, if_neg e2, if_neg e3, if_neg e4, if_neg e5, Option.bind_some, if_pos (show (0 : Int32) = 0 from rfl)]
  exact ⟨_, _, rfl, rfl, Or.inl ⟨not_m2 k (by have := (xX0_numbersBehind hT); exact Nat.lt_of_lt_of_le (Nat.lt_of_lt_of_le hk hn) (by omega)), rfl⟩⟩
