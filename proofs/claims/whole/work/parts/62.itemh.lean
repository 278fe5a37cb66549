/-! the item h -/
theorem item_h {T : Nat → Nat} {n L N : Nat} {text mtext : Nat → Int32} (ht : Tx T n text) (htm : Tx T n mtext) (hn : n ≤ L) (hn2 : n ≤ 200) (hL : L < 2 ^ 20) (hN : 100 ≤ N) {k : Nat} (hk : k < n) {δ : Td} {tasks helpers askedFirst crumbsFirst lastDay : Int32} {kinds days rideDays helpKinds nexts helperKinds prices masks draft : Nat → Int32} (hd : DrI δ tasks helpers askedFirst crumbsFirst lastDay kinds days rideDays helpKinds nexts helperKinds prices masks draft) (numbers : Nat → Int32) (hc : T k = 104) : ∃ cr mr, m_X0_readItem N tasks helpers askedFirst crumbsFirst lastDay kinds days rideDays helpKinds nexts helperKinds prices masks numbers L text (nI n) (nI k) = some cr ∧ m_X6_readsItem (nI n) (nI (k + 1)) mtext draft (nI (T k)) = some mr ∧ Itm n k cr mr := by
  have h1 := xX0_readItem ht hn hL hN hk tasks helpers askedFirst crumbsFirst lastDay kinds days rideDays helpKinds nexts helperKinds prices masks numbers
  rw [hc] at h1 ⊢
  have hwb : wb 104 = 2 := by decide
  rw [hwb, rdl_S] at h1
  have h7 := hd.1.2.1
  -- when the class fails
  have cfail : ∀ (cr : CR), cr.1 = -2 → ∀ mr : Int32 × Int32 × (Nat → Int32), mr.1 = 0 → Itm n k cr mr := fun cr e mr e2 => Or.inl ⟨by rw [e]; exact not_m2 k (by omega), e2⟩
  unfold m_X6_readsItem
  rw [if_neg (show ¬ nI 104 = (97 : Int32) by decide), if_neg (show ¬ nI 104 = (99 : Int32) by decide), if_pos (show nI 104 = (104 : Int32) from rfl)]
  rcases num_cases htm hn2 (k := k + 1) (e := 44) (by omega) (by decide) 0 4 with ⟨v, k', hr, hv, hk1, hk2, hin⟩ | ⟨hr, at', hnum⟩
  · rw [hr] at h1
    simp only at h1
    rw [rdl_1] at h1
    have hinv : m_X6_in (nI v) 0 4 = some (if 0 ≤ v ∧ v ≤ 4 then 1 else 0) := in_nat (v := v) (lo := 0) (hi := 4) (by omega) (by decide) (by decide)
    rcases num_cases htm hn2 (k := k') (e := 59) (by omega) (by decide) 0 20 with ⟨w, k2, hr2, hw, hk3, hk4, hin2⟩ | ⟨hr2, at2, hnum2⟩
    · rw [hr2] at h1
      obtain ⟨num', -, g2, g3, -, g5⟩ := h1
      have gv : num' 0 = nI v := (g2 0 (Nat.succ_pos 1)).1
      have gw : num' 1 = nI w := (g2 1 (Nat.lt_succ_self 1)).1
      have gn : m_X5_numberAt 4 num' (0 : Int32) = some (nI v) := by rw [show (0 : Int32) = nI 0 from rfl, numberAt_is (by decide), gv]
      have hinw : m_X6_in (nI w) 0 20 = some (if 0 ≤ w ∧ w ≤ 20 then 1 else 0) := in_nat (v := w) (lo := 0) (hi := 20) (by omega) (by decide) (by decide)
      have hth := xX0_takeHelper (H := δ 1) (a := v) (b := w) h7 hv hw (helperKinds := helperKinds) (prices := prices) (masks := masks) gv gw
      rw [g5]
      unfold m_X0_takeItem
      rw [gn, Option.bind_some, if_neg (show ¬ nI 104 = (97 : Int32) by decide), if_neg (show ¬ nI 104 = (99 : Int32) by decide), if_pos (show nI 104 = (104 : Int32) from rfl), hd.2.1.2.1]
      by_cases hok : v ≤ 4
      · rw [if_pos ⟨Nat.zero_le v, hok⟩] at hinv
        have hnum : m_X6_number (nI n) (nI (k + 1)) mtext 0 4 (44 : Int32) = some (nI v, nI k') := by
          rcases hin with ⟨q, -⟩ | ⟨-, q⟩
          · rw [hinv] at q; cases q
          · exact q
        rw [hnum, Option.bind_some]
        simp only
        rw [if_pos (nI_pos' (by omega))]
        by_cases hok2 : w ≤ 20
        · rw [if_pos ⟨Nat.zero_le w, hok2⟩] at hinw
          have hnum2 : m_X6_number (nI n) (nI k') mtext 0 20 (59 : Int32) = some (nI w, nI k2) := by
            rcases hin2 with ⟨q, -⟩ | ⟨-, q⟩
            · rw [hinw] at q; cases q
            · exact q
          rw [hnum2, Option.bind_some]
          simp only
          rw [if_neg (show ¬ nI w < 0 from nI_pos (by omega)), (hd.2.2 1 (by decide)).1]
          by_cases c0 : δ 1 < 7
          · rw [if_pos (show δ 1 < 7 ∧ v ≤ 4 ∧ w ≤ 20 from ⟨c0, hok, hok2⟩)] at hth
            rw [hth, Option.bind_some, if_neg (show ¬ nI (δ 1) = (7 : Int32) from fun z => by have := (nI_eq (b := 7) (by omega) (by decide)).mp z; omega), xX6_helperOf c0 (hd.2.2 1 (by decide)).1, Option.bind_some]
            simp only
            rw [if_pos (show isB (1 : Int32) by decide), Option.bind_some]
            simp only
            rw [if_neg n10]
            obtain ⟨δ', hδ'⟩ := hd.helper hok hok2 c0
            rw [← j_or, ← hd.2.1.2.2.2.2.2.2.2 v (by omega)] at hδ'
            exact ⟨_, _, rfl, rfl, Or.inr ⟨k2, δ', by omega, hk4, rfl, rfl, rfl, hδ'⟩⟩
          · have e7 : δ 1 = 7 := by omega
            rw [if_neg (show ¬ (δ 1 < 7 ∧ v ≤ 4 ∧ w ≤ 20) from fun z => c0 z.1)] at hth
            rw [hth, Option.bind_some, if_pos (show nI (δ 1) = (7 : Int32) by rw [e7]; rfl)]
            simp only
            rw [if_pos (show isB (0 : Int32) by decide), Option.bind_some, if_pos (show (0 : Int32) = 0 from rfl)]
            exact ⟨_, _, rfl, rfl, cfail _ rfl _ rfl⟩
        · rw [if_neg (fun z => hok2 z.2)] at hinw
          have hnum2 : m_X6_number (nI n) (nI k') mtext 0 20 (59 : Int32) = some (-1, nI k2) := by
            rcases hin2 with ⟨-, q⟩ | ⟨q, -⟩
            · exact q
            · rw [hinw] at q; cases q
          rw [if_neg (show ¬ (δ 1 < 7 ∧ v ≤ 4 ∧ w ≤ 20) from fun z => hok2 z.2.2)] at hth
          rw [hth, hnum2, Option.bind_some, Option.bind_some]
          simp only
          rw [if_pos (show (-1 : Int32) < 0 by decide), if_pos (show isB (0 : Int32) by decide), Option.bind_some, if_pos (show (0 : Int32) = 0 from rfl)]
          exact ⟨_, _, rfl, rfl, cfail _ rfl _ rfl⟩
      · rw [if_neg (fun z => hok z.2)] at hinv
        have hnum : m_X6_number (nI n) (nI (k + 1)) mtext 0 4 (44 : Int32) = some (-1, nI k') := by
          rcases hin with ⟨-, q⟩ | ⟨q, -⟩
          · exact q
          · rw [hinv] at q; cases q
        rw [if_neg (show ¬ (δ 1 < 7 ∧ v ≤ 4 ∧ w ≤ 20) from fun z => hok z.2.1)] at hth
        rw [hth, hnum, Option.bind_some, Option.bind_some]
        simp only
        rw [if_neg (show ¬ (0 : Int32) ≤ -1 by decide), if_pos (show isB (0 : Int32) by decide), Option.bind_some, if_pos (show (0 : Int32) = 0 from rfl)]
        exact ⟨_, _, rfl, rfl, cfail _ rfl _ rfl⟩
    · rw [hr2] at h1
      obtain ⟨num', g5⟩ := h1
      rw [g5]
      have hnum2' : m_X6_number (nI n) (nI k') mtext 0 20 (59 : Int32) = some (-1, at2) := hnum2
      rcases hin with ⟨-, q⟩ | ⟨-, q⟩
      · have q' : m_X6_number (nI n) (nI (k + 1)) mtext 0 4 (44 : Int32) = some (-1, nI k') := q
        rw [q', Option.bind_some, if_neg (show ¬ (0 : Int32) ≤ -1 by decide)]
        exact ⟨_, _, rfl, rfl, cfail _ rfl _ rfl⟩
      · have q' : m_X6_number (nI n) (nI (k + 1)) mtext 0 4 (44 : Int32) = some (nI v, nI k') := q
        rw [q', Option.bind_some]
        simp only
        rw [if_pos (nI_pos' (by omega)), hnum2', Option.bind_some, if_pos (show (-1 : Int32) < 0 by decide)]
        exact ⟨_, _, rfl, rfl, cfail _ rfl _ rfl⟩
  · rw [hr] at h1
    obtain ⟨num', g5⟩ := h1
    have hnum' : m_X6_number (nI n) (nI (k + 1)) mtext 0 4 (44 : Int32) = some (-1, at') := hnum
    rw [hnum', Option.bind_some, g5, if_neg (show ¬ (0 : Int32) ≤ -1 by decide)]
    exact ⟨_, _, rfl, rfl, cfail _ rfl _ rfl⟩
