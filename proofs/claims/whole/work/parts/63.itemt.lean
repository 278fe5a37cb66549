/-! the item t -/
theorem rdl_len {T : Nat → Nat} {n : Nat} : ∀ {m k : Nat} {l : List Nat} {k' : Nat}, rdl T n m k = some (l, k') → l.length = m := by
  intro m
  induction m with
  | zero => intro k l k' h; cases h; rfl
  | succ m ih =>
    intro k l k' h
    have h2 : (match rd T n k (if m = 0 then 59 else 44) with
      | some (v, k') => match rdl T n m k' with
        | some (l, k'') => some (v :: l, k'')
        | none => none
      | none => none) = some (l, k') := h
    cases hr : rd T n k (if m = 0 then 59 else 44) with
    | none => rw [hr] at h2; cases h2
    | some vk =>
      obtain ⟨v, k1⟩ := vk
      rw [hr] at h2
      simp only at h2
      cases hr2 : rdl T n m k1 with
      | none => rw [hr2] at h2; cases h2
      | some lk =>
        obtain ⟨l1, k2⟩ := lk
        rw [hr2] at h2
        cases h2
        rw [List.length_cons, ih hr2]
/-- a good item t: its numbers and the place behind -/
def goodT (T : Nat → Nat) (n k T0 a b c d k' : Nat) : Prop := rdl T n 4 (k + 1) = some ([a, b, c, d], k') ∧ T0 < 8 ∧ a ≤ 4 ∧ b ≤ 9 ∧ c ≤ 5 ∧ d ≤ 7
theorem item_t_class {T : Nat → Nat} {n L N : Nat} {text : Nat → Int32} (ht : Tx T n text) (hn : n ≤ L) (hL : L < 2 ^ 20) (hN : 100 ≤ N) {k : Nat} (hk : k < n) {T0 : Nat} (h8 : T0 ≤ 8) (helpers askedFirst crumbsFirst lastDay : Int32) (kinds days rideDays helpKinds nexts helperKinds prices masks numbers : Nat → Int32) (hc : T k = 116) : (∃ cr, m_X0_readItem N (nI T0) helpers askedFirst crumbsFirst lastDay kinds days rideDays helpKinds nexts helperKinds prices masks numbers L text (nI n) (nI k) = some cr ∧ cr.1 = -2 ∧ ∀ a b c d k', ¬ goodT T n k T0 a b c d k') ∨ ∃ a b c d k' num', goodT T n k T0 a b c d k' ∧ k < k' ∧ k' ≤ n ∧ m_X0_readItem N (nI T0) helpers askedFirst crumbsFirst lastDay kinds days rideDays helpKinds nexts helperKinds prices masks numbers L text (nI n) (nI k) = some (nI k', nI (T0 + 1), helpers, askedFirst, crumbsFirst, lastDay, upd kinds T0 (nI a), upd days T0 (nI b), upd rideDays T0 (nI (if a = 2 then 0 else b)), upd helpKinds T0 (nI c), upd nexts T0 (nI d), helperKinds, prices, masks, num') := by
  have h1 := xX0_readItem ht hn hL hN hk (nI T0) helpers askedFirst crumbsFirst lastDay kinds days rideDays helpKinds nexts helperKinds prices masks numbers
  have hwb : wb 116 = 4 := by decide
  rw [hc, hwb] at h1
  cases hr : rdl T n 4 (k + 1) with
  | none =>
    rw [hr] at h1
    obtain ⟨num', g5⟩ := h1
    left
    refine ⟨_, g5, rfl, fun a b c d k' z => ?_⟩
    have := z.1
    rw [hr] at this
    cases this
  | some lk =>
    obtain ⟨l, k'⟩ := lk
    have hl := rdl_len hr
    rw [hr] at h1
    obtain ⟨num', -, g2, g3, g4, g5⟩ := h1
    match l, hl, g2 with
    | [a, b, c, d], _, g2 =>
      have ga := g2 0 (by simp)
      have gb := g2 1 (by simp)
      have gc := g2 2 (by simp)
      have gd := g2 3 (by simp)
      have ga1 : num' 0 = nI a := ga.1
      have gn : m_X5_numberAt 4 num' (0 : Int32) = some (nI a) := by rw [show (0 : Int32) = nI 0 from rfl, numberAt_is (by decide), ga1]
      have htt := xX0_takeTask (T := T0) (a := a) (b := b) (c := c) (d := d) h8 ga.2 gb.2 gc.2 gd.2 (kinds := kinds) (days := days) (rideDays := rideDays) (helpKinds := helpKinds) (nexts := nexts) ga.1 gb.1 gc.1 gd.1
      unfold m_X0_takeItem at g5
      rw [gn, Option.bind_some, if_neg (show ¬ nI 116 = (97 : Int32) by decide), if_neg (show ¬ nI 116 = (99 : Int32) by decide), if_neg (show ¬ nI 116 = (104 : Int32) by decide), if_neg (show ¬ nI 116 = (108 : Int32) by decide), if_pos (show nI 116 = (116 : Int32) from rfl), htt] at g5
      by_cases hok : T0 < 8 ∧ a ≤ 4 ∧ b ≤ 9 ∧ c ≤ 5 ∧ d ≤ 7
      · right
        rw [if_pos hok, Option.bind_some] at g5
        simp only at g5
        rw [if_pos (show isB (1 : Int32) by decide), Option.bind_some] at g5
        simp only at g5
        rw [if_neg n10] at g5
        exact ⟨a, b, c, d, k', num', ⟨hr, hok⟩, by omega, g4 (by decide), g5⟩
      · left
        rw [if_neg hok, Option.bind_some] at g5
        simp only at g5
        rw [if_pos (show isB (0 : Int32) by decide), Option.bind_some, if_pos (show (0 : Int32) = 0 from rfl)] at g5
        refine ⟨_, g5, rfl, fun a' b' c' d' k2 z => ?_⟩
        have z1 := z.1
        rw [hr] at z1
        cases z1
        exact hok z.2
theorem num_ok {T : Nat → Nat} {n : Nat} {text : Nat → Int32} (ht : Tx T n text) (hn : n ≤ 200) {k e hi : Nat} (hk : k ≤ 200) (he : e < 1000) (hh : hi < 1000) : (∃ v k', rd T n k e = some (v, k') ∧ v ≤ hi ∧ v ≤ 99 ∧ k < k' ∧ k' ≤ n ∧ m_X6_number (nI n) (nI k) text (nI 0) (nI hi) (nI e) = some (nI v, nI k')) ∨ ∃ at', m_X6_number (nI n) (nI k) text (nI 0) (nI hi) (nI e) = some (-1, at') ∧ ∀ v k', rd T n k e = some (v, k') → ¬ v ≤ hi := by
  rcases num_cases ht hn hk he (nI 0) (nI hi) with ⟨v, k', hr, hv, hk1, hk2, hin⟩ | ⟨hr, at', hnum⟩
  · have hinv := in_nat (v := v) (lo := 0) (hi := hi) (by omega) (by decide) (by omega)
    by_cases hok : v ≤ hi
    · rw [if_pos ⟨Nat.zero_le v, hok⟩] at hinv
      left
      refine ⟨v, k', hr, hok, hv, hk1, hk2, ?_⟩
      rcases hin with ⟨q, -⟩ | ⟨-, q⟩
      · rw [hinv] at q; cases q
      · exact q
    · rw [if_neg (fun z => hok z.2)] at hinv
      right
      refine ⟨nI k', ?_, fun v' k2 z => ?_⟩
      · rcases hin with ⟨-, q⟩ | ⟨q, -⟩
        · exact q
        · rw [hinv] at q; cases q
      · rw [hr] at z; cases z; exact hok
  · right
    exact ⟨at', hnum, fun v k' z => by rw [hr] at z; cases z⟩
theorem rdl_inv {T : Nat → Nat} {n m k a : Nat} {l : List Nat} {k' : Nat} (h : rdl T n (m + 1) k = some (a :: l, k')) : ∃ k1, rd T n k (if m = 0 then 59 else 44) = some (a, k1) ∧ rdl T n m k1 = some (l, k') := by
  have h2 : (match rd T n k (if m = 0 then 59 else 44) with
    | some (v, k') => match rdl T n m k' with
      | some (l, k'') => some (v :: l, k'')
      | none => none
    | none => none) = some (a :: l, k') := h
  cases hr : rd T n k (if m = 0 then 59 else 44) with
  | none => rw [hr] at h2; cases h2
  | some vk =>
    obtain ⟨v, k1⟩ := vk
    rw [hr] at h2
    simp only at h2
    cases hr2 : rdl T n m k1 with
    | none => rw [hr2] at h2; cases h2
    | some lk =>
      obtain ⟨l1, k2⟩ := lk
      rw [hr2] at h2
      cases h2
      exact ⟨k1, rfl, hr2⟩
theorem rdl_put {T : Nat → Nat} {n m k a k1 : Nat} {l : List Nat} {k' : Nat} (h1 : rd T n k (if m = 0 then 59 else 44) = some (a, k1)) (h2 : rdl T n m k1 = some (l, k')) : rdl T n (m + 1) k = some (a :: l, k') := by
  show (match rd T n k (if m = 0 then 59 else 44) with
    | some (v, k') => match rdl T n m k' with
      | some (l, k'') => some (v :: l, k'')
      | none => none
    | none => none) = some (a :: l, k')
  rw [h1]
  simp only
  rw [h2]
theorem item_t_model {T : Nat → Nat} {n : Nat} {mtext : Nat → Int32} (htm : Tx T n mtext) (hn2 : n ≤ 200) {k : Nat} (hk : k < n) {δ : Td} {draft : Nat → Int32} (hd : ToR δ draft) (h8 : δ 0 ≤ 8) : (∃ mr, m_X6_readsItem (nI n) (nI (k + 1)) mtext draft (nI 116) = some mr ∧ mr.1 = 0 ∧ ∀ a b c d k', ¬ goodT T n k (δ 0) a b c d k') ∨ ∃ a b c d k', goodT T n k (δ 0) a b c d k' ∧ m_X6_readsItem (nI n) (nI (k + 1)) mtext draft (nI 116) = some (1, nI k', upd (upd (upd (upd (upd draft (5 + δ 0) (nI a)) (13 + δ 0) (nI b)) (21 + δ 0) (nI c)) (29 + δ 0) (nI d)) 0 (nI (δ 0 + 1))) := by
  unfold m_X6_readsItem
  rw [if_neg (show ¬ nI 116 = (97 : Int32) by decide), if_neg (show ¬ nI 116 = (99 : Int32) by decide), if_neg (show ¬ nI 116 = (104 : Int32) by decide), if_neg (show ¬ nI 116 = (108 : Int32) by decide), if_pos (show nI 116 = (116 : Int32) from rfl)]
  have m1 : ¬ (0 : Int32) ≤ -1 := by decide
  rcases num_ok htm hn2 (k := k + 1) (e := 44) (hi := 4) (by omega) (by decide) (by decide) with ⟨a, k1, ra, ca, va, a1, a2, na⟩ | ⟨at1, na, no⟩
  · have na' : m_X6_number (nI n) (nI (k + 1)) mtext 0 4 (44 : Int32) = some (nI a, nI k1) := na
    rw [na', Option.bind_some]
    simp only
    rw [if_pos (nI_pos' (by omega))]
    rcases num_ok htm hn2 (k := k1) (e := 44) (hi := 9) (by omega) (by decide) (by decide) with ⟨b, k2, rb, cb, vb, b1, b2, nb⟩ | ⟨at2, nb, no⟩
    · have nb' : m_X6_number (nI n) (nI k1) mtext 0 9 (44 : Int32) = some (nI b, nI k2) := nb
      rw [nb', Option.bind_some]
      simp only
      rw [if_pos (nI_pos' (by omega))]
      rcases num_ok htm hn2 (k := k2) (e := 44) (hi := 5) (by omega) (by decide) (by decide) with ⟨c, k3, rc, cc, vc, c1, c2, nc⟩ | ⟨at3, nc, no⟩
      · have nc' : m_X6_number (nI n) (nI k2) mtext 0 5 (44 : Int32) = some (nI c, nI k3) := nc
        rw [nc', Option.bind_some]
        simp only
        rw [if_pos (nI_pos' (by omega))]
        rcases num_ok htm hn2 (k := k3) (e := 59) (hi := 7) (by omega) (by decide) (by decide) with ⟨d, k4, rdd, cdd, vd, d1, d2, nd⟩ | ⟨at4, nd, no⟩
        · have nd' : m_X6_number (nI n) (nI k3) mtext 0 7 (59 : Int32) = some (nI d, nI k4) := nd
          have hall : rdl T n 4 (k + 1) = some ([a, b, c, d], k4) := rdl_put (m := 3) ra (rdl_put (m := 2) rb (rdl_put (m := 1) rc (rdl_put (m := 0) rdd rfl)))
          rw [nd', Option.bind_some]
          simp only
          rw [if_neg (show ¬ nI d < 0 from nI_pos (by omega)), (hd 0 (by decide)).1]
          by_cases h0 : δ 0 < 8
          · rw [if_neg (show ¬ nI (δ 0) = (8 : Int32) from fun z => by have := (nI_eq (b := 8) (by omega) (by decide)).mp z; omega), xX6_taskOf h0 (hd 0 (by decide)).1, Option.bind_some]
            exact Or.inr ⟨a, b, c, d, k4, ⟨hall, h0, ca, cb, cc, cdd⟩, rfl⟩
          · rw [if_pos (show nI (δ 0) = (8 : Int32) by rw [show δ 0 = 8 by omega]; rfl)]
            exact Or.inl ⟨_, rfl, rfl, fun a b c d k' z => h0 z.2.1⟩
        · have nd' : m_X6_number (nI n) (nI k3) mtext 0 7 (59 : Int32) = some (-1, at4) := nd
          rw [nd', Option.bind_some]
          simp only
          rw [if_pos (show (-1 : Int32) < 0 by decide)]
          refine Or.inl ⟨_, rfl, rfl, fun a' b' c' d' k' z => ?_⟩
          obtain ⟨q1, p1, z1⟩ := rdl_inv z.1
          obtain ⟨q2, p2, z2⟩ := rdl_inv z1
          obtain ⟨q3, p3, z3⟩ := rdl_inv z2
          obtain ⟨q4, p4, z4⟩ := rdl_inv z3
          have p1' : rd T n (k + 1) 44 = some (a', q1) := p1
          rw [ra] at p1'; cases p1'
          have p2' : rd T n k1 44 = some (b', q2) := p2
          rw [rb] at p2'; cases p2'
          have p3' : rd T n k2 44 = some (c', q3) := p3
          rw [rc] at p3'; cases p3'
          exact no d' q4 p4 z.2.2.2.2.2
      · have nc' : m_X6_number (nI n) (nI k2) mtext 0 5 (44 : Int32) = some (-1, at3) := nc
        rw [nc', Option.bind_some]
        simp only
        rw [if_neg m1]
        refine Or.inl ⟨_, rfl, rfl, fun a' b' c' d' k' z => ?_⟩
        obtain ⟨q1, p1, z1⟩ := rdl_inv z.1
        obtain ⟨q2, p2, z2⟩ := rdl_inv z1
        obtain ⟨q3, p3, z3⟩ := rdl_inv z2
        have p1' : rd T n (k + 1) 44 = some (a', q1) := p1
        rw [ra] at p1'; cases p1'
        have p2' : rd T n k1 44 = some (b', q2) := p2
        rw [rb] at p2'; cases p2'
        exact no c' q3 p3 z.2.2.2.2.1
    · have nb' : m_X6_number (nI n) (nI k1) mtext 0 9 (44 : Int32) = some (-1, at2) := nb
      rw [nb', Option.bind_some]
      simp only
      rw [if_neg m1]
      refine Or.inl ⟨_, rfl, rfl, fun a' b' c' d' k' z => ?_⟩
      obtain ⟨q1, p1, z1⟩ := rdl_inv z.1
      obtain ⟨q2, p2, z2⟩ := rdl_inv z1
      have p1' : rd T n (k + 1) 44 = some (a', q1) := p1
      rw [ra] at p1'; cases p1'
      exact no b' q2 p2 z.2.2.2.1
  · have na' : m_X6_number (nI n) (nI (k + 1)) mtext 0 4 (44 : Int32) = some (-1, at1) := na
    rw [na', Option.bind_some]
    simp only
    rw [if_neg m1]
    refine Or.inl ⟨_, rfl, rfl, fun a' b' c' d' k' z => ?_⟩
    obtain ⟨q1, p1, z1⟩ := rdl_inv z.1
    exact no a' q1 p1 z.2.2.1
