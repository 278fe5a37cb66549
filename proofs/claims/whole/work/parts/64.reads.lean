/-! all items of a text -/
theorem item_t {T : Nat → Nat} {n L N : Nat} {text mtext : Nat → Int32} (ht : Tx T n text) (htm : Tx T n mtext) (hn : n ≤ L) (hn2 : n ≤ 200) (hL : L < 2 ^ 20) (hN : 100 ≤ N) {k : Nat} (hk : k < n) {δ : Td} {tasks helpers askedFirst crumbsFirst lastDay : Int32} {kinds days rideDays helpKinds nexts helperKinds prices masks draft : Nat → Int32} (hd : DrI δ tasks helpers askedFirst crumbsFirst lastDay kinds days rideDays helpKinds nexts helperKinds prices masks draft) (numbers : Nat → Int32) (hc : T k = 116) : ∃ cr mr, m_X0_readItem N tasks helpers askedFirst crumbsFirst lastDay kinds days rideDays helpKinds nexts helperKinds prices masks numbers L text (nI n) (nI k) = some cr ∧ m_X6_readsItem (nI n) (nI (k + 1)) mtext draft (nI (T k)) = some mr ∧ Itm n k cr mr := by
  have h8 := hd.1.1
  have f := item_t_class ht hn hL hN hk h8 helpers askedFirst crumbsFirst lastDay kinds days rideDays helpKinds nexts helperKinds prices masks numbers hc
  have g := item_t_model htm hn2 hk hd.2.2 h8
  rw [hc, hd.2.1.1]
  rcases f with ⟨cr, f1, f2, f3⟩ | ⟨a, b, c, d, k', num', f1, f2, f3, f4⟩
  · rcases g with ⟨mr, g1, g2, -⟩ | ⟨a, b, c, d, k', g1, -⟩
    · exact ⟨cr, mr, f1, g1, Or.inl ⟨by rw [f2]; exact not_m2 k (by omega), g2⟩⟩
    · exact absurd g1 (f3 a b c d k')
  · rcases g with ⟨mr, -, -, g3⟩ | ⟨a', b', c', d', k2, g1, g2⟩
    · exact absurd f1 (g3 a b c d k')
    · have e := g1.1
      rw [f1.1] at e
      cases e
      obtain ⟨δ', hδ'⟩ := hd.task f1.2.2.1 f1.2.2.2.1 f1.2.2.2.2.1 f1.2.2.2.2.2 f1.2.1
      exact ⟨_, _, f4, g2, Or.inr ⟨k', δ', f2, f3, rfl, rfl, rfl, hδ'⟩⟩
theorem item {T : Nat → Nat} {n L N : Nat} {text mtext : Nat → Int32} (ht : Tx T n text) (htm : Tx T n mtext) (hn : n ≤ L) (hn2 : n ≤ 200) (hL : L < 2 ^ 20) (hN : 100 ≤ N) {k : Nat} (hk : k < n) {δ : Td} {tasks helpers askedFirst crumbsFirst lastDay : Int32} {kinds days rideDays helpKinds nexts helperKinds prices masks draft : Nat → Int32} (hd : DrI δ tasks helpers askedFirst crumbsFirst lastDay kinds days rideDays helpKinds nexts helperKinds prices masks draft) (numbers : Nat → Int32) : ∃ cr mr, m_X0_readItem N tasks helpers askedFirst crumbsFirst lastDay kinds days rideDays helpKinds nexts helperKinds prices masks numbers L text (nI n) (nI k) = some cr ∧ m_X6_readsItem (nI n) (nI (k + 1)) mtext draft (nI (T k)) = some mr ∧ Itm n k cr mr := by
  by_cases c1 : T k = 97
  · exact item_a ht htm hn hn2 hL hN hk hd numbers c1
  by_cases c2 : T k = 99
  · exact item_c ht htm hn hn2 hL hN hk hd numbers c2
  by_cases c3 : T k = 104
  · exact item_h ht htm hn hn2 hL hN hk hd numbers c3
  by_cases c4 : T k = 108
  · exact item_l ht htm hn hn2 hL hN hk hd numbers c4
  by_cases c5 : T k = 116
  · exact item_t ht htm hn hn2 hL hN hk hd numbers c5
  exact item_o ht hn hL hN hk numbers c1 c2 c3 c4 c5
theorem reads_loop {T : Nat → Nat} {n L N : Nat} {text mtext : Nat → Int32} (ht : Tx T n text) (htm : Tx T n mtext) (hn : n ≤ L) (hn2 : n ≤ 200) (hL : L < 2 ^ 20) (hN : 100 ≤ N) : ∀ (m k fuel fuel2 : Nat) (δ : Td) (tasks helpers askedFirst crumbsFirst lastDay : Int32) (kinds days rideDays helpKinds nexts helperKinds prices masks numbers draft : Nat → Int32), k ≤ n → n - k ≤ m → m < fuel → m < fuel2 → DrI δ tasks helpers askedFirst crumbsFirst lastDay kinds days rideDays helpKinds nexts helperKinds prices masks draft →
    (∃ δ' tasks' helpers' askedFirst' crumbsFirst' lastDay' kinds' days' rideDays' helpKinds' nexts' helperKinds' prices' masks' numbers' draft' at', lp_X0_readFrom_6 N (nI n) L text fuel (nI k) tasks helpers askedFirst crumbsFirst lastDay kinds days rideDays helpKinds nexts helperKinds prices masks numbers = some (Sum.inl (tasks', helpers', askedFirst', crumbsFirst', lastDay', kinds', days', rideDays', helpKinds', nexts', helperKinds', prices', masks', numbers')) ∧ lp_X6_readsAll_9 (nI n) mtext fuel2 (nI k) draft = some (Sum.inl (at', draft')) ∧ DrI δ' tasks' helpers' askedFirst' crumbsFirst' lastDay' kinds' days' rideDays' helpKinds' nexts' helperKinds' prices' masks' draft') ∨
    ∃ (p : Nat) (x : Int32 × Int32 × Int32 × Int32 × Int32 × (Nat → Int32) × (Nat → Int32) × (Nat → Int32) × (Nat → Int32) × (Nat → Int32) × (Nat → Int32) × (Nat → Int32) × (Nat → Int32) × (Nat → Int32)) (y : Int32 × (Nat → Int32)), p < n ∧ lp_X0_readFrom_6 N (nI n) L text fuel (nI k) tasks helpers askedFirst crumbsFirst lastDay kinds days rideDays helpKinds nexts helperKinds prices masks numbers = some (Sum.inr (nI p, x)) ∧ lp_X6_readsAll_9 (nI n) mtext fuel2 (nI k) draft = some (Sum.inr (nI p, y)) := by
  intro m
  induction m with
  | zero =>
    intro k fuel fuel2 δ tasks helpers askedFirst crumbsFirst lastDay kinds days rideDays helpKinds nexts helperKinds prices masks numbers draft hk hm0 hf1 hf2 hd
    obtain ⟨q, rfl⟩ : ∃ q, fuel = q + 1 := ⟨fuel - 1, by omega⟩
    obtain ⟨q2, rfl⟩ : ∃ q, fuel2 = q + 1 := ⟨fuel2 - 1, by omega⟩
    left
    refine ⟨δ, tasks, helpers, askedFirst, crumbsFirst, lastDay, kinds, days, rideDays, helpKinds, nexts, helperKinds, prices, masks, numbers, draft, nI k, ?_, ?_, hd⟩
    · rw [lp_X0_readFrom_6, if_pos (nI_le (by omega) (by omega))]
    · rw [lp_X6_readsAll_9, if_pos (nI_le (by omega) (by omega))]
  | succ m ih =>
    intro k fuel fuel2 δ tasks helpers askedFirst crumbsFirst lastDay kinds days rideDays helpKinds nexts helperKinds prices masks numbers draft hk hm0 hf1 hf2 hd
    obtain ⟨q, rfl⟩ : ∃ q, fuel = q + 1 := ⟨fuel - 1, by omega⟩
    obtain ⟨q2, rfl⟩ : ∃ q, fuel2 = q + 1 := ⟨fuel2 - 1, by omega⟩
    by_cases hkn : k < n
    · obtain ⟨cr, mr, f1, f2, f3⟩ := item ht htm hn hn2 hL hN hkn hd numbers
      have ek : mtext k = nI (T k) := (htm k hkn).1
      rw [lp_X0_readFrom_6, if_neg (nI_ge hkn (by omega)), f1, Option.bind_some, lp_X6_readsAll_9, if_neg (nI_ge hkn (by omega)), if_pos (j_in (by omega) (by decide)), j_clamp (by omega), ek, nI_1, f2, Option.bind_some]
      rcases f3 with ⟨g1, g2⟩ | ⟨k', δ', g1, g2, g3, g4, g5, g6⟩
      · right
        rw [if_neg g1, if_pos g2]
        exact ⟨k, _, _, hkn, rfl, rfl⟩
      · rw [g3, if_pos (nI_lt g1 (by omega)), g4, if_neg n10, g5]
        exact ih k' q q2 δ' _ _ _ _ _ _ _ _ _ _ _ _ _ _ _ g2 (by omega) (by omega) (by omega) g6
    · left
      refine ⟨δ, tasks, helpers, askedFirst, crumbsFirst, lastDay, kinds, days, rideDays, helpKinds, nexts, helperKinds, prices, masks, numbers, draft, nI k, ?_, ?_, hd⟩
      · rw [lp_X0_readFrom_6, if_pos (nI_le (by omega) (by omega))]
      · rw [lp_X6_readsAll_9, if_pos (nI_le (by omega) (by omega))]
