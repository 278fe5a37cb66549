/-! one helper more -/
theorem DrI.helper {δ : Td} {tasks helpers askedFirst crumbsFirst lastDay : Int32} {kinds days rideDays helpKinds nexts helperKinds prices masks draft : Nat → Int32} (h : DrI δ tasks helpers askedFirst crumbsFirst lastDay kinds days rideDays helpKinds nexts helperKinds prices masks draft) {a b : Nat} (ha : a ≤ 4) (hb : b ≤ 20) (hH : δ 1 < 7) : ∃ δ', DrI δ' tasks (nI (δ 1 + 1)) askedFirst crumbsFirst lastDay kinds days rideDays helpKinds nexts (upd helperKinds (δ 1) (nI a)) (upd prices (δ 1) (nI b)) (upd masks a (nI (hm δ a (δ 1) ||| 2 ^ δ 1))) (upd (upd (upd draft (37 + δ 1) (nI a)) (44 + δ 1) (nI b)) 1 (nI (δ 1 + 1))) := by
  obtain ⟨hw, ⟨h0, h1, h2, h3, h4, h5, h6, h7⟩, ht⟩ := h
  have hto := ((ht.put (j := 37 + δ 1) (x := a) (by omega)).put (j := 44 + δ 1) (x := b) (by omega)).put (j := 1) (x := δ 1 + 1) (by omega)
  have ne : ∀ i, i ≠ 1 → i ≠ 37 + δ 1 → i ≠ 44 + δ 1 → updN (updN (updN δ (37 + δ 1) a) (44 + δ 1) b) 1 (δ 1 + 1) i = δ i := fun i q0 q1 q2 => by
    rw [updN_n q0, updN_n q2, updN_n q1]
  have x1 : updN (updN (updN δ (37 + δ 1) a) (44 + δ 1) b) 1 (δ 1 + 1) (37 + δ 1) = a := by
    rw [updN_n (by omega), updN_n (by omega), updN_s]
  have x2 : updN (updN (updN δ (37 + δ 1) a) (44 + δ 1) b) 1 (δ 1 + 1) (44 + δ 1) = b := by
    rw [updN_n (by omega), updN_s]
  have x0 : updN (updN (updN δ (37 + δ 1) a) (44 + δ 1) b) 1 (δ 1 + 1) 1 = δ 1 + 1 := updN_s
  refine ⟨updN (updN (updN δ (37 + δ 1) a) (44 + δ 1) b) 1 (δ 1 + 1), ?_, ?_, hto⟩
  · generalize updN (updN (updN δ (37 + δ 1) a) (44 + δ 1) b) 1 (δ 1 + 1) = ε at ne x0 x1 x2 ⊢
    have e0 := ne 0 (by omega) (by omega) (by omega)
    have e2 := ne 2 (by omega) (by omega) (by omega)
    have e3 := ne 3 (by omega) (by omega) (by omega)
    have e4 := ne 4 (by omega) (by omega) (by omega)
    refine ⟨by rw [e0]; exact hw.1, by omega, by rw [e2]; exact hw.2.2.1, by rw [e3]; exact hw.2.2.2.1, by rw [e4, e0]; exact hw.2.2.2.2.1, fun t htt => ?_, fun t htt => ?_⟩
    · have ht8 : t < δ 0 := by rw [← e0]; exact htt
      have h8 := hw.1
      show ε (5 + t) ≤ 4 ∧ ε (13 + t) ≤ 9 ∧ ε (21 + t) ≤ 5 ∧ ε (29 + t) ≤ 7
      rw [ne _ (by omega) (by omega) (by omega), ne _ (by omega) (by omega) (by omega), ne _ (by omega) (by omega) (by omega), ne _ (by omega) (by omega) (by omega)]
      exact hw.2.2.2.2.2.1 t ht8
    · show ε (37 + t) ≤ 4 ∧ ε (44 + t) ≤ 20
      by_cases q : t = δ 1
      · subst q
        rw [x1, x2]
        exact ⟨ha, hb⟩
      · rw [ne _ (by omega) (by omega) (by omega), ne _ (by omega) (by omega) (by omega)]
        exact hw.2.2.2.2.2.2 t (by omega)
  · generalize updN (updN (updN δ (37 + δ 1) a) (44 + δ 1) b) 1 (δ 1 + 1) = ε at ne x0 x1 x2 ⊢
    have e0 := ne 0 (by omega) (by omega) (by omega)
    refine ⟨by rw [e0]; exact h0, by rw [x0], by rw [ne 4 (by omega) (by omega) (by omega)]; exact h2, by rw [ne 2 (by omega) (by omega) (by omega)]; exact h3, by rw [ne 3 (by omega) (by omega) (by omega)]; exact h4, fun t htt => ?_, fun t htt => ?_, fun k hk => ?_⟩
    · have ht8 : t < δ 0 := by rw [← e0]; exact htt
      have h8 := hw.1
      have := h5 t ht8
      unfold rdy at this ⊢
      show _ = nI (ε (5 + t)) ∧ _ = nI (ε (13 + t)) ∧ _ = nI (if ε (5 + t) = 2 then 0 else ε (13 + t)) ∧ _ = nI (ε (21 + t)) ∧ _ = nI (ε (29 + t))
      rw [ne _ (by omega) (by omega) (by omega), ne _ (by omega) (by omega) (by omega), ne _ (by omega) (by omega) (by omega), ne _ (by omega) (by omega) (by omega)]
      exact this
    · show _ = nI (ε (37 + t)) ∧ _ = nI (ε (44 + t))
      by_cases q : t = δ 1
      · subst q
        rw [x1, x2, pk_us, pk_us]
        exact ⟨rfl, rfl⟩
      · rw [pk_un q, pk_un q, ne _ (by omega) (by omega) (by omega), ne _ (by omega) (by omega) (by omega)]
        exact h6 t (by omega)
    · have hh : hm ε k (δ 1) = hm δ k (δ 1) := hm_congr fun h hh => ne (37 + h) (by omega) (by omega) (by omega)
      rw [x0]
      show upd masks a (nI (hm δ a (δ 1) ||| 2 ^ δ 1)) k = nI (hm ε k (δ 1) ||| (if ε (37 + δ 1) = k then 2 ^ δ 1 else 0))
      rw [hh, x1]
      by_cases q : k = a
      · subst q
        rw [pk_us, if_pos rfl]
      · rw [pk_un q, if_neg (fun z => q z.symm), Nat.or_zero]
        exact h7 k hk
