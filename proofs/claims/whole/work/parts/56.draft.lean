/-! what a text has told so far, on both sides -/
def Wdr (δ : Td) : Prop := δ 0 ≤ 8 ∧ δ 1 ≤ 7 ∧ δ 2 ≤ 99 ∧ (1 ≤ δ 3 ∧ δ 3 ≤ 60) ∧ δ 4 < 2 ^ δ 0 ∧ (∀ t, t < δ 0 → kd δ t ≤ 4 ∧ dy δ t ≤ 9 ∧ hp δ t ≤ 5 ∧ nx δ t ≤ 7) ∧ ∀ h, h < δ 1 → sk δ h ≤ 4 ∧ pr δ h ≤ 20
theorem Wdr.wf {δ : Td} (h : Wdr δ) (h0 : 1 ≤ δ 0) (hn : ∀ t, t < δ 0 → nx δ t < δ 0) : Wf δ := ⟨⟨h0, h.1⟩, h.2.1, h.2.2.1, h.2.2.2.1, h.2.2.2.2.1, fun t ht => ⟨(h.2.2.2.2.2.1 t ht).1, (h.2.2.2.2.2.1 t ht).2.1, (h.2.2.2.2.2.1 t ht).2.2.1, hn t ht⟩, h.2.2.2.2.2.2⟩
def DrI (δ : Td) (tasks helpers askedFirst crumbsFirst lastDay : Int32) (kinds days rideDays helpKinds nexts helperKinds prices masks draft : Nat → Int32) : Prop := Wdr δ ∧ MoR δ tasks helpers askedFirst crumbsFirst lastDay kinds days rideDays helpKinds nexts helperKinds prices masks ∧ ToR δ draft
theorem hm_congr {δ δ' : Td} {k : Nat} : ∀ {n}, (∀ h, h < n → sk δ' h = sk δ h) → hm δ' k n = hm δ k n
  | 0, _ => rfl
  | n + 1, h => by rw [hm, hm, hm_congr (n := n) fun i hi => h i (by omega), h n (by omega)]
def updN (δ : Td) (j x : Nat) : Td := fun i => if i = j then x else δ i
theorem updN_s {δ : Td} {j x : Nat} : updN δ j x j = x := if_pos rfl
theorem updN_n {δ : Td} {i j x : Nat} (h : i ≠ j) : updN δ j x i = δ i := if_neg h
theorem ToR.put {δ : Td} {draft : Nat → Int32} (h : ToR δ draft) {j x : Nat} (hx : x < 256) : ToR (updN δ j x) (upd draft j (nI x)) := by
  intro i hi
  by_cases q : i = j
  · subst q; rw [pk_us, updN_s]; exact ⟨rfl, hx⟩
  · rw [pk_un q, updN_n q]; exact h i hi
theorem DrI.crumbs {δ : Td} {tasks helpers askedFirst crumbsFirst lastDay : Int32} {kinds days rideDays helpKinds nexts helperKinds prices masks draft : Nat → Int32} (h : DrI δ tasks helpers askedFirst crumbsFirst lastDay kinds days rideDays helpKinds nexts helperKinds prices masks draft) {x : Nat} (hx : x ≤ 99) : ∃ δ', DrI δ' tasks helpers askedFirst (nI x) lastDay kinds days rideDays helpKinds nexts helperKinds prices masks (upd draft 2 (nI x)) := by
  obtain ⟨hw, ⟨h0, h1, h2, h3, h4, h5, h6, h7⟩, ht⟩ := h
  have ne : ∀ i, i ≠ 2 → updN δ 2 x i = δ i := fun i hi => updN_n hi
  refine ⟨updN δ 2 x, ?_, ?_, ht.put (by omega)⟩
  · refine ⟨hw.1, hw.2.1, by rw [updN_s]; exact hx, hw.2.2.2.1, hw.2.2.2.2.1, fun t htt => ?_, fun t htt => ?_⟩
    · have := hw.2.2.2.2.2.1 t htt
      show updN δ 2 x (5 + t) ≤ 4 ∧ updN δ 2 x (13 + t) ≤ 9 ∧ updN δ 2 x (21 + t) ≤ 5 ∧ updN δ 2 x (29 + t) ≤ 7
      rw [ne _ (by omega), ne _ (by omega), ne _ (by omega), ne _ (by omega)]
      exact this
    · have := hw.2.2.2.2.2.2 t htt
      show updN δ 2 x (37 + t) ≤ 4 ∧ updN δ 2 x (44 + t) ≤ 20
      rw [ne _ (by omega), ne _ (by omega)]
      exact this
  · refine ⟨h0, h1, h2, by rw [updN_s], h4, fun t htt => ?_, fun t htt => ?_, fun k hk => ?_⟩
    · have := h5 t htt
      unfold rdy at this ⊢
      show _ = nI (updN δ 2 x (5 + t)) ∧ _ = nI (updN δ 2 x (13 + t)) ∧ _ = nI (if updN δ 2 x (5 + t) = 2 then 0 else updN δ 2 x (13 + t)) ∧ _ = nI (updN δ 2 x (21 + t)) ∧ _ = nI (updN δ 2 x (29 + t))
      rw [ne _ (by omega), ne _ (by omega), ne _ (by omega), ne _ (by omega)]
      exact this
    · have := h6 t htt
      show _ = nI (updN δ 2 x (37 + t)) ∧ _ = nI (updN δ 2 x (44 + t))
      rw [ne _ (by omega), ne _ (by omega)]
      exact this
    · rw [h7 k hk, ne 1 (by decide), hm_congr fun h hh => ne (37 + h) (by omega)]
