/-! what a text has told so far, on both sides -/
def Wdr (δ : Td) : Prop := δ 0 ≤ 8 ∧ δ 1 ≤ 7 ∧ δ 2 ≤ 99 ∧ (1 ≤ δ 3 ∧ δ 3 ≤ 60) ∧ δ 4 < 2 ^ δ 0 ∧ (∀ t, t < δ 0 → kd δ t ≤ 4 ∧ dy δ t ≤ 9 ∧ hp δ t ≤ 5 ∧ nx δ t ≤ 7) ∧ ∀ h, h < δ 1 → sk δ h ≤ 4 ∧ pr δ h ≤ 20
theorem Wdr.wf {δ : Td} (h : Wdr δ) (h0 : 1 ≤ δ 0) (hn : ∀ t, t < δ 0 → nx δ t < δ 0) : Wf δ := ⟨⟨h0, h.1⟩, h.2.1, h.2.2.1, h.2.2.2.1, h.2.2.2.2.1, fun t ht => ⟨(h.2.2.2.2.2.1 t ht).1, (h.2.2.2.2.2.1 t ht).2.1, (h.2.2.2.2.2.1 t ht).2.2.1, hn t ht⟩, h.2.2.2.2.2.2⟩
def DrI (δ : Td) (tasks helpers askedFirst crumbsFirst lastDay : Int32) (kinds days rideDays helpKinds nexts helperKinds prices masks draft : Nat → Int32) : Prop := Wdr δ ∧ MoR δ tasks helpers askedFirst crumbsFirst lastDay kinds days rideDays helpKinds nexts helperKinds prices masks ∧ ToR δ draft
theorem hm_congr {δ δ' : Td} {k : Nat} : ∀ {n}, (∀ h, h < n → sk δ' h = sk δ h) → hm δ' k n = hm δ k n
  | 0, _ => rfl
  | n + 1, h => by rw [hm, hm, hm_congr (n := n) fun i hi => h i (by omega), h n (by omega)]
def updN (δ : Td) (j x : Nat) : Td := fun i => if i = j then x else δ i
theorem updN_s {δ : Td} {j x : Nat} : updN δ j x j = x := if_pos rfl
theorem updN_n {δ : Td} {i j x : Nat} (h : i ≠ j) : updN δ j x i = δ i := if_neg h
theorem ToR.put {δ : Td} {draft : Nat → Int32} (h : ToR δ draft) {j x : Nat} (hx : x < 256) : ToR (updN δ j x) (upd draft j (nI x)) := by
  intro i hi
  by_cases q : i = j
  · subst q; rw [pk_us, updN_s]; exact ⟨rfl, hx⟩
  · rw [pk_un q, updN_n q]; exact h i hi
theorem DrI.scal {δ δ' : Td} {tasks helpers askedFirst crumbsFirst lastDay : Int32} {kinds days rideDays helpKinds nexts helperKinds prices masks draft draft' : Nat → Int32} (h : DrI δ tasks helpers askedFirst crumbsFirst lastDay kinds days rideDays helpKinds nexts helperKinds prices masks draft) (ne : ∀ i, i = 0 ∨ i = 1 ∨ 5 ≤ i → δ' i = δ i) (b2 : δ' 2 ≤ 99) (b3 : 1 ≤ δ' 3 ∧ δ' 3 ≤ 60) (b4 : δ' 4 < 2 ^ δ 0) (ht' : ToR δ' draft') : DrI δ' tasks helpers (nI (δ' 4)) (nI (δ' 2)) (nI (δ' 3)) kinds days rideDays helpKinds nexts helperKinds prices masks draft' := by
  obtain ⟨hw, ⟨h0, h1, h2, h3, h4, h5, h6, h7⟩, -⟩ := h
  have e0 := ne 0 (Or.inl rfl)
  have e1 := ne 1 (Or.inr (Or.inl rfl))
  have e5 : ∀ i, 5 ≤ i → δ' i = δ i := fun i hi => ne i (Or.inr (Or.inr hi))
  refine ⟨?_, ?_, ht'⟩
  · refine ⟨by rw [e0]; exact hw.1, by rw [e1]; exact hw.2.1, b2, b3, by rw [e0]; exact b4, fun t htt => ?_, fun t htt => ?_⟩
    · have := hw.2.2.2.2.2.1 t (by rw [← e0]; exact htt)
      show δ' (5 + t) ≤ 4 ∧ δ' (13 + t) ≤ 9 ∧ δ' (21 + t) ≤ 5 ∧ δ' (29 + t) ≤ 7
      rw [e5 _ (by omega), e5 _ (by omega), e5 _ (by omega), e5 _ (by omega)]
      exact this
    · have := hw.2.2.2.2.2.2 t (by rw [← e1]; exact htt)
      show δ' (37 + t) ≤ 4 ∧ δ' (44 + t) ≤ 20
      rw [e5 _ (by omega), e5 _ (by omega)]
      exact this
  · refine ⟨by rw [e0]; exact h0, by rw [e1]; exact h1, rfl, rfl, rfl, fun t htt => ?_, fun t htt => ?_, fun k hk => ?_⟩
    · have := h5 t (by rw [← e0]; exact htt)
      unfold rdy at this ⊢
      show _ = nI (δ' (5 + t)) ∧ _ = nI (δ' (13 + t)) ∧ _ = nI (if δ' (5 + t) = 2 then 0 else δ' (13 + t)) ∧ _ = nI (δ' (21 + t)) ∧ _ = nI (δ' (29 + t))
      rw [e5 _ (by omega), e5 _ (by omega), e5 _ (by omega), e5 _ (by omega)]
      exact this
    · have := h6 t (by rw [← e1]; exact htt)
      show _ = nI (δ' (37 + t)) ∧ _ = nI (δ' (44 + t))
      rw [e5 _ (by omega), e5 _ (by omega)]
      exact this
    · rw [h7 k hk, e1, hm_congr fun h hh => e5 (37 + h) (by omega)]
theorem DrI.crumbs {δ : Td} {tasks helpers askedFirst crumbsFirst lastDay : Int32} {kinds days rideDays helpKinds nexts helperKinds prices masks draft : Nat → Int32} (h : DrI δ tasks helpers askedFirst crumbsFirst lastDay kinds days rideDays helpKinds nexts helperKinds prices masks draft) {x : Nat} (hx : x ≤ 99) : ∃ δ', DrI δ' tasks helpers askedFirst (nI x) lastDay kinds days rideDays helpKinds nexts helperKinds prices masks (upd draft 2 (nI x)) := by
  have h1 := h.scal (δ' := updN δ 2 x) (draft' := upd draft 2 (nI x)) (fun i hi => updN_n (by omega)) (by rw [updN_s]; exact hx) (by rw [updN_n (by decide)]; exact h.1.2.2.2.1) (by rw [updN_n (by decide)]; exact h.1.2.2.2.2.1) (h.2.2.put (by omega))
  rw [updN_s, updN_n (by decide), updN_n (by decide), ← h.2.1.2.2.1, ← h.2.1.2.2.2.2.1] at h1
  exact ⟨_, h1⟩
theorem DrI.last {δ : Td} {tasks helpers askedFirst crumbsFirst lastDay : Int32} {kinds days rideDays helpKinds nexts helperKinds prices masks draft : Nat → Int32} (h : DrI δ tasks helpers askedFirst crumbsFirst lastDay kinds days rideDays helpKinds nexts helperKinds prices masks draft) {x : Nat} (hx1 : 1 ≤ x) (hx : x ≤ 60) : ∃ δ', DrI δ' tasks helpers askedFirst crumbsFirst (nI x) kinds days rideDays helpKinds nexts helperKinds prices masks (upd draft 3 (nI x)) := by
  have h1 := h.scal (δ' := updN δ 3 x) (draft' := upd draft 3 (nI x)) (fun i hi => updN_n (by omega)) (by rw [updN_n (by decide)]; exact h.1.2.2.1) (by rw [updN_s]; exact ⟨hx1, hx⟩) (by rw [updN_n (by decide)]; exact h.1.2.2.2.2.1) (h.2.2.put (by omega))
  rw [updN_s, updN_n (by decide), updN_n (by decide), ← h.2.1.2.2.1, ← h.2.1.2.2.2.1] at h1
  exact ⟨_, h1⟩
theorem DrI.ask {δ : Td} {tasks helpers askedFirst crumbsFirst lastDay : Int32} {kinds days rideDays helpKinds nexts helperKinds prices masks draft : Nat → Int32} (h : DrI δ tasks helpers askedFirst crumbsFirst lastDay kinds days rideDays helpKinds nexts helperKinds prices masks draft) {x : Nat} (hx : x < δ 0) : ∃ δ', DrI δ' tasks helpers (nI (δ 4 ||| 2 ^ x)) crumbsFirst lastDay kinds days rideDays helpKinds nexts helperKinds prices masks (upd draft 4 (nI (δ 4 ||| 2 ^ x))) := by
  have hlt : δ 4 ||| 2 ^ x < 2 ^ δ 0 := or_lt h.1.2.2.2.2.1 (p2_lt hx)
  have h8 : 2 ^ δ 0 ≤ 2 ^ 8 := Nat.pow_le_pow_right (by decide) h.1.1
  have h1 := h.scal (δ' := updN δ 4 (δ 4 ||| 2 ^ x)) (draft' := upd draft 4 (nI (δ 4 ||| 2 ^ x))) (fun i hi => updN_n (by omega)) (by rw [updN_n (by decide)]; exact h.1.2.2.1) (by rw [updN_n (by decide)]; exact h.1.2.2.2.1) (by rw [updN_s]; exact hlt) (h.2.2.put (by omega))
  rw [updN_s, updN_n (by decide), updN_n (by decide), ← h.2.1.2.2.2.1, ← h.2.1.2.2.2.2.1] at h1
  exact ⟨_, h1⟩
/-- one task more -/
theorem DrI.task {δ : Td} {tasks helpers askedFirst crumbsFirst lastDay : Int32} {kinds days rideDays helpKinds nexts helperKinds prices masks draft : Nat → Int32} (h : DrI δ tasks helpers askedFirst crumbsFirst lastDay kinds days rideDays helpKinds nexts helperKinds prices masks draft) {a b c d : Nat} (ha : a ≤ 4) (hb : b ≤ 9) (hc : c ≤ 5) (hd : d ≤ 7) (hT : δ 0 < 8) : ∃ δ', DrI δ' (nI (δ 0 + 1)) helpers askedFirst crumbsFirst lastDay (upd kinds (δ 0) (nI a)) (upd days (δ 0) (nI b)) (upd rideDays (δ 0) (nI (if a = 2 then 0 else b))) (upd helpKinds (δ 0) (nI c)) (upd nexts (δ 0) (nI d)) helperKinds prices masks (upd (upd (upd (upd (upd draft (5 + δ 0) (nI a)) (13 + δ 0) (nI b)) (21 + δ 0) (nI c)) (29 + δ 0) (nI d)) 0 (nI (δ 0 + 1))) := by
  obtain ⟨hw, ⟨h0, h1, h2, h3, h4, h5, h6, h7⟩, ht⟩ := h
  have hto := ((((ht.put (j := 5 + δ 0) (x := a) (by omega)).put (j := 13 + δ 0) (x := b) (by omega)).put (j := 21 + δ 0) (x := c) (by omega)).put (j := 29 + δ 0) (x := d) (by omega)).put (j := 0) (x := δ 0 + 1) (by omega)
  have ne : ∀ i, i ≠ 0 → i ≠ 5 + δ 0 → i ≠ 13 + δ 0 → i ≠ 21 + δ 0 → i ≠ 29 + δ 0 → updN (updN (updN (updN (updN δ (5 + δ 0) a) (13 + δ 0) b) (21 + δ 0) c) (29 + δ 0) d) 0 (δ 0 + 1) i = δ i := fun i q0 q1 q2 q3 q4 => by
    rw [updN_n q0, updN_n q4, updN_n q3, updN_n q2, updN_n q1]
  have x1 : updN (updN (updN (updN (updN δ (5 + δ 0) a) (13 + δ 0) b) (21 + δ 0) c) (29 + δ 0) d) 0 (δ 0 + 1) (5 + δ 0) = a := by
    rw [updN_n (by omega), updN_n (by omega), updN_n (by omega), updN_n (by omega), updN_s]
  have x2 : updN (updN (updN (updN (updN δ (5 + δ 0) a) (13 + δ 0) b) (21 + δ 0) c) (29 + δ 0) d) 0 (δ 0 + 1) (13 + δ 0) = b := by
    rw [updN_n (by omega), updN_n (by omega), updN_n (by omega), updN_s]
  have x3 : updN (updN (updN (updN (updN δ (5 + δ 0) a) (13 + δ 0) b) (21 + δ 0) c) (29 + δ 0) d) 0 (δ 0 + 1) (21 + δ 0) = c := by
    rw [updN_n (by omega), updN_n (by omega), updN_s]
  have x4 : updN (updN (updN (updN (updN δ (5 + δ 0) a) (13 + δ 0) b) (21 + δ 0) c) (29 + δ 0) d) 0 (δ 0 + 1) (29 + δ 0) = d := by
    rw [updN_n (by omega), updN_s]
  have x0 : updN (updN (updN (updN (updN δ (5 + δ 0) a) (13 + δ 0) b) (21 + δ 0) c) (29 + δ 0) d) 0 (δ 0 + 1) 0 = δ 0 + 1 := updN_s
  refine ⟨updN (updN (updN (updN (updN δ (5 + δ 0) a) (13 + δ 0) b) (21 + δ 0) c) (29 + δ 0) d) 0 (δ 0 + 1), ?_, ?_, hto⟩
  · generalize updN (updN (updN (updN (updN δ (5 + δ 0) a) (13 + δ 0) b) (21 + δ 0) c) (29 + δ 0) d) 0 (δ 0 + 1) = ε at ne x0 x1 x2 x3 x4 ⊢
    have e1 := ne 1 (by omega) (by omega) (by omega) (by omega) (by omega)
    have e2 := ne 2 (by omega) (by omega) (by omega) (by omega) (by omega)
    have e3 := ne 3 (by omega) (by omega) (by omega) (by omega) (by omega)
    have e4 := ne 4 (by omega) (by omega) (by omega) (by omega) (by omega)
    refine ⟨by omega, by rw [e1]; exact hw.2.1, by rw [e2]; exact hw.2.2.1, by rw [e3]; exact hw.2.2.2.1, ?_, fun t htt => ?_, fun t htt => ?_⟩
    · rw [e4, x0]
      exact Nat.lt_trans hw.2.2.2.2.1 (Nat.pow_lt_pow_right (by decide) (by omega))
    · show ε (5 + t) ≤ 4 ∧ ε (13 + t) ≤ 9 ∧ ε (21 + t) ≤ 5 ∧ ε (29 + t) ≤ 7
      by_cases q : t = δ 0
      · subst q
        rw [x1, x2, x3, x4]
        exact ⟨ha, hb, hc, hd⟩
      · rw [ne _ (by omega) (by omega) (by omega) (by omega) (by omega), ne _ (by omega) (by omega) (by omega) (by omega) (by omega), ne _ (by omega) (by omega) (by omega) (by omega) (by omega), ne _ (by omega) (by omega) (by omega) (by omega) (by omega)]
        exact hw.2.2.2.2.2.1 t (by omega)
    · show ε (37 + t) ≤ 4 ∧ ε (44 + t) ≤ 20
      rw [ne _ (by omega) (by omega) (by omega) (by omega) (by omega), ne _ (by omega) (by omega) (by omega) (by omega) (by omega)]
      exact hw.2.2.2.2.2.2 t (by rw [← e1]; exact htt)
  · generalize updN (updN (updN (updN (updN δ (5 + δ 0) a) (13 + δ 0) b) (21 + δ 0) c) (29 + δ 0) d) 0 (δ 0 + 1) = ε at ne x0 x1 x2 x3 x4 ⊢
    have e1 := ne 1 (by omega) (by omega) (by omega) (by omega) (by omega)
    refine ⟨by rw [x0], by rw [e1]; exact h1, by rw [ne 4 (by omega) (by omega) (by omega) (by omega) (by omega)]; exact h2, by rw [ne 2 (by omega) (by omega) (by omega) (by omega) (by omega)]; exact h3, by rw [ne 3 (by omega) (by omega) (by omega) (by omega) (by omega)]; exact h4, fun t htt => ?_, fun t htt => ?_, fun k hk => ?_⟩
    · unfold rdy
      show _ = nI (ε (5 + t)) ∧ _ = nI (ε (13 + t)) ∧ _ = nI (if ε (5 + t) = 2 then 0 else ε (13 + t)) ∧ _ = nI (ε (21 + t)) ∧ _ = nI (ε (29 + t))
      by_cases q : t = δ 0
      · subst q
        rw [x1, x2, x3, x4, pk_us, pk_us, pk_us, pk_us, pk_us]
        exact ⟨rfl, rfl, rfl, rfl, rfl⟩
      · rw [pk_un q, pk_un q, pk_un q, pk_un q, pk_un q, ne _ (by omega) (by omega) (by omega) (by omega) (by omega), ne _ (by omega) (by omega) (by omega) (by omega) (by omega), ne _ (by omega) (by omega) (by omega) (by omega) (by omega), ne _ (by omega) (by omega) (by omega) (by omega) (by omega)]
        exact h5 t (by omega)
    · show _ = nI (ε (37 + t)) ∧ _ = nI (ε (44 + t))
      rw [ne _ (by omega) (by omega) (by omega) (by omega) (by omega), ne _ (by omega) (by omega) (by omega) (by omega) (by omega)]
      exact h6 t (by rw [← e1]; exact htt)
    · rw [h7 k hk, e1, hm_congr fun h hh => ne (37 + h) (by omega) (by omega) (by omega) (by omega) (by omega)]
