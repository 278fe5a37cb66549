/-! laying: what is told at first, fault, lay -/
def d0 : Td := fun i => if i = 2 then 20 else if i = 3 then 30 else 0
theorem DrI.start {kinds days rideDays helpKinds nexts helperKinds prices masks draft : Nat → Int32} (hmk : ∀ k, k < 5 → masks k = 0) (hd : ∀ i, i < 51 → draft i = nI (d0 i)) : DrI d0 0 0 0 20 30 kinds days rideDays helpKinds nexts helperKinds prices masks draft := by
  have z : d0 0 = 0 := rfl
  have z1 : d0 1 = 0 := rfl
  refine ⟨⟨by decide, by decide, by decide, by decide, by decide, fun t ht => by omega, fun h hh => by omega⟩, ⟨rfl, rfl, rfl, rfl, rfl, fun t ht => by omega, fun h hh => by omega, fun k hk => hmk k hk⟩, fun i hi => ⟨hd i hi, ?_⟩⟩
  unfold d0
  split
  · decide
  · split <;> decide
theorem xX0_clear_loop : ∀ (m k fuel : Nat) (masks : Nat → Int32), k + m = 5 → m < fuel → (∀ i, i < k → masks i = 0) → ∃ masks', lp_X0_clear_29 fuel (nI k) masks = some masks' ∧ ∀ i, i < 5 → masks' i = 0 := by
  intro m
  induction m with
  | zero =>
    intro k fuel masks hk hfu h
    obtain ⟨n, rfl⟩ : ∃ n, fuel = n + 1 := ⟨fuel - 1, by omega⟩
    refine ⟨masks, ?_, fun i hi => h i (by omega)⟩
    rw [lp_X0_clear_29, if_pos (show (5 : Int32) ≤ nI _ from nI_le (a := 5) (by omega) (by omega))]
  | succ m ih =>
    intro k fuel masks hk hfu h
    obtain ⟨n, rfl⟩ : ∃ n, fuel = n + 1 := ⟨fuel - 1, by omega⟩
    obtain ⟨masks', h1, h2⟩ := ih (k + 1) n (upd masks k (0 : Int32)) (by omega) (by omega) (fun i hi => by
      by_cases q : i = k
      · subst q; rw [pk_us]
      · rw [pk_un q]; exact h i (by omega))
    refine ⟨masks', ?_, h2⟩
    have e : m_X5_setNumber 5 masks (nI k) (0 : Int32) = some (upd masks k (0 : Int32)) := by
      unfold m_X5_setNumber
      rw [if_neg (nI_pos (by omega)), if_neg (show ¬ Int32.ofNat 5 ≤ nI k from nI_ge (b := 5) (by omega) (by decide)), if_pos (j_in (by omega) (by decide)), j_clamp (by omega)]
    rw [lp_X0_clear_29, if_neg (show ¬ (5 : Int32) ≤ nI _ from nI_ge (b := 5) (by omega) (by decide)), e, Option.bind_some, nI_1]
    exact h1
theorem xX0_clear {N : Nat} (hN : 100 ≤ N) (masks : Nat → Int32) : ∃ masks', m_X0_clear N masks = some (0, 0, 0, 20, 30, masks') ∧ ∀ i, i < 5 → masks' i = 0 := by
  obtain ⟨masks', h1, h2⟩ := xX0_clear_loop 5 0 N masks (by omega) (by omega) (fun i hi => by omega)
  refine ⟨masks', ?_, h2⟩
  unfold m_X0_clear
  have e : lp_X0_clear_29 N (0 : Int32) masks = some masks' := h1
  rw [e]
  rfl
theorem xX6_begins_loop : ∀ (m k fuel : Nat) (draft : Nat → Int32), k + m = 51 → m < fuel → (∀ i, i < k → draft i = 0) → ∃ draft', lp_X6_begins_2 fuel (nI k) draft = some draft' ∧ ∀ i, i < 51 → draft' i = 0 := by
  intro m
  induction m with
  | zero =>
    intro k fuel draft hk hfu h
    obtain ⟨n, rfl⟩ : ∃ n, fuel = n + 1 := ⟨fuel - 1, by omega⟩
    refine ⟨draft, ?_, fun i hi => h i (by omega)⟩
    rw [lp_X6_begins_2, if_pos (show (51 : Int32) ≤ nI _ from nI_le (a := 51) (by omega) (by omega))]
  | succ m ih =>
    intro k fuel draft hk hfu h
    obtain ⟨n, rfl⟩ : ∃ n, fuel = n + 1 := ⟨fuel - 1, by omega⟩
    obtain ⟨draft', h1, h2⟩ := ih (k + 1) n (upd draft k (0 : Int32)) (by omega) (by omega) (fun i hi => by
      by_cases q : i = k
      · subst q; rw [pk_us]
      · rw [pk_un q]; exact h i (by omega))
    refine ⟨draft', ?_, h2⟩
    rw [lp_X6_begins_2, if_neg (show ¬ (51 : Int32) ≤ nI _ from nI_ge (b := 51) (by omega) (by decide)), if_pos (j_in (by omega) (by decide)), j_clamp (by omega), nI_1]
    exact h1
theorem xX6_begins {N : Nat} (hN : 100 ≤ N) (draft : Nat → Int32) : ∃ draft', m_X6_begins N draft = some draft' ∧ ∀ i, i < 51 → draft' i = nI (d0 i) := by
  obtain ⟨r, h1, h2⟩ := xX6_begins_loop 51 0 N draft (by omega) (by omega) (fun i hi => by omega)
  refine ⟨upd (upd r 2 (20 : Int32)) 3 (30 : Int32), ?_, fun i hi => ?_⟩
  · unfold m_X6_begins
    have e : lp_X6_begins_2 N (0 : Int32) draft = some r := h1
    rw [e]
    rfl
  · unfold d0
    by_cases q3 : i = 3
    · subst q3; rw [pk_us]; rfl
    · rw [pk_un q3]
      by_cases q2 : i = 2
      · subst q2; rw [pk_us]; rfl
      · rw [pk_un q2, h2 i hi, if_neg q2, if_neg q3]; rfl
theorem TxI.tx {n : Nat} {letters typed : Int32} {text mtext : Nat → Int32} (h : TxI n letters text typed mtext) : ∃ T, Tx T n text ∧ Tx T n mtext := by
  have key : ∀ i, i < n → text i = nI ((text i).toNatClampNeg) ∧ mtext i = nI ((text i).toNatClampNeg) ∧ (text i).toNatClampNeg < 1000 := fun i hi => by
    obtain ⟨c, c1, c2, e1, e2⟩ := h.2.2.2 i hi
    rw [e1, e2, nI_clamp (by omega)]
    exact ⟨rfl, rfl, by omega⟩
  exact ⟨fun i => (text i).toNatClampNeg, fun i hi => ⟨(key i hi).1, (key i hi).2.2⟩, fun i hi => ⟨(key i hi).2.1, (key i hi).2.2⟩⟩
/-- what the class read and what the reference read are the same -/
def DrC (δ : Td) (cr : CR) (draft : Nat → Int32) : Prop := DrI δ cr.2.1 cr.2.2.1 cr.2.2.2.1 cr.2.2.2.2.1 cr.2.2.2.2.2.1 cr.2.2.2.2.2.2.1 cr.2.2.2.2.2.2.2.1 cr.2.2.2.2.2.2.2.2.1 cr.2.2.2.2.2.2.2.2.2.1 cr.2.2.2.2.2.2.2.2.2.2.1 cr.2.2.2.2.2.2.2.2.2.2.2.1 cr.2.2.2.2.2.2.2.2.2.2.2.2.1 cr.2.2.2.2.2.2.2.2.2.2.2.2.2.1 draft
theorem reads {T : Nat → Nat} {n L N : Nat} {text mtext : Nat → Int32} (ht : Tx T n text) (htm : Tx T n mtext) (hn : n ≤ L) (hn2 : n ≤ 200) (hL : L < 2 ^ 20) (hN : 1000 ≤ N) (kinds days rideDays helpKinds nexts helperKinds prices masks numbers draft : Nat → Int32) : ∃ (cr : CR) (mr : Int32 × Int32 × (Nat → Int32)), m_X0_readFrom N kinds days rideDays helpKinds nexts helperKinds prices masks numbers L text (nI n) = some cr ∧ m_X6_readsAll N (nI n) mtext draft = some mr ∧ mr.1 = cr.1 ∧ ((cr.1 = -4 ∧ ∃ δ, DrC δ cr mr.2.2) ∨ ∃ p, p < n ∧ cr.1 = nI p) := by
  obtain ⟨masks', e1, m1⟩ := xX0_clear (N := N) (by omega) masks
  obtain ⟨draft', e2, m2⟩ := xX6_begins (N := N) (by omega) draft
  have hd := DrI.start (kinds := kinds) (days := days) (rideDays := rideDays) (helpKinds := helpKinds) (nexts := nexts) (helperKinds := helperKinds) (prices := prices) m1 m2
  unfold m_X0_readFrom m_X6_readsAll
  rw [e1, Option.bind_some, e2, Option.bind_some]
  rcases reads_loop (N := N) ht htm hn hn2 hL (by omega) n 0 N N d0 0 0 0 20 30 kinds days rideDays helpKinds nexts helperKinds prices masks' numbers draft' (Nat.zero_le n) (by omega) (by omega) (by omega) hd with ⟨δ, t', h', a', c', l', k1, k2, k3, k4, k5, k6, k7, k8, k9, dr, at', f1, f2, f3⟩ | ⟨p, x, y, hp, f1, f2⟩
  · have g1 : lp_X0_readFrom_6 N (nI n) L text N (0 : Int32) 0 0 0 20 30 kinds days rideDays helpKinds nexts helperKinds prices masks' numbers = some (Sum.inl (t', h', a', c', l', k1, k2, k3, k4, k5, k6, k7, k8, k9)) := f1
    have g2 : lp_X6_readsAll_9 (nI n) mtext N (0 : Int32) draft' = some (Sum.inl (at', dr)) := f2
    refine ⟨(-4, t', h', a', c', l', k1, k2, k3, k4, k5, k6, k7, k8, k9), (-4, at', dr), ?_, ?_, rfl, Or.inl ⟨rfl, δ, f3⟩⟩
    · show (lp_X0_readFrom_6 N (nI n) L text N (0 : Int32) 0 0 0 20 30 kinds days rideDays helpKinds nexts helperKinds prices masks' numbers).bind _ = _
      rw [g1]
      rfl
    · rw [g2]
      rfl
  · have g1 : lp_X0_readFrom_6 N (nI n) L text N (0 : Int32) 0 0 0 20 30 kinds days rideDays helpKinds nexts helperKinds prices masks' numbers = some (Sum.inr (nI p, x)) := f1
    have g2 : lp_X6_readsAll_9 (nI n) mtext N (0 : Int32) draft' = some (Sum.inr (nI p, y)) := f2
    refine ⟨(nI p, x), (nI p, y), ?_, ?_, rfl, Or.inr ⟨p, hp, rfl⟩⟩
    · show (lp_X0_readFrom_6 N (nI n) L text N (0 : Int32) 0 0 0 20 30 kinds days rideDays helpKinds nexts helperKinds prices masks' numbers).bind _ = _
      rw [g1]
      rfl
    · rw [g2]
      rfl
theorem op_fault {n N : Nat} (hN : 1000 ≤ N) {letters typed : Int32} {text mtext : Nat → Int32} (h : TxI n letters text typed mtext) (kinds days rideDays helpKinds nexts helperKinds prices masks numbers draft : Nat → Int32) : ∃ (cr : CR) (at' : Int32) (draft' : Nat → Int32), m_X5_fault N letters text kinds days rideDays helpKinds nexts helperKinds prices masks numbers = some cr ∧ m_X6_fault N typed mtext draft = some (cr.1, at', draft') := by
  obtain ⟨T, t1, t2⟩ := h.tx
  obtain ⟨cr, mr, e1, e2, e3, -⟩ := reads t1 t2 h.1 h.1 (by decide) hN kinds days rideDays helpKinds nexts helperKinds prices masks numbers draft
  refine ⟨cr, mr.2.1, mr.2.2, ?_, ?_⟩
  · unfold m_X5_fault
    rw [h.2.1, e1]
    rfl
  · unfold m_X6_fault
    rw [h.2.2.1, e2, ← e3]
    rfl
/-- can it be laid -/
def nxok (δ : Td) : Nat → Bool
  | 0 => true
  | k + 1 => nxok δ k && decide (nx δ k < δ 0)
theorem nxok_all {δ : Td} : ∀ {k}, nxok δ k = true → ∀ t, t < k → nx δ t < δ 0 := by
  intro k
  induction k with
  | zero => intro _ t ht; omega
  | succ k ih =>
    intro h t ht
    rw [nxok, Bool.and_eq_true, decide_eq_true_eq] at h
    by_cases q : t = k
    · subst q; exact h.2
    · exact ih h.1 t (by omega)
theorem nxok_none {δ : Td} : ∀ {k n}, k ≤ n → nxok δ k = false → nxok δ n = false := by
  intro k n
  induction n with
  | zero => intro hk h; have : k = 0 := by omega
            subst this; exact h
  | succ n ih =>
    intro hk h
    by_cases q : k = n + 1
    · subst q; exact h
    · rw [nxok, ih (by omega) h, Bool.false_and]
theorem canBeLaid_loop {δ : Td} {nexts : Nat → Int32} (h8 : δ 0 ≤ 8) (hn7 : ∀ t, t < δ 0 → nx δ t ≤ 7) (hn : ∀ t, t < δ 0 → nexts t = nI (nx δ t)) : ∀ (m k fuel : Nat), k + m = δ 0 → m < fuel → nxok δ k = true → lp_X0_canBeLaid_2 (nI (δ 0)) nexts fuel (nI k) = some (if nxok δ (δ 0) then Sum.inl () else Sum.inr ()) := by
  intro m
  induction m with
  | zero =>
    intro k fuel hk hfu h
    obtain ⟨n, rfl⟩ : ∃ n, fuel = n + 1 := ⟨fuel - 1, by omega⟩
    have : k = δ 0 := by omega
    rw [← this, lp_X0_canBeLaid_2, if_pos (nI_le (by omega) (by omega)), if_pos h]
  | succ m ih =>
    intro k fuel hk hfu h
    obtain ⟨n, rfl⟩ : ∃ n, fuel = n + 1 := ⟨fuel - 1, by omega⟩
    have e : m_X0_nextOf nexts (nI k) = some (nI (nx δ k)) := by
      unfold m_X0_nextOf
      rw [if_neg (nI_pos (by omega)), if_neg (show ¬ (8 : Int32) ≤ nI k from nI_ge (b := 8) (by omega) (by decide)), if_pos (j_in (by omega) (by decide)), j_clamp (by omega), hn k (by omega)]
    have e2 : m_X0_hasTask (nI (δ 0)) (nI (nx δ k)) = some (if nx δ k < δ 0 then 1 else 0) := by
      have := hn7 k (by omega)
      unfold m_X0_hasTask
      rw [if_neg (nI_pos (by omega))]
      by_cases q : nx δ k < δ 0
      · rw [if_neg (nI_ge q (by omega)), if_pos q]
      · rw [if_pos (nI_le (by omega) (by omega)), if_neg q]
    rw [lp_X0_canBeLaid_2, if_neg (nI_ge (by omega) (by omega)), e, Option.bind_some, e2, Option.bind_some]
    by_cases q : nx δ k < δ 0
    · rw [if_pos q, if_neg n10, nI_1]
      exact ih (k + 1) n (by omega) (by omega) (by rw [nxok, h, decide_eq_true q]; rfl)
    · have f : nxok δ (k + 1) = false := by rw [nxok, decide_eq_false q, Bool.and_false]
      rw [if_neg q, if_pos (show (0 : Int32) = 0 from rfl), nxok_none (show k + 1 ≤ δ 0 by omega) f]
      rfl
theorem lay_loop {δ : Td} {draft : Nat → Int32} (hd : ToR δ draft) (h8 : δ 0 ≤ 8) (hn7 : ∀ t, t < δ 0 → nx δ t ≤ 7) : ∀ (m k fuel : Nat), k + m = δ 0 → m < fuel → lp_X6_lay_26 draft fuel (if nxok δ k then 1 else 0) (nI k) = some (if nxok δ (δ 0) then 1 else 0) := by
  intro m
  induction m with
  | zero =>
    intro k fuel hk hfu
    obtain ⟨n, rfl⟩ : ∃ n, fuel = n + 1 := ⟨fuel - 1, by omega⟩
    have : k = δ 0 := by omega
    rw [← this, lp_X6_lay_26, (hd 0 (by decide)).1, if_pos (nI_le (by omega) (by omega))]
  | succ m ih =>
    intro k fuel hk hfu
    obtain ⟨n, rfl⟩ : ∃ n, fuel = n + 1 := ⟨fuel - 1, by omega⟩
    have h7 := hn7 k (by omega)
    rw [lp_X6_lay_26, (hd 0 (by decide)).1, if_neg (nI_ge (by omega) (by omega))]
    cases hk1 : nxok δ k with
    | false =>
      rw [if_neg (show ¬ (false = true) by decide), if_pos (show (0 : Int32) = 0 from rfl), nxok_none (show k ≤ δ 0 by omega) hk1]
      rfl
    | true =>
      rw [if_pos (show true = true from rfl), if_neg n10, j_a29, if_pos (j_in (by omega) (by decide)), j_clamp (by omega), (hd (29 + k) (by omega)).1, nI_1]
      have := ih (k + 1) n (by omega) (by omega)
      rw [nxok, hk1, Bool.true_and] at this
      by_cases q : nx δ k < δ 0
      · rw [if_neg (show ¬ nI (δ 0) ≤ nI (δ (29 + k)) from nI_ge q (by omega))]
        rw [decide_eq_true q] at this
        exact this
      · rw [if_pos (show nI (δ 0) ≤ nI (δ (29 + k)) from nI_le (a := δ 0) (b := nx δ k) (by omega) (by omega))]
        rw [decide_eq_false q] at this
        exact this
