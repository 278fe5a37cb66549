/-! what can be reached from a standing (a0, b0, d0): X is what has been ridden for since -/
def Cn (τ : Td) (a0 b0 d0 X a b d : Nat) : Prop := (∀ i, X.testBit i = true → (come τ a0 b0).testBit i = true ∧ b0.testBit i = false) ∧ X < 2 ^ τ 0 ∧ a = a0 ||| nxs τ X (τ 0) ∧ b = b0 ||| X ∧ d = d0 + rds τ X (τ 0)
theorem nxs_0 (τ : Td) : ∀ n, nxs τ 0 n = 0
  | 0 => rfl
  | n + 1 => by rw [nxs, nxs_0 τ n, Nat.zero_testBit]; simp
theorem rds_0 (τ : Td) : ∀ n, rds τ 0 n = 0
  | 0 => rfl
  | n + 1 => by rw [rds, rds_0 τ n, Nat.zero_testBit]; rfl
theorem Cn.start (τ : Td) (a0 b0 d0 : Nat) : Cn τ a0 b0 d0 0 a0 b0 d0 := ⟨fun i hi => by simp at hi, Nat.two_pow_pos _, by rw [nxs_0, Nat.or_zero], by rw [Nat.or_zero], by rw [rds_0]; rfl⟩
theorem nxs_lt {τ : Td} (h : ∀ t, t < τ 0 → nx τ t < τ 0) (X : Nat) : ∀ n, n ≤ τ 0 → nxs τ X n < 2 ^ τ 0
  | 0, _ => Nat.two_pow_pos _
  | n + 1, hn => by
    rw [nxs]
    refine or_lt (nxs_lt h X n (by omega)) ?_
    split
    · exact p2_lt (h n (by omega))
    · exact Nat.two_pow_pos _
theorem Wf.nx {τ : Td} (hw : Wf τ) : ∀ t, t < τ 0 → nx τ t < τ 0 := fun t ht => (hw.2.2.2.2.2.1 t ht).2.2.2
theorem Wf.p8 {τ : Td} (hw : Wf τ) {x : Nat} (h : x < 2 ^ τ 0) : x < 256 := Nat.lt_of_lt_of_le h (Nat.pow_le_pow_right (n := 2) (by decide) hw.1.2 : 2 ^ τ 0 ≤ 2 ^ 8)
theorem Cn.lt {τ : Td} (hw : Wf τ) {a0 b0 d0 X a b d : Nat} (ha : a0 < 2 ^ τ 0) (hb : b0 < 2 ^ τ 0) (h : Cn τ a0 b0 d0 X a b d) : a < 2 ^ τ 0 ∧ b < 2 ^ τ 0 := by
  obtain ⟨-, hX, rfl, rfl, -⟩ := h
  exact ⟨or_lt ha (nxs_lt hw.nx X _ (Nat.le_refl _)), or_lt hb hX⟩
/-- what stands open may come -/
theorem Cn.in {τ : Td} (hw : Wf τ) {a0 b0 d0 X a b d t : Nat} (ha : a0 < 2 ^ τ 0) (hb : b0 < 2 ^ τ 0) (h : Cn τ a0 b0 d0 X a b d) (ht : (sd a b).testBit t = true) : t < τ 0 ∧ (come τ a0 b0).testBit t = true ∧ b0.testBit t = false ∧ X.testBit t = false ∧ b.testBit t = false := by
  have hal := (h.lt hw ha hb).1
  rw [sd_tb _ _ (Nat.lt_trans (hw.p8 hal) (by decide)), Bool.and_eq_true] at ht
  have htT : t < τ 0 := by
    rcases Nat.lt_or_ge t (τ 0) with q | q
    · exact q
    · rw [tb_hi hal q] at ht; cases ht.1
  have hbt : b.testBit t = false := by simpa using ht.2
  obtain ⟨hC, hX, rfl, rfl, -⟩ := h
  rw [Nat.testBit_or, Bool.or_eq_false_iff] at hbt
  refine ⟨htT, ?_, hbt.1, hbt.2, by rw [Nat.testBit_or, hbt.1, hbt.2]; rfl⟩
  have hs : sd a0 b0 < 2 ^ τ 0 := sd_lt ha
  rw [Nat.testBit_or, Bool.or_eq_true, nxs_tb] at ht
  rcases ht.1 with q | ⟨q, h1, h2, h3⟩
  · refine cmN_mono b0 8 _ t ?_
    rw [sd_tb _ _ (Nat.lt_trans (hw.p8 ha) (by decide)), q, hbt.1]; rfl
  · subst h3
    exact cmN_clo hs hw.1.2 hw.nx q h1 (hC q h2).1 hbt.1
theorem Cn.step {τ : Td} (hw : Wf τ) {a0 b0 d0 X a b d t : Nat} (ha : a0 < 2 ^ τ 0) (hb : b0 < 2 ^ τ 0) (h : Cn τ a0 b0 d0 X a b d) (ht : (sd a b).testBit t = true) : Cn τ a0 b0 d0 (X ||| 2 ^ t) (a ||| 2 ^ nx τ t) (b ||| 2 ^ t) (d + rdy τ t) := by
  obtain ⟨h1, h2, h3, h4, -⟩ := h.in hw ha hb ht
  obtain ⟨hC, hX, rfl, rfl, rfl⟩ := h
  refine ⟨fun i hi => ?_, or_lt hX (p2_lt h1), ?_, ?_, ?_⟩
  · rw [or_p2_tb, Bool.or_eq_true, decide_eq_true_eq] at hi
    rcases hi with hi | rfl
    · exact hC i hi
    · exact ⟨h2, h3⟩
  · rw [nxs_add h4 h1, Nat.or_assoc]
  · rw [Nat.or_assoc]
  · rw [rds_add h4 h1, Nat.add_assoc]
/-- the days of all that may come -/
def cd (τ : Td) (a0 b0 : Nat) : Nat := rds τ (come τ a0 b0) (τ 0)
theorem Cn.day {τ : Td} {a0 b0 d0 X a b d : Nat} (h : Cn τ a0 b0 d0 X a b d) : d ≤ d0 + cd τ a0 b0 := by
  obtain ⟨hC, hX, rfl, rfl, rfl⟩ := h
  exact Nat.add_le_add_left (rds_mono fun i _ hi => (hC i hi).1) _
/-- behind a row that brings all that is asked, all that may come has been ridden for -/
theorem Cn.end {τ : Td} (hw : Wf τ) {a0 b0 d0 X a b d : Nat} (ha : a0 < 2 ^ τ 0) (hb : b0 < 2 ^ τ 0) (h : Cn τ a0 b0 d0 X a b d) (h0 : sd a b = 0) : d = d0 + cd τ a0 b0 := by
  have hal := (h.lt hw ha hb).1
  refine Nat.le_antisymm h.day ?_
  have hz := (sd_zero (Nat.lt_trans (hw.p8 hal) (by decide))).mp h0
  obtain ⟨hC, hX, rfl, rfl, rfl⟩ := h
  refine Nat.add_le_add_left (rds_mono fun i _ hi => ?_) _
  refine cmN_min (fun t ht => Nat.lt_trans (Nat.lt_of_lt_of_le (hw.nx t ht) hw.1.2) (by decide)) (S := sd a0 b0) ?_ ?_ 8 i hi
  · intro j hj
    rw [sd_tb _ _ (Nat.lt_trans (hw.p8 ha) (by decide)), Bool.and_eq_true] at hj
    have := hz j (by rw [Nat.testBit_or, hj.1]; rfl)
    rw [Nat.testBit_or, Bool.or_eq_true] at this
    rcases this with q | q
    · rw [q] at hj; simp at hj
    · exact q
  · intro t ht hXt hbt
    have := hz (nx τ t) (by rw [Nat.testBit_or, Bool.or_eq_true]; exact Or.inr ((nxs_tb τ X _ _).mpr ⟨t, ht, hXt, rfl⟩))
    rw [Nat.testBit_or, hbt, Bool.false_or] at this
    exact this
/-- too many days: no row ends well -/
theorem rl_late {τ : Td} (hw : Wf τ) {F : Nat} {ok : Nat → Nat → Bool} {last a0 b0 d0 : Nat} (ha : a0 < 2 ^ τ 0) (hb : b0 < 2 ^ τ 0) (hlate : τ 3 < d0 + cd τ a0 b0) : ∀ (k r X a b u d : Nat), Cn τ a0 b0 d0 X a b d → d ≤ τ 3 → rl τ F ok last k r a b u d = [] := by
  intro k
  induction k with
  | zero =>
    intro r X a b u d h hd
    rw [rl]
    by_cases h0 : sd a b = 0
    · have := h.end hw ha hb h0; omega
    · rw [if_neg h0]
  | succ k ih =>
    intro r X a b u d h hd
    rw [rl]
    by_cases h0 : sd a b = 0
    · have := h.end hw ha hb h0; omega
    · rw [if_neg h0]
      refine fl_none fun t _ _ => ?_
      unfold br
      by_cases hc : (ok t (r + 1) && (sd a b).testBit t) = true
      · rw [if_pos hc]
        rw [Bool.and_eq_true] at hc
        cases hf τ t (sd F u) d with
        | none => rfl
        | some x =>
          simp only
          by_cases hd2 : d + rdy τ t ≤ τ 3
          · rw [if_pos hd2, ih (r + 1) _ _ _ _ _ (h.step hw ha hb hc.2) hd2]; rfl
          · rw [if_neg hd2]
      · rw [if_neg hc]
/-- how many rows: no more than the ways to order what is left -/
def fac : Nat → Nat
  | 0 => 1
  | n + 1 => (n + 1) * fac n
theorem fl_len {g : Nat → List (List Nat)} {S c : Nat} : ∀ {m t : Nat}, (∀ i, t ≤ i → i < t + m → (g i).length ≤ if S.testBit i then c else 0) → (fl g t m).length + pop S t * c ≤ pop S (t + m) * c := by
  intro m
  induction m with
  | zero => intro t _; simp [fl]
  | succ m ih =>
    intro t h
    have h1 := h t (Nat.le_refl t) (by omega)
    have h2 := ih (t := t + 1) fun i a b => h i (by omega) (by omega)
    rw [fl, List.length_append, show t + (m + 1) = t + 1 + m from by omega]
    rw [pop] at h2
    split at h1
    · rename_i hs; rw [if_pos hs, Nat.add_mul, Nat.one_mul] at h2; omega
    · rename_i hs; simp only [if_neg hs, Nat.add_zero] at h2; omega
theorem pop_sd {x y : Nat} (hx : x < 2 ^ 32) : ∀ n, pop (sd x y) n + pop y n ≤ n
  | 0 => Nat.le_refl 0
  | n + 1 => by
    have := pop_sd (y := y) hx n
    rw [pop, pop, sd_tb _ _ hx]
    cases x.testBit n <;> cases y.testBit n <;> simp <;> omega
theorem rl_len {τ : Td} (hw : Wf τ) {F : Nat} {ok : Nat → Nat → Bool} {last a0 b0 d0 : Nat} (ha : a0 < 2 ^ τ 0) (hb : b0 < 2 ^ τ 0) : ∀ (k r X a b u d : Nat), Cn τ a0 b0 d0 X a b d → τ 0 ≤ pop b (τ 0) + k → (rl τ F ok last k r a b u d).length ≤ fac k := by
  intro k
  induction k with
  | zero =>
    intro r X a b u d h hk
    rw [rl]
    split
    · split <;> simp [fac]
    · simp
  | succ k ih =>
    intro r X a b u d h hk
    rw [rl]
    by_cases h0 : sd a b = 0
    · rw [if_pos h0]
      have : 1 ≤ fac (k + 1) := by
        have : ∀ n, 1 ≤ fac n := fun n => by
          induction n with
          | zero => exact Nat.le_refl 1
          | succ n ih => rw [fac]; exact Nat.le_trans ih (Nat.le_mul_of_pos_left _ (Nat.succ_pos n))
        exact this _
      split
      · simpa using this
      · simp
    · rw [if_neg h0]
      have hal := (h.lt hw ha hb).1
      have h1 := fl_len (g := br τ F ok (rl τ F ok last k) r a b u d) (S := sd a b) (c := fac k) (m := τ 0) (t := 0) fun t _ ht => by
        unfold br
        by_cases hc : (sd a b).testBit t = true
        · rw [hc, if_pos rfl, Bool.and_true]
          split
          · cases hf τ t (sd F u) d with
            | none => simp
            | some x =>
              simp only
              split
              · rw [List.length_map]
                refine ih _ _ _ _ _ _ (h.step hw ha hb hc) ?_
                have hb2 := (h.in hw ha hb hc)
                rw [pop_add hb2.2.2.2.2 hb2.1]
                omega
              · simp
          · simp
        · have hc' : (sd a b).testBit t = false := by simpa using hc
          rw [hc', Bool.and_false]; simp
      rw [Nat.zero_add] at h1
      have h2 := pop_sd (y := b) (Nat.lt_trans (hw.p8 hal) (by decide)) (τ 0)
      have h3 : pop (sd a b) (τ 0) ≤ k + 1 := by omega
      rw [fac]
      refine Nat.le_trans ?_ (Nat.mul_le_mul_right (fac k) h3)
      simp [pop] at h1
      exact h1
