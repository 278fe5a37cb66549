/-! one friend more never takes a row away -/
theorem lowb_is : ∀ m, m < 128 → m ≠ 0 → ∃ j, j < 7 ∧ lowb m = 2 ^ j ∧ m.testBit j = true ∧ ∀ i, m.testBit i = true → j ≤ i := by
  intro m hm h0
  obtain ⟨j, h1, h2, h3⟩ := lowb_p2 m hm h0
  refine ⟨j, h1, h2, h3, fun i hi => ?_⟩
  have hi7 : i < 7 := by
    rcases Nat.lt_or_ge i 7 with q | q
    · exact q
    · rw [tb_hi (n := 7) hm q] at hi; cases hi
  have := lowb_min m hm i hi7 hi
  rw [h2] at this
  rcases Nat.lt_or_ge i j with q | q
  · have := p2_lt q; omega
  · exact q
theorem sd_p2 {A j : Nat} (hA : A < 128) (i : Nat) : (sd A (2 ^ j)).testBit i = true ↔ A.testBit i = true ∧ i ≠ j := by
  rw [sd_tb _ _ (by omega), Nat.testBit_two_pow, Bool.and_eq_true]
  constructor
  · intro ⟨h1, h2⟩; exact ⟨h1, fun e => by subst e; simp at h2⟩
  · intro ⟨h1, h2⟩; exact ⟨h1, by simpa using fun e => h2 e.symm⟩
theorem sd_p22 {A j j2 : Nat} (hA : A < 128) (i : Nat) : (sd A (2 ^ j ||| 2 ^ j2)).testBit i = true ↔ A.testBit i = true ∧ i ≠ j ∧ i ≠ j2 := by
  rw [sd_tb _ _ (by omega), Nat.testBit_or, Nat.testBit_two_pow, Nat.testBit_two_pow, Bool.and_eq_true]
  constructor
  · intro ⟨h1, h2⟩
    refine ⟨h1, fun e => ?_, fun e => ?_⟩ <;> subst e <;> simp at h2
  · intro ⟨h1, h2, h3⟩
    refine ⟨h1, ?_⟩
    have a : ¬ j = i := fun e => h2 e.symm
    have b : ¬ j2 = i := fun e => h3 e.symm
    simp [a, b]
theorem ne0_of_tb {m i : Nat} (h : m.testBit i = true) : m ≠ 0 := fun e => by rw [e, Nat.zero_testBit] at h; cases h
/-- one of a kind -/
theorem sel1 {A B K : Nat} (hA : A < 128) (hB : B < 128) (hAB : ∀ i, A.testBit i = true → B.testBit i = true) (h : A &&& K ≠ 0) : B &&& K ≠ 0 ∧ ∀ i, (sd A (lowb (A &&& K))).testBit i = true → (sd B (lowb (B &&& K))).testBit i = true := by
  obtain ⟨ja, a1, a2, a3, a4⟩ := lowb_is (A &&& K) (and_lt (n := 7) hA) h
  have a3' := a3
  rw [Nat.testBit_and, Bool.and_eq_true] at a3'
  have hBK : B &&& K ≠ 0 := ne0_of_tb (i := ja) (by rw [Nat.testBit_and, hAB ja a3'.1, a3'.2]; rfl)
  obtain ⟨jb, b1, b2, b3, b4⟩ := lowb_is (B &&& K) (and_lt (n := 7) hB) hBK
  rw [Nat.testBit_and, Bool.and_eq_true] at b3
  refine ⟨hBK, fun i hi => ?_⟩
  rw [a2, sd_p2 hA] at hi
  rw [b2, sd_p2 hB]
  refine ⟨hAB i hi.1, fun e => hi.2 ?_⟩
  subst e
  have h1 := a4 i (by rw [Nat.testBit_and, hi.1, b3.2]; rfl)
  have h2 := b4 ja (by rw [Nat.testBit_and, hAB ja a3'.1, a3'.2]; rfl)
  omega
/-- two: the first of kind K, the second of kind J, that holds K -/
theorem sel2 {A B K J : Nat} (hA : A < 128) (hB : B < 128) (hAB : ∀ i, A.testBit i = true → B.testBit i = true) (hKJ : ∀ i, K.testBit i = true → J.testBit i = true) (h : A &&& K ≠ 0) (h2 : sd (A &&& J) (lowb (A &&& K)) ≠ 0) : sd (B &&& J) (lowb (B &&& K)) ≠ 0 ∧ ∀ i, (sd A (lowb (A &&& K) ||| lowb (sd (A &&& J) (lowb (A &&& K))))).testBit i = true → (sd B (lowb (B &&& K) ||| lowb (sd (B &&& J) (lowb (B &&& K))))).testBit i = true := by
  have hAJ : A &&& J < 128 := and_lt (n := 7) hA
  have hBJ : B &&& J < 128 := and_lt (n := 7) hB
  obtain ⟨ja, a1, a2, a3, a4⟩ := lowb_is (A &&& K) (and_lt (n := 7) hA) h
  obtain ⟨ka, c1, c2, c3, c4⟩ := lowb_is _ (sd_lt (n := 7) hAJ) h2
  rw [a2] at c2 c3 c4 h2
  rw [Nat.testBit_and, Bool.and_eq_true] at a3
  have hBK : B &&& K ≠ 0 := ne0_of_tb (i := ja) (by rw [Nat.testBit_and, hAB ja a3.1, a3.2]; rfl)
  obtain ⟨jb, b1, b2, b3, b4⟩ := lowb_is (B &&& K) (and_lt (n := 7) hB) hBK
  rw [Nat.testBit_and, Bool.and_eq_true] at b3
  have hja_jb := b4 ja (by rw [Nat.testBit_and, hAB ja a3.1, a3.2]; rfl)
  rw [sd_p2 hAJ, Nat.testBit_and, Bool.and_eq_true] at c3
  -- one of the two that A takes is there for B's second
  have hb2 : sd (B &&& J) (lowb (B &&& K)) ≠ 0 := by
    rw [b2]
    by_cases q : ka = jb
    · refine ne0_of_tb (i := ja) ((sd_p2 hBJ ja).mpr ⟨by rw [Nat.testBit_and, hAB ja a3.1, hKJ ja a3.2]; rfl, ?_⟩)
      omega
    · exact ne0_of_tb (i := ka) ((sd_p2 hBJ ka).mpr ⟨by rw [Nat.testBit_and, hAB ka c3.1.1, c3.1.2]; rfl, q⟩)
  obtain ⟨kb, d1, d2, d3, d4⟩ := lowb_is _ (sd_lt (n := 7) hBJ) hb2
  rw [b2] at d2 d3 d4
  rw [sd_p2 hBJ, Nat.testBit_and, Bool.and_eq_true] at d3
  refine ⟨hb2, fun i hi => ?_⟩
  rw [a2, c2, sd_p22 hA] at hi
  rw [b2, d2, sd_p22 hB]
  refine ⟨hAB i hi.1, fun e => hi.2.1 ?_, fun e => ?_⟩
  · subst e
    have h1 := a4 i (by rw [Nat.testBit_and, hi.1, b3.2]; rfl)
    omega
  · subst e
    have h1 := c4 i ((sd_p2 hAJ i).mpr ⟨by rw [Nat.testBit_and, hi.1, d3.1.2]; rfl, hi.2.1⟩)
    by_cases q : ka = jb
    · have h3 := a4 ka (by rw [Nat.testBit_and, c3.1.1, q, b3.2]; rfl)
      have h4 := c3.2
      omega
    · have h3 := d4 ka ((sd_p2 hBJ ka).mpr ⟨by rw [Nat.testBit_and, hAB ka c3.1.1, c3.1.2]; rfl, q⟩)
      exact hi.2.2 (by omega)
theorem and_127 {A : Nat} (h : A < 128) : A &&& 127 = A := by
  rw [show (127 : Nat) = 2 ^ 7 - 1 from rfl, Nat.and_two_pow_sub_one_eq_mod, Nat.mod_eq_of_lt h]
theorem tb_127 {i : Nat} (h : i < 7) : (127 : Nat).testBit i = true := by
  rw [show (127 : Nat) = 2 ^ 7 - 1 from rfl, Nat.testBit_two_pow_sub_one, decide_eq_true h]
theorem hf_mono {τ : Td} {t A B d x : Nat} (hH : τ 1 ≤ 7) (hA : A < 128) (hB : B < 128) (hAB : ∀ i, A.testBit i = true → B.testBit i = true) (h : hf τ t A d = some x) : ∃ y, hf τ t B d = some y ∧ ∀ i, (sd A x).testBit i = true → (sd B y).testBit i = true := by
  have z : ∀ i, (sd A 0).testBit i = true → (sd B 0).testBit i = true := fun i hi => by
    rw [sd_tb _ _ (by omega), Bool.and_eq_true] at hi ⊢
    exact ⟨hAB i hi.1, by rw [Nat.zero_testBit]; rfl⟩
  have hm7 : hm τ (hp τ t) (τ 1) < 2 ^ 7 := Nat.lt_of_lt_of_le (hm_lt τ _ _) (Nat.pow_le_pow_right (by decide) hH)
  unfold hf at h ⊢
  by_cases k2 : kd τ t = 2
  · rw [if_pos k2] at h ⊢; cases h; exact ⟨0, rfl, z⟩
  rw [if_neg k2] at h ⊢
  by_cases k4 : kd τ t = 4 ∧ 10 < d
  · rw [if_pos k4] at h; cases h
  rw [if_neg k4] at h ⊢
  by_cases h5 : hp τ t = 5
  · rw [if_pos h5] at h ⊢
    by_cases k3 : kd τ t = 3
    · rw [if_pos k3] at h ⊢
      by_cases hz : A = 0
      · rw [if_pos hz] at h; cases h
      rw [if_neg hz] at h; cases h
      have h1 := sel1 (K := 127) hA hB hAB (by rw [and_127 hA]; exact hz)
      rw [and_127 hA, and_127 hB] at h1
      rw [if_neg h1.1]
      exact ⟨_, rfl, h1.2⟩
    · rw [if_neg k3] at h ⊢; cases h; exact ⟨0, rfl, z⟩
  rw [if_neg h5] at h ⊢
  by_cases hz : A &&& hm τ (hp τ t) (τ 1) = 0
  · rw [if_pos hz] at h; cases h
  rw [if_neg hz] at h
  have h1 := sel1 hA hB hAB hz
  rw [if_neg h1.1]
  by_cases k3 : kd τ t = 3
  · rw [if_pos k3] at h ⊢
    by_cases hz2 : sd A (lowb (A &&& hm τ (hp τ t) (τ 1))) = 0
    · rw [if_pos hz2] at h; cases h
    rw [if_neg hz2] at h; cases h
    have h2 := sel2 (K := hm τ (hp τ t) (τ 1)) (J := 127) hA hB hAB (fun i hi => by
      rcases Nat.lt_or_ge i 7 with q | q
      · exact tb_127 q
      · rw [tb_hi hm7 q] at hi; cases hi) hz (by rw [and_127 hA]; exact hz2)
    rw [and_127 hA, and_127 hB] at h2
    rw [if_neg h2.1]
    exact ⟨_, rfl, h2.2⟩
  rw [if_neg k3] at h ⊢
  by_cases k1 : kd τ t = 1
  · rw [if_pos k1] at h ⊢
    by_cases hz2 : sd (A &&& hm τ (hp τ t) (τ 1)) (lowb (A &&& hm τ (hp τ t) (τ 1))) = 0
    · rw [if_pos hz2] at h; cases h
    rw [if_neg hz2] at h; cases h
    have h2 := sel2 (K := hm τ (hp τ t) (τ 1)) (J := hm τ (hp τ t) (τ 1)) hA hB hAB (fun i hi => hi) hz hz2
    rw [if_neg h2.1]
    exact ⟨_, rfl, h2.2⟩
  · rw [if_neg k1] at h ⊢; cases h
    exact ⟨_, rfl, h1.2⟩
theorem sd_sd {F u x : Nat} (hF : F < 128) (i : Nat) : (sd F (u ||| x)).testBit i = (sd (sd F u) x).testBit i := by
  rw [sd_tb _ _ (by omega), sd_tb _ _ (Nat.lt_of_le_of_lt (sd_le F u) (by omega)), sd_tb _ _ (by omega), Nat.testBit_or]
  cases F.testBit i <;> cases u.testBit i <;> cases x.testBit i <;> rfl
theorem rl_mono {τ : Td} (hH : τ 1 ≤ 7) {F F' : Nat} (hF : F < 128) (hF' : F' < 128) {ok : Nat → Nat → Bool} {last : Nat} : ∀ (k r a b u u' d : Nat), (∀ i, (sd F u).testBit i = true → (sd F' u').testBit i = true) → rl τ F ok last k r a b u d ≠ [] → rl τ F' ok last k r a b u' d ≠ [] := by
  intro k
  induction k with
  | zero =>
    intro r a b u u' d hs h
    rw [rl] at h ⊢
    exact h
  | succ k ih =>
    intro r a b u u' d hs h
    rw [rl] at h ⊢
    by_cases h0 : sd a b = 0
    · rw [if_pos h0] at h ⊢; exact h
    rw [if_neg h0] at h ⊢
    obtain ⟨t, t1, t2, t3⟩ := fl_ne.mp h
    refine fl_ne.mpr ⟨t, t1, t2, ?_⟩
    unfold br at t3 ⊢
    by_cases hc : (ok t (r + 1) && (sd a b).testBit t) = true
    · rw [if_pos hc] at t3 ⊢
      cases hx : hf τ t (sd F u) d with
      | none => rw [hx] at t3; exact absurd rfl t3
      | some x =>
        rw [hx] at t3
        simp only at t3
        obtain ⟨y, hy, hxy⟩ := hf_mono hH (sd_lt (n := 7) hF) (sd_lt (n := 7) hF') hs hx
        rw [hy]
        simp only
        by_cases hd : d + rdy τ t ≤ τ 3
        · rw [if_pos hd] at t3 ⊢
          have h1 : rl τ F ok last k (r + 1) (a ||| 2 ^ nx τ t) (b ||| 2 ^ t) (u ||| x) (d + rdy τ t) ≠ [] := fun e => t3 (by rw [e]; rfl)
          have h2 := ih (r + 1) (a ||| 2 ^ nx τ t) (b ||| 2 ^ t) (u ||| x) (u' ||| y) (d + rdy τ t) (fun i hi => by rw [sd_sd hF] at hi; rw [sd_sd hF']; exact hxy i hi) h1
          exact fun e => h2 (List.map_eq_nil_iff.mp e)
        · rw [if_neg hd] at t3; exact absurd rfl t3
    · rw [if_neg hc] at t3; exact absurd rfl t3
