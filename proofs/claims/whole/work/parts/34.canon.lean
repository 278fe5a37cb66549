/-! what is asked and which day it is follow from what was brought -/
/-- what the tasks of X ask behind them, of the first n -/
def nxs (τ : Td) (X : Nat) : Nat → Nat
  | 0 => 0
  | n + 1 => nxs τ X n ||| (if X.testBit n then 2 ^ nx τ n else 0)
/-- the days that riding for the tasks of X takes, of the first n -/
def rds (τ : Td) (X : Nat) : Nat → Nat
  | 0 => 0
  | n + 1 => rds τ X n + (if X.testBit n then rdy τ n else 0)
theorem nxs_tb (τ : Td) (X i : Nat) : ∀ n, (nxs τ X n).testBit i = true ↔ ∃ t, t < n ∧ X.testBit t = true ∧ nx τ t = i
  | 0 => by simp [nxs]
  | n + 1 => by
    rw [nxs, Nat.testBit_or, Bool.or_eq_true, nxs_tb τ X i n]
    constructor
    · intro h
      rcases h with ⟨t, h1, h2, h3⟩ | h
      · exact ⟨t, by omega, h2, h3⟩
      · split at h
        · rename_i hX
          rw [Nat.testBit_two_pow, decide_eq_true_eq] at h
          exact ⟨n, by omega, hX, h⟩
        · rw [Nat.zero_testBit] at h; cases h
    · intro ⟨t, h1, h2, h3⟩
      by_cases e : t = n
      · subst e; right; rw [if_pos h2, Nat.testBit_two_pow, decide_eq_true_eq]; exact h3
      · left; exact ⟨t, by omega, h2, h3⟩
theorem nxs_add {τ : Td} {X t : Nat} (h : X.testBit t = false) {n : Nat} (ht : t < n) : nxs τ (X ||| 2 ^ t) n = nxs τ X n ||| 2 ^ nx τ t := by
  apply Nat.eq_of_testBit_eq
  intro i
  rw [Bool.eq_iff_iff, nxs_tb, Nat.testBit_or, Bool.or_eq_true, nxs_tb, Nat.testBit_two_pow, decide_eq_true_eq]
  constructor
  · intro ⟨q, h1, h2, h3⟩
    rw [or_p2_tb, Bool.or_eq_true, decide_eq_true_eq] at h2
    rcases h2 with h2 | h2
    · exact Or.inl ⟨q, h1, h2, h3⟩
    · subst h2; exact Or.inr h3
  · intro hq
    rcases hq with ⟨q, h1, h2, h3⟩ | hq
    · exact ⟨q, h1, by rw [or_p2_tb, h2]; rfl, h3⟩
    · exact ⟨t, ht, by rw [or_p2_tb]; simp, hq⟩
theorem rds_add {τ : Td} {X t : Nat} (h : X.testBit t = false) : ∀ {n : Nat}, t < n → rds τ (X ||| 2 ^ t) n = rds τ X n + rdy τ t := by
  have key : ∀ n, n ≤ t → rds τ (X ||| 2 ^ t) n = rds τ X n := by
    intro n
    induction n with
    | zero => intro _; rfl
    | succ n ih =>
      intro hn
      rw [rds, rds, ih (by omega), or_p2_tb]
      have : ¬ t = n := by omega
      simp [this]
  intro n
  induction n with
  | zero => intro h; omega
  | succ n ih =>
    intro hn
    rw [rds, rds, or_p2_tb]
    by_cases e : t = n
    · subst e; rw [key t (Nat.le_refl t)]; simp [h]
    · rw [ih (by omega)]; simp [e]; omega
theorem rds_mono {τ : Td} {X Y : Nat} : ∀ {n : Nat}, (∀ i, i < n → X.testBit i = true → Y.testBit i = true) → rds τ X n ≤ rds τ Y n
  | 0, _ => Nat.le_refl 0
  | n + 1, h => by
    have h1 := rds_mono (τ := τ) (X := X) (Y := Y) (n := n) fun i hi => h i (by omega)
    rw [rds, rds]
    cases hx : X.testBit n with
    | false => simp; omega
    | true => simp [h n (by omega) hx]; omega
theorem rds_le {τ : Td} (X : Nat) : ∀ {n : Nat}, (∀ t, t < n → rdy τ t ≤ 9) → rds τ X n ≤ 9 * n
  | 0, _ => Nat.le_refl 0
  | n + 1, h => by
    have h1 := rds_le (τ := τ) X (n := n) fun t ht => h t (by omega)
    have h2 := h n (by omega)
    rw [rds]
    split <;> omega
theorem rdy_le {τ : Td} (hw : Wf τ) {t : Nat} (ht : t < τ 0) : rdy τ t ≤ 9 := by
  have := (hw.2.2.2.2.2.1 t ht).2.1
  unfold rdy
  split <;> omega
/-- a set that holds what stands open and, with a task, what it asks (where that isn't brought) -/
def Clo (τ : Td) (b S : Nat) : Prop := ∀ t, t < τ 0 → S.testBit t = true → b.testBit (nx τ t) = false → S.testBit (nx τ t) = true
theorem cmS_tb {τ : Td} (b t S i : Nat) (hn : nx τ t < 32) : (cmS τ b t S).testBit i = true ↔ S.testBit i = true ∨ (S.testBit t = true ∧ nx τ t = i ∧ b.testBit i = false) := by
  unfold cmS
  by_cases h : S.testBit t = true
  · rw [if_pos h, Nat.testBit_or, Bool.or_eq_true, sd_tb _ _ (p2_lt hn), Nat.testBit_two_pow, Bool.and_eq_true, decide_eq_true_eq]
    simp [h]
  · rw [if_neg h]; simp [h]
theorem cmS_mono {τ : Td} (b t S i : Nat) (h : S.testBit i = true) : (cmS τ b t S).testBit i = true := by
  unfold cmS
  split
  · rw [Nat.testBit_or, h]; rfl
  · exact h
theorem cmR_mono {τ : Td} (b : Nat) : ∀ (n S i : Nat), S.testBit i = true → (cmR τ b n S).testBit i = true
  | 0, _, _, h => h
  | n + 1, S, i, h => cmS_mono b n _ i (cmR_mono b n S i h)
theorem cmN_mono {τ : Td} (b : Nat) : ∀ (k S i : Nat), S.testBit i = true → (cmN τ b k S).testBit i = true
  | 0, _, _, h => h
  | k + 1, S, i, h => cmR_mono b (τ 0) _ i (cmN_mono b k S i h)
theorem cmS_lt {τ : Td} {b t S : Nat} (hS : S < 2 ^ τ 0) (hn : nx τ t < τ 0) : cmS τ b t S < 2 ^ τ 0 := by
  unfold cmS
  split
  · exact or_lt hS (sd_lt (p2_lt hn))
  · exact hS
theorem cmR_lt {τ : Td} {b S : Nat} (hS : S < 2 ^ τ 0) (h : ∀ t, t < τ 0 → nx τ t < τ 0) : ∀ n, n ≤ τ 0 → cmR τ b n S < 2 ^ τ 0
  | 0, _ => hS
  | n + 1, hn => cmS_lt (cmR_lt hS h n (by omega)) (h n (by omega))
theorem cmN_lt {τ : Td} {b S : Nat} (hS : S < 2 ^ τ 0) (h : ∀ t, t < τ 0 → nx τ t < τ 0) : ∀ k, cmN τ b k S < 2 ^ τ 0
  | 0 => hS
  | k + 1 => cmR_lt (cmN_lt hS h k) h (τ 0) (Nat.le_refl _)
/-- a round that changes nothing closes -/
theorem cmR_clo {τ : Td} {b S : Nat} (h8 : ∀ t, t < τ 0 → nx τ t < 32) (h : cmR τ b (τ 0) S = S) : Clo τ b S := by
  have key : ∀ n, n ≤ τ 0 → ∀ t, t < n → S.testBit t = true → b.testBit (nx τ t) = false → (cmR τ b n S).testBit (nx τ t) = true := by
    intro n
    induction n with
    | zero => intro _ t ht; omega
    | succ n ih =>
      intro hn t ht hS hb
      by_cases e : t = n
      · subst e
        rw [cmR, cmS_tb _ _ _ _ (h8 t (by omega))]
        exact Or.inr ⟨cmR_mono b t S t hS, rfl, hb⟩
      · exact cmS_mono b n _ _ (ih (by omega) t (by omega) hS hb)
  intro t ht hS hb
  rw [← h]
  exact key (τ 0) (Nat.le_refl _) t ht hS hb
theorem eq_of_pop {x y n : Nat} (hx : x < 2 ^ n) (hy : y < 2 ^ n) (h : ∀ i, x.testBit i = true → y.testBit i = true) (e : pop y n ≤ pop x n) : x = y := by
  apply Nat.eq_of_testBit_eq
  have key : ∀ m, m ≤ n → pop y m ≤ pop x m → ∀ i, i < m → x.testBit i = y.testBit i := by
    intro m
    induction m with
    | zero => intro _ _ i hi; omega
    | succ m ih =>
      intro hm he i hi
      rw [pop, pop] at he
      have hmn := pop_mono h m
      have hb : x.testBit m = y.testBit m := by
        cases hx1 : x.testBit m with
        | true => rw [h m hx1]
        | false =>
          cases hy1 : y.testBit m with
          | false => rfl
          | true => rw [hx1, hy1] at he; simp at he; omega
      by_cases q : i = m
      · subst q; exact hb
      · refine ih (by omega) ?_ i (by omega)
        rw [hb] at he; omega
  intro i
  by_cases hi : i < n
  · exact key n (Nat.le_refl n) e i hi
  · rw [tb_hi hx (by omega), tb_hi hy (by omega)]
theorem cmN_clo {τ : Td} {b S : Nat} (hS : S < 2 ^ τ 0) (hT : τ 0 ≤ 8) (h : ∀ t, t < τ 0 → nx τ t < τ 0) : Clo τ b (cmN τ b 8 S) := by
  have h32 : ∀ t, t < τ 0 → nx τ t < 32 := fun t ht => by have := h t ht; omega
  -- either a round stood still before, or each added one
  have key : ∀ k, (∃ j, j ≤ k ∧ cmR τ b (τ 0) (cmN τ b j S) = cmN τ b j S) ∨ (k + 1 ≤ pop (cmN τ b (k + 1) S) (τ 0)) := by
    intro k
    induction k with
    | zero =>
      by_cases e : cmR τ b (τ 0) S = S
      · exact Or.inl ⟨0, Nat.le_refl 0, e⟩
      · refine Or.inr ?_
        have h1 := pop_mono (fun i hi => cmR_mono (τ := τ) b (τ 0) S i hi) (τ 0)
        rcases Nat.lt_or_ge (pop S (τ 0)) (pop (cmR τ b (τ 0) S) (τ 0)) with q | q
        · show 0 + 1 ≤ pop (cmR τ b (τ 0) S) (τ 0); omega
        · exact absurd (eq_of_pop hS (cmR_lt hS h _ (Nat.le_refl _)) (fun i hi => cmR_mono b (τ 0) S i hi) q).symm e
    | succ k ih =>
      rcases ih with ⟨j, hj, e⟩ | ih
      · exact Or.inl ⟨j, by omega, e⟩
      · by_cases e : cmR τ b (τ 0) (cmN τ b (k + 1) S) = cmN τ b (k + 1) S
        · exact Or.inl ⟨k + 1, Nat.le_refl _, e⟩
        · refine Or.inr ?_
          have hk := cmN_lt (b := b) hS h (k + 1)
          rcases Nat.lt_or_ge (pop (cmN τ b (k + 1) S) (τ 0)) (pop (cmR τ b (τ 0) (cmN τ b (k + 1) S)) (τ 0)) with q | q
          · show k + 1 + 1 ≤ pop (cmR τ b (τ 0) (cmN τ b (k + 1) S)) (τ 0); omega
          · exact absurd (eq_of_pop hk (cmR_lt hk h _ (Nat.le_refl _)) (fun i hi => cmR_mono b (τ 0) _ i hi) q).symm e
  have still : ∀ j k, cmR τ b (τ 0) (cmN τ b j S) = cmN τ b j S → cmN τ b (j + k) S = cmN τ b j S := by
    intro j k e
    induction k with
    | zero => rfl
    | succ k ih => show cmR τ b (τ 0) (cmN τ b (j + k) S) = _; rw [ih, e]
  rcases key 8 with ⟨j, hj, e⟩ | q
  · have e8 : cmN τ b 8 S = cmN τ b j S := by
      obtain ⟨k, hk⟩ : ∃ k, 8 = j + k := ⟨8 - j, by omega⟩
      rw [hk]; exact still j k e
    rw [e8]
    exact cmR_clo h32 e
  · have h1 := pop_le (cmN τ b 9 S) (τ 0)
    have h2 : 8 + 1 ≤ pop (cmN τ b 9 S) (τ 0) := q
    omega
/-- and no set that holds what stands open and is closed leaves any of it out -/
theorem cmN_min {τ : Td} {b S X : Nat} (h8 : ∀ t, t < τ 0 → nx τ t < 32) (hX : ∀ i, S.testBit i = true → X.testBit i = true) (hc : Clo τ b X) : ∀ k i, (cmN τ b k S).testBit i = true → X.testBit i = true := by
  have round : ∀ Y, (∀ i, Y.testBit i = true → X.testBit i = true) → ∀ n, n ≤ τ 0 → ∀ i, (cmR τ b n Y).testBit i = true → X.testBit i = true := by
    intro Y hY n
    induction n with
    | zero => intro _ i hi; exact hY i hi
    | succ n ih =>
      intro hn i hi
      rw [cmR, cmS_tb _ _ _ _ (h8 n (by omega))] at hi
      rcases hi with hi | ⟨h1, rfl, h3⟩
      · exact ih (by omega) i hi
      · exact hc n (by omega) (ih (by omega) n h1) h3
  intro k
  induction k with
  | zero => intro i hi; exact hX i hi
  | succ k ih => intro i hi; exact round _ ih (τ 0) (Nat.le_refl _) i hi
