/-! reading a text: the class's numbers of an item -/
def fw (T : Nat → Nat) (n k : Nat) : Nat := if fg T n (k + 1) then 2 else 1
def fv (T : Nat → Nat) (n k : Nat) : Nat := if fg T n (k + 1) then 10 * (T k - 48) + (T (k + 1) - 48) else T k - 48
theorem rd_fg {T : Nat → Nat} {n k : Nat} (h : fg T n k = true) (e : Nat) : rd T n k e = if k + fw T n k < n ∧ T (k + fw T n k) = e then some (fv T n k, k + fw T n k + 1) else none := by
  unfold rd fw fv
  rw [if_pos h]
  by_cases g : fg T n (k + 1) = true
  · rw [if_pos g, if_pos g, if_pos g]
  · rw [if_neg g, if_neg g, if_neg g]
theorem rd_nofg {T : Nat → Nat} {n k : Nat} (h : ¬ fg T n k = true) (e : Nat) : rd T n k e = none := by
  unfold rd
  rw [if_neg h]
theorem fw_le (T : Nat → Nat) (n k : Nat) : 1 ≤ fw T n k ∧ fw T n k ≤ 2 := by
  unfold fw
  split <;> omega
theorem xX0_readNumber {T : Nat → Nat} {n L : Nat} {text : Nat → Int32} (ht : Tx T n text) (hn : n ≤ L) (hL : L < 2 ^ 29) {k : Nat} (hk : k < 2 ^ 29) (f : fg T n k = true) : m_X0_readNumber L text (nI n) (nI k) (nI (fw T n k)) = some (nI (fv T n k)) := by
  have a := fg_on f
  unfold m_X0_readNumber fw fv
  rw [xX0_letterAt ht hn (by omega) (by omega), Option.bind_some, if_pos a.1, nI_1, xX0_letterAt ht hn (by omega) (by omega)]
  by_cases g : fg T n (k + 1) = true
  · have b := fg_on g
    rw [if_pos g, if_pos g, if_neg (show ¬ nI 2 = (1 : Int32) by decide), Option.bind_some, if_pos b.1, sub48 a.2.1]
    have ev : nI (T k - 48) * (10 : Int32) + nI (T (k + 1)) - (48 : Int32) = nI (10 * (T k - 48) + (T (k + 1) - 48)) := by
      rw [show (10 : Int32) = nI 10 from rfl, pk_mul, nI_add, sub48 (by omega)]
      exact congrArg nI (by omega)
    rw [ev]
  · rw [if_neg g, if_neg g, if_pos (show nI 1 = (1 : Int32) from rfl), sub48 a.2.1]
theorem xX0_readItem_loop {T : Nat → Nat} {n L : Nat} {text : Nat → Int32} (ht : Tx T n text) (hn : n ≤ L) (hL : L < 2 ^ 20) {w : Nat} (hw4 : w ≤ 4) : ∀ (m j k fuel : Nat) (numbers : Nat → Int32), j + m = w → m < fuel → k < 2 ^ 21 → match rdl T n m k with
    | some (l, k') => ∃ numbers', lp_X0_readItem_23 (nI n) (nI w) L text fuel (nI k) (nI j) numbers = some (Sum.inl (nI k', numbers')) ∧ l.length = m ∧ (∀ (i : Nat) (h : i < l.length), numbers' (j + i) = nI l[i] ∧ l[i] ≤ 99) ∧ (∀ i, i < j → numbers' i = numbers i) ∧ k ≤ k' ∧ (m ≠ 0 → k < k' ∧ k' ≤ n)
    | none => ∃ x, lp_X0_readItem_23 (nI n) (nI w) L text fuel (nI k) (nI j) numbers = some (Sum.inr x) := by
  intro m
  induction m with
  | zero =>
    intro j k fuel numbers hj hfu hk
    obtain ⟨q, rfl⟩ : ∃ q, fuel = q + 1 := ⟨fuel - 1, by omega⟩
    refine ⟨numbers, ?_, rfl, fun i h => absurd h (Nat.not_lt_zero i), fun i _ => rfl, Nat.le_refl k, fun z => absurd rfl z⟩
    rw [lp_X0_readItem_23, if_pos (nI_le (by omega) (by omega))]
  | succ m ih =>
    intro j k fuel numbers hj hfu hk
    obtain ⟨q, rfl⟩ : ∃ q, fuel = q + 1 := ⟨fuel - 1, by omega⟩
    rw [lp_X0_readItem_23, if_neg (nI_ge (by omega) (by omega)), xX0_figuresAt ht hn (by omega) (by omega), Option.bind_some]
    by_cases f : fg T n k = true
    · have hfw := fw_le T n k
      have efw : (if fg T n k then (if fg T n (k + 1) then 2 else 1) else 0) = fw T n k := by rw [if_pos f]; rfl
      have eset : m_X5_setNumber 4 numbers (nI j) (nI (fv T n k)) = some (upd numbers j (nI (fv T n k))) := by
        unfold m_X5_setNumber
        rw [if_neg (nI_pos (by omega)), if_neg (show ¬ Int32.ofNat 4 ≤ nI j from nI_ge (b := 4) (by omega) (by decide)), if_pos (j_in (by omega) (by decide)), j_clamp (by omega)]
      rw [efw, if_pos (show (1 : Int32) ≤ nI _ from nI_le (a := 1) hfw.1 (by omega)), xX0_readNumber ht hn (by omega) (by omega) f, Option.bind_some, eset, Option.bind_some, nI_add, xX0_letterAt ht hn (by omega) (by omega), Option.bind_some, nI_1, nI_1]
      have hrdl : rdl T n (m + 1) k = match rd T n k (if m = 0 then 59 else 44) with
        | some (v, k') => match rdl T n m k' with
          | some (l, k'') => some (v :: l, k'')
          | none => none
        | none => none := rfl
      rw [hrdl, rd_fg f]
      -- what the letter behind is to be
      have key : ∀ e : Nat, e < 1000 → ((if k + fw T n k < n then nI (T (k + fw T n k)) else -4) = nI e ↔ k + fw T n k < n ∧ T (k + fw T n k) = e) := fun e he => by
        by_cases c : k + fw T n k < n
        · rw [if_pos c, eq_letter (ht _ c).2 he]
          exact ⟨fun z => ⟨c, z⟩, fun z => z.2⟩
        · rw [if_neg c]
          constructor
          · intro z
            have h0 : ¬ nI e < 0 := nI_pos (by omega)
            rw [← z] at h0
            exact absurd (by decide) h0
          · intro z; exact absurd z.1 c
      have k59 : ((if k + fw T n k < n then nI (T (k + fw T n k)) else -4) = (59 : Int32)) ↔ k + fw T n k < n ∧ T (k + fw T n k) = 59 := key 59 (by decide)
      have k44 : ((if k + fw T n k < n then nI (T (k + fw T n k)) else -4) = (44 : Int32)) ↔ k + fw T n k < n ∧ T (k + fw T n k) = 44 := key 44 (by decide)
      have fin : ∀ e : Nat, (k + fw T n k < n ∧ T (k + fw T n k) = e) → (match (match (if k + fw T n k < n ∧ T (k + fw T n k) = e then some (fv T n k, k + fw T n k + 1) else none) with
        | some (v, k') => match rdl T n m k' with
          | some (l, k'') => some (v :: l, k'')
          | none => none
        | none => none) with
        | some (l, k') => ∃ numbers', lp_X0_readItem_23 (nI n) (nI w) L text q (nI (k + fw T n k + 1)) (nI (j + 1)) (upd numbers j (nI (fv T n k))) = some (Sum.inl (nI k', numbers')) ∧ l.length = m + 1 ∧ (∀ (i : Nat) (h : i < l.length), numbers' (j + i) = nI l[i] ∧ l[i] ≤ 99) ∧ (∀ i, i < j → numbers' i = numbers i) ∧ k ≤ k' ∧ (m + 1 ≠ 0 → k < k' ∧ k' ≤ n)
        | none => ∃ x, lp_X0_readItem_23 (nI n) (nI w) L text q (nI (k + fw T n k + 1)) (nI (j + 1)) (upd numbers j (nI (fv T n k))) = some (Sum.inr x)) := by
        intro e c
        have hc1 := c.1
        have ih1 := ih (j + 1) (k + fw T n k + 1) q (upd numbers j (nI (fv T n k))) (by omega) (by omega) (by omega)
        rw [if_pos c]
        simp only
        have hv : fv T n k ≤ 99 := (rd_on (e := e) (by rw [rd_fg f, if_pos c])).1
        cases hr : rdl T n m (k + fw T n k + 1) with
        | none =>
          rw [hr] at ih1
          exact ih1
        | some lk =>
          obtain ⟨l, k'⟩ := lk
          rw [hr] at ih1
          obtain ⟨numbers', g1, g2, g3, g4, g5, g6⟩ := ih1
          refine ⟨numbers', g1, by rw [List.length_cons, g2], fun i h => ?_, fun i h => ?_, by omega, fun _ => ⟨by omega, ?_⟩⟩
          · cases i with
            | zero =>
              refine ⟨?_, hv⟩
              show numbers' j = nI (fv T n k)
              rw [g4 j (by omega), pk_us]
            | succ i =>
              have h' : i < l.length := by rw [List.length_cons] at h; omega
              have := g3 i h'
              rw [show j + 1 + i = j + (i + 1) by omega] at this
              exact this
          · rw [g4 i (by omega), pk_un (by omega)]
          · by_cases hm0 : m = 0
            · subst hm0
              have : k' = k + fw T n k + 1 := by cases hr; rfl
              omega
            · exact (g6 hm0).2
      by_cases hm0 : m = 0
      · rw [if_pos (show nI w ≤ nI (j + 1) from nI_le (by omega) (by omega)), if_pos hm0]
        by_cases c : k + fw T n k < n ∧ T (k + fw T n k) = 59
        · rw [if_pos (k59.mpr c)]
          exact fin 59 c
        · rw [if_neg (fun z => c (k59.mp z)), if_neg c]
          exact ⟨_, rfl⟩
      · rw [if_neg (show ¬ nI w ≤ nI (j + 1) from nI_ge (by omega) (by omega)), if_neg hm0]
        by_cases c : k + fw T n k < n ∧ T (k + fw T n k) = 44
        · rw [if_pos (k44.mpr c)]
          exact fin 44 c
        · rw [if_neg (fun z => c (k44.mp z)), if_neg c]
          exact ⟨_, rfl⟩
    · rw [if_neg f, if_neg (show ¬ (1 : Int32) ≤ nI 0 by decide)]
      have hrdl : rdl T n (m + 1) k = none := by
        show (match rd T n k (if m = 0 then 59 else 44) with
        | some (v, k') => match rdl T n m k' with
          | some (l, k'') => some (v :: l, k'')
          | none => none
        | none => none) = none
        rw [rd_nofg f]
      rw [hrdl]
      exact ⟨_, rfl⟩
