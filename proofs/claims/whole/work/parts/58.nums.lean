/-! reading a text: the numbers of both sides, case by case -/
theorem num_cases {T : Nat → Nat} {n : Nat} {text : Nat → Int32} (ht : Tx T n text) (hn : n ≤ 200) {k e : Nat} (hk : k ≤ 200) (he : e < 1000) (lo hi : Int32) : (∃ v k', rd T n k e = some (v, k') ∧ v ≤ 99 ∧ k < k' ∧ k' ≤ n ∧ ((m_X6_in (nI v) lo hi = some 0 ∧ m_X6_number (nI n) (nI k) text lo hi (nI e) = some (-1, nI k')) ∨ (m_X6_in (nI v) lo hi = some 1 ∧ m_X6_number (nI n) (nI k) text lo hi (nI e) = some (nI v, nI k')))) ∨ (rd T n k e = none ∧ ∃ at', m_X6_number (nI n) (nI k) text lo hi (nI e) = some (-1, at')) := by
  obtain ⟨r, at', h1, h2⟩ := xX6_number ht hn hk he lo hi
  cases hr : rd T n k e with
  | none =>
    rw [hr] at h2
    right
    exact ⟨rfl, at', by rw [h1, show r = -1 from h2]⟩
  | some vk =>
    obtain ⟨v, k'⟩ := vk
    rw [hr] at h2
    have h3 := rd_on hr
    left
    obtain ⟨q1, q2⟩ := h2
    refine ⟨v, k', rfl, h3.1, h3.2.1, h3.2.2, ?_⟩
    rcases q2 with ⟨a, b⟩ | ⟨a, b⟩
    · left; exact ⟨a, by rw [h1, b, q1]⟩
    · right; exact ⟨a, by rw [h1, b, q1]⟩
theorem in_nat {v lo hi : Nat} (hv : v < 2 ^ 30) (hl : lo < 2 ^ 30) (hh : hi < 2 ^ 30) : m_X6_in (nI v) (nI lo) (nI hi) = some (if lo ≤ v ∧ v ≤ hi then 1 else 0) := by
  unfold m_X6_in
  by_cases h1 : v < lo
  · rw [if_pos (nI_lt h1 (by omega)), if_neg (by omega)]
  · rw [if_neg (nI_nlt (by omega) (by omega))]
    by_cases h2 : hi < v
    · rw [if_pos (nI_lt h2 (by omega)), if_neg (by omega)]
    · rw [if_neg (nI_nlt (by omega) (by omega)), if_pos (by omega)]
theorem in_pred {v d : Nat} (hv : v < 2 ^ 30) (hd : d < 2 ^ 30) : m_X6_in (nI v) 0 (nI d - 1) = some (if v < d then 1 else 0) := by
  unfold m_X6_in
  have h0 : ¬ nI v < 0 := nI_pos (by omega)
  rw [if_neg h0]
  by_cases h : v < d
  · rw [if_neg (fun z => nI_ge h (by omega) ((nI_le_pred _ hd h0).mp z)), if_pos h]
  · rw [if_pos ((nI_le_pred _ hd h0).mpr (nI_le (by omega) (by omega))), if_neg h]
theorem rdl_1 (T : Nat → Nat) (n k : Nat) : rdl T n 1 k = match rd T n k 59 with
    | some (v, k') => some ([v], k')
    | none => none := rfl
theorem rdl_S (T : Nat → Nat) (n m k : Nat) : rdl T n (m + 2) k = match rd T n k 44 with
    | some (v, k') => match rdl T n (m + 1) k' with
      | some (l, k'') => some (v :: l, k'')
      | none => none
    | none => none := rfl
theorem hasTask_nat {v d : Nat} (hv : v < 2 ^ 30) (hd : d < 2 ^ 30) : m_X0_hasTask (nI d) (nI v) = some (if v < d then 1 else 0) := by
  unfold m_X0_hasTask
  rw [if_neg (nI_pos (by omega))]
  by_cases h : v < d
  · rw [if_neg (nI_ge h (by omega)), if_pos h]
  · rw [if_pos (nI_le (by omega) (by omega)), if_neg h]
theorem numberAt_is {f : Nat → Int32} {i : Nat} (hi : i < 4) : m_X5_numberAt 4 f (nI i) = some (f i) := xX5_numberAt (n := 4) hi (by decide)
