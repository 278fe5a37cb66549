/-! reading a text: letters, figures, numbers -/
def fg (T : Nat → Nat) (n i : Nat) : Bool := decide (i < n) && (decide (48 ≤ T i) && decide (T i ≤ 57))
/-- a number of one figure or two at k, then e: the number and the place behind -/
def rd (T : Nat → Nat) (n k e : Nat) : Option (Nat × Nat) :=
  if fg T n k then
    if fg T n (k + 1) then (if k + 2 < n ∧ T (k + 2) = e then some (10 * (T k - 48) + (T (k + 1) - 48), k + 3) else none)
    else (if k + 1 < n ∧ T (k + 1) = e then some (T k - 48, k + 2) else none)
  else none
theorem fg_on {T : Nat → Nat} {n i : Nat} (h : fg T n i = true) : i < n ∧ 48 ≤ T i ∧ T i ≤ 57 := by
  unfold fg at h
  rw [Bool.and_eq_true, Bool.and_eq_true, decide_eq_true_eq, decide_eq_true_eq, decide_eq_true_eq] at h
  exact h
theorem fg_off {T : Nat → Nat} {n i : Nat} (h : ¬ fg T n i = true) (hi : i < n) : T i < 48 ∨ 57 < T i := by
  unfold fg at h
  rw [Bool.and_eq_true, Bool.and_eq_true, decide_eq_true_eq, decide_eq_true_eq, decide_eq_true_eq] at h
  omega
theorem rd_on {T : Nat → Nat} {n k e v k' : Nat} (h : rd T n k e = some (v, k')) : v ≤ 99 ∧ k < k' ∧ k' ≤ n := by
  unfold rd at h
  split at h
  · rename_i h1
    have a := fg_on h1
    split at h
    · rename_i h2
      have b := fg_on h2
      split at h
      · rename_i h3; cases h; omega
      · cases h
    · split at h
      · rename_i h3; cases h; omega
      · cases h
  · cases h
/-- a row of letters, all of them printable -/
def Tx (T : Nat → Nat) (n : Nat) (text : Nat → Int32) : Prop := ∀ i, i < n → text i = nI (T i) ∧ T i < 1000
theorem xX0_letterAt {T : Nat → Nat} {n L : Nat} {text : Nat → Int32} (ht : Tx T n text) (hn : n ≤ L) (hL : L < 2 ^ 30) {i : Nat} (hi : i < 2 ^ 30) : m_X0_letterAt L text (nI n) (nI i) = some (if i < n then nI (T i) else -4) := by
  unfold m_X0_letterAt
  rw [if_neg (nI_pos (by omega))]
  by_cases h : i < n
  · rw [if_neg (nI_ge h (by omega)), if_neg (show ¬ Int32.ofNat L ≤ nI i from nI_ge (by omega) (by omega)), if_pos (j_in (by omega) (by omega)), j_clamp (by omega), (ht i h).1, if_pos h]
  · rw [if_pos (nI_le (by omega) (by omega)), if_neg h]
theorem xX6_letterAt {T : Nat → Nat} {n : Nat} {text : Nat → Int32} (ht : Tx T n text) (hn : n ≤ 200) {i : Nat} (hi : i < 2 ^ 30) : m_X6_letterAt (nI n) text (nI i) = some (if i < n then nI (T i) else -1) := by
  unfold m_X6_letterAt
  by_cases h : i < n
  · rw [if_neg (nI_ge h (by omega)), if_pos (j_in (by omega) (by decide)), j_clamp (by omega), (ht i h).1, if_pos h]
  · rw [if_pos (nI_le (by omega) (by omega)), if_neg h]
theorem xX0_isFigure {T : Nat → Nat} {n : Nat} {text : Nat → Int32} (ht : Tx T n text) (i : Nat) : m_X0_isFigure (if i < n then nI (T i) else -4) = some (if fg T n i then 1 else 0) := by
  by_cases h : i < n
  · have hT := (ht i h).2
    rw [if_pos h]
    unfold m_X0_isFigure
    by_cases f : fg T n i = true
    · have a := fg_on f
      rw [if_neg (show ¬ nI (T i) < (48 : Int32) from nI_nlt (b := 48) (by omega) (by omega)), if_neg (show ¬ (57 : Int32) < nI (T i) from nI_nlt (a := 57) (by omega) (by decide)), if_pos f]
    · rw [if_neg f]
      rcases fg_off f h with q | q
      · rw [if_pos (show nI (T i) < (48 : Int32) from nI_lt (b := 48) q (by decide))]
      · rw [if_neg (show ¬ nI (T i) < (48 : Int32) from nI_nlt (b := 48) (by omega) (by omega)), if_pos (show (57 : Int32) < nI (T i) from nI_lt (a := 57) q (by omega))]
  · have f : ¬ fg T n i = true := fun z => h (fg_on z).1
    rw [if_neg h, if_neg f]
    decide
theorem xX6_isFigure {T : Nat → Nat} {n : Nat} {text : Nat → Int32} (ht : Tx T n text) (i : Nat) : m_X6_isFigure (if i < n then nI (T i) else -1) = some (if fg T n i then 1 else 0) := by
  by_cases h : i < n
  · have hT := (ht i h).2
    rw [if_pos h]
    unfold m_X6_isFigure m_X6_in
    by_cases f : fg T n i = true
    · have a := fg_on f
      rw [if_neg (show ¬ nI (T i) < (48 : Int32) from nI_nlt (b := 48) (by omega) (by omega)), if_neg (show ¬ (57 : Int32) < nI (T i) from nI_nlt (a := 57) (by omega) (by decide)), if_pos f]
      rfl
    · rw [if_neg f]
      rcases fg_off f h with q | q
      · rw [if_pos (show nI (T i) < (48 : Int32) from nI_lt (b := 48) q (by decide))]
        rfl
      · rw [if_neg (show ¬ nI (T i) < (48 : Int32) from nI_nlt (b := 48) (by omega) (by omega)), if_pos (show (57 : Int32) < nI (T i) from nI_lt (a := 57) q (by omega))]
        rfl
  · have f : ¬ fg T n i = true := fun z => h (fg_on z).1
    rw [if_neg h, if_neg f]
    decide
theorem xX0_figuresAt {T : Nat → Nat} {n L : Nat} {text : Nat → Int32} (ht : Tx T n text) (hn : n ≤ L) (hL : L < 2 ^ 29) {i : Nat} (hi : i < 2 ^ 29) : m_X0_figuresAt L text (nI n) (nI i) = some (nI (if fg T n i then (if fg T n (i + 1) then 2 else 1) else 0)) := by
  unfold m_X0_figuresAt
  rw [xX0_letterAt ht hn (by omega) (by omega), Option.bind_some, xX0_isFigure ht, Option.bind_some, nI_1, xX0_letterAt ht hn (by omega) (by omega), Option.bind_some, xX0_isFigure ht, Option.bind_some]
  by_cases f : fg T n i = true
  · rw [if_pos f, if_neg n10, if_pos f]
    by_cases g : fg T n (i + 1) = true
    · rw [if_pos g, if_neg n10, if_pos g]; rfl
    · rw [if_neg g, if_pos (show (0 : Int32) = 0 from rfl), if_neg g]; rfl
  · rw [if_neg f, if_pos (show (0 : Int32) = 0 from rfl), if_neg f]; rfl
theorem eq_letter {c e : Nat} (hc : c < 1000) (he : e < 1000) : (nI c = nI e) ↔ c = e := nI_eq (by omega) (by omega)
theorem sub48 {c : Nat} (h : 48 ≤ c) : nI c - (48 : Int32) = nI (c - 48) := pk_sub (b := 48) h
/-- the reference's number -/
theorem xX6_number {T : Nat → Nat} {n : Nat} {text : Nat → Int32} (ht : Tx T n text) (hn : n ≤ 200) {k e : Nat} (hk : k ≤ 200) (he : e < 1000) (lo hi : Int32) : ∃ r at', m_X6_number (nI n) (nI k) text lo hi (nI e) = some (r, at') ∧ match rd T n k e with
    | some (v, k') => at' = nI k' ∧ ((m_X6_in (nI v) lo hi = some 0 ∧ r = -1) ∨ (m_X6_in (nI v) lo hi = some 1 ∧ r = nI v))
    | none => r = -1 := by
  have inb : ∀ x, m_X6_in x lo hi = some 0 ∨ m_X6_in x lo hi = some 1 := fun x => by
    unfold m_X6_in
    split
    · exact Or.inl rfl
    · split
      · exact Or.inl rfl
      · exact Or.inr rfl
  unfold m_X6_number rd
  rw [xX6_letterAt ht hn (by omega), Option.bind_some, xX6_isFigure ht, Option.bind_some, nI_1, xX6_letterAt ht hn (by omega), Option.bind_some, Option.bind_some, xX6_isFigure ht, Option.bind_some]
  by_cases f : fg T n k = true
  · have a := fg_on f
    rw [if_pos f, if_neg n10, if_pos f, if_pos a.1, sub48 a.2.1]
    by_cases g : fg T n (k + 1) = true
    · have b := fg_on g
      rw [if_pos g, if_neg n10, if_pos g, if_pos b.1, Option.bind_some, nI_1, show k + 1 + 1 = k + 2 from rfl]
      have ev : (10 : Int32) * nI (T k - 48) + nI (T (k + 1)) - (48 : Int32) = nI (10 * (T k - 48) + (T (k + 1) - 48)) := by
        rw [show (10 : Int32) = nI 10 from rfl, pk_mul, nI_add, sub48 (by omega)]
        exact congrArg nI (by omega)
      rw [ev, Option.bind_some, Option.bind_some, xX6_letterAt ht hn (by omega), Option.bind_some]
      by_cases c : k + 2 < n ∧ T (k + 2) = e
      · rw [if_pos c, if_pos c.1, c.2, if_pos rfl, nI_1]
        rcases inb (nI (10 * (T k - 48) + (T (k + 1) - 48))) with q | q
        · rw [q, Option.bind_some, if_pos (show (0 : Int32) = 0 from rfl)]
          exact ⟨_, _, rfl, rfl, Or.inl ⟨q, rfl⟩⟩
        · rw [q, Option.bind_some, if_neg n10]
          exact ⟨_, _, rfl, rfl, Or.inr ⟨q, rfl⟩⟩
      · have hne : ¬ (if k + 2 < n then nI (T (k + 2)) else -1) = nI e := by
          by_cases w : k + 2 < n
          · rw [if_pos w]
            intro z
            exact c ⟨w, (eq_letter (ht _ w).2 he).mp z⟩
          · rw [if_neg w]
            intro z
            have h0 : ¬ nI e < 0 := nI_pos (by omega)
            rw [← z] at h0
            exact h0 (by decide)
        rw [if_neg hne, if_neg c]
        exact ⟨_, _, rfl, rfl⟩
    · rw [if_neg g, if_pos (show (0 : Int32) = 0 from rfl), if_neg g, Option.bind_some, nI_1, show k + 1 + 1 = k + 2 from rfl]
      by_cases c : k + 1 < n ∧ T (k + 1) = e
      · rw [if_pos c, if_pos c.1, c.2, if_pos rfl]
        rcases inb (nI (T k - 48)) with q | q
        · rw [q, Option.bind_some, if_pos (show (0 : Int32) = 0 from rfl)]
          exact ⟨_, _, rfl, rfl, Or.inl ⟨q, rfl⟩⟩
        · rw [q, Option.bind_some, if_neg n10]
          exact ⟨_, _, rfl, rfl, Or.inr ⟨q, rfl⟩⟩
      · have hne : ¬ (if k + 1 < n then nI (T (k + 1)) else -1) = nI e := by
          by_cases w : k + 1 < n
          · rw [if_pos w]
            intro z
            exact c ⟨w, (eq_letter (ht _ w).2 he).mp z⟩
          · rw [if_neg w]
            intro z
            have h0 : ¬ nI e < 0 := nI_pos (by omega)
            rw [← z] at h0
            exact h0 (by decide)
        rw [if_neg hne, if_neg c]
        exact ⟨_, _, rfl, rfl⟩
  · rw [if_neg f, if_pos (show (0 : Int32) = 0 from rfl), if_neg f]
    exact ⟨_, _, rfl, rfl⟩
/-- the class's numbers of an item: m of them from k on -/
def rdl (T : Nat → Nat) (n : Nat) : Nat → Nat → Option (List Nat × Nat)
  | 0, k => some ([], k)
  | m + 1, k => match rd T n k (if m = 0 then 59 else 44) with
    | some (v, k') => match rdl T n m k' with
      | some (l, k'') => some (v :: l, k'')
      | none => none
    | none => none
