/-! rows of rides, as lists: from a standing on, with the friends F; ok t n: what is seen leaves t at place n; last: the last place that is seen -/
/-- what g gives for t, t + 1, .., m of them, one behind the other -/
def fl (g : Nat → List (List Nat)) : Nat → Nat → List (List Nat)
  | _, 0 => []
  | t, m + 1 => g t ++ fl g (t + 1) m
/-- the rows that begin with t -/
def br (τ : Td) (F : Nat) (ok : Nat → Nat → Bool) (g : Nat → Nat → Nat → Nat → Nat → List (List Nat)) (r a b u d t : Nat) : List (List Nat) :=
  if ok t (r + 1) && (sd a b).testBit t then
    match hf τ t (sd F u) d with
    | some x => if d + rdy τ t ≤ τ 3 then (g (r + 1) (a ||| 2 ^ nx τ t) (b ||| 2 ^ t) (u ||| x) (d + rdy τ t)).map (t :: ·) else []
    | none => []
  else []
def rl (τ : Td) (F : Nat) (ok : Nat → Nat → Bool) (last : Nat) : Nat → Nat → Nat → Nat → Nat → Nat → List (List Nat)
  | 0, r, a, b, _, _ => if sd a b = 0 then (if last ≤ r then [[]] else []) else []
  | k + 1, r, a, b, u, d => if sd a b = 0 then (if last ≤ r then [[]] else []) else fl (br τ F ok (rl τ F ok last k) r a b u d) 0 (τ 0)
theorem rl_open {τ : Td} {F : Nat} {ok : Nat → Nat → Bool} {last : Nat} (k r a b u d : Nat) (h : sd a b = 0) : rl τ F ok last k r a b u d = if last ≤ r then [[]] else [] := by
  cases k with
  | zero => rw [rl, if_pos h]
  | succ k => rw [rl, if_pos h]
/-- a row that what is seen leaves, from place r + 1 on -/
def okr (ok : Nat → Nat → Bool) (last : Nat) : Nat → List Nat → Bool
  | r, [] => decide (last ≤ r)
  | r, t :: q => ok t (r + 1) && okr ok last (r + 1) q
theorem fl_congr {g h : Nat → List (List Nat)} : ∀ {t m : Nat}, (∀ i, t ≤ i → i < t + m → g i = h i) → fl g t m = fl h t m := by
  intro t m
  induction m generalizing t with
  | zero => intro _; rfl
  | succ m ih =>
    intro e
    rw [fl, fl, e t (Nat.le_refl t) (by omega), ih fun i h1 h2 => e i (by omega) (by omega)]
theorem fl_filter {g : Nat → List (List Nat)} {p : List Nat → Bool} : ∀ {t m : Nat}, (fl g t m).filter p = fl (fun i => (g i).filter p) t m := by
  intro t m
  induction m generalizing t with
  | zero => rfl
  | succ m ih => rw [fl, fl, List.filter_append, ih]
/-- seeing on the way or at the end is the same -/
theorem rl_filter {τ : Td} {F : Nat} {ok : Nat → Nat → Bool} {last : Nat} : ∀ (k r a b u d : Nat), rl τ F ok last k r a b u d = (rl τ F (fun _ _ => true) 0 k r a b u d).filter (okr ok last r) := by
  have leaf : ∀ r, (if last ≤ r then [[]] else [] : List (List Nat)) = ([[]] : List (List Nat)).filter (okr ok last r) := fun r => by
    by_cases h : last ≤ r
    · rw [if_pos h, List.filter_cons_of_pos (by simp [okr, h])]; rfl
    · rw [if_neg h, List.filter_cons_of_neg (by simp [okr, h])]; rfl
  intro k
  induction k with
  | zero =>
    intro r a b u d
    rw [rl, rl]
    by_cases h : sd a b = 0
    · rw [if_pos h, if_pos h, if_pos (Nat.zero_le r)]; exact leaf r
    · rw [if_neg h, if_neg h]; rfl
  | succ k ih =>
    intro r a b u d
    rw [rl, rl]
    by_cases h : sd a b = 0
    · rw [if_pos h, if_pos h, if_pos (Nat.zero_le r)]; exact leaf r
    · rw [if_neg h, if_neg h, fl_filter]
      refine fl_congr fun t _ _ => ?_
      unfold br
      simp only [Bool.true_and]
      by_cases ho : (sd a b).testBit t = true
      · rw [ho]
        simp only [Bool.and_true, if_true]
        cases hx : hf τ t (sd F u) d with
        | none => simp
        | some x =>
          simp only
          by_cases hd : d + rdy τ t ≤ τ 3
          · rw [if_pos hd, if_pos hd, ih, List.filter_map]
            by_cases hk : ok t (r + 1) = true
            · rw [if_pos hk]
              refine congrArg _ (List.filter_congr fun q _ => ?_)
              show okr ok last (r + 1) q = (ok t (r + 1) && okr ok last (r + 1) q)
              rw [hk, Bool.true_and]
            · rw [if_neg hk]
              have hk' : ok t (r + 1) = false := by simpa using hk
              have : (okr ok last r ∘ fun x => t :: x) = fun _ => false := by
                funext q
                show (ok t (r + 1) && okr ok last (r + 1) q) = false
                rw [hk', Bool.false_and]
              rw [this]
              simp
          · rw [if_neg hd, if_neg hd]; simp
      · have ho' : (sd a b).testBit t = false := by simpa using ho
        rw [ho']; simp
theorem fl_length_le {g : Nat → List (List Nat)} {c : Nat} : ∀ {t m : Nat}, (∀ i, t ≤ i → i < t + m → (g i).length ≤ c) → (fl g t m).length ≤ m * c := by
  intro t m
  induction m generalizing t with
  | zero => intro _; simp [fl]
  | succ m ih =>
    intro h
    rw [fl, List.length_append, Nat.succ_mul]
    have h1 := h t (Nat.le_refl t) (by omega)
    have h2 := ih (t := t + 1) fun i h3 h4 => h i (by omega) (by omega)
    omega
/-- the number of rides to come, when all that is there may be ridden for -/
theorem fl_none {g : Nat → List (List Nat)} : ∀ {t m : Nat}, (∀ i, t ≤ i → i < t + m → g i = []) → fl g t m = [] := by
  intro t m
  induction m generalizing t with
  | zero => intro _; rfl
  | succ m ih => intro h; rw [fl, h t (Nat.le_refl t) (by omega), ih fun i h1 h2 => h i (by omega) (by omega)]; rfl
theorem fl_ne {g : Nat → List (List Nat)} : ∀ {t m : Nat}, fl g t m ≠ [] ↔ ∃ i, t ≤ i ∧ i < t + m ∧ g i ≠ [] := by
  intro t m
  induction m generalizing t with
  | zero => simp [fl]; intros; omega
  | succ m ih =>
    rw [fl]
    constructor
    · intro h
      by_cases h1 : g t = []
      · rw [h1, List.nil_append] at h
        obtain ⟨i, a, b, c⟩ := ih.mp h
        exact ⟨i, by omega, by omega, c⟩
      · exact ⟨t, Nat.le_refl t, by omega, h1⟩
    · intro ⟨i, a, b, c⟩ e
      rw [List.append_eq_nil_iff] at e
      by_cases h1 : i = t
      · subst h1; exact c e.1
      · exact ih.mpr ⟨i, by omega, by omega, c⟩ e.2
