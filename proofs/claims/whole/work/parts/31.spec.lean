/-! what the months tell, as naturals: τ, laid out as the reference's row told (tasks, helpers, crumbs, last day, asked first; from 5 kinds, 13 days, 21 help, 29 next; from 37 kinds of helpers, 44 prices) -/
abbrev Td : Type := Nat → Nat
abbrev kd (τ : Td) (t : Nat) : Nat := τ (5 + t)
abbrev dy (τ : Td) (t : Nat) : Nat := τ (13 + t)
abbrev hp (τ : Td) (t : Nat) : Nat := τ (21 + t)
abbrev nx (τ : Td) (t : Nat) : Nat := τ (29 + t)
abbrev sk (τ : Td) (h : Nat) : Nat := τ (37 + h)
abbrev pr (τ : Td) (h : Nat) : Nat := τ (44 + h)
/-- what is so of months that are laid -/
def Wf (τ : Td) : Prop := (1 ≤ τ 0 ∧ τ 0 ≤ 8) ∧ τ 1 ≤ 7 ∧ τ 2 ≤ 99 ∧ (1 ≤ τ 3 ∧ τ 3 ≤ 60) ∧ τ 4 < 2 ^ τ 0 ∧ (∀ t, t < τ 0 → kd τ t ≤ 4 ∧ dy τ t ≤ 9 ∧ hp τ t ≤ 5 ∧ nx τ t < τ 0) ∧ ∀ h, h < τ 1 → sk τ h ≤ 4 ∧ pr τ h ≤ 20
/-- the first n helpers of kind k, as bits -/
def hm (τ : Td) (k : Nat) : Nat → Nat
  | 0 => 0
  | n + 1 => hm τ k n ||| (if sk τ n = k then 2 ^ n else 0)
theorem hm_tb (τ : Td) (k i : Nat) : ∀ n, (hm τ k n).testBit i = (decide (i < n) && decide (sk τ i = k))
  | 0 => by simp [hm]
  | n + 1 => by
    rw [hm, Nat.testBit_or, hm_tb τ k i n]
    by_cases e : sk τ n = k
    · rw [if_pos e, Nat.testBit_two_pow]
      by_cases hi : n = i
      · subst hi; simp [e]
      · have h1 : (i < n + 1) = (i < n) := by apply propext; omega
        simp [hi, h1]
    · rw [if_neg e, Nat.zero_testBit, Bool.or_false]
      by_cases hi : n = i
      · subst hi; simp [e]
      · have h1 : (i < n + 1) = (i < n) := by apply propext; omega
        simp [h1]
theorem hm_lt (τ : Td) (k n : Nat) : hm τ k n < 2 ^ n := tb_lt fun i hi => by
  rw [hm_tb]
  have : ¬ i < n := by omega
  simp [this]
/-- by whom t would be ridden for, of these friends, on day d -/
def hf (τ : Td) (t free d : Nat) : Option Nat :=
  if kd τ t = 2 then some 0
  else if kd τ t = 4 ∧ 10 < d then none
  else if hp τ t = 5 then (if kd τ t = 3 then (if free = 0 then none else some (lowb free)) else some 0)
  else if free &&& hm τ (hp τ t) (τ 1) = 0 then none
  else if kd τ t = 3 then (if sd free (lowb (free &&& hm τ (hp τ t) (τ 1))) = 0 then none else some (lowb (free &&& hm τ (hp τ t) (τ 1)) ||| lowb (sd free (lowb (free &&& hm τ (hp τ t) (τ 1))))))
  else if kd τ t = 1 then (if sd (free &&& hm τ (hp τ t) (τ 1)) (lowb (free &&& hm τ (hp τ t) (τ 1))) = 0 then none else some (lowb (free &&& hm τ (hp τ t) (τ 1)) ||| lowb (sd (free &&& hm τ (hp τ t) (τ 1)) (lowb (free &&& hm τ (hp τ t) (τ 1))))))
  else some (lowb (free &&& hm τ (hp τ t) (τ 1)))
/-- by whom t can be ridden for now -/
def hn (τ : Td) (a b f u d t : Nat) : Option Nat := if τ 3 < d then none else if (sd a b).testBit t then hf τ t (sd f u) d else none
def rdy (τ : Td) (t : Nat) : Nat := if kd τ t = 2 then 0 else dy τ t
/-- what may come: one task's turn, a round, n rounds -/
def cmS (τ : Td) (b t S : Nat) : Nat := if S.testBit t then S ||| sd (2 ^ nx τ t) b else S
def cmR (τ : Td) (b : Nat) : Nat → Nat → Nat
  | 0, S => S
  | n + 1, S => cmS τ b n (cmR τ b n S)
def cmN (τ : Td) (b : Nat) : Nat → Nat → Nat
  | 0, S => S
  | k + 1, S => cmR τ b (τ 0) (cmN τ b k S)
def come (τ : Td) (a b : Nat) : Nat := cmN τ b 8 (sd a b)
/-- an answer that may be none, as the class gives it and as the reference does -/
def oC (o : Option Nat) : Int32 := match o with
  | some x => nI x
  | none => -2
def oM (o : Option Nat) : Int32 := match o with
  | some x => nI x
  | none => -1
theorem hf_lt {τ : Td} {t free d x : Nat} (hfr : free < 128) (h : hf τ t free d = some x) : x < 128 ∧ x &&& free = x := by
  have l1 := fun m hm => (lowb_lt m hm).1
  have ms : ∀ m, m < 128 → ∀ i, (lowb m).testBit i = true → m.testBit i = true := fun m hm i hi => sub_tb (lowb_lt m hm).2.2 i hi
  have hok : free &&& hm τ (hp τ t) (τ 1) < 128 := and_lt (n := 7) hfr
  have key : ∀ x, (∀ i, x.testBit i = true → free.testBit i = true) → x < 128 ∧ x &&& free = x := fun x hx => by
    have e := tb_sub hx
    exact ⟨by rw [← e]; exact Nat.lt_of_le_of_lt Nat.and_le_right hfr, e⟩
  have s1 : ∀ i, (lowb (free &&& hm τ (hp τ t) (τ 1))).testBit i = true → free.testBit i = true := fun i hi => by
    have := ms _ hok i hi
    rw [Nat.testBit_and, Bool.and_eq_true] at this
    exact this.1
  unfold hf at h
  split at h
  · cases h; exact key 0 (fun i hi => by rw [Nat.zero_testBit] at hi; cases hi)
  · split at h
    · cases h
    · split at h
      · split at h
        · split at h
          · cases h
          · cases h; exact key _ (ms _ hfr)
        · cases h; exact key 0 (fun i hi => by rw [Nat.zero_testBit] at hi; cases hi)
      · split at h
        · cases h
        · split at h
          · split at h
            · cases h
            · cases h
              refine key _ fun i hi => ?_
              rw [Nat.testBit_or, Bool.or_eq_true] at hi
              rcases hi with hi | hi
              · exact s1 i hi
              · have := ms _ (sd_lt (n := 7) hfr) i hi
                rw [sd_tb _ _ (Nat.lt_trans hfr (by decide)), Bool.and_eq_true] at this
                exact this.1
          · split at h
            · split at h
              · cases h
              · cases h
                refine key _ fun i hi => ?_
                rw [Nat.testBit_or, Bool.or_eq_true] at hi
                rcases hi with hi | hi
                · exact s1 i hi
                · have := ms _ (sd_lt (n := 7) hok) i hi
                  rw [sd_tb _ _ (Nat.lt_trans hok (by decide)), Nat.testBit_and, Bool.and_eq_true, Bool.and_eq_true] at this
                  exact this.1.1
            · cases h; exact key _ s1
