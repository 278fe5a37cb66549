/-! the help that all that may come wants: where it isn't there, no row ends well -/
theorem bitCount_pop : ∀ x, x < 256 → m_J6_bitCount_0f7a4 (nI x) = some (nI (pop x 8)) := by decide +kernel
/-- a sum over the tasks of a set -/
def sS (g : Nat → Nat) (S : Nat) : Nat → Nat
  | 0 => 0
  | n + 1 => sS g S n + (if S.testBit n then g n else 0)
theorem sS_mono {g : Nat → Nat} {S R : Nat} : ∀ {n : Nat}, (∀ i, i < n → S.testBit i = true → R.testBit i = true) → sS g S n ≤ sS g R n
  | 0, _ => Nat.le_refl 0
  | n + 1, h => by
    have ih := sS_mono (g := g) (S := S) (R := R) (n := n) fun i hi => h i (by omega)
    rw [sS, sS]
    cases hx : S.testBit n with
    | false => simp only [Bool.false_eq_true, if_false]; omega
    | true => rw [h n (by omega) hx]; simp only [if_true]; omega
theorem sS_add {g : Nat → Nat} {S t : Nat} (h : S.testBit t = false) : ∀ {n : Nat}, t < n → sS g (S ||| 2 ^ t) n = sS g S n + g t := by
  have key : ∀ n, n ≤ t → sS g (S ||| 2 ^ t) n = sS g S n := by
    intro n
    induction n with
    | zero => intro _; rfl
    | succ n ih =>
      intro hn
      rw [sS, sS, ih (by omega), or_p2_tb]
      have : ¬ t = n := by omega
      simp [this]
  intro n
  induction n with
  | zero => intro h; omega
  | succ n ih =>
    intro hn
    rw [sS, sS, or_p2_tb]
    by_cases e : t = n
    · subst e; rw [key t (Nat.le_refl t)]; simp [h]
    · rw [ih (by omega)]; simp [e]; omega
theorem sS_0 (g : Nat → Nat) : ∀ n, sS g 0 n = 0
  | 0 => rfl
  | n + 1 => by rw [sS, sS_0 g n, Nat.zero_testBit]; rfl
theorem sS_le {g : Nat → Nat} {c : Nat} (hg : ∀ t, g t ≤ c) (S : Nat) : ∀ n, sS g S n ≤ c * n
  | 0 => Nat.le_refl 0
  | n + 1 => by
    have h1 := sS_le hg S n
    have h2 := hg n
    rw [sS, Nat.mul_succ]
    split <;> omega
/-- the help of kind k that a ride for t uses; what it uses of any; all of it -/
def ck (τ : Td) (k t : Nat) : Nat := if hp τ t = k ∧ kd τ t ≠ 2 then (if kd τ t = 1 then 2 else 1) else 0
def cA (τ : Td) (t : Nat) : Nat := if kd τ t = 3 then 1 else 0
def cT (τ : Td) (t : Nat) : Nat := cA τ t + ck τ 0 t + ck τ 1 t + ck τ 2 t + ck τ 3 t + ck τ 4 t
theorem ck_le (τ : Td) (k t : Nat) : ck τ k t ≤ 2 := by
  unfold ck
  split
  · split <;> omega
  · omega
theorem cA_le (τ : Td) (t : Nat) : cA τ t ≤ 1 := by
  unfold cA
  split <;> omega
theorem ck_off {τ : Td} {k t : Nat} (h : hp τ t ≠ k ∨ kd τ t = 2) : ck τ k t = 0 := by
  unfold ck
  rw [if_neg]
  intro z
  rcases h with h | h
  · exact h z.1
  · exact z.2 h
/-- all of it is that of any and that of its own kind -/
theorem cT_own {τ : Td} {t : Nat} (h : hp τ t < 5) : cT τ t = cA τ t + ck τ (hp τ t) t := by
  unfold cT
  have off : ∀ k, k ≠ hp τ t → ck τ k t = 0 := fun k hk => ck_off (Or.inl fun e => hk e.symm)
  generalize hq : hp τ t = q at h off
  obtain h | h | h | h | h : q = 0 ∨ q = 1 ∨ q = 2 ∨ q = 3 ∨ q = 4 := by omega
  · subst h; rw [off 1 (by decide), off 2 (by decide), off 3 (by decide), off 4 (by decide)]; omega
  · subst h; rw [off 0 (by decide), off 2 (by decide), off 3 (by decide), off 4 (by decide)]; omega
  · subst h; rw [off 0 (by decide), off 1 (by decide), off 3 (by decide), off 4 (by decide)]; omega
  · subst h; rw [off 0 (by decide), off 1 (by decide), off 2 (by decide), off 4 (by decide)]; omega
  · subst h; rw [off 0 (by decide), off 1 (by decide), off 2 (by decide), off 3 (by decide)]; omega
theorem cT_none {τ : Td} {t : Nat} (h : 5 ≤ hp τ t ∨ kd τ t = 2) : cT τ t = cA τ t := by
  unfold cT
  have off : ∀ k, k < 5 → ck τ k t = 0 := fun k hk => ck_off (by
    rcases h with h | h
    · exact Or.inl (by omega)
    · exact Or.inr h)
  rw [off 0 (by decide), off 1 (by decide), off 2 (by decide), off 3 (by decide), off 4 (by decide)]
  omega
theorem pop_1 {y i : Nat} (hi : i < 8) (h : y.testBit i = true) : 1 ≤ pop y 8 := by
  have h1 := pop_mono (x := 0 ||| 2 ^ i) (y := y) (fun j hj => by
    rw [or_p2_tb, Nat.zero_testBit, Bool.false_or, decide_eq_true_eq] at hj
    subst hj; exact h) 8
  rw [pop_add (Nat.zero_testBit i) hi] at h1
  omega
theorem pop_2 {y i j : Nat} (hi : i < 8) (hj : j < 8) (hij : ¬ i = j) (h : y.testBit i = true) (h' : y.testBit j = true) : 2 ≤ pop y 8 := by
  have h1 := pop_mono (x := (0 ||| 2 ^ i) ||| 2 ^ j) (y := y) (fun k hk => by
    rw [or_p2_tb, or_p2_tb, Nat.zero_testBit, Bool.false_or, Bool.or_eq_true, decide_eq_true_eq, decide_eq_true_eq] at hk
    rcases hk with rfl | rfl
    · exact h
    · exact h') 8
  rw [pop_add (by rw [or_p2_tb, Nat.zero_testBit, Bool.false_or]; exact decide_eq_false hij) hj, pop_add (Nat.zero_testBit i) hi] at h1
  omega
/-- what a ride uses, it uses of each kind as is wanted -/
theorem hf_use {τ : Td} {t free d x : Nat} (hfr : free < 128) (hh : hp τ t ≤ 5) (h : hf τ t free d = some x) : (∀ k, k < 5 → ck τ k t ≤ pop (x &&& hm τ k (τ 1)) 8) ∧ cT τ t ≤ pop x 8 := by
  by_cases k2 : kd τ t = 2
  · refine ⟨fun k _ => by rw [ck_off (Or.inr k2)]; exact Nat.zero_le _, ?_⟩
    rw [cT_none (Or.inr k2)]
    unfold cA
    rw [if_neg (by omega)]
    exact Nat.zero_le _
  unfold hf at h
  rw [if_neg k2] at h
  by_cases k4 : kd τ t = 4 ∧ 10 < d
  · rw [if_pos k4] at h; cases h
  rw [if_neg k4] at h
  by_cases h5 : hp τ t = 5
  · rw [if_pos h5] at h
    refine ⟨fun k hk => by rw [ck_off (Or.inl (by omega))]; exact Nat.zero_le _, ?_⟩
    rw [cT_none (Or.inl (by omega))]
    unfold cA
    by_cases k3 : kd τ t = 3
    · rw [if_pos k3] at h ⊢
      by_cases hz : free = 0
      · rw [if_pos hz] at h; cases h
      · rw [if_neg hz] at h
        cases h
        obtain ⟨i, hi, e, hb⟩ := lowb_p2 free hfr hz
        exact pop_1 (i := i) (by omega) (by rw [e]; exact Nat.testBit_two_pow_self)
    · rw [if_neg k3]; exact Nat.zero_le _
  rw [if_neg h5] at h
  have hq : free &&& hm τ (hp τ t) (τ 1) < 128 := and_lt (n := 7) hfr
  by_cases hz : free &&& hm τ (hp τ t) (τ 1) = 0
  · rw [if_pos hz] at h; cases h
  rw [if_neg hz] at h
  obtain ⟨i, hi, e, hb⟩ := lowb_p2 _ hq hz
  have hmi : (hm τ (hp τ t) (τ 1)).testBit i = true := by
    rw [Nat.testBit_and, Bool.and_eq_true] at hb; exact hb.2
  have own : ck τ (hp τ t) t = if kd τ t = 1 then 2 else 1 := by unfold ck; rw [if_pos ⟨rfl, k2⟩]
  -- it is enough to look at its own kind
  have red : ck τ (hp τ t) t ≤ pop (x &&& hm τ (hp τ t) (τ 1)) 8 → cA τ t + ck τ (hp τ t) t ≤ pop x 8 → (∀ k, k < 5 → ck τ k t ≤ pop (x &&& hm τ k (τ 1)) 8) ∧ cT τ t ≤ pop x 8 := by
    intro h1 h2
    refine ⟨fun k hk => ?_, by rw [cT_own (by omega)]; exact h2⟩
    by_cases q : hp τ t = k
    · subst q; exact h1
    · rw [ck_off (Or.inl q)]; exact Nat.zero_le _
  by_cases k3 : kd τ t = 3
  · rw [if_pos k3] at h
    by_cases hz2 : sd free (lowb (free &&& hm τ (hp τ t) (τ 1))) = 0
    · rw [if_pos hz2] at h; cases h
    rw [if_neg hz2] at h
    cases h
    obtain ⟨j, hj, e2, hb2⟩ := lowb_p2 _ (sd_lt (n := 7) hfr) hz2
    rw [sd_tb _ _ (Nat.lt_trans hfr (by decide)), e, Bool.and_eq_true, Nat.testBit_two_pow] at hb2
    have hij : ¬ i = j := fun q => by
      have := hb2.2
      rw [decide_eq_true q] at this
      cases this
    refine red ?_ ?_
    · rw [own, if_neg (by omega)]
      exact pop_1 (i := i) (by omega) (by rw [Nat.testBit_and, Nat.testBit_or, e, Nat.testBit_two_pow_self, hmi]; rfl)
    · rw [own, if_neg (by omega)]
      have := cA_le τ t
      have h2 : 2 ≤ pop (lowb (free &&& hm τ (hp τ t) (τ 1)) ||| lowb (sd free (lowb (free &&& hm τ (hp τ t) (τ 1))))) 8 := pop_2 (i := i) (j := j) (by omega) (by omega) hij (by rw [Nat.testBit_or, e, Nat.testBit_two_pow_self]; rfl) (by rw [Nat.testBit_or, e2, Nat.testBit_two_pow_self, Bool.or_true])
      omega
  rw [if_neg k3] at h
  have c3 : cA τ t = 0 := by unfold cA; rw [if_neg k3]
  by_cases k1 : kd τ t = 1
  · rw [if_pos k1] at h
    by_cases hz2 : sd (free &&& hm τ (hp τ t) (τ 1)) (lowb (free &&& hm τ (hp τ t) (τ 1))) = 0
    · rw [if_pos hz2] at h; cases h
    rw [if_neg hz2] at h
    cases h
    obtain ⟨j, hj, e2, hb2⟩ := lowb_p2 _ (sd_lt (n := 7) hq) hz2
    rw [sd_tb _ _ (Nat.lt_trans hq (by decide)), e, Bool.and_eq_true, Nat.testBit_and, Bool.and_eq_true, Nat.testBit_two_pow] at hb2
    have hij : ¬ i = j := fun q => by
      have := hb2.2
      rw [decide_eq_true q] at this
      cases this
    refine red ?_ ?_
    · rw [own, if_pos k1]
      exact pop_2 (i := i) (j := j) (by omega) (by omega) hij (by rw [Nat.testBit_and, Nat.testBit_or, e, Nat.testBit_two_pow_self, hmi]; rfl) (by rw [Nat.testBit_and, Nat.testBit_or, e2, Nat.testBit_two_pow_self, Bool.or_true, hb2.1.2]; rfl)
    · rw [own, if_pos k1, c3]
      exact pop_2 (i := i) (j := j) (by omega) (by omega) hij (by rw [Nat.testBit_or, e, Nat.testBit_two_pow_self]; rfl) (by rw [Nat.testBit_or, e2, Nat.testBit_two_pow_self, Bool.or_true])
  · rw [if_neg k1] at h
    cases h
    refine red ?_ ?_
    · rw [own, if_neg k1]
      exact pop_1 (i := i) (by omega) (by rw [Nat.testBit_and, e, Nat.testBit_two_pow_self, hmi]; rfl)
    · rw [own, if_neg k1, c3]
      exact pop_1 (i := i) (by omega) (by rw [e]; exact Nat.testBit_two_pow_self)
theorem pop_split {free x m : Nat} (hfr : free < 2 ^ 32) (hx : x &&& free = x) : ∀ n, pop (sd free x &&& m) n + pop (x &&& m) n = pop (free &&& m) n
  | 0 => rfl
  | n + 1 => by
    have ih := pop_split (m := m) hfr hx n
    have hs : x.testBit n = true → free.testBit n = true := sub_tb hx n
    rw [pop, pop, pop, Nat.testBit_and, Nat.testBit_and, Nat.testBit_and, sd_tb _ _ hfr]
    cases h1 : x.testBit n <;> cases h2 : free.testBit n <;> cases h3 : m.testBit n <;> first | exact absurd (hs h1) (by rw [h2]; decide) | (simp; omega)
theorem pop_split0 {free x : Nat} (hfr : free < 2 ^ 32) (hx : x &&& free = x) : ∀ n, pop (sd free x) n + pop x n = pop free n
  | 0 => rfl
  | n + 1 => by
    have ih := pop_split0 hfr hx n
    have hs : x.testBit n = true → free.testBit n = true := sub_tb hx n
    rw [pop, pop, pop, sd_tb _ _ hfr]
    cases h1 : x.testBit n <;> cases h2 : free.testBit n <;> first | exact absurd (hs h1) (by rw [h2]; decide) | (simp; omega)
theorem sd_sdo {F u x : Nat} (hF : F < 2 ^ 32) : sd F (u ||| x) = sd (sd F u) x := by
  apply Nat.eq_of_testBit_eq
  intro i
  rw [sd_tb _ _ hF, sd_tb _ _ (Nat.lt_of_le_of_lt (sd_le F u) hF), sd_tb _ _ hF, Nat.testBit_or]
  cases F.testBit i <;> cases u.testBit i <;> cases x.testBit i <;> rfl
/-- all the help that rides for a set use -/
def tot (τ : Td) (S : Nat) : Nat := sS (cA τ) S (τ 0) + sS (ck τ 0) S (τ 0) + sS (ck τ 1) S (τ 0) + sS (ck τ 2) S (τ 0) + sS (ck τ 3) S (τ 0) + sS (ck τ 4) S (τ 0)
theorem tot_mono {τ : Td} {S R : Nat} (h : ∀ i, S.testBit i = true → R.testBit i = true) : tot τ S ≤ tot τ R := by
  unfold tot
  have g := fun f => sS_mono (g := f) (S := S) (R := R) (n := τ 0) fun i _ => h i
  have h1 := g (cA τ)
  have h2 := g (ck τ 0)
  have h3 := g (ck τ 1)
  have h4 := g (ck τ 2)
  have h5 := g (ck τ 3)
  have h6 := g (ck τ 4)
  omega
theorem tot_add {τ : Td} {S t : Nat} (h : S.testBit t = false) (ht : t < τ 0) : tot τ (S ||| 2 ^ t) = tot τ S + cT τ t := by
  unfold tot cT
  rw [sS_add h ht, sS_add h ht, sS_add h ht, sS_add h ht, sS_add h ht, sS_add h ht]
  omega
theorem tot_0 (τ : Td) : tot τ 0 = 0 := by
  unfold tot
  rw [sS_0, sS_0, sS_0, sS_0, sS_0, sS_0]
/-- is the help enough, kind by kind from k on, m of them; what these want -/
def enB (τ : Td) (S free : Nat) : Nat → Nat → Bool
  | _, 0 => true
  | k, m + 1 => decide (sS (ck τ k) S (τ 0) ≤ pop (free &&& hm τ k (τ 1)) 8) && enB τ S free (k + 1) m
def smR (τ : Td) (S : Nat) : Nat → Nat → Nat
  | _, 0 => 0
  | k, m + 1 => sS (ck τ k) S (τ 0) + smR τ S (k + 1) m
def enough (τ : Td) (S free : Nat) : Bool := enB τ S free 0 5 && decide (sS (cA τ) S (τ 0) + smR τ S 0 5 ≤ pop free 8)
theorem enough_of {τ : Td} {S free : Nat} (h : ∀ k, k < 5 → sS (ck τ k) S (τ 0) ≤ pop (free &&& hm τ k (τ 1)) 8) (ht : tot τ S ≤ pop free 8) : enough τ S free = true := by
  have e1 : enB τ S free 0 5 = true := by
    show (decide (_ ≤ _) && (decide (_ ≤ _) && (decide (_ ≤ _) && (decide (_ ≤ _) && (decide (_ ≤ _) && true))))) = true
    rw [decide_eq_true (h 0 (by decide)), decide_eq_true (h 1 (by decide)), decide_eq_true (h 2 (by decide)), decide_eq_true (h 3 (by decide)), decide_eq_true (h 4 (by decide))]
    rfl
  have e2 : sS (cA τ) S (τ 0) + smR τ S 0 5 = tot τ S := by
    show sS (cA τ) S (τ 0) + (sS (ck τ 0) S (τ 0) + (sS (ck τ 1) S (τ 0) + (sS (ck τ 2) S (τ 0) + (sS (ck τ 3) S (τ 0) + (sS (ck τ 4) S (τ 0) + 0))))) = tot τ S
    unfold tot
    omega
  unfold enough
  rw [e1, e2, decide_eq_true ht]
  rfl
/-- on the way: what X wanted, and what is free still, is no more than was free -/
def He (τ : Td) (F u0 X u : Nat) : Prop := (∀ k, k < 5 → sS (ck τ k) X (τ 0) + pop (sd F u &&& hm τ k (τ 1)) 8 ≤ pop (sd F u0 &&& hm τ k (τ 1)) 8) ∧ tot τ X + pop (sd F u) 8 ≤ pop (sd F u0) 8
theorem He.start (τ : Td) (F u0 : Nat) : He τ F u0 0 u0 := ⟨fun k _ => by rw [sS_0]; omega, by rw [tot_0]; omega⟩
theorem He.step {τ : Td} {F u0 X u t d x : Nat} (h : He τ F u0 X u) (hF : F < 128) (hh : hp τ t ≤ 5) (hX : X.testBit t = false) (ht : t < τ 0) (hx : hf τ t (sd F u) d = some x) : He τ F u0 (X ||| 2 ^ t) (u ||| x) := by
  have hfr : sd F u < 128 := sd_lt (n := 7) hF
  have h32 : sd F u < 2 ^ 32 := Nat.lt_trans hfr (by decide)
  have hsub := (hf_lt hfr hx).2
  obtain ⟨u1, u2⟩ := hf_use hfr hh hx
  refine ⟨fun k hk => ?_, ?_⟩
  · have h1 := h.1 k hk
    have h2 := u1 k hk
    have h3 := pop_split (m := hm τ k (τ 1)) h32 hsub 8
    rw [sS_add hX ht, sd_sdo (Nat.lt_trans hF (by decide))]
    omega
  · have h1 := h.2
    have h3 := pop_split0 h32 hsub 8
    rw [tot_add hX ht, sd_sdo (Nat.lt_trans hF (by decide))]
    omega
/-- behind a row that brings all that is asked, all that may come has been ridden for -/
theorem cn_all {τ : Td} (hw : Wf τ) {a0 b0 d0 X a b d : Nat} (ha : a0 < 2 ^ τ 0) (hb : b0 < 2 ^ τ 0) (h : Cn τ a0 b0 d0 X a b d) (h0 : sd a b = 0) : ∀ i, (come τ a0 b0).testBit i = true → X.testBit i = true := by
  have hal := (h.lt hw ha hb).1
  have hz := (sd_zero (Nat.lt_trans (hw.p8 hal) (by decide))).mp h0
  obtain ⟨hC, hX, rfl, rfl, rfl⟩ := h
  intro i hi
  refine cmN_min (fun t ht => Nat.lt_trans (Nat.lt_of_lt_of_le (hw.nx t ht) hw.1.2) (by decide)) (S := sd a0 b0) ?_ ?_ 8 i hi
  · intro j hj
    rw [sd_tb _ _ (Nat.lt_trans (hw.p8 ha) (by decide)), Bool.and_eq_true] at hj
    have := hz j (by rw [Nat.testBit_or, hj.1]; rfl)
    rw [Nat.testBit_or, Bool.or_eq_true] at this
    rcases this with q | q
    · rw [q] at hj; simp at hj
    · exact q
  · intro t ht hXt hbt
    have := hz (nx τ t) (by rw [Nat.testBit_or, Bool.or_eq_true]; exact Or.inr ((nxs_tb τ X _ _).mpr ⟨t, ht, hXt, rfl⟩))
    rw [Nat.testBit_or, hbt, Bool.false_or] at this
    exact this
theorem He.end {τ : Td} (hw : Wf τ) {F u0 a0 b0 d0 X a b d u : Nat} (ha : a0 < 2 ^ τ 0) (hb : b0 < 2 ^ τ 0) (h : Cn τ a0 b0 d0 X a b d) (he : He τ F u0 X u) (h0 : sd a b = 0) : enough τ (come τ a0 b0) (sd F u0) = true := by
  have hall := cn_all hw ha hb h h0
  refine enough_of (fun k hk => ?_) ?_
  · have h1 := sS_mono (g := ck τ k) (S := come τ a0 b0) (R := X) (n := τ 0) fun i _ => hall i
    have h2 := he.1 k hk
    omega
  · have h1 := tot_mono (τ := τ) hall
    have h2 := he.2
    omega
/-- the help isn't enough: no row ends well -/
theorem rl_poor {τ : Td} (hw : Wf τ) {F : Nat} (hF : F < 128) {ok : Nat → Nat → Bool} {last a0 b0 d0 u0 : Nat} (ha : a0 < 2 ^ τ 0) (hb : b0 < 2 ^ τ 0) (hno : enough τ (come τ a0 b0) (sd F u0) = false) : ∀ (k r X a b u d : Nat), Cn τ a0 b0 d0 X a b d → He τ F u0 X u → rl τ F ok last k r a b u d = [] := by
  have no : ∀ X a b u d, Cn τ a0 b0 d0 X a b d → He τ F u0 X u → ¬ sd a b = 0 := fun X a b u d h he h0 => by
    have := he.end hw ha hb h h0
    rw [hno] at this
    cases this
  intro k
  induction k with
  | zero =>
    intro r X a b u d h he
    rw [rl, if_neg (no _ _ _ _ _ h he)]
  | succ k ih =>
    intro r X a b u d h he
    rw [rl, if_neg (no _ _ _ _ _ h he)]
    refine fl_none fun t _ _ => ?_
    unfold br
    by_cases hc : (ok t (r + 1) && (sd a b).testBit t) = true
    · rw [if_pos hc]
      rw [Bool.and_eq_true] at hc
      have hin := h.in hw ha hb hc.2
      cases hx : hf τ t (sd F u) d with
      | none => rfl
      | some x =>
        simp only
        by_cases hd2 : d + rdy τ t ≤ τ 3
        · rw [if_pos hd2, ih (r + 1) _ _ _ _ _ (h.step hw ha hb hc.2) (he.step hF (hw.2.2.2.2.2.1 t hin.1).2.2.1 hin.2.2.2.1 hin.1 hx)]; rfl
        · rw [if_neg hd2]
    · rw [if_neg hc]
/-- days and help are there -/
abbrev Go (τ : Td) (F a b u d : Nat) : Prop := d + cd τ a b ≤ τ 3 ∧ enough τ (come τ a b) (sd F u) = true
/-- where they aren't, no row ends well -/
theorem rl_no {τ : Td} (hw : Wf τ) {F : Nat} (hF : F < 128) {ok : Nat → Nat → Bool} {last a0 b0 d0 u0 : Nat} (ha : a0 < 2 ^ τ 0) (hb : b0 < 2 ^ τ 0) (hno : ¬ Go τ F a0 b0 u0 d0) (k r X a b u d : Nat) (h : Cn τ a0 b0 d0 X a b d) (he : He τ F u0 X u) (hd : d ≤ τ 3) : rl τ F ok last k r a b u d = [] := by
  by_cases q : d0 + cd τ a0 b0 ≤ τ 3
  · refine rl_poor hw hF ha hb ?_ k r X a b u d h he
    cases e : enough τ (come τ a0 b0) (sd F u0) with
    | false => rfl
    | true => exact absurd ⟨q, e⟩ hno
  · exact rl_late hw ha hb (by omega) k r X a b u d h hd
/-! the class's own look at the help -/
theorem xX0_helpOfKind_loop {τ : Td} (hw : Wf τ) {S k : Nat} (hk : k < 5) {kinds helpKinds : Nat → Int32} (h1 : ∀ t, t < τ 0 → kinds t = nI (kd τ t)) (h2 : ∀ t, t < τ 0 → helpKinds t = nI (hp τ t)) : ∀ (m t fuel : Nat), t + m = τ 0 → m < fuel → lp_X0_helpOfKind_5 (nI S) (nI k) (nI (τ 0)) kinds helpKinds fuel (nI (sS (ck τ k) S t)) (nI t) = some (nI (sS (ck τ k) S (τ 0))) := by
  have hT8 := hw.1.2
  intro m
  induction m with
  | zero =>
    intro t fuel ht hf
    obtain ⟨n, rfl⟩ : ∃ n, fuel = n + 1 := ⟨fuel - 1, by omega⟩
    have e : t = τ 0 := by omega
    rw [lp_X0_helpOfKind_5, if_pos (nI_le (by omega) (by omega)), e]
  | succ m ih =>
    intro t fuel ht hf
    obtain ⟨n, rfl⟩ : ∃ n, fuel = n + 1 := ⟨fuel - 1, by omega⟩
    have ih1 := ih (t + 1) n (by omega) (by omega)
    have e : sS (ck τ k) S (t + 1) = sS (ck τ k) S t + (if S.testBit t then ck τ k t else 0) := rfl
    obtain ⟨b1, -, b2, -⟩ := hw.2.2.2.2.2.1 t (by omega)
    have kk := h1 t (by omega)
    have kh := h2 t (by omega)
    have kr := xX0_kindOf (f := kinds) (t := t) (by omega)
    rw [kk] at kr
    rw [lp_X0_helpOfKind_5, if_neg (nI_ge (by omega) (by omega)), xX5_bit (by omega), Option.bind_some, nI_1]
    by_cases h : S.testBit t = true
    · rw [e, if_pos h] at ih1
      rw [if_neg (fun z => by rw [(j_tb0 (by omega)).mp z] at h; cases h), xX0_helpKindOf (by omega), Option.bind_some, kh]
      have eh : (nI (hp τ t) = nI k) ↔ hp τ t = k := nI_eq (by omega) (by omega)
      by_cases q : hp τ t = k
      · rw [if_pos (eh.mpr q), kr]
        simp only [Option.bind_some]
        have e2 : (nI (kd τ t) = (2 : Int32)) ↔ kd τ t = 2 := nI_eq (b := 2) (by omega) (by decide)
        have e1 : (nI (kd τ t) = (1 : Int32)) ↔ kd τ t = 1 := nI_eq (b := 1) (by omega) (by decide)
        by_cases k2 : kd τ t = 2
        · rw [ck_off (Or.inr k2), Nat.add_zero] at ih1
          rw [if_pos (e2.mpr k2)]
          exact ih1
        · rw [if_neg (fun z => k2 (e2.mp z))]
          have ec : ck τ k t = if kd τ t = 1 then 2 else 1 := by unfold ck; rw [if_pos ⟨q, k2⟩]
          rw [ec] at ih1
          by_cases k1 : kd τ t = 1
          · rw [if_pos k1] at ih1
            rw [if_pos (e1.mpr k1), show nI (sS (ck τ k) S t) + (2 : Int32) = nI (sS (ck τ k) S t + 2) from nI_add _ 2]
            exact ih1
          · rw [if_neg k1] at ih1
            rw [if_neg (fun z => k1 (e1.mp z)), nI_1]
            exact ih1
      · rw [ck_off (Or.inl q), Nat.add_zero] at ih1
        rw [if_neg (fun z => q (eh.mp z))]
        exact ih1
    · have h' : S.testBit t = false := by simpa using h
      rw [if_pos ((j_tb0 (by omega)).mpr h')]
      rw [e, if_neg h, Nat.add_zero] at ih1
      exact ih1
theorem xX0_helpOfKind {τ : Td} (hw : Wf τ) {S k N : Nat} (hN : 100 ≤ N) (hk : k < 5) {kinds helpKinds : Nat → Int32} (h1 : ∀ t, t < τ 0 → kinds t = nI (kd τ t)) (h2 : ∀ t, t < τ 0 → helpKinds t = nI (hp τ t)) : m_X0_helpOfKind N (nI (τ 0)) kinds helpKinds (nI S) (nI k) = some (nI (sS (ck τ k) S (τ 0))) := by
  have hT8 := hw.1.2
  unfold m_X0_helpOfKind
  have h3 : lp_X0_helpOfKind_5 (nI S) (nI k) (nI (τ 0)) kinds helpKinds N (0 : Int32) (0 : Int32) = some (nI (sS (ck τ k) S (τ 0))) := xX0_helpOfKind_loop hw hk h1 h2 (τ 0) 0 N (by omega) (by omega)
  rw [h3]
  rfl
theorem xX0_helpOfAny_loop {τ : Td} (hw : Wf τ) {S : Nat} {kinds : Nat → Int32} (h1 : ∀ t, t < τ 0 → kinds t = nI (kd τ t)) : ∀ (m t fuel : Nat), t + m = τ 0 → m < fuel → lp_X0_helpOfAny_4 (nI S) (nI (τ 0)) kinds fuel (nI (sS (cA τ) S t)) (nI t) = some (nI (sS (cA τ) S (τ 0))) := by
  have hT8 := hw.1.2
  intro m
  induction m with
  | zero =>
    intro t fuel ht hf
    obtain ⟨n, rfl⟩ : ∃ n, fuel = n + 1 := ⟨fuel - 1, by omega⟩
    have e : t = τ 0 := by omega
    rw [lp_X0_helpOfAny_4, if_pos (nI_le (by omega) (by omega)), e]
  | succ m ih =>
    intro t fuel ht hf
    obtain ⟨n, rfl⟩ : ∃ n, fuel = n + 1 := ⟨fuel - 1, by omega⟩
    have ih1 := ih (t + 1) n (by omega) (by omega)
    have e : sS (cA τ) S (t + 1) = sS (cA τ) S t + (if S.testBit t then cA τ t else 0) := rfl
    obtain ⟨b1, -, b2, -⟩ := hw.2.2.2.2.2.1 t (by omega)
    have kr := xX0_kindOf (f := kinds) (t := t) (by omega)
    rw [h1 t (by omega)] at kr
    have a0 : nI (sS (cA τ) S t) + (0 : Int32) = nI (sS (cA τ) S t) := nI_add _ 0
    rw [lp_X0_helpOfAny_4, if_neg (nI_ge (by omega) (by omega)), xX5_bit (by omega), Option.bind_some, nI_1, a0]
    by_cases h : S.testBit t = true
    · rw [e, if_pos h] at ih1
      rw [if_neg (fun z => by rw [(j_tb0 (by omega)).mp z] at h; cases h), kr, Option.bind_some]
      have e3 : (nI (kd τ t) = (3 : Int32)) ↔ kd τ t = 3 := nI_eq (b := 3) (by omega) (by decide)
      by_cases k3 : kd τ t = 3
      · have ec : cA τ t = 1 := by unfold cA; rw [if_pos k3]
        rw [ec] at ih1
        rw [if_pos (e3.mpr k3), nI_1]
        exact ih1
      · have ec : cA τ t = 0 := by unfold cA; rw [if_neg k3]
        rw [ec, Nat.add_zero] at ih1
        rw [if_neg (fun z => k3 (e3.mp z))]
        exact ih1
    · have h' : S.testBit t = false := by simpa using h
      rw [if_pos ((j_tb0 (by omega)).mpr h')]
      rw [e, if_neg h, Nat.add_zero] at ih1
      exact ih1
theorem xX0_helpOfAny {τ : Td} (hw : Wf τ) {S N : Nat} (hN : 100 ≤ N) {kinds : Nat → Int32} (h1 : ∀ t, t < τ 0 → kinds t = nI (kd τ t)) : m_X0_helpOfAny N (nI (τ 0)) kinds (nI S) = some (nI (sS (cA τ) S (τ 0))) := by
  have hT8 := hw.1.2
  unfold m_X0_helpOfAny
  have h3 : lp_X0_helpOfAny_4 (nI S) (nI (τ 0)) kinds N (0 : Int32) (0 : Int32) = some (nI (sS (cA τ) S (τ 0))) := xX0_helpOfAny_loop hw h1 (τ 0) 0 N (by omega) (by omega)
  rw [h3]
  rfl
theorem xX0_isHelpEnough_loop {τ : Td} (hw : Wf τ) {S free N p : Nat} (hN : 100 ≤ N) (hfr : free < 128) {kinds helpKinds masks : Nat → Int32} (h1 : ∀ t, t < τ 0 → kinds t = nI (kd τ t)) (h2 : ∀ t, t < τ 0 → helpKinds t = nI (hp τ t)) (h3 : ∀ k, k < 5 → masks k = nI (hm τ k (τ 1))) : ∀ (m k fuel q : Nat), k + m = 5 → m < fuel → lp_X0_isHelpEnough_14 N (nI S) (nI free) (nI (τ 0)) kinds helpKinds masks fuel (nI p - nI q) (nI k) = some (if enB τ S free k m = true then Sum.inl (nI p - nI (q + smR τ S k m)) else Sum.inr ()) := by
  have hT8 := hw.1.2
  intro m
  induction m with
  | zero =>
    intro k fuel q ht hf
    obtain ⟨n, rfl⟩ : ∃ n, fuel = n + 1 := ⟨fuel - 1, by omega⟩
    rw [lp_X0_isHelpEnough_14, if_pos (show (5 : Int32) ≤ nI _ from nI_le (a := 5) (by omega) (by omega))]
    rfl
  | succ m ih =>
    intro k fuel q ht hf
    obtain ⟨n, rfl⟩ : ∃ n, fuel = n + 1 := ⟨fuel - 1, by omega⟩
    have hlt : free &&& hm τ k (τ 1) < 256 := Nat.lt_of_le_of_lt Nat.and_le_left (by omega)
    have hs := sS_le (ck_le τ k) S (τ 0)
    have hp8 := pop_le (free &&& hm τ k (τ 1)) 8
    rw [lp_X0_isHelpEnough_14, if_neg (show ¬ (5 : Int32) ≤ nI _ from nI_ge (b := 5) (by omega) (by decide)), xX0_helpOfKind hw hN (by omega) h1 h2, Option.bind_some, xX0_helpersOf (by omega), Option.bind_some, h3 k (by omega), j_and, bitCount_pop _ hlt, Option.bind_some, nI_1, Int32.sub_sub, nI_add]
    have el : (nI (sS (ck τ k) S (τ 0)) ≤ nI (pop (free &&& hm τ k (τ 1)) 8)) ↔ sS (ck τ k) S (τ 0) ≤ pop (free &&& hm τ k (τ 1)) 8 := nI_leI (by omega) (by omega)
    have eB : enB τ S free k (m + 1) = (decide (sS (ck τ k) S (τ 0) ≤ pop (free &&& hm τ k (τ 1)) 8) && enB τ S free (k + 1) m) := rfl
    have eS : smR τ S k (m + 1) = sS (ck τ k) S (τ 0) + smR τ S (k + 1) m := rfl
    rw [eB, eS]
    by_cases z : sS (ck τ k) S (τ 0) ≤ pop (free &&& hm τ k (τ 1)) 8
    · rw [if_pos (el.mpr z), ih (k + 1) n _ (by omega) (by omega), decide_eq_true z, Bool.true_and, Nat.add_assoc]
    · rw [if_neg (fun y => z (el.mp y)), decide_eq_false z, Bool.false_and, if_neg (by decide)]
theorem smR_le (τ : Td) (S : Nat) (h8 : τ 0 ≤ 8) : ∀ m k, smR τ S k m ≤ 16 * m
  | 0, _ => Nat.le_refl 0
  | m + 1, k => by
    have h1 := smR_le τ S h8 m (k + 1)
    have h2 := sS_le (ck_le τ k) S (τ 0)
    rw [smR]
    omega
theorem xX0_isHelpEnough {τ : Td} (hw : Wf τ) {S free N : Nat} (hN : 100 ≤ N) (hfr : free < 128) {kinds helpKinds masks : Nat → Int32} (h1 : ∀ t, t < τ 0 → kinds t = nI (kd τ t)) (h2 : ∀ t, t < τ 0 → helpKinds t = nI (hp τ t)) (h3 : ∀ k, k < 5 → masks k = nI (hm τ k (τ 1))) : m_X0_isHelpEnough N (nI (τ 0)) kinds helpKinds masks (nI S) (nI free) = some (if enough τ S free = true then 1 else 0) := by
  have hT8 := hw.1.2
  have hs := sS_le (cA_le τ) S (τ 0)
  have hr := smR_le τ S hT8 5 0
  have hp8 := pop_le free 8
  unfold m_X0_isHelpEnough
  have e : lp_X0_isHelpEnough_14 N (nI S) (nI free) (nI (τ 0)) kinds helpKinds masks N (nI (pop free 8) - nI (sS (cA τ) S (τ 0))) (0 : Int32) = _ := xX0_isHelpEnough_loop hw (p := pop free 8) hN hfr h1 h2 h3 5 0 N (sS (cA τ) S (τ 0)) (by omega) (by omega)
  rw [bitCount_pop _ (by omega), Option.bind_some, xX0_helpOfAny hw hN h1, Option.bind_some, e, Option.bind_some]
  unfold enough
  by_cases q : enB τ S free 0 5 = true
  · rw [if_pos q, Sum.elim_inl, q, Bool.true_and]
    by_cases z : sS (cA τ) S (τ 0) + smR τ S 0 5 ≤ pop free 8
    · rw [pk_sub z, if_neg (nI_pos (by omega)), decide_eq_true z]; rfl
    · rw [if_pos (pk_sneg (by omega) (by omega)), decide_eq_false z]; rfl
  · have q' : enB τ S free 0 5 = false := by simpa using q
    rw [if_neg q, Sum.elim_inr, q', Bool.false_and]; rfl
