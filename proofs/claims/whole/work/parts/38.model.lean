/-! the reference's small methods, over naturals -/
/-- the reference's row told holds τ -/
def ToR (τ : Td) (told : Nat → Int32) : Prop := ∀ i, i < 51 → told i = nI (τ i) ∧ τ i < 128 + 128
/-- the reference's row s holds a standing -/
def SR (s : Nat → Int32) (a b f u c d : Nat) : Prop := s 0 = nI a ∧ s 1 = nI b ∧ s 2 = nI f ∧ s 3 = nI u ∧ s 4 = nI c ∧ s 5 = nI d
theorem j_add (k t : Nat) : (OfNat.ofNat k : Int32) + nI t = nI (k + t) := nI_add k t
theorem xX6_isLost {τ : Td} {told s : Nat → Int32} (ht : ToR τ told) {a b f u c d : Nat} (hs : SR s a b f u c d) (hd : d < 2 ^ 30) : m_X6_isLost told s = some (if τ 3 < d then 1 else 0) := by
  unfold m_X6_isLost
  have h3 := ht 3 (by decide)
  rw [hs.2.2.2.2.2, h3.1]
  by_cases h : τ 3 < d
  · rw [if_neg (nI_ge h (by omega)), if_pos h]
  · rw [if_pos (nI_le (by omega) (by omega)), if_neg h]
theorem xX6_open {s : Nat → Int32} {a b f u c d : Nat} (hs : SR s a b f u c d) : m_X6_open s = some (nI (sd a b)) := by
  unfold m_X6_open
  rw [hs.1, hs.2.1, j_sd]
theorem j_a5 (t : Nat) : (5 : Int32) + nI t = nI (5 + t) := nI_add 5 t
theorem j_a13 (t : Nat) : (13 : Int32) + nI t = nI (13 + t) := nI_add 13 t
theorem j_a21 (t : Nat) : (21 : Int32) + nI t = nI (21 + t) := nI_add 21 t
theorem j_a29 (t : Nat) : (29 : Int32) + nI t = nI (29 + t) := nI_add 29 t
theorem j_a37 (t : Nat) : (37 : Int32) + nI t = nI (37 + t) := nI_add 37 t
theorem j_a44 (t : Nat) : (44 : Int32) + nI t = nI (44 + t) := nI_add 44 t
theorem xX6_lowest_loop {τ : Td} {told : Nat → Int32} (ht : ToR τ told) {set : Nat} (hset : set < 2 ^ 31) {kI : Int32} {P : Nat → Bool} (hk : (kI < 0 ∧ ∀ h, P h = true) ∨ (¬ kI < 0 ∧ ∃ x, kI = nI x ∧ x < 2 ^ 30 ∧ ∀ h, P h = decide (sk τ h = x))) : ∀ (n fuel acc : Nat), n < fuel → n ≤ 7 → lp_X6_lowest_12 (nI set) kI told fuel (nI acc) (nI n - 1) = some (nI (lw (fun h => set.testBit h && P h) n acc)) := by
  intro n
  induction n with
  | zero =>
    intro fuel acc hfu _
    obtain ⟨m, rfl⟩ : ∃ m, fuel = m + 1 := ⟨fuel - 1, by omega⟩
    rw [lp_X6_lowest_12, if_pos (by decide)]
    rfl
  | succ n ih =>
    intro fuel acc hfu hn
    obtain ⟨m, rfl⟩ : ∃ m, fuel = m + 1 := ⟨fuel - 1, by omega⟩
    have hpred : nI (n + 1) - 1 = nI n := nI_pred n
    have hnext : nI n + (-1) = nI n - 1 := by rw [Int32.sub_eq_add_neg]
    rw [lp_X6_lowest_12, hpred, if_neg (nI_pos (by omega)), hnext, j_bt hset (by omega), j_bit n (by omega), lw]
    by_cases hb : set.testBit n = true
    · rw [if_pos (by rw [if_pos hb]; rfl), hb, Bool.true_and]
      rcases hk with ⟨k1, k2⟩ | ⟨k1, x, k2, hx, k3⟩
      · rw [if_pos k1, k2 n, if_pos rfl]
        exact ih m (2 ^ n) (by omega) (by omega)
      · rw [if_neg k1, k3 n, j_a37, if_pos (j_in (by omega) (by decide)), j_clamp (by omega), (ht (37 + n) (by omega)).1, k2]
        have ih1 := ih m
        rw [k2] at ih1
        have e := nI_eq (a := τ (37 + n)) (b := x) (by have := (ht (37 + n) (by omega)).2; omega) (by omega)
        by_cases q : τ (37 + n) = x
        · rw [if_pos (e.mpr q), if_pos (decide_eq_true q)]
          exact ih1 (2 ^ n) (by omega) (by omega)
        · rw [if_neg (fun z => q (e.mp z)), if_neg (by simpa using q)]
          exact ih1 acc (by omega) (by omega)
    · have hb' : set.testBit n = false := by simpa using hb
      rw [if_neg (by rw [hb']; decide), hb', Bool.false_and]
      exact ih m acc (by omega) (by omega)
theorem xX6_lowestAny {τ : Td} {told : Nat → Int32} (ht : ToR τ told) {set N : Nat} (hN : 100 ≤ N) (hH : τ 1 ≤ 7) (hset : set < 2 ^ τ 1) : m_X6_lowest N told (nI set) (-1) = some (nI (lowb set)) := by
  have h7 : set < 2 ^ 7 := Nat.lt_of_lt_of_le hset (Nat.pow_le_pow_right (by decide) hH)
  have h1 := xX6_lowest_loop ht (set := set) (by omega) (kI := -1) (P := fun _ => true) (Or.inl ⟨by decide, fun _ => rfl⟩) (τ 1) N 0 (by omega) hH
  unfold m_X6_lowest
  rw [(ht 1 (by decide)).1, show (0 : Int32) = nI 0 from rfl, h1, Option.bind_some, lw_lowb hH (m := set) (fun i _ => by rw [Bool.and_true]) hset]
theorem xX6_lowestOf {τ : Td} {told : Nat → Int32} (ht : ToR τ told) {set N k : Nat} (hN : 100 ≤ N) (hH : τ 1 ≤ 7) (hset : set < 2 ^ τ 1) (hk : k < 2 ^ 30) : m_X6_lowest N told (nI set) (nI k) = some (nI (lowb (set &&& hm τ k (τ 1)))) := by
  have h7 : set < 2 ^ 7 := Nat.lt_of_lt_of_le hset (Nat.pow_le_pow_right (by decide) hH)
  have h1 := xX6_lowest_loop ht (set := set) (by omega) (kI := nI k) (P := fun h => decide (sk τ h = k)) (Or.inr ⟨nI_pos (by omega), k, rfl, hk, fun _ => rfl⟩) (τ 1) N 0 (by omega) hH
  unfold m_X6_lowest
  rw [(ht 1 (by decide)).1, show (0 : Int32) = nI 0 from rfl, h1, Option.bind_some, lw_lowb hH (m := set &&& hm τ k (τ 1)) (fun i hi => by rw [Nat.testBit_and, hm_tb]; simp [hi]) (and_lt hset)]
theorem oM_none : oM none = -1 := rfl
theorem xX6_helpFor {τ : Td} (hw : Wf τ) {told : Nat → Int32} (ht : ToR τ told) {t free d N : Nat} (hN : 100 ≤ N) (htT : t < τ 0) (hfr : free < 2 ^ τ 1) (hd : d < 2 ^ 30) : m_X6_helpFor N told (nI t) (nI free) (nI d) = some (oM (hf τ t free d)) := by
  obtain ⟨⟨hT1, hT8⟩, hH, -, -, -, hts, -⟩ := hw
  obtain ⟨hk, -, hhp, -⟩ := hts t htT
  have h7 : free < 2 ^ 7 := Nat.lt_of_lt_of_le hfr (Nat.pow_le_pow_right (by decide) hH)
  have e5 : told (5 + t) = nI (kd τ t) := (ht (5 + t) (by omega)).1
  have e21 : told (21 + t) = nI (hp τ t) := (ht (21 + t) (by omega)).1
  have hok : free &&& hm τ (hp τ t) (τ 1) < 2 ^ τ 1 := and_lt hfr
  have hok7 : free &&& hm τ (hp τ t) (τ 1) < 128 := and_lt (n := 7) h7
  unfold m_X6_helpFor
  rw [j_a5, if_pos (j_in (by omega) (by decide)), j_clamp (by omega), e5, Option.bind_some, j_a21, if_pos (j_in (by omega) (by decide)), j_clamp (by omega), e21]
  simp only [Option.bind_some]
  have k1 : (nI (kd τ t) = (1 : Int32)) ↔ kd τ t = 1 := nI_eq (b := 1) (by omega) (by decide)
  have k2 : (nI (kd τ t) = (2 : Int32)) ↔ kd τ t = 2 := nI_eq (b := 2) (by omega) (by decide)
  have k3 : (nI (kd τ t) = (3 : Int32)) ↔ kd τ t = 3 := nI_eq (b := 3) (by omega) (by decide)
  have k4 : (nI (kd τ t) = (4 : Int32)) ↔ kd τ t = 4 := nI_eq (b := 4) (by omega) (by decide)
  have hEq : (nI (hp τ t) = (5 : Int32)) ↔ hp τ t = 5 := nI_eq (b := 5) (by omega) (by decide)
  have hle : (nI d ≤ (10 : Int32)) ↔ d ≤ 10 := nI_leI (b := 10) (by omega) (by decide)
  have zEq : ∀ m : Nat, m < 128 → ((nI (lowb m) = (0 : Int32)) ↔ m = 0) := fun m hm0 => by
    have h := lowb_lt m hm0
    rw [show (0 : Int32) = nI 0 from rfl, nI_eq (by omega) (by decide), h.2.1]
  -- two, of any: the first is one of its kind
  have any2 : ∀ x, m_X6_lowest N told (nI free &&& (nI x ^^^ (-1 : Int32))) (-1 : Int32) = some (nI (lowb (sd free x))) := fun x => by
    rw [j_sd, xX6_lowestAny ht hN hH (sd_lt hfr)]
  have kind2 : ∀ x, m_X6_lowest N told (nI free &&& (nI x ^^^ (-1 : Int32))) (nI (hp τ t)) = some (nI (lowb (sd (free &&& hm τ (hp τ t) (τ 1)) x))) := fun x => by
    rw [j_sd, xX6_lowestOf ht hN hH (sd_lt hfr) (by omega)]
    have e : sd free x &&& hm τ (hp τ t) (τ 1) = sd (free &&& hm τ (hp τ t) (τ 1)) x := by
      apply Nat.eq_of_testBit_eq
      intro i
      rw [Nat.testBit_and, sd_tb _ _ (Nat.lt_trans h7 (by decide)), sd_tb _ _ (Nat.lt_trans hok7 (by decide)), Nat.testBit_and]
      cases free.testBit i <;> cases x.testBit i <;> simp
    rw [e]
  have first : m_X6_lowest N told (nI free) (nI (hp τ t)) = some (nI (lowb (free &&& hm τ (hp τ t) (τ 1)))) := xX6_lowestOf ht hN hH hfr (by omega)
  have sd0 : sd free 0 = free := by
    apply Nat.eq_of_testBit_eq
    intro i
    rw [sd_tb _ _ (Nat.lt_trans h7 (by decide)), Nat.zero_testBit]; simp
  have any0 : m_X6_lowest N told (nI free &&& ((0 : Int32) ^^^ (-1 : Int32))) (-1 : Int32) = some (nI (lowb free)) := by
    have := any2 0
    rw [sd0] at this
    exact this
  have or0 : ∀ x, (0 : Int32) ||| nI x = nI x := fun x => by rw [show (0 : Int32) = nI 0 from rfl, j_or, Nat.zero_or]
  have l1 := (lowb_lt _ hok7).1
  unfold hf
  simp only [k1, k2, k3, k4, hEq, hle, first, any0, any2, kind2, Option.bind_some, zEq _ hok7, zEq _ h7, or0, j_or]
  by_cases c2 : kd τ t = 2
  · rw [if_pos c2, if_pos c2]; rfl
  rw [if_neg c2, if_neg c2]
  have hfold : ∀ (R : Option Int32), (if kd τ t = 4 then if d ≤ 10 then R else some (-1) else R) = if kd τ t = 4 ∧ 10 < d then some (-1) else R := fun R => by
    by_cases q : kd τ t = 4
    · rw [if_pos q]
      by_cases w : d ≤ 10
      · rw [if_pos w, if_neg (by omega)]
      · rw [if_neg w, if_pos (by omega)]
    · rw [if_neg q, if_neg (fun z => q z.1)]
  rw [hfold]
  by_cases c4 : kd τ t = 4 ∧ 10 < d
  · rw [if_pos c4, if_pos c4]; rfl
  rw [if_neg c4, if_neg c4]
  by_cases h5 : hp τ t = 5
  · rw [if_pos h5, if_pos h5]
    by_cases c3 : kd τ t = 3
    · rw [if_pos c3, if_pos c3]
      by_cases hz : free = 0
      · rw [if_pos hz, if_pos hz]; rfl
      · rw [if_neg hz, if_neg hz]; rfl
    · rw [if_neg c3, if_neg c3, ite_self]; rfl
  rw [if_neg h5, if_neg h5]
  by_cases hz : free &&& hm τ (hp τ t) (τ 1) = 0
  · rw [if_pos hz, if_pos hz]; rfl
  rw [if_neg hz, if_neg hz]
  by_cases c3 : kd τ t = 3
  · rw [if_pos c3, if_pos c3]
    have hs7 : sd free (lowb (free &&& hm τ (hp τ t) (τ 1))) < 128 := sd_lt (n := 7) h7
    simp only [zEq _ hs7]
    by_cases hz2 : sd free (lowb (free &&& hm τ (hp τ t) (τ 1))) = 0
    · rw [if_pos hz2, if_pos hz2]; rfl
    · rw [if_neg hz2, if_neg hz2]; rfl
  rw [if_neg c3, if_neg c3]
  by_cases c1 : kd τ t = 1
  · rw [if_pos c1, if_pos c1]
    have hs7 : sd (free &&& hm τ (hp τ t) (τ 1)) (lowb (free &&& hm τ (hp τ t) (τ 1))) < 128 := sd_lt (n := 7) hok7
    simp only [zEq _ hs7]
    by_cases hz2 : sd (free &&& hm τ (hp τ t) (τ 1)) (lowb (free &&& hm τ (hp τ t) (τ 1))) = 0
    · rw [if_pos hz2, if_pos hz2]; rfl
    · rw [if_neg hz2, if_neg hz2]; rfl
  · rw [if_neg c1, if_neg c1]; rfl
theorem xX6_daysOf {τ : Td} {told : Nat → Int32} (ht : ToR τ told) {t : Nat} (htT : t < 8) : m_X6_daysOf told (nI t) = some (nI (rdy τ t)) := by
  unfold m_X6_daysOf rdy
  rw [j_a5, if_pos (j_in (by omega) (by decide)), j_clamp (by omega), (ht (5 + t) (by omega)).1]
  have e : (nI (τ (5 + t)) = (2 : Int32)) ↔ τ (5 + t) = 2 := nI_eq (a := τ (5 + t)) (b := 2) (by have := (ht (5 + t) (by omega)).2; omega) (by decide)
  by_cases h : kd τ t = 2
  · rw [if_pos (e.mpr h), if_pos h]; rfl
  · rw [if_neg (fun z => h (e.mp z)), if_neg h, j_a13, if_pos (j_in (by omega) (by decide)), j_clamp (by omega), (ht (13 + t) (by omega)).1]
theorem xX6_helpNow {τ : Td} (hw : Wf τ) {told s : Nat → Int32} (ht : ToR τ told) {a b f u c d t N : Nat} (hN : 100 ≤ N) (hs : SR s a b f u c d) (htT : t < τ 0) (ha : a < 2 ^ 8) (hf : f < 2 ^ τ 1) (hd : d < 2 ^ 30) : m_X6_helpNow N told s (nI t) = some (oM (hn τ a b f u d t)) := by
  have hT8 := hw.1.2
  unfold m_X6_helpNow
  rw [xX6_isLost ht hs hd, Option.bind_some]
  unfold hn
  by_cases hl : τ 3 < d
  · rw [if_pos hl, if_neg (by decide), if_pos hl]; rfl
  rw [if_neg hl, if_pos rfl, if_neg hl, xX6_open hs, Option.bind_some, j_bt (Nat.lt_of_le_of_lt (sd_le a b) (by omega)) (by omega)]
  by_cases ho : (sd a b).testBit t = true
  · rw [if_neg (by rw [if_pos ho]; decide), if_pos ho, hs.2.2.1, hs.2.2.2.1, hs.2.2.2.2.2, j_sd, xX6_helpFor hw ht hN htT (sd_lt hf) hd]; rfl
  · rw [if_pos (by rw [if_neg ho]; rfl), if_neg ho]; rfl
