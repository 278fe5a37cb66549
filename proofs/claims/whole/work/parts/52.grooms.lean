/-! grooms -/
def sm (f : Nat → Nat) : Nat → Nat
  | 0 => 0
  | n + 1 => sm f n + f n
theorem sm_add (f : Nat → Nat) (m : Nat) : ∀ n, sm f (m + n) = sm f m + sm (fun i => f (m + i)) n
  | 0 => rfl
  | n + 1 => by
    show sm f (m + n) + f (m + n) = sm f m + (sm (fun i => f (m + i)) n + f (m + n))
    rw [sm_add f m n, Nat.add_assoc]
theorem sm_congr {f g : Nat → Nat} : ∀ {n}, (∀ i, i < n → f i = g i) → sm f n = sm g n
  | 0, _ => rfl
  | n + 1, h => by rw [sm, sm, sm_congr (n := n) fun i hi => h i (by omega), h n (by omega)]
theorem sm_mul (f : Nat → Nat) (c : Nat) : ∀ n, sm (fun i => f i * c) n = sm f n * c
  | 0 => by simp [sm]
  | n + 1 => by rw [sm, sm, sm_mul f c n, Nat.add_mul]
theorem sm_le {f g : Nat → Nat} : ∀ {n}, (∀ i, i < n → f i ≤ g i) → sm f n ≤ sm g n
  | 0, _ => Nat.le_refl 0
  | n + 1, h => by
    rw [sm, sm]
    exact Nat.add_le_add (sm_le fun i hi => h i (by omega)) (h n (by omega))
theorem sm_mono (f : Nat → Nat) {m n : Nat} (h : m ≤ n) : sm f m ≤ sm f n := by
  obtain ⟨k, rfl⟩ : ∃ k, n = m + k := ⟨n - m, by omega⟩
  rw [sm_add]
  exact Nat.le_add_right _ _
theorem sm_stop {f : Nat → Nat} {m n : Nat} (h : m ≤ n) (hz : ∀ i, m ≤ i → i < n → f i = 0) : sm f n = sm f m := by
  obtain ⟨k, rfl⟩ : ∃ k, n = m + k := ⟨n - m, by omega⟩
  rw [sm_add]
  have : ∀ j, j ≤ k → sm (fun i => f (m + i)) j = 0 := by
    intro j
    induction j with
    | zero => intro _; rfl
    | succ j ih => intro hj; rw [sm, ih (by omega), hz (m + j) (by omega) (by omega)]
  rw [this k (Nat.le_refl k), Nat.add_zero]
/-- of 10 to the n: by how many just these are suggested -/
def wf1 (x can set t : Nat) : Nat := if can.testBit t then (if set.testBit t then x else 10 - x) else (if set.testBit t then 0 else 1)
def wt (x can set : Nat) : Nat → Nat
  | 0 => 1
  | t + 1 => wt x can set t * wf1 x can set t
theorem wt_congr {x can set set' : Nat} : ∀ {n}, (∀ i, i < n → set.testBit i = set'.testBit i) → wt x can set n = wt x can set' n
  | 0, _ => rfl
  | n + 1, h => by rw [wt, wt, wt_congr (n := n) fun i hi => h i (by omega), wf1, wf1, h n (by omega)]
theorem wt_sum {x : Nat} (hx : x ≤ 10) (can : Nat) : ∀ T, sm (fun set => wt x can set T) (2 ^ T) ≤ 10 ^ T
  | 0 => by show 0 + 1 ≤ 10 ^ 0; decide
  | T + 1 => by
    have ih := wt_sum hx can T
    rw [show 2 ^ (T + 1) = 2 ^ T + 2 ^ T by rw [Nat.pow_succ]; omega, sm_add]
    have h1 : sm (fun set => wt x can set (T + 1)) (2 ^ T) = sm (fun set => wt x can set T) (2 ^ T) * (if can.testBit T then 10 - x else 1) := by
      rw [← sm_mul]
      refine sm_congr fun i hi => ?_
      rw [wt, wf1, tb_hi hi (Nat.le_refl T)]
      simp
    have h2 : sm (fun i => wt x can (2 ^ T + i) (T + 1)) (2 ^ T) = sm (fun set => wt x can set T) (2 ^ T) * (if can.testBit T then x else 0) := by
      rw [← sm_mul]
      refine sm_congr fun i hi => ?_
      have hb : (2 ^ T + i).testBit T = true := by rw [Nat.testBit_two_pow_add_eq, tb_hi hi (Nat.le_refl T)]; rfl
      rw [wt, wf1, hb, wt_congr (set := 2 ^ T + i) (set' := i) fun j hj => Nat.testBit_two_pow_add_gt hj i]
      simp
    rw [h1, h2, ← Nat.mul_add, Nat.pow_succ]
    refine Nat.mul_le_mul ih ?_
    split <;> omega
theorem wt_pow {x can set : Nat} (h : ∀ i, set.testBit i = true → can.testBit i = true) : ∀ n, wt x can set n = x ^ pop set n * (10 - x) ^ (pop can n - pop set n)
  | 0 => rfl
  | n + 1 => by
    have ih := wt_pow (x := x) h n
    have hle := pop_mono h n
    rw [wt, ih, wf1, pop, pop]
    cases hc : can.testBit n with
    | true =>
      cases hs : set.testBit n with
      | true =>
        simp only [if_true]
        rw [Nat.pow_succ, show pop can n + 1 - (pop set n + 1) = pop can n - pop set n by omega, Nat.mul_right_comm]
      | false =>
        simp only [if_true, Bool.false_eq_true, if_false, Nat.add_zero]
        rw [show pop can n + 1 - pop set n = (pop can n - pop set n) + 1 by omega, Nat.pow_succ, Nat.mul_assoc]
    | false =>
      cases hs : set.testBit n with
      | true => have := h n hs; rw [hc] at this; cases this
      | false => simp
theorem wt_stop {x can set T : Nat} (hc : can < 2 ^ T) (hs : set < 2 ^ T) : ∀ k, wt x can set (T + k) = wt x can set T
  | 0 => rfl
  | k + 1 => by
    show wt x can set (T + k) * wf1 x can set (T + k) = _
    rw [wt_stop hc hs k, wf1, tb_hi hc (by omega), tb_hi hs (by omega)]
    simp
/-- powers, as the class takes them -/
theorem xX5_power_loop {base times : Nat} (ht : times < 100) : ∀ (m k fuel : Nat), k + m = times → m < fuel → lp_X5_power_4 (nI base) (nI times) fuel (nI (base ^ k)) (nI k) = some (nI (base ^ times)) := by
  intro m
  induction m with
  | zero =>
    intro k fuel hk hfu
    obtain ⟨n, rfl⟩ : ∃ n, fuel = n + 1 := ⟨fuel - 1, by omega⟩
    have e : k = times := by omega
    rw [lp_X5_power_4, if_pos (nI_le (by omega) (by omega)), e]
  | succ m ih =>
    intro k fuel hk hfu
    obtain ⟨n, rfl⟩ : ∃ n, fuel = n + 1 := ⟨fuel - 1, by omega⟩
    rw [lp_X5_power_4, if_neg (nI_ge (by omega) (by omega)), pk_mul, ← Nat.pow_succ, nI_1]
    exact ih (k + 1) n (by omega) (by omega)
theorem xX5_power {base times N : Nat} (hN : 200 ≤ N) (ht : times < 100) : m_X5_power N (nI base) (nI times) = some (nI (base ^ times)) := by
  have h1 := xX5_power_loop (base := base) ht times 0 N (by omega) (by omega)
  have h2 : lp_X5_power_4 (nI base) (nI times) N (1 : Int32) (0 : Int32) = some (nI (base ^ times)) := h1
  unfold m_X5_power
  rw [h2]
  rfl
theorem xX5_chancesOfSet {x can set N : Nat} (hN : 200 ≤ N) (hx : x ≤ 10) (hc : can < 256) (h : ∀ i, set.testBit i = true → can.testBit i = true) : m_X5_chancesOfSet N (nI can) (nI set) (nI x) = some (nI (wt x can set 8)) := by
  have hs : set < 256 := by
    have e := tb_sub h
    rw [← e]
    exact Nat.lt_of_le_of_lt Nat.and_le_right hc
  have hle := pop_mono h 8
  have h1 := pop_le can 8
  unfold m_X5_chancesOfSet
  rw [bitCount_pop _ hs, Option.bind_some, xX5_power hN (by omega), Option.bind_some, bitCount_pop _ hc, Option.bind_some, show (10 : Int32) = nI 10 from rfl, pk_sub hx, pk_sub hle, xX5_power hN (by omega), Option.bind_some, pk_mul, wt_pow h]
theorem xX6_its {τ : Td} (hw : Wf τ) {told : Nat → Int32} (hto : ToR τ told) {x can set : Nat} (hx : x ≤ 10) (hc : can < 2 ^ 31) (hs : set < 2 ^ 31) (h : ∀ i, set.testBit i = true → can.testBit i = true) : ∀ (m t fuel : Nat), t + m = τ 0 → m < fuel → lp_X6_grooms_96 (nI x) (nI can) (nI set) told fuel (nI (wt x can set t)) (nI t) = some (nI (wt x can set (τ 0))) := by
  have hT8 := hw.1.2
  intro m
  induction m with
  | zero =>
    intro t fuel ht hfu
    obtain ⟨n, rfl⟩ : ∃ n, fuel = n + 1 := ⟨fuel - 1, by omega⟩
    have e : t = τ 0 := by omega
    rw [lp_X6_grooms_96, (hto 0 (by decide)).1, if_pos (nI_le (by omega) (by omega)), e]
  | succ m ih =>
    intro t fuel ht hfu
    obtain ⟨n, rfl⟩ : ∃ n, fuel = n + 1 := ⟨fuel - 1, by omega⟩
    have ih1 := ih (t + 1) n (by omega) (by omega)
    have e : wt x can set (t + 1) = wt x can set t * wf1 x can set t := rfl
    rw [lp_X6_grooms_96, (hto 0 (by decide)).1, if_neg (nI_ge (by omega) (by omega)), j_bt hc (by omega), j_bt hs (by omega), nI_1]
    by_cases c : can.testBit t = true
    · rw [if_neg (fun z => (bt0.mp z) c)]
      by_cases q : set.testBit t = true
      · rw [if_pos (bt1.mpr q), pk_mul]
        rw [e, wf1, if_pos c, if_pos q] at ih1
        exact ih1
      · rw [if_neg (fun z => q (bt1.mp z)), show (10 : Int32) = nI 10 from rfl, pk_sub hx, pk_mul]
        rw [e, wf1, if_pos c, if_neg q] at ih1
        exact ih1
    · have q : ¬ set.testBit t = true := fun z => c (h t z)
      rw [if_pos (bt0.mpr c), show (1 : Int32) = nI 1 from rfl, pk_mul]
      rw [e, wf1, if_neg c, if_neg q] at ih1
      exact ih1
/-- the common divisor, on both sides -/
theorem half {a b k : Nat} (hb0 : 0 < b) (hb : b < 2 ^ (k + 1)) (hr : a % b ≠ 0) : b % (a % b) < 2 ^ k := by
  have h1 := Nat.mod_lt a hb0
  have h2 := Nat.mod_lt b (show 0 < a % b by omega)
  have h3 : b % (a % b) + (a % b) ≤ b := by
    have h := Nat.div_add_mod b (a % b)
    have h4 : 1 ≤ b / (a % b) := Nat.div_pos (by omega) (by omega)
    have h5 := Nat.mul_le_mul_left (a % b) h4
    omega
  rw [Nat.pow_succ] at hb
  omega
theorem gcd_step (a b : Nat) : Nat.gcd b (a % b) = Nat.gcd a b := by rw [Nat.gcd_comm b, ← Nat.gcd_rec, Nat.gcd_comm]
theorem xX5_gcd : ∀ (k a b turn fuel : Nat), a < 2 ^ 31 → b < 2 ^ 31 → b < 2 ^ k → turn + 2 * k + 2 ≤ 1000 → 2 * k + 2 ≤ fuel → lp_X5_commonDivisor_7 fuel (nI a) (nI b) (nI turn) = some (nI (Nat.gcd a b)) := by
  intro k
  induction k with
  | zero =>
    intro a b turn fuel ha hb hk ht hfu
    obtain ⟨n, rfl⟩ : ∃ n, fuel = n + 1 := ⟨fuel - 1, by omega⟩
    have e : b = 0 := by omega
    subst e
    rw [lp_X5_commonDivisor_7, if_neg (show ¬ (1000 : Int32) ≤ nI _ from nI_ge (b := 1000) (by omega) (by decide)), if_pos (show nI 0 = 0 from rfl), Nat.gcd_zero_right]
  | succ k ih =>
    intro a b turn fuel ha hb hk ht hfu
    obtain ⟨n, rfl⟩ : ∃ n, fuel = n + 1 + 1 := ⟨fuel - 2, by omega⟩
    rw [lp_X5_commonDivisor_7, if_neg (show ¬ (1000 : Int32) ≤ nI _ from nI_ge (b := 1000) (by omega) (by decide))]
    by_cases b0 : b = 0
    · subst b0
      rw [if_pos (show nI 0 = 0 from rfl), Nat.gcd_zero_right]
    · have hb0 : 0 < b := by omega
      have hm := Nat.mod_lt a hb0
      rw [if_neg (nI_ne0 hb0 hb), pk_rem ha hb0 hb, nI_1, lp_X5_commonDivisor_7, if_neg (show ¬ (1000 : Int32) ≤ nI _ from nI_ge (b := 1000) (by omega) (by decide)), ← gcd_step a b]
      by_cases r0 : a % b = 0
      · rw [r0, if_pos (show nI 0 = 0 from rfl), Nat.gcd_zero_right]
      · have hr0 : 0 < a % b := by omega
        have hm2 := Nat.mod_lt b hr0
        rw [if_neg (nI_ne0 hr0 (by omega)), pk_rem hb hr0 (by omega), nI_1, ← gcd_step b (a % b)]
        exact ih (a % b) (b % (a % b)) (turn + 1 + 1) n (by omega) (by omega) (half hb0 hk r0) (by omega) (by omega)
theorem xX6_gcd : ∀ (k a b fuel : Nat), a < 2 ^ 31 → b < 2 ^ 31 → b < 2 ^ k → 2 * k + 2 ≤ fuel → lp_X6_grooms_207 fuel (nI a) (nI b) = some (nI (Nat.gcd a b)) := by
  intro k
  induction k with
  | zero =>
    intro a b fuel ha hb hk hfu
    obtain ⟨n, rfl⟩ : ∃ n, fuel = n + 1 := ⟨fuel - 1, by omega⟩
    have e : b = 0 := by omega
    subst e
    rw [lp_X6_grooms_207, if_pos (show nI 0 ≤ 0 by decide), Nat.gcd_zero_right]
  | succ k ih =>
    intro a b fuel ha hb hk hfu
    obtain ⟨n, rfl⟩ : ∃ n, fuel = n + 1 + 1 := ⟨fuel - 2, by omega⟩
    rw [lp_X6_grooms_207]
    by_cases b0 : b = 0
    · subst b0
      rw [if_pos (show nI 0 ≤ 0 by decide), Nat.gcd_zero_right]
    · have hb0 : 0 < b := by omega
      have hm := Nat.mod_lt a hb0
      rw [if_neg (nI_nle hb0 hb), if_pos (show ¬ nI b = 0 from nI_ne0 hb0 hb), pk_rem ha hb0 hb, lp_X6_grooms_207, ← gcd_step a b]
      by_cases r0 : a % b = 0
      · rw [r0, if_pos (show nI 0 ≤ 0 by decide), Nat.gcd_zero_right]
      · have hr0 : 0 < a % b := by omega
        have hm2 := Nat.mod_lt b hr0
        rw [if_neg (nI_nle hr0 (by omega)), if_pos (show ¬ nI (a % b) = 0 from nI_ne0 hr0 (by omega)), pk_rem hb hr0 (by omega), ← gcd_step b (a % b)]
        exact ih (a % b) (b % (a % b)) n (by omega) (by omega) (half hb0 hk r0) (by omega)
