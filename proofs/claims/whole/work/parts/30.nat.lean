/-! numbers: Int32 of small naturals, bits -/
theorem j_and (a b : Nat) : nI a &&& nI b = nI (a &&& b) := by
  apply Int32.toBitVec_inj.1
  show BitVec.ofNat 32 a &&& BitVec.ofNat 32 b = BitVec.ofNat 32 (a &&& b)
  apply BitVec.eq_of_getLsbD_eq
  intro i hi
  simp [hi]
theorem j_or (a b : Nat) : nI a ||| nI b = nI (a ||| b) := by
  apply Int32.toBitVec_inj.1
  show BitVec.ofNat 32 a ||| BitVec.ofNat 32 b = BitVec.ofNat 32 (a ||| b)
  apply BitVec.eq_of_getLsbD_eq
  intro i hi
  simp [hi]
theorem j_xor (a b : Nat) : nI a ^^^ nI b = nI (a ^^^ b) := by
  apply Int32.toBitVec_inj.1
  show BitVec.ofNat 32 a ^^^ BitVec.ofNat 32 b = BitVec.ofNat 32 (a ^^^ b)
  apply BitVec.eq_of_getLsbD_eq
  intro i hi
  simp [hi]
/-- a without b -/
def sd (a b : Nat) : Nat := a &&& (b ^^^ 4294967295)
theorem j_m1 : (-1 : Int32) = nI 4294967295 := by decide
theorem j_sd (a b : Nat) : nI a &&& (nI b ^^^ (-1 : Int32)) = nI (sd a b) := by rw [j_m1, j_xor, j_and]; rfl
theorem tb_ones (i : Nat) : (4294967295 : Nat).testBit i = decide (i < 32) := by
  have h : (4294967295 : Nat) = 2 ^ 32 - 1 := by decide
  rw [h, Nat.testBit_two_pow_sub_one]
theorem sd_tb {a : Nat} (b i : Nat) (ha : a < 2 ^ 32) : (sd a b).testBit i = (a.testBit i && !b.testBit i) := by
  unfold sd
  rw [Nat.testBit_and, Nat.testBit_xor, tb_ones]
  by_cases hi : i < 32
  · simp [hi]
  · have : a.testBit i = false := Nat.testBit_lt_two_pow (Nat.lt_of_lt_of_le ha (Nat.pow_le_pow_right (by decide) (Nat.le_of_not_lt hi)))
    simp [this]
theorem sd_le (a b : Nat) : sd a b ≤ a := Nat.and_le_left
theorem tb_lt {x n : Nat} (h : ∀ i, n ≤ i → x.testBit i = false) : x < 2 ^ n := by
  refine Nat.lt_of_not_le fun hle => ?_
  obtain ⟨i, hi, hb⟩ := Nat.exists_ge_and_testBit_of_ge_two_pow hle
  rw [h i hi] at hb
  cases hb
theorem tb_hi {x n i : Nat} (h : x < 2 ^ n) (hi : n ≤ i) : x.testBit i = false := Nat.testBit_lt_two_pow (Nat.lt_of_lt_of_le h (Nat.pow_le_pow_right (by decide) hi))
theorem or_lt {a b n : Nat} (ha : a < 2 ^ n) (hb : b < 2 ^ n) : a ||| b < 2 ^ n := Nat.or_lt_two_pow ha hb
theorem and_lt {a b n : Nat} (ha : a < 2 ^ n) : a &&& b < 2 ^ n := Nat.lt_of_le_of_lt Nat.and_le_left ha
theorem sd_lt {a b n : Nat} (ha : a < 2 ^ n) : sd a b < 2 ^ n := Nat.lt_of_le_of_lt (sd_le a b) ha
theorem p2_lt {t n : Nat} (h : t < n) : 2 ^ t < 2 ^ n := Nat.pow_lt_pow_right (by decide) h
theorem j_bit : ∀ t, t < 31 → (1 : Int32) <<< (nI t &&& 31) = nI (2 ^ t) := by decide +kernel
theorem j_tb0 {x t : Nat} (ht : t < 31) : nI x &&& nI (2 ^ t) = 0 ↔ x.testBit t = false := by
  rw [j_and]
  have h2 : (2 : Nat) ^ t < 2 ^ 31 := p2_lt ht
  have hle : x &&& 2 ^ t ≤ 2 ^ t := Nat.and_le_right
  rw [show (0 : Int32) = nI 0 from rfl, nI_eq (by omega) (by decide)]
  constructor
  · intro h
    have h1 : (x &&& 2 ^ t).testBit t = false := by rw [h]; exact Nat.zero_testBit t
    rw [Nat.testBit_and, Nat.testBit_two_pow_self, Bool.and_true] at h1
    exact h1
  · intro h
    apply Nat.eq_of_testBit_eq
    intro i
    rw [Nat.zero_testBit, Nat.testBit_and, Nat.testBit_two_pow]
    by_cases e : t = i
    · subst e; simp [h]
    · simp [e]
theorem j_shr {x t : Nat} (hx : x < 2 ^ 31) (ht : t < 31) : nI x >>> (nI t &&& 31) = nI (x / 2 ^ t) := by
  refine pk_shrN hx _ t ?_
  revert t
  decide +kernel
theorem j_and1 (x : Nat) : nI x &&& (1 : Int32) = nI (x % 2) := by
  rw [show (1 : Int32) = nI 1 from rfl, j_and, Nat.and_one_is_mod]
theorem tb_div (x t : Nat) : x.testBit t = decide (x / 2 ^ t % 2 = 1) := Nat.testBit_eq_decide_div_mod_eq
theorem j_bt {x t : Nat} (hx : x < 2 ^ 31) (ht : t < 31) : (nI x >>> (nI t &&& 31)) &&& (1 : Int32) = nI (if x.testBit t then 1 else 0) := by
  rw [j_shr hx ht, j_and1, tb_div]
  have := Nat.mod_two_eq_zero_or_one (x / 2 ^ t)
  rcases this with h | h <;> simp [h]
theorem j_lit (n : Nat) : (OfNat.ofNat n : Int32) = nI n := rfl
theorem or_p2_tb (x t i : Nat) : (x ||| 2 ^ t).testBit i = (x.testBit i || decide (t = i)) := by rw [Nat.testBit_or, Nat.testBit_two_pow]
/-- x < 0, x ≥ n, or one of n -/
theorem j_cases (x : Int32) {n : Nat} (hn : n < 2 ^ 31) : x < 0 ∨ nI n ≤ x ∨ ∃ j : Nat, j < n ∧ x = nI j := pk_ix x hn
theorem j_in {t n : Nat} (h : t < n) (hn : n < 2 ^ 31) : inI (nI t) n := by
  refine ⟨?_, ?_⟩ <;> rw [nI_toInt (Nat.lt_trans h hn)] <;> omega
theorem j_clamp {n : Nat} (h : n < 2 ^ 31) : (nI n).toNatClampNeg = n := nI_clamp h
/-- a row read behind its two tests -/
theorem j_row {f : Nat → Int32} {t n : Nat} (h : t < n) (hn : n < 2 ^ 31) (z w : Int32) : (if nI t < 0 then some z else if nI n ≤ nI t then some w else if inI (nI t) n then some (f (nI t).toNatClampNeg) else none) = some (f t) := by
  rw [if_neg (nI_pos (Nat.lt_trans h hn)), if_neg (nI_ge h hn), if_pos (j_in h hn), j_clamp (Nat.lt_trans h hn)]
/-- the lowest bit, as a number; 0 of none -/
def lw (p : Nat → Bool) : Nat → Nat → Nat
  | 0, acc => acc
  | n + 1, acc => lw p n (if p n then 2 ^ n else acc)
def lowb (m : Nat) : Nat := lw m.testBit 7 0
theorem lowb_neg : ∀ m, m < 128 → nI m &&& (-(nI m)) = nI (lowb m) := by decide +kernel
theorem lw_ext {p q : Nat → Bool} : ∀ {n acc : Nat}, (∀ i, i < n → p i = q i) → lw p n acc = lw q n acc := by
  intro n
  induction n with
  | zero => intro acc _; rfl
  | succ n ih =>
    intro acc h
    rw [lw, lw, h n (Nat.lt_succ_self n)]
    exact ih fun i hi => h i (Nat.lt_succ_of_lt hi)
theorem lw_skip {p : Nat → Bool} {n : Nat} (acc : Nat) : ∀ k, (∀ i, n ≤ i → i < n + k → p i = false) → lw p (n + k) acc = lw p n acc := by
  intro k
  induction k with
  | zero => intro _; rfl
  | succ k ih =>
    intro h
    rw [show n + (k + 1) = (n + k) + 1 from rfl, lw, h (n + k) (by omega) (by omega)]
    exact ih fun i h1 h2 => h i h1 (by omega)
theorem lw_lowb {p : Nat → Bool} {n m : Nat} (hn : n ≤ 7) (h : ∀ i, i < n → p i = m.testBit i) (hm : m < 2 ^ n) : lw p n 0 = lowb m := by
  obtain ⟨k, hk⟩ : ∃ k, 7 = n + k := ⟨7 - n, by omega⟩
  rw [lowb, hk, lw_skip 0 k fun i h1 _ => tb_hi hm h1]
  exact lw_ext h
theorem lowb_lt : ∀ m, m < 128 → lowb m < 128 ∧ (lowb m = 0 ↔ m = 0) ∧ lowb m &&& m = lowb m := by decide +kernel
theorem lowb_min : ∀ m, m < 128 → ∀ i, i < 7 → m.testBit i = true → lowb m ≤ 2 ^ i := by decide +kernel
theorem lowb_p2 : ∀ m, m < 128 → m ≠ 0 → ∃ i, i < 7 ∧ lowb m = 2 ^ i ∧ m.testBit i = true := by
  intro m hm h0
  have h : ∀ m, m < 128 → m ≠ 0 → ((List.range 7).any fun i => decide (lowb m = 2 ^ i) && m.testBit i) = true := by decide +kernel
  obtain ⟨i, hi, h2⟩ := List.any_eq_true.mp (h m hm h0)
  rw [Bool.and_eq_true] at h2
  exact ⟨i, List.mem_range.mp hi, of_decide_eq_true h2.1, h2.2⟩
/-- how many bits of the first 8 -/
def pop (m : Nat) : Nat → Nat
  | 0 => 0
  | n + 1 => pop m n + (if m.testBit n then 1 else 0)
theorem pop_le (m : Nat) : ∀ n, pop m n ≤ n
  | 0 => Nat.le_refl 0
  | n + 1 => by have := pop_le m n; rw [pop]; split <;> omega
theorem pop_add {m t : Nat} (h : m.testBit t = false) : ∀ {n}, t < n → pop (m ||| 2 ^ t) n = pop m n + 1 := by
  have key : ∀ n, n ≤ t → pop (m ||| 2 ^ t) n = pop m n := by
    intro n
    induction n with
    | zero => intro _; rfl
    | succ n ih =>
      intro hn
      rw [pop, pop, ih (by omega), or_p2_tb]
      have : ¬ t = n := by omega
      simp [this]
  intro n
  induction n with
  | zero => intro h; omega
  | succ n ih =>
    intro hn
    rw [pop, pop, or_p2_tb]
    by_cases e : t = n
    · subst e; rw [key t (Nat.le_refl t)]; simp [h]
    · rw [ih (by omega)]; simp [e]; omega
theorem pop_mono {x y : Nat} (h : ∀ i, x.testBit i = true → y.testBit i = true) : ∀ n, pop x n ≤ pop y n
  | 0 => Nat.le_refl 0
  | n + 1 => by
    have := pop_mono h n
    rw [pop, pop]
    cases hx : x.testBit n with
    | false => simp; omega
    | true => simp [h n hx]; omega
theorem sub_tb {x y : Nat} (h : x &&& y = x) (i : Nat) (hx : x.testBit i = true) : y.testBit i = true := by
  rw [← h, Nat.testBit_and, Bool.and_eq_true] at hx
  exact hx.2
theorem tb_sub {x y : Nat} (h : ∀ i, x.testBit i = true → y.testBit i = true) : x &&& y = x := by
  apply Nat.eq_of_testBit_eq
  intro i
  rw [Nat.testBit_and]
  cases hx : x.testBit i with
  | false => rfl
  | true => rw [h i hx]; rfl
theorem sd_zero {a b : Nat} (ha : a < 2 ^ 32) : sd a b = 0 ↔ ∀ i, a.testBit i = true → b.testBit i = true := by
  constructor
  · intro h i hi
    have h1 : (sd a b).testBit i = false := by rw [h]; exact Nat.zero_testBit i
    rw [sd_tb b i ha, hi] at h1
    simpa using h1
  · intro h
    apply Nat.eq_of_testBit_eq
    intro i
    rw [Nat.zero_testBit, sd_tb b i ha]
    cases hx : a.testBit i with
    | false => rfl
    | true => rw [h i hx]; rfl
