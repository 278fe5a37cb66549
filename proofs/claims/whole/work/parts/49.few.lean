/-! the calls that look for the fewest crumbs: fewest, worth -/
/-- what the helpers of X cost, of the first n -/
def prs (τ : Td) (X : Nat) : Nat → Nat
  | 0 => 0
  | n + 1 => prs τ X n + (if X.testBit n then pr τ n else 0)
theorem prs_le {τ : Td} (hw : Wf τ) (X : Nat) : ∀ {n : Nat}, n ≤ τ 1 → prs τ X n ≤ 20 * n
  | 0, _ => Nat.le_refl 0
  | n + 1, h => by
    have h1 := prs_le hw X (n := n) (by omega)
    have h2 := (hw.2.2.2.2.2.2 n (by omega)).2
    rw [prs]
    split <;> omega
abbrev pc (τ : Td) (X : Nat) : Nat := prs τ X (τ 1)
theorem pc_le {τ : Td} (hw : Wf τ) (X : Nat) : pc τ X ≤ 140 := by
  have h1 := prs_le hw X (Nat.le_refl (τ 1))
  have h2 := hw.2.1
  show prs τ X (τ 1) ≤ 140
  omega
theorem xX0_priceOfSet_loop {τ : Td} (hw : Wf τ) {S : Nat} {prices : Nat → Int32} (hp : ∀ h, h < τ 1 → prices h = nI (pr τ h)) : ∀ (m t fuel : Nat), t + m = τ 1 → m < fuel → lp_X0_priceOfSet_4 (nI S) (nI (τ 1)) prices fuel (nI (prs τ S t)) (nI t) = some (nI (pc τ S)) := by
  have hH7 := hw.2.1
  intro m
  induction m with
  | zero =>
    intro t fuel ht hfu
    obtain ⟨n, rfl⟩ : ∃ n, fuel = n + 1 := ⟨fuel - 1, by omega⟩
    have e : t = τ 1 := by omega
    rw [lp_X0_priceOfSet_4, if_pos (nI_le (by omega) (by omega)), e]
  | succ m ih =>
    intro t fuel ht hfu
    obtain ⟨n, rfl⟩ : ∃ n, fuel = n + 1 := ⟨fuel - 1, by omega⟩
    have ih1 := ih (t + 1) n (by omega) (by omega)
    have e : prs τ S (t + 1) = prs τ S t + (if S.testBit t then pr τ t else 0) := rfl
    rw [lp_X0_priceOfSet_4, if_neg (nI_ge (by omega) (by omega)), xX5_bit (by omega), Option.bind_some, nI_1]
    by_cases h : S.testBit t = true
    · rw [if_neg (fun z => by rw [(j_tb0 (by omega)).mp z] at h; cases h), xX0_priceOf (by omega), Option.bind_some, hp t (by omega), nI_add]
      rw [e, if_pos h] at ih1
      exact ih1
    · have h' : S.testBit t = false := by simpa using h
      rw [if_pos ((j_tb0 (by omega)).mpr h')]
      rw [e, if_neg h] at ih1
      exact ih1
theorem xX0_priceOfSet {τ : Td} (hw : Wf τ) {S N : Nat} (hN : 100 ≤ N) {prices : Nat → Int32} (hp : ∀ h, h < τ 1 → prices h = nI (pr τ h)) : m_X0_priceOfSet N (nI (τ 1)) prices (nI S) = some (nI (pc τ S)) := by
  have hH7 := hw.2.1
  have h1 := xX0_priceOfSet_loop hw (S := S) hp (τ 1) 0 N (by omega) (by omega)
  have h2 : lp_X0_priceOfSet_4 (nI S) (nI (τ 1)) prices N (0 : Int32) (0 : Int32) = some (nI (pc τ S)) := h1
  unfold m_X0_priceOfSet
  rw [h2]
  rfl
theorem xX6_few_36 {τ : Td} (hw : Wf τ) {told : Nat → Int32} (hto : ToR τ told) {S : Nat} (hS : S < 2 ^ 31) : ∀ (m t fuel : Nat), t + m = τ 1 → m < fuel → lp_X6_few_36 (nI S) told fuel (nI (prs τ S t)) (nI t) = some (nI (pc τ S)) := by
  have hH7 := hw.2.1
  intro m
  induction m with
  | zero =>
    intro t fuel ht hfu
    obtain ⟨n, rfl⟩ : ∃ n, fuel = n + 1 := ⟨fuel - 1, by omega⟩
    have e : t = τ 1 := by omega
    rw [lp_X6_few_36, (hto 1 (by decide)).1, if_pos (nI_le (by omega) (by omega)), e]
  | succ m ih =>
    intro t fuel ht hfu
    obtain ⟨n, rfl⟩ : ∃ n, fuel = n + 1 := ⟨fuel - 1, by omega⟩
    have ih1 := ih (t + 1) n (by omega) (by omega)
    have e : prs τ S (t + 1) = prs τ S t + (if S.testBit t then pr τ t else 0) := rfl
    rw [lp_X6_few_36, (hto 1 (by decide)).1, if_neg (nI_ge (by omega) (by omega)), j_bt hS (by omega), nI_1]
    by_cases h : S.testBit t = true
    · rw [if_pos (bt1.mpr h), j_a44, if_pos (j_in (by omega) (by decide)), j_clamp (by omega), (hto (44 + t) (by omega)).1, Option.bind_some, nI_add]
      rw [e, if_pos h] at ih1
      exact ih1
    · rw [if_neg (fun z => h (bt1.mp z)), show (0 : Int32) = nI 0 from rfl, nI_add]
      rw [e, if_neg h] at ih1
      exact ih1
/-- the strangers -/
abbrev stg (τ : Td) (f : Nat) : Nat := sd (2 ^ τ 1 - 1) f
theorem stg_lt (τ : Td) (f : Nat) : stg τ f < 2 ^ τ 1 := by
  have := Nat.two_pow_pos (τ 1)
  exact Nat.lt_of_le_of_lt (sd_le _ _) (by omega)
abbrev ends (τ : Td) (v : Nat → Nat) (X : Nat) : List (List Nat) := Rw τ (v 2 ||| X) tt2 0 (v 0) (v 1) (v 3) (v 5)
def lessB (τ : Td) (o : Option Nat) (x : Nat) : Bool := match o with
  | some m => decide (x < pc τ m)
  | none => true
/-- the best of the first n sets -/
def bst (τ : Td) (v : Nat → Nat) : Nat → Option Nat
  | 0 => none
  | n + 1 => if sd n (stg τ (v 2)) = 0 ∧ pc τ n ≤ v 4 ∧ lessB τ (bst τ v n) (pc τ n) = true ∧ ¬ ends τ v n = [] then some n else bst τ v n
theorem bst_le {τ : Td} {v : Nat → Nat} : ∀ {n m : Nat}, bst τ v n = some m → m < n ∧ pc τ m ≤ v 4
  | 0, m, h => by cases h
  | n + 1, m, h => by
    rw [bst] at h
    split at h
    · rename_i q; cases h; exact ⟨Nat.lt_succ_self _, q.2.1⟩
    · have := bst_le h; exact ⟨by omega, this.2⟩
def oB (o : Option Nat) : Int32 := match o with
  | some m => nI m
  | none => -4
def oP (τ : Td) (c : Nat) (o : Option Nat) : Int32 := match o with
  | some m => nI (pc τ m)
  | none => nI (c + 1)
def oF (τ : Td) (o : Option Nat) : Int32 := match o with
  | some m => nI (pc τ m)
  | none => -4
theorem oP_less {τ : Td} (hw : Wf τ) {v : Nat → Nat} (hc : v 4 < 100) (n : Nat) (x : Nat) (hx : x ≤ 140) : (oP τ (v 4) (bst τ v n) ≤ nI x) ↔ ¬ (x ≤ v 4 ∧ lessB τ (bst τ v n) x = true) := by
  cases h : bst τ v n with
  | none =>
    show (nI (v 4 + 1) ≤ nI x) ↔ ¬ (x ≤ v 4 ∧ true = true)
    rw [nI_leI (by omega) (by omega)]
    constructor
    · intro a b; omega
    · intro a
      rcases Nat.lt_or_ge (v 4) x with q | q
      · omega
      · exact absurd ⟨q, rfl⟩ a
  | some m =>
    have h1 := bst_le h
    have h2 := pc_le hw m
    show (nI (pc τ m) ≤ nI x) ↔ ¬ (x ≤ v 4 ∧ decide (x < pc τ m) = true)
    rw [nI_leI (by omega) (by omega), decide_eq_true_eq]
    constructor
    · intro a b; omega
    · intro a
      rcases Nat.lt_or_ge x (pc τ m) with q | q
      · exact absurd ⟨by omega, q⟩ a
      · exact q
set_option maxHeartbeats 1000000 in
theorem xX2_few_loop {τ : Td} (hw : Wf τ) {v : Nat → Nat} (hk : Sov τ v) {N B : Nat} (hN : 100 ≤ N) (hB : B + 200 < 2 ^ 29) {kinds rideDays helpKinds nexts prices masks left : Nat → Int32} (hM : Mr τ kinds rideDays helpKinds nexts masks) (hp : ∀ h, h < τ 1 → prices h = nI (pr τ h)) (hL : Lok left tt2) : ∀ (m n fuel : Nat) (num en : Int64) (tl : Int32) (K : Nat → Int64) (a0 b0 f0 u0 c0 d0 : Int32), n + m = 128 → m < fuel → Mem num K (B + n) → ∃ num' en' tl' K' a1 b1 f1 u1 c1 d1, lp_X2_fewestSet_46 N (nI (stg τ (v 2))) 0 left (nI (τ 0)) (nI (τ 1)) (nI (τ 3)) kinds rideDays helpKinds nexts prices masks (nI (v 0)) (nI (v 1)) (nI (v 2)) (nI (v 3)) (nI (v 4)) (nI (v 5)) fuel (oB (bst τ v n)) (oP τ (v 4) (bst τ v n)) (nI n) num en tl K a0 b0 f0 u0 c0 d0 = some (oB (bst τ v 128), num', en', tl', K', a1, b1, f1, u1, c1, d1) ∧ Mem num' K' (B + 128) := by
  intro m
  induction m with
  | zero =>
    intro n fuel num en tl K a0 b0 f0 u0 c0 d0 hn hfu hK
    obtain ⟨q, rfl⟩ : ∃ q, fuel = q + 1 := ⟨fuel - 1, by omega⟩
    have e : n = 128 := by omega
    subst e
    rw [lp_X2_fewestSet_46, if_pos (show (128 : Int32) ≤ nI _ from nI_le (a := 128) (by omega) (by omega))]
    exact ⟨_, _, _, _, _, _, _, _, _, _, rfl, hK⟩
  | succ m ih =>
    intro n fuel num en tl K a0 b0 f0 u0 c0 d0 hn hfu hK
    obtain ⟨q, rfl⟩ : ∃ q, fuel = q + 1 := ⟨fuel - 1, by omega⟩
    have hpc := pc_le hw n
    have hsd : (nI (sd n (stg τ (v 2))) = 0) ↔ sd n (stg τ (v 2)) = 0 := nI_eq (b := 0) (by have := sd_le n (stg τ (v 2)); omega) (by decide)
    have hb : bst τ v (n + 1) = if sd n (stg τ (v 2)) = 0 ∧ pc τ n ≤ v 4 ∧ lessB τ (bst τ v n) (pc τ n) = true ∧ ¬ ends τ v n = [] then some n else bst τ v n := rfl
    have hless := oP_less hw hk.2.2.2.2.2.1 n (pc τ n) hpc
    rw [lp_X2_fewestSet_46, if_neg (show ¬ (128 : Int32) ≤ nI _ from nI_ge (b := 128) (by omega) (by decide)), xX0_priceOfSet hw hN hp, Option.bind_some, j_sd, nI_1]
    by_cases c1 : sd n (stg τ (v 2)) = 0
    · rw [if_pos (hsd.mpr c1)]
      by_cases c2 : pc τ n ≤ v 4 ∧ lessB τ (bst τ v n) (pc τ n) = true
      · rw [if_neg (fun z => hless.mp z c2)]
        obtain ⟨num', en', tl', K', w1, w2⟩ := xX2_endsWellWith hw hN hk (S := n) (by omega) (B := B + n) (by omega) hM hL hK
        rw [w1, Option.bind_some]
        by_cases c3 : ends τ v n = []
        · have ih1 := ih (n + 1) q num' en' tl' K' (nI (v 0)) (nI (v 1)) (nI (v 2 ||| n)) (nI (v 3)) (nI (v 4)) (nI (v 5)) (by omega) (by omega) w2
          rw [hb, if_neg (fun z => z.2.2.2 c3)] at ih1
          rw [if_pos c3]
          simp only [if_true]
          exact ih1
        · have ih1 := ih (n + 1) q num' en' tl' K' (nI (v 0)) (nI (v 1)) (nI (v 2 ||| n)) (nI (v 3)) (nI (v 4)) (nI (v 5)) (by omega) (by omega) w2
          rw [hb, if_pos ⟨c1, c2.1, c2.2, c3⟩] at ih1
          rw [if_neg c3]
          simp only
          rw [if_neg n10]
          exact ih1
      · rw [if_pos (hless.mpr c2)]
        have ih1 := ih (n + 1) q num en tl K a0 b0 f0 u0 c0 d0 (by omega) (by omega) (hK.mono (by omega))
        rw [hb, if_neg (fun z => c2 ⟨z.2.1, z.2.2.1⟩)] at ih1
        exact ih1
    · rw [if_neg (fun z => c1 (hsd.mp z))]
      have ih1 := ih (n + 1) q num en tl K a0 b0 f0 u0 c0 d0 (by omega) (by omega) (hK.mono (by omega))
      rw [hb, if_neg (fun z => c1 z.1)] at ih1
      exact ih1
theorem Rw_mono {τ : Td} (hw : Wf τ) {F F' a b u d : Nat} (hF : F < 128) (hF' : F' < 128) (h : ∀ i, F.testBit i = true → F'.testBit i = true) (hne : ¬ Rw τ F tt2 0 a b u d = []) : ¬ Rw τ F' tt2 0 a b u d = [] := by
  unfold Rw at hne ⊢
  by_cases q : τ 3 < d
  · rw [if_pos q] at hne; exact absurd rfl hne
  · rw [if_neg q] at hne ⊢
    refine rl_mono hw.2.1 hF hF' 8 0 a b u u d (fun i hi => ?_) hne
    rw [sd_tb _ _ (by omega), Bool.and_eq_true] at hi ⊢
    exact ⟨h i hi.1, hi.2⟩
theorem bst_none {τ : Td} (hw : Wf τ) {v : Nat → Nat} (hk : Sov τ v) (h : ends τ v (stg τ (v 2)) = []) : ∀ n, n ≤ 128 → bst τ v n = none
  | 0, _ => rfl
  | n + 1, hn => by
    have ih := bst_none hw hk h n (by omega)
    have hf := hw.p7 hk.2.2.2.1
    have hst := hw.p7 (stg_lt τ (v 2))
    rw [bst, if_neg (fun z => ?_), ih]
    refine Rw_mono hw (or_lt (n := 7) hf (show n < 2 ^ 7 by omega)) (or_lt (n := 7) hf hst) (fun i hi => ?_) z.2.2.2 h
    rw [Nat.testBit_or, Bool.or_eq_true] at hi ⊢
    rcases hi with q | q
    · exact Or.inl q
    · exact Or.inr ((sd_zero (show n < 2 ^ 32 by omega)).mp z.1 i q)
theorem xX2_fewestSet {τ : Td} (hw : Wf τ) {v : Nat → Nat} (hk : Sov τ v) {N B : Nat} (hN : 200 ≤ N) (hB : B + 300 < 2 ^ 29) {kinds rideDays helpKinds nexts prices masks left : Nat → Int32} (hM : Mr τ kinds rideDays helpKinds nexts masks) (hp : ∀ h, h < τ 1 → prices h = nI (pr τ h)) (hL : Lok left tt2) {num : Int64} {K : Nat → Int64} (hK : Mem num K B) : ∃ num' en' tl' K' a1 b1 f1 u1 c1 d1, m_X2_fewestSet N num K 0 left (nI (τ 0)) (nI (τ 1)) (nI (τ 3)) kinds rideDays helpKinds nexts prices masks (nI (v 0)) (nI (v 1)) (nI (v 2)) (nI (v 3)) (nI (v 4)) (nI (v 5)) = some (oB (bst τ v 128), num', en', tl', K', a1, b1, f1, u1, c1, d1) ∧ Mem num' K' (B + 129) := by
  have hH7 := hw.2.1
  obtain ⟨num', en', tl', K', w1, w2⟩ := xX2_endsWellWith hw (N := N) (by omega) hk (S := stg τ (v 2)) (hw.p7 (stg_lt τ (v 2))) (B := B) (by omega) hM hL hK
  unfold m_X2_fewestSet
  rw [xX5_bit (by omega), Option.bind_some, p2_m1, j_sd, Option.bind_some, w1, Option.bind_some]
  by_cases h : ends τ v (stg τ (v 2)) = []
  · rw [if_pos h, bst_none hw hk h 128 (Nat.le_refl _)]
    exact ⟨_, _, _, _, _, _, _, _, _, _, rfl, w2.mono (by omega)⟩
  · rw [if_neg h]
    obtain ⟨num2, en2, tl2, K2, a1, b1, f1, u1, c1, d1, g1, g2⟩ := xX2_few_loop hw hk (N := N) (B := B + 1) (by omega) (by omega) hM hp hL 128 0 N num' en' tl' K' (nI (v 0)) (nI (v 1)) (nI (v 2 ||| stg τ (v 2))) (nI (v 3)) (nI (v 4)) (nI (v 5)) (by omega) (by omega) w2
    have g1' : lp_X2_fewestSet_46 N (nI (stg τ (v 2))) 0 left (nI (τ 0)) (nI (τ 1)) (nI (τ 3)) kinds rideDays helpKinds nexts prices masks (nI (v 0)) (nI (v 1)) (nI (v 2)) (nI (v 3)) (nI (v 4)) (nI (v 5)) N (-4 : Int32) (nI (v 4 + 1)) (0 : Int32) num' en' tl' K' (nI (v 0)) (nI (v 1)) (nI (v 2 ||| stg τ (v 2))) (nI (v 3)) (nI (v 4)) (nI (v 5)) = _ := g1
    simp only
    rw [if_neg n10, nI_1, g1', Option.bind_some]
    exact ⟨_, _, _, _, _, _, _, _, _, _, rfl, g2.mono (by omega)⟩
theorem sub_iff {τ : Td} {n f : Nat} (hn : n < 2 ^ τ 1) (hH : τ 1 ≤ 7) : sd n (stg τ f) = 0 ↔ n &&& f = 0 := by
  have h7 : 2 ^ τ 1 ≤ 2 ^ 7 := Nat.pow_le_pow_right (by decide) hH
  have hp := Nat.two_pow_pos (τ 1)
  have hst : ∀ i, (stg τ f).testBit i = (decide (i < τ 1) && !f.testBit i) := fun i => by
    rw [sd_tb _ _ (by omega), Nat.testBit_two_pow_sub_one]
  rw [sd_zero (by omega)]
  constructor
  · intro h
    apply Nat.eq_of_testBit_eq
    intro i
    rw [Nat.zero_testBit, Nat.testBit_and]
    cases hi : n.testBit i with
    | false => rfl
    | true =>
      have := h i hi
      rw [hst, Bool.and_eq_true] at this
      simpa using this.2
  · intro h i hi
    have hit : i < τ 1 := by
      rcases Nat.lt_or_ge i (τ 1) with q | q
      · exact q
      · rw [tb_hi hn q] at hi; cases hi
    have : (n &&& f).testBit i = false := by rw [h]; exact Nat.zero_testBit i
    rw [Nat.testBit_and, hi, Bool.true_and] at this
    rw [hst, decide_eq_true hit, this]; rfl
theorem bst_stop {τ : Td} {v : Nat → Nat} : ∀ k, 2 ^ τ 1 + k ≤ 128 → bst τ v (2 ^ τ 1 + k) = bst τ v (2 ^ τ 1)
  | 0, _ => rfl
  | k + 1, hk => by
    have e : bst τ v (2 ^ τ 1 + (k + 1)) = bst τ v (2 ^ τ 1 + k) := by
      show bst τ v (2 ^ τ 1 + k + 1) = _
      rw [bst, if_neg]
      intro z
      have h1 := stg_lt τ (v 2)
      have h2 : (2 ^ τ 1 + k) &&& stg τ (v 2) = 2 ^ τ 1 + k := tb_sub ((sd_zero (by omega)).mp z.1)
      have h3 : 2 ^ τ 1 + k ≤ stg τ (v 2) := by rw [← h2]; exact Nat.and_le_right
      omega
    rw [e, bst_stop k (by omega)]
set_option maxHeartbeats 1000000 in
theorem xX6_few_loop {τ : Td} (hw : Wf τ) {told : Nat → Int32} (hto : ToR τ told) {v : Nat → Nat} (hk : Sov τ v) {σ : Nat → Nat × Nat} {sn N : Nat} (hN : 30000000 ≤ N) {seen : Nat → Int32} (hsn : SnR σ sn seen) : ∀ (m n fuel : Nat) (many len : Int32) (s asks brings uses dys tries row first : Nat → Int32), n + m = 2 ^ τ 1 → m < fuel → (∀ k, k < 6 → k ≠ 2 → s k = nI (v k)) → ∃ many' len' s' asks' brings' uses' dys' tries' row' first', lp_X6_few_18 N (nI (v 2)) (nI sn) told seen fuel (oF τ (bst τ v n)) (nI n) many len (oB (bst τ v n)) s asks brings uses dys tries row first = some (oF τ (bst τ v 128), many', len', oB (bst τ v 128), s', asks', brings', uses', dys', tries', row', first') ∧ ∀ k, k < 6 → k ≠ 2 → s' k = nI (v k) := by
  have hH7 := hw.2.1
  have h7 : 2 ^ τ 1 ≤ 2 ^ 7 := Nat.pow_le_pow_right (by decide) hH7
  have hc := hk.2.2.2.2.2.1
  have hd := hk.2.2.2.2.2.2
  have hf := hw.p7 hk.2.2.2.1
  intro m
  induction m with
  | zero =>
    intro n fuel many len s asks brings uses dys tries row first hn hfu hs
    obtain ⟨q, rfl⟩ : ∃ q, fuel = q + 1 := ⟨fuel - 1, by omega⟩
    have e : bst τ v n = bst τ v 128 := by
      rw [show n = 2 ^ τ 1 by omega]
      have := bst_stop (τ := τ) (v := v) (128 - 2 ^ τ 1) (by omega)
      rw [show 2 ^ τ 1 + (128 - 2 ^ τ 1) = 128 by omega] at this
      exact this.symm
    rw [lp_X6_few_18, (hto 1 (by decide)).1, j_bit (τ 1) (by omega), if_pos (nI_le (by omega) (by omega)), e]
    exact ⟨_, _, _, _, _, _, _, _, _, _, rfl, hs⟩
  | succ m ih =>
    intro n fuel many len s asks brings uses dys tries row first hn hfu hs
    obtain ⟨q, rfl⟩ : ∃ q, fuel = q + 1 := ⟨fuel - 1, by omega⟩
    have hpc := pc_le hw n
    have hnT : n < 2 ^ τ 1 := by omega
    have hb : bst τ v (n + 1) = if sd n (stg τ (v 2)) = 0 ∧ pc τ n ≤ v 4 ∧ lessB τ (bst τ v n) (pc τ n) = true ∧ ¬ ends τ v n = [] then some n else bst τ v n := rfl
    have hz : (nI (n &&& v 2) = 0) ↔ sd n (stg τ (v 2)) = 0 := by
      rw [sub_iff hnT hH7]
      exact nI_eq (b := 0) (Nat.lt_of_le_of_lt Nat.and_le_left (by omega)) (by decide)
    have hfew := xX6_few_36 hw hto (S := n) (by omega) (τ 1) 0 N (by omega) (by omega)
    have hfew' : lp_X6_few_36 (nI n) told N (0 : Int32) (0 : Int32) = some (nI (pc τ n)) := hfew
    rw [lp_X6_few_18, (hto 1 (by decide)).1, j_bit (τ 1) (by omega), if_neg (nI_ge hnT (by omega)), hfew', Option.bind_some, j_and, nI_1]
    -- skipped: nothing changes
    have skip : (¬ (sd n (stg τ (v 2)) = 0 ∧ pc τ n ≤ v 4 ∧ lessB τ (bst τ v n) (pc τ n) = true ∧ ¬ ends τ v n = [])) → ∀ (many len : Int32) (s asks brings uses dys tries row first : Nat → Int32), (∀ k, k < 6 → k ≠ 2 → s k = nI (v k)) → ∃ many' len' s' asks' brings' uses' dys' tries' row' first', lp_X6_few_18 N (nI (v 2)) (nI sn) told seen q (oF τ (bst τ v n)) (nI (n + 1)) many len (oB (bst τ v n)) s asks brings uses dys tries row first = some (oF τ (bst τ v 128), many', len', oB (bst τ v 128), s', asks', brings', uses', dys', tries', row', first') ∧ ∀ k, k < 6 → k ≠ 2 → s' k = nI (v k) := by
      intro hno many len s asks brings uses dys tries row first hs
      have ih1 := ih (n + 1) q many len s asks brings uses dys tries row first (by omega) (by omega) hs
      rw [hb, if_neg hno] at ih1
      exact ih1
    by_cases c1 : sd n (stg τ (v 2)) = 0
    · rw [if_pos (hz.mpr c1), hs 4 (by decide) (by decide)]
      by_cases c2 : pc τ n ≤ v 4
      · rw [if_neg (show ¬ nI (v 4) < nI (pc τ n) from nI_nlt c2 (by omega))]
        -- what the walk says
        have walk : ∃ many' len' asks' brings' uses' dys' tries' row' first', m_X6_walks N (nI sn) told (upd s 2 (nI (v 2 ||| n))) seen asks brings uses dys tries row first 0 1 = some (many', len', asks', brings', uses', dys', tries', row', first') ∧ (many' ≤ 0 ↔ ends τ v n = []) := by
          obtain ⟨m1, l1, a1, a2, a3, a4, a5, a6, a7, w1, w2⟩ := xX6_walksOne hw (s := upd s 2 (nI (v 2 ||| n))) hto (a := v 0) (b := v 1) (f := v 2 ||| n) (u := v 3) (c := v 4) (d := v 5) ⟨by rw [pk_un (by decide)]; exact hs 0 (by decide) (by decide), by rw [pk_un (by decide)]; exact hs 1 (by decide) (by decide), pk_us, by rw [pk_un (by decide)]; exact hs 3 (by decide) (by decide), by rw [pk_un (by decide)]; exact hs 4 (by decide) (by decide), by rw [pk_un (by decide)]; exact hs 5 (by decide) (by decide)⟩ hk.1 hk.2.1 (or_lt hk.2.2.2.1 hnT) (hw.p7 hk.u) (by omega) hN hsn asks brings uses dys tries row first
          exact ⟨m1, l1, a1, a2, a3, a4, a5, a6, a7, w1, w2⟩
        obtain ⟨m1, l1, a1, a2, a3, a4, a5, a6, a7, w1, w2⟩ := walk
        have hs' : ∀ k, k < 6 → k ≠ 2 → upd s 2 (nI (v 2 ||| n)) k = nI (v k) := fun k hk6 hk2 => by rw [pk_un hk2]; exact hs k hk6 hk2
        rw [j_or, w1]
        cases ho : bst τ v n with
        | none =>
          rw [if_pos (show oF τ none = (-4 : Int32) from rfl), Option.bind_some]
          by_cases c3 : ends τ v n = []
          · have := skip (fun z => z.2.2.2 c3) m1 l1 (upd s 2 (nI (v 2 ||| n))) a1 a2 a3 a4 a5 a6 a7 hs'
            rw [ho] at this
            rw [if_pos (w2.mpr c3)]
            exact this
          · have ih1 := ih (n + 1) q m1 l1 (upd s 2 (nI (v 2 ||| n))) a1 a2 a3 a4 a5 a6 a7 (by omega) (by omega) hs'
            rw [hb, if_pos ⟨c1, c2, by rw [ho]; rfl, c3⟩] at ih1
            rw [if_neg (fun z => c3 (w2.mp z))]
            exact ih1
        | some g =>
          have hg := pc_le hw g
          rw [if_neg (show ¬ oF τ (some g) = (-4 : Int32) from fun z => by
            have h0 : ¬ nI (pc τ g) < 0 := nI_pos (by omega)
            have z' : nI (pc τ g) = (-4 : Int32) := z
            rw [z'] at h0
            exact h0 (by decide))]
          by_cases c4 : pc τ n < pc τ g
          · rw [if_neg (show ¬ oF τ (some g) ≤ nI (pc τ n) from nI_ge c4 (by omega)), Option.bind_some]
            by_cases c3 : ends τ v n = []
            · have := skip (fun z => z.2.2.2 c3) m1 l1 (upd s 2 (nI (v 2 ||| n))) a1 a2 a3 a4 a5 a6 a7 hs'
              rw [ho] at this
              rw [if_pos (w2.mpr c3)]
              exact this
            · have ih1 := ih (n + 1) q m1 l1 (upd s 2 (nI (v 2 ||| n))) a1 a2 a3 a4 a5 a6 a7 (by omega) (by omega) hs'
              rw [hb, if_pos ⟨c1, c2, by rw [ho]; exact decide_eq_true c4, c3⟩] at ih1
              rw [if_neg (fun z => c3 (w2.mp z))]
              exact ih1
          · rw [if_pos (show oF τ (some g) ≤ nI (pc τ n) from nI_le (by omega) (by omega))]
            have := skip (fun z => by
              have := z.2.2.1
              rw [ho] at this
              exact c4 (of_decide_eq_true this)) many len s asks brings uses dys tries row first hs
            rw [ho] at this
            exact this
      · rw [if_pos (show nI (v 4) < nI (pc τ n) from nI_lt (by omega) (by omega))]
        exact skip (fun z => c2 z.2.1) many len s asks brings uses dys tries row first hs
    · rw [if_neg (fun z => c1 (hz.mp z))]
      exact skip (fun z => c1 z.1) many len s asks brings uses dys tries row first hs
theorem xX6_few {τ : Td} (hw : Wf τ) {told : Nat → Int32} (hto : ToR τ told) {v : Nat → Nat} (hk : Sov τ v) {σ : Nat → Nat × Nat} {sn N : Nat} (hN : 30000000 ≤ N) {seen : Nat → Int32} (hsn : SnR σ sn seen) (many len : Int32) {s : Nat → Int32} (hs : ∀ k, k < 6 → s k = nI (v k)) (asks brings uses dys tries row first : Nat → Int32) : ∃ many' len' s' asks' brings' uses' dys' tries' row' first', m_X6_few N (nI sn) many len told s seen asks brings uses dys tries row first = some (oF τ (bst τ v 128), many', len', oB (bst τ v 128), s', asks', brings', uses', dys', tries', row', first') ∧ ∀ k, k < 6 → s' k = nI (v k) := by
  have hH7 := hw.2.1
  have h7 : 2 ^ τ 1 ≤ 2 ^ 7 := Nat.pow_le_pow_right (by decide) hH7
  obtain ⟨m1, l1, s1, a1, a2, a3, a4, a5, a6, a7, w1, w2⟩ := xX6_few_loop hw hto hk hN hsn (2 ^ τ 1) 0 N many len s asks brings uses dys tries row first (by omega) (by omega) (fun k hk6 _ => hs k hk6)
  have w1' : lp_X6_few_18 N (nI (v 2)) (nI sn) told seen N (-4 : Int32) (0 : Int32) many len (-4 : Int32) s asks brings uses dys tries row first = _ := w1
  unfold m_X6_few
  rw [hs 2 (by decide), w1', Option.bind_some]
  refine ⟨_, _, _, _, _, _, _, _, _, _, rfl, fun k hk6 => ?_⟩
  by_cases e : k = 2
  · subst e; exact pk_us
  · rw [pk_un e]; exact w2 k hk6 e
theorem in01 (x : Int32) : (x < 0 ∧ m_X6_in x 0 1 = some 0) ∨ (¬ x < 0 ∧ ¬ x ≤ 1 ∧ m_X6_in x 0 1 = some 0) ∨ (¬ x < 0 ∧ x ≤ 1 ∧ m_X6_in x 0 1 = some 1) := by
  unfold m_X6_in
  by_cases h0 : x < 0
  · left; rw [if_pos h0]; exact ⟨h0, rfl⟩
  right
  rw [if_neg h0]
  by_cases h8 : x ≤ 1
  · right
    rw [if_neg (Int32.not_lt.mpr h8)]
    exact ⟨h0, h8, rfl⟩
  · left
    rw [if_pos (Int32.not_le.mp h8)]
    exact ⟨h0, h8, rfl⟩
theorem op_fewest {τ : Td} {tasks helpers askedFirst crumbsFirst lastDay : Int32} {kinds days rideDays helpKinds nexts helperKinds prices masks told : Nat → Int32} (hm : MoI τ tasks helpers askedFirst crumbsFirst lastDay kinds days rideDays helpKinds nexts helperKinds prices masks told) {v : Nat → Nat} {asked brought friends used crumbs day : Int32} {s : Nat → Int32} (hs : StI τ v asked brought friends used crumbs day s) {σ : Nat → Nat × Nat} {n N B : Nat} (hN : 30000000 ≤ N) {seen : Nat → Int32} (hsn : SnR σ n seen) {uslast : Int32} {usleft : Nat → Int32} (hun : UnI uslast usleft) {num : Int64} {K : Nat → Int64} (hK : Mem num K B) (hB : B + 300 < 2 ^ 29) (en : Int64) (tl a0 b0 f0 u0 c0 d0 many len set : Int32) (asks brings uses dys tries row first : Nat → Int32) (x : Int32) : ∃ r num' en' tl' K' a1 b1 f1 u1 c1 d1 many' len' set' s' asks' brings' uses' dys' tries' row' first', m_X5_fewest N tasks helpers lastDay kinds rideDays helpKinds nexts prices masks asked brought friends used crumbs day uslast usleft num en tl K a0 b0 f0 u0 c0 d0 x = some (r, num', en', tl', K', a1, b1, f1, u1, c1, d1) ∧ m_X6_fewest N (nI n) many len set told s seen asks brings uses dys tries row first x = some (r, many', len', set', s', asks', brings', uses', dys', tries', row', first') ∧ StI τ v asked brought friends used crumbs day s' ∧ Mem num' K' (B + 129) := by
  have same := hs
  have hmr := hm.mr
  obtain ⟨hw, hmo, hto⟩ := hm
  obtain ⟨rfl, rfl, rfl, rfl, rfl, h1, h2, h3⟩ := hmo
  obtain ⟨hk, ⟨rfl, rfl, rfl, rfl, rfl, rfl⟩, hs6⟩ := hs
  obtain ⟨ul, uf⟩ := hun
  subst ul
  unfold m_X5_fewest m_X6_fewest
  rcases in01 x with ⟨q, e⟩ | ⟨q1, q2, e⟩ | ⟨q1, q2, e⟩
  · rw [if_pos q, e, Option.bind_some, if_pos (show (0 : Int32) = 0 from rfl)]
    exact ⟨_, _, _, _, _, _, _, _, _, _, _, _, _, _, _, _, _, _, _, _, _, _, rfl, rfl, same, hK.mono (by omega)⟩
  · rw [if_neg q1, if_neg q2, e, Option.bind_some, if_pos (show (0 : Int32) = 0 from rfl)]
    exact ⟨_, _, _, _, _, _, _, _, _, _, _, _, _, _, _, _, _, _, _, _, _, _, rfl, rfl, same, hK.mono (by omega)⟩
  obtain ⟨num', en', tl', K', a1, b1, f1, u1, c1, d1, g1, g2⟩ := xX2_fewestSet hw hk (N := N) (by omega) hB hmr (fun h hh => (h2 h hh).2) (lok_all uf) hK
  obtain ⟨m1, l1, s1, z1, z2, z3, z4, z5, z6, z7, w1, w2⟩ := xX6_few hw hto hk hN hsn many len hs6 asks brings uses dys tries row first
  rw [if_neg q1, if_pos q2, e, Option.bind_some, if_neg n10, g1, w1, Option.bind_some, Option.bind_some]
  cases ho : bst τ v 128 with
  | none =>
    simp only
    rw [if_neg (show ¬ 0 ≤ oB none by decide)]
    by_cases x0 : x = 0
    · rw [if_pos x0]
      exact ⟨_, _, _, _, _, _, _, _, _, _, _, _, _, _, _, _, _, _, _, _, _, _, rfl, rfl, ⟨hk, ⟨rfl, rfl, rfl, rfl, rfl, rfl⟩, w2⟩, g2⟩
    · rw [if_neg x0]
      exact ⟨_, _, _, _, _, _, _, _, _, _, _, _, _, _, _, _, _, _, _, _, _, _, rfl, rfl, ⟨hk, ⟨rfl, rfl, rfl, rfl, rfl, rfl⟩, w2⟩, g2⟩
  | some g =>
    have hg := (bst_le ho).1
    simp only
    rw [if_pos (show 0 ≤ oB (some g) from nI_pos' (by omega))]
    by_cases x0 : x = 0
    · rw [if_pos x0, if_pos x0, show oB (some g) = nI g from rfl, xX0_priceOfSet hw (by omega) (fun h hh => (h2 h hh).2), Option.bind_some]
      exact ⟨_, _, _, _, _, _, _, _, _, _, _, _, _, _, _, _, _, _, _, _, _, _, rfl, rfl, ⟨hk, ⟨rfl, rfl, rfl, rfl, rfl, rfl⟩, w2⟩, g2⟩
    · rw [if_neg x0, if_neg x0]
      exact ⟨_, _, _, _, _, _, _, _, _, _, _, _, _, _, _, _, _, _, _, _, _, _, rfl, rfl, ⟨hk, ⟨rfl, rfl, rfl, rfl, rfl, rfl⟩, w2⟩, g2⟩
