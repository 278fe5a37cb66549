/-! the reference's walk over all rows -/
/-- what was found so far: how many, and the first -/
def Fnd (L : List (List Nat)) (many len : Int32) (first : Nat → Int32) : Prop := many = nI L.length ∧ match L with
  | [] => len = 0
  | r :: _ => len = nI r.length ∧ r.length ≤ 8 ∧ ∀ (i : Nat) (h : i < r.length), first i = nI r[i]
/-- more is found; if one is enough, no more than one -/
def addF (one : Bool) (L R : List (List Nat)) : List (List Nat) := if one = true then (if L = [] then R.take 1 else L) else L ++ R
theorem addF_nil (one : Bool) (L : List (List Nat)) : addF one L [] = L := by
  unfold addF
  cases one
  · simp
  · by_cases h : L = []
    · rw [h]; rfl
    · simp [h]
theorem addF_app (one : Bool) (L A B : List (List Nat)) : addF one (addF one L A) B = addF one L (A ++ B) := by
  unfold addF
  cases one
  · simp
  · by_cases h : L = []
    · rw [h]
      cases A with
      | nil => simp
      | cons x A => simp
    · simp [h]
/-- what is seen, as the reference keeps it: the first k -/
def snk (σ : Nat → Nat × Nat) (ρ : List Nat) : Nat → Bool
  | 0 => true
  | k + 1 => snk σ ρ k && decide (ρ[(σ k).2 - 1]? = some (σ k).1)
def SnR (σ : Nat → Nat × Nat) (n : Nat) (seen : Nat → Int32) : Prop := n ≤ 6 ∧ ∀ k, k < n → seen k = nI (10 * (σ k).1 + (σ k).2) ∧ (σ k).1 < 8 ∧ 1 ≤ (σ k).2 ∧ (σ k).2 ≤ 8
theorem xX6_isSeen_loop {σ : Nat → Nat × Nat} {n : Nat} {seen row : Nat → Int32} (hs : SnR σ n seen) {ρ : List Nat} (hρ : ρ.length ≤ 8) (hρ8 : ∀ x, x ∈ ρ → x < 8) (hr : ∀ (i : Nat) (h : i < ρ.length), row i = nI ρ[i]) : ∀ (m k fuel : Nat), k + m = n → m < fuel → lp_X6_isSeen_4 (nI ρ.length) (nI n) seen row fuel (if snk σ ρ k then 1 else 0) (nI k) = some (if snk σ ρ n then 1 else 0) := by
  intro m
  induction m with
  | zero =>
    intro k fuel hk hf
    obtain ⟨q, rfl⟩ : ∃ q, fuel = q + 1 := ⟨fuel - 1, by omega⟩
    have : k = n := by omega
    subst this
    rw [lp_X6_isSeen_4, if_pos (nI_le (Nat.le_refl k) (by have := hs.1; omega))]
  | succ m ih =>
    intro k fuel hk hf
    obtain ⟨q, rfl⟩ : ∃ q, fuel = q + 1 := ⟨fuel - 1, by omega⟩
    obtain ⟨h1, h2, h3, h4⟩ := hs.2 k (by omega)
    have h6 := hs.1
    have hih := ih (k + 1) q (by omega) (by omega)
    rw [lp_X6_isSeen_4, if_neg (nI_ge (by omega) (by omega)), if_pos (j_in (by omega) (by decide)), j_clamp (by omega), h1]
    have ed : nI (10 * (σ k).1 + (σ k).2) / (10 : Int32) = nI (σ k).1 := by
      rw [show (10 : Int32) = nI 10 from rfl, pk_div (by omega) (by decide) (by decide)]
      exact congrArg nI (by omega)
    have em : nI (10 * (σ k).1 + (σ k).2) - nI (10 * (σ k).1 + (σ k).2) / (10 : Int32) * (10 : Int32) = nI (σ k).2 := by
      rw [show (10 : Int32) = nI 10 from rfl, pk_rem (by omega) (by decide) (by decide)]
      exact congrArg nI (by omega)
    have ep : nI (σ k).2 - (1 : Int32) = nI ((σ k).2 - 1) := by
      obtain ⟨z, hz⟩ : ∃ z, (σ k).2 = z + 1 := ⟨(σ k).2 - 1, by omega⟩
      rw [hz]; exact nI_pred z
    rw [em, ep, ed]
    simp only [Option.bind_some]
    rw [nI_1]
    have hsn : snk σ ρ (k + 1) = (snk σ ρ k && decide (ρ[(σ k).2 - 1]? = some (σ k).1)) := rfl
    cases hb : snk σ ρ k with
    | false =>
      rw [hb, Bool.false_and] at hsn
      rw [hsn] at hih
      simp only [Bool.false_eq_true, if_false, if_true]
      exact hih
    | true =>
      rw [hb, Bool.true_and] at hsn
      simp only [if_true]
      rw [if_neg (by decide)]
      by_cases hlt : (σ k).2 - 1 < ρ.length
      · have hx := hρ8 _ (List.getElem_mem hlt)
        rw [if_neg (nI_ge hlt (by omega)), if_pos (j_in (by omega) (by decide)), j_clamp (by omega), hr _ hlt]
        have e := nI_eq (a := ρ[(σ k).2 - 1]) (b := (σ k).1) (by omega) (by omega)
        by_cases q2 : ρ[(σ k).2 - 1] = (σ k).1
        · rw [if_pos (e.mpr q2)]
          rw [decide_eq_true (by rw [List.getElem?_eq_getElem hlt, q2])] at hsn
          rw [hsn] at hih
          exact hih
        · rw [if_neg (fun z => q2 (e.mp z))]
          rw [decide_eq_false (by rw [List.getElem?_eq_getElem hlt]; intro z; exact q2 (Option.some.inj z))] at hsn
          rw [hsn] at hih
          exact hih
      · rw [if_pos (nI_le (by omega) (by omega))]
        rw [decide_eq_false (by rw [List.getElem?_eq_none (by omega)]; intro z; cases z)] at hsn
        rw [hsn] at hih
        exact hih
theorem xX6_isSeen {σ : Nat → Nat × Nat} {n N : Nat} {seen row : Nat → Int32} (hN : 100 ≤ N) (hs : SnR σ n seen) {ρ : List Nat} (hρ : ρ.length ≤ 8) (hρ8 : ∀ x, x ∈ ρ → x < 8) (hr : ∀ (i : Nat) (h : i < ρ.length), row i = nI ρ[i]) : m_X6_isSeen N (nI n) seen row (nI ρ.length) = some (if snk σ ρ n then 1 else 0) := by
  unfold m_X6_isSeen
  have := xX6_isSeen_loop hs hρ hρ8 hr n 0 N (by omega) (by have := hs.1; omega)
  have e : lp_X6_isSeen_4 (nI ρ.length) (nI n) seen row N (1 : Int32) (0 : Int32) = some (if snk σ ρ n then 1 else 0) := this
  rw [e, Option.bind_some, if_pos]
  split
  · exact Or.inr rfl
  · exact Or.inl rfl
theorem xX6_counts_loop {row : Nat → Int32} {n : Nat} (hn : n ≤ 8) : ∀ (m i fuel : Nat) (first : Nat → Int32), i + m = n → m < fuel → ∃ g, lp_X6_counts_27 (nI n) row fuel (nI i) first = some g ∧ (∀ j, i ≤ j → j < n → g j = row j) ∧ ∀ j, j < i → g j = first j := by
  intro m
  induction m with
  | zero =>
    intro i fuel first hi hf
    obtain ⟨q, rfl⟩ : ∃ q, fuel = q + 1 := ⟨fuel - 1, by omega⟩
    exact ⟨first, by rw [lp_X6_counts_27, if_pos (nI_le (by omega) (by omega))], fun j h1 h2 => by omega, fun j _ => rfl⟩
  | succ m ih =>
    intro i fuel first hi hf
    obtain ⟨q, rfl⟩ : ∃ q, fuel = q + 1 := ⟨fuel - 1, by omega⟩
    obtain ⟨g, h1, h2, h3⟩ := ih (i + 1) q (upd first i (row i)) (by omega) (by omega)
    refine ⟨g, ?_, fun j a b => ?_, fun j a => ?_⟩
    · rw [lp_X6_counts_27, if_neg (nI_ge (by omega) (by omega)), if_pos (j_in (by omega) (by decide)), j_clamp (by omega), nI_1]
      exact h1
    · by_cases q : j = i
      · subst q; rw [h3 j (by omega), pk_us]
      · exact h2 j (by omega) b
    · rw [h3 j (by omega), pk_un (by omega)]
theorem xX6_counts {σ : Nat → Nat × Nat} {n N : Nat} {seen row first : Nat → Int32} {many len : Int32} (hN : 100 ≤ N) (hs : SnR σ n seen) {ρ : List Nat} (hρ : ρ.length ≤ 8) (hρ8 : ∀ x, x ∈ ρ → x < 8) (hr : ∀ (i : Nat) (h : i < ρ.length), row i = nI ρ[i]) (bs : Bool) {L : List (List Nat)} (hL : Fnd L many len first) (hLn : L.length < 2 ^ 30) : ∃ many' len' first', m_X6_counts N (nI n) many len seen row first (nI ρ.length) (if bs then 1 else 0) = some (many', len', first') ∧ Fnd (L ++ [ρ].filter (fun ρ => !bs || snk σ ρ n)) many' len' first' := by
  have add : ∃ many' len' first', (if many = 0 then (lp_X6_counts_27 (nI ρ.length) row N (0 : Int32) first).bind (fun r6 => some ((many + (1 : Int32)), nI ρ.length, r6)) else some ((many + (1 : Int32)), len, first)) = some (many', len', first') ∧ Fnd (L ++ [ρ]) many' len' first' := by
    obtain ⟨hm, hf⟩ := hL
    have hz : many = 0 ↔ L.length = 0 := by rw [hm]; exact nI_eq (b := 0) (by omega) (by decide)
    cases L with
    | nil =>
      obtain ⟨g, h1, h2, -⟩ := xX6_counts_loop (row := row) hρ ρ.length 0 N first (by omega) (by omega)
      refine ⟨many + 1, nI ρ.length, g, ?_, ?_⟩
      · rw [if_pos (hz.mpr rfl), show (0 : Int32) = nI 0 from rfl, h1]; rfl
      · refine ⟨?_, ?_⟩
        · rw [hm]; exact nI_1 0
        · exact ⟨rfl, hρ, fun i h => by rw [h2 i (Nat.zero_le i) h, hr i h]⟩
    | cons r L =>
      refine ⟨many + 1, len, first, ?_, ?_⟩
      · rw [if_neg (fun z => by have := hz.mp z; simp at this)]
      · refine ⟨?_, hf⟩
        rw [hm, nI_1, List.length_append]; rfl
  cases bs with
  | false =>
    obtain ⟨m', l', f', h1, h2⟩ := add
    refine ⟨m', l', f', ?_, h2⟩
    unfold m_X6_counts
    rw [if_pos (by decide)]
    exact h1
  | true =>
    cases hsn : snk σ ρ n with
    | true =>
      obtain ⟨m', l', f', h1, h2⟩ := add
      refine ⟨m', l', f', ?_, by simpa [hsn] using h2⟩
      unfold m_X6_counts
      rw [if_neg (by decide), xX6_isSeen hN hs hρ hρ8 hr, Option.bind_some, hsn, if_neg (by decide)]
      exact h1
    | false =>
      refine ⟨many, len, first, ?_, by simpa [hsn] using hL⟩
      unfold m_X6_counts
      rw [if_neg (by decide), xX6_isSeen hN hs hρ hρ8 hr, Option.bind_some, hsn, if_pos (by decide)]
theorem ite_same {α : Type} {p q : Prop} [Decidable p] [Decidable q] {X Y : α} (h : p ∨ q) : (if p then X else if q then X else Y) = X := by
  by_cases hp : p
  · rw [if_pos hp]
  · rw [if_neg hp, if_pos (h.resolve_left hp)]
theorem pop_lt {m t n : Nat} (h : m.testBit t = false) (ht : t < n) : pop m n < n := by
  have h1 := pop_add h ht
  have h2 := pop_le (m ||| 2 ^ t) n
  omega
/-- how many turns a standing's walk takes at most, k rides from the end -/
def bd : Nat → Nat
  | 0 => 0
  | k + 1 => 8 * (1 + bd k) + 1
abbrev tt2 : Nat → Nat → Bool := fun _ _ => true
theorem br_on {τ : Td} {F : Nat} {g : Nat → Nat → Nat → Nat → Nat → List (List Nat)} {r a b u d t x : Nat} (ho : (sd a b).testBit t = true) (hx : hf τ t (sd F u) d = some x) (hd : d + rdy τ t ≤ τ 3) : br τ F tt2 g r a b u d t = (g (r + 1) (a ||| 2 ^ nx τ t) (b ||| 2 ^ t) (u ||| x) (d + rdy τ t)).map (t :: ·) := by
  unfold br
  rw [ho, Bool.true_and, if_pos rfl, hx]
  simp only
  rw [if_pos hd]
theorem br_off {τ : Td} {F : Nat} {g : Nat → Nat → Nat → Nat → Nat → List (List Nat)} {r a b u d t : Nat} (h : (sd a b).testBit t = false ∨ hf τ t (sd F u) d = none ∨ τ 3 < d + rdy τ t) : br τ F tt2 g r a b u d t = [] := by
  unfold br
  cases ho : (sd a b).testBit t with
  | false => rfl
  | true =>
    rw [Bool.true_and, if_pos rfl]
    cases hx : hf τ t (sd F u) d with
    | none => rfl
    | some x =>
      simp only
      rw [if_neg]
      rcases h with h | h | h
      · rw [ho] at h; cases h
      · rw [hx] at h; cases h
      · omega
/-- from a standing at depth dep on, with the tasks from t0 on still to try: the walk comes back to the depth above, with all rows counted that go on from there -/
def Dfs (τ : Td) (F : Nat) (bs one : Bool) (σ : Nat → Nat × Nat) (n N : Nat) (told s seen : Nat → Int32) (k : Nat) : Prop :=
    ∀ (m dep a b u d t0 : Nat) (L : List (List Nat)) (pre : List Nat) (many len : Int32) (asks brings uses days tries row first : Nat → Int32), t0 + m = τ 0 → τ 0 ≤ pop b (τ 0) + (k + 1) → sd a b ≠ 0 → a < 2 ^ τ 0 → b < 2 ^ τ 0 → u < 128 → d ≤ τ 3 → pre.length = dep → (∀ x, x ∈ pre → x < 8) → dep ≤ pop b (τ 0) → asks dep = nI a → brings dep = nI b → uses dep = nI u → days dep = nI d → tries dep = nI t0 → (∀ (i : Nat) (h : i < pre.length), row i = nI pre[i]) → Fnd L many len first → L.length + (fl (br τ F tt2 (rl τ F tt2 0 k) dep a b u d) t0 m).length < 2 ^ 30 →
      ∃ j, j ≤ m * (1 + bd k) + 1 ∧ ∃ (many' len' : Int32) (asks' brings' uses' days' tries' row' first' : Nat → Int32), (∀ i, i < dep → asks' i = asks i ∧ brings' i = brings i ∧ uses' i = uses i ∧ days' i = days i ∧ tries' i = tries i ∧ row' i = row i) ∧ Fnd (addF one L (((fl (br τ F tt2 (rl τ F tt2 0 k) dep a b u d) t0 m).map (pre ++ ·)).filter (fun ρ => !bs || snk σ ρ n))) many' len' first' ∧
        ∀ fuel, lp_X6_walks_89 N (if bs then 1 else 0) (if one then 1 else 0) (nI n) told s seen (j + fuel) (nI dep) many len asks brings uses days tries row first = lp_X6_walks_89 N (if bs then 1 else 0) (if one then 1 else 0) (nI n) told s seen fuel (nI dep - 1) many' len' asks' brings' uses' days' tries' row' first'
theorem sd_ex {a b : Nat} (h : sd a b ≠ 0) : ∃ t, (sd a b).testBit t = true := by
  refine Classical.byContradiction fun hn => h ?_
  apply Nat.eq_of_testBit_eq
  intro i
  rw [Nat.zero_testBit]
  cases q : (sd a b).testBit i with
  | false => rfl
  | true => exact absurd ⟨i, q⟩ hn
theorem addF_len {one : Bool} {L R : List (List Nat)} : (addF one L R).length ≤ L.length + R.length := by
  unfold addF
  cases one
  · simp
  · by_cases h : L = []
    · simp [h]; omega
    · simp [h]
theorem Fnd.zero {L : List (List Nat)} {many len : Int32} {first : Nat → Int32} (h : Fnd L many len first) (hl : L.length < 2 ^ 31) : many ≤ 0 ↔ L = [] := by
  rw [h.1, show (0 : Int32) = nI 0 from rfl, nI_leI hl (by decide)]
  constructor
  · intro q; exact List.length_eq_zero_iff.mp (by omega)
  · intro q; rw [q]; exact Nat.le_refl 0
set_option maxHeartbeats 4000000 in
theorem dfs_step {τ : Td} (hw : Wf τ) {told s seen : Nat → Int32} (ht : ToR τ told) {F : Nat} (hs2 : s 2 = nI F) (hF : F < 2 ^ τ 1) (bs one : Bool) {σ : Nat → Nat × Nat} {n N : Nat} (hN : 100 ≤ N) (hsn : SnR σ n seen) (k : Nat) (ihk : ∀ k', k = k' + 1 → Dfs τ F bs one σ n N told s seen k') : Dfs τ F bs one σ n N told s seen k := by
  have hT8 := hw.1.2
  have hL60 := hw.2.2.2.1.2
  have hH7 := hw.2.1
  have hF7 : F < 2 ^ 7 := Nat.lt_of_lt_of_le hF (Nat.pow_le_pow_right (by decide) hH7)
  have h0 := (ht 0 (by decide)).1
  have h3' := (ht 3 (by decide)).1
  intro m
  induction m with
  | zero =>
    intro dep a b u d t0 L pre many len asks brings uses days tries row first h1 h2 h3 h4 h5 h6 h7 h8 h8b h9 e1 e2 e3 e4 e5 hrow hFd hlen
    have hb8 := hw.p8 h5
    obtain ⟨t, htb⟩ := sd_ex h3
    have ha8 := hw.p8 h4
    rw [sd_tb _ _ (by omega), Bool.and_eq_true] at htb
    have htT : t < τ 0 := by
      rcases Nat.lt_or_ge t (τ 0) with q | q
      · exact q
      · rw [tb_hi h4 q] at htb; cases htb.1
    have hdep : dep < 8 := by have := pop_lt (n := τ 0) (by simpa using htb.2) htT; omega
    refine ⟨1, by omega, many, len, asks, brings, uses, days, upd tries dep (nI (t0 + 1)), row, first, fun i hi => ⟨rfl, rfl, rfl, rfl, pk_un (by omega), rfl⟩, ?_, fun fuel => ?_⟩
    · rw [show fl (br τ F tt2 (rl τ F tt2 0 k) dep a b u d) t0 0 = [] from rfl]
      rw [List.map_nil, List.filter_nil, addF_nil]
      exact hFd
    · rw [Nat.add_comm 1 fuel, lp_X6_walks_89, if_neg (nI_pos (by omega)), if_pos (j_in (by omega) (by decide)), j_clamp (by omega), e5, nI_1, h0]
      simp only [Option.bind_some]
      rw [if_pos (nI_le (by omega) (by omega)), ← Int32.sub_eq_add_neg]
  | succ m ih =>
    intro dep a b u d t0 L pre many len asks brings uses days tries row first h1 h2 h3 h4 h5 h6 h7 h8 h8b h9 e1 e2 e3 e4 e5 hrow hFd hlen
    have hb8 := hw.p8 h5
    have ha8 := hw.p8 h4
    have hdep : dep < 8 := by
      obtain ⟨t, htb⟩ := sd_ex h3
      rw [sd_tb _ _ (by omega), Bool.and_eq_true] at htb
      have htT : t < τ 0 := by
        rcases Nat.lt_or_ge t (τ 0) with q | q
        · exact q
        · rw [tb_hi h4 q] at htb; cases htb.1
      have := pop_lt (n := τ 0) (by simpa using htb.2) htT; omega
    have htT : t0 < τ 0 := by omega
    have hflS : fl (br τ F tt2 (rl τ F tt2 0 k) dep a b u d) t0 (m + 1) = br τ F tt2 (rl τ F tt2 0 k) dep a b u d t0 ++ fl (br τ F tt2 (rl τ F tt2 0 k) dep a b u d) (t0 + 1) m := rfl
    rw [hflS, List.length_append] at hlen
    rw [hflS, List.map_append, List.filter_append, ← addF_app]
    have hmul : (m + 1) * (1 + bd k) + 1 = (1 + bd k) + (m * (1 + bd k) + 1) := by rw [Nat.succ_mul]; omega
    rw [hmul]
    -- what the rest of this standing gives, from any world that holds it still
    have rest : ∀ (L1 : List (List Nat)) (many1 len1 : Int32) (asks1 brings1 uses1 days1 tries1 row1 first1 : Nat → Int32), Fnd L1 many1 len1 first1 → L1.length ≤ L.length + (br τ F tt2 (rl τ F tt2 0 k) dep a b u d t0).length → asks1 dep = nI a → brings1 dep = nI b → uses1 dep = nI u → days1 dep = nI d → tries1 dep = nI (t0 + 1) → (∀ i, i < dep → asks1 i = asks i ∧ brings1 i = brings i ∧ uses1 i = uses i ∧ days1 i = days i ∧ tries1 i = tries i ∧ row1 i = row i) → ∀ j1, j1 ≤ 1 + bd k → (∀ fuel, lp_X6_walks_89 N (if bs then 1 else 0) (if one then 1 else 0) (nI n) told s seen (j1 + fuel) (nI dep) many len asks brings uses days tries row first = lp_X6_walks_89 N (if bs then 1 else 0) (if one then 1 else 0) (nI n) told s seen fuel (nI dep) many1 len1 asks1 brings1 uses1 days1 tries1 row1 first1) →
        ∃ j, j ≤ (1 + bd k) + (m * (1 + bd k) + 1) ∧ ∃ (many' len' : Int32) (asks' brings' uses' days' tries' row' first' : Nat → Int32), (∀ i, i < dep → asks' i = asks i ∧ brings' i = brings i ∧ uses' i = uses i ∧ days' i = days i ∧ tries' i = tries i ∧ row' i = row i) ∧ Fnd (addF one L1 (((fl (br τ F tt2 (rl τ F tt2 0 k) dep a b u d) (t0 + 1) m).map (pre ++ ·)).filter (fun ρ => !bs || snk σ ρ n))) many' len' first' ∧
          ∀ fuel, lp_X6_walks_89 N (if bs then 1 else 0) (if one then 1 else 0) (nI n) told s seen (j + fuel) (nI dep) many len asks brings uses days tries row first = lp_X6_walks_89 N (if bs then 1 else 0) (if one then 1 else 0) (nI n) told s seen fuel (nI dep - 1) many' len' asks' brings' uses' days' tries' row' first' := by
      intro L1 many1 len1 asks1 brings1 uses1 days1 tries1 row1 first1 g1 g2 g3 g4 g5 g6 g7 g8 j1 gj geq
      obtain ⟨j2, hj2, many', len', asks', brings', uses', days', tries', row', first', q1, q2, q3⟩ := ih dep a b u d (t0 + 1) L1 pre many1 len1 asks1 brings1 uses1 days1 tries1 row1 first1 (by omega) h2 h3 h4 h5 h6 h7 h8 h8b h9 g3 g4 g5 g6 g7 (fun i h => by rw [(g8 i (by omega)).2.2.2.2.2]; exact hrow i h) g1 (by omega)
      refine ⟨j1 + j2, by omega, many', len', asks', brings', uses', days', tries', row', first', fun i hi => ?_, q2, fun fuel => ?_⟩
      · obtain ⟨p1, p2, p3, p4, p5, p6⟩ := q1 i hi
        obtain ⟨r1, r2, r3, r4, r5, r6⟩ := g8 i hi
        exact ⟨p1.trans r1, p2.trans r2, p3.trans r3, p4.trans r4, p5.trans r5, p6.trans r6⟩
      · rw [Nat.add_assoc, geq, q3]
    by_cases hstop : one = true ∧ L ≠ []
    · -- one is enough, and there is one
      obtain ⟨ho, hLn⟩ := hstop
      have e : ∀ R, addF one L R = L := fun R => by unfold addF; rw [if_pos ho, if_neg hLn]
      rw [e, e]
      refine ⟨1, by omega, many, len, asks, brings, uses, days, upd tries dep (nI (t0 + 1)), row, first, fun i hi => ⟨rfl, rfl, rfl, rfl, pk_un (by omega), rfl⟩, hFd, fun fuel => ?_⟩
      rw [Nat.add_comm 1 fuel, lp_X6_walks_89, if_neg (nI_pos (by omega)), if_pos (j_in (by omega) (by decide)), j_clamp (by omega), e5, nI_1, h0]
      simp only [Option.bind_some]
      rw [if_neg (nI_ge htT (by omega)), if_neg (by rw [ho]; decide), if_neg (fun z => hLn ((hFd.zero (by omega)).mp z)), ← Int32.sub_eq_add_neg]
    · have hgo : (if one then (1 : Int32) else 0) = 0 ∨ many ≤ 0 := by
        cases ho : one with
        | false => exact Or.inl rfl
        | true =>
          refine Or.inr ((hFd.zero (by omega)).mpr ?_)
          exact Classical.byContradiction fun q => hstop ⟨ho, q⟩
      -- one turn of the loop
      have turn : ∀ fuel, lp_X6_walks_89 N (if bs then 1 else 0) (if one then 1 else 0) (nI n) told s seen (1 + fuel) (nI dep) many len asks brings uses days tries row first = (if (sd a b).testBit t0 = true then (match hf τ t0 (sd F u) d with
          | none => lp_X6_walks_89 N (if bs then 1 else 0) (if one then 1 else 0) (nI n) told s seen fuel (nI dep) many len asks brings uses days (upd tries dep (nI (t0 + 1))) row first
          | some x => if τ 3 < d + rdy τ t0 then lp_X6_walks_89 N (if bs then 1 else 0) (if one then 1 else 0) (nI n) told s seen fuel (nI dep) many len asks brings uses days (upd tries dep (nI (t0 + 1))) row first
            else if sd (a ||| 2 ^ nx τ t0) (b ||| 2 ^ t0) = 0 then (m_X6_counts N (nI n) many len seen (upd row dep (nI t0)) first (nI (dep + 1)) (if bs then 1 else 0)).bind fun r => lp_X6_walks_89 N (if bs then 1 else 0) (if one then 1 else 0) (nI n) told s seen fuel (nI dep) r.1 r.2.1 (upd asks (dep + 1) (nI (a ||| 2 ^ nx τ t0))) (upd brings (dep + 1) (nI (b ||| 2 ^ t0))) (upd uses (dep + 1) (nI (u ||| x))) (upd days (dep + 1) (nI (d + rdy τ t0))) (upd (upd tries dep (nI (t0 + 1))) (dep + 1) 0) (upd row dep (nI t0)) r.2.2
            else lp_X6_walks_89 N (if bs then 1 else 0) (if one then 1 else 0) (nI n) told s seen fuel (nI (dep + 1)) many len (upd asks (dep + 1) (nI (a ||| 2 ^ nx τ t0))) (upd brings (dep + 1) (nI (b ||| 2 ^ t0))) (upd uses (dep + 1) (nI (u ||| x))) (upd days (dep + 1) (nI (d + rdy τ t0))) (upd (upd tries dep (nI (t0 + 1))) (dep + 1) 0) (upd row dep (nI t0)) first)
          else lp_X6_walks_89 N (if bs then 1 else 0) (if one then 1 else 0) (nI n) told s seen fuel (nI dep) many len asks brings uses days (upd tries dep (nI (t0 + 1))) row first) := by
        intro fuel
        rw [Nat.add_comm 1 fuel, lp_X6_walks_89, if_neg (nI_pos (by omega)), if_pos (j_in (by omega) (by decide)), j_clamp (by omega), e5, nI_1, h0]
        simp only [Option.bind_some]
        rw [if_neg (nI_ge htT (by omega)), ite_same hgo, e1, e2, j_sd, j_bt (Nat.lt_of_le_of_lt (sd_le a b) (by omega)) (by omega)]
        by_cases ho : (sd a b).testBit t0 = true
        · rw [if_pos (by rw [if_pos ho]; rfl), if_pos ho, hs2, e3, j_sd, e4, xX6_helpFor hw ht hN htT (sd_lt hF) (by omega), Option.bind_some, xX6_daysOf ht (by omega), Option.bind_some, nI_add]
          cases hx : hf τ t0 (sd F u) d with
          | none => rw [if_pos (by decide)]
          | some x =>
            have hx7 := (hf_lt (sd_lt (n := 7) hF7) hx).1
            have hr9 := rdy_le hw htT
            simp only
            rw [if_neg (show ¬ oM (some x) < 0 from nI_pos (by omega)), h3']
            by_cases hd : τ 3 < d + rdy τ t0
            · rw [if_pos (nI_lt hd (by omega)), if_pos hd]
            · rw [if_neg (nI_nlt (by omega) (by omega)), if_neg hd, if_pos (j_in (by omega) (by decide)), nI_1, show nI (dep + 1) - (1 : Int32) = nI dep from nI_pred dep, if_pos (j_in (by omega) (by decide)), j_a29, if_pos (j_in (by omega) (by decide)), j_clamp (n := 29 + t0) (by omega), (ht (29 + t0) (by omega)).1]
              have hnx := hw.nx t0 htT
              rw [j_bit (nx τ t0) (by omega), if_pos (j_in (by omega) (by decide)), j_clamp (n := dep) (by omega), j_clamp (n := dep + 1) (by omega), e1, e2, e3, j_or, j_bit t0 (by omega), j_or]
              rw [show nI u ||| oM (some x) = nI (u ||| x) from j_or u x, pk_us, pk_us, j_sd]
              have hsl : sd (a ||| 2 ^ nx τ t0) (b ||| 2 ^ t0) < 2 ^ τ 0 := sd_lt (or_lt h4 (p2_lt hnx))
              have hz : (nI (sd (a ||| 2 ^ nx τ t0) (b ||| 2 ^ t0)) = 0) ↔ sd (a ||| 2 ^ nx τ t0) (b ||| 2 ^ t0) = 0 := nI_eq (b := 0) (by have := hw.p8 hsl; omega) (by decide)
              have hback : nI (dep + 1) + (-1) = nI dep := pk_m1 dep
              by_cases hzz : sd (a ||| 2 ^ nx τ t0) (b ||| 2 ^ t0) = 0
              · rw [if_pos (hz.mpr hzz), if_pos hzz, hback]
              · rw [if_neg (fun q => hzz (hz.mp q)), if_neg hzz]
        · rw [if_neg (by rw [if_neg ho]; decide), if_neg ho]
      have skip : br τ F tt2 (rl τ F tt2 0 k) dep a b u d t0 = [] → (∀ fuel, lp_X6_walks_89 N (if bs then 1 else 0) (if one then 1 else 0) (nI n) told s seen (1 + fuel) (nI dep) many len asks brings uses days tries row first = lp_X6_walks_89 N (if bs then 1 else 0) (if one then 1 else 0) (nI n) told s seen fuel (nI dep) many len asks brings uses days (upd tries dep (nI (t0 + 1))) row first) → ∃ j, j ≤ (1 + bd k) + (m * (1 + bd k) + 1) ∧ ∃ (many' len' : Int32) (asks' brings' uses' days' tries' row' first' : Nat → Int32), (∀ i, i < dep → asks' i = asks i ∧ brings' i = brings i ∧ uses' i = uses i ∧ days' i = days i ∧ tries' i = tries i ∧ row' i = row i) ∧ Fnd (addF one (addF one L (((br τ F tt2 (rl τ F tt2 0 k) dep a b u d t0).map (pre ++ ·)).filter (fun ρ => !bs || snk σ ρ n))) (((fl (br τ F tt2 (rl τ F tt2 0 k) dep a b u d) (t0 + 1) m).map (pre ++ ·)).filter (fun ρ => !bs || snk σ ρ n))) many' len' first' ∧ ∀ fuel, lp_X6_walks_89 N (if bs then 1 else 0) (if one then 1 else 0) (nI n) told s seen (j + fuel) (nI dep) many len asks brings uses days tries row first = lp_X6_walks_89 N (if bs then 1 else 0) (if one then 1 else 0) (nI n) told s seen fuel (nI dep - 1) many' len' asks' brings' uses' days' tries' row' first' := by
        intro hbr hgo1
        rw [hbr, List.map_nil, List.filter_nil, addF_nil]
        exact rest L many len asks brings uses days (upd tries dep (nI (t0 + 1))) row first hFd (Nat.le_add_right _ _) e1 e2 e3 e4 pk_us (fun i hi => ⟨rfl, rfl, rfl, rfl, pk_un (by omega), rfl⟩) 1 (by omega) hgo1
      by_cases ho : (sd a b).testBit t0 = true
      · cases hx : hf τ t0 (sd F u) d with
        | none => exact skip (br_off (Or.inr (Or.inl hx))) fun fuel => by rw [turn, if_pos ho, hx]
        | some x =>
          by_cases hd : τ 3 < d + rdy τ t0
          · exact skip (br_off (Or.inr (Or.inr hd))) fun fuel => by rw [turn, if_pos ho, hx]; simp only; rw [if_pos hd]
          · have hnx := hw.nx t0 htT
            have hbr := br_on (g := rl τ F tt2 0 k) (r := dep) ho hx (by omega)
            have hx7 := (hf_lt (sd_lt (n := 7) hF7) hx).1
            have hbt : b.testBit t0 = false := by
              rw [sd_tb _ _ (by omega), Bool.and_eq_true] at ho
              simpa using ho.2
            have hpb : pop (b ||| 2 ^ t0) (τ 0) = pop b (τ 0) + 1 := pop_add hbt htT
            have hpre : (pre ++ [t0]).length = dep + 1 := by rw [List.length_append, h8]; rfl
            have hpre8 : ∀ y, y ∈ pre ++ [t0] → y < 8 := fun y hy => by
              rcases List.mem_append.mp hy with q | q
              · exact h8b y q
              · rw [List.mem_singleton] at q; omega
            have hrow2 : ∀ (i : Nat) (h : i < (pre ++ [t0]).length), upd row dep (nI t0) i = nI (pre ++ [t0])[i] := fun i h => by
              by_cases q : i < pre.length
              · rw [pk_un (by omega), hrow i q, List.getElem_append_left q]
              · have qi : i = dep := by omega
                rw [List.getElem_append_right (by omega)]
                subst qi
                rw [pk_us]
                simp
            by_cases hz : sd (a ||| 2 ^ nx τ t0) (b ||| 2 ^ t0) = 0
            · -- a row is whole
              have hbr1 : br τ F tt2 (rl τ F tt2 0 k) dep a b u d t0 = [[t0]] := by rw [hbr, rl_open _ _ _ _ _ _ hz]; rfl
              rw [hbr1] at hlen ⊢
              have hLl : L.length < 2 ^ 30 := by omega
              obtain ⟨m', l', f', c1, c2⟩ := xX6_counts (σ := σ) (n := n) hN hsn (ρ := pre ++ [t0]) (by omega) hpre8 hrow2 bs hFd hLl
              rw [hpre] at c1
              have hadd : Fnd (addF one L (([[t0]].map (pre ++ ·)).filter (fun ρ => !bs || snk σ ρ n))) m' l' f' := by
                have e : addF one L (([[t0]].map (pre ++ ·)).filter (fun ρ => !bs || snk σ ρ n)) = L ++ [pre ++ [t0]].filter (fun ρ => !bs || snk σ ρ n) := by
                  unfold addF
                  by_cases q : one = true
                  · have hLe : L = [] := Classical.byContradiction fun w => hstop ⟨q, w⟩
                    rw [if_pos q, if_pos hLe, hLe]
                    show (List.filter _ [pre ++ [t0]]).take 1 = [] ++ List.filter _ [pre ++ [t0]]
                    rw [List.nil_append, List.take_of_length_le]
                    exact Nat.le_trans (List.length_filter_le _ _) (Nat.le_refl 1)
                  · rw [if_neg q]; rfl
                rw [e]; exact c2
              refine rest _ m' l' (upd asks (dep + 1) (nI (a ||| 2 ^ nx τ t0))) (upd brings (dep + 1) (nI (b ||| 2 ^ t0))) (upd uses (dep + 1) (nI (u ||| x))) (upd days (dep + 1) (nI (d + rdy τ t0))) (upd (upd tries dep (nI (t0 + 1))) (dep + 1) 0) (upd row dep (nI t0)) f' hadd ?_ ?_ ?_ ?_ ?_ ?_ ?_ 1 (by omega) ?_
              · refine Nat.le_trans addF_len (Nat.add_le_add_left ?_ _)
                rw [hbr1]
                refine Nat.le_trans (List.length_filter_le _ _) ?_
                rw [List.length_map]; exact Nat.le_refl _
              · rw [pk_un (by omega)]; exact e1
              · rw [pk_un (by omega)]; exact e2
              · rw [pk_un (by omega)]; exact e3
              · rw [pk_un (by omega)]; exact e4
              · rw [pk_un (by omega), pk_us]
              · intro i hi
                exact ⟨pk_un (by omega), pk_un (by omega), pk_un (by omega), pk_un (by omega), by rw [pk_un (by omega), pk_un (by omega)], pk_un (by omega)⟩
              · intro fuel
                rw [turn, if_pos ho, hx]
                simp only
                rw [if_neg hd, if_pos hz, c1, Option.bind_some]
            · -- one ride deeper
              obtain ⟨k', hk'⟩ : ∃ k', k = k' + 1 := by
                refine ⟨k - 1, ?_⟩
                obtain ⟨t, htb⟩ := sd_ex hz
                have ha2 : a ||| 2 ^ nx τ t0 < 2 ^ τ 0 := or_lt h4 (p2_lt hnx)
                rw [sd_tb _ _ (by have := hw.p8 ha2; omega), Bool.and_eq_true] at htb
                have htT2 : t < τ 0 := by
                  rcases Nat.lt_or_ge t (τ 0) with q | q
                  · exact q
                  · rw [tb_hi ha2 q] at htb; cases htb.1
                have := pop_lt (m := b ||| 2 ^ t0) (n := τ 0) (by simpa using htb.2) htT2
                omega
              subst hk'
              have hrl : rl τ F tt2 0 (k' + 1) (dep + 1) (a ||| 2 ^ nx τ t0) (b ||| 2 ^ t0) (u ||| x) (d + rdy τ t0) = fl (br τ F tt2 (rl τ F tt2 0 k') (dep + 1) (a ||| 2 ^ nx τ t0) (b ||| 2 ^ t0) (u ||| x) (d + rdy τ t0)) 0 (τ 0) := by rw [rl, if_neg hz]
              rw [hbr, hrl] at hlen
              rw [List.length_map] at hlen
              obtain ⟨j1, hj1, many1, len1, asks1, brings1, uses1, days1, tries1, row1, first1, q1, q2, q3⟩ := ihk k' rfl (τ 0) (dep + 1) (a ||| 2 ^ nx τ t0) (b ||| 2 ^ t0) (u ||| x) (d + rdy τ t0) 0 L (pre ++ [t0]) many len (upd asks (dep + 1) (nI (a ||| 2 ^ nx τ t0))) (upd brings (dep + 1) (nI (b ||| 2 ^ t0))) (upd uses (dep + 1) (nI (u ||| x))) (upd days (dep + 1) (nI (d + rdy τ t0))) (upd (upd tries dep (nI (t0 + 1))) (dep + 1) 0) (upd row dep (nI t0)) first (by omega) (by omega) hz (or_lt h4 (p2_lt hnx)) (or_lt h5 (p2_lt htT)) (or_lt (n := 7) h6 hx7) (by omega) hpre hpre8 (by omega) pk_us pk_us pk_us pk_us pk_us hrow2 hFd (by omega)
              have hrows : ((br τ F tt2 (rl τ F tt2 0 (k' + 1)) dep a b u d t0).map (pre ++ ·)) = (fl (br τ F tt2 (rl τ F tt2 0 k') (dep + 1) (a ||| 2 ^ nx τ t0) (b ||| 2 ^ t0) (u ||| x) (d + rdy τ t0)) 0 (τ 0)).map (pre ++ [t0] ++ ·) := by
                rw [hbr, hrl, List.map_map]
                refine List.map_congr_left fun q _ => ?_
                show pre ++ t0 :: q = pre ++ [t0] ++ q
                rw [List.append_assoc]; rfl
              rw [hrows]
              have hbd : bd (k' + 1) = 8 * (1 + bd k') + 1 := rfl
              have hmulT : τ 0 * (1 + bd k') ≤ 8 * (1 + bd k') := Nat.mul_le_mul_right _ hT8
              refine rest _ many1 len1 asks1 brings1 uses1 days1 tries1 row1 first1 q2 ?_ ?_ ?_ ?_ ?_ ?_ ?_ (1 + j1) (by omega) ?_
              · refine Nat.le_trans addF_len (Nat.add_le_add_left ?_ _)
                rw [hbr, hrl, List.length_map]
                refine Nat.le_trans (List.length_filter_le _ _) ?_
                rw [List.length_map]; exact Nat.le_refl _
              · rw [(q1 dep (by omega)).1, pk_un (by omega)]; exact e1
              · rw [(q1 dep (by omega)).2.1, pk_un (by omega)]; exact e2
              · rw [(q1 dep (by omega)).2.2.1, pk_un (by omega)]; exact e3
              · rw [(q1 dep (by omega)).2.2.2.1, pk_un (by omega)]; exact e4
              · rw [(q1 dep (by omega)).2.2.2.2.1, pk_un (by omega), pk_us]
              · intro i hi
                obtain ⟨p1, p2, p3, p4, p5, p6⟩ := q1 i (by omega)
                exact ⟨p1.trans (pk_un (by omega)), p2.trans (pk_un (by omega)), p3.trans (pk_un (by omega)), p4.trans (pk_un (by omega)), p5.trans ((pk_un (by omega)).trans (pk_un (by omega))), p6.trans (pk_un (by omega))⟩
              · intro fuel
                rw [Nat.add_assoc, turn, if_pos ho, hx]
                simp only
                rw [if_neg hd, if_neg hz, q3, show nI (dep + 1) - 1 = nI dep from nI_pred dep]
      · have ho' : (sd a b).testBit t0 = false := by simpa using ho
        exact skip (br_off (Or.inl ho')) fun fuel => by rw [turn, if_neg ho]
theorem dfs {τ : Td} (hw : Wf τ) {told s seen : Nat → Int32} (ht : ToR τ told) {F : Nat} (hs2 : s 2 = nI F) (hF : F < 2 ^ τ 1) (bs one : Bool) {σ : Nat → Nat × Nat} {n N : Nat} (hN : 100 ≤ N) (hsn : SnR σ n seen) : ∀ k, Dfs τ F bs one σ n N told s seen k := by
  intro k
  induction k with
  | zero => exact dfs_step hw ht hs2 hF bs one hN hsn 0 fun k' h => by omega
  | succ k ih =>
    refine dfs_step hw ht hs2 hF bs one hN hsn (k + 1) fun k' h => ?_
    have e : k = k' := by omega
    subst e
    exact ih
