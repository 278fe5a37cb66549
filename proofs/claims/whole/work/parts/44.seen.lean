/-! what is seen; tasks and helpers that are there; counting bits -/
theorem n10 : ¬ (1 : Int32) = 0 := by decide
/-- the order of Int32 on naturals that may be one too small -/
theorem nI_le_pred (x : Int32) {n : Nat} (hn : n < 2 ^ 30) (h0 : ¬ x < 0) : (nI n - 1 < x) ↔ nI n ≤ x := by
  cases n with
  | zero =>
    constructor
    · intro _
      obtain ⟨j, hj, rfl⟩ := nI_of h0
      exact nI_le (Nat.zero_le j) hj
    · intro _
      obtain ⟨j, hj, rfl⟩ := nI_of h0
      show (-1 : Int32) < nI j
      rw [Int32.lt_iff_toInt_lt, nI_toInt hj]
      have : (-1 : Int32).toInt = -1 := by decide
      omega
  | succ n =>
    rw [nI_pred n]
    obtain ⟨j, hj, rfl⟩ := nI_of h0
    rw [nI_ltI (by omega) hj, nI_leI (by omega) hj]
    omega
theorem there (x : Int32) {n : Nat} (hn : n < 2 ^ 30) : (m_X0_hasTask (nI n) x = some 0 ∧ (m_X6_in x 0 (nI n - 1)).bind (fun r2 => if isB r2 then some r2 else none) = some 0) ∨ ∃ t, t < n ∧ x = nI t ∧ m_X0_hasTask (nI n) x = some 1 ∧ (m_X6_in x 0 (nI n - 1)).bind (fun r2 => if isB r2 then some r2 else none) = some 1 := by
  unfold m_X0_hasTask m_X6_in
  rcases j_cases x (n := n) (by omega) with h | h | ⟨t, ht, rfl⟩
  · left
    rw [if_pos h, if_pos h]
    exact ⟨rfl, rfl⟩
  · left
    have h0 : ¬ x < 0 := fun z => by
      have := Int32.lt_of_le_of_lt h z
      exact nI_pos (by omega) this
    rw [if_neg h0, if_pos h, if_neg h0, if_pos ((nI_le_pred x hn h0).mpr h)]
    exact ⟨rfl, rfl⟩
  · right
    have h0 : ¬ nI t < 0 := nI_pos (by omega)
    have h1 : ¬ nI n ≤ nI t := nI_ge ht (by omega)
    refine ⟨t, ht, rfl, ?_, ?_⟩
    · rw [if_neg h0, if_neg h1]
    · rw [if_neg h0, if_neg (fun z => h1 ((nI_le_pred _ hn h0).mp z))]
      rfl
theorem task_cases {τ : Td} (hw : Wf τ) {told : Nat → Int32} (ht : ToR τ told) (x : Int32) : (m_X0_hasTask (nI (τ 0)) x = some 0 ∧ m_X6_isTask told x = some 0) ∨ ∃ t, t < τ 0 ∧ x = nI t ∧ m_X0_hasTask (nI (τ 0)) x = some 1 ∧ m_X6_isTask told x = some 1 := by
  unfold m_X6_isTask
  rw [(ht 0 (by decide)).1]
  exact there x (by have := hw.1.2; omega)
theorem hasHelper_eq (n x : Int32) : m_X0_hasHelper n x = m_X0_hasTask n x := rfl
theorem helper_cases {τ : Td} (hw : Wf τ) {told : Nat → Int32} (ht : ToR τ told) (x : Int32) : (m_X0_hasHelper (nI (τ 1)) x = some 0 ∧ m_X6_isHelper told x = some 0) ∨ ∃ h, h < τ 1 ∧ x = nI h ∧ m_X0_hasHelper (nI (τ 1)) x = some 1 ∧ m_X6_isHelper told x = some 1 := by
  unfold m_X6_isHelper
  rw [(ht 1 (by decide)).1]
  exact there x (by have := hw.2.1; omega)
/-- bits counted -/
theorem xX6_ones_loop {x : Nat} (hx : x < 2 ^ 31) : ∀ (m k fuel : Nat), k + m = 8 → m < fuel → lp_X6_ones_4 (nI x) fuel (nI (pop x k)) (nI k) = some (nI (pop x 8)) := by
  intro m
  induction m with
  | zero =>
    intro k fuel hk hfu
    obtain ⟨n, rfl⟩ : ∃ n, fuel = n + 1 := ⟨fuel - 1, by omega⟩
    have e : k = 8 := by omega
    subst e
    rw [lp_X6_ones_4, if_pos (show (8 : Int32) ≤ nI _ from nI_le (a := 8) (by omega) (by omega))]
  | succ m ih =>
    intro k fuel hk hfu
    obtain ⟨n, rfl⟩ : ∃ n, fuel = n + 1 := ⟨fuel - 1, by omega⟩
    have ih1 := ih (k + 1) n (by omega) (by omega)
    rw [lp_X6_ones_4, if_neg (show ¬ (8 : Int32) ≤ nI _ from nI_ge (b := 8) (by omega) (by decide)), j_bt hx (by omega), nI_add, Option.bind_some, nI_1]
    exact ih1
theorem xX6_ones {x N : Nat} (hN : 100 ≤ N) (hx : x < 2 ^ 31) : m_X6_ones N (nI x) = some (nI (pop x 8)) := by
  unfold m_X6_ones
  have h := xX6_ones_loop hx 8 0 N (by omega) (by omega)
  have h2 : lp_X6_ones_4 (nI x) N (0 : Int32) (0 : Int32) = some (nI (pop x 8)) := h
  rw [h2]
  rfl
/-- what is seen, task and place: what it leaves, and the last place -/
def okS (σ : Nat → Nat × Nat) : Nat → Nat → Nat → Bool
  | 0, _, _ => true
  | k + 1, t, p => okS σ k t p && (!decide ((σ k).2 = p) || decide ((σ k).1 = t))
def lastS (σ : Nat → Nat × Nat) : Nat → Nat
  | 0 => 0
  | k + 1 => max (lastS σ k) (σ k).2
theorem okr_and (A B : Nat → Nat → Bool) (l m : Nat) : ∀ (ρ : List Nat) (r : Nat), okr (fun t p => A t p && B t p) (max l m) r ρ = (okr A l r ρ && okr B m r ρ) := by
  intro ρ
  induction ρ with
  | nil =>
    intro r
    show decide (max l m ≤ r) = (decide (l ≤ r) && decide (m ≤ r))
    by_cases h1 : l ≤ r
    · by_cases h2 : m ≤ r
      · rw [decide_eq_true h1, decide_eq_true h2, decide_eq_true (by omega)]; rfl
      · rw [decide_eq_false h2, decide_eq_false (by omega), Bool.and_false]
    · rw [decide_eq_false h1, decide_eq_false (by omega), Bool.false_and]
  | cons t ρ ih =>
    intro r
    show ((A t (r + 1) && B t (r + 1)) && okr _ _ (r + 1) ρ) = ((A t (r + 1) && okr A l (r + 1) ρ) && (B t (r + 1) && okr B m (r + 1) ρ))
    rw [ih]
    cases A t (r + 1) <;> cases B t (r + 1) <;> cases okr A l (r + 1) ρ <;> rfl
theorem okr_past (x q : Nat) : ∀ (ρ : List Nat) (r : Nat), q ≤ r → okr (fun t p => !decide (q = p) || decide (x = t)) q r ρ = true := by
  intro ρ
  induction ρ with
  | nil => intro r h; exact decide_eq_true h
  | cons t ρ ih =>
    intro r h
    show ((!decide (q = r + 1) || decide (x = t)) && okr _ _ (r + 1) ρ) = true
    rw [ih (r + 1) (by omega), decide_eq_false (by omega)]; rfl
theorem okr_one (x q : Nat) : ∀ (ρ : List Nat) (r : Nat), r < q → okr (fun t p => !decide (q = p) || decide (x = t)) q r ρ = decide (ρ[q - 1 - r]? = some x) := by
  intro ρ
  induction ρ with
  | nil =>
    intro r h
    show decide (q ≤ r) = _
    rw [decide_eq_false (by omega)]
    simp
  | cons t ρ ih =>
    intro r h
    show ((!decide (q = r + 1) || decide (x = t)) && okr _ _ (r + 1) ρ) = _
    by_cases e : q = r + 1
    · rw [okr_past x q ρ (r + 1) (by omega), decide_eq_true e, show q - 1 - r = 0 by omega]
      simp [eq_comm]
    · rw [decide_eq_false e, ih (r + 1) (by omega), show q - 1 - r = (q - 1 - (r + 1)) + 1 by omega]
      simp
theorem okr_all : ∀ (ρ : List Nat) (r : Nat), okr (fun _ _ => true) 0 r ρ = true := by
  intro ρ
  induction ρ with
  | nil => intro r; exact decide_eq_true (Nat.zero_le r)
  | cons t ρ ih => intro r; show (true && okr _ _ (r + 1) ρ) = true; rw [ih]; rfl
theorem snk_okr (σ : Nat → Nat × Nat) : ∀ n, (∀ k, k < n → 1 ≤ (σ k).2) → ∀ ρ, snk σ ρ n = okr (okS σ n) (lastS σ n) 0 ρ := by
  intro n
  induction n with
  | zero => intro _ ρ; exact (okr_all ρ 0).symm
  | succ n ih =>
    intro h ρ
    have e : okr (okS σ (n + 1)) (lastS σ (n + 1)) 0 ρ = (okr (okS σ n) (lastS σ n) 0 ρ && okr (fun t p => !decide ((σ n).2 = p) || decide ((σ n).1 = t)) (σ n).2 0 ρ) := okr_and _ _ _ _ ρ 0
    rw [e, ← ih (fun k hk => h k (by omega)) ρ, okr_one (σ n).1 (σ n).2 ρ 0 (h n (by omega))]
    rfl
theorem Rw_seen {τ : Td} {F a b u d : Nat} {σ : Nat → Nat × Nat} {n : Nat} (h : ∀ k, k < n → 1 ≤ (σ k).2) : (Rw τ F tt2 0 a b u d).filter (fun ρ => !true || snk σ ρ n) = Rw τ F (okS σ n) (lastS σ n) a b u d := by
  unfold Rw
  split
  · rfl
  · rw [rl_filter (ok := okS σ n) (last := lastS σ n)]
    refine List.filter_congr fun ρ _ => ?_
    rw [snk_okr σ n h ρ]
    rfl
theorem lastS_le {σ : Nat → Nat × Nat} : ∀ {n : Nat}, (∀ k, k < n → (σ k).2 ≤ 8) → lastS σ n ≤ 8
  | 0, _ => Nat.zero_le 8
  | n + 1, h => by
    have h1 := lastS_le (n := n) fun k hk => h k (by omega)
    have h2 := h n (by omega)
    rw [lastS]
    omega
/-- class and reference have seen the same: n of them -/
def SeI (σ : Nat → Nat × Nat) (n : Nat) (size last : Int32) (left : Nat → Int32) (sights : Int32) (seen : Nat → Int32) : Prop := size = nI n ∧ sights = nI n ∧ SnR σ n seen ∧ last = nI (lastS σ n) ∧ Lok left (okS σ n)
theorem xX3_clear_loop : ∀ (m k fuel : Nat) (left : Nat → Int32), k + m = 8 → m < fuel → (∀ i, i < k → left i = nI 255) → ∃ left', lp_X3_clear_12 fuel (nI k) left = some left' ∧ ∀ i, i < 8 → left' i = nI 255 := by
  intro m
  induction m with
  | zero =>
    intro k fuel left hk hfu h
    obtain ⟨n, rfl⟩ : ∃ n, fuel = n + 1 := ⟨fuel - 1, by omega⟩
    refine ⟨left, ?_, fun i hi => h i (by omega)⟩
    rw [lp_X3_clear_12, if_pos (show (8 : Int32) ≤ nI _ from nI_le (a := 8) (by omega) (by omega))]
  | succ m ih =>
    intro k fuel left hk hfu h
    obtain ⟨n, rfl⟩ : ∃ n, fuel = n + 1 := ⟨fuel - 1, by omega⟩
    obtain ⟨left', h1, h2⟩ := ih (k + 1) n (upd left k (255 : Int32)) (by omega) (by omega) (fun i hi => by
      by_cases q : i = k
      · subst q; rw [pk_us]; rfl
      · rw [pk_un q]; exact h i (by omega))
    refine ⟨left', ?_, h2⟩
    have e : m_X5_setNumber 8 left (nI k) (255 : Int32) = some (upd left k (255 : Int32)) := by
      unfold m_X5_setNumber
      rw [if_neg (nI_pos (by omega)), if_neg (show ¬ Int32.ofNat 8 ≤ nI k from nI_ge (b := 8) (by omega) (by decide)), if_pos (j_in (by omega) (by decide)), j_clamp (by omega)]
    rw [lp_X3_clear_12, if_neg (show ¬ (8 : Int32) ≤ nI _ from nI_ge (b := 8) (by omega) (by decide)), e, Option.bind_some, nI_1]
    exact h1
theorem xX3_clear {N : Nat} (hN : 100 ≤ N) (left : Nat → Int32) : ∃ left', m_X3_clear N left = some (0, 0, left') ∧ ∀ i, i < 8 → left' i = nI 255 := by
  obtain ⟨left', h1, h2⟩ := xX3_clear_loop 8 0 N left (by omega) (by omega) (fun i hi => by omega)
  refine ⟨left', ?_, h2⟩
  unfold m_X3_clear
  have e : lp_X3_clear_12 N (0 : Int32) left = some left' := h1
  rw [e]
  rfl
theorem SeI.zero {σ : Nat → Nat × Nat} {left seen : Nat → Int32} (h : ∀ i, i < 8 → left i = nI 255) : SeI σ 0 0 0 left 0 seen := ⟨rfl, rfl, ⟨by omega, fun k hk => by omega⟩, rfl, lok_all h⟩
theorem op_forget {σ : Nat → Nat × Nat} {n N : Nat} (hN : 100 ≤ N) {size last sights : Int32} {left seen : Nat → Int32} (h : SeI σ n size last left sights seen) : ∃ r left', m_X5_forget N size left = some (r, 0, 0, left') ∧ m_X6_forget sights = some (r, 0) ∧ SeI σ 0 0 0 left' 0 seen := by
  obtain ⟨left', h1, h2⟩ := xX3_clear hN left
  refine ⟨nI n, left', ?_, ?_, SeI.zero h2⟩
  · unfold m_X5_forget
    rw [h1, Option.bind_some, h.1]
  · unfold m_X6_forget
    rw [h.2.1]
theorem snr_add {σ : Nat → Nat × Nat} {n : Nat} {seen : Nat → Int32} (h : SnR σ n seen) (hn : n < 6) {t p : Nat} (ht : t < 8) (hp1 : 1 ≤ p) (hp8 : p ≤ 8) : SnR (fun k => if k = n then (t, p) else σ k) (n + 1) (upd seen n (nI (10 * t + p))) := by
  refine ⟨by omega, fun k hk => ?_⟩
  by_cases q : k = n
  · subst q
    simp only [if_true]
    rw [pk_us]
    exact ⟨rfl, ht, hp1, hp8⟩
  · simp only [if_neg q]
    rw [pk_un q]
    exact h.2 k (by omega)
theorem okS_ext {σ σ' : Nat → Nat × Nat} : ∀ {n : Nat}, (∀ k, k < n → σ k = σ' k) → okS σ n = okS σ' n
  | 0, _ => rfl
  | n + 1, h => by
    funext t p
    rw [okS, okS, okS_ext (n := n) fun k hk => h k (by omega), h n (by omega)]
theorem lastS_ext {σ σ' : Nat → Nat × Nat} : ∀ {n : Nat}, (∀ k, k < n → σ k = σ' k) → lastS σ n = lastS σ' n
  | 0, _ => rfl
  | n + 1, h => by rw [lastS, lastS, lastS_ext (n := n) fun k hk => h k (by omega), h n (by omega)]
theorem op_see {τ : Td} (hw : Wf τ) {told : Nat → Int32} (hto : ToR τ told) {σ : Nat → Nat × Nat} {n : Nat} {size last sights : Int32} {left seen : Nat → Int32} (h : SeI σ n size last left sights seen) (x y : Int32) : ∃ r size' last' left' sights' seen' σ' n', m_X5_see (nI (τ 0)) size last left x y = some (r, size', last', left') ∧ m_X6_see sights told seen x y = some (r, sights', seen') ∧ SeI σ' n' size' last' left' sights' seen' := by
  have hT8 := hw.1.2
  obtain ⟨rfl, rfl, hsn, rfl, hL⟩ := h
  have same : SeI σ n (nI n) (nI (lastS σ n)) left (nI n) seen := ⟨rfl, rfl, hsn, rfl, hL⟩
  unfold m_X5_see m_X6_see
  rcases task_cases hw hto x with ⟨e1, e2⟩ | ⟨t, ht, rfl, e1, e2⟩
  · rw [e1, e2]
    exact ⟨_, _, _, _, _, _, σ, n, rfl, rfl, same⟩
  rw [e1, e2, Option.bind_some, Option.bind_some, if_neg n10, if_neg n10]
  unfold m_X6_in
  by_cases y1 : y < 1
  · rw [if_pos y1, if_pos y1]
    exact ⟨_, _, _, _, _, _, σ, n, rfl, rfl, same⟩
  rw [if_neg y1, if_neg y1]
  by_cases y8 : y ≤ 8
  · have y8' : ¬ (8 : Int32) < y := Int32.not_lt.mpr y8
    rw [if_pos y8, if_neg y8', Option.bind_some, if_neg n10]
    have y0 : ¬ y < 0 := fun z => y1 (Int32.lt_trans z (by decide))
    obtain ⟨p, hp31, rfl⟩ := nI_of y0
    have hp1 : 1 ≤ p := by
      rcases Nat.lt_or_ge p 1 with q | q
      · exact absurd (show nI p < (1 : Int32) from nI_lt (b := 1) q (by decide)) y1
      · exact q
    have hp8 : p ≤ 8 := (nI_leI (b := 8) hp31 (by decide)).mp y8
    have h6 := hsn.1
    by_cases hn6 : n < 6
    · rw [if_pos (show nI n < (6 : Int32) from nI_lt (b := 6) hn6 (by decide)), if_neg (show ¬ nI n = (6 : Int32) from fun z => by have := (nI_eq (b := 6) (by omega) (by decide)).mp z; omega), if_pos (j_in hn6 (by decide)), j_clamp (by omega)]
      obtain ⟨z, hz⟩ : ∃ z, p = z + 1 := ⟨p - 1, by omega⟩
      subst hz
      obtain ⟨w, hw8, hl, hok⟩ := hL z (by omega)
      have hadd : m_X3_add (nI n) (nI (lastS σ n)) left (nI t) (nI (z + 1)) = some (nI (n + 1), nI (max (lastS σ n) (z + 1)), upd left z (nI (w &&& 2 ^ t))) := by
        unfold m_X3_add
        have hl8 : lastS σ n ≤ 8 := lastS_le fun k hk => (hsn.2 k hk).2.2.2
        have eset : m_X5_setNumber 8 left (nI z) (nI (w &&& 2 ^ t)) = some (upd left z (nI (w &&& 2 ^ t))) := by
          unfold m_X5_setNumber
          rw [if_neg (nI_pos (by omega)), if_neg (show ¬ Int32.ofNat 8 ≤ nI z from nI_ge (b := 8) (by omega) (by decide)), if_pos (j_in (by omega) (by decide)), j_clamp (by omega)]
        rw [nI_pred, xX5_numberAt (n := 8) (by omega) (by decide), Option.bind_some, xX5_bit (by omega), Option.bind_some, hl, j_and, eset, Option.bind_some, Option.bind_some, nI_1]
        by_cases q : lastS σ n < z + 1
        · rw [if_pos (nI_lt q (by omega)), Nat.max_eq_right (by omega)]
        · rw [if_neg (nI_nlt (by omega) (by omega)), Nat.max_eq_left (by omega)]
      rw [hadd, Option.bind_some, nI_1]
      have e10 : (10 : Int32) * nI t + nI (z + 1) = nI (10 * t + (z + 1)) := by
        rw [show (10 : Int32) = nI 10 from rfl, pk_mul, nI_add]
      rw [e10]
      have hsame : ∀ k, k < n → (fun k => if k = n then (t, z + 1) else σ k) k = σ k := fun k hk => by
        simp only [if_neg (show ¬ k = n by omega)]
      refine ⟨_, _, _, _, _, _, (fun k => if k = n then (t, z + 1) else σ k), n + 1, rfl, rfl, rfl, rfl, snr_add hsn hn6 (by omega) hp1 hp8, ?_, fun m hm0 => ?_⟩
      · rw [lastS, lastS_ext hsame]
        simp only [if_true]
      · obtain ⟨v, hv, ev, ov⟩ := hL m hm0
        by_cases q : m = z
        · subst q
          refine ⟨w &&& 2 ^ t, and_lt (n := 8) hw8, pk_us, fun i hi => ?_⟩
          rw [okS, okS_ext hsame, hok i hi, Nat.testBit_and, Nat.testBit_two_pow]
          simp
        · refine ⟨v, hv, by show upd left z (nI (w &&& 2 ^ t)) m = nI v; rw [pk_un q]; exact ev, fun i hi => ?_⟩
          rw [okS, okS_ext hsame, ov i hi]
          have : ¬ z = m := fun e => q e.symm
          simp [this]
    · have e6 : n = 6 := by omega
      subst e6
      rw [if_neg (show ¬ nI 6 < (6 : Int32) by decide), if_pos (show nI 6 = (6 : Int32) from rfl)]
      exact ⟨_, _, _, _, _, _, σ, 6, rfl, rfl, same⟩
  · have y8' : (8 : Int32) < y := Int32.not_le.mp y8
    rw [if_neg y8, if_pos y8']
    exact ⟨_, _, _, _, _, _, σ, n, rfl, rfl, same⟩
