/-! waysOn: how many rows go on, remembered by what was brought and used -/
/-- how many rows there are behind (b, u), where X is what b has beside b0 -/
def Vw (τ : Td) (F : Nat) (ok : Nat → Nat → Bool) (last a0 b0 d0 b u : Nat) : Nat :=
  (rl τ F ok last (8 - pop (sd b b0) 8) (pop (sd b b0) 8) (a0 ||| nxs τ (sd b b0) (τ 0)) b u (d0 + rds τ (sd b b0) (τ 0))).length
/-- what the memory's cell i is to hold: no more than e -/
def Vi (τ : Td) (F : Nat) (ok : Nat → Nat → Bool) (last a0 b0 d0 e i : Nat) : Nat := min e (Vw τ F ok last a0 b0 d0 (i / 128) (i % 128))
/-- what is seen, as the row left has it -/
def Lok (left : Nat → Int32) (ok : Nat → Nat → Bool) : Prop := ∀ n, n < 8 → ∃ x, x < 256 ∧ left n = nI x ∧ ∀ t, t < 8 → ok t (n + 1) = x.testBit t
theorem xX5_numberAt {n : Nat} {f : Nat → Int32} {i : Nat} (hi : i < n) (hn : n < 2 ^ 31) : m_X5_numberAt n f (nI i) = some (f i) := by
  unfold m_X5_numberAt
  have hl : Int32.ofNat n = nI n := rfl
  rw [if_neg (nI_pos (by omega)), hl, if_neg (nI_ge hi hn), if_pos (j_in hi hn), j_clamp (by omega)]
theorem xX3_leaves {left : Nat → Int32} {ok : Nat → Nat → Bool} (h : Lok left ok) {t r : Nat} (ht : t < 8) (hr : r < 8) : m_X3_leaves left (nI t) (nI r + (1 : Int32)) = some (if ok t (r + 1) then 1 else 0) := by
  obtain ⟨x, hx, e, ho⟩ := h r hr
  unfold m_X3_leaves
  have e1 : nI r + (1 : Int32) - (1 : Int32) = nI r := by rw [nI_1]; exact nI_pred r
  rw [e1, xX5_numberAt (n := 8) hr (by decide), Option.bind_some, xX5_bit (by omega), Option.bind_some, e, ho t ht]
  cases q : x.testBit t with
  | false => rw [if_pos ((j_tb0 (by omega)).mpr q)]; rfl
  | true => rw [if_neg (fun z => by rw [(j_tb0 (by omega)).mp z] at q; cases q)]; rfl
theorem xX3_isWithin {last r : Nat} (h1 : last < 2 ^ 31) (h2 : r < 2 ^ 31) : m_X3_isWithin (nI last) (nI r) = some (if last ≤ r then 1 else 0) := by
  unfold m_X3_isWithin
  by_cases h : r < last
  · rw [if_pos (nI_lt h h1), if_neg (by omega)]
  · rw [if_neg (nI_nlt (by omega) h2), if_pos (by omega)]
theorem sd_or {b0 X : Nat} (hb : b0 < 2 ^ 8) (hX : X < 2 ^ 8) (h : ∀ i, X.testBit i = true → b0.testBit i = false) : sd (b0 ||| X) b0 = X := by
  apply Nat.eq_of_testBit_eq
  intro i
  rw [sd_tb _ _ (Nat.lt_trans (or_lt hb hX) (by decide)), Nat.testBit_or]
  cases hx : X.testBit i with
  | false => cases b0.testBit i <;> rfl
  | true => rw [h i hx]; rfl
theorem Cn.sd {τ : Td} (hw : Wf τ) {a0 b0 d0 X a b d : Nat} (hb : b0 < 2 ^ τ 0) (h : Cn τ a0 b0 d0 X a b d) : sd b b0 = X := by
  obtain ⟨hC, hX, rfl, rfl, rfl⟩ := h
  exact sd_or (hw.p8 hb) (hw.p8 hX) fun i hi => (hC i hi).2
theorem Cn.vw {τ : Td} (hw : Wf τ) {F : Nat} {ok : Nat → Nat → Bool} {last a0 b0 d0 X a b d u : Nat} (hb : b0 < 2 ^ τ 0) (h : Cn τ a0 b0 d0 X a b d) : Vw τ F ok last a0 b0 d0 b u = (rl τ F ok last (8 - pop X 8) (pop X 8) a b u d).length := by
  unfold Vw
  rw [h.sd hw hb]
  obtain ⟨hC, hX, rfl, rfl, rfl⟩ := h
  rfl
theorem min_e (e s v : Nat) : min e (min e s + min e v) = min e (s + v) := by omega
/-- what the months' rows hold, as far as a ride needs it -/
def Mr (τ : Td) (kinds rideDays helpKinds nexts masks : Nat → Int32) : Prop := (∀ t, t < τ 0 → kinds t = nI (kd τ t) ∧ rideDays t = nI (rdy τ t) ∧ helpKinds t = nI (hp τ t) ∧ nexts t = nI (nx τ t)) ∧ ∀ k, k < 5 → masks k = nI (hm τ k (τ 1))
set_option maxHeartbeats 1000000 in
/-- the loop over the tasks, when the calls within answer -/
theorem xX2_waysOn_loop {τ : Td} (hw : Wf τ) {F : Nat} (hF : F < 128) {ok : Nat → Nat → Bool} {last a0 b0 d0 c ν e : Nat} (ha : a0 < 2 ^ τ 0) (hb : b0 < 2 ^ τ 0) (hc : c < 128) (hday : d0 + cd τ a0 b0 ≤ τ 3) (heb : e ≤ 65536) {kinds rideDays helpKinds nexts masks left : Nat → Int32} (hM : Mr τ kinds rideDays helpKinds nexts masks) (hL : Lok left ok)
    {X a b d u k : Nat} (hC : Cn τ a0 b0 d0 X a b d) (hu : u < 128) (hr : pop X 8 < 8) (hk : 8 - pop X 8 = k + 1)
    {self : Int64 → Int64 → Int32 → (Nat → Int64) → Int32 → Int32 → Int32 → Int32 → Int32 → Int32 → Int32 → (Nat → Int32) → (Nat → Int32) → (Nat → Int32) → (Nat → Int32) → (Nat → Int32) → Int32 → (Nat → Int32) → Int32 → Option (Int64 × (Nat → Int64) × Int32 × Int32 × Int32 × Int32 × Int32 × Int32)}
    (hself : ∀ t x K, (sd a b).testBit t = true → hf τ t (sd F u) d = some x → Kok K ν (Vi τ F ok last a0 b0 d0 e) → ∃ K', self (lN ν) (lN e) 0 K (nI (a ||| 2 ^ nx τ t)) (nI (b ||| 2 ^ t)) (nI F) (nI (u ||| x)) (nI c) (nI (d + rdy τ t)) (nI (τ 3)) kinds rideDays helpKinds nexts masks (nI last) left (nI (pop X 8) + (1 : Int32)) = some (lN (min e (rl τ F ok last k (pop X 8 + 1) (a ||| 2 ^ nx τ t) (b ||| 2 ^ t) (u ||| x) (d + rdy τ t)).length), K', nI (a ||| 2 ^ nx τ t), nI (b ||| 2 ^ t), nI F, nI (u ||| x), nI c, nI (d + rdy τ t)) ∧ Kok K' ν (Vi τ F ok last a0 b0 d0 e)) :
    ∀ (j t s fuel : Nat) (K : Nat → Int64), t + j = 8 → j < fuel → (e = 1 ∨ s + (fl (br τ F ok (rl τ F ok last k) (pop X 8) a b u d) t (τ 0 - t)).length < e) → Kok K ν (Vi τ F ok last a0 b0 d0 e) → ∃ K', lp_X2_waysOn_89 self (nI (pop X 8)) (lN (pk a b F u c d)) (lN ν) (lN e) 0 (nI (τ 3)) kinds rideDays helpKinds nexts masks (nI last) left fuel (lN (min e s)) (nI t) K (nI a) (nI b) (nI F) (nI u) (nI c) (nI d) = some (lN (min e (s + (fl (br τ F ok (rl τ F ok last k) (pop X 8) a b u d) t (τ 0 - t)).length)), K', nI a, nI b, nI F, nI u, nI c, nI d) ∧ Kok K' ν (Vi τ F ok last a0 b0 d0 e) := by
  have hab := hC.lt hw ha hb
  have ha8 := hw.p8 hab.1
  have hb8 := hw.p8 hab.2
  have hdL : d ≤ τ 3 := Nat.le_trans hC.day hday
  have hL60 := hw.2.2.2.1.2
  have hT8 := hw.1.2
  intro j
  induction j with
  | zero =>
    intro t s fuel K ht hfu hs hK
    obtain ⟨n, rfl⟩ : ∃ n, fuel = n + 1 := ⟨fuel - 1, by omega⟩
    refine ⟨K, ?_, hK⟩
    rw [lp_X2_waysOn_89, if_pos (show (8 : Int32) ≤ nI _ from nI_le (a := 8) (by omega) (by omega)), show τ 0 - t = 0 by omega]
    rfl
  | succ j ih =>
    intro t s fuel K ht hfu hs hK
    obtain ⟨n, rfl⟩ : ∃ n, fuel = n + 1 := ⟨fuel - 1, by omega⟩
    rw [lp_X2_waysOn_89, if_neg (show ¬ (8 : Int32) ≤ nI _ from nI_ge (b := 8) (by omega) (by decide)), l_cmp (by omega) (by omega)]
    -- enough already
    by_cases hen : e ≤ s
    · rw [Nat.min_eq_left hen]
      have : min e (s + (fl (br τ F ok (rl τ F ok last k) (pop X 8) a b u d) t (τ 0 - t)).length) = e := by omega
      rw [this, if_neg (Nat.lt_irrefl e), if_pos rfl, if_pos (by decide)]
      exact ⟨K, rfl, hK⟩
    · have hse : min e s = s := by omega
      rw [hse, if_neg (show ¬ e < s by omega), if_neg (show ¬ s = e by omega), if_neg (by decide), xX3_leaves hL (by omega) hr, Option.bind_some]
      have hnx : nI t + (1 : Int32) = nI (t + 1) := nI_1 t
      rw [hnx]
      by_cases htT : t < τ 0
      · have hfl : fl (br τ F ok (rl τ F ok last k) (pop X 8) a b u d) t (τ 0 - t) = br τ F ok (rl τ F ok last k) (pop X 8) a b u d t ++ fl (br τ F ok (rl τ F ok last k) (pop X 8) a b u d) (t + 1) (τ 0 - (t + 1)) := by
          rw [show τ 0 - t = (τ 0 - (t + 1)) + 1 by omega, fl]
        rw [hfl, List.length_append] at hs ⊢
        by_cases hok : ok t (pop X 8 + 1) = true
        · obtain ⟨m1, m2, m3, m4⟩ := hM.1 t htT
          rw [if_pos hok, if_neg (by decide), xX4_tryRide hw htT ha8 hF (by omega) m1 m3 hM.2 m2 m4, Option.bind_some]
          cases hh : hn τ a b F u d t with
          | none =>
            have hz : br τ F ok (rl τ F ok last k) (pop X 8) a b u d t = [] := by
              unfold br
              by_cases ho : (sd a b).testBit t = true
              · rw [hok, ho, Bool.true_and, if_pos rfl]
                unfold hn at hh
                rw [if_neg (by omega), if_pos ho] at hh
                rw [hh]
              · have ho' : (sd a b).testBit t = false := by simpa using ho
                rw [ho', Bool.and_false]; rfl
            rw [hz, List.length_nil, Nat.zero_add] at hs ⊢
            simp only [if_true]
            have := ih (t + 1) s n K (by omega) (by omega) hs hK
            rw [hse] at this
            exact this
          | some x =>
            have hx := hn_lt hF hh
            have ho := hx.2.2.2
            have hhf : hf τ t (sd F u) d = some x := by
              unfold hn at hh
              rw [if_neg (by omega), if_pos ho] at hh
              exact hh
            have hdd : d + rdy τ t ≤ τ 3 := Nat.le_trans (hC.step hw ha hb ho).day hday
            have hbr : br τ F ok (rl τ F ok last k) (pop X 8) a b u d t = (rl τ F ok last k (pop X 8 + 1) (a ||| 2 ^ nx τ t) (b ||| 2 ^ t) (u ||| x) (d + rdy τ t)).map (t :: ·) := by
              unfold br
              rw [hok, ho, Bool.true_and, if_pos rfl, hhf]
              simp only
              rw [if_pos hdd]
            rw [hbr, List.length_map] at hs ⊢
            obtain ⟨K1, e1, hK1⟩ := hself t x K ho hhf hK
            simp only
            rw [if_neg (by decide), e1, Option.bind_some, xX4_unpack ha8 hb8 hF hu hc (by omega), Option.bind_some]
            simp only
            rw [lN_add]
            have h2 := ih (t + 1) (s + (rl τ F ok last k (pop X 8 + 1) (a ||| 2 ^ nx τ t) (b ||| 2 ^ t) (u ||| x) (d + rdy τ t)).length) n K1 (by omega) (by omega) (by omega) hK1
            rw [Nat.add_assoc] at h2
            have hmin : s + min e (rl τ F ok last k (pop X 8 + 1) (a ||| 2 ^ nx τ t) (b ||| 2 ^ t) (u ||| x) (d + rdy τ t)).length = min e (s + (rl τ F ok last k (pop X 8 + 1) (a ||| 2 ^ nx τ t) (b ||| 2 ^ t) (u ||| x) (d + rdy τ t)).length) := by omega
            rw [hmin]
            exact h2
        · have hok' : ok t (pop X 8 + 1) = false := by simpa using hok
          have hz : br τ F ok (rl τ F ok last k) (pop X 8) a b u d t = [] := by
            unfold br
            rw [hok', Bool.false_and]; rfl
          rw [hz, List.length_nil, Nat.zero_add] at hs ⊢
          rw [if_neg hok, if_pos rfl]
          have := ih (t + 1) s n K (by omega) (by omega) hs hK
          rw [hse] at this
          exact this
      · have hz : fl (br τ F ok (rl τ F ok last k) (pop X 8) a b u d) t (τ 0 - t) = fl (br τ F ok (rl τ F ok last k) (pop X 8) a b u d) (t + 1) (τ 0 - (t + 1)) := by
          rw [show τ 0 - t = 0 by omega, show τ 0 - (t + 1) = 0 by omega]; rfl
        rw [hz] at hs ⊢
        have ho : (sd a b).testBit t = false := tb_hi (sd_lt hab.1) (by omega)
        have hih := ih (t + 1) s n K (by omega) (by omega) hs hK
        rw [hse] at hih
        by_cases hok : ok t (pop X 8 + 1) = true
        · rw [if_pos hok, if_neg (by decide), xX4_tryRideNo (by omega) ho (by omega) (by omega), Option.bind_some]
          simp only [if_true]
          exact hih
        · rw [if_neg hok, if_pos rfl]
          exact hih
theorem xX4_openTasks0 {a b : Nat} (ha : a < 256) : (nI (sd a b) = 0) ↔ sd a b = 0 := nI_eq (b := 0) (Nat.lt_of_le_of_lt (sd_le a b) (by omega)) (by decide)
set_option maxHeartbeats 1000000 in
theorem xX2_waysOn {τ : Td} (hw : Wf τ) {F : Nat} (hF : F < 128) {ok : Nat → Nat → Bool} {last a0 b0 d0 c ν e N : Nat} (hN : 100 ≤ N) (ha : a0 < 2 ^ τ 0) (hb : b0 < 2 ^ τ 0) (hc : c < 128) (hν : ν < 2 ^ 30) (hlast : last ≤ 8) (hday : d0 + cd τ a0 b0 ≤ τ 3) (he : e = 1 ∨ e = 65536) {kinds rideDays helpKinds nexts masks left : Nat → Int32} (hM : Mr τ kinds rideDays helpKinds nexts masks) (hL : Lok left ok) :
    ∀ (k nf X a b d u : Nat) (K : Nat → Int64), 8 - pop X 8 = k → k < nf → Cn τ a0 b0 d0 X a b d → u < 128 → Kok K ν (Vi τ F ok last a0 b0 d0 e) → ∃ K', m_X2_waysOn N nf (lN ν) (lN e) 0 K (nI a) (nI b) (nI F) (nI u) (nI c) (nI d) (nI (τ 3)) kinds rideDays helpKinds nexts masks (nI last) left (nI (pop X 8)) = some (lN (min e (rl τ F ok last k (pop X 8) a b u d).length), K', nI a, nI b, nI F, nI u, nI c, nI d) ∧ Kok K' ν (Vi τ F ok last a0 b0 d0 e) := by
  have he1 : 1 ≤ e ∧ e ≤ 65536 := by omega
  intro k
  induction k with
  | zero =>
    intro nf X a b d u K hk hnf hC hu hK
    obtain ⟨n, rfl⟩ : ∃ n, nf = n + 1 := ⟨nf - 1, by omega⟩
    have hab := hC.lt hw ha hb
    have hr8 : pop X 8 = 8 := by have := pop_le X 8; omega
    -- all is brought
    have h0 : sd a b = 0 := by
      rw [sd_zero (Nat.lt_trans (hw.p8 hab.1) (by decide))]
      intro i hi
      have hi8 : i < 8 := by
        rcases Nat.lt_or_ge i 8 with q | q
        · exact q
        · rw [tb_hi (hw.p8 hab.1) q] at hi; cases hi
      have hX : X.testBit i = true := by
        have key : ∀ m, pop X m = m → ∀ i, i < m → X.testBit i = true := by
          intro m
          induction m with
          | zero => intro _ i hi; omega
          | succ m ih =>
            intro hm i hi
            rw [pop] at hm
            have h1 := pop_le X m
            by_cases q : X.testBit m = true
            · rw [if_pos q] at hm
              by_cases w : i = m
              · subst w; exact q
              · exact ih (by omega) i (by omega)
            · rw [if_neg q] at hm; omega
        exact key 8 hr8 i hi8
      rw [hC.2.2.2.1, Nat.testBit_or, hX, Bool.or_true]
    refine ⟨K, ?_, hK⟩
    rw [m_X2_waysOn, if_pos rfl, xX4_openTasks, Option.bind_some, if_pos ((xX4_openTasks0 (hw.p8 hab.1)).mpr h0), xX3_isWithin (by omega) (by omega), Option.bind_some, rl_open _ _ _ _ _ _ h0]
    by_cases hl : last ≤ pop X 8
    · rw [if_pos hl, if_neg (by decide), if_pos hl, List.length_singleton, Nat.min_eq_right he1.1]; rfl
    · rw [if_neg hl, if_pos rfl, if_neg hl, List.length_nil, Nat.min_zero]; rfl
  | succ k ih =>
    intro nf X a b d u K hk hnf hC hu hK
    obtain ⟨n, rfl⟩ : ∃ n, nf = n + 1 := ⟨nf - 1, by omega⟩
    have hab := hC.lt hw ha hb
    have ha8 := hw.p8 hab.1
    have hb8 := hw.p8 hab.2
    have hdL : d ≤ τ 3 := Nat.le_trans hC.day hday
    have hL60 := hw.2.2.2.1.2
    rw [m_X2_waysOn, if_pos rfl, xX4_openTasks, Option.bind_some]
    by_cases h0 : sd a b = 0
    · refine ⟨K, ?_, hK⟩
      rw [if_pos ((xX4_openTasks0 ha8).mpr h0), xX3_isWithin (by omega) (by omega), Option.bind_some, rl_open _ _ _ _ _ _ h0]
      by_cases hl : last ≤ pop X 8
      · rw [if_pos hl, if_neg (by decide), if_pos hl, List.length_singleton, Nat.min_eq_right he1.1]; rfl
      · rw [if_neg hl, if_pos rfl, if_neg hl, List.length_nil, Nat.min_zero]; rfl
    · have hr : pop X 8 < 8 := by omega
      rw [if_neg (fun z => h0 ((xX4_openTasks0 ha8).mp z)), if_pos (show nI _ < (8 : Int32) from nI_lt (b := 8) hr (by decide))]
      have ecell : nI b * (128 : Int32) + nI u = nI (b * 128 + u) := by
        rw [show (128 : Int32) = nI 128 from rfl, pk_mul, nI_add]
      rw [ecell]
      simp only [Option.bind_some]
      have hcell : b * 128 + u < 32768 := by omega
      have hVi : Vi τ F ok last a0 b0 d0 e (b * 128 + u) = min e (rl τ F ok last (k + 1) (pop X 8) a b u d).length := by
        unfold Vi
        rw [show (b * 128 + u) / 128 = b by omega, show (b * 128 + u) % 128 = u by omega, hC.vw hw hb, hk]
      have hlen : (rl τ F ok last (k + 1) (pop X 8) a b u d).length ≤ 40320 := by
        have h1 := rl_len hw (F := F) (ok := ok) (last := last) ha hb (k + 1) (pop X 8) X a b u d hC (by
          have h2 : pop X 8 ≤ pop b 8 := pop_mono (fun i hi => by rw [hC.2.2.2.1, Nat.testBit_or, hi, Bool.or_true]) 8
          have h3 : ∀ m, pop b (τ 0 + m) ≤ pop b (τ 0) := by
            intro m
            induction m with
            | zero => exact Nat.le_refl _
            | succ m ih => rw [show τ 0 + (m + 1) = τ 0 + m + 1 from rfl, pop, tb_hi hab.2 (by omega)]; simpa using ih
          have h4 := h3 (8 - τ 0)
          rw [show τ 0 + (8 - τ 0) = 8 by have := hw.1.2; omega] at h4
          have := hw.1.2
          omega)
        have h2 : ∀ n, n ≤ 8 → fac n ≤ 40320 := by decide
        exact Nat.le_trans h1 (h2 (k + 1) (by omega))
      have hVlt : Vi τ F ok last a0 b0 d0 e (b * 128 + u) < 65536 := by rw [hVi]; omega
      rcases xX2_recall hK hν hcell with hrec | ⟨hrec, -⟩
      · rw [hrec, Option.bind_some, if_pos (by decide), xX4_packed ha8 hb8 hF hu hc (by omega), Option.bind_some]
        have hrl : (rl τ F ok last (k + 1) (pop X 8) a b u d) = fl (br τ F ok (rl τ F ok last k) (pop X 8) a b u d) 0 (τ 0) := by rw [rl, if_neg h0]
        obtain ⟨K1, e1, hK1⟩ := xX2_waysOn_loop hw hF ha hb hc hday he1.2 hM hL hC hu hr hk (self := m_X2_waysOn N n) (fun t x K ho hx hK => by
          have hin := hC.in hw ha hb ho
          have hpop : pop (X ||| 2 ^ t) 8 = pop X 8 + 1 := pop_add hin.2.2.2.1 (by have := hw.1.2; omega)
          have hxl := hf_lt (sd_lt (n := 7) hF) hx
          have := ih n (X ||| 2 ^ t) _ _ _ (u ||| x) K (by omega) (by omega) (hC.step hw ha hb ho) (or_lt (n := 7) hu hxl.1) hK
          rw [hpop] at this
          rw [nI_1]
          exact this) 8 0 0 N K rfl (by omega) (by
            rcases he with rfl | rfl
            · exact Or.inl rfl
            · right
              rw [Nat.zero_add, Nat.sub_zero, ← hrl]; omega) hK
        rw [Nat.min_zero, Nat.zero_add, Nat.sub_zero, ← hrl] at e1
        have e1' : lp_X2_waysOn_89 (m_X2_waysOn N n) (nI (pop X 8)) (lN (pk a b F u c d)) (lN ν) (lN e) 0 (nI (τ 3)) kinds rideDays helpKinds nexts masks (nI last) left N (0 : Int64) (0 : Int32) K (nI a) (nI b) (nI F) (nI u) (nI c) (nI d) = some (lN (min e (rl τ F ok last (k + 1) (pop X 8) a b u d).length), K1, nI a, nI b, nI F, nI u, nI c, nI d) := e1
        rw [e1', Option.bind_some]
        simp only
        obtain ⟨K2, e2, hK2⟩ := xX2_remember hK1 hν hcell hVlt
        rw [hVi] at e2
        rw [e2, Option.bind_some]
        exact ⟨K2, rfl, hK2⟩
      · refine ⟨K, ?_, hK⟩
        have hz : ¬ lg_cmp (lN (Vi τ F ok last a0 b0 d0 e (b * 128 + u))) (0 : Int64) < 0 := by
          have := l_cmp (a := Vi τ F ok last a0 b0 d0 e (b * 128 + u)) (b := 0) (by omega) (by omega)
          rw [show (0 : Int64) = lN 0 from rfl, this]
          split
          · decide
          · split
            · decide
            · omega
        rw [hrec, Option.bind_some, if_neg hz, hVi]
