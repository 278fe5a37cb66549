/-! the class's first row: rideFirst, placeInFirst -/
theorem hn_open {τ : Td} {a b f u d t : Nat} (hd : d ≤ τ 3) (ho : (sd a b).testBit t = true) : hn τ a b f u d t = hf τ t (sd f u) d := by
  unfold hn
  rw [if_neg (by omega), if_pos ho]
theorem br_none {τ : Td} {F : Nat} {ok : Nat → Nat → Bool} {g : Nat → Nat → Nat → Nat → Nat → List (List Nat)} {r a b u d t : Nat} (h : ok t (r + 1) = false ∨ hn τ a b F u d t = none) : br τ F ok g r a b u d t = [] := by
  unfold br
  cases hk : ok t (r + 1) with
  | false => rfl
  | true =>
    rw [Bool.true_and]
    cases ho : (sd a b).testBit t with
    | false => rfl
    | true =>
      rw [if_pos rfl]
      have h1 : hn τ a b F u d t = none := by
        rcases h with h | h
        · rw [hk] at h; cases h
        · exact h
      cases hx : hf τ t (sd F u) d with
      | none => rfl
      | some x =>
        simp only
        rw [if_neg]
        intro hd
        rw [hn_open (by omega) ho, hx] at h1
        cases h1
/-- the loop over the tasks, when the calls within tell whether a row ends well -/
theorem xX2_rideFirst_loop {τ : Td} (hw : Wf τ) {F : Nat} (hF : F < 128) {ok : Nat → Nat → Bool} {last c ν N k r : Nat} {V : Nat → Nat} {tl : Int32} (hc : c < 128) (hr : r < 8) {kinds rideDays helpKinds nexts masks left : Nat → Int32} (hM : Mr τ kinds rideDays helpKinds nexts masks) (hL : Lok left ok)
    {a b d u : Nat} (ha : a < 2 ^ τ 0) (hb : b < 2 ^ τ 0) (hu : u < 128) (hd : d < 80)
    (hself : ∀ t x K, t < τ 0 → ok t (r + 1) = true → hn τ a b F u d t = some x → Kok K ν V → ∃ v K', v < 2 ^ 62 ∧ m_X2_waysOn N 10 (lN ν) (lN 1) tl K (nI (a ||| 2 ^ nx τ t)) (nI (b ||| 2 ^ t)) (nI F) (nI (u ||| x)) (nI c) (nI (d + rdy τ t)) (nI (τ 3)) kinds rideDays helpKinds nexts masks (nI last) left (nI (r + 1)) = some (lN v, K', nI (a ||| 2 ^ nx τ t), nI (b ||| 2 ^ t), nI F, nI (u ||| x), nI c, nI (d + rdy τ t)) ∧ Kok K' ν V ∧ (v = 0 ↔ br τ F ok (rl τ F ok last k) r a b u d t = [])) :
    ∀ (j t fuel : Nat) (K : Nat → Int64), t + j = 8 → j < fuel → Kok K ν V → ∃ K', Kok K' ν V ∧
      (((∀ i, t ≤ i → i < τ 0 → br τ F ok (rl τ F ok last k) r a b u d i = []) ∧ lp_X2_rideFirst_11 N (nI r) (lN (pk a b F u c d)) (lN ν) (lN 1) tl (nI (τ 3)) kinds rideDays helpKinds nexts masks (nI last) left fuel (nI t) K (nI a) (nI b) (nI F) (nI u) (nI c) (nI d) = some (Sum.inl (K', nI a, nI b, nI F, nI u, nI c, nI d))) ∨
       ∃ i x, t ≤ i ∧ i < τ 0 ∧ (∀ i', t ≤ i' → i' < i → br τ F ok (rl τ F ok last k) r a b u d i' = []) ∧ ok i (r + 1) = true ∧ hn τ a b F u d i = some x ∧ br τ F ok (rl τ F ok last k) r a b u d i ≠ [] ∧ lp_X2_rideFirst_11 N (nI r) (lN (pk a b F u c d)) (lN ν) (lN 1) tl (nI (τ 3)) kinds rideDays helpKinds nexts masks (nI last) left fuel (nI t) K (nI a) (nI b) (nI F) (nI u) (nI c) (nI d) = some (Sum.inr (nI i, K', nI (a ||| 2 ^ nx τ i), nI (b ||| 2 ^ i), nI F, nI (u ||| x), nI c, nI (d + rdy τ i)))) := by
  have hT8 := hw.1.2
  have hL60 := hw.2.2.2.1.2
  have ha8 := hw.p8 ha
  have hb8 := hw.p8 hb
  intro j
  induction j with
  | zero =>
    intro t fuel K ht hfu hK
    obtain ⟨n, rfl⟩ : ∃ n, fuel = n + 1 := ⟨fuel - 1, by omega⟩
    refine ⟨K, hK, Or.inl ⟨fun i h1 h2 => by omega, ?_⟩⟩
    rw [lp_X2_rideFirst_11, if_pos (show (8 : Int32) ≤ nI _ from nI_le (a := 8) (by omega) (by omega))]
  | succ j ih =>
    intro t fuel K ht hfu hK
    obtain ⟨n, rfl⟩ : ∃ n, fuel = n + 1 := ⟨fuel - 1, by omega⟩
    -- this task gives nothing: the rest tells
    have skip : ∀ K1, Kok K1 ν V → br τ F ok (rl τ F ok last k) r a b u d t = [] ∨ τ 0 ≤ t → lp_X2_rideFirst_11 N (nI r) (lN (pk a b F u c d)) (lN ν) (lN 1) tl (nI (τ 3)) kinds rideDays helpKinds nexts masks (nI last) left (n + 1) (nI t) K (nI a) (nI b) (nI F) (nI u) (nI c) (nI d) = lp_X2_rideFirst_11 N (nI r) (lN (pk a b F u c d)) (lN ν) (lN 1) tl (nI (τ 3)) kinds rideDays helpKinds nexts masks (nI last) left n (nI (t + 1)) K1 (nI a) (nI b) (nI F) (nI u) (nI c) (nI d) → ∃ K', Kok K' ν V ∧
      (((∀ i, t ≤ i → i < τ 0 → br τ F ok (rl τ F ok last k) r a b u d i = []) ∧ lp_X2_rideFirst_11 N (nI r) (lN (pk a b F u c d)) (lN ν) (lN 1) tl (nI (τ 3)) kinds rideDays helpKinds nexts masks (nI last) left (n + 1) (nI t) K (nI a) (nI b) (nI F) (nI u) (nI c) (nI d) = some (Sum.inl (K', nI a, nI b, nI F, nI u, nI c, nI d))) ∨
       ∃ i x, t ≤ i ∧ i < τ 0 ∧ (∀ i', t ≤ i' → i' < i → br τ F ok (rl τ F ok last k) r a b u d i' = []) ∧ ok i (r + 1) = true ∧ hn τ a b F u d i = some x ∧ br τ F ok (rl τ F ok last k) r a b u d i ≠ [] ∧ lp_X2_rideFirst_11 N (nI r) (lN (pk a b F u c d)) (lN ν) (lN 1) tl (nI (τ 3)) kinds rideDays helpKinds nexts masks (nI last) left (n + 1) (nI t) K (nI a) (nI b) (nI F) (nI u) (nI c) (nI d) = some (Sum.inr (nI i, K', nI (a ||| 2 ^ nx τ i), nI (b ||| 2 ^ i), nI F, nI (u ||| x), nI c, nI (d + rdy τ i)))) := by
      intro K1 hK1 hz e
      obtain ⟨K2, hK2, h⟩ := ih (t + 1) n K1 (by omega) (by omega) hK1
      refine ⟨K2, hK2, ?_⟩
      rw [e]
      rcases h with ⟨h1, h2⟩ | ⟨i, x, h1, h2, h3, h4⟩
      · left
        refine ⟨fun i a1 a2 => ?_, h2⟩
        by_cases q : i = t
        · subst q
          rcases hz with hz | hz
          · exact hz
          · omega
        · exact h1 i (by omega) a2
      · right
        refine ⟨i, x, by omega, h2, fun i' a1 a2 => ?_, h4⟩
        by_cases q : i' = t
        · subst q
          rcases hz with hz | hz
          · exact hz
          · omega
        · exact h3 i' (by omega) a2
    have unf : lp_X2_rideFirst_11 N (nI r) (lN (pk a b F u c d)) (lN ν) (lN 1) tl (nI (τ 3)) kinds rideDays helpKinds nexts masks (nI last) left (n + 1) (nI t) K (nI a) (nI b) (nI F) (nI u) (nI c) (nI d) = if (if ok t (r + 1) then 1 else 0 : Int32) = 0 then lp_X2_rideFirst_11 N (nI r) (lN (pk a b F u c d)) (lN ν) (lN 1) tl (nI (τ 3)) kinds rideDays helpKinds nexts masks (nI last) left n (nI (t + 1)) K (nI a) (nI b) (nI F) (nI u) (nI c) (nI d) else (m_X4_tryRide (nI a) (nI b) (nI F) (nI u) (nI d) (nI (τ 3)) kinds rideDays helpKinds nexts masks (nI t)).bind fun r7 =>
        if r7.1 = 0 then
          lp_X2_rideFirst_11 N (nI r) (lN (pk a b F u c d)) (lN ν) (lN 1) tl (nI (τ 3)) kinds rideDays helpKinds nexts masks (nI last) left n (nI (t + 1)) K r7.2.1 r7.2.2.1 (nI F) r7.2.2.2.1 (nI c) r7.2.2.2.2
        else
          (m_X2_waysOn N 10 (lN ν) (lN 1) tl K r7.2.1 r7.2.2.1 (nI F) r7.2.2.2.1 (nI c) r7.2.2.2.2 (nI (τ 3)) kinds rideDays helpKinds nexts masks (nI last) left (nI (r + 1))).bind fun r10 =>
          if (lg_cmp r10.1 (0 : Int64)) ≤ 0 then
            (m_X4_unpack (lN (pk a b F u c d))).bind fun r13 =>
            lp_X2_rideFirst_11 N (nI r) (lN (pk a b F u c d)) (lN ν) (lN 1) tl (nI (τ 3)) kinds rideDays helpKinds nexts masks (nI last) left n (nI (t + 1)) r10.2.1 r13.1 r13.2.1 r13.2.2.1 r13.2.2.2.1 r13.2.2.2.2.1 r13.2.2.2.2.2
          else
            some (Sum.inr (nI t, r10.2.1, r10.2.2.1, r10.2.2.2.1, r10.2.2.2.2.1, r10.2.2.2.2.2.1, r10.2.2.2.2.2.2.1, r10.2.2.2.2.2.2.2)) := by
      rw [lp_X2_rideFirst_11, if_neg (show ¬ (8 : Int32) ≤ nI _ from nI_ge (b := 8) (by omega) (by decide)), xX3_leaves hL (by omega) hr, Option.bind_some, nI_1, nI_1]
    by_cases hok : ok t (r + 1) = true
    · by_cases htT : t < τ 0
      · obtain ⟨hk1, hk2, hk3, hk4⟩ := hM.1 t htT
        have htr := xX4_tryRide hw (a := a) (b := b) (f := F) (u := u) (d := d) htT ha8 hF (by omega) hk1 hk3 hM.2 hk2 hk4
        cases hx : hn τ a b F u d t with
        | none =>
          rw [hx] at htr
          refine skip K hK (Or.inl (br_none (Or.inr hx))) ?_
          rw [unf, if_neg (by rw [hok]; decide), htr, Option.bind_some]
          simp only
          rw [if_pos trivial]
        | some x =>
          rw [hx] at htr
          obtain ⟨v, K1, hv, e1, hK1, hz⟩ := hself t x K htT hok hx hK
          by_cases q : v = 0
          · refine skip K1 hK1 (Or.inl (hz.mp q)) ?_
            rw [unf, if_neg (by rw [hok]; decide), htr, Option.bind_some]
            simp only
            rw [if_neg (by decide), e1, Option.bind_some]
            simp only
            rw [show (0 : Int64) = lN 0 from rfl, l_cmp (by omega) (by decide), q, if_pos (show (if 0 < 0 then 1 else if 0 = 0 then 0 else -1 : Int32) ≤ 0 by decide), xX4_unpack ha8 hb8 hF hu hc (by omega), Option.bind_some]
          · refine ⟨K1, hK1, Or.inr ⟨t, x, Nat.le_refl t, htT, fun i' a1 a2 => by omega, hok, hx, fun z => q (hz.mpr z), ?_⟩⟩
            rw [unf, if_neg (by rw [hok]; decide), htr, Option.bind_some]
            simp only
            rw [if_neg (by decide), e1, Option.bind_some]
            simp only
            rw [show (0 : Int64) = lN 0 from rfl, l_cmp (by omega) (by decide), if_pos (show 0 < v by omega), if_neg (show ¬ (1 : Int32) ≤ 0 by decide)]
      · have ho : (sd a b).testBit t = false := tb_hi (sd_lt ha) (by omega)
        refine skip K hK (Or.inr (by omega)) ?_
        rw [unf, if_neg (by rw [hok]; decide), xX4_tryRideNo (by omega) ho (by omega) (by omega), Option.bind_some]
        simp only
        rw [if_pos trivial]
    · have hok' : ok t (r + 1) = false := by simpa using hok
      refine skip K hK (Or.inl (br_none (Or.inl hok'))) ?_
      rw [unf, if_pos (by rw [hok']; rfl)]
/-- the place k (1 or more) of the first row -/
def plc (L : List (List Nat)) (k : Nat) : Int32 := match L with
  | [] => -4
  | ρ :: _ => match ρ[k - 1]? with
    | some t => nI t
    | none => -4
theorem fl_head {g : Nat → List (List Nat)} {i : Nat} : ∀ {m t : Nat}, t ≤ i → i < t + m → (∀ i', t ≤ i' → i' < i → g i' = []) → g i ≠ [] → ∃ L, fl g t m = g i ++ L := by
  intro m
  induction m with
  | zero => intro t h1 h2; omega
  | succ m ih =>
    intro t h1 h2 h3 h4
    by_cases q : t = i
    · subst q; exact ⟨_, rfl⟩
    · obtain ⟨L, hL⟩ := ih (t := t + 1) (by omega) (by omega) (fun i' a b => h3 i' (by omega) b) h4
      refine ⟨L, ?_⟩
      rw [fl, h3 t (Nat.le_refl t) (by omega), List.nil_append, hL]
/-- from where the rows are L on: the loop over the places -/
theorem xX2_place_loop {τ : Td} (hw : Wf τ) {F : Nat} (hF : F < 128) {ok : Nat → Nat → Bool} {last a0 b0 d0 c ν N place : Nat} (hN : 100 ≤ N) (ha : a0 < 2 ^ τ 0) (hb : b0 < 2 ^ τ 0) (hc : c < 128) (hν : ν < 2 ^ 30) (hlast : last ≤ 8) (hday : d0 + cd τ a0 b0 ≤ τ 3) (hpl : place ≤ 8) {kinds rideDays helpKinds nexts masks left : Nat → Int32} (hM : Mr τ kinds rideDays helpKinds nexts masks) (hL : Lok left ok) :
    ∀ (m X a b d u fuel : Nat) (t : Int32) (K : Nat → Int64), pop X 8 + m = place → m < fuel → Cn τ a0 b0 d0 X a b d → u < 128 → Kok K ν (Vi τ F ok last a0 b0 d0 1) → (m ≠ 0 ∨ rl τ F ok last (8 - pop X 8) (pop X 8) a b u d ≠ []) → ∃ (a' b' u' d' : Int32) (K' : Nat → Int64), Kok K' ν (Vi τ F ok last a0 b0 d0 1) ∧
      (∃ t', t' = (if m = 0 then t else plc (rl τ F ok last (8 - pop X 8) (pop X 8) a b u d) m) ∧ (lp_X2_placeInFirst_16 N (nI place) (lN ν) (lN 1) 0 (nI (τ 3)) kinds rideDays helpKinds nexts masks (nI last) left fuel t (nI (pop X 8)) K (nI a) (nI b) (nI F) (nI u) (nI c) (nI d) = some (Sum.inl (t', K', a', b', nI F, u', nI c, d')) ∨ (t' = -4 ∧ lp_X2_placeInFirst_16 N (nI place) (lN ν) (lN 1) 0 (nI (τ 3)) kinds rideDays helpKinds nexts masks (nI last) left fuel t (nI (pop X 8)) K (nI a) (nI b) (nI F) (nI u) (nI c) (nI d) = some (Sum.inr (K', a', b', nI F, u', nI c, d'))))) := by
  have hT8 := hw.1.2
  have hL60 := hw.2.2.2.1.2
  intro m
  induction m with
  | zero =>
    intro X a b d u fuel t K hmm hfu hC hu hK _
    obtain ⟨n, rfl⟩ : ∃ n, fuel = n + 1 := ⟨fuel - 1, by omega⟩
    refine ⟨nI a, nI b, nI u, nI d, K, hK, t, rfl, Or.inl ?_⟩
    rw [lp_X2_placeInFirst_16, if_pos (nI_le (by omega) (by omega))]
  | succ m ih =>
    intro X a b d u fuel t K hmm hfu hC hu hK _
    obtain ⟨n, rfl⟩ : ∃ n, fuel = n + 1 := ⟨fuel - 1, by omega⟩
    have hab := hC.lt hw ha hb
    have ha8 := hw.p8 hab.1
    have hb8 := hw.p8 hab.2
    have hdL : d ≤ τ 3 := Nat.le_trans hC.day hday
    have hr : pop X 8 < 8 := by omega
    obtain ⟨k, hk⟩ : ∃ k, 8 - pop X 8 = k + 1 := ⟨7 - pop X 8, by omega⟩
    rw [hk, if_neg (Nat.succ_ne_zero m)]
    -- what a ride leaves
    have child : ∀ i x, hn τ a b F u d i = some x → (sd a b).testBit i = true ∧ hf τ i (sd F u) d = some x ∧ Cn τ a0 b0 d0 (X ||| 2 ^ i) (a ||| 2 ^ nx τ i) (b ||| 2 ^ i) (d + rdy τ i) ∧ pop (X ||| 2 ^ i) 8 = pop X 8 + 1 ∧ u ||| x < 128 ∧ d + rdy τ i ≤ τ 3 := by
      intro i x hx
      have h1 := hn_lt hF hx
      have h2 := h1.2.2.2
      have hin := hC.in hw ha hb h2
      have h3 := hC.step hw ha hb h2
      exact ⟨h2, by rw [← hn_open hdL h2]; exact hx, h3, pop_add hin.2.2.2.1 (by omega), or_lt (n := 7) hu h1.1, Nat.le_trans h3.day hday⟩
    have brc : ∀ i x, ok i (pop X 8 + 1) = true → hn τ a b F u d i = some x → br τ F ok (rl τ F ok last k) (pop X 8) a b u d i = (rl τ F ok last k (pop X 8 + 1) (a ||| 2 ^ nx τ i) (b ||| 2 ^ i) (u ||| x) (d + rdy τ i)).map (i :: ·) := by
      intro i x h1 h2
      obtain ⟨c1, c2, c3, c4, c5, c6⟩ := child i x h2
      unfold br
      rw [h1, c1, Bool.true_and, if_pos rfl, c2]
      simp only
      rw [if_pos c6]
    obtain ⟨K1, hK1, h⟩ := xX2_rideFirst_loop hw hF (ok := ok) (last := last) (c := c) (ν := ν) (N := N) (k := k) (r := pop X 8) (V := Vi τ F ok last a0 b0 d0 1) (tl := 0) hc hr hM hL (a := a) (b := b) (d := d) (u := u) hab.1 hab.2 hu (by omega) (fun i x K ht h1 h2 hK => by
      obtain ⟨c1, c2, c3, c4, c5, c6⟩ := child i x h2
      obtain ⟨K', e, hK'⟩ := xX2_waysOn hw hF hN ha hb hc hν hlast hday (Or.inl rfl) hM hL k 10 (X ||| 2 ^ i) _ _ _ (u ||| x) K (by omega) (by omega) c3 c5 hK
      rw [c4] at e
      refine ⟨_, K', ?_, e, hK', ?_⟩
      · omega
      · rw [brc i x h1 h2]
        constructor
        · intro z
          rw [List.map_eq_nil_iff]
          exact List.length_eq_zero_iff.mp (by omega)
        · intro z
          rw [List.map_eq_nil_iff] at z
          rw [z]; rfl) 8 0 N K (by omega) (by omega) hK
    have hpk := xX4_packed ha8 hb8 hF hu hc (show d < 128 by omega)
    by_cases h0 : sd a b = 0
    · -- the row is over
      have hno : ∀ i, hn τ a b F u d i = none := fun i => by
        unfold hn
        rw [h0, Nat.zero_testBit]
        split <;> rfl
      have hp : plc (rl τ F ok last (k + 1) (pop X 8) a b u d) (m + 1) = -4 := by
        rw [rl_open _ _ _ _ _ _ h0]
        split <;> rfl
      rcases h with ⟨-, e⟩ | ⟨i, x, -, -, -, -, h5, -⟩
      · refine ⟨nI a, nI b, nI u, nI d, K1, hK1, -4, hp.symm, Or.inr ⟨rfl, ?_⟩⟩
        rw [lp_X2_placeInFirst_16, if_neg (nI_ge (by omega) (by omega))]
        unfold m_X2_rideFirst
        rw [show (nI 0 : Int32) = 0 from rfl] at e
        rw [hpk, Option.bind_some, e]
        rfl
      · rw [hno i] at h5; cases h5
    · have hrl : rl τ F ok last (k + 1) (pop X 8) a b u d = fl (br τ F ok (rl τ F ok last k) (pop X 8) a b u d) 0 (τ 0) := by rw [rl, if_neg h0]
      rcases h with ⟨h1, e⟩ | ⟨i, x, -, h2, h3, h4, h5, h6, e⟩
      · have hz : rl τ F ok last (k + 1) (pop X 8) a b u d = [] := by
          rw [hrl]
          exact fl_none fun i _ hi => h1 i (Nat.zero_le i) (by omega)
        refine ⟨nI a, nI b, nI u, nI d, K1, hK1, -4, by rw [hz]; rfl, Or.inr ⟨rfl, ?_⟩⟩
        rw [lp_X2_placeInFirst_16, if_neg (nI_ge (by omega) (by omega))]
        unfold m_X2_rideFirst
        rw [show (nI 0 : Int32) = 0 from rfl] at e
        rw [hpk, Option.bind_some, e]
        rfl
      · obtain ⟨L, hLL⟩ := fl_head (g := br τ F ok (rl τ F ok last k) (pop X 8) a b u d) (i := i) (m := τ 0) (t := 0) (Nat.zero_le i) (by omega) (fun i' a1 a2 => h3 i' a1 a2) h6
        obtain ⟨c1, c2, c3, c4, c5, c6⟩ := child i x h5
        have hbr := brc i x h4 h5
        have hne : rl τ F ok last k (pop X 8 + 1) (a ||| 2 ^ nx τ i) (b ||| 2 ^ i) (u ||| x) (d + rdy τ i) ≠ [] := fun z => h6 (by rw [hbr, z]; rfl)
        have hk8 : 8 - pop (X ||| 2 ^ i) 8 = k := by omega
        obtain ⟨a', b', u', d', K2, hK2, t', ht', hrest⟩ := ih (X ||| 2 ^ i) (a ||| 2 ^ nx τ i) (b ||| 2 ^ i) (d + rdy τ i) (u ||| x) n (nI i) K1 (by omega) (by omega) c3 c5 hK1 (Or.inr (by rw [hk8, c4]; exact hne))
        rw [hk8, c4] at ht'
        rw [c4] at hrest
        have hp : plc (rl τ F ok last (k + 1) (pop X 8) a b u d) (m + 1) = if m = 0 then nI i else plc (rl τ F ok last k (pop X 8 + 1) (a ||| 2 ^ nx τ i) (b ||| 2 ^ i) (u ||| x) (d + rdy τ i)) m := by
          rw [hrl, hLL, hbr]
          cases hq : rl τ F ok last k (pop X 8 + 1) (a ||| 2 ^ nx τ i) (b ||| 2 ^ i) (u ||| x) (d + rdy τ i) with
          | nil => exact absurd hq hne
          | cons ρ L' =>
            cases m with
            | zero => rfl
            | succ m => rfl
        refine ⟨a', b', u', d', K2, hK2, t', by rw [hp]; exact ht', ?_⟩
        have step : lp_X2_placeInFirst_16 N (nI place) (lN ν) (lN 1) 0 (nI (τ 3)) kinds rideDays helpKinds nexts masks (nI last) left (n + 1) t (nI (pop X 8)) K (nI a) (nI b) (nI F) (nI u) (nI c) (nI d) = lp_X2_placeInFirst_16 N (nI place) (lN ν) (lN 1) 0 (nI (τ 3)) kinds rideDays helpKinds nexts masks (nI last) left n (nI i) (nI (pop X 8 + 1)) K1 (nI (a ||| 2 ^ nx τ i)) (nI (b ||| 2 ^ i)) (nI F) (nI (u ||| x)) (nI c) (nI (d + rdy τ i)) := by
          rw [lp_X2_placeInFirst_16, if_neg (nI_ge (by omega) (by omega))]
          unfold m_X2_rideFirst
          rw [show (nI 0 : Int32) = 0 from rfl] at e
          rw [hpk, Option.bind_some, e, nI_1]
          simp only [Option.bind_some, Sum.elim_inr]
          rw [if_pos (nI_pos' (by omega))]
        rw [step]
        exact hrest
theorem xX2_rideFirst_lost {τ : Td} (hw : Wf τ) {F : Nat} (hF : F < 128) {ok : Nat → Nat → Bool} {last a b u c d ν N : Nat} (hN : 100 ≤ N) (ha : a < 2 ^ τ 0) (hb : b < 2 ^ τ 0) (hu : u < 128) (hc : c < 128) (hd : d < 80) {kinds rideDays helpKinds nexts masks left : Nat → Int32} (hM : Mr τ kinds rideDays helpKinds nexts masks) (hL : Lok left ok) {V : Nat → Nat} {K : Nat → Int64} (hK : Kok K ν V) (hno : ¬ Go τ F a b u d) : ∃ K', Kok K' ν V ∧ m_X2_rideFirst N (lN ν) (lN 1) 1 K (nI a) (nI b) (nI F) (nI u) (nI c) (nI d) (nI (τ 3)) kinds rideDays helpKinds nexts masks (nI last) left (0 : Int32) = some (-4, K', nI a, nI b, nI F, nI u, nI c, nI d) := by
  have hz : ∀ t, br τ F ok (rl τ F ok last 7) 0 a b u d t = [] := fun t => by
    unfold br
    by_cases hc : (ok t (0 + 1) && (sd a b).testBit t) = true
    · rw [if_pos hc]
      rw [Bool.and_eq_true] at hc
      have hin := (Cn.start τ a b d).in hw ha hb hc.2
      cases hx : hf τ t (sd F u) d with
      | none => rfl
      | some x =>
        simp only
        by_cases hd2 : d + rdy τ t ≤ τ 3
        · rw [if_pos hd2, rl_no hw hF ha hb hno 7 (0 + 1) _ _ _ _ _ ((Cn.start τ a b d).step hw ha hb hc.2) ((He.start τ F u).step hF (hw.2.2.2.2.2.1 t hin.1).2.2.1 hin.2.2.2.1 hin.1 hx) hd2]; rfl
        · rw [if_neg hd2]
    · rw [if_neg hc]
  obtain ⟨K1, hK1, h⟩ := xX2_rideFirst_loop hw hF (ok := ok) (last := last) (c := c) (ν := ν) (N := N) (k := 7) (r := 0) (V := V) (tl := 1) hc (by decide) hM hL (a := a) (b := b) (d := d) (u := u) ha hb hu hd (fun i x K ht h1 h2 hK => ⟨0, K, by decide, xX2_waysOn_late _ _ _ _ _ _ _ _ _ _ _ _ _ _ _ _ _ _ _ _, hK, fun _ => hz i, fun _ => rfl⟩) 8 0 N K (by omega) (by omega) hK
  refine ⟨K1, hK1, ?_⟩
  rcases h with ⟨-, e⟩ | ⟨i, x, -, -, -, -, -, h6, -⟩
  · unfold m_X2_rideFirst
    rw [xX4_packed (hw.p8 ha) (hw.p8 hb) hF hu hc (by omega), Option.bind_some, show (0 : Int32) = nI 0 from rfl, e]
    rfl
  · exact absurd (hz i) h6
theorem xX2_placeInFirst {τ : Td} (hw : Wf τ) {ok : Nat → Nat → Bool} {last a b f u c d N B k : Nat} (hN : 100 ≤ N) (hs : Sok τ a b f u c d) (hB : B < 2 ^ 29) (hlast : last ≤ 8) (hk1 : 1 ≤ k) (hk8 : k ≤ 8) {kinds rideDays helpKinds nexts masks left : Nat → Int32} (hM : Mr τ kinds rideDays helpKinds nexts masks) (hL : Lok left ok) {num : Int64} {K : Nat → Int64} (hK : Mem num K B) : ∃ num' en tl K' a' b' u' d', m_X2_placeInFirst N num K (nI (τ 0)) (nI (τ 3)) kinds rideDays helpKinds nexts masks (nI a) (nI b) (nI f) (nI u) (nI c) (nI d) (nI last) left (nI k) = some (plc (Rw τ f ok last a b u d) k, num', en, tl, K', a', b', nI f, u', nI c, d') ∧ Mem num' K' (B + 1) := by
  obtain ⟨ν, g, rfl, hν, hg⟩ := hK
  have hc : c < 128 := by have := hs.2.2.2.2.2.1; omega
  have hF := hw.p7 hs.2.2.2.1
  have hu := hw.p7 hs.u
  have hd := hs.2.2.2.2.2.2
  have hbeg : m_X2_begin N (lN ν) (nI (τ 0)) (nI (τ 3)) kinds rideDays helpKinds nexts masks (nI a) (nI b) (nI f) (nI u) (nI c) (nI d) (0 : Int32) (lN 1) = _ := xX2_begin hw (ν := ν) (e := 1) (S := 0) hN hs (by decide) hM
  rw [Nat.or_zero] at hbeg
  by_cases h : Go τ f a b u d
  · rw [if_pos h] at hbeg
    obtain ⟨a', b', u', d', K', hK', t', ht', hrest⟩ := xX2_place_loop hw hF hN hs.1 hs.2.1 hc (ν := ν + 1) (by omega) hlast h.1 hk8 hM hL k 0 a b d u N (-4) K (by show 0 + k = k; omega) (by omega) (Cn.start τ a b d) hu (hg.next _) (Or.inl (by omega))
    rw [if_neg (by omega)] at ht'
    have hR : rl τ f ok last (8 - pop 0 8) (pop 0 8) a b u d = Rw τ f ok last a b u d := by
      unfold Rw
      rw [if_neg (by have := h.1; omega)]
      rfl
    rw [hR] at ht'
    refine ⟨lN (ν + 1), lN 1, 0, K', a', b', u', d', ?_, ⟨ν + 1, _, rfl, by omega, hK'⟩⟩
    unfold m_X2_placeInFirst
    rw [show (1 : Int64) = lN 1 from rfl, hbeg, Option.bind_some]
    simp only
    rcases hrest with e | ⟨e4, e⟩
    · rw [show (0 : Int32) = nI (pop 0 8) from rfl, show (nI (pop 0 8) : Int32) = 0 from rfl] at *
      have e' : lp_X2_placeInFirst_16 N (nI k) (lN (ν + 1)) (lN 1) 0 (nI (τ 3)) kinds rideDays helpKinds nexts masks (nI last) left N (-4 : Int32) (0 : Int32) K (nI a) (nI b) (nI f) (nI u) (nI c) (nI d) = _ := e
      rw [e', Option.bind_some, Sum.elim_inl, ht']
    · have e' : lp_X2_placeInFirst_16 N (nI k) (lN (ν + 1)) (lN 1) 0 (nI (τ 3)) kinds rideDays helpKinds nexts masks (nI last) left N (-4 : Int32) (0 : Int32) K (nI a) (nI b) (nI f) (nI u) (nI c) (nI d) = _ := e
      rw [e', Option.bind_some, Sum.elim_inr, ← ht', e4]
  · rw [if_neg h] at hbeg
    obtain ⟨K', hK', e⟩ := xX2_rideFirst_lost hw hF hN (last := last) hs.1 hs.2.1 hu hc hd hM hL (hg.next fun _ => 0) h
    refine ⟨lN (ν + 1), lN 1, 1, K', nI a, nI b, nI u, nI d, ?_, ⟨ν + 1, _, rfl, by omega, hK'⟩⟩
    unfold m_X2_placeInFirst
    rw [show (1 : Int64) = lN 1 from rfl, hbeg, Option.bind_some]
    simp only
    obtain ⟨n, rfl⟩ : ∃ n, N = n + 1 := ⟨N - 1, by omega⟩
    rw [lp_X2_placeInFirst_16, if_neg (show ¬ nI _ ≤ (0 : Int32) from nI_ge (a := 0) (by omega) (by omega)), e, Option.bind_some]
    simp only
    rw [if_neg (by decide), Option.bind_some, Sum.elim_inr, Rw_late hw hF hs.1 hs.2.1 h]
    rfl
