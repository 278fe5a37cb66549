/-! the class's searches over a standing: what may come, waysOf, endsWellWith -/
theorem xX4_come_in {τ : Td} (hw : Wf τ) {b S : Nat} {nexts : Nat → Int32} (hnx : ∀ t, t < τ 0 → nexts t = nI (nx τ t)) : ∀ (m t fuel : Nat), t + m = τ 0 → m < fuel → lp_X4_tasksToCome_16 (nI b) (nI (τ 0)) nexts fuel (nI (cmR τ b t S)) (nI t) = some (nI (cmR τ b (τ 0) S)) := by
  have hT8 := hw.1.2
  intro m
  induction m with
  | zero =>
    intro t fuel ht hf
    obtain ⟨n, rfl⟩ : ∃ n, fuel = n + 1 := ⟨fuel - 1, by omega⟩
    have e : t = τ 0 := by omega
    rw [lp_X4_tasksToCome_16, if_pos (nI_le (by omega) (by omega)), e]
  | succ m ih =>
    intro t fuel ht hf
    obtain ⟨n, rfl⟩ : ∃ n, fuel = n + 1 := ⟨fuel - 1, by omega⟩
    have hx := hw.nx t (by omega)
    have ih1 := ih (t + 1) n (by omega) (by omega)
    have e : cmR τ b (t + 1) S = if (cmR τ b t S).testBit t then cmR τ b t S ||| sd (2 ^ nx τ t) b else cmR τ b t S := rfl
    rw [lp_X4_tasksToCome_16, if_neg (nI_ge (by omega) (by omega)), xX5_bit (by omega), Option.bind_some, nI_1]
    by_cases h : (cmR τ b t S).testBit t = true
    · rw [if_neg (fun z => by rw [(j_tb0 (by omega)).mp z] at h; cases h), xX0_nextOf (by omega), Option.bind_some, hnx t (by omega), xX5_bit (by omega), Option.bind_some, Option.bind_some, j_sd, j_or]
      rw [e, if_pos h] at ih1
      exact ih1
    · have h' : (cmR τ b t S).testBit t = false := by simpa using h
      rw [if_pos ((j_tb0 (by omega)).mpr h')]
      rw [e, if_neg h] at ih1
      exact ih1
theorem xX4_come_out {τ : Td} (hw : Wf τ) {b S N : Nat} (hN : 100 ≤ N) {nexts : Nat → Int32} (hnx : ∀ t, t < τ 0 → nexts t = nI (nx τ t)) : ∀ (m k fuel : Nat), k + m = 8 → m < fuel → lp_X4_tasksToCome_7 N (nI b) (nI (τ 0)) nexts fuel (nI (cmN τ b k S)) (nI k) = some (nI (cmN τ b 8 S)) := by
  have hT8 := hw.1.2
  intro m
  induction m with
  | zero =>
    intro k fuel hk hf
    obtain ⟨n, rfl⟩ : ∃ n, fuel = n + 1 := ⟨fuel - 1, by omega⟩
    have e : k = 8 := by omega
    subst e
    rw [lp_X4_tasksToCome_7, if_pos (show (8 : Int32) ≤ nI _ from nI_le (a := 8) (by omega) (by omega))]
  | succ m ih =>
    intro k fuel hk hf
    obtain ⟨n, rfl⟩ : ∃ n, fuel = n + 1 := ⟨fuel - 1, by omega⟩
    have h1 := xX4_come_in hw (b := b) (S := cmN τ b k S) hnx (τ 0) 0 N (by omega) (by omega)
    rw [lp_X4_tasksToCome_7, if_neg (show ¬ (8 : Int32) ≤ nI _ from nI_ge (b := 8) (by omega) (by decide)), show (0 : Int32) = nI 0 from rfl, show cmN τ b k S = cmR τ b 0 (cmN τ b k S) from rfl, h1, Option.bind_some, nI_1]
    exact ih (k + 1) n (by omega) (by omega)
theorem xX4_tasksToCome {τ : Td} (hw : Wf τ) {a b N : Nat} (hN : 100 ≤ N) {nexts : Nat → Int32} (hnx : ∀ t, t < τ 0 → nexts t = nI (nx τ t)) : m_X4_tasksToCome N (nI a) (nI b) (nI (τ 0)) nexts = some (nI (come τ a b)) := by
  unfold m_X4_tasksToCome
  have h1 := xX4_come_out hw (b := b) (S := sd a b) hN hnx 8 0 N (by omega) (by omega)
  rw [xX4_openTasks, Option.bind_some, show (0 : Int32) = nI 0 from rfl, show sd a b = cmN τ b 0 (sd a b) from rfl, h1]
  rfl
theorem xX0_rideDaysOfSet_loop {τ : Td} (hw : Wf τ) {S : Nat} {rideDays : Nat → Int32} (hrd : ∀ t, t < τ 0 → rideDays t = nI (rdy τ t)) : ∀ (m t fuel : Nat), t + m = τ 0 → m < fuel → lp_X0_rideDaysOfSet_4 (nI S) (nI (τ 0)) rideDays fuel (nI (rds τ S t)) (nI t) = some (nI (rds τ S (τ 0))) := by
  have hT8 := hw.1.2
  intro m
  induction m with
  | zero =>
    intro t fuel ht hf
    obtain ⟨n, rfl⟩ : ∃ n, fuel = n + 1 := ⟨fuel - 1, by omega⟩
    have e : t = τ 0 := by omega
    rw [lp_X0_rideDaysOfSet_4, if_pos (nI_le (by omega) (by omega)), e]
  | succ m ih =>
    intro t fuel ht hf
    obtain ⟨n, rfl⟩ : ∃ n, fuel = n + 1 := ⟨fuel - 1, by omega⟩
    have ih1 := ih (t + 1) n (by omega) (by omega)
    have e : rds τ S (t + 1) = rds τ S t + (if S.testBit t then rdy τ t else 0) := rfl
    rw [lp_X0_rideDaysOfSet_4, if_neg (nI_ge (by omega) (by omega)), xX5_bit (by omega), Option.bind_some, nI_1]
    by_cases h : S.testBit t = true
    · rw [if_neg (fun z => by rw [(j_tb0 (by omega)).mp z] at h; cases h), xX0_rideDaysOf (by omega), Option.bind_some, hrd t (by omega), nI_add]
      rw [e, if_pos h] at ih1
      exact ih1
    · have h' : S.testBit t = false := by simpa using h
      rw [if_pos ((j_tb0 (by omega)).mpr h')]
      rw [e, if_neg h] at ih1
      exact ih1
theorem xX0_rideDaysOfSet {τ : Td} (hw : Wf τ) {S N : Nat} (hN : 100 ≤ N) {rideDays : Nat → Int32} (hrd : ∀ t, t < τ 0 → rideDays t = nI (rdy τ t)) : m_X0_rideDaysOfSet N (nI (τ 0)) rideDays (nI S) = some (nI (rds τ S (τ 0))) := by
  unfold m_X0_rideDaysOfSet
  have hT8 := hw.1.2
  have h1 := xX0_rideDaysOfSet_loop hw (S := S) hrd (τ 0) 0 N (by omega) (by omega)
  have h2 : lp_X0_rideDaysOfSet_4 (nI S) (nI (τ 0)) rideDays N (0 : Int32) (0 : Int32) = some (nI (rds τ S (τ 0))) := h1
  rw [h2]
  rfl
/-- a standing that can come -/
def Sok (τ : Td) (a b f u c d : Nat) : Prop := a < 2 ^ τ 0 ∧ b < 2 ^ τ 0 ∧ (∀ i, b.testBit i = true → a.testBit i = true) ∧ f < 2 ^ τ 1 ∧ (∀ i, u.testBit i = true → f.testBit i = true) ∧ c < 100 ∧ d < 80
theorem Wf.p7 {τ : Td} (hw : Wf τ) {x : Nat} (h : x < 2 ^ τ 1) : x < 128 := Nat.lt_of_lt_of_le h (Nat.pow_le_pow_right (n := 2) (by decide) hw.2.1 : 2 ^ τ 1 ≤ 2 ^ 7)
theorem Sok.u {τ : Td} {a b f u c d : Nat} (h : Sok τ a b f u c d) : u < 2 ^ τ 1 := by
  have e := tb_sub h.2.2.2.2.1
  rw [← e]
  exact Nat.lt_of_le_of_lt Nat.and_le_right h.2.2.2.1
theorem cd_lt {τ : Td} (hw : Wf τ) (a b : Nat) : cd τ a b ≤ 72 := by
  have h1 := rds_le (τ := τ) (come τ a b) (n := τ 0) fun t ht => rdy_le hw ht
  have h2 := hw.1.2
  unfold cd
  omega
theorem xX2_begin {τ : Td} (hw : Wf τ) {a b f u c d S ν e N : Nat} (hN : 100 ≤ N) (hs : Sok τ a b f u c d) (hS : S < 128) {kinds rideDays helpKinds nexts masks : Nat → Int32} (hM : Mr τ kinds rideDays helpKinds nexts masks) : m_X2_begin N (lN ν) (nI (τ 0)) (nI (τ 3)) kinds rideDays helpKinds nexts masks (nI a) (nI b) (nI f) (nI u) (nI c) (nI d) (nI S) (lN e) = some (lN (ν + 1), lN e, (if Go τ (f ||| S) a b u d then 0 else 1), nI a, nI b, nI (f ||| S), nI u, nI c, nI d) := by
  have ha := hw.p8 hs.1
  have hb := hw.p8 hs.2.1
  have hf := hw.p7 hs.2.2.2.1
  have hu := hw.p7 hs.u
  have hc := hs.2.2.2.2.2.1
  have hd := hs.2.2.2.2.2.2
  have hcd := cd_lt hw a b
  have hL := hw.2.2.2.1.2
  have hF : f ||| S < 128 := or_lt (n := 7) hf hS
  unfold m_X2_begin
  rw [xX4_packed ha hb hf hu (by omega) (by omega), Option.bind_some, xX4_unpack ha hb hf hu (by omega) (by omega), Option.bind_some, xX4_tasksToCome hw hN (fun t ht => (hM.1 t ht).2.2.2), Option.bind_some, xX0_rideDaysOfSet hw hN (fun t ht => (hM.1 t ht).2.1), Option.bind_some, nI_add]
  have e1 : lN ν + (1 : Int64) = lN (ν + 1) := lN_add ν 1
  rw [e1, j_or]
  by_cases h : d + cd τ a b ≤ τ 3
  · rw [if_neg (show ¬ nI (τ 3) < nI (d + rds τ (come τ a b) (τ 0)) from nI_nlt h (by omega)), xX4_freeFriends, Option.bind_some, xX0_isHelpEnough hw hN (sd_lt (n := 7) hF) (fun t ht => (hM.1 t ht).1) (fun t ht => (hM.1 t ht).2.2.1) hM.2, Option.bind_some]
    by_cases q : enough τ (come τ a b) (sd (f ||| S) u) = true
    · rw [if_pos q, if_neg (show ¬ (1 : Int32) = 0 by decide), if_pos (show Go τ (f ||| S) a b u d from ⟨h, q⟩)]
    · rw [if_neg q, if_pos (show (0 : Int32) = 0 from rfl), if_neg (show ¬ Go τ (f ||| S) a b u d from fun z => q z.2)]
  · rw [if_pos (show nI (τ 3) < nI (d + rds τ (come τ a b) (τ 0)) from nI_lt (by show τ 3 < d + cd τ a b; omega) (by show d + cd τ a b < 2 ^ 31; omega)), if_neg (show ¬ Go τ (f ||| S) a b u d from fun z => h z.1)]
/-- the rows that end well from a standing on -/
def Rw (τ : Td) (F : Nat) (ok : Nat → Nat → Bool) (last a b u d : Nat) : List (List Nat) := if τ 3 < d then [] else rl τ F ok last 8 0 a b u d
theorem Rw_late {τ : Td} (hw : Wf τ) {F : Nat} (hF : F < 128) {ok : Nat → Nat → Bool} {last a b u d : Nat} (ha : a < 2 ^ τ 0) (hb : b < 2 ^ τ 0) (h : ¬ Go τ F a b u d) : Rw τ F ok last a b u d = [] := by
  unfold Rw
  by_cases q : τ 3 < d
  · rw [if_pos q]
  · rw [if_neg q]
    exact rl_no hw hF ha hb h 8 0 0 a b u d (Cn.start τ a b d) (He.start τ F u) (by omega)
theorem Rw_len {τ : Td} (hw : Wf τ) {F : Nat} {ok : Nat → Nat → Bool} {last a b u d : Nat} (ha : a < 2 ^ τ 0) (hb : b < 2 ^ τ 0) : (Rw τ F ok last a b u d).length ≤ 40320 := by
  unfold Rw
  split
  · simp
  · have h1 := rl_len hw (F := F) (ok := ok) (last := last) ha hb 8 0 0 a b u d (Cn.start τ a b d) (by have := hw.1.2; omega)
    exact Nat.le_trans h1 (by decide)
theorem xX2_waysOn_late (N n : Nat) (num en : Int64) (K : Nat → Int64) (a b F u c d L : Int32) (kinds rideDays helpKinds nexts masks : Nat → Int32) (last : Int32) (left : Nat → Int32) (r : Int32) : m_X2_waysOn N (n + 1) num en 1 K a b F u c d L kinds rideDays helpKinds nexts masks last left r = some (0, K, a, b, F, u, c, d) := by
  rw [m_X2_waysOn, if_neg (by decide)]
theorem xX2_go {τ : Td} (hw : Wf τ) {F : Nat} (hF : F < 128) {ok : Nat → Nat → Bool} {last a b c d u ν e N : Nat} {g : Nat → Nat} (hN : 100 ≤ N) (ha : a < 2 ^ τ 0) (hb : b < 2 ^ τ 0) (hc : c < 128) (hu : u < 128) (hν : ν + 1 < 2 ^ 30) (hlast : last ≤ 8) (he : e = 1 ∨ e = 65536) {kinds rideDays helpKinds nexts masks left : Nat → Int32} (hM : Mr τ kinds rideDays helpKinds nexts masks) (hL : Lok left ok) {K : Nat → Int64} (hK : Kok K ν g) : ∃ K', m_X2_waysOn N 10 (lN (ν + 1)) (lN e) (if Go τ F a b u d then 0 else 1) K (nI a) (nI b) (nI F) (nI u) (nI c) (nI d) (nI (τ 3)) kinds rideDays helpKinds nexts masks (nI last) left (0 : Int32) = some (lN (min e (Rw τ F ok last a b u d).length), K', nI a, nI b, nI F, nI u, nI c, nI d) ∧ Kok K' (ν + 1) (Vi τ F ok last a b d e) := by
  by_cases h : Go τ F a b u d
  · rw [if_pos h]
    have h1 := xX2_waysOn hw hF hN ha hb hc hν hlast h.1 he hM hL 8 10 0 a b d u K rfl (by omega) (Cn.start τ a b d) hu (hK.next _)
    have e0 : pop 0 8 = 0 := rfl
    rw [e0] at h1
    have hR : Rw τ F ok last a b u d = rl τ F ok last 8 0 a b u d := by
      unfold Rw
      rw [if_neg (by have := h.1; omega)]
    rw [hR]
    exact h1
  · rw [if_neg h, Rw_late hw hF ha hb h]
    refine ⟨K, ?_, hK.next _⟩
    rw [xX2_waysOn_late, List.length_nil, Nat.min_zero]
    rfl
/-- the search's memory, with no more than B searches begun -/
def Mem (num : Int64) (K : Nat → Int64) (B : Nat) : Prop := ∃ ν g, num = lN ν ∧ ν ≤ B ∧ Kok K ν g
theorem Mem.mono {num : Int64} {K : Nat → Int64} {B B' : Nat} (h : Mem num K B) (hb : B ≤ B') : Mem num K B' := by
  obtain ⟨ν, g, h1, h2, h3⟩ := h
  exact ⟨ν, g, h1, Nat.le_trans h2 hb, h3⟩
theorem lN_i' (n : Nat) : (lN n).toInt32 = nI n := lN_i n
theorem xX2_waysOf {τ : Td} (hw : Wf τ) {ok : Nat → Nat → Bool} {last a b f u c d N B : Nat} (hN : 100 ≤ N) (hs : Sok τ a b f u c d) (hB : B < 2 ^ 29) (hlast : last ≤ 8) {kinds rideDays helpKinds nexts masks left : Nat → Int32} (hM : Mr τ kinds rideDays helpKinds nexts masks) (hL : Lok left ok) {num : Int64} {K : Nat → Int64} (hK : Mem num K B) : ∃ num' en tl K', m_X2_waysOf N num K (nI (τ 0)) (nI (τ 3)) kinds rideDays helpKinds nexts masks (nI a) (nI b) (nI f) (nI u) (nI c) (nI d) (nI last) left = some (nI (Rw τ f ok last a b u d).length, num', en, tl, K', nI a, nI b, nI f, nI u, nI c, nI d) ∧ Mem num' K' (B + 1) := by
  obtain ⟨ν, g, rfl, hν, hg⟩ := hK
  have hc := hs.2.2.2.2.2.1
  obtain ⟨K', h1, h2⟩ := xX2_go hw (d := d) (hw.p7 hs.2.2.2.1) hN hs.1 hs.2.1 (c := c) (by omega) (hw.p7 hs.u) (by omega) hlast (Or.inr rfl) hM hL hg
  refine ⟨lN (ν + 1), lN 65536, (if Go τ f a b u d then 0 else 1), K', ?_, ⟨ν + 1, _, rfl, by omega, h2⟩⟩
  unfold m_X2_waysOf
  have hbeg : m_X2_begin N (lN ν) (nI (τ 0)) (nI (τ 3)) kinds rideDays helpKinds nexts masks (nI a) (nI b) (nI f) (nI u) (nI c) (nI d) (0 : Int32) (lN 65536) = _ := xX2_begin hw (S := 0) hN hs (by decide) hM
  rw [Nat.or_zero] at hbeg
  rw [show (65536 : Int64) = lN 65536 from rfl, hbeg, Option.bind_some]
  simp only
  rw [h1, Option.bind_some]
  simp only
  have hlen := Rw_len hw (F := f) (ok := ok) (last := last) (u := u) (d := d) hs.1 hs.2.1
  rw [Nat.min_eq_right (by omega), lN_i']
theorem lok_all {left : Nat → Int32} (h : ∀ n, n < 8 → left n = nI 255) : Lok left tt2 := fun n hn => ⟨255, by decide, h n hn, by show ∀ t, t < 8 → true = Nat.testBit 255 t; decide⟩
theorem xX2_endsWellWith {τ : Td} (hw : Wf τ) {a b f u c d N B S : Nat} (hN : 100 ≤ N) (hs : Sok τ a b f u c d) (hS : S < 128) (hB : B < 2 ^ 29) {kinds rideDays helpKinds nexts masks left : Nat → Int32} (hM : Mr τ kinds rideDays helpKinds nexts masks) (hL : Lok left tt2) {num : Int64} {K : Nat → Int64} (hK : Mem num K B) : ∃ num' en tl K', m_X2_endsWellWith N num K 0 left (nI (τ 0)) (nI (τ 3)) kinds rideDays helpKinds nexts masks (nI a) (nI b) (nI f) (nI u) (nI c) (nI d) (nI S) = some ((if Rw τ (f ||| S) tt2 0 a b u d = [] then 0 else 1), num', en, tl, K', nI a, nI b, nI (f ||| S), nI u, nI c, nI d) ∧ Mem num' K' (B + 1) := by
  obtain ⟨ν, g, rfl, hν, hg⟩ := hK
  have hc := hs.2.2.2.2.2.1
  have hF : f ||| S < 128 := or_lt (n := 7) (hw.p7 hs.2.2.2.1) hS
  obtain ⟨K', h1, h2⟩ := xX2_go hw (d := d) hF hN hs.1 hs.2.1 (c := c) (by omega) (hw.p7 hs.u) (by omega) (Nat.zero_le 8) (Or.inl rfl) hM hL hg
  refine ⟨lN (ν + 1), lN 1, (if Go τ (f ||| S) a b u d then 0 else 1), K', ?_, ⟨ν + 1, _, rfl, by omega, h2⟩⟩
  unfold m_X2_endsWellWith
  rw [show (1 : Int64) = lN 1 from rfl, xX2_begin hw hN hs hS hM, Option.bind_some]
  simp only
  have h1' : m_X2_waysOn N 10 (lN (ν + 1)) (lN 1) (if Go τ (f ||| S) a b u d then 0 else 1) K (nI a) (nI b) (nI (f ||| S)) (nI u) (nI c) (nI d) (nI (τ 3)) kinds rideDays helpKinds nexts masks (0 : Int32) left (0 : Int32) = some (lN (min 1 (Rw τ (f ||| S) tt2 0 a b u d).length), K', nI a, nI b, nI (f ||| S), nI u, nI c, nI d) := h1
  rw [h1', Option.bind_some]
  simp only
  have hlt : min 1 (Rw τ (f ||| S) tt2 0 a b u d).length < 2 ^ 63 := by omega
  rw [show (0 : Int64) = lN 0 from rfl, l_cmp hlt (by decide)]
  by_cases q : Rw τ (f ||| S) tt2 0 a b u d = []
  · rw [q, List.length_nil, Nat.min_zero, if_pos (show (if 0 < 0 then 1 else if 0 = 0 then 0 else -1 : Int32) ≤ 0 by decide), if_pos rfl]
  · have hl : 0 < (Rw τ (f ||| S) tt2 0 a b u d).length := List.length_pos_iff.mpr q
    rw [if_pos (show 0 < min 1 (Rw τ (f ||| S) tt2 0 a b u d).length by omega), if_neg (show ¬ (1 : Int32) ≤ 0 by decide), if_neg q]
