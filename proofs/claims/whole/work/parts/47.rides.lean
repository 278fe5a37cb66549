/-! the calls that ride on: befriend, ride, suggest, handUp -/
theorem six {s : Nat → Int32} {v : Nat → Nat} (h0 : s 0 = nI (v 0)) (h1 : s 1 = nI (v 1)) (h2 : s 2 = nI (v 2)) (h3 : s 3 = nI (v 3)) (h4 : s 4 = nI (v 4)) (h5 : s 5 = nI (v 5)) : ∀ k, k < 6 → s k = nI (v k) := by
  intro k hk
  obtain rfl | rfl | rfl | rfl | rfl | rfl : k = 0 ∨ k = 1 ∨ k = 2 ∨ k = 3 ∨ k = 4 ∨ k = 5 := by omega
  all_goals assumption
theorem or_sub {x y i : Nat} (h : x.testBit i = true) : (x ||| y).testBit i = true := by rw [Nat.testBit_or, h, Bool.true_or]
theorem or_sub' {x y i : Nat} (h : y.testBit i = true) : (x ||| y).testBit i = true := by rw [Nat.testBit_or, h, Bool.or_true]
/-- the standing behind a ride for t with the helpers x -/
def vRide (τ : Td) (v : Nat → Nat) (t x : Nat) : Nat → Nat := vq (v 0 ||| 2 ^ nx τ t) (v 1 ||| 2 ^ t) (v 2) (v 3 ||| x) (v 4) (v 5 + rdy τ t)
theorem Sov.ride {τ : Td} (hw : Wf τ) {v : Nat → Nat} (h : Sov τ v) {t x : Nat} (ht : t < τ 0) (hx : hn τ (v 0) (v 1) (v 2) (v 3) (v 5) t = some x) : Sov τ (vRide τ v t x) := by
  obtain ⟨ha, hb, hba, hf, huf, hc, hd⟩ := h
  obtain ⟨hx7, hxf, hd3, ho⟩ := hn_lt (hw.p7 hf) hx
  rw [sd_tb _ _ (Nat.lt_trans (hw.p8 ha) (by decide)), Bool.and_eq_true] at ho
  refine ⟨or_lt ha (p2_lt (hw.nx t ht)), or_lt hb (p2_lt ht), fun i hi => ?_, hf, fun i hi => ?_, hc, ?_⟩
  · show (v 0 ||| 2 ^ nx τ t).testBit i = true
    have hi2 : (v 1 ||| 2 ^ t).testBit i = true := hi
    rw [or_p2_tb, Bool.or_eq_true, decide_eq_true_eq] at hi2
    rcases hi2 with q | q
    · exact or_sub (hba i q)
    · subst q; exact or_sub ho.1
  · have hi2 : (v 3 ||| x).testBit i = true := hi
    rw [Nat.testBit_or, Bool.or_eq_true] at hi2
    rcases hi2 with q | q
    · exact huf i q
    · have := sub_tb hxf i q
      rw [sd_tb _ _ (Nat.lt_trans (hw.p7 hf) (by decide)), Bool.and_eq_true] at this
      exact this.1
  · show v 5 + rdy τ t < 80
    have h1 := rdy_le hw ht
    have h2 := hw.2.2.2.1.2
    omega
theorem xX6_rides {τ : Td} (hw : Wf τ) {told s : Nat → Int32} (hto : ToR τ told) {v : Nat → Nat} {t x N : Nat} (hN : 100 ≤ N) (hk : Sov τ v) (hs : ∀ k, k < 6 → s k = nI (v k)) (ht : t < τ 0) (hx : hn τ (v 0) (v 1) (v 2) (v 3) (v 5) t = some x) : ∃ s', m_X6_rides N told s (nI t) = some s' ∧ (∀ k, k < 6 → s' k = nI (vRide τ v t x k)) ∧ ∀ k, k ≠ 0 → k ≠ 1 → k ≠ 3 → k ≠ 5 → s' k = s k := by
  have hsr : SR s (v 0) (v 1) (v 2) (v 3) (v 4) (v 5) := ⟨hs 0 (by decide), hs 1 (by decide), hs 2 (by decide), hs 3 (by decide), hs 4 (by decide), hs 5 (by decide)⟩
  have hT8 := hw.1.2
  have hd := hk.2.2.2.2.2.2
  have hnx := hw.nx t ht
  unfold m_X6_rides
  rw [xX6_helpNow hw hto hN hsr ht (hw.p8 hk.1) hk.2.2.2.1 (by omega), Option.bind_some, hx, xX6_daysOf hto (by omega), Option.bind_some, j_bit t (by omega), Option.bind_some, j_a29, if_pos (j_in (by omega) (by decide)), j_clamp (by omega), (hto (29 + t) (by omega)).1, j_bit (τ (29 + t)) (show nx τ t < 31 by omega), Option.bind_some, hs 0 (by decide), hs 1 (by decide), hs 3 (by decide), hs 5 (by decide), show oM (some x) = nI x from rfl, j_or, j_or, j_or, nI_add]
  refine ⟨_, rfl, six ?_ ?_ ?_ ?_ ?_ ?_, fun k a b c d => ?_⟩
  · rw [pk_us]; rfl
  · rw [pk_un (by decide), pk_us]; rfl
  · rw [pk_un (by decide), pk_un (by decide), pk_un (by decide), pk_un (by decide)]; exact hs 2 (by decide)
  · rw [pk_un (by decide), pk_un (by decide), pk_un (by decide), pk_us]; rfl
  · rw [pk_un (by decide), pk_un (by decide), pk_un (by decide), pk_un (by decide)]; exact hs 4 (by decide)
  · rw [pk_un (by decide), pk_un (by decide), pk_us]; rfl
  · rw [pk_un a, pk_un b, pk_un d, pk_un c]
theorem op_ride {τ : Td} {tasks helpers askedFirst crumbsFirst lastDay : Int32} {kinds days rideDays helpKinds nexts helperKinds prices masks told : Nat → Int32} (hm : MoI τ tasks helpers askedFirst crumbsFirst lastDay kinds days rideDays helpKinds nexts helperKinds prices masks told) {v : Nat → Nat} {asked brought friends used crumbs day : Int32} {s : Nat → Int32} (hs : StI τ v asked brought friends used crumbs day s) {q : Nat → Nat → Nat} {p N : Nat} (hN : 100 ≤ N) {size known : Int32} {held : Nat → Int64} {past : Nat → Int32} (hp : PlI τ 8 q p size held known past) (x : Int32) : ∃ r asked' brought' used' day' size' held' known' s' past' v' q' p', m_X5_ride N tasks lastDay kinds rideDays helpKinds nexts masks asked brought friends used crumbs day size held x = some (r, asked', brought', used', day', size', held') ∧ m_X6_ride N known told s past x = some (r, known', s', past') ∧ StI τ v' asked' brought' friends used' crumbs day' s' ∧ PlI τ 8 q' p' size' held' known' past' := by
  have same := hs
  have hpack := hs.packed hm.1
  have hmr := hm.mr
  obtain ⟨hw, hmo, hto⟩ := hm
  obtain ⟨rfl, rfl, rfl, rfl, rfl, h1, h2, h3⟩ := hmo
  have hsr := hs.sr
  obtain ⟨hk, ⟨rfl, rfl, rfl, rfl, rfl, rfl⟩, hs6⟩ := hs
  have ha := hw.p8 hk.1
  have hf := hw.p7 hk.2.2.2.1
  have hd := hk.2.2.2.2.2.2
  unfold m_X5_ride m_X6_ride
  rcases task_cases hw hto x with ⟨e1, e2⟩ | ⟨t, ht, rfl, e1, e2⟩
  · rw [e1, e2]
    exact ⟨_, _, _, _, _, _, _, _, _, _, v, q, p, rfl, rfl, same, hp⟩
  obtain ⟨k1, k2, k3, k4, k5⟩ := h1 t ht
  rw [e1, e2, Option.bind_some, Option.bind_some, if_neg n10, if_neg n10, hpack, Option.bind_some, xX4_tryRide hw ht ha hf (by omega) k1 k4 h3 k3 k5, xX6_helpNow hw hto hN hsr ht ha hk.2.2.2.1 (by omega), Option.bind_some, Option.bind_some]
  cases hx : hn τ (v 0) (v 1) (v 2) (v 3) (v 5) t with
  | none =>
    rw [if_neg (show ¬ 0 ≤ oM none by decide)]
    exact ⟨_, _, _, _, _, _, _, _, _, _, v, q, p, rfl, rfl, same, hp⟩
  | some z =>
    have hz := (hn_lt hf hx).1
    obtain ⟨size', held', known', past', q', p', f1, f2, f3⟩ := op_put hN hp hk hs6
    obtain ⟨s', g1, g2, -⟩ := xX6_rides hw hto hN hk hs6 ht hx
    simp only
    rw [if_neg n10, f1, if_pos (show 0 ≤ oM (some z) from nI_pos' (by omega)), f2, Option.bind_some, Option.bind_some, g1, Option.bind_some, g2 5 (by decide)]
    exact ⟨_, _, _, _, _, _, _, _, _, _, vRide τ v t z, q', p', rfl, rfl, ⟨hk.ride hw ht hx, ⟨rfl, rfl, rfl, rfl, rfl, rfl⟩, g2⟩, f3⟩
/-- befriending -/
def vFriend (τ : Td) (v : Nat → Nat) (h : Nat) : Nat → Nat := vq (v 0) (v 1) (v 2 ||| 2 ^ h) (v 3) (v 4 - pr τ h) (v 5)
theorem Sov.friend {τ : Td} {v : Nat → Nat} (hk : Sov τ v) {h : Nat} (hh : h < τ 1) : Sov τ (vFriend τ v h) := by
  obtain ⟨ha, hb, hba, hf, huf, hc, hd⟩ := hk
  exact ⟨ha, hb, hba, or_lt hf (p2_lt hh), fun i hi => or_sub (huf i hi), by show v 4 - pr τ h < 100; omega, hd⟩
theorem xX4_tryBefriend {τ : Td} (hw : Wf τ) {v : Nat → Nat} (hk : Sov τ v) {h : Nat} (hh : h < τ 1) {prices : Nat → Int32} (h1 : prices h = nI (pr τ h)) : m_X4_tryBefriend (nI (v 2)) (nI (v 4)) prices (nI h) = some (if (v 2).testBit h = false ∧ pr τ h ≤ v 4 then (1, nI (v 2 ||| 2 ^ h), nI (v 4 - pr τ h)) else (0, nI (v 2), nI (v 4))) := by
  have hH7 := hw.2.1
  have hp := (hw.2.2.2.2.2.2 h hh).2
  have hc := hk.2.2.2.2.2.1
  unfold m_X4_tryBefriend
  rw [xX0_priceOf (by omega), Option.bind_some, xX5_bit (by omega), Option.bind_some, h1]
  cases hb : (v 2).testBit h with
  | true => rw [if_neg (fun z => by rw [(j_tb0 (by omega)).mp z] at hb; cases hb), if_neg (fun z => by cases z.1)]
  | false =>
    rw [if_pos ((j_tb0 (by omega)).mpr hb)]
    by_cases q : pr τ h ≤ v 4
    · rw [if_pos (show nI (pr τ h) ≤ nI (v 4) from nI_le q (by omega)), Option.bind_some, j_or, pk_sub q, if_pos ⟨rfl, q⟩]
    · rw [if_neg (show ¬ nI (pr τ h) ≤ nI (v 4) from nI_ge (by omega) (by omega)), if_neg (fun z => q z.2)]
theorem xX6_canBefriend {τ : Td} (hw : Wf τ) {told s : Nat → Int32} (hto : ToR τ told) {v : Nat → Nat} (hk : Sov τ v) (hs : ∀ k, k < 6 → s k = nI (v k)) {h : Nat} (hh : h < τ 1) : m_X6_canBefriend told s (nI h) = some (if (v 2).testBit h = false ∧ pr τ h ≤ v 4 then 1 else 0) := by
  have hH7 := hw.2.1
  have hp := (hw.2.2.2.2.2.2 h hh).2
  have hc := hk.2.2.2.2.2.1
  have hf := hw.p7 hk.2.2.2.1
  unfold m_X6_canBefriend
  rw [hs 2 (by decide), hs 4 (by decide), j_bt (by omega) (by omega)]
  cases hb : (v 2).testBit h with
  | true => rw [if_neg (fun z => (bt0.mp z) rfl), if_neg (fun z => by cases z.1)]
  | false =>
    rw [if_pos (bt0.mpr (by decide)), j_a44, if_pos (j_in (by omega) (by decide)), j_clamp (by omega), (hto (44 + h) (by omega)).1]
    by_cases q : pr τ h ≤ v 4
    · rw [if_neg (show ¬ nI (v 4) < nI (τ (44 + h)) from nI_nlt q (by omega)), if_pos ⟨rfl, q⟩]
    · rw [if_pos (show nI (v 4) < nI (τ (44 + h)) from nI_lt (by show v 4 < pr τ h; omega) (by show pr τ h < 2 ^ 31; omega)), if_neg (fun z => q z.2)]
theorem xX6_befriends {τ : Td} (hw : Wf τ) {told s : Nat → Int32} (hto : ToR τ told) {v : Nat → Nat} (hk : Sov τ v) (hs : ∀ k, k < 6 → s k = nI (v k)) {h : Nat} (hh : h < τ 1) (q : pr τ h ≤ v 4) : ∃ s', m_X6_befriends told s (nI h) = some s' ∧ ∀ k, k < 6 → s' k = nI (vFriend τ v h k) := by
  have hH7 := hw.2.1
  unfold m_X6_befriends
  rw [j_bit h (by omega), Option.bind_some, j_a44, if_pos (j_in (by omega) (by decide)), j_clamp (by omega), (hto (44 + h) (by omega)).1, Option.bind_some, hs 2 (by decide), hs 4 (by decide), j_or, pk_sub q]
  refine ⟨_, rfl, six ?_ ?_ ?_ ?_ ?_ ?_⟩
  · rw [pk_un (by decide), pk_un (by decide)]; exact hs 0 (by decide)
  · rw [pk_un (by decide), pk_un (by decide)]; exact hs 1 (by decide)
  · rw [pk_un (by decide), pk_us]; rfl
  · rw [pk_un (by decide), pk_un (by decide)]; exact hs 3 (by decide)
  · rw [pk_us]; rfl
  · rw [pk_un (by decide), pk_un (by decide)]; exact hs 5 (by decide)
theorem op_befriend {τ : Td} {tasks helpers askedFirst crumbsFirst lastDay : Int32} {kinds days rideDays helpKinds nexts helperKinds prices masks told : Nat → Int32} (hm : MoI τ tasks helpers askedFirst crumbsFirst lastDay kinds days rideDays helpKinds nexts helperKinds prices masks told) {v : Nat → Nat} {asked brought friends used crumbs day : Int32} {s : Nat → Int32} (hs : StI τ v asked brought friends used crumbs day s) {q : Nat → Nat → Nat} {p N : Nat} (hN : 100 ≤ N) {size known : Int32} {held : Nat → Int64} {past : Nat → Int32} (hp : PlI τ 8 q p size held known past) (x : Int32) : ∃ r friends' crumbs' size' held' known' s' past' v' q' p', m_X5_befriend N helpers prices asked brought friends used crumbs day size held x = some (r, friends', crumbs', size', held') ∧ m_X6_befriend N known told s past x = some (r, known', s', past') ∧ StI τ v' asked brought friends' used crumbs' day s' ∧ PlI τ 8 q' p' size' held' known' past' := by
  have same := hs
  have hpack := hs.packed hm.1
  obtain ⟨hw, hmo, hto⟩ := hm
  obtain ⟨rfl, rfl, rfl, rfl, rfl, h1, h2, h3⟩ := hmo
  obtain ⟨hk, ⟨rfl, rfl, rfl, rfl, rfl, rfl⟩, hs6⟩ := hs
  unfold m_X5_befriend m_X6_befriend
  rcases helper_cases hw hto x with ⟨e1, e2⟩ | ⟨h, hh, rfl, e1, e2⟩
  · rw [e1, e2]
    exact ⟨_, _, _, _, _, _, _, _, v, q, p, rfl, rfl, same, hp⟩
  rw [e1, e2, Option.bind_some, Option.bind_some, if_neg n10, if_neg n10, hpack, Option.bind_some, xX4_tryBefriend hw hk hh (h2 h hh).2, xX6_canBefriend hw hto hk hs6 hh, Option.bind_some, Option.bind_some]
  by_cases c : (v 2).testBit h = false ∧ pr τ h ≤ v 4
  · rw [if_pos c, if_pos c]
    obtain ⟨size', held', known', past', q', p', f1, f2, f3⟩ := op_put hN hp hk hs6
    obtain ⟨s', g1, g2⟩ := xX6_befriends hw hto hk hs6 hh c.2
    simp only
    rw [if_neg n10, if_neg n10, f1, f2, Option.bind_some, Option.bind_some, g1, Option.bind_some, g2 4 (by decide)]
    exact ⟨_, _, _, _, _, _, _, _, vFriend τ v h, q', p', rfl, rfl, ⟨hk.friend hh, ⟨rfl, rfl, rfl, rfl, rfl, rfl⟩, g2⟩, f3⟩
  · rw [if_neg c, if_neg c]
    exact ⟨_, _, _, _, _, _, _, _, v, q, p, rfl, rfl, same, hp⟩
/-- what can be suggested -/
def sug (τ : Td) (a d : Nat) : Nat := if τ 3 < d then 0 else sd (2 ^ τ 0 - 1) a
theorem sug_lt (τ : Td) (a d : Nat) : sug τ a d < 2 ^ τ 0 := by
  have := Nat.two_pow_pos (τ 0)
  unfold sug
  split
  · exact this
  · exact Nat.lt_of_le_of_lt (sd_le _ _) (by omega)
theorem p2_m1 {n : Nat} : nI (2 ^ n) - (1 : Int32) = nI (2 ^ n - 1) := pk_sub (a := 2 ^ n) (b := 1) (Nat.two_pow_pos n)
theorem xX4_tasksToSuggest {τ : Td} (hw : Wf τ) {a d : Nat} (hd : d < 80) : m_X4_tasksToSuggest (nI a) (nI d) (nI (τ 0)) (nI (τ 3)) = some (nI (sug τ a d)) := by
  have hT8 := hw.1.2
  have hL := hw.2.2.2.1.2
  unfold m_X4_tasksToSuggest sug
  rw [xX4_isLost (by omega) (by omega), Option.bind_some]
  by_cases h : τ 3 < d
  · rw [if_pos h, if_neg n10, if_pos h]; rfl
  · rw [if_neg h, if_pos (show (0 : Int32) = 0 from rfl), xX5_bit (by omega), Option.bind_some, if_neg h, p2_m1, j_sd]
theorem xX6_silent {τ : Td} (hw : Wf τ) {told s : Nat → Int32} (hto : ToR τ told) {v : Nat → Nat} (hk : Sov τ v) (hs : ∀ k, k < 6 → s k = nI (v k)) : m_X6_silent told s = some (nI (sug τ (v 0) (v 5))) := by
  have hsr : SR s (v 0) (v 1) (v 2) (v 3) (v 4) (v 5) := ⟨hs 0 (by decide), hs 1 (by decide), hs 2 (by decide), hs 3 (by decide), hs 4 (by decide), hs 5 (by decide)⟩
  have hT8 := hw.1.2
  have hd := hk.2.2.2.2.2.2
  unfold m_X6_silent sug
  rw [xX6_isLost hto hsr (by omega), Option.bind_some]
  by_cases h : τ 3 < v 5
  · rw [if_pos h, if_neg n10, if_pos h]; rfl
  · rw [if_neg h, if_pos (show (0 : Int32) = 0 from rfl), if_neg h, (hto 0 (by decide)).1, j_bit (τ 0) (by omega), p2_m1, hs 0 (by decide), hs 1 (by decide), j_sd, j_sd]
    refine congrArg some (congrArg nI ?_)
    have hlt : 2 ^ τ 0 - 1 < 2 ^ 8 := by
      have : 2 ^ τ 0 ≤ 2 ^ 8 := Nat.pow_le_pow_right (by decide) hT8
      have := Nat.two_pow_pos (τ 0)
      omega
    apply Nat.eq_of_testBit_eq
    intro i
    rw [sd_tb _ _ (Nat.lt_of_le_of_lt (sd_le _ _) (by omega)), sd_tb _ _ (by omega)]
    cases hb : (v 1).testBit i with
    | false => simp
    | true => rw [hk.2.2.1 i hb]; simp
def vAsk (v : Nat → Nat) (t : Nat) : Nat → Nat := vq (v 0 ||| 2 ^ t) (v 1) (v 2) (v 3) (v 4) (v 5)
theorem Sov.ask {τ : Td} {v : Nat → Nat} (hk : Sov τ v) {t : Nat} (ht : t < τ 0) : Sov τ (vAsk v t) := by
  obtain ⟨ha, hb, hba, hf, huf, hc, hd⟩ := hk
  exact ⟨or_lt ha (p2_lt ht), hb, fun i hi => or_sub (hba i hi), hf, huf, hc, hd⟩
theorem six_ask {v : Nat → Nat} {s : Nat → Int32} (hs : ∀ k, k < 6 → s k = nI (v k)) (t : Nat) : ∀ k, k < 6 → upd s 0 (nI (v 0 ||| 2 ^ t)) k = nI (vAsk v t k) := six (by rw [pk_us]; rfl) (by rw [pk_un (by decide)]; exact hs 1 (by decide)) (by rw [pk_un (by decide)]; exact hs 2 (by decide)) (by rw [pk_un (by decide)]; exact hs 3 (by decide)) (by rw [pk_un (by decide)]; exact hs 4 (by decide)) (by rw [pk_un (by decide)]; exact hs 5 (by decide))
theorem xX4_trySuggest {τ : Td} (hw : Wf τ) {a d t : Nat} (hd : d < 80) (ht : t < τ 0) : m_X4_trySuggest (nI a) (nI d) (nI (τ 0)) (nI (τ 3)) (nI t) = some (if (sug τ a d).testBit t then (1, nI (a ||| 2 ^ t)) else (0, nI a)) := by
  have hT8 := hw.1.2
  unfold m_X4_trySuggest
  rw [xX4_tasksToSuggest hw hd, Option.bind_some, xX5_bit (by omega), Option.bind_some]
  cases h : (sug τ a d).testBit t with
  | false => rw [if_pos ((j_tb0 (by omega)).mpr h)]; rfl
  | true => rw [if_neg (fun z => by rw [(j_tb0 (by omega)).mp z] at h; cases h), Option.bind_some, j_or]; rfl
theorem op_suggest {τ : Td} {tasks helpers askedFirst crumbsFirst lastDay : Int32} {kinds days rideDays helpKinds nexts helperKinds prices masks told : Nat → Int32} (hm : MoI τ tasks helpers askedFirst crumbsFirst lastDay kinds days rideDays helpKinds nexts helperKinds prices masks told) {v : Nat → Nat} {asked brought friends used crumbs day : Int32} {s : Nat → Int32} (hs : StI τ v asked brought friends used crumbs day s) {q : Nat → Nat → Nat} {p N : Nat} (hN : 100 ≤ N) {size known : Int32} {held : Nat → Int64} {past : Nat → Int32} (hp : PlI τ 8 q p size held known past) (x : Int32) : ∃ r asked' size' held' known' s' past' v' q' p', m_X5_suggest N tasks lastDay asked brought friends used crumbs day size held x = some (r, asked', size', held') ∧ m_X6_suggest N known told s past x = some (r, known', s', past') ∧ StI τ v' asked' brought friends used crumbs day s' ∧ PlI τ 8 q' p' size' held' known' past' := by
  have same := hs
  have hpack := hs.packed hm.1
  obtain ⟨hw, hmo, hto⟩ := hm
  obtain ⟨rfl, rfl, rfl, rfl, rfl, h1, h2, h3⟩ := hmo
  obtain ⟨hk, ⟨rfl, rfl, rfl, rfl, rfl, rfl⟩, hs6⟩ := hs
  have hT8 := hw.1.2
  have hd := hk.2.2.2.2.2.2
  have hsl := hw.p8 (sug_lt τ (v 0) (v 5))
  unfold m_X5_suggest m_X6_suggest
  rcases task_cases hw hto x with ⟨e1, e2⟩ | ⟨t, ht, rfl, e1, e2⟩
  · rw [e1, e2]
    exact ⟨_, _, _, _, _, _, _, v, q, p, rfl, rfl, same, hp⟩
  rw [e1, e2, Option.bind_some, Option.bind_some, if_neg n10, if_neg n10, hpack, Option.bind_some, xX4_trySuggest hw hd ht, xX6_silent hw hto hk hs6, Option.bind_some, Option.bind_some, j_bt (by omega) (by omega)]
  by_cases c : (sug τ (v 0) (v 5)).testBit t = true
  · rw [if_pos c, if_neg (fun z => (bt0.mp z) c)]
    obtain ⟨size', held', known', past', q', p', f1, f2, f3⟩ := op_put hN hp hk hs6
    have g2 := six_ask hs6 t
    have ho : m_X6_open (upd s 0 (nI (v 0 ||| 2 ^ t))) = some (nI (sd (v 0 ||| 2 ^ t) (v 1))) := xX6_open (f := v 2) (u := v 3) (c := v 4) (d := v 5) ⟨g2 0 (by decide), g2 1 (by decide), g2 2 (by decide), g2 3 (by decide), g2 4 (by decide), g2 5 (by decide)⟩
    have hlt : sd (v 0 ||| 2 ^ t) (v 1) < 256 := Nat.lt_of_le_of_lt (sd_le _ _) (hw.p8 (or_lt hk.1 (p2_lt ht)))
    simp only
    rw [if_neg n10, f1, f2, Option.bind_some, Option.bind_some, xX4_openTasks, Option.bind_some, bitCount_pop _ hlt, Option.bind_some, hs6 0 (by decide), j_bit t (by omega), j_or, Option.bind_some, ho, Option.bind_some, xX6_ones hN (by omega), Option.bind_some]
    exact ⟨_, _, _, _, _, _, _, vAsk v t, q', p', rfl, rfl, ⟨hk.ask ht, ⟨rfl, rfl, rfl, rfl, rfl, rfl⟩, g2⟩, f3⟩
  · rw [if_neg c, if_pos (bt0.mpr c)]
    exact ⟨_, _, _, _, _, _, _, v, q, p, rfl, rfl, same, hp⟩
/-- handing a task up -/
def vHand (τ : Td) (v : Nat → Nat) (t : Nat) : Nat → Nat := vq (v 0) (v 1 ||| 2 ^ t) (v 2) (v 3) (v 4) (v 5 + (2 * dy τ t + 1))
theorem op_handUp {τ : Td} {tasks helpers askedFirst crumbsFirst lastDay : Int32} {kinds days rideDays helpKinds nexts helperKinds prices masks told : Nat → Int32} (hm : MoI τ tasks helpers askedFirst crumbsFirst lastDay kinds days rideDays helpKinds nexts helperKinds prices masks told) {v : Nat → Nat} {asked brought friends used crumbs day : Int32} {s : Nat → Int32} (hs : StI τ v asked brought friends used crumbs day s) {q : Nat → Nat → Nat} {p N : Nat} (hN : 100 ≤ N) {size known : Int32} {held : Nat → Int64} {past : Nat → Int32} (hp : PlI τ 8 q p size held known past) (x : Int32) : ∃ r brought' day' size' held' known' s' past' v' q' p', m_X5_handUp N tasks lastDay days asked brought friends used crumbs day size held x = some (r, brought', day', size', held') ∧ m_X6_handUp N known told s past x = some (r, known', s', past') ∧ StI τ v' asked brought' friends used crumbs day' s' ∧ PlI τ 8 q' p' size' held' known' past' := by
  have same := hs
  have hpack := hs.packed hm.1
  obtain ⟨hw, hmo, hto⟩ := hm
  obtain ⟨rfl, rfl, rfl, rfl, rfl, h1, h2, h3⟩ := hmo
  have hsr := hs.sr
  obtain ⟨hk, ⟨rfl, rfl, rfl, rfl, rfl, rfl⟩, hs6⟩ := hs
  have hT8 := hw.1.2
  have hd := hk.2.2.2.2.2.2
  have ha := hw.p8 hk.1
  have hL := hw.2.2.2.1.2
  unfold m_X5_handUp m_X6_handUp m_X4_tryHandUp
  rcases task_cases hw hto x with ⟨e1, e2⟩ | ⟨t, ht, rfl, e1, e2⟩
  · rw [e1, e2]
    exact ⟨_, _, _, _, _, _, _, _, v, q, p, rfl, rfl, same, hp⟩
  obtain ⟨k1, k2, k3, k4, k5⟩ := h1 t ht
  have hdy := (hw.2.2.2.2.2.1 t ht).2.1
  rw [e1, e2, Option.bind_some, Option.bind_some, if_neg n10, if_neg n10, hpack, Option.bind_some, xX4_isLost (by omega) (by omega), xX6_isLost hto hsr (by omega), Option.bind_some, Option.bind_some]
  by_cases hl : τ 3 < v 5
  · rw [if_pos hl, if_neg n10, if_neg n10]
    exact ⟨_, _, _, _, _, _, _, _, v, q, p, rfl, rfl, same, hp⟩
  rw [if_neg hl, if_pos (show (0 : Int32) = 0 from rfl), if_pos (show (0 : Int32) = 0 from rfl), xX4_openTasks, xX6_open hsr, Option.bind_some, Option.bind_some, xX5_bit (by omega), Option.bind_some, j_bt (Nat.lt_of_le_of_lt (sd_le _ _) (by omega)) (by omega)]
  by_cases ho : (sd (v 0) (v 1)).testBit t = true
  · rw [if_neg (fun z => by rw [(j_tb0 (by omega)).mp z] at ho; cases ho), if_neg (fun z => (bt0.mp z) ho), xX0_daysOf (by omega), Option.bind_some, k2]
    obtain ⟨size', held', known', past', q', p', f1, f2, f3⟩ := op_put hN hp hk hs6
    have ed : nI (v 5) + ((2 : Int32) * nI (dy τ t) + (1 : Int32)) = nI (v 5 + (2 * dy τ t + 1)) := by
      rw [show (2 : Int32) = nI 2 from rfl, pk_mul, nI_1, nI_add]
    rw [ed]
    simp only [Option.bind_some, j_or]
    rw [if_neg n10, f1, f2, Option.bind_some, Option.bind_some, j_a13, if_pos (j_in (by omega) (by decide)), j_clamp (by omega), (hto (13 + t) (by omega)).1, hs6 5 (by decide), hs6 1 (by decide), ed, j_bit t (by omega), j_or]
    have ho2 := ho
    rw [sd_tb _ _ (by omega), Bool.and_eq_true] at ho2
    refine ⟨_, _, _, _, _, _, _, _, vHand τ v t, q', p', rfl, rfl, ⟨⟨hk.1, or_lt hk.2.1 (p2_lt ht), fun i hi => ?_, hk.2.2.2.1, hk.2.2.2.2.1, hk.2.2.2.2.2.1, ?_⟩, ⟨rfl, rfl, rfl, rfl, rfl, rfl⟩, six ?_ ?_ ?_ ?_ ?_ ?_⟩, f3⟩
    · have hi2 : (v 1 ||| 2 ^ t).testBit i = true := hi
      rw [or_p2_tb, Bool.or_eq_true, decide_eq_true_eq] at hi2
      rcases hi2 with w | w
      · exact hk.2.2.1 i w
      · subst w; exact ho2.1
    · show v 5 + (2 * dy τ t + 1) < 80
      omega
    · rw [pk_un (by decide), pk_un (by decide)]; exact hs6 0 (by decide)
    · rw [pk_us]; rfl
    · rw [pk_un (by decide), pk_un (by decide)]; exact hs6 2 (by decide)
    · rw [pk_un (by decide), pk_un (by decide)]; exact hs6 3 (by decide)
    · rw [pk_un (by decide), pk_un (by decide)]; exact hs6 4 (by decide)
    · rw [pk_un (by decide), pk_us]; rfl
  · have ho' : (sd (v 0) (v 1)).testBit t = false := by simpa using ho
    rw [if_pos ((j_tb0 (by omega)).mpr ho'), if_pos (bt0.mpr ho)]
    exact ⟨_, _, _, _, _, _, _, _, v, q, p, rfl, rfl, same, hp⟩
