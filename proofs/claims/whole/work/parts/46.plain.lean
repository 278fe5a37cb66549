/-! the plain calls: text, task, helper, help, count, mayCome, forWhat -/
/-- class and reference have the same months laid -/
def MoI (τ : Td) (tasks helpers askedFirst crumbsFirst lastDay : Int32) (kinds days rideDays helpKinds nexts helperKinds prices masks told : Nat → Int32) : Prop := Wf τ ∧ MoR τ tasks helpers askedFirst crumbsFirst lastDay kinds days rideDays helpKinds nexts helperKinds prices masks ∧ ToR τ told
theorem MoI.mr {τ : Td} {tasks helpers askedFirst crumbsFirst lastDay : Int32} {kinds days rideDays helpKinds nexts helperKinds prices masks told : Nat → Int32} (h : MoI τ tasks helpers askedFirst crumbsFirst lastDay kinds days rideDays helpKinds nexts helperKinds prices masks told) : Mr τ kinds rideDays helpKinds nexts masks := ⟨fun t ht => ⟨(h.2.1.2.2.2.2.2.1 t ht).1, (h.2.1.2.2.2.2.2.1 t ht).2.2.1, (h.2.1.2.2.2.2.2.1 t ht).2.2.2.1, (h.2.1.2.2.2.2.2.1 t ht).2.2.2.2⟩, h.2.1.2.2.2.2.2.2.2⟩
/-- the same text is written -/
def TxI (n : Nat) (letters : Int32) (text : Nat → Int32) (typed : Int32) (mtext : Nat → Int32) : Prop := n ≤ 200 ∧ letters = nI n ∧ typed = nI n ∧ ∀ i, i < n → ∃ c, 32 ≤ c ∧ c ≤ 126 ∧ text i = nI c ∧ mtext i = nI c
theorem op_write {n : Nat} {letters typed : Int32} {text mtext : Nat → Int32} (h : TxI n letters text typed mtext) (x : Int32) : ∃ r letters' text' typed' mtext' n', m_X5_write letters text x = some (r, letters', text') ∧ m_X6_write typed mtext x = some (r, typed', mtext') ∧ TxI n' letters' text' typed' mtext' := by
  have same := h
  obtain ⟨hn, rfl, rfl, hc⟩ := h
  unfold m_X5_write m_X6_write m_X6_in
  by_cases h1 : x < 32
  · rw [if_pos h1, if_pos h1]
    exact ⟨_, _, _, _, _, n, rfl, rfl, same⟩
  rw [if_neg h1, if_neg h1]
  by_cases h2 : x ≤ 126
  · have h2' : ¬ (126 : Int32) < x := Int32.not_lt.mpr h2
    rw [if_pos h2, if_neg h2', Option.bind_some, Option.bind_some, if_neg n10, if_neg (show ¬ nI n < 0 from nI_pos (by omega))]
    have h0 : ¬ x < 0 := fun z => h1 (Int32.lt_trans z (by decide))
    obtain ⟨c, hc31, rfl⟩ := nI_of h0
    have hc1 : 32 ≤ c := by
      rcases Nat.lt_or_ge c 32 with q | q
      · exact absurd (show nI c < (32 : Int32) from nI_lt (b := 32) q (by decide)) h1
      · exact q
    have hc2 : c ≤ 126 := (nI_leI (b := 126) hc31 (by decide)).mp h2
    by_cases hn2 : n < 200
    · have e : vp_nar .char ((nI c).toUInt32 % 65536).toInt32 = nI c := by
        rw [pk_vc, pk_char, pk_tn (by omega)]
        exact congrArg nI (by omega)
      rw [if_pos (show nI n < (200 : Int32) from nI_lt (b := 200) hn2 (by decide)), if_pos (j_in hn2 (by decide)), j_clamp (by omega), if_neg (show ¬ nI n = (200 : Int32) from fun z => by have := (nI_eq (b := 200) (by omega) (by decide)).mp z; omega), if_pos (j_in hn2 (by decide)), nI_1, e]
      refine ⟨_, _, _, _, _, n + 1, rfl, rfl, by omega, rfl, rfl, fun i hi => ?_⟩
      by_cases q : i = n
      · subst q; exact ⟨c, hc1, hc2, pk_us, pk_us⟩
      · obtain ⟨d, d1, d2, d3, d4⟩ := hc i (by omega)
        exact ⟨d, d1, d2, by rw [pk_un q]; exact d3, by rw [pk_un q]; exact d4⟩
    · have e : n = 200 := by omega
      subst e
      rw [if_neg (show ¬ nI 200 < (200 : Int32) by decide), if_pos (show nI 200 = (200 : Int32) from rfl)]
      exact ⟨_, _, _, _, _, 200, rfl, rfl, same⟩
  · have h2' : (126 : Int32) < x := Int32.not_le.mp h2
    rw [if_neg h2, if_pos h2']
    exact ⟨_, _, _, _, _, n, rfl, rfl, same⟩
theorem op_wipe {n : Nat} {letters typed : Int32} {text mtext : Nat → Int32} (h : TxI n letters text typed mtext) : ∃ r, m_X5_wipe letters = some (r, 0) ∧ m_X6_wipe typed = some (r, 0) ∧ TxI 0 0 text 0 mtext := by
  obtain ⟨hn, rfl, rfl, hc⟩ := h
  exact ⟨_, rfl, rfl, Nat.zero_le _, rfl, rfl, fun i hi => by omega⟩
theorem bt1 {p : Prop} [Decidable p] : (nI (if p then 1 else 0) = (1 : Int32)) ↔ p := by
  by_cases h : p
  · rw [if_pos h]; exact ⟨fun _ => h, fun _ => rfl⟩
  · rw [if_neg h]; exact ⟨fun z => absurd z (by decide), fun z => absurd z h⟩
theorem bt0 {p : Prop} [Decidable p] : (nI (if p then 1 else 0) = 0) ↔ ¬ p := by
  by_cases h : p
  · rw [if_pos h]; exact ⟨fun z => absurd z (by decide), fun z => absurd h z⟩
  · rw [if_neg h]; exact ⟨fun _ => h, fun _ => rfl⟩
/-- one bit of a set: asked as a truth, or cut out -/
theorem bit_test {a t : Nat} (ha : a < 2 ^ 31) (ht : t < 31) : ((m_X5_bit (nI t)).bind fun r => if (nI a &&& r) = 0 then (m_X5_oneIf (0 : Int32)).bind fun r14 => some r14 else (m_X5_oneIf (1 : Int32)).bind fun r16 => some r16) = some ((nI a >>> (nI t &&& 31)) &&& (1 : Int32)) := by
  rw [xX5_bit ht, Option.bind_some, j_bt ha ht]
  cases h : a.testBit t with
  | false => rw [if_pos ((j_tb0 ht).mpr h)]; rfl
  | true => rw [if_neg (fun z => by rw [(j_tb0 ht).mp z] at h; cases h)]; rfl
theorem op_task {τ : Td} {tasks helpers askedFirst crumbsFirst lastDay : Int32} {kinds days rideDays helpKinds nexts helperKinds prices masks told : Nat → Int32} (hm : MoI τ tasks helpers askedFirst crumbsFirst lastDay kinds days rideDays helpKinds nexts helperKinds prices masks told) {v : Nat → Nat} {asked brought friends used crumbs day : Int32} {s : Nat → Int32} (hs : StI τ v asked brought friends used crumbs day s) {N : Nat} (hN : 100 ≤ N) (x y : Int32) : ∃ r, m_X5_task tasks lastDay kinds days helpKinds nexts masks asked brought friends used day x y = some r ∧ m_X6_task N told s x y = some r := by
  obtain ⟨hw, hmo, hto⟩ := hm
  obtain ⟨rfl, rfl, rfl, rfl, rfl, h1, h2, h3⟩ := hmo
  have hsr := hs.sr
  obtain ⟨hk, ⟨rfl, rfl, rfl, rfl, rfl, rfl⟩, hs6⟩ := hs
  have hT8 := hw.1.2
  have ha := hw.p8 hk.1
  have hb := hw.p8 hk.2.1
  have hf := hw.p7 hk.2.2.2.1
  have hd := hk.2.2.2.2.2.2
  unfold m_X5_task m_X6_task
  rcases task_cases hw hto x with ⟨e1, e2⟩ | ⟨t, ht, rfl, e1, e2⟩
  · rw [e1, e2]
    exact ⟨_, rfl, rfl⟩
  obtain ⟨k1, k2, k3, k4, k5⟩ := h1 t ht
  rw [e1, e2, Option.bind_some, Option.bind_some, if_neg n10, if_neg n10]
  by_cases y0 : y = 0
  · rw [if_pos y0, if_pos y0, xX0_kindOf (by omega), j_a5, if_pos (j_in (by omega) (by decide)), j_clamp (by omega), (hto _ (by omega)).1, k1]
    exact ⟨_, rfl, rfl⟩
  rw [if_neg y0, if_neg y0]
  by_cases y1 : y = 1
  · rw [if_pos y1, if_pos y1, xX0_daysOf (by omega), j_a13, if_pos (j_in (by omega) (by decide)), j_clamp (by omega), (hto _ (by omega)).1, k2]
    exact ⟨_, rfl, rfl⟩
  rw [if_neg y1, if_neg y1]
  by_cases y2 : y = 2
  · rw [if_pos y2, if_pos y2, xX0_helpKindOf (by omega), j_a21, if_pos (j_in (by omega) (by decide)), j_clamp (by omega), (hto _ (by omega)).1, k4]
    exact ⟨_, rfl, rfl⟩
  rw [if_neg y2, if_neg y2]
  by_cases y3 : y = 3
  · rw [if_pos y3, if_pos y3, xX0_nextOf (by omega), j_a29, if_pos (j_in (by omega) (by decide)), j_clamp (by omega), (hto _ (by omega)).1, k5]
    exact ⟨_, rfl, rfl⟩
  rw [if_neg y3, if_neg y3]
  by_cases y4 : y = 4
  · rw [if_pos y4, if_pos y4, bit_test (by omega) (by omega), hs6 0 (by decide)]
    exact ⟨_, rfl, rfl⟩
  rw [if_neg y4, if_neg y4]
  by_cases y5 : y = 5
  · rw [if_pos y5, if_pos y5, bit_test (by omega) (by omega), hs6 1 (by decide)]
    exact ⟨_, rfl, rfl⟩
  rw [if_neg y5, if_neg y5]
  by_cases y6 : y = 6
  · rw [if_pos y6, if_pos y6, xX4_helpersFor hw ht ha hf (by omega) k1 k4 h3, xX6_helpNow hw hto hN hsr ht ha hk.2.2.2.1 (by omega), Option.bind_some, Option.bind_some]
    cases hx : hn τ (v 0) (v 1) (v 2) (v 3) (v 5) t with
    | none => exact ⟨0, rfl, rfl⟩
    | some z =>
      have hz := (hn_lt hf hx).1
      rw [show oC (some z) = nI z from rfl, show oM (some z) = nI z from rfl, if_neg (nI_pos (by omega)), if_pos (nI_pos' (by omega))]
      exact ⟨1, rfl, rfl⟩
  rw [if_neg y6, if_neg y6]
  exact ⟨_, rfl, rfl⟩
theorem op_helper {τ : Td} {tasks helpers askedFirst crumbsFirst lastDay : Int32} {kinds days rideDays helpKinds nexts helperKinds prices masks told : Nat → Int32} (hm : MoI τ tasks helpers askedFirst crumbsFirst lastDay kinds days rideDays helpKinds nexts helperKinds prices masks told) {v : Nat → Nat} {asked brought friends used crumbs day : Int32} {s : Nat → Int32} (hs : StI τ v asked brought friends used crumbs day s) (x y : Int32) : ∃ r, m_X5_helper helpers helperKinds prices friends used x y = some r ∧ m_X6_helper told s x y = some r := by
  obtain ⟨hw, hmo, hto⟩ := hm
  obtain ⟨rfl, rfl, rfl, rfl, rfl, h1, h2, h3⟩ := hmo
  obtain ⟨hk, ⟨rfl, rfl, rfl, rfl, rfl, rfl⟩, hs6⟩ := hs
  have hH7 := hw.2.1
  have hf := hw.p7 hk.2.2.2.1
  have hu := hw.p7 hk.u
  unfold m_X5_helper m_X6_helper
  rcases helper_cases hw hto x with ⟨e1, e2⟩ | ⟨h, hh, rfl, e1, e2⟩
  · rw [e1, e2]
    exact ⟨_, rfl, rfl⟩
  obtain ⟨k1, k2⟩ := h2 h hh
  rw [e1, e2, Option.bind_some, Option.bind_some, if_neg n10, if_neg n10]
  by_cases y0 : y = 0
  · rw [if_pos y0, if_pos y0, xX0_helperKindOf (by omega), j_a37, if_pos (j_in (by omega) (by decide)), j_clamp (by omega), (hto _ (by omega)).1, k1]
    exact ⟨_, rfl, rfl⟩
  rw [if_neg y0, if_neg y0]
  by_cases y1 : y = 1
  · rw [if_pos y1, if_pos y1, xX0_priceOf (by omega), j_a44, if_pos (j_in (by omega) (by decide)), j_clamp (by omega), (hto _ (by omega)).1, k2]
    exact ⟨_, rfl, rfl⟩
  rw [if_neg y1, if_neg y1]
  by_cases y2 : y = 2
  · rw [if_pos y2, if_pos y2, bit_test (by omega) (by omega), hs6 2 (by decide)]
    exact ⟨_, rfl, rfl⟩
  rw [if_neg y2, if_neg y2]
  by_cases y3 : y = 3
  · rw [if_pos y3, if_pos y3, bit_test (by omega) (by omega), hs6 3 (by decide)]
    exact ⟨_, rfl, rfl⟩
  rw [if_neg y3, if_neg y3]
  exact ⟨_, rfl, rfl⟩
theorem op_help {τ : Td} {tasks helpers askedFirst crumbsFirst lastDay : Int32} {kinds days rideDays helpKinds nexts helperKinds prices masks told : Nat → Int32} (hm : MoI τ tasks helpers askedFirst crumbsFirst lastDay kinds days rideDays helpKinds nexts helperKinds prices masks told) {v : Nat → Nat} {asked brought friends used crumbs day : Int32} {s : Nat → Int32} (hs : StI τ v asked brought friends used crumbs day s) {N : Nat} (hN : 100 ≤ N) (x : Int32) : ∃ r, m_X5_help tasks lastDay kinds helpKinds masks asked brought friends used day x = some r ∧ m_X6_help N told s x = some r := by
  obtain ⟨hw, hmo, hto⟩ := hm
  obtain ⟨rfl, rfl, rfl, rfl, rfl, h1, h2, h3⟩ := hmo
  have hsr := hs.sr
  obtain ⟨hk, ⟨rfl, rfl, rfl, rfl, rfl, rfl⟩, hs6⟩ := hs
  have ha := hw.p8 hk.1
  have hf := hw.p7 hk.2.2.2.1
  have hd := hk.2.2.2.2.2.2
  unfold m_X5_help m_X6_help
  rcases task_cases hw hto x with ⟨e1, e2⟩ | ⟨t, ht, rfl, e1, e2⟩
  · rw [e1, e2]
    exact ⟨_, rfl, rfl⟩
  obtain ⟨k1, k2, k3, k4, k5⟩ := h1 t ht
  rw [e1, e2, Option.bind_some, Option.bind_some, if_neg n10, if_neg n10, xX4_helpersFor hw ht ha hf (by omega) k1 k4 h3, xX6_helpNow hw hto hN hsr ht ha hk.2.2.2.1 (by omega), Option.bind_some, Option.bind_some]
  cases hx : hn τ (v 0) (v 1) (v 2) (v 3) (v 5) t with
  | none => exact ⟨-2, rfl, rfl⟩
  | some z =>
    have hz := (hn_lt hf hx).1
    rw [show oC (some z) = nI z from rfl, show oM (some z) = nI z from rfl, if_pos (nI_pos' (by omega))]
    exact ⟨_, rfl, rfl⟩
/-- what may come, as the reference counts it -/
theorem xX6_come_in {τ : Td} (hw : Wf τ) {told s : Nat → Int32} (hto : ToR τ told) {b S : Nat} (hb : s 1 = nI b) (hS : S < 2 ^ τ 0) : ∀ (m t fuel : Nat), t + m = τ 0 → m < fuel → lp_X6_comes_15 told s fuel (nI (cmR τ b t S)) (nI t) = some (nI (cmR τ b (τ 0) S)) := by
  have hT8 := hw.1.2
  intro m
  induction m with
  | zero =>
    intro t fuel ht hfu
    obtain ⟨n, rfl⟩ : ∃ n, fuel = n + 1 := ⟨fuel - 1, by omega⟩
    have e : t = τ 0 := by omega
    rw [lp_X6_comes_15, (hto 0 (by decide)).1, if_pos (nI_le (by omega) (by omega)), e]
  | succ m ih =>
    intro t fuel ht hfu
    obtain ⟨n, rfl⟩ : ∃ n, fuel = n + 1 := ⟨fuel - 1, by omega⟩
    have hx := hw.nx t (by omega)
    have ih1 := ih (t + 1) n (by omega) (by omega)
    have hlt := hw.p8 (cmR_lt (b := b) hS hw.nx t (by omega))
    have e : cmR τ b (t + 1) S = if (cmR τ b t S).testBit t then cmR τ b t S ||| sd (2 ^ nx τ t) b else cmR τ b t S := rfl
    rw [lp_X6_comes_15, (hto 0 (by decide)).1, if_neg (nI_ge (by omega) (by omega)), j_bt (by omega) (by omega), nI_1]
    by_cases h : (cmR τ b t S).testBit t = true
    · rw [if_pos (by rw [if_pos h]; rfl), j_a29, if_pos (j_in (by omega) (by decide)), j_clamp (by omega), (hto (29 + t) (by omega)).1, hb, j_bit (τ (29 + t)) (show nx τ t < 31 by omega), Option.bind_some, j_sd, j_or]
      rw [e, if_pos h] at ih1
      exact ih1
    · rw [if_neg (by rw [if_neg h]; decide), show (0 : Int32) = nI 0 from rfl, j_or, Nat.or_zero]
      rw [e, if_neg h] at ih1
      exact ih1
theorem xX6_come_out {τ : Td} (hw : Wf τ) {told s : Nat → Int32} (hto : ToR τ told) {b S N : Nat} (hN : 100 ≤ N) (hb : s 1 = nI b) (hS : S < 2 ^ τ 0) : ∀ (m k fuel : Nat), k + m = 8 → m < fuel → lp_X6_comes_7 N told s fuel (nI (cmN τ b k S)) (nI k) = some (nI (cmN τ b 8 S)) := by
  have hT8 := hw.1.2
  intro m
  induction m with
  | zero =>
    intro k fuel hk hfu
    obtain ⟨n, rfl⟩ : ∃ n, fuel = n + 1 := ⟨fuel - 1, by omega⟩
    have e : k = 8 := by omega
    subst e
    rw [lp_X6_comes_7, if_pos (show (8 : Int32) ≤ nI _ from nI_le (a := 8) (by omega) (by omega))]
  | succ m ih =>
    intro k fuel hk hfu
    obtain ⟨n, rfl⟩ : ∃ n, fuel = n + 1 := ⟨fuel - 1, by omega⟩
    have h1 := xX6_come_in hw hto (b := b) (S := cmN τ b k S) hb (cmN_lt hS hw.nx k) (τ 0) 0 N (by omega) (by omega)
    have h2 : lp_X6_comes_15 told s N (nI (cmN τ b k S)) (0 : Int32) = some (nI (cmR τ b (τ 0) (cmN τ b k S))) := h1
    rw [lp_X6_comes_7, if_neg (show ¬ (8 : Int32) ≤ nI _ from nI_ge (b := 8) (by omega) (by decide)), h2, Option.bind_some, nI_1]
    exact ih (k + 1) n (by omega) (by omega)
theorem xX6_comes {τ : Td} (hw : Wf τ) {told s : Nat → Int32} (hto : ToR τ told) {a b f u c d N : Nat} (hN : 100 ≤ N) (hs : SR s a b f u c d) (ha : a < 2 ^ τ 0) : m_X6_comes N told s = some (nI (come τ a b)) := by
  unfold m_X6_comes
  have h1 := xX6_come_out hw hto (b := b) (S := sd a b) hN hs.2.1 (sd_lt ha) 8 0 N (by omega) (by omega)
  have h2 : lp_X6_comes_7 N told s N (nI (sd a b)) (0 : Int32) = some (nI (come τ a b)) := h1
  rw [xX6_open hs, Option.bind_some, h2]
  rfl
theorem op_mayCome {τ : Td} {tasks helpers askedFirst crumbsFirst lastDay : Int32} {kinds days rideDays helpKinds nexts helperKinds prices masks told : Nat → Int32} (hm : MoI τ tasks helpers askedFirst crumbsFirst lastDay kinds days rideDays helpKinds nexts helperKinds prices masks told) {v : Nat → Nat} {asked brought friends used crumbs day : Int32} {s : Nat → Int32} (hs : StI τ v asked brought friends used crumbs day s) {N : Nat} (hN : 100 ≤ N) : ∃ r, m_X5_mayCome N tasks nexts asked brought = some r ∧ m_X6_mayCome N told s = some r := by
  have hmr := hm.mr
  obtain ⟨hw, hmo, hto⟩ := hm
  obtain ⟨rfl, rfl, rfl, rfl, rfl, h1, h2, h3⟩ := hmo
  have hsr := hs.sr
  obtain ⟨hk, ⟨rfl, rfl, rfl, rfl, rfl, rfl⟩, hs6⟩ := hs
  refine ⟨nI (come τ (v 0) (v 1)), ?_, ?_⟩
  · unfold m_X5_mayCome
    rw [xX4_tasksToCome hw hN fun t ht => (hmr.1 t ht).2.2.2]
    rfl
  · unfold m_X6_mayCome
    rw [xX6_comes hw hto hN hsr hk.1]
    rfl
/-- whose N a task is -/
def wh (τ : Td) (C t : Nat) : Nat → Nat
  | 0 => 0
  | n + 1 => wh τ C t n ||| (if n ≠ t ∧ C.testBit n = true ∧ nx τ n = t then 2 ^ n else 0)
theorem wh_tb (τ : Td) (C t i : Nat) : ∀ n, (wh τ C t n).testBit i = true ↔ i < n ∧ i ≠ t ∧ C.testBit i = true ∧ nx τ i = t
  | 0 => by simp [wh]
  | n + 1 => by
    rw [wh, Nat.testBit_or, Bool.or_eq_true, wh_tb τ C t i n]
    by_cases h : n ≠ t ∧ C.testBit n = true ∧ nx τ n = t
    · rw [if_pos h, Nat.testBit_two_pow, decide_eq_true_eq]
      constructor
      · intro q
        rcases q with ⟨q1, q2⟩ | rfl
        · exact ⟨by omega, q2⟩
        · exact ⟨by omega, h⟩
      · intro ⟨q1, q2⟩
        by_cases e : n = i
        · exact Or.inr e
        · exact Or.inl ⟨by omega, q2⟩
    · rw [if_neg h, Nat.zero_testBit]
      constructor
      · intro q
        rcases q with ⟨q1, q2⟩ | q
        · exact ⟨by omega, q2⟩
        · cases q
      · intro ⟨q1, q2⟩
        by_cases e : n = i
        · subst e; exact absurd q2 h
        · exact Or.inl ⟨by omega, q2⟩
theorem wh_lt (τ : Td) (C t n : Nat) : wh τ C t n < 2 ^ n := tb_lt fun i hi => by
  cases h : (wh τ C t n).testBit i with
  | false => rfl
  | true => have := ((wh_tb τ C t i n).mp h).1; omega
theorem xX0_tasksThatAsk_loop {τ : Td} (hw : Wf τ) {nexts : Nat → Int32} (hnx : ∀ t, t < τ 0 → nexts t = nI (nx τ t)) {g : Nat} (hg : g < 100) : ∀ (m t fuel : Nat), t + m = τ 0 → m < fuel → lp_X0_tasksThatAsk_4 (nI g) (nI (τ 0)) nexts fuel (nI (wh τ 255 g t)) (nI t) = some (nI (wh τ 255 g (τ 0))) := by
  have hT8 := hw.1.2
  intro m
  induction m with
  | zero =>
    intro t fuel ht hfu
    obtain ⟨n, rfl⟩ : ∃ n, fuel = n + 1 := ⟨fuel - 1, by omega⟩
    have e : t = τ 0 := by omega
    rw [lp_X0_tasksThatAsk_4, if_pos (nI_le (by omega) (by omega)), e]
  | succ m ih =>
    intro t fuel ht hfu
    obtain ⟨n, rfl⟩ : ∃ n, fuel = n + 1 := ⟨fuel - 1, by omega⟩
    have hx := hw.nx t (by omega)
    have ih1 := ih (t + 1) n (by omega) (by omega)
    have e : wh τ 255 g (t + 1) = wh τ 255 g t ||| (if t ≠ g ∧ (255 : Nat).testBit t = true ∧ nx τ t = g then 2 ^ t else 0) := rfl
    have h255 : (255 : Nat).testBit t = true := by
      have : ∀ t, t < 8 → (255 : Nat).testBit t = true := by decide
      exact this t (by omega)
    have et := nI_eq (a := t) (b := g) (by omega) (by omega)
    have en := nI_eq (a := nx τ t) (b := g) (by omega) (by omega)
    rw [lp_X0_tasksThatAsk_4, if_neg (nI_ge (by omega) (by omega)), nI_1]
    by_cases q : t = g
    · rw [if_pos (et.mpr q)]
      rw [e, if_neg (fun z => z.1 q), Nat.or_zero] at ih1
      exact ih1
    · rw [if_neg (fun z => q (et.mp z)), xX0_nextOf (by omega), Option.bind_some, hnx t (by omega)]
      by_cases w : nx τ t = g
      · rw [if_pos (en.mpr w), xX5_bit (by omega), Option.bind_some, j_or]
        rw [e, if_pos ⟨q, h255, w⟩] at ih1
        exact ih1
      · rw [if_neg (fun z => w (en.mp z))]
        rw [e, if_neg (fun z => w z.2.2), Nat.or_zero] at ih1
        exact ih1
theorem xX6_forWhat_loop {τ : Td} (hw : Wf τ) {told s : Nat → Int32} (hto : ToR τ told) {C g N : Nat} (hC : m_X6_comes N told s = some (nI C)) (hC8 : C < 256) (hg : g < 100) : ∀ (m t fuel : Nat), t + m = τ 0 → m < fuel → lp_X6_forWhat_49 N (nI g) told s fuel (nI (wh τ C g t)) (nI t) = some (nI (wh τ C g (τ 0))) := by
  have hT8 := hw.1.2
  intro m
  induction m with
  | zero =>
    intro t fuel ht hfu
    obtain ⟨n, rfl⟩ : ∃ n, fuel = n + 1 := ⟨fuel - 1, by omega⟩
    have e : t = τ 0 := by omega
    rw [lp_X6_forWhat_49, (hto 0 (by decide)).1, if_pos (nI_le (by omega) (by omega)), e]
  | succ m ih =>
    intro t fuel ht hfu
    obtain ⟨n, rfl⟩ : ∃ n, fuel = n + 1 := ⟨fuel - 1, by omega⟩
    have hx := hw.nx t (by omega)
    have ih1 := ih (t + 1) n (by omega) (by omega)
    have e : wh τ C g (t + 1) = wh τ C g t ||| (if t ≠ g ∧ C.testBit t = true ∧ nx τ t = g then 2 ^ t else 0) := rfl
    have et := nI_eq (a := t) (b := g) (by omega) (by omega)
    have en : nI (τ (29 + t)) = nI g ↔ nx τ t = g := nI_eq (a := nx τ t) (b := g) (by omega) (by omega)
    have or0 : ∀ x, nI x ||| (0 : Int32) = nI x := fun x => by rw [show (0 : Int32) = nI 0 from rfl, j_or, Nat.or_zero]
    rw [lp_X6_forWhat_49, (hto 0 (by decide)).1, if_neg (nI_ge (by omega) (by omega)), nI_1, or0]
    by_cases q : t = g
    · rw [if_pos (et.mpr q)]
      rw [e, if_neg (fun z => z.1 q), Nat.or_zero] at ih1
      exact ih1
    · rw [if_neg (fun z => q (et.mp z)), hC, Option.bind_some, j_bt (by omega) (by omega)]
      by_cases c : C.testBit t = true
      · rw [if_pos (by rw [if_pos c]; rfl), j_a29, if_pos (j_in (by omega) (by decide)), j_clamp (by omega), (hto (29 + t) (by omega)).1]
        by_cases w : nx τ t = g
        · rw [if_pos (en.mpr w), j_bit t (by omega), Option.bind_some, j_or]
          rw [e, if_pos ⟨q, c, w⟩] at ih1
          exact ih1
        · rw [if_neg (fun z => w (en.mp z))]
          rw [e, if_neg (fun z => w z.2.2), Nat.or_zero] at ih1
          exact ih1
      · rw [if_neg (by rw [if_neg c]; decide)]
        rw [e, if_neg (fun z => c z.2.1), Nat.or_zero] at ih1
        exact ih1
theorem op_forWhat {τ : Td} {tasks helpers askedFirst crumbsFirst lastDay : Int32} {kinds days rideDays helpKinds nexts helperKinds prices masks told : Nat → Int32} (hm : MoI τ tasks helpers askedFirst crumbsFirst lastDay kinds days rideDays helpKinds nexts helperKinds prices masks told) {v : Nat → Nat} {asked brought friends used crumbs day : Int32} {s : Nat → Int32} (hs : StI τ v asked brought friends used crumbs day s) {N : Nat} (hN : 100 ≤ N) (x : Int32) : ∃ r, m_X5_forWhat N tasks nexts asked brought x = some r ∧ m_X6_forWhat N told s x = some r := by
  have hmr := hm.mr
  obtain ⟨hw, hmo, hto⟩ := hm
  obtain ⟨rfl, rfl, rfl, rfl, rfl, h1, h2, h3⟩ := hmo
  have hsr := hs.sr
  obtain ⟨hk, ⟨rfl, rfl, rfl, rfl, rfl, rfl⟩, hs6⟩ := hs
  have hT8 := hw.1.2
  have ha := hw.p8 hk.1
  have hb := hw.p8 hk.2.1
  unfold m_X5_forWhat m_X6_forWhat
  rcases task_cases hw hto x with ⟨e1, e2⟩ | ⟨t, ht, rfl, e1, e2⟩
  · rw [e1, e2]
    exact ⟨_, rfl, rfl⟩
  rw [e1, e2, Option.bind_some, Option.bind_some, if_neg n10, if_neg n10, xX5_bit (by omega), Option.bind_some, Option.bind_some, hs6 0 (by decide), hs6 1 (by decide), j_bt (by omega) (by omega), j_bt (by omega) (by omega), j_bit t (by omega)]
  by_cases hbt : (v 1).testBit t = true
  · rw [if_neg (show ¬ nI (v 1) &&& nI (2 ^ t) = 0 from fun z => by rw [(j_tb0 (by omega)).mp z] at hbt; cases hbt), if_pos (bt1.mpr hbt)]
    exact ⟨_, rfl, rfl⟩
  have hbt' : (v 1).testBit t = false := by simpa using hbt
  rw [if_pos ((j_tb0 (x := v 1) (t := t) (by omega)).mpr hbt'), if_neg (fun z => hbt (bt1.mp z))]
  by_cases hat : (v 0).testBit t = true
  · rw [if_neg (show ¬ nI (v 0) &&& nI (2 ^ t) = 0 from fun z => by rw [(j_tb0 (by omega)).mp z] at hat; cases hat), if_pos (bt1.mpr hat)]
    exact ⟨_, rfl, rfl⟩
  have hat' : (v 0).testBit t = false := by simpa using hat
  rw [if_pos ((j_tb0 (x := v 0) (t := t) (by omega)).mpr hat'), if_neg (fun z => hat (bt1.mp z))]
  have hC8 := hw.p8 (cmN_lt (b := v 1) (sd_lt (b := v 1) hk.1) hw.nx 8)
  have f1 := xX0_tasksThatAsk_loop hw (fun t ht => (hmr.1 t ht).2.2.2) (g := t) (by omega) (τ 0) 0 N (by omega) (by omega)
  have f2 : m_X0_tasksThatAsk N (nI (τ 0)) nexts (nI t) = some (nI (wh τ 255 t (τ 0))) := by
    unfold m_X0_tasksThatAsk
    have f3 : lp_X0_tasksThatAsk_4 (nI t) (nI (τ 0)) nexts N (0 : Int32) (0 : Int32) = some (nI (wh τ 255 t (τ 0))) := f1
    rw [f3]; rfl
  have g1 := xX6_forWhat_loop hw hto (C := come τ (v 0) (v 1)) (g := t) (N := N) (xX6_comes hw hto hN hsr hk.1) hC8 (by omega) (τ 0) 0 N (by omega) (by omega)
  have g2 : lp_X6_forWhat_49 N (nI t) told s N (0 : Int32) (0 : Int32) = some (nI (wh τ (come τ (v 0) (v 1)) t (τ 0))) := g1
  rw [f2, Option.bind_some, xX4_tasksToCome hw hN (fun t ht => (hmr.1 t ht).2.2.2), Option.bind_some, g2, j_and]
  refine ⟨_, rfl, ?_⟩
  rw [Option.bind_some]
  refine congrArg some (congrArg nI ?_)
  apply Nat.eq_of_testBit_eq
  intro i
  rw [Bool.eq_iff_iff, wh_tb, Nat.testBit_and, Bool.and_eq_true, wh_tb]
  constructor
  · intro ⟨q1, q2, q3, q4⟩
    have : ∀ t, t < 8 → (255 : Nat).testBit t = true := by decide
    exact ⟨⟨q1, q2, this i (by omega), q4⟩, q3⟩
  · intro ⟨⟨q1, q2, q3, q4⟩, q5⟩
    exact ⟨q1, q2, q5, q4⟩
theorem op_count {τ : Td} {tasks helpers askedFirst crumbsFirst lastDay : Int32} {kinds days rideDays helpKinds nexts helperKinds prices masks told : Nat → Int32} (hm : MoI τ tasks helpers askedFirst crumbsFirst lastDay kinds days rideDays helpKinds nexts helperKinds prices masks told) {v : Nat → Nat} {asked brought friends used crumbs day : Int32} {s : Nat → Int32} (hs : StI τ v asked brought friends used crumbs day s) {N : Nat} (hN : 100 ≤ N) (letters unsize kesize sesize : Int32) (x : Int32) : ∃ r, m_X5_count letters tasks helpers lastDay asked brought friends used crumbs day unsize kesize sesize x = some r ∧ m_X6_count N letters unsize kesize sesize told s x = some r := by
  obtain ⟨hw, hmo, hto⟩ := hm
  obtain ⟨rfl, rfl, rfl, rfl, rfl, h1, h2, h3⟩ := hmo
  have hsr := hs.sr
  obtain ⟨hk, ⟨rfl, rfl, rfl, rfl, rfl, rfl⟩, hs6⟩ := hs
  have ha := hw.p8 hk.1
  have hb := hw.p8 hk.2.1
  have hf := hw.p7 hk.2.2.2.1
  have hd := hk.2.2.2.2.2.2
  have ho : sd (v 0) (v 1) < 256 := Nat.lt_of_le_of_lt (sd_le _ _) ha
  have hfr : sd (v 2) (v 3) < 256 := Nat.lt_of_le_of_lt (sd_le _ _) (by omega)
  unfold m_X5_count m_X6_count
  rw [xX4_openTasks, xX6_open hsr, xX4_freeFriends, (hto 0 (by decide)).1, (hto 1 (by decide)).1, hs6 1 (by decide), hs6 2 (by decide), hs6 3 (by decide), hs6 4 (by decide), hs6 5 (by decide), j_sd, Option.bind_some, Option.bind_some, Option.bind_some, bitCount_pop _ ho, bitCount_pop _ hb, bitCount_pop _ hfr, xX6_ones hN (by omega), xX6_ones hN (by omega), xX6_ones hN (by omega), xX4_isLost (by omega) (by have := hw.2.2.2.1.2; omega), xX6_isLost hto hsr (by omega)]
  by_cases q0 : x = 0
  · rw [if_pos q0, if_pos q0]; exact ⟨_, rfl, rfl⟩
  rw [if_neg q0, if_neg q0]
  by_cases q1 : x = 1
  · rw [if_pos q1, if_pos q1]; exact ⟨_, rfl, rfl⟩
  rw [if_neg q1, if_neg q1]
  by_cases q2 : x = 2
  · rw [if_pos q2, if_pos q2]; exact ⟨_, rfl, rfl⟩
  rw [if_neg q2, if_neg q2]
  by_cases q3 : x = 3
  · rw [if_pos q3, if_pos q3]; exact ⟨_, rfl, rfl⟩
  rw [if_neg q3, if_neg q3]
  by_cases q4 : x = 4
  · rw [if_pos q4, if_pos q4]; exact ⟨_, rfl, rfl⟩
  rw [if_neg q4, if_neg q4]
  by_cases q5 : x = 5
  · rw [if_pos q5, if_pos q5]; exact ⟨_, rfl, rfl⟩
  rw [if_neg q5, if_neg q5]
  by_cases q6 : x = 6
  · rw [if_pos q6, if_pos q6]; exact ⟨_, rfl, rfl⟩
  rw [if_neg q6, if_neg q6]
  by_cases q7 : x = 7
  · rw [if_pos q7, if_pos q7]
    by_cases hl : τ 3 < v 5
    · rw [if_pos hl]; exact ⟨1, rfl, rfl⟩
    · rw [if_neg hl]; exact ⟨0, rfl, rfl⟩
  rw [if_neg q7, if_neg q7]
  by_cases q8 : x = 8
  · rw [if_pos q8]; exact ⟨_, rfl, rfl⟩
  rw [if_neg q8]
  by_cases q9 : x = 9
  · rw [if_pos q9]; exact ⟨_, rfl, rfl⟩
  rw [if_neg q9]
  by_cases q10 : x = 10
  · rw [if_pos q10]; exact ⟨_, rfl, rfl⟩
  rw [if_neg q10]
  by_cases q11 : x = 11
  · rw [if_pos q11]; exact ⟨_, rfl, rfl⟩
  rw [if_neg q11]
  exact ⟨_, rfl, rfl⟩
