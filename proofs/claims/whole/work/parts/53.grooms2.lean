/-! grooms: the sums of both sides -/
abbrev endA (τ : Td) (v : Nat → Nat) (n : Nat) : List (List Nat) := Rw τ (v 2) tt2 0 (v 0 ||| n) (v 1) (v 3) (v 5)
def gG (τ : Td) (v : Nat → Nat) (x can n : Nat) : Nat := if sd n can = 0 ∧ ¬ endA τ v n = [] then wt x can n 8 else 0
theorem gG_sum {τ : Td} {v : Nat → Nat} {x can : Nat} (hx : x ≤ 10) {n : Nat} (hn : n ≤ 256) : sm (gG τ v x can) n ≤ 100000000 := by
  refine Nat.le_trans (sm_le (g := fun set => wt x can set 8) fun i _ => ?_) ?_
  · unfold gG
    split
    · exact Nat.le_refl _
    · exact Nat.zero_le _
  · refine Nat.le_trans (sm_mono _ hn) ?_
    exact wt_sum hx can 8
theorem wt_le {x can set : Nat} (hx : x ≤ 10) (hs : set < 256) : wt x can set 8 ≤ 100000000 := by
  have h1 := wt_sum hx can 8
  have h2 : sm (fun set => wt x can set 8) (set + 1) ≤ sm (fun set => wt x can set 8) 256 := sm_mono _ (by omega)
  have h3 : wt x can set 8 ≤ sm (fun set => wt x can set 8) (set + 1) := Nat.le_add_left _ _
  have h4 : sm (fun set => wt x can set 8) (2 ^ 8) ≤ 100000000 := h1
  have h5 : sm (fun set => wt x can set 8) 256 ≤ 100000000 := h4
  omega
def vAskS (v : Nat → Nat) (n : Nat) : Nat → Nat := vq (v 0 ||| n) (v 1) (v 2) (v 3) (v 4) (v 5)
theorem Sov.askS {τ : Td} {v : Nat → Nat} (hk : Sov τ v) {n : Nat} (hn : n < 2 ^ τ 0) : Sov τ (vAskS v n) := by
  obtain ⟨ha, hb, hba, hf, huf, hc, hd⟩ := hk
  exact ⟨or_lt ha hn, hb, fun i hi => or_sub (hba i hi), hf, huf, hc, hd⟩
set_option maxHeartbeats 1000000 in
theorem xX5_chances_loop {τ : Td} (hw : Wf τ) {v : Nat → Nat} (hk : Sov τ v) {N B x can : Nat} (hN : 200 ≤ N) (hB : B + 300 < 2 ^ 29) (hx : x ≤ 10) (hcan : can < 2 ^ τ 0) {kinds rideDays helpKinds nexts masks left : Nat → Int32} (hM : Mr τ kinds rideDays helpKinds nexts masks) (hL : Lok left tt2) : ∀ (m n fuel : Nat) (ta tb tf tu tc td : Int32) (num en : Int64) (tl : Int32) (K : Nat → Int64) (a0 b0 f0 u0 c0 d0 : Int32), n + m = 256 → m < fuel → Mem num K (B + n) → ∃ ta' tb' tf' tu' tc' td' num' en' tl' K' a1 b1 f1 u1 c1 d1, lp_X5_chancesOfTen_5 N (nI can) (nI x) (nI (τ 0)) (nI (τ 3)) kinds rideDays helpKinds nexts masks (nI (v 0)) (nI (v 1)) (nI (v 2)) (nI (v 3)) (nI (v 4)) (nI (v 5)) 0 left fuel (nI (sm (gG τ v x can) n)) (nI n) ta tb tf tu tc td num en tl K a0 b0 f0 u0 c0 d0 = some (nI (sm (gG τ v x can) 256), ta', tb', tf', tu', tc', td', num', en', tl', K', a1, b1, f1, u1, c1, d1) ∧ Mem num' K' (B + 256) := by
  have hc8 := hw.p8 hcan
  intro m
  induction m with
  | zero =>
    intro n fuel ta tb tf tu tc td num en tl K a0 b0 f0 u0 c0 d0 hn hfu hK
    obtain ⟨q, rfl⟩ : ∃ q, fuel = q + 1 := ⟨fuel - 1, by omega⟩
    have e : n = 256 := by omega
    subst e
    rw [lp_X5_chancesOfTen_5, if_pos (show (256 : Int32) ≤ nI _ from nI_le (a := 256) (by omega) (by omega))]
    exact ⟨_, _, _, _, _, _, _, _, _, _, _, _, _, _, _, _, rfl, hK⟩
  | succ m ih =>
    intro n fuel ta tb tf tu tc td num en tl K a0 b0 f0 u0 c0 d0 hn hfu hK
    obtain ⟨q, rfl⟩ : ∃ q, fuel = q + 1 := ⟨fuel - 1, by omega⟩
    have hsd : (nI (sd n can) = 0) ↔ sd n can = 0 := nI_eq (b := 0) (by have := sd_le n can; omega) (by decide)
    have hS : sm (gG τ v x can) (n + 1) = sm (gG τ v x can) n + (if sd n can = 0 ∧ ¬ endA τ v n = [] then wt x can n 8 else 0) := rfl
    rw [lp_X5_chancesOfTen_5, if_neg (show ¬ (256 : Int32) ≤ nI _ from nI_ge (b := 256) (by omega) (by decide)), j_sd, nI_1]
    by_cases c1 : sd n can = 0
    · have hsub := (sd_zero (show n < 2 ^ 32 by omega)).mp c1
      have hnT : n < 2 ^ τ 0 := by
        have e := tb_sub hsub
        rw [← e]
        exact Nat.lt_of_le_of_lt Nat.and_le_right hcan
      have hwl := wt_le (can := can) hx (show n < 256 by omega)
      rw [if_pos (hsd.mpr c1), xX5_chancesOfSet hN hx hc8 hsub, Option.bind_some]
      by_cases w0 : wt x can n 8 = 0
      · have ih1 := ih (n + 1) q ta tb tf tu tc td num en tl K a0 b0 f0 u0 c0 d0 (by omega) (by omega) (hK.mono (by omega))
        rw [hS, w0, ite_self, Nat.add_zero] at ih1
        rw [w0, if_pos (show nI 0 = 0 from rfl)]
        exact ih1
      · have hk' := hk.askS hnT
        obtain ⟨num', en', tl', K', g1, g2⟩ := xX2_endsWellWith hw (N := N) (by omega) hk' (S := 0) (by decide) (B := B + n) (by omega) hM hL hK
        have g1' : m_X2_endsWellWith N num K 0 left (nI (τ 0)) (nI (τ 3)) kinds rideDays helpKinds nexts masks (nI (v 0 ||| n)) (nI (v 1)) (nI (v 2)) (nI (v 3)) (nI (v 4)) (nI (v 5)) (0 : Int32) = _ := g1
        have e0 : vAskS v n 2 ||| 0 = v 2 := Nat.or_zero _
        rw [if_neg (nI_ne0 (by omega) (by omega)), hk.packed hw, Option.bind_some, hk.unpack hw, Option.bind_some]
        simp only
        rw [j_or, g1', Option.bind_some, e0]
        by_cases c3 : endA τ v n = []
        · have c3' : Rw τ (v 2) tt2 0 (vAskS v n 0) (vAskS v n 1) (vAskS v n 3) (vAskS v n 5) = [] := c3
          have ih1 := ih (n + 1) q (nI (v 0 ||| n)) (nI (v 1)) (nI (v 2)) (nI (v 3)) (nI (v 4)) (nI (v 5)) num' en' tl' K' (nI (vAskS v n 0)) (nI (vAskS v n 1)) (nI (v 2)) (nI (vAskS v n 3)) (nI (vAskS v n 4)) (nI (vAskS v n 5)) (by omega) (by omega) g2
          rw [hS, if_neg (fun z => z.2 c3), Nat.add_zero] at ih1
          rw [if_pos c3']
          simp only [if_true]
          exact ih1
        · have c3' : ¬ Rw τ (v 2) tt2 0 (vAskS v n 0) (vAskS v n 1) (vAskS v n 3) (vAskS v n 5) = [] := c3
          have ih1 := ih (n + 1) q (nI (v 0 ||| n)) (nI (v 1)) (nI (v 2)) (nI (v 3)) (nI (v 4)) (nI (v 5)) num' en' tl' K' (nI (vAskS v n 0)) (nI (vAskS v n 1)) (nI (v 2)) (nI (vAskS v n 3)) (nI (vAskS v n 4)) (nI (vAskS v n 5)) (by omega) (by omega) g2
          rw [hS, if_pos ⟨c1, c3⟩] at ih1
          rw [if_neg c3']
          simp only
          rw [if_neg n10, nI_add]
          exact ih1
    · rw [if_neg (fun z => c1 (hsd.mp z))]
      have ih1 := ih (n + 1) q ta tb tf tu tc td num en tl K a0 b0 f0 u0 c0 d0 (by omega) (by omega) (hK.mono (by omega))
      rw [hS, if_neg (fun z => c1 z.1), Nat.add_zero] at ih1
      exact ih1
theorem gG_stop {τ : Td} {v : Nat → Nat} {x can : Nat} (hT : τ 0 ≤ 8) (hcan : can < 2 ^ τ 0) : sm (gG τ v x can) 256 = sm (gG τ v x can) (2 ^ τ 0) := by
  have h8 : 2 ^ τ 0 ≤ 2 ^ 8 := Nat.pow_le_pow_right (by decide) hT
  refine sm_stop (by omega) fun i h1 h2 => ?_
  unfold gG
  rw [if_neg]
  intro z
  have e := tb_sub ((sd_zero (show i < 2 ^ 32 by omega)).mp z.1)
  have : i ≤ can := by rw [← e]; exact Nat.and_le_right
  omega
set_option maxHeartbeats 1000000 in
theorem xX6_grooms_loop {τ : Td} (hw : Wf τ) {told : Nat → Int32} (hto : ToR τ told) {v : Nat → Nat} (hk : Sov τ v) {σ : Nat → Nat × Nat} {sn N x can : Nat} (hN : 30000000 ≤ N) {seen : Nat → Int32} (hsn : SnR σ sn seen) (hx : x ≤ 10) (hcan : can < 2 ^ τ 0) : ∀ (m n fuel : Nat) (many len : Int32) (s asks brings uses dys tries row first : Nat → Int32), n + m = 2 ^ τ 0 → m < fuel → (∀ k, k < 6 → k ≠ 0 → s k = nI (v k)) → ∃ many' len' s' asks' brings' uses' dys' tries' row' first', lp_X6_grooms_68 N (nI x) (nI can) (nI (v 0)) (nI sn) told seen fuel (nI (sm (gG τ v x can) n)) (nI n) many len s asks brings uses dys tries row first = some (nI (sm (gG τ v x can) (2 ^ τ 0)), many', len', s', asks', brings', uses', dys', tries', row', first') ∧ ∀ k, k < 6 → k ≠ 0 → s' k = nI (v k) := by
  have hT8 := hw.1.2
  have h8 : 2 ^ τ 0 ≤ 2 ^ 8 := Nat.pow_le_pow_right (by decide) hT8
  have hc8 := hw.p8 hcan
  have hd := hk.2.2.2.2.2.2
  intro m
  induction m with
  | zero =>
    intro n fuel many len s asks brings uses dys tries row first hn hfu hs
    obtain ⟨q, rfl⟩ : ∃ q, fuel = q + 1 := ⟨fuel - 1, by omega⟩
    have e : n = 2 ^ τ 0 := by omega
    rw [lp_X6_grooms_68, (hto 0 (by decide)).1, j_bit (τ 0) (by omega), if_pos (nI_le (by omega) (by omega)), e]
    exact ⟨_, _, _, _, _, _, _, _, _, _, rfl, hs⟩
  | succ m ih =>
    intro n fuel many len s asks brings uses dys tries row first hn hfu hs
    obtain ⟨q, rfl⟩ : ∃ q, fuel = q + 1 := ⟨fuel - 1, by omega⟩
    have hnT : n < 2 ^ τ 0 := by omega
    have hsd : (nI (sd n can) = 0) ↔ sd n can = 0 := nI_eq (b := 0) (by have := sd_le n can; omega) (by decide)
    have hS : sm (gG τ v x can) (n + 1) = sm (gG τ v x can) n + (if sd n can = 0 ∧ ¬ endA τ v n = [] then wt x can n 8 else 0) := rfl
    rw [lp_X6_grooms_68, (hto 0 (by decide)).1, j_bit (τ 0) (by omega), if_neg (nI_ge hnT (by omega)), j_sd, nI_1]
    by_cases c1 : sd n can = 0
    · have hsub := (sd_zero (show n < 2 ^ 32 by omega)).mp c1
      have hits := xX6_its hw hto hx (by omega) (show n < 2 ^ 31 by omega) hsub (τ 0) 0 N (by omega) (by omega)
      have hits' : lp_X6_grooms_96 (nI x) (nI can) (nI n) told N (1 : Int32) (0 : Int32) = some (nI (wt x can n (τ 0))) := hits
      have hws : wt x can n 8 = wt x can n (τ 0) := by
        have := wt_stop (x := x) hcan hnT (8 - τ 0)
        rw [show τ 0 + (8 - τ 0) = 8 by omega] at this
        exact this
      obtain ⟨m1, l1, a1, a2, a3, a4, a5, a6, a7, w1, w2⟩ := xX6_walksOne hw (s := upd s 0 (nI (v 0 ||| n))) hto (a := v 0 ||| n) (b := v 1) (f := v 2) (u := v 3) (c := v 4) (d := v 5) ⟨pk_us, by rw [pk_un (by decide)]; exact hs 1 (by decide) (by decide), by rw [pk_un (by decide)]; exact hs 2 (by decide) (by decide), by rw [pk_un (by decide)]; exact hs 3 (by decide) (by decide), by rw [pk_un (by decide)]; exact hs 4 (by decide) (by decide), by rw [pk_un (by decide)]; exact hs 5 (by decide) (by decide)⟩ (or_lt hk.1 hnT) hk.2.1 hk.2.2.2.1 (hw.p7 hk.u) (by omega) hN hsn asks brings uses dys tries row first
      have hs' : ∀ k, k < 6 → k ≠ 0 → upd s 0 (nI (v 0 ||| n)) k = nI (v k) := fun k hk6 hk2 => by rw [pk_un hk2]; exact hs k hk6 hk2
      rw [if_pos (hsd.mpr c1), hits', Option.bind_some, j_or, w1, Option.bind_some]
      by_cases c3 : endA τ v n = []
      · have ih1 := ih (n + 1) q m1 l1 (upd s 0 (nI (v 0 ||| n))) a1 a2 a3 a4 a5 a6 a7 (by omega) (by omega) hs'
        rw [hS, if_neg (fun z => z.2 c3)] at ih1
        rw [if_pos (w2.mpr c3), show (0 : Int32) = nI 0 from rfl, nI_add]
        exact ih1
      · have ih1 := ih (n + 1) q m1 l1 (upd s 0 (nI (v 0 ||| n))) a1 a2 a3 a4 a5 a6 a7 (by omega) (by omega) hs'
        rw [hS, if_pos ⟨c1, c3⟩, hws] at ih1
        rw [if_neg (fun z => c3 (w2.mp z)), nI_add]
        exact ih1
    · rw [if_neg (fun z => c1 (hsd.mp z))]
      have ih1 := ih (n + 1) q many len s asks brings uses dys tries row first (by omega) (by omega) hs
      rw [hS, if_neg (fun z => c1 z.1), Nat.add_zero] at ih1
      exact ih1
theorem xX6_below {may : Nat} (hm : may < 256) {N : Nat} (hN : 200 ≤ N) : ∀ (m k fuel : Nat), k + m = pop may 8 → m < fuel → lp_X6_grooms_43 N (nI may) fuel (nI (10 ^ k)) (nI k) = some (nI (10 ^ pop may 8)) := by
  have h8 := pop_le may 8
  intro m
  induction m with
  | zero =>
    intro k fuel hk hfu
    obtain ⟨n, rfl⟩ : ∃ n, fuel = n + 1 := ⟨fuel - 1, by omega⟩
    have e : k = pop may 8 := by omega
    rw [lp_X6_grooms_43, xX6_ones (by omega) (by omega), Option.bind_some, if_pos (nI_le (by omega) (by omega)), e]
  | succ m ih =>
    intro k fuel hk hfu
    obtain ⟨n, rfl⟩ : ∃ n, fuel = n + 1 := ⟨fuel - 1, by omega⟩
    rw [lp_X6_grooms_43, xX6_ones (by omega) (by omega), Option.bind_some, if_neg (nI_ge (by omega) (by omega)), show (10 : Int32) = nI 10 from rfl, pk_mul, ← Nat.pow_succ, nI_1]
    exact ih (k + 1) n (by omega) (by omega)
set_option maxHeartbeats 1000000 in
theorem op_grooms {τ : Td} {tasks helpers askedFirst crumbsFirst lastDay : Int32} {kinds days rideDays helpKinds nexts helperKinds prices masks told : Nat → Int32} (hm : MoI τ tasks helpers askedFirst crumbsFirst lastDay kinds days rideDays helpKinds nexts helperKinds prices masks told) {v : Nat → Nat} {asked brought friends used crumbs day : Int32} {s : Nat → Int32} (hs : StI τ v asked brought friends used crumbs day s) {σ : Nat → Nat × Nat} {n N B : Nat} (hN : 30000000 ≤ N) {seen : Nat → Int32} (hsn : SnR σ n seen) {uslast : Int32} {usleft : Nat → Int32} (hun : UnI uslast usleft) {num : Int64} {K : Nat → Int64} (hK : Mem num K B) (hB : B + 600 < 2 ^ 29) (ta tb tf tu tc td : Int32) (en : Int64) (tl a0 b0 f0 u0 c0 d0 many len : Int32) (asks brings uses dys tries row first : Nat → Int32) (x y : Int32) : ∃ r ta' tb' tf' tu' tc' td' num' en' tl' K' a1 b1 f1 u1 c1 d1 many' len' s' asks' brings' uses' dys' tries' row' first', m_X5_grooms N tasks lastDay kinds rideDays helpKinds nexts masks asked brought friends used crumbs day ta tb tf tu tc td uslast usleft num en tl K a0 b0 f0 u0 c0 d0 x y = some (r, ta', tb', tf', tu', tc', td', num', en', tl', K', a1, b1, f1, u1, c1, d1) ∧ m_X6_grooms N (nI n) many len told s seen asks brings uses dys tries row first x y = some (r, many', len', s', asks', brings', uses', dys', tries', row', first') ∧ StI τ v asked brought friends used crumbs day s' ∧ Mem num' K' (B + 300) := by
  have same := hs
  have hmr := hm.mr
  obtain ⟨hw, hmo, hto⟩ := hm
  obtain ⟨rfl, rfl, rfl, rfl, rfl, h1, h2, h3⟩ := hmo
  obtain ⟨hk, ⟨rfl, rfl, rfl, rfl, rfl, rfl⟩, hs6⟩ := hs
  obtain ⟨ul, uf⟩ := hun
  subst ul
  have hT8 := hw.1.2
  have h8 : 2 ^ τ 0 ≤ 2 ^ 8 := Nat.pow_le_pow_right (by decide) hT8
  have hd := hk.2.2.2.2.2.2
  unfold m_X5_grooms m_X6_grooms
  have hin : ∀ z : Int32, m_X6_in x 0 10 = if x < 0 then some 0 else if 10 < x then some 0 else some 1 := fun _ => rfl
  rw [hin 0]
  by_cases x0 : x < 0
  · rw [if_pos x0, if_pos x0, Option.bind_some, if_pos (show (0 : Int32) = 0 from rfl)]
    exact ⟨_, _, _, _, _, _, _, _, _, _, _, _, _, _, _, _, _, _, _, _, _, _, _, _, _, _, _, rfl, rfl, same, hK.mono (by omega)⟩
  rw [if_neg x0, if_neg x0]
  by_cases x9 : 10 < x
  · rw [if_pos x9, if_pos x9, Option.bind_some, if_pos (show (0 : Int32) = 0 from rfl)]
    exact ⟨_, _, _, _, _, _, _, _, _, _, _, _, _, _, _, _, _, _, _, _, _, _, _, _, _, _, _, rfl, rfl, same, hK.mono (by omega)⟩
  rw [if_neg x9, if_neg x9, Option.bind_some, if_neg n10]
  rcases in01 y with ⟨q, e⟩ | ⟨q1, q2, e⟩ | ⟨q1, q2, e⟩
  · rw [if_pos q, e, Option.bind_some, if_pos (show (0 : Int32) = 0 from rfl)]
    exact ⟨_, _, _, _, _, _, _, _, _, _, _, _, _, _, _, _, _, _, _, _, _, _, _, _, _, _, _, rfl, rfl, same, hK.mono (by omega)⟩
  · rw [if_neg q1, if_neg q2, e, Option.bind_some, if_pos (show (0 : Int32) = 0 from rfl)]
    exact ⟨_, _, _, _, _, _, _, _, _, _, _, _, _, _, _, _, _, _, _, _, _, _, _, _, _, _, _, rfl, rfl, same, hK.mono (by omega)⟩
  rw [if_neg q1, if_pos q2, e, Option.bind_some, if_neg n10]
  obtain ⟨x', hx', rfl⟩ := nI_of x0
  have hx9 : x' ≤ 10 := (nI_leI (b := 10) hx' (by decide)).mp (Int32.not_lt.mp x9)
  have hcan := sug_lt τ (v 0) (v 5)
  have hc8 := hw.p8 hcan
  have hp8 := pop_le (sug τ (v 0) (v 5)) 8
  obtain ⟨ta', tb', tf', tu', tc', td', num', en', tl', K', a1, b1, f1, u1, c1, d1, g1, g2⟩ := xX5_chances_loop hw hk (N := N) (B := B) (x := x') (by omega) (by omega) hx9 hcan hmr (lok_all uf) 256 0 N ta tb tf tu tc td num en tl K a0 b0 f0 u0 c0 d0 (by omega) (by omega) hK
  have g1' : lp_X5_chancesOfTen_5 N (nI (sug τ (v 0) (v 5))) (nI x') (nI (τ 0)) (nI (τ 3)) kinds rideDays helpKinds nexts masks (nI (v 0)) (nI (v 1)) (nI (v 2)) (nI (v 3)) (nI (v 4)) (nI (v 5)) 0 usleft N (0 : Int32) (0 : Int32) ta tb tf tu tc td num en tl K a0 b0 f0 u0 c0 d0 = _ := g1
  obtain ⟨m1, l1, s1, z1, z2, z3, z4, z5, z6, z7, w1, w2⟩ := xX6_grooms_loop hw hto hk hN hsn hx9 hcan (2 ^ τ 0) 0 N many len s asks brings uses dys tries row first (by omega) (by omega) (fun k hk6 _ => hs6 k hk6)
  have w1' : lp_X6_grooms_68 N (nI x') (nI (sug τ (v 0) (v 5))) (nI (v 0)) (nI n) told seen N (0 : Int32) (0 : Int32) many len s asks brings uses dys tries row first = _ := w1
  have hbl := xX6_below hc8 (N := N) (by omega) (pop (sug τ (v 0) (v 5)) 8) 0 N (by omega) (by omega)
  have hbl' : lp_X6_grooms_43 N (nI (sug τ (v 0) (v 5))) N (1 : Int32) (0 : Int32) = some (nI (10 ^ pop (sug τ (v 0) (v 5)) 8)) := hbl
  have hab : sm (gG τ v x' (sug τ (v 0) (v 5))) 256 ≤ 100000000 := gG_sum hx9 (Nat.le_refl 256)
  have hbe : 10 ^ pop (sug τ (v 0) (v 5)) 8 ≤ 10 ^ 8 := Nat.pow_le_pow_right (by decide) hp8
  have hbe0 : 0 < 10 ^ pop (sug τ (v 0) (v 5)) 8 := Nat.pow_pos (by decide)
  have hgst := gG_stop (v := v) (x := x') hT8 hcan
  rw [← hgst] at w1'
  have hg1 := xX5_gcd 31 (sm (gG τ v x' (sug τ (v 0) (v 5))) 256) (10 ^ pop (sug τ (v 0) (v 5)) 8) 0 N (by omega) (by omega) (by omega) (by omega) (by omega)
  have hg1' : m_X5_commonDivisor N (nI (sm (gG τ v x' (sug τ (v 0) (v 5))) 256)) (nI (10 ^ pop (sug τ (v 0) (v 5)) 8)) = some (nI (Nat.gcd (sm (gG τ v x' (sug τ (v 0) (v 5))) 256) (10 ^ pop (sug τ (v 0) (v 5)) 8))) := by
    unfold m_X5_commonDivisor
    have t : lp_X5_commonDivisor_7 N (nI (sm (gG τ v x' (sug τ (v 0) (v 5))) 256)) (nI (10 ^ pop (sug τ (v 0) (v 5)) 8)) (0 : Int32) = _ := hg1
    rw [t]; rfl
  have hg2 := xX6_gcd 31 (sm (gG τ v x' (sug τ (v 0) (v 5))) 256) (10 ^ pop (sug τ (v 0) (v 5)) 8) N (by omega) (by omega) (by omega) (by omega)
  have hgp := Nat.gcd_pos_of_pos_right (sm (gG τ v x' (sug τ (v 0) (v 5))) 256) hbe0
  have hgl : Nat.gcd (sm (gG τ v x' (sug τ (v 0) (v 5))) 256) (10 ^ pop (sug τ (v 0) (v 5)) 8) ≤ 10 ^ pop (sug τ (v 0) (v 5)) 8 := Nat.le_of_dvd hbe0 (Nat.gcd_dvd_right _ _)
  have hst : StI τ v (nI (v 0)) (nI (v 1)) (nI (v 2)) (nI (v 3)) (nI (v 4)) (nI (v 5)) (upd s1 0 (nI (v 0))) := ⟨hk, ⟨rfl, rfl, rfl, rfl, rfl, rfl⟩, fun k hk6 => by
    by_cases q : k = 0
    · subst q; exact pk_us
    · rw [pk_un q]; exact w2 k hk6 q⟩
  unfold m_X5_chancesOfTen
  rw [xX4_tasksToSuggest hw hd, Option.bind_some, g1', Option.bind_some, Option.bind_some, bitCount_pop _ hc8, Option.bind_some, show (10 : Int32) = nI 10 from rfl, xX5_power (by omega) (by omega), Option.bind_some]
  simp only
  rw [hg1', Option.bind_some, if_pos (show (1 : Int32) ≤ nI _ from nI_le (a := 1) hgp (by omega)), xX6_silent hw hto hk hs6, Option.bind_some, hs6 0 (by decide)]
  have hbl2 : lp_X6_grooms_43 N (nI (sug τ (v 0) (v 5))) N 1 0 = some (nI (10 ^ pop (sug τ (v 0) (v 5)) 8)) := hbl'
  rw [hbl2, Option.bind_some, w1', Option.bind_some]
  simp only
  rw [hg2, Option.bind_some]
  have hne : ¬ nI (Nat.gcd (sm (gG τ v x' (sug τ (v 0) (v 5))) 256) (10 ^ pop (sug τ (v 0) (v 5)) 8)) = 0 := nI_ne0 hgp (by omega)
  by_cases y0 : y = 0
  · rw [if_pos y0, if_pos y0, if_pos hne, if_pos hne]
    exact ⟨_, _, _, _, _, _, _, _, _, _, _, _, _, _, _, _, _, _, _, _, _, _, _, _, _, _, _, rfl, rfl, hst, g2.mono (by omega)⟩
  · rw [if_neg y0, if_neg y0, if_pos hne, if_pos hne]
    exact ⟨_, _, _, _, _, _, _, _, _, _, _, _, _, _, _, _, _, _, _, _, _, _, _, _, _, _, _, rfl, rfl, hst, g2.mono (by omega)⟩
