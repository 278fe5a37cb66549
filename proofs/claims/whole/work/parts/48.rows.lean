/-! the calls that count rows: well, rows, step -/
/-- nothing is seen -/
def UnI (last : Int32) (left : Nat → Int32) : Prop := last = 0 ∧ ∀ i, i < 8 → left i = nI 255
theorem UnI.lok {last : Int32} {left : Nat → Int32} (h : UnI last left) : Lok left tt2 := lok_all h.2
theorem Fnd.at {L : List (List Nat)} {many len : Int32} {first : Nat → Int32} (h : Fnd L many len first) {k : Nat} (hk1 : 1 ≤ k) (hk8 : k ≤ 8) : (nI k ≤ len → first (k - 1) = plc L k) ∧ (¬ nI k ≤ len → (-4 : Int32) = plc L k) := by
  have e := h.place hk1 hk8
  constructor
  · intro q; rw [if_pos q] at e; exact Option.some.inj e
  · intro q; rw [if_neg q] at e; exact Option.some.inj e
/-- an answer's place among 0 to 8 -/
theorem in08 (x : Int32) : (x < 0 ∧ m_X6_in x 0 8 = some 0) ∨ (¬ x < 0 ∧ ¬ x ≤ 8 ∧ m_X6_in x 0 8 = some 0) ∨ ∃ k, k ≤ 8 ∧ x = nI k ∧ m_X6_in x 0 8 = some 1 := by
  unfold m_X6_in
  by_cases h0 : x < 0
  · left; rw [if_pos h0]; exact ⟨h0, rfl⟩
  right
  rw [if_neg h0]
  by_cases h8 : x ≤ 8
  · right
    obtain ⟨k, hk, rfl⟩ := nI_of h0
    rw [if_neg (Int32.not_lt.mpr h8)]
    exact ⟨k, (nI_leI (b := 8) hk (by decide)).mp h8, rfl, rfl⟩
  · left
    rw [if_pos (Int32.not_le.mp h8)]
    exact ⟨h0, h8, rfl⟩
theorem op_well {τ : Td} {tasks helpers askedFirst crumbsFirst lastDay : Int32} {kinds days rideDays helpKinds nexts helperKinds prices masks told : Nat → Int32} (hm : MoI τ tasks helpers askedFirst crumbsFirst lastDay kinds days rideDays helpKinds nexts helperKinds prices masks told) {v : Nat → Nat} {asked brought friends used crumbs day : Int32} {s : Nat → Int32} (hs : StI τ v asked brought friends used crumbs day s) {σ : Nat → Nat × Nat} {n N B : Nat} (hN : 30000000 ≤ N) {seen : Nat → Int32} (hsn : SnR σ n seen) {uslast : Int32} {usleft : Nat → Int32} (hun : UnI uslast usleft) {num : Int64} {K : Nat → Int64} (hK : Mem num K B) (hB : B < 2 ^ 29) (en : Int64) (tl a0 b0 f0 u0 c0 d0 many len : Int32) (asks brings uses dys tries row first : Nat → Int32) (x : Int32) : ∃ r num' en' tl' K' a1 b1 f1 u1 c1 d1 many' len' asks' brings' uses' dys' tries' row' first', m_X5_well N tasks lastDay kinds rideDays helpKinds nexts masks asked brought friends used crumbs day uslast usleft num en tl K a0 b0 f0 u0 c0 d0 x = some (r, num', en', tl', K', a1, b1, f1, u1, c1, d1) ∧ m_X6_well N (nI n) many len told s seen asks brings uses dys tries row first x = some (r, many', len', asks', brings', uses', dys', tries', row', first') ∧ Mem num' K' (B + 1) := by
  have hmr := hm.mr
  obtain ⟨hw, hmo, hto⟩ := hm
  obtain ⟨rfl, rfl, rfl, rfl, rfl, h1, h2, h3⟩ := hmo
  have hsr := hs.sr
  obtain ⟨hk, ⟨rfl, rfl, rfl, rfl, rfl, rfl⟩, hs6⟩ := hs
  obtain ⟨len', asks', brings', uses', dys', tries', row', first', g1, g2⟩ := xX6_walksAll hw hto hsr hk hN hsn asks brings uses dys tries row first
  unfold m_X5_well m_X6_well
  rcases in08 x with ⟨q, e⟩ | ⟨q1, q2, e⟩ | ⟨k, hk8, rfl, e⟩
  · rw [if_pos q, e, Option.bind_some, if_pos (show (0 : Int32) = 0 from rfl)]
    exact ⟨_, _, _, _, _, _, _, _, _, _, _, _, _, _, _, _, _, _, _, _, rfl, rfl, hK.mono (by omega)⟩
  · rw [if_neg q1, if_neg q2, e, Option.bind_some, if_pos (show (0 : Int32) = 0 from rfl)]
    exact ⟨_, _, _, _, _, _, _, _, _, _, _, _, _, _, _, _, _, _, _, _, rfl, rfl, hK.mono (by omega)⟩
  rw [if_neg (nI_pos (by omega)), if_pos (show nI k ≤ (8 : Int32) from nI_le (b := 8) hk8 (by decide)), e, Option.bind_some, if_neg n10, g1, Option.bind_some]
  have e0 : (nI k = 0) ↔ k = 0 := nI_eq (b := 0) (by omega) (by decide)
  obtain ⟨ul, uf⟩ := hun
  subst ul
  by_cases q : k = 0
  · obtain ⟨num', en', tl', K', f1, f2⟩ := xX2_waysOf hw (N := N) (by omega) hk hB (Nat.zero_le 8) hmr (lok_all uf) hK
    rw [if_pos (e0.mpr q), if_pos (e0.mpr q)]
    have f1' : m_X2_waysOf N num K (nI (τ 0)) (nI (τ 3)) kinds rideDays helpKinds nexts masks (nI (v 0)) (nI (v 1)) (nI (v 2)) (nI (v 3)) (nI (v 4)) (nI (v 5)) (0 : Int32) usleft = _ := f1
    rw [f1', Option.bind_some]
    exact ⟨_, _, _, _, _, _, _, _, _, _, _, _, _, _, _, _, _, _, _, _, rfl, rfl, f2⟩
  · obtain ⟨num', en', tl', K', a', b', u', d', f1, f2⟩ := xX2_placeInFirst hw (N := N) (by omega) hk hB (Nat.zero_le 8) (by omega) hk8 hmr (lok_all uf) hK
    rw [if_neg (fun z => q (e0.mp z)), if_neg (fun z => q (e0.mp z))]
    have f1' : m_X2_placeInFirst N num K (nI (τ 0)) (nI (τ 3)) kinds rideDays helpKinds nexts masks (nI (v 0)) (nI (v 1)) (nI (v 2)) (nI (v 3)) (nI (v 4)) (nI (v 5)) (0 : Int32) usleft (nI k) = _ := f1
    rw [f1', Option.bind_some]
    obtain ⟨p1, p2⟩ := g2.at (k := k) (by omega) hk8
    obtain ⟨z, hz⟩ : ∃ z, k = z + 1 := ⟨k - 1, by omega⟩
    by_cases w : nI k ≤ len'
    · have e9 := p1 w
      rw [hz] at e9 w
      rw [hz, if_pos w, nI_pred, if_pos (j_in (by omega) (by decide)), j_clamp (by omega)]
      rw [Nat.add_sub_cancel] at e9
      rw [← e9]
      exact ⟨_, _, _, _, _, _, _, _, _, _, _, _, _, _, _, _, _, _, _, _, rfl, rfl, f2⟩
    · have e9 := p2 w
      rw [if_neg w, ← e9]
      exact ⟨_, _, _, _, _, _, _, _, _, _, _, _, _, _, _, _, _, _, _, _, rfl, rfl, f2⟩
theorem op_rows {τ : Td} {tasks helpers askedFirst crumbsFirst lastDay : Int32} {kinds days rideDays helpKinds nexts helperKinds prices masks told : Nat → Int32} (hm : MoI τ tasks helpers askedFirst crumbsFirst lastDay kinds days rideDays helpKinds nexts helperKinds prices masks told) {v : Nat → Nat} {asked brought friends used crumbs day : Int32} {s : Nat → Int32} (hs : StI τ v asked brought friends used crumbs day s) {σ : Nat → Nat × Nat} {n N B : Nat} (hN : 30000000 ≤ N) {size last sights : Int32} {left seen : Nat → Int32} (hse : SeI σ n size last left sights seen) {num : Int64} {K : Nat → Int64} (hK : Mem num K B) (hB : B < 2 ^ 29) (en : Int64) (tl a0 b0 f0 u0 c0 d0 many len : Int32) (asks brings uses dys tries row first : Nat → Int32) (x : Int32) : ∃ r num' en' tl' K' a1 b1 f1 u1 c1 d1 many' len' asks' brings' uses' dys' tries' row' first', m_X5_rows N tasks lastDay kinds rideDays helpKinds nexts masks asked brought friends used crumbs day last left num en tl K a0 b0 f0 u0 c0 d0 x = some (r, num', en', tl', K', a1, b1, f1, u1, c1, d1) ∧ m_X6_rows N sights many len told s seen asks brings uses dys tries row first x = some (r, many', len', asks', brings', uses', dys', tries', row', first') ∧ Mem num' K' (B + 1) := by
  have hmr := hm.mr
  obtain ⟨hw, hmo, hto⟩ := hm
  obtain ⟨rfl, rfl, rfl, rfl, rfl, h1, h2, h3⟩ := hmo
  have hsr := hs.sr
  obtain ⟨hk, ⟨rfl, rfl, rfl, rfl, rfl, rfl⟩, hs6⟩ := hs
  obtain ⟨rfl, rfl, hsn, rfl, hL⟩ := hse
  have hl8 : lastS σ n ≤ 8 := lastS_le fun k hk => (hsn.2 k hk).2.2.2
  obtain ⟨many', len', asks', brings', uses', dys', tries', row', first', g1, g2⟩ := xX6_walks hw hto hsr hk.1 hk.2.1 hk.2.2.2.1 (hw.p7 hk.u) (by have := hk.2.2.2.2.2.2; omega) true false hN hsn asks brings uses dys tries row first
  rw [addF_all, Rw_seen fun k hk => (hsn.2 k hk).2.2.1] at g2
  have g1' : m_X6_walks N (nI n) told s seen asks brings uses dys tries row first (1 : Int32) (0 : Int32) = _ := g1
  unfold m_X5_rows m_X6_rows
  rcases in08 x with ⟨q, e⟩ | ⟨q1, q2, e⟩ | ⟨k, hk8, rfl, e⟩
  · rw [if_pos q, e, Option.bind_some, if_pos (show (0 : Int32) = 0 from rfl)]
    exact ⟨_, _, _, _, _, _, _, _, _, _, _, _, _, _, _, _, _, _, _, _, rfl, rfl, hK.mono (by omega)⟩
  · rw [if_neg q1, if_neg q2, e, Option.bind_some, if_pos (show (0 : Int32) = 0 from rfl)]
    exact ⟨_, _, _, _, _, _, _, _, _, _, _, _, _, _, _, _, _, _, _, _, rfl, rfl, hK.mono (by omega)⟩
  rw [if_neg (nI_pos (by omega)), if_pos (show nI k ≤ (8 : Int32) from nI_le (b := 8) hk8 (by decide)), e, Option.bind_some, if_neg n10, g1', Option.bind_some]
  have e0 : (nI k = 0) ↔ k = 0 := nI_eq (b := 0) (by omega) (by decide)
  by_cases q : k = 0
  · obtain ⟨num', en', tl', K', f1, f2⟩ := xX2_waysOf hw (N := N) (by omega) hk hB hl8 hmr hL hK
    rw [if_pos (e0.mpr q), if_pos (e0.mpr q), f1, Option.bind_some, g2.many]
    exact ⟨_, _, _, _, _, _, _, _, _, _, _, _, _, _, _, _, _, _, _, _, rfl, rfl, f2⟩
  · obtain ⟨num', en', tl', K', a', b', u', d', f1, f2⟩ := xX2_placeInFirst hw (N := N) (by omega) hk hB hl8 (by omega) hk8 hmr hL hK
    rw [if_neg (fun z => q (e0.mp z)), if_neg (fun z => q (e0.mp z)), f1, Option.bind_some]
    obtain ⟨p1, p2⟩ := g2.at (k := k) (by omega) hk8
    obtain ⟨z, hz⟩ : ∃ z, k = z + 1 := ⟨k - 1, by omega⟩
    by_cases w : nI k ≤ len'
    · have e9 := p1 w
      rw [hz] at e9 w
      rw [hz, if_pos w, nI_pred, if_pos (j_in (by omega) (by decide)), j_clamp (by omega)]
      rw [Nat.add_sub_cancel] at e9
      rw [← e9]
      exact ⟨_, _, _, _, _, _, _, _, _, _, _, _, _, _, _, _, _, _, _, _, rfl, rfl, f2⟩
    · have e9 := p2 w
      rw [if_neg w, ← e9]
      exact ⟨_, _, _, _, _, _, _, _, _, _, _, _, _, _, _, _, _, _, _, _, rfl, rfl, f2⟩
theorem op_step {τ : Td} {tasks helpers askedFirst crumbsFirst lastDay : Int32} {kinds days rideDays helpKinds nexts helperKinds prices masks told : Nat → Int32} (hm : MoI τ tasks helpers askedFirst crumbsFirst lastDay kinds days rideDays helpKinds nexts helperKinds prices masks told) {v : Nat → Nat} {asked brought friends used crumbs day : Int32} {s : Nat → Int32} (hs : StI τ v asked brought friends used crumbs day s) {σ : Nat → Nat × Nat} {n N B : Nat} (hN : 30000000 ≤ N) {seen : Nat → Int32} (hsn : SnR σ n seen) {uslast : Int32} {usleft : Nat → Int32} (hun : UnI uslast usleft) {num : Int64} {K : Nat → Int64} (hK : Mem num K B) (hB : B < 2 ^ 29) (ta tb tf tu tc td : Int32) (en : Int64) (tl a0 b0 f0 u0 c0 d0 many len : Int32) (asks brings uses dys tries row first : Nat → Int32) (x : Int32) : ∃ r ta' tb' tf' tu' tc' td' num' en' tl' K' a1 b1 f1 u1 c1 d1 many' len' s' asks' brings' uses' dys' tries' row' first', m_X5_step N tasks lastDay kinds rideDays helpKinds nexts masks asked brought friends used crumbs day ta tb tf tu tc td uslast usleft num en tl K a0 b0 f0 u0 c0 d0 x = some (r, ta', tb', tf', tu', tc', td', num', en', tl', K', a1, b1, f1, u1, c1, d1) ∧ m_X6_step N (nI n) many len told s seen asks brings uses dys tries row first x = some (r, many', len', s', asks', brings', uses', dys', tries', row', first') ∧ StI τ v asked brought friends used crumbs day s' ∧ Mem num' K' (B + 1) := by
  have same := hs
  have hpack := hs.packed hm.1
  have hmr := hm.mr
  obtain ⟨hw, hmo, hto⟩ := hm
  obtain ⟨rfl, rfl, rfl, rfl, rfl, h1, h2, h3⟩ := hmo
  have hsr := hs.sr
  obtain ⟨hk, ⟨rfl, rfl, rfl, rfl, rfl, rfl⟩, hs6⟩ := hs
  have ha := hw.p8 hk.1
  have hf := hw.p7 hk.2.2.2.1
  have hd := hk.2.2.2.2.2.2
  obtain ⟨ul, uf⟩ := hun
  subst ul
  unfold m_X5_step m_X6_step
  rcases task_cases hw hto x with ⟨e1, e2⟩ | ⟨t, ht, rfl, e1, e2⟩
  · rw [e1, e2]
    exact ⟨_, _, _, _, _, _, _, _, _, _, _, _, _, _, _, _, _, _, _, _, _, _, _, _, _, _, _, rfl, rfl, same, hK.mono (by omega)⟩
  obtain ⟨k1, k2, k3, k4, k5⟩ := h1 t ht
  rw [e1, e2, Option.bind_some, Option.bind_some, if_neg n10, if_neg n10, hpack, Option.bind_some, hk.unpack hw, Option.bind_some, xX6_helpNow hw hto (by omega) hsr ht ha hk.2.2.2.1 (by omega), Option.bind_some]
  simp only
  rw [xX4_tryRide hw ht ha hf (by omega) k1 k4 h3 k3 k5, Option.bind_some]
  cases hx : hn τ (v 0) (v 1) (v 2) (v 3) (v 5) t with
  | none =>
    rw [if_neg (show ¬ 0 ≤ oM none by decide)]
    exact ⟨_, _, _, _, _, _, _, _, _, _, _, _, _, _, _, _, _, _, _, _, _, _, _, _, _, _, _, rfl, rfl, same, hK.mono (by omega)⟩
  | some z =>
    have hz := (hn_lt hf hx).1
    have hk' := hk.ride hw ht hx
    obtain ⟨s', g1, g2, g3⟩ := xX6_rides hw hto (N := N) (by omega) hk hs6 ht hx
    have hsr' : SR s' (vRide τ v t z 0) (vRide τ v t z 1) (vRide τ v t z 2) (vRide τ v t z 3) (vRide τ v t z 4) (vRide τ v t z 5) := ⟨g2 0 (by decide), g2 1 (by decide), g2 2 (by decide), g2 3 (by decide), g2 4 (by decide), g2 5 (by decide)⟩
    obtain ⟨len', asks', brings', uses', dys', tries', row', first', w1, w2⟩ := xX6_walksAll hw hto hsr' hk' hN hsn asks brings uses dys tries row first
    obtain ⟨num', en', tl', K', f1, f2⟩ := xX2_waysOf hw (N := N) (by omega) hk' hB (Nat.zero_le 8) hmr (lok_all uf) hK
    have f1' : m_X2_waysOf N num K (nI (τ 0)) (nI (τ 3)) kinds rideDays helpKinds nexts masks (nI (v 0 ||| 2 ^ nx τ t)) (nI (v 1 ||| 2 ^ t)) (nI (v 2)) (nI (v 3 ||| z)) (nI (v 4)) (nI (v 5 + rdy τ t)) (0 : Int32) usleft = _ := f1
    simp only
    rw [if_neg n10, f1', Option.bind_some, if_pos (show 0 ≤ oM (some z) from nI_pos' (by omega)), g1, Option.bind_some, w1, Option.bind_some]
    refine ⟨_, _, _, _, _, _, _, _, _, _, _, _, _, _, _, _, _, _, _, _, _, _, _, _, _, _, _, rfl, rfl, ⟨hk, ⟨rfl, rfl, rfl, rfl, rfl, rfl⟩, six ?_ ?_ ?_ ?_ ?_ ?_⟩, f2⟩
    · rw [pk_un (by decide), pk_un (by decide), pk_un (by decide), pk_us]; exact hs6 0 (by decide)
    · rw [pk_un (by decide), pk_un (by decide), pk_us]; exact hs6 1 (by decide)
    · rw [pk_un (by decide), pk_un (by decide), pk_un (by decide), pk_un (by decide), g3 2 (by decide) (by decide) (by decide) (by decide)]; exact hs6 2 (by decide)
    · rw [pk_un (by decide), pk_us]; exact hs6 3 (by decide)
    · rw [pk_un (by decide), pk_un (by decide), pk_un (by decide), pk_un (by decide), g3 4 (by decide) (by decide) (by decide) (by decide)]; exact hs6 4 (by decide)
    · rw [pk_us]; exact hs6 5 (by decide)
