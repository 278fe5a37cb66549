/-! worth, king -/
def vFr (v : Nat → Nat) (h : Nat) : Nat → Nat := vq (v 0) (v 1) (v 2 ||| 2 ^ h) (v 3) (v 4) (v 5)
theorem Sov.fr {τ : Td} {v : Nat → Nat} (hk : Sov τ v) {h : Nat} (hh : h < τ 1) : Sov τ (vFr v h) := by
  obtain ⟨ha, hb, hba, hf, huf, hc, hd⟩ := hk
  exact ⟨ha, hb, hba, or_lt hf (p2_lt hh), fun i hi => or_sub (huf i hi), hc, hd⟩
theorem max0 (x : Int32) : (if (0 : Int32) < x then x else (0 : Int32)) = if 0 ≤ x then x else 0 := by
  by_cases h : 0 < x
  · rw [if_pos h, if_pos (Int32.le_of_lt h)]
  · rw [if_neg h]
    by_cases h2 : 0 ≤ x
    · rw [if_pos h2]
      exact (Int32.le_antisymm (Int32.not_lt.mp h) h2).symm
    · rw [if_neg h2]
theorem sd_back {x h : Nat} (hx : x < 2 ^ 31) (hb : x.testBit h = false) (hh : h < 31) : sd (x ||| 2 ^ h) (2 ^ h) = x := by
  apply Nat.eq_of_testBit_eq
  intro i
  rw [sd_tb _ _ (or_lt (n := 32) (by omega) (p2_lt (by omega))), or_p2_tb, Nat.testBit_two_pow]
  by_cases e : h = i
  · subst e; rw [hb]; simp
  · simp [e]
set_option maxHeartbeats 1000000 in
theorem op_worth {τ : Td} {tasks helpers askedFirst crumbsFirst lastDay : Int32} {kinds days rideDays helpKinds nexts helperKinds prices masks told : Nat → Int32} (hm : MoI τ tasks helpers askedFirst crumbsFirst lastDay kinds days rideDays helpKinds nexts helperKinds prices masks told) {v : Nat → Nat} {asked brought friends used crumbs day : Int32} {s : Nat → Int32} (hs : StI τ v asked brought friends used crumbs day s) {σ : Nat → Nat × Nat} {n N B : Nat} (hN : 30000000 ≤ N) {seen : Nat → Int32} (hsn : SnR σ n seen) {uslast : Int32} {usleft : Nat → Int32} (hun : UnI uslast usleft) {num : Int64} {K : Nat → Int64} (hK : Mem num K B) (hB : B + 600 < 2 ^ 29) (ta tb tf tu tc td : Int32) (en : Int64) (tl a0 b0 f0 u0 c0 d0 many len set : Int32) (asks brings uses dys tries row first : Nat → Int32) (x y : Int32) : ∃ r ta' tb' tf' tu' tc' td' num' en' tl' K' a1 b1 f1 u1 c1 d1 many' len' set' s' asks' brings' uses' dys' tries' row' first', m_X5_worth N tasks helpers lastDay kinds rideDays helpKinds nexts prices masks asked brought friends used crumbs day ta tb tf tu tc td uslast usleft num en tl K a0 b0 f0 u0 c0 d0 x y = some (r, ta', tb', tf', tu', tc', td', num', en', tl', K', a1, b1, f1, u1, c1, d1) ∧ m_X6_worth N (nI n) many len set told s seen asks brings uses dys tries row first x y = some (r, many', len', set', s', asks', brings', uses', dys', tries', row', first') ∧ StI τ v asked brought friends used crumbs day s' ∧ Mem num' K' (B + 300) := by
  have same := hs
  have hpack := hs.packed hm.1
  have hmr := hm.mr
  obtain ⟨hw, hmo, hto⟩ := hm
  obtain ⟨rfl, rfl, rfl, rfl, rfl, h1, h2, h3⟩ := hmo
  have hsr := hs.sr
  obtain ⟨hk, ⟨rfl, rfl, rfl, rfl, rfl, rfl⟩, hs6⟩ := hs
  obtain ⟨ul, uf⟩ := hun
  subst ul
  have hH7 := hw.2.1
  have hf := hw.p7 hk.2.2.2.1
  unfold m_X5_worth m_X6_worth
  rcases helper_cases hw hto x with ⟨e1, e2⟩ | ⟨h, hh, rfl, e1, e2⟩
  · rw [e1, e2]
    exact ⟨_, _, _, _, _, _, _, _, _, _, _, _, _, _, _, _, _, _, _, _, _, _, _, _, _, _, _, _, rfl, rfl, same, hK.mono (by omega)⟩
  rw [e1, e2, Option.bind_some, Option.bind_some, if_neg n10, if_neg n10]
  rcases in01 y with ⟨q, e⟩ | ⟨q1, q2, e⟩ | ⟨q1, q2, e⟩
  · rw [if_pos q, e, Option.bind_some, if_pos (show (0 : Int32) = 0 from rfl)]
    exact ⟨_, _, _, _, _, _, _, _, _, _, _, _, _, _, _, _, _, _, _, _, _, _, _, _, _, _, _, _, rfl, rfl, same, hK.mono (by omega)⟩
  · rw [if_neg q1, if_neg q2, e, Option.bind_some, if_pos (show (0 : Int32) = 0 from rfl)]
    exact ⟨_, _, _, _, _, _, _, _, _, _, _, _, _, _, _, _, _, _, _, _, _, _, _, _, _, _, _, _, rfl, rfl, same, hK.mono (by omega)⟩
  rw [if_neg q1, if_pos q2, e, Option.bind_some, if_neg n10, xX5_bit (by omega), Option.bind_some, hs6 2 (by decide), j_bt (by omega) (by omega)]
  by_cases hb : (v 2).testBit h = true
  · rw [if_neg (fun z => by rw [(j_tb0 (by omega)).mp z] at hb; cases hb), if_pos (bt1.mpr hb)]
    exact ⟨_, _, _, _, _, _, _, _, _, _, _, _, _, _, _, _, _, _, _, _, _, _, _, _, _, _, _, _, rfl, rfl, same, hK.mono (by omega)⟩
  have hb' : (v 2).testBit h = false := by simpa using hb
  have hk' := hk.fr hh
  -- the reference
  obtain ⟨l1, z1, z2, z3, z4, z5, z6, z7, w1, -⟩ := xX6_walksAll hw hto hsr hk hN hsn asks brings uses dys tries row first
  obtain ⟨m2, l2, s2, y1, y2, y3, y4, y5, y6, y7, w2, w3⟩ := xX6_few hw hto hk hN hsn (nI (Rw τ (v 2) tt2 0 (v 0) (v 1) (v 3) (v 5)).length) l1 hs6 z1 z2 z3 z4 z5 z6 z7
  have hs3 : ∀ k, k < 6 → upd s2 2 (nI (v 2 ||| 2 ^ h)) k = nI (vFr v h k) := six (by rw [pk_un (by decide)]; exact w3 0 (by decide)) (by rw [pk_un (by decide)]; exact w3 1 (by decide)) pk_us (by rw [pk_un (by decide)]; exact w3 3 (by decide)) (by rw [pk_un (by decide)]; exact w3 4 (by decide)) (by rw [pk_un (by decide)]; exact w3 5 (by decide))
  have hsr3 : SR (upd s2 2 (nI (v 2 ||| 2 ^ h))) (vFr v h 0) (vFr v h 1) (vFr v h 2) (vFr v h 3) (vFr v h 4) (vFr v h 5) := ⟨hs3 0 (by decide), hs3 1 (by decide), hs3 2 (by decide), hs3 3 (by decide), hs3 4 (by decide), hs3 5 (by decide)⟩
  obtain ⟨l3, x1, x2, x3, x4, x5, x6, x7, w4, -⟩ := xX6_walksAll hw hto hsr3 hk' hN hsn y1 y2 y3 y4 y5 y6 y7
  obtain ⟨m4, l4, s4, t1, t2, t3, t4, t5, t6, t7, w5, w6⟩ := xX6_few hw hto hk' hN hsn (nI (Rw τ (vFr v h 2) tt2 0 (vFr v h 0) (vFr v h 1) (vFr v h 3) (vFr v h 5)).length) l3 hs3 x1 x2 x3 x4 x5 x6 x7
  have hback : ∀ k, k < 6 → upd s4 2 (nI (v 2)) k = nI (v k) := six (by rw [pk_un (by decide)]; exact w6 0 (by decide)) (by rw [pk_un (by decide)]; exact w6 1 (by decide)) pk_us (by rw [pk_un (by decide)]; exact w6 3 (by decide)) (by rw [pk_un (by decide)]; exact w6 4 (by decide)) (by rw [pk_un (by decide)]; exact w6 5 (by decide))
  have hst : StI τ v (nI (v 0)) (nI (v 1)) (nI (v 2)) (nI (v 3)) (nI (v 4)) (nI (v 5)) (upd s4 2 (nI (v 2))) := ⟨hk, ⟨rfl, rfl, rfl, rfl, rfl, rfl⟩, hback⟩
  have e4 : s4 2 = nI (v 2 ||| 2 ^ h) := w6 2 (by decide)
  rw [if_pos ((j_tb0 (x := v 2) (t := h) (by omega)).mpr hb'), if_neg (fun z => hb (bt1.mp z)), hpack, Option.bind_some, hk.unpack hw, Option.bind_some, Option.bind_some, w1, Option.bind_some, w2, Option.bind_some]
  simp only
  rw [w3 2 (by decide), j_bit h (by omega), j_or, Option.bind_some, w4, Option.bind_some, w5, Option.bind_some]
  simp only
  rw [e4, j_sd, sd_back (by omega) hb' (by omega), Option.bind_some]
  by_cases y0 : y = 0
  · rw [if_pos y0, if_pos y0]
    obtain ⟨num1, en1, tl1, K1, g1, g2⟩ := xX2_waysOf hw (N := N) (by omega) hk (B := B) (by omega) (Nat.zero_le 8) hmr (lok_all uf) hK
    obtain ⟨num2, en2, tl2, K2, g3, g4⟩ := xX2_waysOf hw (N := N) (by omega) hk' (B := B + 1) (by omega) (Nat.zero_le 8) hmr (lok_all uf) g2
    have g1' : m_X2_waysOf N num K (nI (τ 0)) (nI (τ 3)) kinds rideDays helpKinds nexts masks (nI (v 0)) (nI (v 1)) (nI (v 2)) (nI (v 3)) (nI (v 4)) (nI (v 5)) (0 : Int32) usleft = _ := g1
    have g3' : m_X2_waysOf N num1 K1 (nI (τ 0)) (nI (τ 3)) kinds rideDays helpKinds nexts masks (nI (v 0)) (nI (v 1)) (nI (v 2 ||| 2 ^ h)) (nI (v 3)) (nI (v 4)) (nI (v 5)) (0 : Int32) usleft = _ := g3
    rw [g1', Option.bind_some]
    simp only
    rw [g3', Option.bind_some]
    simp only
    rw [max0]
    by_cases c : 0 ≤ nI (Rw τ (vFr v h 2) tt2 0 (vFr v h 0) (vFr v h 1) (vFr v h 3) (vFr v h 5)).length - nI (Rw τ (v 2) tt2 0 (v 0) (v 1) (v 3) (v 5)).length
    · rw [if_pos c, if_pos c]
      exact ⟨_, _, _, _, _, _, _, _, _, _, _, _, _, _, _, _, _, _, _, _, _, _, _, _, _, _, _, _, rfl, rfl, hst, g4.mono (by omega)⟩
    · rw [if_neg c, if_neg c]
      exact ⟨_, _, _, _, _, _, _, _, _, _, _, _, _, _, _, _, _, _, _, _, _, _, _, _, _, _, _, _, rfl, rfl, hst, g4.mono (by omega)⟩
  · rw [if_neg y0, if_neg y0]
    obtain ⟨num1, en1, tl1, K1, a1, b1, f1, u1, c1, d1, g1, g2⟩ := xX2_fewestSet hw hk (N := N) (B := B) (by omega) (by omega) hmr (fun h hh => (h2 h hh).2) (lok_all uf) hK
    obtain ⟨num2, en2, tl2, K2, a2, b2, f2, u2, c2, d2, g3, g4⟩ := xX2_fewestSet hw hk' (N := N) (B := B + 129) (by omega) (by omega) hmr (fun h hh => (h2 h hh).2) (lok_all uf) g2
    have g3' : m_X2_fewestSet N num1 K1 0 usleft (nI (τ 0)) (nI (τ 1)) (nI (τ 3)) kinds rideDays helpKinds nexts prices masks (nI (v 0)) (nI (v 1)) (nI (v 2 ||| 2 ^ h)) (nI (v 3)) (nI (v 4)) (nI (v 5)) = _ := g3
    rw [g1, Option.bind_some]
    simp only
    rw [g3', Option.bind_some]
    have hmono : Mem num2 K2 (B + 300) := g4.mono (by omega)
    have nneg : ∀ g, g < 128 → ¬ nI g < 0 := fun g hg => nI_pos (by omega)
    have noF : ∀ g, ¬ oF τ (some g) = (-4 : Int32) := fun g z => by
      have hg := pc_le hw g
      have h0 : ¬ nI (pc τ g) < 0 := nI_pos (by omega)
      have z' : nI (pc τ g) = (-4 : Int32) := z
      rw [z'] at h0
      exact h0 (by decide)
    cases ho : bst τ v 128 with
    | none =>
      simp only
      rw [if_pos (show oB none < 0 by decide), if_pos (show oF τ none = (-4 : Int32) from rfl)]
      exact ⟨_, _, _, _, _, _, _, _, _, _, _, _, _, _, _, _, _, _, _, _, _, _, _, _, _, _, _, _, rfl, rfl, hst, hmono⟩
    | some g =>
      have hg := (bst_le ho).1
      simp only
      rw [if_neg (show ¬ oB (some g) < 0 from nneg g hg), if_neg (noF g)]
      cases ho2 : bst τ (vFr v h) 128 with
      | none =>
        rw [if_neg (show ¬ 0 ≤ oB none by decide), if_pos (show oF τ none = (-4 : Int32) from rfl)]
        exact ⟨_, _, _, _, _, _, _, _, _, _, _, _, _, _, _, _, _, _, _, _, _, _, _, _, _, _, _, _, rfl, rfl, hst, hmono⟩
      | some g' =>
        have hg' := (bst_le ho2).1
        rw [if_pos (show 0 ≤ oB (some g') from nI_pos' (by omega)), if_neg (noF g'), show oB (some g) = nI g from rfl, show oB (some g') = nI g' from rfl, xX0_priceOfSet hw (by omega) (fun h hh => (h2 h hh).2), xX0_priceOfSet hw (by omega) (fun h hh => (h2 h hh).2), Option.bind_some, Option.bind_some]
        exact ⟨_, _, _, _, _, _, _, _, _, _, _, _, _, _, _, _, _, _, _, _, _, _, _, _, _, _, _, _, rfl, rfl, hst, hmono⟩
