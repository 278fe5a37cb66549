/-! king -/
def dw (z k : Nat) : Nat := (7919 * z + 6151 * k + 1) * (7919 * z + 6151 * k + 1) % 65521 / 2
theorem dw_lt (z k : Nat) : dw z k < 32761 := by
  unfold dw
  have := Nat.mod_lt ((7919 * z + 6151 * k + 1) * (7919 * z + 6151 * k + 1)) (show 0 < 65521 by decide)
  omega
theorem dw_x {z k : Nat} (hz : z ≤ 9999) (hk : k < 40) : (some ((((7919 : Int64) * ((nI z).toInt64)) + ((6151 : Int64) * ((nI k).toInt64))) + (1 : Int64))) = some (lN (7919 * z + 6151 * k + 1)) := by
  rw [nI_l (by omega), nI_l (by omega), show (7919 : Int64) = lN 7919 from rfl, show (6151 : Int64) = lN 6151 from rfl, lN_mul, lN_mul, lN_add, lN_1]
theorem sq_lt {x : Nat} (h : x < 80000000) : x * x < 2 ^ 63 := by
  have := Nat.mul_lt_mul'' h h
  omega
theorem xX5_drawOf {z k : Nat} (hz : z ≤ 9999) (hk : k < 40) : m_X5_drawOf (nI z) (nI k) = some (nI (dw z k)) := by
  unfold m_X5_drawOf
  have hsq := sq_lt (x := 7919 * z + 6151 * k + 1) (by omega)
  have hm := Nat.mod_lt ((7919 * z + 6151 * k + 1) * (7919 * z + 6151 * k + 1)) (show 0 < 65521 by decide)
  rw [dw_x hz hk, Option.bind_some, lN_mul, show (65521 : Int64) = lN 65521 from rfl, pk_lRem hsq (by decide) (by decide), show (2 : Int64) = lN 2 from rfl, pk_lDiv (by omega) (by decide) (by decide), lN_i]
  rfl
theorem xX6_draw {z k : Nat} (hz : z ≤ 9999) (hk : k < 40) : ((((lN (7919 * z + 6151 * k + 1) * lN (7919 * z + 6151 * k + 1)) - (lN (7919 * z + 6151 * k + 1) * lN (7919 * z + 6151 * k + 1)) / (65521 : Int64) * (65521 : Int64))).toInt32) / (2 : Int32) = nI (dw z k) := by
  have hsq := sq_lt (x := 7919 * z + 6151 * k + 1) (by omega)
  have hm := Nat.mod_lt ((7919 * z + 6151 * k + 1) * (7919 * z + 6151 * k + 1)) (show 0 < 65521 by decide)
  rw [lN_mul, show (65521 : Int64) = lN 65521 from rfl, pk_lRem hsq (by decide) (by decide), lN_i, show (2 : Int32) = nI 2 from rfl, pk_div (by omega) (by decide) (by decide)]
  rfl
/-- one turn of a king -/
def kst (τ : Td) (v : Nat → Nat) (w : Nat) : Nat → Nat := match hn τ (v 0) (v 1) (v 2) (v 3) (v 5) (w % τ 0) with
  | some x => vRide τ v (w % τ 0) x
  | none => if 0 < τ 1 ∧ (v 2).testBit (w / 8 % τ 1) = false ∧ pr τ (w / 8 % τ 1) ≤ v 4 then vFriend τ v (w / 8 % τ 1) else if (sug τ (v 0) (v 5)).testBit (w % τ 0) then vAsk v (w % τ 0) else v
theorem Sov.king {τ : Td} (hw : Wf τ) {v : Nat → Nat} (hk : Sov τ v) (w : Nat) : Sov τ (kst τ v w) := by
  have ht : w % τ 0 < τ 0 := Nat.mod_lt _ hw.1.1
  unfold kst
  split
  · rename_i x hx; exact hk.ride hw ht hx
  · split
    · rename_i q; exact hk.friend (Nat.mod_lt _ q.1)
    · split
      · exact hk.ask ht
      · exact hk
theorem xX5_kingGoesOn {τ : Td} (hw : Wf τ) {v : Nat → Nat} (hk : Sov τ v) {kinds days rideDays helpKinds nexts helperKinds prices masks : Nat → Int32} (hmo : MoR τ (nI (τ 0)) (nI (τ 1)) (nI (τ 4)) (nI (τ 2)) (nI (τ 3)) kinds days rideDays helpKinds nexts helperKinds prices masks) {w : Nat} (hw2 : w < 40000) : m_X5_kingGoesOn (nI (τ 0)) (nI (τ 1)) (nI (τ 3)) kinds rideDays helpKinds nexts prices masks (nI (v 0)) (nI (v 1)) (nI (v 2)) (nI (v 3)) (nI (v 4)) (nI (v 5)) (nI w) = some (nI (kst τ v w 0), nI (kst τ v w 1), nI (kst τ v w 2), nI (kst τ v w 3), nI (kst τ v w 4), nI (kst τ v w 5)) := by
  obtain ⟨-, -, -, -, -, h1, h2, h3⟩ := hmo
  have hT8 := hw.1.2
  have hT1 := hw.1.1
  have hH7 := hw.2.1
  have ha := hw.p8 hk.1
  have hf := hw.p7 hk.2.2.2.1
  have hd := hk.2.2.2.2.2.2
  have ht : w % τ 0 < τ 0 := Nat.mod_lt _ hT1
  obtain ⟨k1, k2, k3, k4, k5⟩ := h1 (w % τ 0) ht
  unfold m_X5_kingGoesOn
  rw [if_pos (show (1 : Int32) ≤ nI (τ 0) from nI_le (a := 1) hT1 (by omega)), if_pos (show ¬ nI (τ 0) = 0 from nI_ne0 hT1 (by omega)), pk_rem (by omega) hT1 (by omega), Option.bind_some, xX4_tryRide hw ht ha hf (by omega) k1 k4 h3 k3 k5, Option.bind_some]
  unfold kst
  cases hx : hn τ (v 0) (v 1) (v 2) (v 3) (v 5) (w % τ 0) with
  | some x =>
    simp only
    rw [if_neg n10]
    rfl
  | none =>
    simp only
    rw [if_pos trivial, xX4_trySuggest hw hd ht]
    by_cases hH : 0 < τ 1
    · have hh : w / 8 % τ 1 < τ 1 := Nat.mod_lt _ hH
      rw [if_neg (show ¬ nI (τ 1) ≤ 0 from nI_nle hH (by omega)), if_pos (show ¬ nI (τ 1) = 0 from nI_ne0 hH (by omega)), show (8 : Int32) = nI 8 from rfl, pk_div (by omega) (by decide) (by decide), pk_rem (by omega) hH (by omega), xX4_tryBefriend hw hk hh (h2 _ hh).2, Option.bind_some, Option.bind_some]
      by_cases c : (v 2).testBit (w / 8 % τ 1) = false ∧ pr τ (w / 8 % τ 1) ≤ v 4
      · have hyes : 0 < τ 1 ∧ (v 2).testBit (w / 8 % τ 1) = false ∧ pr τ (w / 8 % τ 1) ≤ v 4 := ⟨hH, c⟩
        rw [if_pos c, if_pos hyes]
        simp only
        rw [if_neg n10]
        rfl
      · have hno : ¬ (0 < τ 1 ∧ (v 2).testBit (w / 8 % τ 1) = false ∧ pr τ (w / 8 % τ 1) ≤ v 4) := fun z => c z.2
        rw [if_neg c, if_neg hno]
        simp only
        rw [if_pos trivial]
        by_cases c2 : (sug τ (v 0) (v 5)).testBit (w % τ 0) = true
        · rw [if_pos c2, if_pos c2]; rfl
        · rw [if_neg c2, if_neg c2]
    · have e0 : τ 1 = 0 := by omega
      rw [if_pos (show nI (τ 1) ≤ 0 by rw [e0]; decide), Option.bind_some, if_neg (show ¬ (0 < τ 1 ∧ (v 2).testBit (w / 8 % τ 1) = false ∧ pr τ (w / 8 % τ 1) ≤ v 4) from fun z => hH z.1)]
      by_cases c2 : (sug τ (v 0) (v 5)).testBit (w % τ 0) = true
      · rw [if_pos c2, if_pos c2]; rfl
      · rw [if_neg c2, if_neg c2]
theorem xX6_steps {τ : Td} (hw : Wf τ) {told s : Nat → Int32} (hto : ToR τ told) {v : Nat → Nat} (hk : Sov τ v) (hs : ∀ k, k < 6 → s k = nI (v k)) {w N : Nat} (hN : 100 ≤ N) (hw2 : w < 40000) : ∃ s', m_X6_steps N told s (nI w) = some s' ∧ ∀ k, k < 6 → s' k = nI (kst τ v w k) := by
  have hsr : SR s (v 0) (v 1) (v 2) (v 3) (v 4) (v 5) := ⟨hs 0 (by decide), hs 1 (by decide), hs 2 (by decide), hs 3 (by decide), hs 4 (by decide), hs 5 (by decide)⟩
  have hT8 := hw.1.2
  have hT1 := hw.1.1
  have hH7 := hw.2.1
  have ha := hw.p8 hk.1
  have hf := hw.p7 hk.2.2.2.1
  have hd := hk.2.2.2.2.2.2
  have ht : w % τ 0 < τ 0 := Nat.mod_lt _ hT1
  have hsg := hw.p8 (sug_lt τ (v 0) (v 5))
  have oneg : ∀ x, hn τ (v 0) (v 1) (v 2) (v 3) (v 5) (w % τ 0) = some x → ¬ oM (some x) < 0 := fun x hx => nI_pos (by have := (hn_lt hf hx).1; omega)
  -- the last of the three
  have sil : ∃ s', ((m_X6_silent told s).bind fun r43 => if ((r43 >>> (nI (w % τ 0) &&& 31)) &&& (1 : Int32)) = (1 : Int32) then (some ((s 0) ||| ((1 : Int32) <<< (nI (w % τ 0) &&& 31)))).bind fun y48 => some (upd s 0 y48) else some s) = some s' ∧ ∀ k, k < 6 → s' k = nI ((if (sug τ (v 0) (v 5)).testBit (w % τ 0) then vAsk v (w % τ 0) else v) k) := by
    rw [xX6_silent hw hto hk hs, Option.bind_some, j_bt (by omega) (by omega)]
    by_cases c2 : (sug τ (v 0) (v 5)).testBit (w % τ 0) = true
    · rw [if_pos (bt1.mpr c2), if_pos c2, j_bit (w % τ 0) (by omega), hs 0 (by decide), j_or, Option.bind_some]
      exact ⟨_, rfl, six_ask hs _⟩
    · rw [if_neg (fun z => c2 (bt1.mp z)), if_neg c2]
      exact ⟨_, rfl, hs⟩
  obtain ⟨s', f1, f2⟩ := sil
  unfold m_X6_steps
  rw [(hto 0 (by decide)).1, (hto 1 (by decide)).1, if_pos (show ¬ nI (τ 0) = 0 from nI_ne0 hT1 (by omega)), pk_rem (by omega) hT1 (by omega), Option.bind_some, xX6_helpNow hw hto hN hsr ht ha hk.2.2.2.1 (by omega), f1]
  unfold kst
  by_cases hH : 0 < τ 1
  · have hh : w / 8 % τ 1 < τ 1 := Nat.mod_lt _ hH
    rw [if_neg (show ¬ nI (τ 1) = 0 from nI_ne0 hH (by omega)), show (8 : Int32) = nI 8 from rfl, pk_div (by omega) (by decide) (by decide), pk_rem (by omega) hH (by omega), Option.bind_some, Option.bind_some]
    cases hx : hn τ (v 0) (v 1) (v 2) (v 3) (v 5) (w % τ 0) with
    | some x =>
      rw [if_neg (oneg x hx)]
      obtain ⟨s2, g1, g2, -⟩ := xX6_rides hw hto hN hk hs ht hx
      rw [g1]
      exact ⟨_, rfl, g2⟩
    | none =>
      rw [if_pos (show oM none < 0 by decide), if_neg (show ¬ nI (τ 1) ≤ 0 from nI_nle hH (by omega)), xX6_canBefriend hw hto hk hs hh, Option.bind_some]
      by_cases c : (v 2).testBit (w / 8 % τ 1) = false ∧ pr τ (w / 8 % τ 1) ≤ v 4
      · obtain ⟨s2, g1, g2⟩ := xX6_befriends hw hto hk hs hh c.2
        rw [if_pos c, if_neg n10, g1]
        refine ⟨_, rfl, ?_⟩
        simp only
        rw [if_pos ⟨hH, c⟩]
        exact g2
      · rw [if_neg c, if_pos (show (0 : Int32) = 0 from rfl)]
        refine ⟨_, rfl, ?_⟩
        simp only
        rw [if_neg (fun z => c z.2)]
        exact f2
  · have e0 : τ 1 = 0 := by omega
    rw [if_pos (show nI (τ 1) = 0 by rw [e0]; rfl), Option.bind_some]
    cases hx : hn τ (v 0) (v 1) (v 2) (v 3) (v 5) (w % τ 0) with
    | some x =>
      rw [if_neg (oneg x hx)]
      obtain ⟨s2, g1, g2, -⟩ := xX6_rides hw hto hN hk hs ht hx
      rw [g1]
      exact ⟨_, rfl, g2⟩
    | none =>
      rw [if_pos (show oM none < 0 by decide), if_pos (show nI (τ 1) ≤ 0 by rw [e0]; decide)]
      refine ⟨_, rfl, ?_⟩
      simp only
      rw [if_neg (fun z => hH z.1)]
      exact f2
/-- n turns, from the k-th on -/
def kgs (τ : Td) (z : Nat) : Nat → Nat → (Nat → Nat) → (Nat → Nat)
  | 0, _, v => v
  | n + 1, k, v => kgs τ z n (k + 1) (kst τ v (dw z k))
theorem Sov.kgs {τ : Td} (hw : Wf τ) (z : Nat) : ∀ (n k : Nat) (v : Nat → Nat), Sov τ v → Sov τ (kgs τ z n k v)
  | 0, _, _, h => h
  | n + 1, k, v, h => Sov.kgs hw z n (k + 1) _ (h.king hw _)
theorem xX5_king_loop {τ : Td} (hw : Wf τ) {kinds days rideDays helpKinds nexts helperKinds prices masks : Nat → Int32} (hmo : MoR τ (nI (τ 0)) (nI (τ 1)) (nI (τ 4)) (nI (τ 2)) (nI (τ 3)) kinds days rideDays helpKinds nexts helperKinds prices masks) {z n : Nat} (hz : z ≤ 9999) (hn40 : n ≤ 40) : ∀ (m k fuel : Nat) (v : Nat → Nat), k + m = n → m < fuel → Sov τ v → lp_X5_king_50 (nI z) (nI n) (nI (τ 0)) (nI (τ 1)) (nI (τ 3)) kinds rideDays helpKinds nexts prices masks fuel (nI k) (nI (v 0)) (nI (v 1)) (nI (v 2)) (nI (v 3)) (nI (v 4)) (nI (v 5)) = some (nI (kgs τ z m k v 0), nI (kgs τ z m k v 1), nI (kgs τ z m k v 2), nI (kgs τ z m k v 3), nI (kgs τ z m k v 4), nI (kgs τ z m k v 5)) := by
  intro m
  induction m with
  | zero =>
    intro k fuel v hk hfu hv
    obtain ⟨q, rfl⟩ : ∃ q, fuel = q + 1 := ⟨fuel - 1, by omega⟩
    rw [lp_X5_king_50, if_pos (nI_le (by omega) (by omega))]
    rfl
  | succ m ih =>
    intro k fuel v hk hfu hv
    obtain ⟨q, rfl⟩ : ∃ q, fuel = q + 1 := ⟨fuel - 1, by omega⟩
    rw [lp_X5_king_50, if_neg (nI_ge (by omega) (by omega)), xX5_drawOf hz (by omega), Option.bind_some, xX5_kingGoesOn hw hv hmo (by have := dw_lt z k; omega), Option.bind_some, nI_1]
    exact ih (k + 1) q (kst τ v (dw z k)) (by omega) (by omega) (hv.king hw _)
theorem xX6_king_loop {τ : Td} (hw : Wf τ) {told : Nat → Int32} (hto : ToR τ told) {z n N : Nat} (hN : 100 ≤ N) (hz : z ≤ 9999) (hn40 : n ≤ 40) : ∀ (m k fuel : Nat) (v : Nat → Nat) (s : Nat → Int32), k + m = n → m < fuel → Sov τ v → (∀ k, k < 6 → s k = nI (v k)) → ∃ s', lp_X6_king_65 N (nI z) (nI n) told fuel (nI k) s = some s' ∧ ∀ i, i < 6 → s' i = nI (kgs τ z m k v i) := by
  intro m
  induction m with
  | zero =>
    intro k fuel v s hk hfu hv hs
    obtain ⟨q, rfl⟩ : ∃ q, fuel = q + 1 := ⟨fuel - 1, by omega⟩
    rw [lp_X6_king_65, if_pos (nI_le (by omega) (by omega))]
    exact ⟨_, rfl, hs⟩
  | succ m ih =>
    intro k fuel v s hk hfu hv hs
    obtain ⟨q, rfl⟩ : ∃ q, fuel = q + 1 := ⟨fuel - 1, by omega⟩
    obtain ⟨s1, g1, g2⟩ := xX6_steps hw hto hv hs hN (w := dw z k) (by have := dw_lt z k; omega)
    rw [lp_X6_king_65, if_neg (nI_ge (by omega) (by omega)), dw_x hz (by omega), Option.bind_some, xX6_draw hz (by omega), g1, Option.bind_some, nI_1]
    exact ih (k + 1) q (kst τ v (dw z k)) s1 (by omega) (by omega) (hv.king hw _) g2
theorem xX6_king_35 {s : Nat → Int32} : ∀ (m k fuel : Nat) (held : Nat → Int32), k + m = 6 → m < fuel → ∃ held', lp_X6_king_35 s fuel (nI k) held = some held' ∧ (∀ i, k ≤ i → i < 6 → held' i = s i) ∧ ∀ j, j < k → held' j = held j := by
  intro m
  induction m with
  | zero =>
    intro k fuel held hk hfu
    obtain ⟨n, rfl⟩ : ∃ n, fuel = n + 1 := ⟨fuel - 1, by omega⟩
    refine ⟨held, ?_, fun i a b => by omega, fun j _ => rfl⟩
    rw [lp_X6_king_35, if_pos (show (6 : Int32) ≤ nI _ from nI_le (a := 6) (by omega) (by omega))]
  | succ m ih =>
    intro k fuel held hk hfu
    obtain ⟨n, rfl⟩ : ∃ n, fuel = n + 1 := ⟨fuel - 1, by omega⟩
    obtain ⟨held', h1, h2, h3⟩ := ih (k + 1) n (upd held k (s k)) (by omega) (by omega)
    refine ⟨held', ?_, fun i a b => ?_, fun j hj => ?_⟩
    · rw [lp_X6_king_35, if_neg (show ¬ (6 : Int32) ≤ nI _ from nI_ge (b := 6) (by omega) (by decide)), if_pos (j_in (by omega) (by decide)), j_clamp (n := k) (by omega), nI_1]
      exact h1
    · by_cases q : i = k
      · subst q; rw [h3 _ (by omega), pk_us]
      · exact h2 i (by omega) b
    · rw [h3 j (by omega), pk_un (by omega)]
theorem xX6_king_158 {s : Nat → Int32} : ∀ (m k fuel : Nat) (held : Nat → Int32), k + m = 6 → m < fuel → ∃ held', lp_X6_king_158 s fuel (nI k) held = some held' ∧ (∀ i, k ≤ i → i < 6 → held' i = s i) ∧ ∀ j, j < k → held' j = held j := by
  intro m
  induction m with
  | zero =>
    intro k fuel held hk hfu
    obtain ⟨n, rfl⟩ : ∃ n, fuel = n + 1 := ⟨fuel - 1, by omega⟩
    refine ⟨held, ?_, fun i a b => by omega, fun j _ => rfl⟩
    rw [lp_X6_king_158, if_pos (show (6 : Int32) ≤ nI _ from nI_le (a := 6) (by omega) (by omega))]
  | succ m ih =>
    intro k fuel held hk hfu
    obtain ⟨n, rfl⟩ : ∃ n, fuel = n + 1 := ⟨fuel - 1, by omega⟩
    obtain ⟨held', h1, h2, h3⟩ := ih (k + 1) n (upd held k (s k)) (by omega) (by omega)
    refine ⟨held', ?_, fun i a b => ?_, fun j hj => ?_⟩
    · rw [lp_X6_king_158, if_neg (show ¬ (6 : Int32) ≤ nI _ from nI_ge (b := 6) (by omega) (by decide)), if_pos (j_in (by omega) (by decide)), j_clamp (n := k) (by omega), nI_1]
      exact h1
    · by_cases q : i = k
      · subst q; rw [h3 _ (by omega), pk_us]
      · exact h2 i (by omega) b
    · rw [h3 j (by omega), pk_un (by omega)]
theorem op_king {τ : Td} {tasks helpers askedFirst crumbsFirst lastDay : Int32} {kinds days rideDays helpKinds nexts helperKinds prices masks told : Nat → Int32} (hm : MoI τ tasks helpers askedFirst crumbsFirst lastDay kinds days rideDays helpKinds nexts helperKinds prices masks told) {v : Nat → Nat} {asked brought friends used crumbs day : Int32} {s : Nat → Int32} (hs : StI τ v asked brought friends used crumbs day s) {N : Nat} (hN : 100 ≤ N) (ta tb tf tu tc td : Int32) (held : Nat → Int32) (x y z : Int32) : ∃ r ta' tb' tf' tu' tc' td' s' held', m_X5_king N tasks helpers lastDay kinds rideDays helpKinds nexts prices masks asked brought friends used crumbs day ta tb tf tu tc td x y z = some (r, ta', tb', tf', tu', tc', td') ∧ m_X6_king N told s held x y z = some (r, s', held') ∧ StI τ v asked brought friends used crumbs day s' := by
  have same := hs
  have hpack := hs.packed hm.1
  obtain ⟨hw, hmo, hto⟩ := hm
  have hmo2 := hmo
  obtain ⟨rfl, rfl, rfl, rfl, rfl, h1, h2, h3⟩ := hmo
  obtain ⟨hk, ⟨rfl, rfl, rfl, rfl, rfl, rfl⟩, hs6⟩ := hs
  unfold m_X5_king m_X6_king m_X6_in
  by_cases x0 : x < 0
  · rw [if_pos x0, if_pos x0]; exact ⟨_, _, _, _, _, _, _, _, _, rfl, rfl, same⟩
  rw [if_neg x0, if_neg x0]
  by_cases x9 : 9999 < x
  · rw [if_pos x9, if_pos x9]; exact ⟨_, _, _, _, _, _, _, _, _, rfl, rfl, same⟩
  rw [if_neg x9, if_neg x9, Option.bind_some, if_neg n10]
  by_cases y0 : y < 1
  · rw [if_pos y0, if_pos y0]; exact ⟨_, _, _, _, _, _, _, _, _, rfl, rfl, same⟩
  rw [if_neg y0, if_neg y0]
  by_cases y9 : 40 < y
  · rw [if_pos y9, if_pos y9]; exact ⟨_, _, _, _, _, _, _, _, _, rfl, rfl, same⟩
  rw [if_neg y9, if_neg y9, Option.bind_some, if_neg n10]
  by_cases z0 : z < 0
  · rw [if_pos z0, if_pos z0]; exact ⟨_, _, _, _, _, _, _, _, _, rfl, rfl, same⟩
  rw [if_neg z0, if_neg z0]
  by_cases z9 : z ≤ 2
  · rw [if_pos z9, if_neg (Int32.not_lt.mpr z9), Option.bind_some, if_neg n10]
    obtain ⟨x', hx', rfl⟩ := nI_of x0
    have hx9 : x' ≤ 9999 := (nI_leI (b := 9999) hx' (by decide)).mp (Int32.not_lt.mp x9)
    obtain ⟨y', hy', rfl⟩ := nI_of (show ¬ y < 0 from fun w => y0 (Int32.lt_trans w (by decide)))
    have hy9 : y' ≤ 40 := (nI_leI (b := 40) hy' (by decide)).mp (Int32.not_lt.mp y9)
    have f1 := xX5_king_loop hw hmo2 hx9 hy9 y' 0 N v (by omega) (by omega) hk
    have f1' : lp_X5_king_50 (nI x') (nI y') (nI (τ 0)) (nI (τ 1)) (nI (τ 3)) kinds rideDays helpKinds nexts prices masks N (0 : Int32) (nI (v 0)) (nI (v 1)) (nI (v 2)) (nI (v 3)) (nI (v 4)) (nI (v 5)) = _ := f1
    obtain ⟨held', g1, g2, -⟩ := xX6_king_35 (s := s) 6 0 N held (by omega) (by omega)
    have g1' : lp_X6_king_35 s N (0 : Int32) held = some held' := g1
    obtain ⟨s1, e1, e2⟩ := xX6_king_loop hw hto hN hx9 hy9 y' 0 N v s (by omega) (by omega) hk hs6
    have e1' : lp_X6_king_65 N (nI x') (nI y') told N (0 : Int32) s = some s1 := e1
    obtain ⟨s2, c1, c2, -⟩ := xX6_king_158 (s := held') 6 0 N s1 (by omega) (by omega)
    have c1' : lp_X6_king_158 held' N (0 : Int32) s1 = some s2 := c1
    have hk' := hk.kgs hw x' y' 0
    have hst : StI τ v (nI (v 0)) (nI (v 1)) (nI (v 2)) (nI (v 3)) (nI (v 4)) (nI (v 5)) s2 := ⟨hk, ⟨rfl, rfl, rfl, rfl, rfl, rfl⟩, fun k hk6 => by rw [c2 k (Nat.zero_le k) hk6, g2 k (Nat.zero_le k) hk6, hs6 k hk6]⟩
    have hsr1 : SR s1 _ _ _ _ _ _ := ⟨e2 0 (by decide), e2 1 (by decide), e2 2 (by decide), e2 3 (by decide), e2 4 (by decide), e2 5 (by decide)⟩
    have hb8 := hw.p8 hk'.2.1
    have hd' := hk'.2.2.2.2.2.2
    rw [hpack, Option.bind_some, hk.unpack hw, Option.bind_some]
    simp only
    rw [f1', g1', e1', Option.bind_some, Option.bind_some, Option.bind_some, c1']
    by_cases q0 : z = 0
    · rw [if_pos q0, if_pos q0]
      simp only
      rw [bitCount_pop _ hb8, e2 1 (by decide), xX6_ones hN (by omega), Option.bind_some, Option.bind_some, Option.bind_some]
      exact ⟨_, _, _, _, _, _, _, _, _, rfl, rfl, hst⟩
    rw [if_neg q0, if_neg q0]
    by_cases q1 : z = 1
    · rw [if_pos q1, if_pos q1, e2 5 (by decide), Option.bind_some]
      exact ⟨_, _, _, _, _, _, _, _, _, rfl, rfl, hst⟩
    rw [if_neg q1, if_neg q1]
    simp only
    rw [xX4_isLost (by omega) (by have := hw.2.2.2.1.2; omega), xX6_isLost hto hsr1 (by omega), Option.bind_some, Option.bind_some]
    by_cases hl : τ 3 < kgs τ x' y' 0 v 5
    · rw [if_pos hl, if_neg n10, Option.bind_some]
      exact ⟨1, _, _, _, _, _, _, _, _, rfl, rfl, hst⟩
    · rw [if_neg hl, if_pos (show (0 : Int32) = 0 from rfl), Option.bind_some]
      exact ⟨0, _, _, _, _, _, _, _, _, rfl, rfl, hst⟩
  · rw [if_neg z9, if_pos (Int32.not_le.mp z9)]; exact ⟨_, _, _, _, _, _, _, _, _, rfl, rfl, same⟩
