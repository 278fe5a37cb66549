/-! standings one on the other: to undo, and kept -/
/-- a standing as a row of six -/
def vq (a b f u c d : Nat) : Nat → Nat
  | 0 => a
  | 1 => b
  | 2 => f
  | 3 => u
  | 4 => c
  | _ => d
def pkq (v : Nat → Nat) : Nat := pk (v 0) (v 1) (v 2) (v 3) (v 4) (v 5)
def Sov (τ : Td) (v : Nat → Nat) : Prop := Sok τ (v 0) (v 1) (v 2) (v 3) (v 4) (v 5)
/-- class and reference stand alike -/
def StI (τ : Td) (v : Nat → Nat) (asked brought friends used crumbs day : Int32) (s : Nat → Int32) : Prop := Sov τ v ∧ (asked = nI (v 0) ∧ brought = nI (v 1) ∧ friends = nI (v 2) ∧ used = nI (v 3) ∧ crumbs = nI (v 4) ∧ day = nI (v 5)) ∧ ∀ k, k < 6 → s k = nI (v k)
theorem StI.sr {τ : Td} {v : Nat → Nat} {asked brought friends used crumbs day : Int32} {s : Nat → Int32} (h : StI τ v asked brought friends used crumbs day s) : SR s (v 0) (v 1) (v 2) (v 3) (v 4) (v 5) := ⟨h.2.2 0 (by decide), h.2.2 1 (by decide), h.2.2 2 (by decide), h.2.2 3 (by decide), h.2.2 4 (by decide), h.2.2 5 (by decide)⟩
theorem Sov.packed {τ : Td} (hw : Wf τ) {v : Nat → Nat} (h : Sov τ v) : m_X4_packed (nI (v 0)) (nI (v 1)) (nI (v 2)) (nI (v 3)) (nI (v 4)) (nI (v 5)) = some (lN (pkq v)) := xX4_packed (hw.p8 h.1) (hw.p8 h.2.1) (hw.p7 h.2.2.2.1) (hw.p7 h.u) (by have := h.2.2.2.2.2.1; omega) (by have := h.2.2.2.2.2.2; omega)
theorem Sov.unpack {τ : Td} (hw : Wf τ) {v : Nat → Nat} (h : Sov τ v) : m_X4_unpack (lN (pkq v)) = some (nI (v 0), nI (v 1), nI (v 2), nI (v 3), nI (v 4), nI (v 5)) := xX4_unpack (hw.p8 h.1) (hw.p8 h.2.1) (hw.p7 h.2.2.2.1) (hw.p7 h.u) (by have := h.2.2.2.2.2.1; omega) (by have := h.2.2.2.2.2.2; omega)
theorem StI.packed {τ : Td} (hw : Wf τ) {v : Nat → Nat} {asked brought friends used crumbs day : Int32} {s : Nat → Int32} (h : StI τ v asked brought friends used crumbs day s) : m_X4_packed asked brought friends used crumbs day = some (lN (pkq v)) := by
  obtain ⟨h1, ⟨rfl, rfl, rfl, rfl, rfl, rfl⟩, -⟩ := h
  exact h1.packed hw
/-- class and reference hold the same pile: q, p of them -/
def PlI (τ : Td) (cap : Nat) (q : Nat → Nat → Nat) (p : Nat) (size : Int32) (held : Nat → Int64) (known : Int32) (past : Nat → Int32) : Prop := p ≤ cap ∧ size = nI p ∧ known = nI p ∧ ∀ i, i < p → Sov τ (q i) ∧ held i = lN (pkq (q i)) ∧ ∀ k, k < 6 → past (6 * i + k) = nI (q i k)
theorem PlI.zero {τ : Td} {cap : Nat} {q : Nat → Nat → Nat} {held : Nat → Int64} {past : Nat → Int32} : PlI τ cap q 0 0 held 0 past := ⟨Nat.zero_le _, rfl, rfl, fun i hi => by omega⟩
theorem e6 (p k : Nat) : (6 : Int32) * nI p + nI k = nI (6 * p + k) := by rw [show (6 : Int32) = nI 6 from rfl, pk_mul, nI_add]
/-- the reference's copies of six -/
theorem xX6_keeps_50 {p : Nat} (hp : p < 8) {s : Nat → Int32} : ∀ (m k fuel : Nat) (past : Nat → Int32), k + m = 6 → m < fuel → ∃ past', lp_X6_keeps_50 (nI p) s fuel (nI k) past = some past' ∧ (∀ i, k ≤ i → i < 6 → past' (6 * p + i) = s i) ∧ ∀ j, j < 6 * p + k → past' j = past j := by
  intro m
  induction m with
  | zero =>
    intro k fuel past hk hfu
    obtain ⟨n, rfl⟩ : ∃ n, fuel = n + 1 := ⟨fuel - 1, by omega⟩
    refine ⟨past, ?_, fun i a b => by omega, fun j _ => rfl⟩
    rw [lp_X6_keeps_50, if_pos (show (6 : Int32) ≤ nI _ from nI_le (a := 6) (by omega) (by omega))]
  | succ m ih =>
    intro k fuel past hk hfu
    obtain ⟨n, rfl⟩ : ∃ n, fuel = n + 1 := ⟨fuel - 1, by omega⟩
    obtain ⟨past', h1, h2, h3⟩ := ih (k + 1) n (upd past (6 * p + k) (s k)) (by omega) (by omega)
    refine ⟨past', ?_, fun i a b => ?_, fun j hj => ?_⟩
    · rw [lp_X6_keeps_50, if_neg (show ¬ (6 : Int32) ≤ nI _ from nI_ge (b := 6) (by omega) (by decide)), if_pos (j_in (by omega) (by decide)), e6, if_pos (j_in (by omega) (by decide)), j_clamp (n := 6 * p + k) (by omega), j_clamp (n := k) (by omega), nI_1]
      exact h1
    · by_cases q : i = k
      · subst q; rw [h3 _ (by omega), pk_us]
      · exact h2 i (by omega) b
    · rw [h3 j (by omega), pk_un (by omega)]
theorem xX6_keep_13 {p : Nat} (hp : p < 2) {s : Nat → Int32} : ∀ (m k fuel : Nat) (past : Nat → Int32), k + m = 6 → m < fuel → ∃ past', lp_X6_keep_13 (nI p) s fuel (nI k) past = some past' ∧ (∀ i, k ≤ i → i < 6 → past' (6 * p + i) = s i) ∧ ∀ j, j < 6 * p + k → past' j = past j := by
  intro m
  induction m with
  | zero =>
    intro k fuel past hk hfu
    obtain ⟨n, rfl⟩ : ∃ n, fuel = n + 1 := ⟨fuel - 1, by omega⟩
    refine ⟨past, ?_, fun i a b => by omega, fun j _ => rfl⟩
    rw [lp_X6_keep_13, if_pos (show (6 : Int32) ≤ nI _ from nI_le (a := 6) (by omega) (by omega))]
  | succ m ih =>
    intro k fuel past hk hfu
    obtain ⟨n, rfl⟩ : ∃ n, fuel = n + 1 := ⟨fuel - 1, by omega⟩
    obtain ⟨past', h1, h2, h3⟩ := ih (k + 1) n (upd past (6 * p + k) (s k)) (by omega) (by omega)
    refine ⟨past', ?_, fun i a b => ?_, fun j hj => ?_⟩
    · rw [lp_X6_keep_13, if_neg (show ¬ (6 : Int32) ≤ nI _ from nI_ge (b := 6) (by omega) (by decide)), if_pos (j_in (by omega) (by decide)), e6, if_pos (j_in (by omega) (by decide)), j_clamp (n := 6 * p + k) (by omega), j_clamp (n := k) (by omega), nI_1]
      exact h1
    · by_cases q : i = k
      · subst q; rw [h3 _ (by omega), pk_us]
      · exact h2 i (by omega) b
    · rw [h3 j (by omega), pk_un (by omega)]
theorem xX6_keeps_11 : ∀ (m k fuel : Nat) (past : Nat → Int32), k + m = 42 → m < fuel → ∃ past', lp_X6_keeps_11 fuel (nI k) past = some past' ∧ (∀ i, k ≤ i → i < 42 → past' i = past (i + 6)) ∧ ∀ j, j < k → past' j = past j := by
  intro m
  induction m with
  | zero =>
    intro k fuel past hk hfu
    obtain ⟨n, rfl⟩ : ∃ n, fuel = n + 1 := ⟨fuel - 1, by omega⟩
    refine ⟨past, ?_, fun i a b => by omega, fun j _ => rfl⟩
    rw [lp_X6_keeps_11, if_pos (show (42 : Int32) ≤ nI _ from nI_le (a := 42) (by omega) (by omega))]
  | succ m ih =>
    intro k fuel past hk hfu
    obtain ⟨n, rfl⟩ : ∃ n, fuel = n + 1 := ⟨fuel - 1, by omega⟩
    obtain ⟨past', h1, h2, h3⟩ := ih (k + 1) n (upd past k (past (k + 6))) (by omega) (by omega)
    refine ⟨past', ?_, fun i a b => ?_, fun j hj => ?_⟩
    · have e : nI k + (6 : Int32) = nI (k + 6) := nI_add k 6
      rw [lp_X6_keeps_11, if_neg (show ¬ (42 : Int32) ≤ nI _ from nI_ge (b := 42) (by omega) (by decide)), e, if_pos (j_in (by omega) (by decide)), Option.bind_some, if_pos (j_in (by omega) (by decide)), j_clamp (n := k + 6) (by omega), j_clamp (n := k) (by omega), nI_1]
      exact h1
    · by_cases q : i = k
      · subst q; rw [h3 _ (by omega), pk_us]
      · rw [h2 i (by omega) b, pk_un (by omega)]
    · rw [h3 j (by omega), pk_un (by omega)]
theorem xX6_undo_22 {p : Nat} (hp : p < 8) {past : Nat → Int32} : ∀ (m k fuel : Nat) (s : Nat → Int32), k + m = 6 → m < fuel → ∃ s', lp_X6_undo_22 (nI p) past fuel (nI k) s = some s' ∧ (∀ i, k ≤ i → i < 6 → s' i = past (6 * p + i)) ∧ ∀ j, j < k → s' j = s j := by
  intro m
  induction m with
  | zero =>
    intro k fuel s hk hfu
    obtain ⟨n, rfl⟩ : ∃ n, fuel = n + 1 := ⟨fuel - 1, by omega⟩
    refine ⟨s, ?_, fun i a b => by omega, fun j _ => rfl⟩
    rw [lp_X6_undo_22, if_pos (show (6 : Int32) ≤ nI _ from nI_le (a := 6) (by omega) (by omega))]
  | succ m ih =>
    intro k fuel s hk hfu
    obtain ⟨n, rfl⟩ : ∃ n, fuel = n + 1 := ⟨fuel - 1, by omega⟩
    obtain ⟨s', h1, h2, h3⟩ := ih (k + 1) n (upd s k (past (6 * p + k))) (by omega) (by omega)
    refine ⟨s', ?_, fun i a b => ?_, fun j hj => ?_⟩
    · rw [lp_X6_undo_22, if_neg (show ¬ (6 : Int32) ≤ nI _ from nI_ge (b := 6) (by omega) (by decide)), e6, if_pos (j_in (by omega) (by decide)), Option.bind_some, if_pos (j_in (by omega) (by decide)), j_clamp (n := 6 * p + k) (by omega), j_clamp (n := k) (by omega), nI_1]
      exact h1
    · by_cases q : i = k
      · subst q; rw [h3 _ (by omega), pk_us]
      · exact h2 i (by omega) b
    · rw [h3 j (by omega), pk_un (by omega)]
theorem xX6_back_22 {p : Nat} (hp : p < 2) {past : Nat → Int32} : ∀ (m k fuel : Nat) (s : Nat → Int32), k + m = 6 → m < fuel → ∃ s', lp_X6_back_22 (nI p) past fuel (nI k) s = some s' ∧ (∀ i, k ≤ i → i < 6 → s' i = past (6 * p + i)) ∧ ∀ j, j < k → s' j = s j := by
  intro m
  induction m with
  | zero =>
    intro k fuel s hk hfu
    obtain ⟨n, rfl⟩ : ∃ n, fuel = n + 1 := ⟨fuel - 1, by omega⟩
    refine ⟨s, ?_, fun i a b => by omega, fun j _ => rfl⟩
    rw [lp_X6_back_22, if_pos (show (6 : Int32) ≤ nI _ from nI_le (a := 6) (by omega) (by omega))]
  | succ m ih =>
    intro k fuel s hk hfu
    obtain ⟨n, rfl⟩ : ∃ n, fuel = n + 1 := ⟨fuel - 1, by omega⟩
    obtain ⟨s', h1, h2, h3⟩ := ih (k + 1) n (upd s k (past (6 * p + k))) (by omega) (by omega)
    refine ⟨s', ?_, fun i a b => ?_, fun j hj => ?_⟩
    · rw [lp_X6_back_22, if_neg (show ¬ (6 : Int32) ≤ nI _ from nI_ge (b := 6) (by omega) (by decide)), e6, if_pos (j_in (by omega) (by decide)), Option.bind_some, if_pos (j_in (by omega) (by decide)), j_clamp (n := 6 * p + k) (by omega), j_clamp (n := k) (by omega), nI_1]
      exact h1
    · by_cases q : i = k
      · subst q; rw [h3 _ (by omega), pk_us]
      · exact h2 i (by omega) b
    · rw [h3 j (by omega), pk_un (by omega)]
/-- the class's pile -/
theorem xX1_put_lt {p len N : Nat} (hp : p < len) (hl : len < 100) (held : Nat → Int64) (x : Int64) : m_X1_put N (nI p) len held x = some (nI (p + 1), vp_updL held p x) := by
  unfold m_X1_put
  rw [if_pos (show nI p < Int32.ofNat len from nI_lt hp (by omega)), if_neg (nI_pos (by omega)), if_neg (show ¬ Int32.ofNat len ≤ nI p from nI_ge hp (by omega)), if_pos (j_in hp (by omega)), j_clamp (by omega), nI_1]
theorem xX1_drop_loop : ∀ (m k fuel : Nat) (held : Nat → Int64), k + m = 8 → 1 ≤ k → m < fuel → ∃ held', lp_X1_dropLowest_2 8 fuel (nI k) held = some held' ∧ (∀ i, k ≤ i + 1 → i < 7 → held' i = held (i + 1)) ∧ ∀ j, j + 1 < k → held' j = held j := by
  intro m
  induction m with
  | zero =>
    intro k fuel held hk h1 hfu
    obtain ⟨n, rfl⟩ : ∃ n, fuel = n + 1 := ⟨fuel - 1, by omega⟩
    refine ⟨held, ?_, fun i a b => by omega, fun j _ => rfl⟩
    rw [lp_X1_dropLowest_2, if_pos (show Int32.ofNat 8 ≤ nI _ from nI_le (a := 8) (by omega) (by omega))]
  | succ m ih =>
    intro k fuel held hk h1 hfu
    obtain ⟨n, rfl⟩ : ∃ n, fuel = n + 1 := ⟨fuel - 1, by omega⟩
    obtain ⟨z, rfl⟩ : ∃ z, k = z + 1 := ⟨k - 1, by omega⟩
    obtain ⟨held', h2, h3, h4⟩ := ih (z + 1 + 1) n (vp_updL held z (held (z + 1))) (by omega) (by omega) (by omega)
    refine ⟨held', ?_, fun i a b => ?_, fun j hj => ?_⟩
    · rw [lp_X1_dropLowest_2, if_neg (show ¬ Int32.ofNat 8 ≤ nI _ from nI_ge (b := 8) (by omega) (by decide)), if_pos (j_in (by omega) (by decide)), nI_pred, if_pos (j_in (by omega) (by decide)), j_clamp (n := z) (by omega), j_clamp (n := z + 1) (by omega), nI_1]
      exact h2
    · by_cases q : i = z
      · subst q; rw [h4 _ (by omega), pk_uLs]
      · rw [h3 i (by omega) b, pk_uLn (by omega)]
    · rw [h4 j (by omega), pk_uLn (by omega)]
theorem xX1_put_full {N : Nat} (hN : 100 ≤ N) (held : Nat → Int64) (x : Int64) : ∃ held', m_X1_put N (nI 8) 8 held x = some (nI 8, held') ∧ (∀ i, i < 7 → held' i = held (i + 1)) ∧ held' 7 = x := by
  obtain ⟨h', h1, h2, -⟩ := xX1_drop_loop 7 1 N held (by omega) (by omega) (by omega)
  refine ⟨vp_updL h' 7 x, ?_, fun i hi => by rw [pk_uLn (by omega)]; exact h2 i (by omega) hi, pk_uLs⟩
  have hd : m_X1_dropLowest N 8 held = some (nI 7, h') := by
    unfold m_X1_dropLowest
    have e : lp_X1_dropLowest_2 8 N (1 : Int32) held = some h' := h1
    rw [e]; rfl
  unfold m_X1_put
  rw [if_neg (show ¬ nI 8 < Int32.ofNat 8 by decide), hd, Option.bind_some, if_neg (show ¬ nI 7 < 0 by decide), if_neg (show ¬ Int32.ofNat 8 ≤ nI 7 by decide), if_pos (show inI (nI 7) 8 by decide)]
  rfl
theorem xX6_keeps_lt {p N : Nat} (hN : 100 ≤ N) (hp : p < 8) (s past : Nat → Int32) : ∃ past', m_X6_keeps N (nI p) s past = some (nI (p + 1), past') ∧ (∀ i, i < 6 → past' (6 * p + i) = s i) ∧ ∀ j, j < 6 * p → past' j = past j := by
  obtain ⟨past', h1, h2, h3⟩ := xX6_keeps_50 hp (s := s) 6 0 N past (by omega) (by omega)
  refine ⟨past', ?_, fun i hi => h2 i (Nat.zero_le i) hi, fun j hj => h3 j (by omega)⟩
  unfold m_X6_keeps
  have e : lp_X6_keeps_50 (nI p) s N (0 : Int32) past = some past' := h1
  rw [if_neg (show ¬ nI p = (8 : Int32) from fun z => by have := (nI_eq (b := 8) (by omega) (by decide)).mp z; omega), e, Option.bind_some, nI_1]
theorem xX6_keeps_full {N : Nat} (hN : 100 ≤ N) (s past : Nat → Int32) : ∃ past', m_X6_keeps N (nI 8) s past = some (nI 8, past') ∧ (∀ i, i < 6 → past' (6 * 7 + i) = s i) ∧ ∀ j, j < 6 * 7 → past' j = past (j + 6) := by
  obtain ⟨q, g1, g2, -⟩ := xX6_keeps_11 42 0 N past (by omega) (by omega)
  obtain ⟨past', h1, h2, h3⟩ := xX6_keeps_50 (p := 7) (by decide) (s := s) 6 0 N q (by omega) (by omega)
  refine ⟨past', ?_, fun i hi => h2 i (Nat.zero_le i) hi, fun j hj => by rw [h3 j (by omega)]; exact g2 j (Nat.zero_le j) hj⟩
  unfold m_X6_keeps
  have e1 : lp_X6_keeps_11 N (0 : Int32) past = some q := g1
  have e2 : lp_X6_keeps_50 (nI 8 - 1) s N (0 : Int32) q = some past' := h1
  rw [if_pos (show nI 8 = (8 : Int32) from rfl), e1, Option.bind_some, e2]
  rfl
/-- the standing goes on the pile, on both sides -/
theorem op_put {τ : Td} {q : Nat → Nat → Nat} {p N : Nat} (hN : 100 ≤ N) {size : Int32} {held : Nat → Int64} {known : Int32} {past : Nat → Int32} (h : PlI τ 8 q p size held known past) {v : Nat → Nat} (hv : Sov τ v) {s : Nat → Int32} (hs : ∀ k, k < 6 → s k = nI (v k)) : ∃ size' held' known' past' q' p', m_X1_put N size 8 held (lN (pkq v)) = some (size', held') ∧ m_X6_keeps N known s past = some (known', past') ∧ PlI τ 8 q' p' size' held' known' past' := by
  obtain ⟨hp8, rfl, rfl, hq⟩ := h
  by_cases hp : p < 8
  · obtain ⟨past', g1, g2, g3⟩ := xX6_keeps_lt hN hp s past
    refine ⟨_, _, _, past', fun i => if i = p then v else q i, p + 1, xX1_put_lt hp (by decide) held _, g1, by omega, rfl, rfl, fun i hi => ?_⟩
    by_cases e : i = p
    · subst e
      simp only [if_true]
      exact ⟨hv, pk_uLs, fun k hk => by rw [g2 k hk, hs k hk]⟩
    · simp only [if_neg e]
      obtain ⟨a, b, c⟩ := hq i (by omega)
      exact ⟨a, by rw [pk_uLn e]; exact b, fun k hk => by rw [g3 _ (by omega)]; exact c k hk⟩
  · have e8 : p = 8 := by omega
    subst e8
    obtain ⟨held', f1, f2, f3⟩ := xX1_put_full hN held (lN (pkq v))
    obtain ⟨past', g1, g2, g3⟩ := xX6_keeps_full hN s past
    refine ⟨_, held', _, past', fun i => if i = 7 then v else q (i + 1), 8, f1, g1, by omega, rfl, rfl, fun i hi => ?_⟩
    by_cases e : i = 7
    · subst e
      simp only [if_true]
      exact ⟨hv, f3, fun k hk => by rw [g2 k hk, hs k hk]⟩
    · simp only [if_neg e]
      obtain ⟨a, b, c⟩ := hq (i + 1) (by omega)
      refine ⟨a, by rw [f2 i (by omega)]; exact b, fun k hk => ?_⟩
      rw [g3 _ (by omega), show 6 * i + k + 6 = 6 * (i + 1) + k by omega]
      exact c k hk
theorem xX1_takeLatest {p len : Nat} (hp : p < len) (hl : len < 100) (held : Nat → Int64) : m_X1_takeLatest (nI (p + 1)) len held = some (held p, nI p) := by
  unfold m_X1_takeLatest
  rw [if_neg (show ¬ nI (p + 1) < (1 : Int32) from nI_nlt (b := 1) (by omega) (by omega)), if_pos (show nI (p + 1) ≤ Int32.ofNat len from nI_le (by omega) (by omega)), nI_pred, if_pos (j_in hp (by omega)), j_clamp (by omega)]
theorem op_undo {τ : Td} (hw : Wf τ) {q : Nat → Nat → Nat} {p N : Nat} (hN : 100 ≤ N) {size : Int32} {held : Nat → Int64} {known : Int32} {past : Nat → Int32} (h : PlI τ 8 q p size held known past) {v : Nat → Nat} {asked brought friends used crumbs day : Int32} {s : Nat → Int32} (hs : StI τ v asked brought friends used crumbs day s) : ∃ r asked' brought' friends' used' crumbs' day' size' known' s' p' v', m_X5_undo asked brought friends used crumbs day size held = some (r, asked', brought', friends', used', crumbs', day', size') ∧ m_X6_undo N known s past = some (r, known', s') ∧ PlI τ 8 q p' size' held known' past ∧ StI τ v' asked' brought' friends' used' crumbs' day' s' := by
  have same := h
  obtain ⟨hp8, rfl, rfl, hq⟩ := h
  unfold m_X5_undo m_X6_undo
  cases p with
  | zero =>
    rw [if_neg (show ¬ (1 : Int32) ≤ nI 0 by decide), if_pos (show nI 0 = 0 from rfl)]
    exact ⟨_, _, _, _, _, _, _, _, _, _, 0, v, rfl, rfl, same, hs⟩
  | succ p =>
    obtain ⟨a, b, c⟩ := hq p (by omega)
    obtain ⟨s', h1, h2, -⟩ := xX6_undo_22 (p := p) (by omega) (past := past) 6 0 N s (by omega) (by omega)
    have e : lp_X6_undo_22 (nI p) past N (0 : Int32) s = some s' := h1
    rw [if_pos (show (1 : Int32) ≤ nI (p + 1) from nI_le (a := 1) (by omega) (by omega)), if_neg (nI_ne0 (by omega) (by omega)), xX1_takeLatest (by omega) (by decide), Option.bind_some, nI_pred, e, Option.bind_some]
    simp only
    rw [b, a.unpack hw, Option.bind_some]
    refine ⟨_, _, _, _, _, _, _, _, _, _, p, q p, rfl, rfl, ⟨by omega, rfl, rfl, fun i hi => hq i (by omega)⟩, a, ⟨rfl, rfl, rfl, rfl, rfl, rfl⟩, fun k hk => ?_⟩
    rw [h2 k (Nat.zero_le k) hk]
    exact c k hk
theorem op_keep {τ : Td} (hw : Wf τ) {q : Nat → Nat → Nat} {p N : Nat} (hN : 100 ≤ N) {size : Int32} {held : Nat → Int64} {known : Int32} {past : Nat → Int32} (h : PlI τ 2 q p size held known past) {v : Nat → Nat} {asked brought friends used crumbs day : Int32} {s : Nat → Int32} (hs : StI τ v asked brought friends used crumbs day s) : ∃ r size' held' known' past' q' p', m_X5_keep N asked brought friends used crumbs day size held = some (r, size', held') ∧ m_X6_keep N known s past = some (r, known', past') ∧ PlI τ 2 q' p' size' held' known' past' := by
  have same := h
  obtain ⟨hp2, rfl, rfl, hq⟩ := h
  unfold m_X5_keep m_X6_keep
  by_cases hp : p < 2
  · obtain ⟨past', h1, h2, h3⟩ := xX6_keep_13 hp (s := s) 6 0 N past (by omega) (by omega)
    have e : lp_X6_keep_13 (nI p) s N (0 : Int32) past = some past' := h1
    rw [if_pos (show nI p < (2 : Int32) from nI_lt (b := 2) hp (by decide)), if_neg (show ¬ nI p = (2 : Int32) from fun z => by have := (nI_eq (b := 2) (by omega) (by decide)).mp z; omega), hs.packed hw, Option.bind_some, xX1_put_lt hp (by decide), Option.bind_some, e, Option.bind_some, nI_1]
    refine ⟨_, _, _, _, past', fun i => if i = p then v else q i, p + 1, rfl, rfl, by omega, rfl, rfl, fun i hi => ?_⟩
    by_cases e : i = p
    · subst e
      simp only [if_true]
      exact ⟨hs.1, pk_uLs, fun k hk => by rw [h2 k (Nat.zero_le k) hk, hs.2.2 k hk]⟩
    · simp only [if_neg e]
      obtain ⟨a, b, c⟩ := hq i (by omega)
      exact ⟨a, by rw [pk_uLn e]; exact b, fun k hk => by rw [h3 _ (by omega)]; exact c k hk⟩
  · have e2 : p = 2 := by omega
    subst e2
    rw [if_neg (show ¬ nI 2 < (2 : Int32) by decide), if_pos (show nI 2 = (2 : Int32) from rfl)]
    exact ⟨_, _, _, _, _, q, 2, rfl, rfl, same⟩
theorem op_back {τ : Td} (hw : Wf τ) {q q2 : Nat → Nat → Nat} {p p2 N : Nat} (hN : 100 ≤ N) {size : Int32} {held : Nat → Int64} {known : Int32} {past : Nat → Int32} (h : PlI τ 2 q p size held known past) {v : Nat → Nat} {asked brought friends used crumbs day : Int32} {s : Nat → Int32} (hs : StI τ v asked brought friends used crumbs day s) {unsize : Int32} {unheld : Nat → Int64} {unknown : Int32} {unpast : Nat → Int32} (hun : PlI τ 8 q2 p2 unsize unheld unknown unpast) : ∃ r asked' brought' friends' used' crumbs' day' unsize' size' unknown' known' s' p' p2' v', m_X5_back asked brought friends used crumbs day unsize size held = some (r, asked', brought', friends', used', crumbs', day', unsize', size') ∧ m_X6_back N unknown known s past = some (r, unknown', known', s') ∧ PlI τ 2 q p' size' held known' past ∧ StI τ v' asked' brought' friends' used' crumbs' day' s' ∧ PlI τ 8 q2 p2' unsize' unheld unknown' unpast := by
  have same := h
  obtain ⟨hp8, rfl, rfl, hq⟩ := h
  unfold m_X5_back m_X6_back
  cases p with
  | zero =>
    rw [if_neg (show ¬ (1 : Int32) ≤ nI 0 by decide), if_pos (show nI 0 = 0 from rfl)]
    exact ⟨_, _, _, _, _, _, _, _, _, _, _, _, 0, p2, v, rfl, rfl, same, hs, hun⟩
  | succ p =>
    obtain ⟨a, b, c⟩ := hq p (by omega)
    obtain ⟨s', h1, h2, -⟩ := xX6_back_22 (p := p) (by omega) (past := past) 6 0 N s (by omega) (by omega)
    have e : lp_X6_back_22 (nI p) past N (0 : Int32) s = some s' := h1
    rw [if_pos (show (1 : Int32) ≤ nI (p + 1) from nI_le (a := 1) (by omega) (by omega)), if_neg (nI_ne0 (by omega) (by omega)), xX1_takeLatest (by omega) (by decide), Option.bind_some, nI_pred, e, Option.bind_some]
    simp only
    rw [b, a.unpack hw, Option.bind_some]
    unfold m_X1_clear
    rw [Option.bind_some]
    refine ⟨_, _, _, _, _, _, _, _, _, _, _, _, p, 0, q p, rfl, rfl, ⟨by omega, rfl, rfl, fun i hi => hq i (by omega)⟩, ⟨a, ⟨rfl, rfl, rfl, rfl, rfl, rfl⟩, fun k hk => ?_⟩, PlI.zero⟩
    rw [h2 k (Nat.zero_le k) hk]
    exact c k hk
