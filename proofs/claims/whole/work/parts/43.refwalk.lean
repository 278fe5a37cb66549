/-! the reference's walks, whole -/
theorem addF_one (one : Bool) (p : List Nat → Bool) : addF one [] (([[]] : List (List Nat)).filter p) = ([[]] : List (List Nat)).filter p := by
  unfold addF
  cases one
  · simp
  · cases h : p [] <;> simp [h]
theorem bd7 : bd 7 = 2696337 := by decide
theorem xX6_walks {τ : Td} (hw : Wf τ) {told s seen : Nat → Int32} (ht : ToR τ told) {a b f u c d : Nat} (hs : SR s a b f u c d) (ha : a < 2 ^ τ 0) (hb : b < 2 ^ τ 0) (hF : f < 2 ^ τ 1) (hu : u < 128) (hd : d < 2 ^ 30) (bs one : Bool) {σ : Nat → Nat × Nat} {n N : Nat} (hN : 30000000 ≤ N) (hsn : SnR σ n seen) (asks brings uses days tries row first : Nat → Int32) : ∃ (many len : Int32) (asks' brings' uses' days' tries' row' first' : Nat → Int32), m_X6_walks N (nI n) told s seen asks brings uses days tries row first (if bs then 1 else 0) (if one then 1 else 0) = some (many, len, asks', brings', uses', days', tries', row', first') ∧ Fnd (addF one [] ((Rw τ f tt2 0 a b u d).filter (fun ρ => !bs || snk σ ρ n))) many len first' := by
  unfold m_X6_walks
  rw [xX6_isLost ht hs hd, Option.bind_some]
  unfold Rw
  by_cases hl : τ 3 < d
  · rw [if_pos hl, if_neg (show ¬ (1 : Int32) = 0 by decide), if_pos hl]
    refine ⟨_, _, _, _, _, _, _, _, _, rfl, ?_⟩
    rw [List.filter_nil, addF_nil]
    exact ⟨rfl, rfl⟩
  rw [if_neg hl, if_pos (show (0 : Int32) = 0 from rfl), if_neg hl, xX6_open hs, Option.bind_some]
  have hsl : sd a b < 2 ^ 8 := Nat.lt_of_le_of_lt (sd_le a b) (hw.p8 ha)
  have hz : (nI (sd a b) = 0) ↔ sd a b = 0 := nI_eq (b := 0) (by omega) (by decide)
  by_cases h0 : sd a b = 0
  · rw [if_pos (hz.mpr h0), rl_open _ _ _ _ _ _ h0, if_pos (Nat.zero_le 0)]
    obtain ⟨many, len, first', h1, h2⟩ := xX6_counts (row := row) (first := first) (many := 0) (len := 0) (N := N) (by omega) hsn (ρ := []) (by decide) (fun x hx => by cases hx) (fun i h => absurd h (Nat.not_lt_zero i)) bs (L := []) ⟨rfl, rfl⟩ (by decide)
    have h1' : m_X6_counts N (nI n) 0 0 seen row first (0 : Int32) (if bs then 1 else 0) = some (many, len, first') := h1
    rw [h1', Option.bind_some]
    refine ⟨_, _, _, _, _, _, _, _, _, rfl, ?_⟩
    rw [addF_one]
    exact h2
  · rw [if_neg (fun z => h0 (hz.mp z))]
    have hrl : rl τ f tt2 0 8 0 a b u d = fl (br τ f tt2 (rl τ f tt2 0 7) 0 a b u d) 0 (τ 0) := by rw [rl, if_neg h0]
    have hlen := rl_len hw (F := f) (ok := tt2) (last := 0) ha hb 8 0 0 a b u d (Cn.start τ a b d) (by have := hw.1.2; omega)
    rw [hrl] at hlen
    have hlen2 : (fl (br τ f tt2 (rl τ f tt2 0 7) 0 a b u d) 0 (τ 0)).length ≤ 40320 := Nat.le_trans hlen (by decide)
    obtain ⟨j, hj, many, len, asks', brings', uses', days', tries', row', first', -, h2, h3⟩ := dfs hw ht hs.2.2.1 hF bs one (N := N) (by omega) hsn 7 (τ 0) 0 a b u d 0 [] [] 0 0 (upd asks 0 (s 0)) (upd brings 0 (s 1)) (upd uses 0 (s 3)) (upd days 0 (s 5)) (upd tries 0 (0 : Int32)) row first (by omega) (by have := hw.1.2; omega) h0 ha hb hu (by omega) rfl (fun x hx => by cases hx) (Nat.zero_le _) (by rw [pk_us, hs.1]) (by rw [pk_us, hs.2.1]) (by rw [pk_us, hs.2.2.2.1]) (by rw [pk_us, hs.2.2.2.2.2]) (by rw [pk_us]; rfl) (fun i h => absurd h (Nat.not_lt_zero i)) ⟨rfl, rfl⟩ (by rw [List.length_nil]; omega)
    rw [bd7] at hj
    have hT8 := hw.1.2
    have hj2 : j ≤ 21570705 := by omega
    obtain ⟨k, hk⟩ : ∃ k, N = j + (k + 1) := ⟨N - j - 1, by omega⟩
    have h4 := h3 (k + 1)
    have h5 : lp_X6_walks_89 N (if bs then 1 else 0) (if one then 1 else 0) (nI n) told s seen (k + 1) (nI 0 - 1) many len asks' brings' uses' days' tries' row' first' = some (many, len, asks', brings', uses', days', tries', row', first') := by
      rw [lp_X6_walks_89, if_pos (show nI 0 - 1 < 0 by decide)]
    rw [h5, ← hk] at h4
    have h6 : lp_X6_walks_89 N (if bs then 1 else 0) (if one then 1 else 0) (nI n) told s seen N (0 : Int32) (0 : Int32) (0 : Int32) (upd asks 0 (s 0)) (upd brings 0 (s 1)) (upd uses 0 (s 3)) (upd days 0 (s 5)) (upd tries 0 (0 : Int32)) row first = some (many, len, asks', brings', uses', days', tries', row', first') := h4
    rw [h6, Option.bind_some]
    refine ⟨many, len, asks', brings', uses', days', tries', row', first', rfl, ?_⟩
    rw [hrl]
    have hmap : (fl (br τ f tt2 (rl τ f tt2 0 7) 0 a b u d) 0 (τ 0)).map ([] ++ ·) = fl (br τ f tt2 (rl τ f tt2 0 7) 0 a b u d) 0 (τ 0) := by
      have : (fun x : List Nat => [] ++ x) = id := by funext x; rfl
      rw [this, List.map_id]
    rw [hmap] at h2
    exact h2
/-- what is found, read as the reference reads it -/
theorem Fnd.place {L : List (List Nat)} {many len : Int32} {first : Nat → Int32} (h : Fnd L many len first) {k : Nat} (hk1 : 1 ≤ k) (hk8 : k ≤ 8) : (if nI k ≤ len then some (first (k - 1)) else some (-4)) = some (plc L k) := by
  cases L with
  | nil =>
    have e : len = 0 := h.2
    rw [e, if_neg (show ¬ nI k ≤ (0 : Int32) from nI_ge (a := 0) (by omega) (by omega))]
    rfl
  | cons ρ L =>
    obtain ⟨h1, h2, h3⟩ := h.2
    rw [h1]
    unfold plc
    by_cases q : k ≤ ρ.length
    · rw [if_pos (nI_le q (by omega)), h3 (k - 1) (by omega)]
      simp only
      rw [List.getElem?_eq_getElem (by omega)]
    · rw [if_neg (nI_ge (by omega) (by omega))]
      simp only
      rw [List.getElem?_eq_none (by omega)]
theorem Fnd.many {L : List (List Nat)} {many len : Int32} {first : Nat → Int32} (h : Fnd L many len first) : many = nI L.length := h.1
theorem addF_all (L : List (List Nat)) : addF false [] L = L := by simp [addF]
theorem addF_any {L : List (List Nat)} : addF true [] L = [] ↔ L = [] := by
  cases L with
  | nil => simp [addF]
  | cons x L => simp [addF]
theorem filt_all (L : List (List Nat)) {σ : Nat → Nat × Nat} {n : Nat} : L.filter (fun ρ => !false || snk σ ρ n) = L := by
  rw [List.filter_eq_self]
  intro x _
  rfl
/-- not heeding what is seen, all rows: how many -/
theorem xX6_walksAll {τ : Td} (hw : Wf τ) {told s seen : Nat → Int32} (ht : ToR τ told) {a b f u c d : Nat} (hs : SR s a b f u c d) (hk : Sok τ a b f u c d) {σ : Nat → Nat × Nat} {n N : Nat} (hN : 30000000 ≤ N) (hsn : SnR σ n seen) (asks brings uses days tries row first : Nat → Int32) : ∃ (len : Int32) (asks' brings' uses' days' tries' row' first' : Nat → Int32), m_X6_walks N (nI n) told s seen asks brings uses days tries row first 0 0 = some (nI (Rw τ f tt2 0 a b u d).length, len, asks', brings', uses', days', tries', row', first') ∧ Fnd (Rw τ f tt2 0 a b u d) (nI (Rw τ f tt2 0 a b u d).length) len first' := by
  obtain ⟨many, len, asks', brings', uses', days', tries', row', first', h1, h2⟩ := xX6_walks hw ht hs hk.1 hk.2.1 hk.2.2.2.1 (hw.p7 hk.u) (by have := hk.2.2.2.2.2.2; omega) false false hN hsn asks brings uses days tries row first
  rw [filt_all, addF_all] at h2
  have e := h2.many
  rw [e] at h1 h2
  exact ⟨len, asks', brings', uses', days', tries', row', first', h1, h2⟩
/-- whether there is a row -/
theorem xX6_walksOne {τ : Td} (hw : Wf τ) {told s seen : Nat → Int32} (ht : ToR τ told) {a b f u c d : Nat} (hs : SR s a b f u c d) (ha : a < 2 ^ τ 0) (hb : b < 2 ^ τ 0) (hF : f < 2 ^ τ 1) (hu : u < 128) (hd : d < 2 ^ 30) {σ : Nat → Nat × Nat} {n N : Nat} (hN : 30000000 ≤ N) (hsn : SnR σ n seen) (asks brings uses days tries row first : Nat → Int32) : ∃ (many len : Int32) (asks' brings' uses' days' tries' row' first' : Nat → Int32), m_X6_walks N (nI n) told s seen asks brings uses days tries row first 0 1 = some (many, len, asks', brings', uses', days', tries', row', first') ∧ (many ≤ 0 ↔ Rw τ f tt2 0 a b u d = []) := by
  obtain ⟨many, len, asks', brings', uses', days', tries', row', first', h1, h2⟩ := xX6_walks hw ht hs ha hb hF hu hd false true hN hsn asks brings uses days tries row first
  refine ⟨many, len, asks', brings', uses', days', tries', row', first', h1, ?_⟩
  have hl : (addF true [] ((Rw τ f tt2 0 a b u d).filter (fun ρ => !false || snk σ ρ n))).length < 2 ^ 31 := by
    refine Nat.lt_of_le_of_lt addF_len ?_
    rw [filt_all, List.length_nil]
    have := Rw_len hw (F := f) (ok := tt2) (last := 0) (u := u) (d := d) ha hb
    omega
  rw [h2.zero hl, addF_any, filt_all]
