/-! the class's small methods, over naturals -/
/-- the months' rows hold τ -/
def MoR (τ : Td) (tasks helpers askedFirst crumbsFirst lastDay : Int32) (kinds days rideDays helpKinds nexts helperKinds prices masks : Nat → Int32) : Prop :=
  tasks = nI (τ 0) ∧ helpers = nI (τ 1) ∧ askedFirst = nI (τ 4) ∧ crumbsFirst = nI (τ 2) ∧ lastDay = nI (τ 3) ∧ (∀ t, t < τ 0 → kinds t = nI (kd τ t) ∧ days t = nI (dy τ t) ∧ rideDays t = nI (rdy τ t) ∧ helpKinds t = nI (hp τ t) ∧ nexts t = nI (nx τ t)) ∧ (∀ h, h < τ 1 → helperKinds h = nI (sk τ h) ∧ prices h = nI (pr τ h)) ∧ ∀ k, k < 5 → masks k = nI (hm τ k (τ 1))
theorem xX5_bit {t : Nat} (ht : t < 31) : m_X5_bit (nI t) = some (nI (2 ^ t)) := by
  unfold m_X5_bit
  rw [show (1 : Int32) <<< (nI t &&& 31) = nI (2 ^ t) from j_bit t ht]
theorem xX4_isLost {d L : Nat} (hd : d < 2 ^ 31) (hL : L < 2 ^ 31) : m_X4_isLost (nI d) (nI L) = some (if L < d then 1 else 0) := by
  unfold m_X4_isLost
  by_cases h : L < d
  · rw [if_neg (nI_ge h hd), if_pos h]
  · rw [if_pos (nI_le (by omega) hL), if_neg h]
theorem xX4_openTasks (a b : Nat) : m_X4_openTasks (nI a) (nI b) = some (nI (sd a b)) := by
  unfold m_X4_openTasks
  rw [j_sd]
theorem xX4_freeFriends (a b : Nat) : m_X4_freeFriends (nI a) (nI b) = some (nI (sd a b)) := by
  unfold m_X4_freeFriends
  rw [j_sd]
theorem xX0_kindOf {f : Nat → Int32} {t : Nat} (h : t < 8) : m_X0_kindOf f (nI t) = some (f t) := j_row h (by decide) 0 0
theorem xX0_daysOf {f : Nat → Int32} {t : Nat} (h : t < 8) : m_X0_daysOf f (nI t) = some (f t) := j_row h (by decide) 0 0
theorem xX0_helpKindOf {f : Nat → Int32} {t : Nat} (h : t < 8) : m_X0_helpKindOf f (nI t) = some (f t) := j_row h (by decide) 0 0
theorem xX0_nextOf {f : Nat → Int32} {t : Nat} (h : t < 8) : m_X0_nextOf f (nI t) = some (f t) := j_row h (by decide) 0 0
theorem xX0_rideDaysOf {f : Nat → Int32} {t : Nat} (h : t < 8) : m_X0_rideDaysOf f (nI t) = some (f t) := j_row h (by decide) 0 0
theorem xX0_helperKindOf {f : Nat → Int32} {t : Nat} (h : t < 7) : m_X0_helperKindOf f (nI t) = some (f t) := j_row h (by decide) 0 0
theorem xX0_priceOf {f : Nat → Int32} {t : Nat} (h : t < 7) : m_X0_priceOf f (nI t) = some (f t) := j_row h (by decide) 0 0
theorem xX0_helpersOf {f : Nat → Int32} {t : Nat} (h : t < 5) : m_X0_helpersOf f (nI t) = some (f t) := j_row h (by decide) 0 0
theorem xX0_helpersOf5 {f : Nat → Int32} : m_X0_helpersOf f (nI 5) = some 0 := by
  unfold m_X0_helpersOf
  rw [if_neg (by decide), if_pos (by decide)]
theorem xX4_lowestOf {x : Nat} (hx : x < 128) : m_X4_lowestOf (nI x) = some (if x = 0 then -2 else nI (lowb x)) := by
  unfold m_X4_lowestOf
  rw [lowb_neg x hx]
  by_cases h : x = 0
  · subst h; rw [if_pos (by decide), if_pos rfl]
  · rw [if_neg (nI_ne0 (by omega) (by omega)), if_neg h]
theorem xX4_withOneMore {x m : Nat} (hx : x < 128) (hm : m < 128) : m_X4_withOneMore (nI x) (nI m) = some (if sd m x = 0 then -2 else nI (x ||| lowb (sd m x))) := by
  have hs : sd m x < 128 := sd_lt (n := 7) hm
  unfold m_X4_withOneMore
  rw [if_pos (nI_pos' (by omega)), j_sd, lowb_neg _ hs, j_or]
  by_cases h : sd m x = 0
  · rw [h, if_pos (by decide), if_pos rfl]
  · rw [if_neg (nI_ne0 (by omega) (by omega)), if_neg h]
theorem xX4_withOneMoreN (m : Int32) : m_X4_withOneMore (-2) m = some (-2) := by
  unfold m_X4_withOneMore
  rw [if_neg (by decide)]
theorem hf_zero {τ : Td} {t free d : Nat} (h : kd τ t = 2) : hf τ t free d = some 0 := by unfold hf; rw [if_pos h]
theorem oC_neg {o : Option Nat} (h : ∀ x, o = some x → x < 2 ^ 31) : (0 ≤ oC o) ↔ ∃ x, o = some x := by
  cases o with
  | none => exact ⟨fun h => absurd h (by decide), fun ⟨x, hx⟩ => by cases hx⟩
  | some x => exact ⟨fun _ => ⟨x, rfl⟩, fun _ => nI_pos' (h x rfl)⟩
theorem kcase {α : Type} {k : Nat} (hk : k ≤ 4) (A B C D E G : α) : (if nI k = (0 : Int32) then A else if nI k = (1 : Int32) then B else if nI k = (2 : Int32) then C else if nI k = (3 : Int32) then D else if nI k = (4 : Int32) then E else G) = (if k = 0 then A else if k = 1 then B else if k = 2 then C else if k = 3 then D else E) := by
  obtain h | h | h | h | h : k = 0 ∨ k = 1 ∨ k = 2 ∨ k = 3 ∨ k = 4 := by omega
  all_goals subst h; rfl
theorem xX4_helpersFor {τ : Td} (hw : Wf τ) {a b f u d t : Nat} (ht : t < τ 0) (ha : a < 256) (hf0 : f < 128) (hd : d < 2 ^ 31) {kinds helpKinds masks : Nat → Int32} (h1 : kinds t = nI (kd τ t)) (h2 : helpKinds t = nI (hp τ t)) (h3 : ∀ k, k < 5 → masks k = nI (hm τ k (τ 1))) : m_X4_helpersFor (nI a) (nI b) (nI f) (nI u) (nI d) (nI (τ 3)) kinds helpKinds masks (nI t) = some (oC (hn τ a b f u d t)) := by
  obtain ⟨⟨hT1, hT8⟩, hH, -, ⟨hL1, hL⟩, -, hts, -⟩ := hw
  obtain ⟨hk, -, hhp, -⟩ := hts t ht
  have ht8 : t < 8 := by omega
  have hfr : sd f u < 128 := sd_lt (n := 7) hf0
  have hok : sd f u &&& hm τ (hp τ t) (τ 1) < 128 := and_lt (n := 7) hfr
  have hle : (nI d ≤ (10 : Int32)) ↔ d ≤ 10 := nI_leI (b := 10) hd (by decide)
  unfold m_X4_helpersFor
  rw [xX4_isLost hd (by omega), Option.bind_some]
  unfold hn
  by_cases hl : τ 3 < d
  · rw [if_pos hl, if_neg (by decide), if_pos hl]; rfl
  rw [if_neg hl, if_pos rfl, if_neg hl, xX4_openTasks, Option.bind_some, xX5_bit (by omega), Option.bind_some]
  by_cases ho : (sd a b).testBit t = true
  · rw [if_neg (fun e => by rw [(j_tb0 (by omega)).mp e] at ho; cases ho), if_pos ho, xX0_helpKindOf ht8, Option.bind_some, h2, xX4_freeFriends, Option.bind_some]
    have hkind : m_X0_kindOf kinds (nI t) = some (nI (kd τ t)) := by rw [xX0_kindOf ht8, h1]
    unfold hf
    by_cases h5 : hp τ t = 5
    · rw [h5, xX0_helpersOf5, Option.bind_some, if_pos (show nI 5 = (5 : Int32) from rfl), hkind, Option.bind_some, kcase hk]
      have w0 : m_X4_withOneMore (0 : Int32) (nI (sd f u)) = some (if sd f u = 0 then -2 else nI (lowb (sd f u))) := by
        have e : sd (sd f u) 0 = sd f u := by
          apply Nat.eq_of_testBit_eq
          intro i
          rw [sd_tb _ _ (Nat.lt_trans hfr (by decide)), Nat.zero_testBit]; simp
        have := xX4_withOneMore (x := 0) (m := sd f u) (by decide) hfr
        rw [e, Nat.zero_or] at this
        exact this
      rw [w0]
      obtain h | h | h | h | h : kd τ t = 0 ∨ kd τ t = 1 ∨ kd τ t = 2 ∨ kd τ t = 3 ∨ kd τ t = 4 := by omega
      · rw [h]; rfl
      · rw [h]; rfl
      · rw [h]; rfl
      · rw [h]
        by_cases hz : sd f u = 0
        · rw [if_pos hz, if_pos hz]; rfl
        · rw [if_neg hz, if_neg hz]; rfl
      · rw [h]
        by_cases h10 : d ≤ 10
        · rw [if_pos (hle.mpr h10), if_neg (show ¬ ((4 : Nat) = 4 ∧ 10 < d) from fun z => by omega)]; rfl
        · rw [if_neg (fun z => h10 (hle.mp z)), if_pos (show (4 : Nat) = 4 ∧ 10 < d from ⟨rfl, by omega⟩)]; rfl
    · have h5n : ¬ nI (hp τ t) = (5 : Int32) := fun e => h5 ((nI_eq (b := 5) (by omega) (by decide)).mp e)
      rw [xX0_helpersOf (by omega), Option.bind_some, h3 _ (by omega), if_neg h5n, j_and, xX4_lowestOf hok, Option.bind_some, hkind, Option.bind_some, kcase hk, if_neg h5]
      by_cases hz : sd f u &&& hm τ (hp τ t) (τ 1) = 0
      · rw [if_pos hz, if_pos hz, xX4_withOneMoreN, xX4_withOneMoreN]
        obtain h | h | h | h | h : kd τ t = 0 ∨ kd τ t = 1 ∨ kd τ t = 2 ∨ kd τ t = 3 ∨ kd τ t = 4 := by omega
        · rw [h]; rfl
        · rw [h]; rfl
        · rw [h]; rfl
        · rw [h]; rfl
        · rw [h]
          by_cases h10 : d ≤ 10
          · rw [if_pos (hle.mpr h10), if_neg (show ¬ ((4 : Nat) = 4 ∧ 10 < d) from fun z => by omega)]; rfl
          · rw [if_neg (fun z => h10 (hle.mp z)), if_pos (show (4 : Nat) = 4 ∧ 10 < d from ⟨rfl, by omega⟩)]; rfl
      · rw [if_neg hz, if_neg hz, xX4_withOneMore (lowb_lt _ hok).1 hok, xX4_withOneMore (lowb_lt _ hok).1 hfr, Option.bind_some, Option.bind_some]
        obtain h | h | h | h | h : kd τ t = 0 ∨ kd τ t = 1 ∨ kd τ t = 2 ∨ kd τ t = 3 ∨ kd τ t = 4 := by omega
        · rw [h]; rfl
        · rw [h]
          by_cases hz2 : sd (sd f u &&& hm τ (hp τ t) (τ 1)) (lowb (sd f u &&& hm τ (hp τ t) (τ 1))) = 0
          · rw [if_pos hz2, if_pos hz2]; rfl
          · rw [if_neg hz2, if_neg hz2]; rfl
        · rw [h]; rfl
        · rw [h]
          by_cases hz2 : sd (sd f u) (lowb (sd f u &&& hm τ (hp τ t) (τ 1))) = 0
          · rw [if_pos hz2, if_pos hz2]; rfl
          · rw [if_neg hz2, if_neg hz2]; rfl
        · rw [h]
          by_cases h10 : d ≤ 10
          · rw [if_pos (hle.mpr h10), if_neg (show ¬ ((4 : Nat) = 4 ∧ 10 < d) from fun z => by omega)]; rfl
          · rw [if_neg (fun z => h10 (hle.mp z)), if_pos (show (4 : Nat) = 4 ∧ 10 < d from ⟨rfl, by omega⟩)]; rfl
  · have ho' : (sd a b).testBit t = false := by simpa using ho
    rw [if_pos ((j_tb0 (by omega)).mpr ho'), if_neg ho]; rfl
theorem hn_lt {τ : Td} {a b f u d t x : Nat} (hf0 : f < 128) (h : hn τ a b f u d t = some x) : x < 128 ∧ x &&& sd f u = x ∧ d ≤ τ 3 ∧ (sd a b).testBit t = true := by
  unfold hn at h
  split at h
  · cases h
  · split at h
    · have := hf_lt (sd_lt (n := 7) hf0) h
      exact ⟨this.1, this.2, by omega, by assumption⟩
    · cases h
theorem xX4_tryRide {τ : Td} (hw : Wf τ) {a b f u d t : Nat} (ht : t < τ 0) (ha : a < 256) (hf0 : f < 128) (hd : d < 2 ^ 30) {kinds rideDays helpKinds nexts masks : Nat → Int32} (h1 : kinds t = nI (kd τ t)) (h2 : helpKinds t = nI (hp τ t)) (h3 : ∀ k, k < 5 → masks k = nI (hm τ k (τ 1))) (h4 : rideDays t = nI (rdy τ t)) (h5 : nexts t = nI (nx τ t)) : m_X4_tryRide (nI a) (nI b) (nI f) (nI u) (nI d) (nI (τ 3)) kinds rideDays helpKinds nexts masks (nI t) = some (match hn τ a b f u d t with | some x => (1, nI (a ||| 2 ^ nx τ t), nI (b ||| 2 ^ t), nI (u ||| x), nI (d + rdy τ t)) | none => (0, nI a, nI b, nI u, nI d)) := by
  have hT8 := hw.1.2
  have hnx := (hw.2.2.2.2.2.1 t ht).2.2.2
  unfold m_X4_tryRide
  rw [xX4_helpersFor hw ht ha hf0 (by omega) h1 h2 h3, Option.bind_some]
  cases h : hn τ a b f u d t with
  | none => rw [if_neg (by decide)]
  | some x =>
    have hx := (hn_lt hf0 h).1
    rw [show oC (some x) = nI x from rfl, if_pos (show 0 ≤ nI x from nI_pos' (by omega)), xX0_rideDaysOf (by omega), Option.bind_some, xX5_bit (by omega), Option.bind_some, xX0_nextOf (by omega), Option.bind_some, h5, xX5_bit (by omega), Option.bind_some, h4, j_or, j_or, j_or, nI_add]
/-- a task that isn't there can't be ridden for -/
theorem xX4_tryRideNo {τ : Td} {a b f u d t : Nat} (ht : t < 8) (ho : (sd a b).testBit t = false) (hd : d < 2 ^ 30) (hL : τ 3 < 2 ^ 30) {kinds rideDays helpKinds nexts masks : Nat → Int32} : m_X4_tryRide (nI a) (nI b) (nI f) (nI u) (nI d) (nI (τ 3)) kinds rideDays helpKinds nexts masks (nI t) = some (0, nI a, nI b, nI u, nI d) := by
  unfold m_X4_tryRide m_X4_helpersFor
  rw [xX4_isLost (by omega) (by omega), Option.bind_some]
  by_cases hl : τ 3 < d
  · rw [if_pos hl, if_neg (by decide)]; rfl
  · rw [if_neg hl, if_pos rfl, xX4_openTasks, Option.bind_some, xX5_bit (by omega), Option.bind_some, if_pos ((j_tb0 (by omega)).mpr ho)]; rfl
