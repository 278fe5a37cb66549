/-! what the class takes of an item -/
theorem setN_is {L i : Nat} {f : Nat → Int32} {x : Int32} (hi : i < L) (hL : L < 100) : m_X5_setNumber L f (nI i) x = some (upd f i x) := by
  unfold m_X5_setNumber
  rw [if_neg (nI_pos (by omega)), if_neg (show ¬ Int32.ofNat L ≤ nI i from nI_ge hi (by omega)), if_pos (j_in hi (by omega)), j_clamp (by omega)]
theorem xX0_takeTask {T a b c d : Nat} (hT : T ≤ 8) (ha : a ≤ 99) (hb : b ≤ 99) (hc : c ≤ 99) (hd : d ≤ 99) {kinds days rideDays helpKinds nexts numbers : Nat → Int32} (h0 : numbers 0 = nI a) (h1 : numbers 1 = nI b) (h2 : numbers 2 = nI c) (h3 : numbers 3 = nI d) : m_X0_takeTask (nI T) kinds days rideDays helpKinds nexts numbers = some (if T < 8 ∧ a ≤ 4 ∧ b ≤ 9 ∧ c ≤ 5 ∧ d ≤ 7 then (1, nI (T + 1), upd kinds T (nI a), upd days T (nI b), upd rideDays T (nI (if a = 2 then 0 else b)), upd helpKinds T (nI c), upd nexts T (nI d)) else (0, nI T, kinds, days, rideDays, helpKinds, nexts)) := by
  have g0 : m_X5_numberAt 4 numbers (0 : Int32) = some (nI a) := by rw [show (0 : Int32) = nI 0 from rfl, numberAt_is (by decide), h0]
  have g1 : m_X5_numberAt 4 numbers (1 : Int32) = some (nI b) := by rw [show (1 : Int32) = nI 1 from rfl, numberAt_is (by decide), h1]
  have g2 : m_X5_numberAt 4 numbers (2 : Int32) = some (nI c) := by rw [show (2 : Int32) = nI 2 from rfl, numberAt_is (by decide), h2]
  have g3 : m_X5_numberAt 4 numbers (3 : Int32) = some (nI d) := by rw [show (3 : Int32) = nI 3 from rfl, numberAt_is (by decide), h3]
  unfold m_X0_takeTask
  rw [g0, g1, g2, g3, Option.bind_some, Option.bind_some, Option.bind_some, Option.bind_some]
  by_cases c0 : T < 8
  · rw [if_neg (show ¬ (8 : Int32) ≤ nI T from nI_ge (b := 8) c0 (by decide))]
    by_cases c1 : a ≤ 4
    · rw [if_neg (show ¬ (4 : Int32) < nI a from nI_nlt (a := 4) c1 (by decide))]
      by_cases c2 : b ≤ 9
      · rw [if_neg (show ¬ (9 : Int32) < nI b from nI_nlt (a := 9) c2 (by decide))]
        by_cases c3 : c ≤ 5
        · rw [if_neg (show ¬ (5 : Int32) < nI c from nI_nlt (a := 5) c3 (by decide))]
          by_cases c4 : d ≤ 7
          · rw [if_pos (show nI d ≤ (7 : Int32) from nI_le (b := 7) c4 (by decide)), if_pos (show T < 8 ∧ a ≤ 4 ∧ b ≤ 9 ∧ c ≤ 5 ∧ d ≤ 7 from ⟨c0, c1, c2, c3, c4⟩), setN_is c0 (by decide), setN_is c0 (by decide), setN_is c0 (by decide), setN_is c0 (by decide), setN_is c0 (by decide), setN_is c0 (by decide), Option.bind_some, Option.bind_some, Option.bind_some, Option.bind_some, Option.bind_some, Option.bind_some, Option.bind_some, Option.bind_some, nI_1]
            have e2 : (nI a = (2 : Int32)) ↔ a = 2 := nI_eq (b := 2) (by omega) (by decide)
            by_cases q : a = 2
            · rw [if_pos (e2.mpr q), if_pos q]; rfl
            · rw [if_neg (fun z => q (e2.mp z)), if_neg q]
          · rw [if_neg (show ¬ nI d ≤ (7 : Int32) from nI_ge (a := 7) (by omega) (by omega)), if_neg (fun z => c4 z.2.2.2.2)]
        · rw [if_pos (show (5 : Int32) < nI c from nI_lt (a := 5) (by omega) (by omega)), if_neg (fun z => c3 z.2.2.2.1)]
      · rw [if_pos (show (9 : Int32) < nI b from nI_lt (a := 9) (by omega) (by omega)), if_neg (fun z => c2 z.2.2.1)]
    · rw [if_pos (show (4 : Int32) < nI a from nI_lt (a := 4) (by omega) (by omega)), if_neg (fun z => c1 z.2.1)]
  · rw [if_pos (show (8 : Int32) ≤ nI T from nI_le (a := 8) (by omega) (by omega)), if_neg (fun z => c0 z.1)]
theorem xX0_takeHelper {H a b : Nat} (hH : H ≤ 7) (ha : a ≤ 99) (hb : b ≤ 99) {helperKinds prices masks numbers : Nat → Int32} (h0 : numbers 0 = nI a) (h1 : numbers 1 = nI b) : m_X0_takeHelper (nI H) helperKinds prices masks numbers = some (if H < 7 ∧ a ≤ 4 ∧ b ≤ 20 then (1, nI (H + 1), upd helperKinds H (nI a), upd prices H (nI b), upd masks a (masks a ||| nI (2 ^ H))) else (0, nI H, helperKinds, prices, masks)) := by
  have g0 : m_X5_numberAt 4 numbers (0 : Int32) = some (nI a) := by rw [show (0 : Int32) = nI 0 from rfl, numberAt_is (by decide), h0]
  have g1 : m_X5_numberAt 4 numbers (1 : Int32) = some (nI b) := by rw [show (1 : Int32) = nI 1 from rfl, numberAt_is (by decide), h1]
  unfold m_X0_takeHelper
  rw [g0, g1, Option.bind_some, Option.bind_some]
  by_cases c0 : H < 7
  · rw [if_neg (show ¬ (7 : Int32) ≤ nI H from nI_ge (b := 7) c0 (by decide))]
    by_cases c1 : a ≤ 4
    · rw [if_neg (show ¬ (5 : Int32) ≤ nI a from nI_ge (b := 5) (by omega) (by decide))]
      by_cases c2 : b ≤ 20
      · rw [if_pos (show nI b ≤ (20 : Int32) from nI_le (b := 20) c2 (by decide)), if_pos (show H < 7 ∧ a ≤ 4 ∧ b ≤ 20 from ⟨c0, c1, c2⟩), setN_is c0 (by decide), setN_is c0 (by decide), Option.bind_some, Option.bind_some, xX0_helpersOf (by omega), Option.bind_some, xX5_bit (by omega), Option.bind_some, setN_is (show a < 5 by omega) (by decide), Option.bind_some, nI_1]
      · rw [if_neg (show ¬ nI b ≤ (20 : Int32) from nI_ge (a := 20) (by omega) (by omega)), if_neg (fun z => c2 z.2.2)]
    · rw [if_pos (show (5 : Int32) ≤ nI a from nI_le (a := 5) (by omega) (by omega)), if_neg (fun z => c1 z.2.1)]
  · rw [if_pos (show (7 : Int32) ≤ nI H from nI_le (a := 7) (by omega) (by omega)), if_neg (fun z => c0 z.1)]
theorem xX6_taskOf {T : Nat} (hT : T < 8) {draft : Nat → Int32} (h0 : draft 0 = nI T) (a b c d : Int32) : m_X6_taskOf draft a b c d = some (upd (upd (upd (upd (upd draft (5 + T) a) (13 + T) b) (21 + T) c) (29 + T) d) 0 (nI (T + 1))) := by
  unfold m_X6_taskOf
  rw [h0, j_a5, j_a13, j_a21, j_a29, if_pos (j_in (n := 51) (t := 5 + T) (by omega) (by decide)), if_pos (j_in (n := 51) (t := 13 + T) (by omega) (by decide)), if_pos (j_in (n := 51) (t := 21 + T) (by omega) (by decide)), if_pos (j_in (n := 51) (t := 29 + T) (by omega) (by decide)), j_clamp (n := 5 + T) (by omega), j_clamp (n := 13 + T) (by omega), j_clamp (n := 21 + T) (by omega), j_clamp (n := 29 + T) (by omega), pk_un (by omega), pk_un (by omega), pk_un (by omega), pk_un (by omega), h0, nI_1, Option.bind_some]
theorem xX6_helperOf {H : Nat} (hH : H < 7) {draft : Nat → Int32} (h1 : draft 1 = nI H) (a b : Int32) : m_X6_helperOf draft a b = some (upd (upd (upd draft (37 + H) a) (44 + H) b) 1 (nI (H + 1))) := by
  unfold m_X6_helperOf
  rw [h1, j_a37, j_a44, if_pos (j_in (n := 51) (t := 37 + H) (by omega) (by decide)), if_pos (j_in (n := 51) (t := 44 + H) (by omega) (by decide)), j_clamp (n := 37 + H) (by omega), j_clamp (n := 44 + H) (by omega), pk_un (by omega), pk_un (by omega), h1, nI_1, Option.bind_some]
