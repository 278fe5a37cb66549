/-! one item, in the class: its name, its numbers, then what is taken -/
def wb (c : Nat) : Nat := if c = 97 then 1 else if c = 99 then 1 else if c = 104 then 2 else if c = 108 then 1 else if c = 116 then 4 else 0
theorem wb_le (c : Nat) : wb c ≤ 4 := by
  unfold wb
  repeat' split
  all_goals omega
theorem nI_lit {c k : Nat} (hc : c < 1000) (hk : k < 1000) : (nI c = nI k) ↔ c = k := eq_letter hc hk
theorem xX0_numbersBehind {c : Nat} (hc : c < 1000) : m_X0_numbersBehind (nI c) = some (nI (wb c)) := by
  unfold m_X0_numbersBehind wb
  have e1 : (nI c = (97 : Int32)) ↔ c = 97 := eq_letter (e := 97) hc (by decide)
  have e2 : (nI c = (99 : Int32)) ↔ c = 99 := eq_letter (e := 99) hc (by decide)
  have e3 : (nI c = (104 : Int32)) ↔ c = 104 := eq_letter (e := 104) hc (by decide)
  have e4 : (nI c = (108 : Int32)) ↔ c = 108 := eq_letter (e := 108) hc (by decide)
  have e5 : (nI c = (116 : Int32)) ↔ c = 116 := eq_letter (e := 116) hc (by decide)
  simp only [e1, e2, e3, e4, e5]
  repeat' split
  all_goals rfl
