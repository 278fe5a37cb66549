/-! the start: what the literal tells, what the reference lays -/
def litL : List Int32 := [116, 48, 44, 51, 44, 48, 44, 49, 59, 116, 49, 44, 53, 44, 49, 44, 50, 59, 116, 51, 44, 52, 44, 50, 44, 51, 59, 116, 52, 44, 50, 44, 53, 44, 51, 59, 116, 50, 44, 57, 44, 52, 44, 53, 59, 116, 48, 44, 54, 44, 51, 44, 52, 59, 104, 48, 44, 51, 59, 104, 49, 44, 52, 59, 104, 49, 44, 54, 59, 104, 50, 44, 53, 59, 104, 52, 44, 50, 59, 104, 51, 44, 55, 59, 104, 48, 44, 49, 59, 97, 48, 59, 97, 53, 59, 99, 51, 48, 59, 108, 50, 56, 59]
def lit : Nat → Int32 := fun i => litL.getD i 0
def z32 : Nat → Int32 := fun _ => 0
def ft0L : List Nat := [6, 7, 30, 28, 33, 0, 1, 3, 4, 2, 0, 0, 0, 3, 5, 4, 2, 9, 6, 0, 0, 0, 1, 2, 5, 4, 3, 0, 0, 1, 2, 3, 3, 5, 4, 0, 0, 0, 1, 1, 2, 4, 3, 0, 3, 4, 6, 5, 2, 7, 1]
def ft0 : Td := fun i => ft0L.getD i 0
def allN (n : Nat) (p : Nat → Bool) : Bool := (List.range n).all p
theorem allN_on {n : Nat} {p : Nat → Bool} (h : allN n p = true) {i : Nat} (hi : i < n) : p i = true := List.all_eq_true.mp h i (List.mem_range.mpr hi)
theorem ft0_wf : Wf ft0 := by
  refine ⟨by decide, by decide, by decide, by decide, by decide, ?_, ?_⟩
  · exact fun t ht => of_decide_eq_true (allN_on (n := 6) (p := fun t => decide (kd ft0 t ≤ 4 ∧ dy ft0 t ≤ 9 ∧ hp ft0 t ≤ 5 ∧ nx ft0 t < ft0 0)) (by decide +kernel) ht)
  · exact fun h hh => of_decide_eq_true (allN_on (n := 7) (p := fun h => decide (sk ft0 h ≤ 4 ∧ pr ft0 h ≤ 20)) (by decide +kernel) hh)
def chkC (cr : CR) : Bool := decide (cr.1 = -4) && decide (cr.2.1 = nI 6) && decide (cr.2.2.1 = nI 7) && decide (cr.2.2.2.1 = nI 33) && decide (cr.2.2.2.2.1 = nI 30) && decide (cr.2.2.2.2.2.1 = nI 28) && allN 6 (fun t => decide (cr.2.2.2.2.2.2.1 t = nI (kd ft0 t))) && allN 6 (fun t => decide (cr.2.2.2.2.2.2.2.1 t = nI (dy ft0 t))) && allN 6 (fun t => decide (cr.2.2.2.2.2.2.2.2.1 t = nI (rdy ft0 t))) && allN 6 (fun t => decide (cr.2.2.2.2.2.2.2.2.2.1 t = nI (hp ft0 t))) && allN 6 (fun t => decide (cr.2.2.2.2.2.2.2.2.2.2.1 t = nI (nx ft0 t))) && allN 7 (fun h => decide (cr.2.2.2.2.2.2.2.2.2.2.2.1 h = nI (sk ft0 h))) && allN 7 (fun h => decide (cr.2.2.2.2.2.2.2.2.2.2.2.2.1 h = nI (pr ft0 h))) && allN 5 (fun k => decide (cr.2.2.2.2.2.2.2.2.2.2.2.2.2.1 k = nI (hm ft0 k 7)))
def chkC? (o : Option CR) : Bool := match o with
  | some cr => chkC cr
  | none => false
set_option maxRecDepth 100000 in
theorem start_class0 : chkC? (m_X0_readFrom 300 z32 z32 z32 z32 z32 z32 z32 z32 z32 103 lit 103) = true := by decide +kernel
theorem start_class : ∃ cr : CR, m_X0_readFrom 300 z32 z32 z32 z32 z32 z32 z32 z32 z32 103 lit 103 = some cr ∧ cr.1 = -4 ∧ MoR ft0 cr.2.1 cr.2.2.1 cr.2.2.2.1 cr.2.2.2.2.1 cr.2.2.2.2.2.1 cr.2.2.2.2.2.2.1 cr.2.2.2.2.2.2.2.1 cr.2.2.2.2.2.2.2.2.1 cr.2.2.2.2.2.2.2.2.2.1 cr.2.2.2.2.2.2.2.2.2.2.1 cr.2.2.2.2.2.2.2.2.2.2.2.1 cr.2.2.2.2.2.2.2.2.2.2.2.2.1 cr.2.2.2.2.2.2.2.2.2.2.2.2.2.1 := by
  have h := start_class0
  cases e : m_X0_readFrom 300 z32 z32 z32 z32 z32 z32 z32 z32 z32 103 lit 103 with
  | none => rw [e] at h; cases h
  | some cr =>
    rw [e] at h
    have h2 : chkC cr = true := h
    unfold chkC at h2
    simp only [Bool.and_eq_true, decide_eq_true_eq] at h2
    obtain ⟨⟨⟨⟨⟨⟨⟨⟨⟨⟨⟨⟨⟨h0, h1⟩, h2⟩, h3⟩, h4⟩, h5⟩, h6⟩, h7⟩, h8⟩, h9⟩, h10⟩, h11⟩, h12⟩, h13⟩ := h2
    exact ⟨cr, rfl, h0, h1, h2, h3, h4, h5, fun t ht => ⟨of_decide_eq_true (allN_on h6 ht), of_decide_eq_true (allN_on h7 ht), of_decide_eq_true (allN_on h8 ht), of_decide_eq_true (allN_on h9 ht), of_decide_eq_true (allN_on h10 ht)⟩, fun t ht => ⟨of_decide_eq_true (allN_on h11 ht), of_decide_eq_true (allN_on h12 ht)⟩, fun k hk => of_decide_eq_true (allN_on h13 hk)⟩
def m_X6_start : Option (Int32 × Int32 × Int32 × (Nat → Int32) × (Nat → Int32) × (Nat → Int32)) :=
  (m_X6_begins 300 z32).bind fun r1 =>
  (m_X6_taskOf r1 0 3 0 1).bind fun r2 =>
  (m_X6_taskOf r2 1 5 1 2).bind fun r3 =>
  (m_X6_taskOf r3 3 4 2 3).bind fun r4 =>
  (m_X6_taskOf r4 4 2 5 3).bind fun r5 =>
  (m_X6_taskOf r5 2 9 4 5).bind fun r6 =>
  (m_X6_taskOf r6 0 6 3 4).bind fun r7 =>
  (m_X6_helperOf r7 0 3).bind fun r8 =>
  (m_X6_helperOf r8 1 4).bind fun r9 =>
  (m_X6_helperOf r9 1 6).bind fun r10 =>
  (m_X6_helperOf r10 2 5).bind fun r11 =>
  (m_X6_helperOf r11 4 2).bind fun r12 =>
  (m_X6_helperOf r12 3 7).bind fun r13 =>
  (m_X6_helperOf r13 0 1).bind fun r14 =>
  (m_X6_lays 300 z32 (upd (upd (upd r14 4 33) 2 30) 3 28) z32).bind fun r15 =>
  some (r15.1, r15.2.1, r15.2.2.1, r15.2.2.2.1, r15.2.2.2.2, upd (upd (upd r14 4 33) 2 30) 3 28)
def chkM (r : Int32 × Int32 × Int32 × (Nat → Int32) × (Nat → Int32) × (Nat → Int32)) : Bool := decide (r.1 = 0) && decide (r.2.1 = 0) && decide (r.2.2.1 = 0) && allN 51 (fun i => decide (r.2.2.2.1 i = nI (ft0 i))) && allN 6 (fun k => decide (r.2.2.2.2.1 k = nI (vfirst ft0 k)))
def chkM? (o : Option (Int32 × Int32 × Int32 × (Nat → Int32) × (Nat → Int32) × (Nat → Int32))) : Bool := match o with
  | some r => chkM r
  | none => false
set_option maxRecDepth 100000 in
theorem start_model0 : chkM? m_X6_start = true := by decide +kernel
theorem start_model : ∃ told s draft, m_X6_start = some (0, 0, 0, told, s, draft) ∧ ToR ft0 told ∧ ∀ k, k < 6 → s k = nI (vfirst ft0 k) := by
  have h := start_model0
  cases e : m_X6_start with
  | none => rw [e] at h; cases h
  | some r =>
    obtain ⟨r1, r2, r3, told, s, draft⟩ := r
    rw [e] at h
    have h2 : chkM (r1, r2, r3, told, s, draft) = true := h
    unfold chkM at h2
    simp only [Bool.and_eq_true, decide_eq_true_eq] at h2
    obtain ⟨⟨⟨⟨h0, h1⟩, h2⟩, h3⟩, h4⟩ := h2
    subst h0 h1 h2
    have b : ∀ i, i < 51 → ft0 i < 128 + 128 := fun i hi => of_decide_eq_true (allN_on (n := 51) (p := fun i => decide (ft0 i < 128 + 128)) (by decide +kernel) hi)
    exact ⟨told, s, draft, rfl, fun i hi => ⟨of_decide_eq_true (allN_on h3 hi), b i hi⟩, fun k hk => of_decide_eq_true (allN_on h4 hk)⟩
theorem start_sov : Sov ft0 (vfirst ft0) := by
  have zb : ∀ i, (0 : Nat).testBit i = true → False := fun i h => by rw [Nat.zero_testBit] at h; cases h
  refine ⟨?_, ?_, ?_, ?_, ?_, ?_, ?_⟩
  · exact ft0_wf.2.2.2.2.1
  · exact Nat.two_pow_pos _
  · intro i h; exact absurd h (fun h => zb i h)
  · exact Nat.two_pow_pos _
  · intro i h; exact absurd h (fun h => zb i h)
  · have := ft0_wf.2.2.1; show ft0 2 < 100; omega
  · show 0 < 80; omega
theorem Mem.zero : Mem 0 (fun _ => 0) 0 := ⟨0, fun _ => 0, rfl, Nat.le_refl 0, fun i hi => ⟨0, 0, 0, rfl, by decide, by decide, Nat.le_refl 0, fun _ => rfl⟩⟩
