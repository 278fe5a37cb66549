/-! lay, both sides -/
theorem lay0 {draft : Nat → Int32} {N : Nat} (hN : 1 ≤ N) (x : Int32) : lp_X6_lay_26 draft N (0 : Int32) x = some 0 := by
  obtain ⟨n, rfl⟩ : ∃ n, N = n + 1 := ⟨N - 1, by omega⟩
  rw [lp_X6_lay_26]
  by_cases h : draft 0 ≤ x
  · rw [if_pos h]
  · rw [if_neg h, if_pos (show (0 : Int32) = 0 from rfl)]
theorem lays_loop {draft : Nat → Int32} : ∀ (m k fuel : Nat) (told : Nat → Int32), k + m = 51 → m < fuel → (∀ i, i < k → told i = draft i) → ∃ told', lp_X6_lays_2 draft fuel (nI k) told = some told' ∧ ∀ i, i < 51 → told' i = draft i := by
  intro m
  induction m with
  | zero =>
    intro k fuel told hk hfu h
    obtain ⟨n, rfl⟩ : ∃ n, fuel = n + 1 := ⟨fuel - 1, by omega⟩
    refine ⟨told, ?_, fun i hi => h i (by omega)⟩
    rw [lp_X6_lays_2, if_pos (show (51 : Int32) ≤ nI _ from nI_le (a := 51) (by omega) (by omega))]
  | succ m ih =>
    intro k fuel told hk hfu h
    obtain ⟨n, rfl⟩ : ∃ n, fuel = n + 1 := ⟨fuel - 1, by omega⟩
    obtain ⟨told', h1, h2⟩ := ih (k + 1) n (upd told k (draft k)) (by omega) (by omega) (fun i hi => by
      by_cases q : i = k
      · subst q; rw [pk_us]
      · rw [pk_un q]; exact h i (by omega))
    refine ⟨told', ?_, h2⟩
    rw [lp_X6_lays_2, if_neg (show ¬ (51 : Int32) ≤ nI _ from nI_ge (b := 51) (by omega) (by decide)), if_pos (j_in (by omega) (by decide)), j_clamp (by omega), nI_1]
    exact h1
theorem lays_loop2 : ∀ (m k fuel : Nat) (s : Nat → Int32), k + m = 6 → m < fuel → (∀ i, i < k → s i = 0) → ∃ s', lp_X6_lays_28 fuel (nI k) s = some s' ∧ ∀ i, i < 6 → s' i = 0 := by
  intro m
  induction m with
  | zero =>
    intro k fuel s hk hfu h
    obtain ⟨n, rfl⟩ : ∃ n, fuel = n + 1 := ⟨fuel - 1, by omega⟩
    refine ⟨s, ?_, fun i hi => h i (by omega)⟩
    rw [lp_X6_lays_28, if_pos (show (6 : Int32) ≤ nI _ from nI_le (a := 6) (by omega) (by omega))]
  | succ m ih =>
    intro k fuel s hk hfu h
    obtain ⟨n, rfl⟩ : ∃ n, fuel = n + 1 := ⟨fuel - 1, by omega⟩
    obtain ⟨s', h1, h2⟩ := ih (k + 1) n (upd s k (0 : Int32)) (by omega) (by omega) (fun i hi => by
      by_cases q : i = k
      · subst q; rw [pk_us]
      · rw [pk_un q]; exact h i (by omega))
    refine ⟨s', ?_, h2⟩
    rw [lp_X6_lays_28, if_neg (show ¬ (6 : Int32) ≤ nI _ from nI_ge (b := 6) (by omega) (by decide)), if_pos (j_in (by omega) (by decide)), j_clamp (by omega), nI_1]
    exact h1
def vfirst (δ : Td) : Nat → Nat := fun k => if k = 0 then δ 4 else if k = 4 then δ 2 else 0
theorem xX6_lays {δ : Td} {draft : Nat → Int32} (hd : ToR δ draft) (hw : Wf δ) {N : Nat} (hN : 100 ≤ N) (told s : Nat → Int32) : ∃ told' s', m_X6_lays N told draft s = some (0, 0, 0, told', s') ∧ ToR δ told' ∧ StI δ (vfirst δ) (nI (δ 4)) 0 0 0 (nI (δ 2)) 0 s' := by
  obtain ⟨told', h1, h2⟩ := lays_loop (draft := draft) 51 0 N told (by omega) (by omega) (fun i hi => by omega)
  obtain ⟨s', g1, g2⟩ := lays_loop2 6 0 N s (by omega) (by omega) (fun i hi => by omega)
  have ht : ToR δ told' := fun i hi => ⟨by rw [h2 i hi]; exact (hd i hi).1, (hd i hi).2⟩
  refine ⟨told', upd (upd s' 0 (told' 4)) 4 (told' 2), ?_, ht, ?_, ⟨rfl, rfl, rfl, rfl, rfl, rfl⟩, fun k hk => ?_⟩
  · unfold m_X6_lays
    have e1 : lp_X6_lays_2 draft N (0 : Int32) told = some told' := h1
    have e2 : lp_X6_lays_28 N (0 : Int32) s = some s' := g1
    rw [e1, Option.bind_some, e2]
    rfl
  · have zb : ∀ i, (0 : Nat).testBit i = true → False := fun i h => by rw [Nat.zero_testBit] at h; cases h
    refine ⟨?_, ?_, ?_, ?_, ?_, ?_, ?_⟩
    · exact hw.2.2.2.2.1
    · exact Nat.two_pow_pos _
    · intro i h; exact absurd h (fun h => zb i h)
    · exact Nat.two_pow_pos _
    · intro i h; exact absurd h (fun h => zb i h)
    · have := hw.2.2.1; show δ 2 < 100; omega
    · show 0 < 80; omega
  · unfold vfirst
    by_cases q4 : k = 4
    · subst q4; rw [pk_us, (ht 2 (by decide)).1]; rfl
    · rw [pk_un q4]
      by_cases q0 : k = 0
      · subst q0; rw [pk_us, (ht 4 (by decide)).1]; rfl
      · rw [pk_un q0, g2 k hk, if_neg q0, if_neg q4]; rfl
theorem canBeLaid_val {δ : Td} {nexts : Nat → Int32} (h8 : δ 0 ≤ 8) (hn7 : ∀ t, t < δ 0 → nx δ t ≤ 7) (hn : ∀ t, t < δ 0 → nexts t = nI (nx δ t)) {N : Nat} (hN : 100 ≤ N) : m_X0_canBeLaid N (nI (δ 0)) nexts = some (if δ 0 = 0 then 0 else if nxok δ (δ 0) = true then 1 else 0) := by
  have cl : lp_X0_canBeLaid_2 (nI (δ 0)) nexts N (0 : Int32) = some (if nxok δ (δ 0) = true then Sum.inl () else Sum.inr ()) := canBeLaid_loop h8 hn7 hn (δ 0) 0 N (by omega) (by omega) rfl
  unfold m_X0_canBeLaid
  rw [cl]
  by_cases z : δ 0 = 0
  · have zz : nI (δ 0) ≤ (0 : Int32) := by rw [z]; decide
    rw [if_pos z]
    by_cases w : nxok δ (δ 0) = true
    · rw [if_pos w]
      show (if nI (δ 0) ≤ (0 : Int32) then some (0 : Int32) else some (1 : Int32)) = some 0
      rw [if_pos zz]
    · rw [if_neg w]
      rfl
  · have zz : ¬ nI (δ 0) ≤ (0 : Int32) := show ¬ nI (δ 0) ≤ nI 0 from nI_ge (by omega) (by omega)
    rw [if_neg z]
    by_cases w : nxok δ (δ 0) = true
    · rw [if_pos w, if_pos w]
      show (if nI (δ 0) ≤ (0 : Int32) then some (0 : Int32) else some (1 : Int32)) = some 1
      rw [if_neg zz]
    · rw [if_neg w, if_neg w]
      rfl
theorem op_lay {n N : Nat} (hN : 1000 ≤ N) {letters typed : Int32} {text mtext : Nat → Int32} (h : TxI n letters text typed mtext) (kinds days rideDays helpKinds nexts helperKinds prices masks numbers : Nat → Int32) (asked brought friends used crumbs day unsize kesize sesize last : Int32) (left : Nat → Int32) (known kept sights : Int32) (told draft s : Nat → Int32) : ∃ r t h1 a c l k1 k2 k3 k4 k5 k6 k7 k8 k9 asked' brought' friends' used' crumbs' day' unsize' kesize' sesize' last' left' known' kept' sights' at' told' draft' s', m_X5_lay N letters text kinds days rideDays helpKinds nexts helperKinds prices masks numbers asked brought friends used crumbs day unsize kesize sesize last left = some (r, t, h1, a, c, l, k1, k2, k3, k4, k5, k6, k7, k8, k9, asked', brought', friends', used', crumbs', day', unsize', kesize', sesize', last', left') ∧ m_X6_lay N typed known kept sights mtext told draft s = some (r, known', kept', sights', at', told', draft', s') ∧
    ((r = -2 ∧ (asked' = asked ∧ brought' = brought ∧ friends' = friends ∧ used' = used ∧ crumbs' = crumbs ∧ day' = day) ∧ (unsize' = unsize ∧ kesize' = kesize ∧ sesize' = sesize ∧ last' = last ∧ left' = left) ∧ known' = known ∧ kept' = kept ∧ sights' = sights ∧ told' = told ∧ s' = s) ∨
      (r ≠ -2 ∧ ∃ τ' v', MoI τ' t h1 a c l k1 k2 k3 k4 k5 k6 k7 k8 told' ∧ StI τ' v' asked' brought' friends' used' crumbs' day' s' ∧ (unsize' = 0 ∧ kesize' = 0 ∧ sesize' = 0 ∧ last' = 0 ∧ ∀ i, i < 8 → left' i = nI 255) ∧ known' = 0 ∧ kept' = 0 ∧ sights' = 0)) := by
  obtain ⟨T, t1, t2⟩ := h.tx
  obtain ⟨cr, mr, e1, e2, e3, e4⟩ := reads t1 t2 h.1 h.1 (by decide) hN kinds days rideDays helpKinds nexts helperKinds prices masks numbers draft
  obtain ⟨r, t, h1, a, c, l, k1, k2, k3, k4, k5, k6, k7, k8, k9⟩ := cr
  obtain ⟨r2, at', dr⟩ := mr
  have e3' : r2 = r := e3
  subst e3'
  unfold m_X5_lay m_X6_lay
  rw [h.2.1, h.2.2.1, e1, e2, Option.bind_some, Option.bind_some]
  simp only
  rcases e4 with ⟨q, δ, hδ⟩ | ⟨p, hp, q⟩
  · have q' : r2 = -4 := q
    subst q'
    have hδ' : DrI δ t h1 a c l k1 k2 k3 k4 k5 k6 k7 k8 dr := hδ
    obtain ⟨hb, hmr, htr⟩ := hδ'
    have ht0 := hmr.1
    have htasks : t = nI (δ 0) := hmr.1
    have hh1 : h1 = nI (δ 1) := hmr.2.1
    have ha : a = nI (δ 4) := hmr.2.2.1
    have hc : c = nI (δ 2) := hmr.2.2.2.1
    have hl : l = nI (δ 3) := hmr.2.2.2.2.1
    subst htasks ha hc
    have h8 := hb.1
    have hn7 : ∀ x, x < δ 0 → nx δ x ≤ 7 := fun x hx => (hb.2.2.2.2.2.1 x hx).2.2.2
    have cb := canBeLaid_val h8 hn7 (fun x hx => (hmr.2.2.2.2.2.1 x hx).2.2.2.2) (N := N) (by omega)
    have ll := lay_loop htr h8 hn7 (δ 0) 0 N (by omega) (by omega)
    have ll' : lp_X6_lay_26 dr N (1 : Int32) (0 : Int32) = some (if nxok δ (δ 0) = true then 1 else 0) := ll
    rw [if_pos (show (-4 : Int32) = -4 from rfl), if_pos (show (-4 : Int32) = -4 from rfl), (htr 0 (by decide)).1]
    rw [cb, Option.bind_some]
    by_cases z : δ 0 = 0
    · have zz : nI (δ 0) ≤ (0 : Int32) := by rw [z]; decide
      rw [if_pos z, if_pos (show (0 : Int32) = 0 from rfl), if_pos zz, lay0 (by omega), Option.bind_some, if_pos (show (0 : Int32) = 0 from rfl)]
      exact ⟨_, _, _, _, _, _, _, _, _, _, _, _, _, _, _, _, _, _, _, _, _, _, _, _, _, _, _, _, _, _, _, _, _, rfl, rfl, Or.inl ⟨rfl, ⟨rfl, rfl, rfl, rfl, rfl, rfl⟩, ⟨rfl, rfl, rfl, rfl, rfl⟩, rfl, rfl, rfl, rfl, rfl⟩⟩
    · have zz : ¬ nI (δ 0) ≤ (0 : Int32) := show ¬ nI (δ 0) ≤ nI 0 from nI_ge (by omega) (by omega)
      rw [if_neg z, if_neg zz, ll', Option.bind_some]
      by_cases w : nxok δ (δ 0) = true
      · have hw : Wf δ := hb.wf (by omega) (nxok_all w)
        obtain ⟨told', s', f1, f2, f3⟩ := xX6_lays htr hw (N := N) (by omega) told s
        obtain ⟨left', g1, g2⟩ := xX3_clear (N := N) (by omega) left
        rw [if_pos w, if_neg n10, if_neg n10, f1, Option.bind_some]
        unfold m_X4_begin m_X1_clear
        rw [Option.bind_some, Option.bind_some, Option.bind_some, g1, Option.bind_some]
        simp only
        rw [(f2 0 (by decide)).1]
        refine ⟨_, _, _, _, _, _, _, _, _, _, _, _, _, _, _, _, _, _, _, _, _, _, _, _, _, _, _, _, _, _, _, _, _, rfl, rfl, Or.inr ⟨?_, δ, vfirst δ, ⟨hw, ⟨rfl, hh1, rfl, rfl, hl, hmr.2.2.2.2.2⟩, f2⟩, f3, ⟨rfl, rfl, rfl, rfl, g2⟩, rfl, rfl, rfl⟩⟩
        intro z2
        have h0 : ¬ nI (δ 0) < 0 := nI_pos (by omega)
        rw [z2] at h0
        exact h0 (by decide)
      · rw [if_neg w, if_pos (show (0 : Int32) = 0 from rfl), if_pos (show (0 : Int32) = 0 from rfl)]
        exact ⟨_, _, _, _, _, _, _, _, _, _, _, _, _, _, _, _, _, _, _, _, _, _, _, _, _, _, _, _, _, _, _, _, _, rfl, rfl, Or.inl ⟨rfl, ⟨rfl, rfl, rfl, rfl, rfl, rfl⟩, ⟨rfl, rfl, rfl, rfl, rfl⟩, rfl, rfl, rfl, rfl, rfl⟩⟩
  · have q' : r2 = nI p := q
    subst q'
    have hpn := h.1
    have ne : ¬ nI p = (-4 : Int32) := fun z2 => by
      have h0 : ¬ nI p < 0 := nI_pos (by omega)
      rw [z2] at h0
      exact h0 (by decide)
    rw [if_neg ne, if_neg ne, lay0 (by omega), Option.bind_some, if_pos (show (0 : Int32) = 0 from rfl)]
    exact ⟨_, _, _, _, _, _, _, _, _, _, _, _, _, _, _, _, _, _, _, _, _, _, _, _, _, _, _, _, _, _, _, _, _, rfl, rfl, Or.inl ⟨rfl, ⟨rfl, rfl, rfl, rfl, rfl, rfl⟩, ⟨rfl, rfl, rfl, rfl, rfl⟩, rfl, rfl, rfl, rfl, rfl⟩⟩
