/-! walks: X0_isHelpEnough X0_numbersBehind X0_priceOf X0_priceOfSet X0_readNumber X5_numberAt X0_takeHelper X0_takeTask X0_takeItem -/
abbrev rX0_isHelpEnough : Room := { frames := 2, cells := 0, slots := 0, locals := 45 }
theorem cal_X0_isHelpEnough : Cal yX0_isHelpEnough wsX0_isHelpEnough cX0_isHelpEnough 6 (some .boolean) RX0 2 := ⟨⟨_, rfl⟩, rfl, by decide +kernel, by decide +kernel, by decide +kernel⟩
set_option maxHeartbeats 4000000 in
set_option maxRecDepth 100000 in
theorem t_X0_isHelpEnough_14 {p : Program} {e : Env} {s : State} {m : MethodId} {args : Array Value} {below : List Frame} {meth : Method} {c : Code} {Q : State → Prop} {H : Heap} {locs : List Loc} (l : Launch) {D : va_G} {cC cI cJ : ClassId} (S : CallFix p m c cX0_isHelpEnough 6 s args wsX0_isHelpEnough RX0) (hK : KK D (tyK cC cI cJ) s) (a_mo : Nat) (a_mo_kinds : Nat) (a_mo_days : Nat) (a_mo_rideDays : Nat) (a_mo_helpKinds : Nat) (a_mo_nexts : Nat) (a_mo_helperKinds : Nat) (a_mo_prices : Nat) (a_mo_helpersOfKind : Nat) (a_mo_numbers : Nat) (N : Nat) (v1 : Int32) (v2 : Int32) (mo_tasks : Int32) (mo_helpers : Int32) (mo_askedFirst : Int32) (mo_crumbsFirst : Int32) (mo_lastDay : Int32) (mo_kinds : (Nat → Int32)) (mo_days : (Nat → Int32)) (mo_rideDays : (Nat → Int32)) (mo_helpKinds : (Nat → Int32)) (mo_nexts : (Nat → Int32)) (mo_helperKinds : (Nat → Int32)) (mo_prices : (Nat → Int32)) (mo_helpersOfKind : (Nat → Int32)) (mo_numbers : (Nat → Int32)) (hP : va_P D vwCl (wd_0 cC cI cJ a_mo mo_tasks mo_helpers mo_askedFirst mo_crumbsFirst mo_lastDay a_mo_kinds a_mo_days a_mo_rideDays a_mo_helpKinds a_mo_nexts a_mo_helperKinds a_mo_prices a_mo_helpersOfKind a_mo_numbers a_mo_kinds mo_kinds a_mo_days mo_days a_mo_rideDays mo_rideDays a_mo_helpKinds mo_helpKinds a_mo_nexts mo_nexts a_mo_helperKinds mo_helperKinds a_mo_prices mo_prices a_mo_helpersOfKind mo_helpersOfKind a_mo_numbers mo_numbers) H) : ∀ (n : Nat) (v3 : Int32) (v4 : Int32) (out : (Int32 ⊕ Unit)), lp_X0_isHelpEnough_14 N v1 v2 mo_tasks mo_kinds mo_helpKinds mo_helpersOfKind n v3 v4 = some out → ∀ (ls : Array Slot), lv_has ls 6 [(0, .ref a_mo), (1, .int v1), (2, .int v2), (3, .int v3), (4, .int v4)] → (∀ (u : Int32), out = (Sum.inl u) → ∀ (ls : Array Slot), lv_has ls 6 [(3, .int u)] → W p l e rX0_isHelpEnough s m args below meth c H locs 0 0 Q (F0 m 58 ls [])) → (∀ (u : Unit), out = (Sum.inr u) → ∀ (ls : Array Slot), lv_has ls 6 [] → W p l e rX0_isHelpEnough s m args below meth c H locs 0 0 Q (F0 m 45 ls [])) → W p l e rX0_isHelpEnough s m args below meth c H locs 0 0 Q (F0 m 14 ls []) := by
  have hx := S.1
  have hb := S.2.1
  intro n
  induction n with
  | zero => intro v3 v4 out hm; cases (show (none : Option (Int32 ⊕ Unit)) = some out from hm)
  | succ n ih =>
    intro v3 v4 out hm  ls hl K0 K1
    rw [lp_X0_isHelpEnough_14] at hm
    refine lv_iload hx hb dX0_isHelpEnough_14 (lv_at hl 4 rfl) ?_
    refine lv_iconst (v := 5) hx hb dX0_isHelpEnough_16 (by decide) ?_
    refine lv_icmp_ge (tgt := 58) hx hb dX0_isHelpEnough_17 (by decide) (fun c5 => ?_) (fun c5 => ?_)
    · replace hm := ipos hm c5
      obtain rfl := Option.some.inj hm
      exact K0 _ rfl  ls (lv_sub hl [3] rfl)
    · replace hm := ineg hm c5
      refine lv_aload_n hx hb dX0_isHelpEnough_20 rfl (lv_at hl 0 rfl) ?_
      refine lv_iload_n hx hb dX0_isHelpEnough_21 rfl (lv_at hl 1 rfl) ?_
      refine lv_iload hx hb dX0_isHelpEnough_22 (lv_at hl 4 rfl) ?_
      obtain ⟨r6, h7, hm⟩ := ob hm
      refine k_rVi S hK hP cal_X0_helpOfKind gX0_isHelpEnough_X0_helpOfKind (c_X0_helpOfKind l D cC cI cJ a_mo a_mo_kinds a_mo_days a_mo_rideDays a_mo_helpKinds a_mo_nexts a_mo_helperKinds a_mo_prices a_mo_helpersOfKind a_mo_numbers mo_tasks mo_helpers mo_askedFirst mo_crumbsFirst mo_lastDay mo_kinds mo_days mo_rideDays mo_helpKinds mo_nexts mo_helperKinds mo_prices mo_helpersOfKind mo_numbers v1 v4 N r6 h7) ⟨⟨rfl, rfl⟩, Nat.le_of_ble_eq_true rfl, Nat.le_of_ble_eq_true rfl⟩ [0, 1, 2, 3, 4, 5, 6, 7, 8, 9] rfl 0 rfl rfl rfl hl.1 rfl (Nat.le_of_ble_eq_true rfl) dX0_isHelpEnough_24 ⟨Nat.zero_le _, Nat.zero_le _⟩ ?_
      refine lv_istore (lv' := [(5, .int r6), (0, .ref a_mo), (1, .int v1), (2, .int v2), (3, .int v3), (4, .int v4)]) hx hb dX0_isHelpEnough_27 hl (by decide) rfl (fun ls hl => ?_)
      refine lv_iload hx hb dX0_isHelpEnough_29 (lv_at hl 0 rfl) ?_
      refine lv_iload_n hx hb dX0_isHelpEnough_31 rfl (lv_at hl 3 rfl) ?_
      refine lv_aload_n hx hb dX0_isHelpEnough_32 rfl (lv_at hl 1 rfl) ?_
      refine lv_iload hx hb dX0_isHelpEnough_33 (lv_at hl 5 rfl) ?_
      obtain ⟨r8, h9, hm⟩ := ob hm
      refine k_rVi S hK hP cal_X0_helpersOf gX0_isHelpEnough_X0_helpersOf (c_X0_helpersOf l D cC cI cJ a_mo a_mo_kinds a_mo_days a_mo_rideDays a_mo_helpKinds a_mo_nexts a_mo_helperKinds a_mo_prices a_mo_helpersOfKind a_mo_numbers mo_tasks mo_helpers mo_askedFirst mo_crumbsFirst mo_lastDay mo_kinds mo_days mo_rideDays mo_helpKinds mo_nexts mo_helperKinds mo_prices mo_helpersOfKind mo_numbers v4 r8 h9) ⟨⟨rfl, rfl⟩, Nat.le_of_ble_eq_true rfl, Nat.le_of_ble_eq_true rfl⟩ [0, 1, 2, 3, 4, 5, 6, 7, 8, 9] rfl 0 rfl rfl rfl hl.1 rfl (Nat.le_of_ble_eq_true rfl) dX0_isHelpEnough_35 ⟨Nat.zero_le _, Nat.zero_le _⟩ ?_
      refine lv_iand hx hb dX0_isHelpEnough_38 ?_
      obtain ⟨r10, h11, hm⟩ := ob hm
      refine k_rSi S hK hP cal_J6_bitCount_0f7a4 gX0_isHelpEnough_J6_bitCount_0f7a4 (c_J6_bitCount_0f7a4 l D cC cI cJ (v2 &&& r8) r10 h11) ⟨⟨rfl, rfl⟩, Nat.le_of_ble_eq_true rfl, Nat.le_of_ble_eq_true rfl⟩ [] rfl rfl hl.1 rfl (Nat.le_of_ble_eq_true rfl) dX0_isHelpEnough_39 ⟨Nat.zero_le _, Nat.zero_le _⟩ ?_
      refine lv_icmp_le (tgt := 47) hx hb dX0_isHelpEnough_42 (by decide) (fun c12 => ?_) (fun c12 => ?_)
      · replace hm := ipos hm c12
        refine lv_iload_n hx hb dX0_isHelpEnough_47 rfl (lv_at hl 4 rfl) ?_
        refine lv_iload hx hb dX0_isHelpEnough_48 (lv_at hl 0 rfl) ?_
        refine lv_isub hx hb dX0_isHelpEnough_50 ?_
        refine lv_istore_n (lv' := [(3, .int (v3 - r6)), (5, .int r6), (0, .ref a_mo), (1, .int v1), (2, .int v2), (4, .int v4)]) hx hb dX0_isHelpEnough_51 rfl hl (by decide) rfl (fun ls hl => ?_)
        refine lv_iinc (v := (v4 + 1)) (lv' := [(4, .int (v4 + 1)), (3, .int (v3 - r6)), (5, .int r6), (0, .ref a_mo), (1, .int v1), (2, .int v2)]) hx hb dX0_isHelpEnough_52 hl (k := 5) rfl (by rw [ofi_1]) (by decide) rfl (fun ls hl => ?_)
        refine lv_goto (tgt := 14) hx hb dX0_isHelpEnough_55 (by decide) ?_
        exact ih (v3 - r6) (v4 + 1) _ hm  ls (lv_sub hl [3, 4, 5, 1, 0] rfl) K0 K1
      · replace hm := ineg hm c12
        obtain rfl := Option.some.inj hm
        exact K1 _ rfl  ls (lv_sub hl [] rfl)
set_option maxHeartbeats 4000000 in
set_option maxRecDepth 100000 in
theorem c_X0_isHelpEnough (l : Launch) (D : va_G) (cC cI cJ : ClassId) (a_mo : Nat) (a_mo_kinds : Nat) (a_mo_days : Nat) (a_mo_rideDays : Nat) (a_mo_helpKinds : Nat) (a_mo_nexts : Nat) (a_mo_helperKinds : Nat) (a_mo_prices : Nat) (a_mo_helpersOfKind : Nat) (a_mo_numbers : Nat) (mo_tasks : Int32) (mo_helpers : Int32) (mo_askedFirst : Int32) (mo_crumbsFirst : Int32) (mo_lastDay : Int32) (mo_kinds : (Nat → Int32)) (mo_days : (Nat → Int32)) (mo_rideDays : (Nat → Int32)) (mo_helpKinds : (Nat → Int32)) (mo_nexts : (Nat → Int32)) (mo_helperKinds : (Nat → Int32)) (mo_prices : (Nat → Int32)) (mo_helpersOfKind : (Nat → Int32)) (mo_numbers : (Nat → Int32)) (p0 : Int32) (p1 : Int32) (N : Nat) (out : Int32) (hm : m_X0_isHelpEnough N mo_tasks mo_kinds mo_helpKinds mo_helpersOfKind p0 p1 = some out) : RdI l yX0_isHelpEnough wsX0_isHelpEnough rX0_isHelpEnough D (tyK cC cI cJ) [.ref a_mo, .int p0, .int p1] (wd_0 cC cI cJ a_mo mo_tasks mo_helpers mo_askedFirst mo_crumbsFirst mo_lastDay a_mo_kinds a_mo_days a_mo_rideDays a_mo_helpKinds a_mo_nexts a_mo_helperKinds a_mo_prices a_mo_helpersOfKind a_mo_numbers a_mo_kinds mo_kinds a_mo_days mo_days a_mo_rideDays mo_rideDays a_mo_helpKinds mo_helpKinds a_mo_nexts mo_nexts a_mo_helperKinds mo_helperKinds a_mo_prices mo_prices a_mo_helpersOfKind mo_helpersOfKind a_mo_numbers mo_numbers) out := by
  unfold m_X0_isHelpEnough at hm
  refine enter (cc := cX0_isHelpEnough) (maxL := 6) (ret := (some .boolean)) (lv := [(0, .ref a_mo), (1, .int p0), (2, .int p1)]) (by decide) rfl (Nat.le_of_ble_eq_true rfl) rfl ?_
  intro p e s m args below meth c S hr hlk hK hP ls hl
  replace S : CallFix p m c cX0_isHelpEnough 6 s args wsX0_isHelpEnough RX0 := S
  have hx := S.1
  have hb := S.2.1
  refine lv_iload_n hx hb dX0_isHelpEnough_0 rfl (lv_at hl 2 rfl) ?_
  obtain ⟨r1, h2, hm⟩ := ob hm
  refine k_rSi S hK hP cal_J6_bitCount_0f7a4 gX0_isHelpEnough_J6_bitCount_0f7a4 (c_J6_bitCount_0f7a4 l D cC cI cJ p1 r1 h2) ⟨⟨rfl, rfl⟩, Nat.le_of_ble_eq_true rfl, Nat.le_of_ble_eq_true rfl⟩ [] rfl rfl hl.1 rfl (Nat.le_of_ble_eq_true rfl) dX0_isHelpEnough_1 ⟨Nat.zero_le _, Nat.zero_le _⟩ ?_
  refine lv_aload_n hx hb dX0_isHelpEnough_4 rfl (lv_at hl 0 rfl) ?_
  refine lv_iload_n hx hb dX0_isHelpEnough_5 rfl (lv_at hl 1 rfl) ?_
  obtain ⟨r3, h4, hm⟩ := ob hm
  refine k_rVi S hK hP cal_X0_helpOfAny gX0_isHelpEnough_X0_helpOfAny (c_X0_helpOfAny l D cC cI cJ a_mo a_mo_kinds a_mo_days a_mo_rideDays a_mo_helpKinds a_mo_nexts a_mo_helperKinds a_mo_prices a_mo_helpersOfKind a_mo_numbers mo_tasks mo_helpers mo_askedFirst mo_crumbsFirst mo_lastDay mo_kinds mo_days mo_rideDays mo_helpKinds mo_nexts mo_helperKinds mo_prices mo_helpersOfKind mo_numbers p0 N r3 h4) ⟨⟨rfl, rfl⟩, Nat.le_of_ble_eq_true rfl, Nat.le_of_ble_eq_true rfl⟩ [0, 1, 2, 3, 4, 5, 6, 7, 8, 9] rfl 0 rfl rfl rfl hl.1 rfl (Nat.le_of_ble_eq_true rfl) dX0_isHelpEnough_6 ⟨Nat.zero_le _, Nat.zero_le _⟩ ?_
  refine lv_isub hx hb dX0_isHelpEnough_9 ?_
  refine lv_istore_n (lv' := [(3, .int (r1 - r3)), (0, .ref a_mo), (1, .int p0), (2, .int p1)]) hx hb dX0_isHelpEnough_10 rfl hl (by decide) rfl (fun ls hl => ?_)
  refine lv_iconst (v := 0) hx hb dX0_isHelpEnough_11 (by decide) ?_
  refine lv_istore (lv' := [(4, .int (0 : Int32)), (3, .int (r1 - r3)), (0, .ref a_mo), (1, .int p0), (2, .int p1)]) hx hb dX0_isHelpEnough_12 hl (by decide) rfl (fun ls hl => ?_)
  obtain ⟨r13, h14, hm⟩ := ob hm
  refine t_X0_isHelpEnough_14 l S hK a_mo a_mo_kinds a_mo_days a_mo_rideDays a_mo_helpKinds a_mo_nexts a_mo_helperKinds a_mo_prices a_mo_helpersOfKind a_mo_numbers N p0 p1 mo_tasks mo_helpers mo_askedFirst mo_crumbsFirst mo_lastDay mo_kinds mo_days mo_rideDays mo_helpKinds mo_nexts mo_helperKinds mo_prices mo_helpersOfKind mo_numbers hP N (r1 - r3) (0 : Int32) r13 h14  ls (lv_sub hl [2, 3, 4, 1, 0] rfl) (fun u15 hu ls hl => ?_) (fun u17 hu ls hl => ?_)
  · subst hu
    replace hm := seL hm
    refine lv_iload_n hx hb dX0_isHelpEnough_58 rfl (lv_at hl 0 rfl) ?_
    refine lv_if_lt (tgt := 66) hx hb dX0_isHelpEnough_59 (by decide) (fun c16 => ?_) (fun c16 => ?_)
    · replace hm := ipos hm c16
      refine lv_iconst (v := 0) hx hb dX0_isHelpEnough_66 (by decide) ?_
      exact e_RZ S hr hlk (Or.inl rfl) (Option.some.inj hm) dX0_isHelpEnough_67
    · replace hm := ineg hm c16
      refine lv_iconst (v := 1) hx hb dX0_isHelpEnough_62 (by decide) ?_
      refine lv_goto (tgt := 67) hx hb dX0_isHelpEnough_63 (by decide) ?_
      exact e_RZ S hr hlk (Or.inr rfl) (Option.some.inj hm) dX0_isHelpEnough_67
  · subst hu
    replace hm := seR hm
    refine lv_iconst (v := 0) hx hb dX0_isHelpEnough_45 (by decide) ?_
    exact e_RZ S hr hlk (Or.inl rfl) (Option.some.inj hm) dX0_isHelpEnough_46

abbrev rX0_numbersBehind : Room := { frames := 0, cells := 0, slots := 0, locals := 0 }
theorem cal_X0_numbersBehind : Cal yX0_numbersBehind wsX0_numbersBehind cX0_numbersBehind 1 (some .int) RX0 1 := ⟨⟨_, rfl⟩, rfl, by decide +kernel, by decide +kernel, by decide +kernel⟩
set_option maxHeartbeats 4000000 in
set_option maxRecDepth 100000 in
theorem c_X0_numbersBehind (l : Launch) (D : va_G) (cC cI cJ : ClassId)  (p0 : Int32) (out : Int32) (hm : m_X0_numbersBehind p0 = some out) : RdI l yX0_numbersBehind wsX0_numbersBehind rX0_numbersBehind D (tyK cC cI cJ) [.int p0] [] out := by
  unfold m_X0_numbersBehind at hm
  refine enter (cc := cX0_numbersBehind) (maxL := 1) (ret := (some .int)) (lv := [(0, .int p0)]) (by decide) rfl (Nat.le_of_ble_eq_true rfl) rfl ?_
  intro p e s m args below meth c S hr hlk hK hP ls hl
  replace S : CallFix p m c cX0_numbersBehind 1 s args wsX0_numbersBehind RX0 := S
  have hx := S.1
  have hb := S.2.1
  refine lv_iload_n hx hb dX0_numbersBehind_0 rfl (lv_at hl 0 rfl) ?_
  by_cases c1 : p0 = (97 : Int32)
  · replace hm := ipos hm c1
    refine f_look S dX0_numbersBehind_1 rfl (off := 55) (by rw [c1]; decide) (tgt := 56) (by decide) ?_
    refine lv_iconst (v := 1) hx hb dX0_numbersBehind_56 (by decide) ?_
    exact e_RI S hr hlk (Option.some.inj hm) dX0_numbersBehind_57
  replace hm := ineg hm c1
  by_cases c2 : p0 = (99 : Int32)
  · replace hm := ipos hm c2
    refine f_look S dX0_numbersBehind_1 rfl (off := 55) (by rw [c2]; decide) (tgt := 56) (by decide) ?_
    refine lv_iconst (v := 1) hx hb dX0_numbersBehind_56 (by decide) ?_
    exact e_RI S hr hlk (Option.some.inj hm) dX0_numbersBehind_57
  replace hm := ineg hm c2
  by_cases c3 : p0 = (104 : Int32)
  · replace hm := ipos hm c3
    refine f_look S dX0_numbersBehind_1 rfl (off := 53) (by rw [c3]; decide) (tgt := 54) (by decide) ?_
    refine lv_iconst (v := 2) hx hb dX0_numbersBehind_54 (by decide) ?_
    exact e_RI S hr hlk (Option.some.inj hm) dX0_numbersBehind_55
  replace hm := ineg hm c3
  by_cases c4 : p0 = (108 : Int32)
  · replace hm := ipos hm c4
    refine f_look S dX0_numbersBehind_1 rfl (off := 55) (by rw [c4]; decide) (tgt := 56) (by decide) ?_
    refine lv_iconst (v := 1) hx hb dX0_numbersBehind_56 (by decide) ?_
    exact e_RI S hr hlk (Option.some.inj hm) dX0_numbersBehind_57
  replace hm := ineg hm c4
  by_cases c5 : p0 = (116 : Int32)
  · replace hm := ipos hm c5
    refine f_look S dX0_numbersBehind_1 rfl (off := 51) (by rw [c5]; decide) (tgt := 52) (by decide) ?_
    refine lv_iconst (v := 4) hx hb dX0_numbersBehind_52 (by decide) ?_
    exact e_RI S hr hlk (Option.some.inj hm) dX0_numbersBehind_53
  replace hm := ineg hm c5
  have nc1 := toInt_ne c1 (n := 97) (by decide)
  have nc2 := toInt_ne c2 (n := 99) (by decide)
  have nc3 := toInt_ne c3 (n := 104) (by decide)
  have nc4 := toInt_ne c4 (n := 108) (by decide)
  have nc5 := toInt_ne c5 (n := 116) (by decide)
  refine f_look S dX0_numbersBehind_1 rfl (off := 57) (by simp only [Op.lookupswitch.offset, if_neg nc1, if_neg nc2, if_neg nc3, if_neg nc4, if_neg nc5, if_false]) (tgt := 58) (by decide) ?_
  refine lv_iconst (v := 0) hx hb dX0_numbersBehind_58 (by decide) ?_
  exact e_RI S hr hlk (Option.some.inj hm) dX0_numbersBehind_59

abbrev rX0_priceOf : Room := { frames := 0, cells := 0, slots := 0, locals := 0 }
theorem cal_X0_priceOf : Cal yX0_priceOf wsX0_priceOf cX0_priceOf 2 (some .int) RX0 1 := ⟨⟨_, rfl⟩, rfl, by decide +kernel, by decide +kernel, by decide +kernel⟩
theorem in_X0_priceOf_X0 : ∀ w ∈ wsX00, w ∈ wsX0_priceOf := fun _ h => (List.mem_cons_of_mem _ (List.mem_append_right _ h))
set_option maxHeartbeats 4000000 in
set_option maxRecDepth 100000 in
theorem c_X0_priceOf (l : Launch) (D : va_G) (cC cI cJ : ClassId) (a_mo : Nat) (a_mo_kinds : Nat) (a_mo_days : Nat) (a_mo_rideDays : Nat) (a_mo_helpKinds : Nat) (a_mo_nexts : Nat) (a_mo_helperKinds : Nat) (a_mo_prices : Nat) (a_mo_helpersOfKind : Nat) (a_mo_numbers : Nat) (mo_tasks : Int32) (mo_helpers : Int32) (mo_askedFirst : Int32) (mo_crumbsFirst : Int32) (mo_lastDay : Int32) (mo_kinds : (Nat → Int32)) (mo_days : (Nat → Int32)) (mo_rideDays : (Nat → Int32)) (mo_helpKinds : (Nat → Int32)) (mo_nexts : (Nat → Int32)) (mo_helperKinds : (Nat → Int32)) (mo_prices : (Nat → Int32)) (mo_helpersOfKind : (Nat → Int32)) (mo_numbers : (Nat → Int32)) (p0 : Int32) (out : Int32) (hm : m_X0_priceOf mo_prices p0 = some out) : RdI l yX0_priceOf wsX0_priceOf rX0_priceOf D (tyK cC cI cJ) [.ref a_mo, .int p0] (wd_0 cC cI cJ a_mo mo_tasks mo_helpers mo_askedFirst mo_crumbsFirst mo_lastDay a_mo_kinds a_mo_days a_mo_rideDays a_mo_helpKinds a_mo_nexts a_mo_helperKinds a_mo_prices a_mo_helpersOfKind a_mo_numbers a_mo_kinds mo_kinds a_mo_days mo_days a_mo_rideDays mo_rideDays a_mo_helpKinds mo_helpKinds a_mo_nexts mo_nexts a_mo_helperKinds mo_helperKinds a_mo_prices mo_prices a_mo_helpersOfKind mo_helpersOfKind a_mo_numbers mo_numbers) out := by
  unfold m_X0_priceOf at hm
  refine enter (cc := cX0_priceOf) (maxL := 2) (ret := (some .int)) (lv := [(0, .ref a_mo), (1, .int p0)]) (by decide) rfl (Nat.le_of_ble_eq_true rfl) rfl ?_
  intro p e s m args below meth c S hr hlk hK hP ls hl
  replace S : CallFix p m c cX0_priceOf 2 s args wsX0_priceOf RX0 := S
  have hx := S.1
  have hb := S.2.1
  refine lv_iload_n hx hb dX0_priceOf_0 rfl (lv_at hl 1 rfl) ?_
  refine lv_if_lt (tgt := 22) hx hb dX0_priceOf_1 (by decide) (fun c1 => ?_) (fun c1 => ?_)
  · replace hm := ipos hm c1
    refine lv_iconst (v := 0) hx hb dX0_priceOf_22 (by decide) ?_
    exact e_RI S hr hlk (Option.some.inj hm) dX0_priceOf_23
  · replace hm := ineg hm c1
    refine lv_iload_n hx hb dX0_priceOf_4 rfl (lv_at hl 1 rfl) ?_
    refine lv_aload_n hx hb dX0_priceOf_5 rfl (lv_at hl 0 rfl) ?_
    refine f_get S hK hP in_X0_priceOf_X0 0 rfl rfl 11 (by decide) (List.mem_of_getElem? (i := 1) rfl) rfl rfl dX0_priceOf_6 ?_
    refine f_alen S hK hP 7 1 rfl rfl (v := (7 : Int32)) rfl dX0_priceOf_9 ?_
    refine lv_icmp_ge (tgt := 22) hx hb dX0_priceOf_10 (by decide) (fun c2 => ?_) (fun c2 => ?_)
    · replace hm := ipos hm c2
      refine lv_iconst (v := 0) hx hb dX0_priceOf_22 (by decide) ?_
      exact e_RI S hr hlk (Option.some.inj hm) dX0_priceOf_23
    · replace hm := ineg hm c2
      refine lv_aload_n hx hb dX0_priceOf_13 rfl (lv_at hl 0 rfl) ?_
      refine f_get S hK hP in_X0_priceOf_X0 0 rfl rfl 11 (by decide) (List.mem_of_getElem? (i := 1) rfl) rfl rfl dX0_priceOf_14 ?_
      refine lv_iload_n hx hb dX0_priceOf_17 rfl (lv_at hl 1 rfl) ?_
      obtain ⟨g3, hm⟩ := gdo hm
      refine f_iald S hK hP 7 1 rfl rfl g3 dX0_priceOf_18 ?_
      refine lv_goto (tgt := 23) hx hb dX0_priceOf_19 (by decide) ?_
      exact e_RI S hr hlk (Option.some.inj hm) dX0_priceOf_23

abbrev rX0_priceOfSet : Room := { frames := 1, cells := 0, slots := 0, locals := 21 }
theorem cal_X0_priceOfSet : Cal yX0_priceOfSet wsX0_priceOfSet cX0_priceOfSet 4 (some .int) RX0 1 := ⟨⟨_, rfl⟩, rfl, by decide +kernel, by decide +kernel, by decide +kernel⟩
theorem in_X0_priceOfSet_X0 : ∀ w ∈ wsX00, w ∈ wsX0_priceOfSet := fun _ h => (List.mem_cons_of_mem _ (List.mem_append_right _ h))
set_option maxHeartbeats 4000000 in
set_option maxRecDepth 100000 in
theorem t_X0_priceOfSet_4 {p : Program} {e : Env} {s : State} {m : MethodId} {args : Array Value} {below : List Frame} {meth : Method} {c : Code} {Q : State → Prop} {H : Heap} {locs : List Loc} (l : Launch) {D : va_G} {cC cI cJ : ClassId} (S : CallFix p m c cX0_priceOfSet 4 s args wsX0_priceOfSet RX0) (hK : KK D (tyK cC cI cJ) s) (a_mo : Nat) (a_mo_kinds : Nat) (a_mo_days : Nat) (a_mo_rideDays : Nat) (a_mo_helpKinds : Nat) (a_mo_nexts : Nat) (a_mo_helperKinds : Nat) (a_mo_prices : Nat) (a_mo_helpersOfKind : Nat) (a_mo_numbers : Nat) (v1 : Int32) (mo_tasks : Int32) (mo_helpers : Int32) (mo_askedFirst : Int32) (mo_crumbsFirst : Int32) (mo_lastDay : Int32) (mo_kinds : (Nat → Int32)) (mo_days : (Nat → Int32)) (mo_rideDays : (Nat → Int32)) (mo_helpKinds : (Nat → Int32)) (mo_nexts : (Nat → Int32)) (mo_helperKinds : (Nat → Int32)) (mo_prices : (Nat → Int32)) (mo_helpersOfKind : (Nat → Int32)) (mo_numbers : (Nat → Int32)) (hP : va_P D vwCl (wd_0 cC cI cJ a_mo mo_tasks mo_helpers mo_askedFirst mo_crumbsFirst mo_lastDay a_mo_kinds a_mo_days a_mo_rideDays a_mo_helpKinds a_mo_nexts a_mo_helperKinds a_mo_prices a_mo_helpersOfKind a_mo_numbers a_mo_kinds mo_kinds a_mo_days mo_days a_mo_rideDays mo_rideDays a_mo_helpKinds mo_helpKinds a_mo_nexts mo_nexts a_mo_helperKinds mo_helperKinds a_mo_prices mo_prices a_mo_helpersOfKind mo_helpersOfKind a_mo_numbers mo_numbers) H) : ∀ (n : Nat) (v2 : Int32) (v3 : Int32) (out : Int32), lp_X0_priceOfSet_4 v1 mo_helpers mo_prices n v2 v3 = some out → ∀ (ls : Array Slot), lv_has ls 4 [(0, .ref a_mo), (1, .int v1), (2, .int v2), (3, .int v3)] → (∀ (ls : Array Slot), lv_has ls 4 [(2, .int out)] → W p l e rX0_priceOfSet s m args below meth c H locs 0 0 Q (F0 m 35 ls [])) → W p l e rX0_priceOfSet s m args below meth c H locs 0 0 Q (F0 m 4 ls []) := by
  have hx := S.1
  have hb := S.2.1
  intro n
  induction n with
  | zero => intro v2 v3 out hm; cases (show (none : Option Int32) = some out from hm)
  | succ n ih =>
    intro v2 v3 out hm  ls hl K0
    rw [lp_X0_priceOfSet_4] at hm
    refine lv_iload_n hx hb dX0_priceOfSet_4 rfl (lv_at hl 3 rfl) ?_
    refine lv_aload_n hx hb dX0_priceOfSet_5 rfl (lv_at hl 0 rfl) ?_
    refine f_get S hK hP in_X0_priceOfSet_X0 0 rfl rfl 1 (by decide) (List.mem_of_getElem? (i := 1) rfl) rfl rfl dX0_priceOfSet_6 ?_
    refine lv_icmp_ge (tgt := 35) hx hb dX0_priceOfSet_9 (by decide) (fun c1 => ?_) (fun c1 => ?_)
    · replace hm := ipos hm c1
      obtain rfl := Option.some.inj hm
      exact K0  ls (lv_sub hl [2] rfl)
    · replace hm := ineg hm c1
      refine lv_iload_n hx hb dX0_priceOfSet_12 rfl (lv_at hl 1 rfl) ?_
      refine lv_iload_n hx hb dX0_priceOfSet_13 rfl (lv_at hl 3 rfl) ?_
      obtain ⟨r2, h3, hm⟩ := ob hm
      refine k_rNi S hK hP cal_X5_bit gX0_priceOfSet_X5_bit_n46 (List.mem_of_getElem? (i := 3) rfl) (List.mem_of_getElem? (i := 3) rfl) (List.mem_of_getElem? (i := 2) rfl) (c_X5_bit l D cC cI cJ v3 r2 h3) ⟨⟨rfl, rfl⟩, Nat.le_of_ble_eq_true rfl, Nat.le_of_ble_eq_true rfl⟩ [] rfl rfl hl.1 rfl (Nat.le_of_ble_eq_true rfl) dX0_priceOfSet_14 ⟨Nat.zero_le _, Nat.zero_le _⟩ ?_
      refine lv_iand hx hb dX0_priceOfSet_17 ?_
      refine lv_if_eq (tgt := 29) hx hb dX0_priceOfSet_18 (by decide) (fun c4 => ?_) (fun c4 => ?_)
      · replace hm := ipos hm c4
        refine lv_iinc (v := (v3 + 1)) (lv' := [(3, .int (v3 + 1)), (0, .ref a_mo), (1, .int v1), (2, .int v2)]) hx hb dX0_priceOfSet_29 hl (k := 3) rfl (by rw [ofi_1]) (by decide) rfl (fun ls hl => ?_)
        refine lv_goto (tgt := 4) hx hb dX0_priceOfSet_32 (by decide) ?_
        exact ih v2 (v3 + 1) _ hm  ls (lv_sub hl [1, 2, 3, 0] rfl) K0
      · replace hm := ineg hm c4
        refine lv_iload_n hx hb dX0_priceOfSet_21 rfl (lv_at hl 2 rfl) ?_
        refine lv_aload_n hx hb dX0_priceOfSet_22 rfl (lv_at hl 0 rfl) ?_
        refine lv_iload_n hx hb dX0_priceOfSet_23 rfl (lv_at hl 3 rfl) ?_
        obtain ⟨r5, h6, hm⟩ := ob hm
        refine k_rVi S hK hP cal_X0_priceOf gX0_priceOfSet_X0_priceOf (c_X0_priceOf l D cC cI cJ a_mo a_mo_kinds a_mo_days a_mo_rideDays a_mo_helpKinds a_mo_nexts a_mo_helperKinds a_mo_prices a_mo_helpersOfKind a_mo_numbers mo_tasks mo_helpers mo_askedFirst mo_crumbsFirst mo_lastDay mo_kinds mo_days mo_rideDays mo_helpKinds mo_nexts mo_helperKinds mo_prices mo_helpersOfKind mo_numbers v3 r5 h6) ⟨⟨rfl, rfl⟩, Nat.le_of_ble_eq_true rfl, Nat.le_of_ble_eq_true rfl⟩ [0, 1, 2, 3, 4, 5, 6, 7, 8, 9] rfl 0 rfl rfl rfl hl.1 rfl (Nat.le_of_ble_eq_true rfl) dX0_priceOfSet_24 ⟨Nat.zero_le _, Nat.zero_le _⟩ ?_
        refine lv_iadd hx hb dX0_priceOfSet_27 ?_
        refine lv_istore_n (lv' := [(2, .int (v2 + r5)), (0, .ref a_mo), (1, .int v1), (3, .int v3)]) hx hb dX0_priceOfSet_28 rfl hl (by decide) rfl (fun ls hl => ?_)
        refine lv_iinc (v := (v3 + 1)) (lv' := [(3, .int (v3 + 1)), (2, .int (v2 + r5)), (0, .ref a_mo), (1, .int v1)]) hx hb dX0_priceOfSet_29 hl (k := 3) rfl (by rw [ofi_1]) (by decide) rfl (fun ls hl => ?_)
        refine lv_goto (tgt := 4) hx hb dX0_priceOfSet_32 (by decide) ?_
        exact ih (v2 + r5) (v3 + 1) _ hm  ls (lv_sub hl [2, 3, 1, 0] rfl) K0
set_option maxHeartbeats 4000000 in
set_option maxRecDepth 100000 in
theorem c_X0_priceOfSet (l : Launch) (D : va_G) (cC cI cJ : ClassId) (a_mo : Nat) (a_mo_kinds : Nat) (a_mo_days : Nat) (a_mo_rideDays : Nat) (a_mo_helpKinds : Nat) (a_mo_nexts : Nat) (a_mo_helperKinds : Nat) (a_mo_prices : Nat) (a_mo_helpersOfKind : Nat) (a_mo_numbers : Nat) (mo_tasks : Int32) (mo_helpers : Int32) (mo_askedFirst : Int32) (mo_crumbsFirst : Int32) (mo_lastDay : Int32) (mo_kinds : (Nat → Int32)) (mo_days : (Nat → Int32)) (mo_rideDays : (Nat → Int32)) (mo_helpKinds : (Nat → Int32)) (mo_nexts : (Nat → Int32)) (mo_helperKinds : (Nat → Int32)) (mo_prices : (Nat → Int32)) (mo_helpersOfKind : (Nat → Int32)) (mo_numbers : (Nat → Int32)) (p0 : Int32) (N : Nat) (out : Int32) (hm : m_X0_priceOfSet N mo_helpers mo_prices p0 = some out) : RdI l yX0_priceOfSet wsX0_priceOfSet rX0_priceOfSet D (tyK cC cI cJ) [.ref a_mo, .int p0] (wd_0 cC cI cJ a_mo mo_tasks mo_helpers mo_askedFirst mo_crumbsFirst mo_lastDay a_mo_kinds a_mo_days a_mo_rideDays a_mo_helpKinds a_mo_nexts a_mo_helperKinds a_mo_prices a_mo_helpersOfKind a_mo_numbers a_mo_kinds mo_kinds a_mo_days mo_days a_mo_rideDays mo_rideDays a_mo_helpKinds mo_helpKinds a_mo_nexts mo_nexts a_mo_helperKinds mo_helperKinds a_mo_prices mo_prices a_mo_helpersOfKind mo_helpersOfKind a_mo_numbers mo_numbers) out := by
  unfold m_X0_priceOfSet at hm
  refine enter (cc := cX0_priceOfSet) (maxL := 4) (ret := (some .int)) (lv := [(0, .ref a_mo), (1, .int p0)]) (by decide) rfl (Nat.le_of_ble_eq_true rfl) rfl ?_
  intro p e s m args below meth c S hr hlk hK hP ls hl
  replace S : CallFix p m c cX0_priceOfSet 4 s args wsX0_priceOfSet RX0 := S
  have hx := S.1
  have hb := S.2.1
  refine lv_iconst (v := 0) hx hb dX0_priceOfSet_0 (by decide) ?_
  refine lv_istore_n (lv' := [(2, .int (0 : Int32)), (0, .ref a_mo), (1, .int p0)]) hx hb dX0_priceOfSet_1 rfl hl (by decide) rfl (fun ls hl => ?_)
  refine lv_iconst (v := 0) hx hb dX0_priceOfSet_2 (by decide) ?_
  refine lv_istore_n (lv' := [(3, .int (0 : Int32)), (2, .int (0 : Int32)), (0, .ref a_mo), (1, .int p0)]) hx hb dX0_priceOfSet_3 rfl hl (by decide) rfl (fun ls hl => ?_)
  obtain ⟨r7, h8, hm⟩ := ob hm
  refine t_X0_priceOfSet_4 l S hK a_mo a_mo_kinds a_mo_days a_mo_rideDays a_mo_helpKinds a_mo_nexts a_mo_helperKinds a_mo_prices a_mo_helpersOfKind a_mo_numbers p0 mo_tasks mo_helpers mo_askedFirst mo_crumbsFirst mo_lastDay mo_kinds mo_days mo_rideDays mo_helpKinds mo_nexts mo_helperKinds mo_prices mo_helpersOfKind mo_numbers hP N (0 : Int32) (0 : Int32) r7 h8  ls (lv_sub hl [2, 3, 1, 0] rfl) (fun ls hl => ?_)
  refine lv_iload_n hx hb dX0_priceOfSet_35 rfl (lv_at hl 0 rfl) ?_
  exact e_RI S hr hlk (Option.some.inj hm) dX0_priceOfSet_36

abbrev rX0_readNumber : Room := { frames := 1, cells := 0, slots := 0, locals := 22 }
theorem cal_X0_readNumber : Cal yX0_readNumber wsX0_readNumber cX0_readNumber 5 (some .int) RX0 4 := ⟨⟨_, rfl⟩, rfl, by decide +kernel, by decide +kernel, by decide +kernel⟩
set_option maxHeartbeats 4000000 in
set_option maxRecDepth 100000 in
theorem c_X0_readNumber (l : Launch) (D : va_G) (cC cI cJ : ClassId) (a_tx : Nat) (tx_len : Nat) (tx : (Nat → Int32)) (p1 : Int32) (p2 : Int32) (p3 : Int32) (out : Int32) (hm : m_X0_readNumber tx_len tx p1 p2 p3 = some out) : RdI l yX0_readNumber wsX0_readNumber rX0_readNumber D (tyK cC cI cJ) [.ref a_tx, .int p1, .int p2, .int p3] (wd_2 cC cI cJ a_tx tx_len tx) out := by
  unfold m_X0_readNumber at hm
  refine enter (cc := cX0_readNumber) (maxL := 5) (ret := (some .int)) (lv := [(0, .ref a_tx), (1, .int p1), (2, .int p2), (3, .int p3)]) (by decide) rfl (Nat.le_of_ble_eq_true rfl) rfl ?_
  intro p e s m args below meth c S hr hlk hK hP ls hl
  replace S : CallFix p m c cX0_readNumber 5 s args wsX0_readNumber RX0 := S
  have hx := S.1
  have hb := S.2.1
  refine lv_aload_n hx hb dX0_readNumber_0 rfl (lv_at hl 0 rfl) ?_
  refine lv_iload_n hx hb dX0_readNumber_1 rfl (lv_at hl 1 rfl) ?_
  refine lv_iload_n hx hb dX0_readNumber_2 rfl (lv_at hl 2 rfl) ?_
  obtain ⟨r1, h2, hm⟩ := ob hm
  refine k_rSi S hK hP cal_X0_letterAt gX0_readNumber_X0_letterAt (c_X0_letterAt l D cC cI cJ a_tx tx_len tx p1 p2 r1 h2) ⟨⟨rfl, rfl⟩, Nat.le_of_ble_eq_true rfl, Nat.le_of_ble_eq_true rfl⟩ [0] rfl rfl hl.1 rfl (Nat.le_of_ble_eq_true rfl) dX0_readNumber_3 ⟨Nat.zero_le _, Nat.zero_le _⟩ ?_
  refine lv_bipush (v := 48) hx hb dX0_readNumber_6 (by decide) ?_
  refine lv_isub hx hb dX0_readNumber_8 ?_
  refine lv_istore (lv' := [(4, .int (r1 - (48 : Int32))), (0, .ref a_tx), (1, .int p1), (2, .int p2), (3, .int p3)]) hx hb dX0_readNumber_9 hl (by decide) rfl (fun ls hl => ?_)
  refine lv_iload_n hx hb dX0_readNumber_11 rfl (lv_at hl 4 rfl) ?_
  refine lv_iconst (v := 1) hx hb dX0_readNumber_12 (by decide) ?_
  refine lv_icmp_ne (tgt := 21) hx hb dX0_readNumber_13 (by decide) (fun c3 => ?_) (fun c3 => ?_)
  · replace hm := ineg hm c3
    refine lv_iload hx hb dX0_readNumber_21 (lv_at hl 0 rfl) ?_
    refine lv_bipush (v := 10) hx hb dX0_readNumber_23 (by decide) ?_
    refine lv_imul hx hb dX0_readNumber_25 ?_
    refine lv_aload_n hx hb dX0_readNumber_26 rfl (lv_at hl 1 rfl) ?_
    refine lv_iload_n hx hb dX0_readNumber_27 rfl (lv_at hl 2 rfl) ?_
    refine lv_iload_n hx hb dX0_readNumber_28 rfl (lv_at hl 3 rfl) ?_
    refine lv_iconst (v := 1) hx hb dX0_readNumber_29 (by decide) ?_
    refine lv_iadd hx hb dX0_readNumber_30 ?_
    obtain ⟨r4, h5, hm⟩ := ob hm
    refine k_rSi S hK hP cal_X0_letterAt gX0_readNumber_X0_letterAt (c_X0_letterAt l D cC cI cJ a_tx tx_len tx p1 (p2 + (1 : Int32)) r4 h5) ⟨⟨rfl, rfl⟩, Nat.le_of_ble_eq_true rfl, Nat.le_of_ble_eq_true rfl⟩ [0] rfl rfl hl.1 rfl (Nat.le_of_ble_eq_true rfl) dX0_readNumber_31 ⟨Nat.zero_le _, Nat.zero_le _⟩ ?_
    refine lv_iadd hx hb dX0_readNumber_34 ?_
    refine lv_bipush (v := 48) hx hb dX0_readNumber_35 (by decide) ?_
    refine lv_isub hx hb dX0_readNumber_37 ?_
    exact e_RI S hr hlk (Option.some.inj hm) dX0_readNumber_38
  · replace hm := ipos hm c3
    refine lv_iload hx hb dX0_readNumber_16 (lv_at hl 0 rfl) ?_
    refine lv_goto (tgt := 38) hx hb dX0_readNumber_18 (by decide) ?_
    exact e_RI S hr hlk (Option.some.inj hm) dX0_readNumber_38

abbrev rX5_numberAt : Room := { frames := 0, cells := 0, slots := 0, locals := 0 }
theorem cal_X5_numberAt : Cal yX5_numberAt wsX5_numberAt cX5_numberAt 2 (some .int) RX5 2 := ⟨⟨_, rfl⟩, rfl, by decide +kernel, by decide +kernel, by decide +kernel⟩
set_option maxHeartbeats 4000000 in
set_option maxRecDepth 100000 in
theorem c_X5_numberAt (l : Launch) (D : va_G) (cC cI cJ : ClassId) (a_row : Nat) (row_len : Nat) (row : (Nat → Int32)) (p1 : Int32) (out : Int32) (hm : m_X5_numberAt row_len row p1 = some out) : RdI l yX5_numberAt wsX5_numberAt rX5_numberAt D (tyK cC cI cJ) [.ref a_row, .int p1] (wd_1 cC cI cJ a_row row_len row) out := by
  unfold m_X5_numberAt at hm
  refine enter (cc := cX5_numberAt) (maxL := 2) (ret := (some .int)) (lv := [(0, .ref a_row), (1, .int p1)]) (by decide) rfl (Nat.le_of_ble_eq_true rfl) rfl ?_
  intro p e s m args below meth c S hr hlk hK hP ls hl
  replace S : CallFix p m c cX5_numberAt 2 s args wsX5_numberAt RX5 := S
  have hx := S.1
  have hb := S.2.1
  refine lv_iload_n hx hb dX5_numberAt_0 rfl (lv_at hl 1 rfl) ?_
  refine lv_if_lt (tgt := 16) hx hb dX5_numberAt_1 (by decide) (fun c1 => ?_) (fun c1 => ?_)
  · replace hm := ipos hm c1
    refine lv_iconst (v := 0) hx hb dX5_numberAt_16 (by decide) ?_
    exact e_RI S hr hlk (Option.some.inj hm) dX5_numberAt_17
  · replace hm := ineg hm c1
    refine lv_iload_n hx hb dX5_numberAt_4 rfl (lv_at hl 1 rfl) ?_
    refine lv_aload_n hx hb dX5_numberAt_5 rfl (lv_at hl 0 rfl) ?_
    refine f_alen S hK hP 0 1 rfl rfl (v := (Int32.ofNat row_len)) rfl dX5_numberAt_6 ?_
    refine lv_icmp_ge (tgt := 16) hx hb dX5_numberAt_7 (by decide) (fun c2 => ?_) (fun c2 => ?_)
    · replace hm := ipos hm c2
      refine lv_iconst (v := 0) hx hb dX5_numberAt_16 (by decide) ?_
      exact e_RI S hr hlk (Option.some.inj hm) dX5_numberAt_17
    · replace hm := ineg hm c2
      refine lv_aload_n hx hb dX5_numberAt_10 rfl (lv_at hl 0 rfl) ?_
      refine lv_iload_n hx hb dX5_numberAt_11 rfl (lv_at hl 1 rfl) ?_
      obtain ⟨g3, hm⟩ := gdo hm
      refine f_iald S hK hP 0 1 rfl rfl g3 dX5_numberAt_12 ?_
      refine lv_goto (tgt := 17) hx hb dX5_numberAt_13 (by decide) ?_
      exact e_RI S hr hlk (Option.some.inj hm) dX5_numberAt_17

abbrev rX0_takeHelper : Room := { frames := 1, cells := 0, slots := 0, locals := 22 }
theorem cal_X0_takeHelper : Cal yX0_takeHelper wsX0_takeHelper cX0_takeHelper 3 (some .boolean) RX0 0 := ⟨⟨_, rfl⟩, rfl, by decide +kernel, by decide +kernel, by decide +kernel⟩
theorem in_X0_takeHelper_X0 : ∀ w ∈ wsX00, w ∈ wsX0_takeHelper := fun _ h => (List.mem_cons_of_mem _ (List.mem_append_right _ h))
set_option maxHeartbeats 4000000 in
set_option maxRecDepth 100000 in
theorem c_X0_takeHelper (l : Launch) (D : va_G) (cC cI cJ : ClassId) (a_mo : Nat) (a_mo_kinds : Nat) (a_mo_days : Nat) (a_mo_rideDays : Nat) (a_mo_helpKinds : Nat) (a_mo_nexts : Nat) (a_mo_helperKinds : Nat) (a_mo_prices : Nat) (a_mo_helpersOfKind : Nat) (a_mo_numbers : Nat) (mo_tasks : Int32) (mo_helpers : Int32) (mo_askedFirst : Int32) (mo_crumbsFirst : Int32) (mo_lastDay : Int32) (mo_kinds : (Nat → Int32)) (mo_days : (Nat → Int32)) (mo_rideDays : (Nat → Int32)) (mo_helpKinds : (Nat → Int32)) (mo_nexts : (Nat → Int32)) (mo_helperKinds : (Nat → Int32)) (mo_prices : (Nat → Int32)) (mo_helpersOfKind : (Nat → Int32)) (mo_numbers : (Nat → Int32)) (A : Nat → Prop) (hD : va_D A (wd_0 cC cI cJ a_mo mo_tasks mo_helpers mo_askedFirst mo_crumbsFirst mo_lastDay a_mo_kinds a_mo_days a_mo_rideDays a_mo_helpKinds a_mo_nexts a_mo_helperKinds a_mo_prices a_mo_helpersOfKind a_mo_numbers a_mo_kinds mo_kinds a_mo_days mo_days a_mo_rideDays mo_rideDays a_mo_helpKinds mo_helpKinds a_mo_nexts mo_nexts a_mo_helperKinds mo_helperKinds a_mo_prices mo_prices a_mo_helpersOfKind mo_helpersOfKind a_mo_numbers mo_numbers)) (out : (Int32 × Int32 × (Nat → Int32) × (Nat → Int32) × (Nat → Int32))) (hm : m_X0_takeHelper mo_helpers mo_helperKinds mo_prices mo_helpersOfKind mo_numbers = some out) : WrI l yX0_takeHelper wsX0_takeHelper rX0_takeHelper D (tyK cC cI cJ) [.ref a_mo] A (wd_0 cC cI cJ a_mo mo_tasks mo_helpers mo_askedFirst mo_crumbsFirst mo_lastDay a_mo_kinds a_mo_days a_mo_rideDays a_mo_helpKinds a_mo_nexts a_mo_helperKinds a_mo_prices a_mo_helpersOfKind a_mo_numbers a_mo_kinds mo_kinds a_mo_days mo_days a_mo_rideDays mo_rideDays a_mo_helpKinds mo_helpKinds a_mo_nexts mo_nexts a_mo_helperKinds mo_helperKinds a_mo_prices mo_prices a_mo_helpersOfKind mo_helpersOfKind a_mo_numbers mo_numbers) (Bw0 D (wd_0 cC cI cJ a_mo mo_tasks out.2.1 mo_askedFirst mo_crumbsFirst mo_lastDay a_mo_kinds a_mo_days a_mo_rideDays a_mo_helpKinds a_mo_nexts a_mo_helperKinds a_mo_prices a_mo_helpersOfKind a_mo_numbers a_mo_kinds mo_kinds a_mo_days mo_days a_mo_rideDays mo_rideDays a_mo_helpKinds mo_helpKinds a_mo_nexts mo_nexts a_mo_helperKinds out.2.2.1 a_mo_prices out.2.2.2.1 a_mo_helpersOfKind out.2.2.2.2 a_mo_numbers mo_numbers)) out.1 := by
  unfold m_X0_takeHelper at hm
  refine enter (cc := cX0_takeHelper) (maxL := 3) (ret := (some .boolean)) (lv := [(0, .ref a_mo)]) (by decide) rfl (Nat.le_of_ble_eq_true rfl) rfl ?_
  intro p e s m args below meth c S hr hlk hK hP ls hl
  replace S : CallFix p m c cX0_takeHelper 3 s args wsX0_takeHelper RX0 := S
  have hx := S.1
  have hb := S.2.1
  have hw : Wd D A s.heap (wd_0 cC cI cJ a_mo mo_tasks mo_helpers mo_askedFirst mo_crumbsFirst mo_lastDay a_mo_kinds a_mo_days a_mo_rideDays a_mo_helpKinds a_mo_nexts a_mo_helperKinds a_mo_prices a_mo_helpersOfKind a_mo_numbers a_mo_kinds mo_kinds a_mo_days mo_days a_mo_rideDays mo_rideDays a_mo_helpKinds mo_helpKinds a_mo_nexts mo_nexts a_mo_helperKinds mo_helperKinds a_mo_prices mo_prices a_mo_helpersOfKind mo_helpersOfKind a_mo_numbers mo_numbers) s.heap [] := ⟨hP, hD, va_S.rf⟩
  have hw0 := hw
  refine lv_aload_n hx hb dX0_takeHelper_0 rfl (lv_at hl 0 rfl) ?_
  refine f_get S hK hw.1 in_X0_takeHelper_X0 0 rfl rfl 13 (by decide) (List.mem_of_getElem? (i := 1) rfl) rfl rfl dX0_takeHelper_1 ?_
  refine lv_iconst (v := 0) hx hb dX0_takeHelper_4 (by decide) ?_
  obtain ⟨r1, h2, hm⟩ := ob hm
  refine k_rNi S hK hw.1 cal_X5_numberAt gX0_takeHelper_X5_numberAt_n123 (List.mem_of_getElem? (i := 2) rfl) (List.mem_of_getElem? (i := 7) rfl) (List.mem_of_getElem? (i := 6) rfl) (c_X5_numberAt l D cC cI cJ a_mo_numbers 4 mo_numbers (0 : Int32) r1 h2) ⟨⟨rfl, rfl⟩, Nat.le_of_ble_eq_true rfl, Nat.le_of_ble_eq_true rfl⟩ [9] rfl rfl hl.1 rfl (Nat.le_of_ble_eq_true rfl) dX0_takeHelper_5 ⟨Nat.zero_le _, Nat.zero_le _⟩ ?_
  refine lv_istore_n (lv' := [(1, .int r1), (0, .ref a_mo)]) hx hb dX0_takeHelper_8 rfl hl (by decide) rfl (fun ls hl => ?_)
  refine lv_aload_n hx hb dX0_takeHelper_9 rfl (lv_at hl 1 rfl) ?_
  refine f_get S hK hw.1 in_X0_takeHelper_X0 0 rfl rfl 13 (by decide) (List.mem_of_getElem? (i := 1) rfl) rfl rfl dX0_takeHelper_10 ?_
  refine lv_iconst (v := 1) hx hb dX0_takeHelper_13 (by decide) ?_
  obtain ⟨r3, h4, hm⟩ := ob hm
  refine k_rNi S hK hw.1 cal_X5_numberAt gX0_takeHelper_X5_numberAt_n123 (List.mem_of_getElem? (i := 2) rfl) (List.mem_of_getElem? (i := 7) rfl) (List.mem_of_getElem? (i := 6) rfl) (c_X5_numberAt l D cC cI cJ a_mo_numbers 4 mo_numbers (1 : Int32) r3 h4) ⟨⟨rfl, rfl⟩, Nat.le_of_ble_eq_true rfl, Nat.le_of_ble_eq_true rfl⟩ [9] rfl rfl hl.1 rfl (Nat.le_of_ble_eq_true rfl) dX0_takeHelper_14 ⟨Nat.zero_le _, Nat.zero_le _⟩ ?_
  refine lv_istore_n (lv' := [(2, .int r3), (1, .int r1), (0, .ref a_mo)]) hx hb dX0_takeHelper_17 rfl hl (by decide) rfl (fun ls hl => ?_)
  refine lv_aload_n hx hb dX0_takeHelper_18 rfl (lv_at hl 2 rfl) ?_
  refine f_get S hK hw.1 in_X0_takeHelper_X0 0 rfl rfl 1 (by decide) (List.mem_of_getElem? (i := 2) rfl) rfl rfl dX0_takeHelper_19 ?_
  refine lv_bipush (v := 7) hx hb dX0_takeHelper_22 (by decide) ?_
  refine lv_icmp_ge (tgt := 38) hx hb dX0_takeHelper_24 (by decide) (fun c5 => ?_) (fun c5 => ?_)
  · replace hm := ipos hm c5
    refine lv_iconst (v := 0) hx hb dX0_takeHelper_38 (by decide) ?_
    obtain rfl := Option.some.inj hm
    exact e_WZ S hr hlk hw (Or.inl rfl) rfl hw.1 dX0_takeHelper_39
  · replace hm := ineg hm c5
    refine lv_iload_n hx hb dX0_takeHelper_27 rfl (lv_at hl 1 rfl) ?_
    refine lv_iconst (v := 5) hx hb dX0_takeHelper_28 (by decide) ?_
    refine lv_icmp_ge (tgt := 38) hx hb dX0_takeHelper_29 (by decide) (fun c6 => ?_) (fun c6 => ?_)
    · replace hm := ipos hm c6
      refine lv_iconst (v := 0) hx hb dX0_takeHelper_38 (by decide) ?_
      obtain rfl := Option.some.inj hm
      exact e_WZ S hr hlk hw (Or.inl rfl) rfl hw.1 dX0_takeHelper_39
    · replace hm := ineg hm c6
      refine lv_iload_n hx hb dX0_takeHelper_32 rfl (lv_at hl 0 rfl) ?_
      refine lv_bipush (v := 20) hx hb dX0_takeHelper_33 (by decide) ?_
      refine lv_icmp_le (tgt := 40) hx hb dX0_takeHelper_35 (by decide) (fun c7 => ?_) (fun c7 => ?_)
      · replace hm := ipos hm c7
        refine lv_aload_n hx hb dX0_takeHelper_40 rfl (lv_at hl 2 rfl) ?_
        refine f_get S hK hw.1 in_X0_takeHelper_X0 0 rfl rfl 10 (by decide) (List.mem_of_getElem? (i := 3) rfl) rfl rfl dX0_takeHelper_41 ?_
        refine lv_aload_n hx hb dX0_takeHelper_44 rfl (lv_at hl 2 rfl) ?_
        refine f_get S hK hw.1 in_X0_takeHelper_X0 0 rfl rfl 1 (by decide) (List.mem_of_getElem? (i := 2) rfl) rfl rfl dX0_takeHelper_45 ?_
        refine lv_iload_n hx hb dX0_takeHelper_48 rfl (lv_at hl 1 rfl) ?_
        obtain ⟨r8, h9, hm⟩ := ob hm
        refine k_wNv S hK hw cal_X5_setNumber gX0_takeHelper_X5_setNumber_n100 (List.mem_of_getElem? (i := 1) rfl) (List.mem_of_getElem? (i := 7) rfl) (List.mem_of_getElem? (i := 9) rfl) (c_X5_setNumber l D cC cI cJ a_mo_helperKinds 7 mo_helperKinds mo_helpers r1 (aw _) (hw.own [6] (by decide) rfl) r8 h9) ⟨⟨rfl, rfl⟩, Nat.le_of_ble_eq_true rfl, Nat.le_of_ble_eq_true rfl⟩ [6] rfl rfl hl.1 rfl (Nat.le_of_ble_eq_true rfl) dX0_takeHelper_49 ⟨Nat.zero_le _, Nat.zero_le _⟩ (fun H locs hJ hB => ?_)
        have hw := hJ _ hB rfl
        replace hw : Wd D A _ (wd_0 cC cI cJ a_mo mo_tasks mo_helpers mo_askedFirst mo_crumbsFirst mo_lastDay a_mo_kinds a_mo_days a_mo_rideDays a_mo_helpKinds a_mo_nexts a_mo_helperKinds a_mo_prices a_mo_helpersOfKind a_mo_numbers a_mo_kinds mo_kinds a_mo_days mo_days a_mo_rideDays mo_rideDays a_mo_helpKinds mo_helpKinds a_mo_nexts mo_nexts a_mo_helperKinds r8 a_mo_prices mo_prices a_mo_helpersOfKind mo_helpersOfKind a_mo_numbers mo_numbers) H locs := hw
        refine lv_aload_n hx hb dX0_takeHelper_52 rfl (lv_at hl 2 rfl) ?_
        refine f_get S hK hw.1 in_X0_takeHelper_X0 0 rfl rfl 11 (by decide) (List.mem_of_getElem? (i := 4) rfl) rfl rfl dX0_takeHelper_53 ?_
        refine lv_aload_n hx hb dX0_takeHelper_56 rfl (lv_at hl 2 rfl) ?_
        refine f_get S hK hw.1 in_X0_takeHelper_X0 0 rfl rfl 1 (by decide) (List.mem_of_getElem? (i := 2) rfl) rfl rfl dX0_takeHelper_57 ?_
        refine lv_iload_n hx hb dX0_takeHelper_60 rfl (lv_at hl 0 rfl) ?_
        obtain ⟨r10, h11, hm⟩ := ob hm
        refine k_wNv S hK hw cal_X5_setNumber gX0_takeHelper_X5_setNumber_n100 (List.mem_of_getElem? (i := 1) rfl) (List.mem_of_getElem? (i := 7) rfl) (List.mem_of_getElem? (i := 9) rfl) (c_X5_setNumber l D cC cI cJ a_mo_prices 7 mo_prices mo_helpers r3 (aw _) (hw.own [7] (by decide) rfl) r10 h11) ⟨⟨rfl, rfl⟩, Nat.le_of_ble_eq_true rfl, Nat.le_of_ble_eq_true rfl⟩ [7] rfl rfl hl.1 rfl (Nat.le_of_ble_eq_true rfl) dX0_takeHelper_61 ⟨Nat.zero_le _, Nat.zero_le _⟩ (fun H locs hJ hB => ?_)
        have hw := hJ _ hB rfl
        replace hw : Wd D A _ (wd_0 cC cI cJ a_mo mo_tasks mo_helpers mo_askedFirst mo_crumbsFirst mo_lastDay a_mo_kinds a_mo_days a_mo_rideDays a_mo_helpKinds a_mo_nexts a_mo_helperKinds a_mo_prices a_mo_helpersOfKind a_mo_numbers a_mo_kinds mo_kinds a_mo_days mo_days a_mo_rideDays mo_rideDays a_mo_helpKinds mo_helpKinds a_mo_nexts mo_nexts a_mo_helperKinds r8 a_mo_prices r10 a_mo_helpersOfKind mo_helpersOfKind a_mo_numbers mo_numbers) H locs := hw
        refine lv_aload_n hx hb dX0_takeHelper_64 rfl (lv_at hl 2 rfl) ?_
        refine f_get S hK hw.1 in_X0_takeHelper_X0 0 rfl rfl 12 (by decide) (List.mem_of_getElem? (i := 5) rfl) rfl rfl dX0_takeHelper_65 ?_
        refine lv_iload_n hx hb dX0_takeHelper_68 rfl (lv_at hl 1 rfl) ?_
        refine lv_aload_n hx hb dX0_takeHelper_69 rfl (lv_at hl 2 rfl) ?_
        refine lv_iload_n hx hb dX0_takeHelper_70 rfl (lv_at hl 1 rfl) ?_
        obtain ⟨r12, h13, hm⟩ := ob hm
        refine k_rVi S hK hw.1 cal_X0_helpersOf gX0_takeHelper_X0_helpersOf (c_X0_helpersOf l D cC cI cJ a_mo a_mo_kinds a_mo_days a_mo_rideDays a_mo_helpKinds a_mo_nexts a_mo_helperKinds a_mo_prices a_mo_helpersOfKind a_mo_numbers mo_tasks mo_helpers mo_askedFirst mo_crumbsFirst mo_lastDay mo_kinds mo_days mo_rideDays mo_helpKinds mo_nexts r8 r10 mo_helpersOfKind mo_numbers r1 r12 h13) ⟨⟨rfl, rfl⟩, Nat.le_of_ble_eq_true rfl, Nat.le_of_ble_eq_true rfl⟩ [0, 1, 2, 3, 4, 5, 6, 7, 8, 9] rfl 0 rfl rfl rfl hl.1 rfl (Nat.le_of_ble_eq_true rfl) dX0_takeHelper_71 ⟨Nat.zero_le _, Nat.zero_le _⟩ ?_
        refine lv_aload_n hx hb dX0_takeHelper_74 rfl (lv_at hl 2 rfl) ?_
        refine f_get S hK hw.1 in_X0_takeHelper_X0 0 rfl rfl 1 (by decide) (List.mem_of_getElem? (i := 2) rfl) rfl rfl dX0_takeHelper_75 ?_
        obtain ⟨r14, h15, hm⟩ := ob hm
        refine k_rNi S hK hw.1 cal_X5_bit gX0_takeHelper_X5_bit_n46 (List.mem_of_getElem? (i := 3) rfl) (List.mem_of_getElem? (i := 7) rfl) (List.mem_of_getElem? (i := 16) rfl) (c_X5_bit l D cC cI cJ mo_helpers r14 h15) ⟨⟨rfl, rfl⟩, Nat.le_of_ble_eq_true rfl, Nat.le_of_ble_eq_true rfl⟩ [] rfl rfl hl.1 rfl (Nat.le_of_ble_eq_true rfl) dX0_takeHelper_78 ⟨Nat.zero_le _, Nat.zero_le _⟩ ?_
        refine lv_ior hx hb dX0_takeHelper_81 ?_
        obtain ⟨r16, h17, hm⟩ := ob hm
        refine k_wNv S hK hw cal_X5_setNumber gX0_takeHelper_X5_setNumber_n100 (List.mem_of_getElem? (i := 1) rfl) (List.mem_of_getElem? (i := 7) rfl) (List.mem_of_getElem? (i := 9) rfl) (c_X5_setNumber l D cC cI cJ a_mo_helpersOfKind 5 mo_helpersOfKind r1 (r12 ||| r14) (aw _) (hw.own [8] (by decide) rfl) r16 h17) ⟨⟨rfl, rfl⟩, Nat.le_of_ble_eq_true rfl, Nat.le_of_ble_eq_true rfl⟩ [8] rfl rfl hl.1 rfl (Nat.le_of_ble_eq_true rfl) dX0_takeHelper_82 ⟨Nat.zero_le _, Nat.zero_le _⟩ (fun H locs hJ hB => ?_)
        have hw := hJ _ hB rfl
        replace hw : Wd D A _ (wd_0 cC cI cJ a_mo mo_tasks mo_helpers mo_askedFirst mo_crumbsFirst mo_lastDay a_mo_kinds a_mo_days a_mo_rideDays a_mo_helpKinds a_mo_nexts a_mo_helperKinds a_mo_prices a_mo_helpersOfKind a_mo_numbers a_mo_kinds mo_kinds a_mo_days mo_days a_mo_rideDays mo_rideDays a_mo_helpKinds mo_helpKinds a_mo_nexts mo_nexts a_mo_helperKinds r8 a_mo_prices r10 a_mo_helpersOfKind r16 a_mo_numbers mo_numbers) H locs := hw
        refine lv_aload_n hx hb dX0_takeHelper_85 rfl (lv_at hl 2 rfl) ?_
        refine lv_dup hx hb dX0_takeHelper_86 rfl ?_
        refine f_get S hK hw.1 in_X0_takeHelper_X0 0 rfl rfl 1 (by decide) (List.mem_of_getElem? (i := 2) rfl) rfl rfl dX0_takeHelper_87 ?_
        refine lv_iconst (v := 1) hx hb dX0_takeHelper_90 (by decide) ?_
        refine lv_iadd hx hb dX0_takeHelper_91 ?_
        refine f_put S hK hw in_X0_takeHelper_X0 tyX0_ok nmX0 0 rfl rfl 1 (by decide) (List.mem_of_getElem? (i := 2) rfl) rfl rfl rfl rfl (Nat.le_of_ble_eq_true rfl) (ws1 := (wd_0 cC cI cJ a_mo mo_tasks (mo_helpers + (1 : Int32)) mo_askedFirst mo_crumbsFirst mo_lastDay a_mo_kinds a_mo_days a_mo_rideDays a_mo_helpKinds a_mo_nexts a_mo_helperKinds a_mo_prices a_mo_helpersOfKind a_mo_numbers a_mo_kinds mo_kinds a_mo_days mo_days a_mo_rideDays mo_rideDays a_mo_helpKinds mo_helpKinds a_mo_nexts mo_nexts a_mo_helperKinds r8 a_mo_prices r10 a_mo_helpersOfKind r16 a_mo_numbers mo_numbers)) rfl dX0_takeHelper_92 (fun H locs hw => ?_)
        refine lv_iconst (v := 1) hx hb dX0_takeHelper_95 (by decide) ?_
        obtain rfl := Option.some.inj hm
        exact e_WZ S hr hlk hw (Or.inr rfl) rfl hw.1 dX0_takeHelper_96
      · replace hm := ineg hm c7
        refine lv_iconst (v := 0) hx hb dX0_takeHelper_38 (by decide) ?_
        obtain rfl := Option.some.inj hm
        exact e_WZ S hr hlk hw (Or.inl rfl) rfl hw.1 dX0_takeHelper_39

abbrev rX0_takeTask : Room := { frames := 1, cells := 0, slots := 0, locals := 22 }
theorem cal_X0_takeTask : Cal yX0_takeTask wsX0_takeTask cX0_takeTask 5 (some .boolean) RX0 0 := ⟨⟨_, rfl⟩, rfl, by decide +kernel, by decide +kernel, by decide +kernel⟩
theorem in_X0_takeTask_X0 : ∀ w ∈ wsX00, w ∈ wsX0_takeTask := fun _ h => (List.mem_cons_of_mem _ (List.mem_append_right _ h))
set_option maxHeartbeats 4000000 in
set_option maxRecDepth 100000 in
theorem c_X0_takeTask (l : Launch) (D : va_G) (cC cI cJ : ClassId) (a_mo : Nat) (a_mo_kinds : Nat) (a_mo_days : Nat) (a_mo_rideDays : Nat) (a_mo_helpKinds : Nat) (a_mo_nexts : Nat) (a_mo_helperKinds : Nat) (a_mo_prices : Nat) (a_mo_helpersOfKind : Nat) (a_mo_numbers : Nat) (mo_tasks : Int32) (mo_helpers : Int32) (mo_askedFirst : Int32) (mo_crumbsFirst : Int32) (mo_lastDay : Int32) (mo_kinds : (Nat → Int32)) (mo_days : (Nat → Int32)) (mo_rideDays : (Nat → Int32)) (mo_helpKinds : (Nat → Int32)) (mo_nexts : (Nat → Int32)) (mo_helperKinds : (Nat → Int32)) (mo_prices : (Nat → Int32)) (mo_helpersOfKind : (Nat → Int32)) (mo_numbers : (Nat → Int32)) (A : Nat → Prop) (hD : va_D A (wd_0 cC cI cJ a_mo mo_tasks mo_helpers mo_askedFirst mo_crumbsFirst mo_lastDay a_mo_kinds a_mo_days a_mo_rideDays a_mo_helpKinds a_mo_nexts a_mo_helperKinds a_mo_prices a_mo_helpersOfKind a_mo_numbers a_mo_kinds mo_kinds a_mo_days mo_days a_mo_rideDays mo_rideDays a_mo_helpKinds mo_helpKinds a_mo_nexts mo_nexts a_mo_helperKinds mo_helperKinds a_mo_prices mo_prices a_mo_helpersOfKind mo_helpersOfKind a_mo_numbers mo_numbers)) (out : (Int32 × Int32 × (Nat → Int32) × (Nat → Int32) × (Nat → Int32) × (Nat → Int32) × (Nat → Int32))) (hm : m_X0_takeTask mo_tasks mo_kinds mo_days mo_rideDays mo_helpKinds mo_nexts mo_numbers = some out) : WrI l yX0_takeTask wsX0_takeTask rX0_takeTask D (tyK cC cI cJ) [.ref a_mo] A (wd_0 cC cI cJ a_mo mo_tasks mo_helpers mo_askedFirst mo_crumbsFirst mo_lastDay a_mo_kinds a_mo_days a_mo_rideDays a_mo_helpKinds a_mo_nexts a_mo_helperKinds a_mo_prices a_mo_helpersOfKind a_mo_numbers a_mo_kinds mo_kinds a_mo_days mo_days a_mo_rideDays mo_rideDays a_mo_helpKinds mo_helpKinds a_mo_nexts mo_nexts a_mo_helperKinds mo_helperKinds a_mo_prices mo_prices a_mo_helpersOfKind mo_helpersOfKind a_mo_numbers mo_numbers) (Bw0 D (wd_0 cC cI cJ a_mo out.2.1 mo_helpers mo_askedFirst mo_crumbsFirst mo_lastDay a_mo_kinds a_mo_days a_mo_rideDays a_mo_helpKinds a_mo_nexts a_mo_helperKinds a_mo_prices a_mo_helpersOfKind a_mo_numbers a_mo_kinds out.2.2.1 a_mo_days out.2.2.2.1 a_mo_rideDays out.2.2.2.2.1 a_mo_helpKinds out.2.2.2.2.2.1 a_mo_nexts out.2.2.2.2.2.2 a_mo_helperKinds mo_helperKinds a_mo_prices mo_prices a_mo_helpersOfKind mo_helpersOfKind a_mo_numbers mo_numbers)) out.1 := by
  unfold m_X0_takeTask at hm
  refine enter (cc := cX0_takeTask) (maxL := 5) (ret := (some .boolean)) (lv := [(0, .ref a_mo)]) (by decide) rfl (Nat.le_of_ble_eq_true rfl) rfl ?_
  intro p e s m args below meth c S hr hlk hK hP ls hl
  replace S : CallFix p m c cX0_takeTask 5 s args wsX0_takeTask RX0 := S
  have hx := S.1
  have hb := S.2.1
  have hw : Wd D A s.heap (wd_0 cC cI cJ a_mo mo_tasks mo_helpers mo_askedFirst mo_crumbsFirst mo_lastDay a_mo_kinds a_mo_days a_mo_rideDays a_mo_helpKinds a_mo_nexts a_mo_helperKinds a_mo_prices a_mo_helpersOfKind a_mo_numbers a_mo_kinds mo_kinds a_mo_days mo_days a_mo_rideDays mo_rideDays a_mo_helpKinds mo_helpKinds a_mo_nexts mo_nexts a_mo_helperKinds mo_helperKinds a_mo_prices mo_prices a_mo_helpersOfKind mo_helpersOfKind a_mo_numbers mo_numbers) s.heap [] := ⟨hP, hD, va_S.rf⟩
  have hw0 := hw
  refine lv_aload_n hx hb dX0_takeTask_0 rfl (lv_at hl 0 rfl) ?_
  refine f_get S hK hw.1 in_X0_takeTask_X0 0 rfl rfl 13 (by decide) (List.mem_of_getElem? (i := 1) rfl) rfl rfl dX0_takeTask_1 ?_
  refine lv_iconst (v := 0) hx hb dX0_takeTask_4 (by decide) ?_
  obtain ⟨r1, h2, hm⟩ := ob hm
  refine k_rNi S hK hw.1 cal_X5_numberAt gX0_takeTask_X5_numberAt_n123 (List.mem_of_getElem? (i := 2) rfl) (List.mem_of_getElem? (i := 9) rfl) (List.mem_of_getElem? (i := 8) rfl) (c_X5_numberAt l D cC cI cJ a_mo_numbers 4 mo_numbers (0 : Int32) r1 h2) ⟨⟨rfl, rfl⟩, Nat.le_of_ble_eq_true rfl, Nat.le_of_ble_eq_true rfl⟩ [9] rfl rfl hl.1 rfl (Nat.le_of_ble_eq_true rfl) dX0_takeTask_5 ⟨Nat.zero_le _, Nat.zero_le _⟩ ?_
  refine lv_istore_n (lv' := [(1, .int r1), (0, .ref a_mo)]) hx hb dX0_takeTask_8 rfl hl (by decide) rfl (fun ls hl => ?_)
  refine lv_aload_n hx hb dX0_takeTask_9 rfl (lv_at hl 1 rfl) ?_
  refine f_get S hK hw.1 in_X0_takeTask_X0 0 rfl rfl 13 (by decide) (List.mem_of_getElem? (i := 1) rfl) rfl rfl dX0_takeTask_10 ?_
  refine lv_iconst (v := 1) hx hb dX0_takeTask_13 (by decide) ?_
  obtain ⟨r3, h4, hm⟩ := ob hm
  refine k_rNi S hK hw.1 cal_X5_numberAt gX0_takeTask_X5_numberAt_n123 (List.mem_of_getElem? (i := 2) rfl) (List.mem_of_getElem? (i := 9) rfl) (List.mem_of_getElem? (i := 8) rfl) (c_X5_numberAt l D cC cI cJ a_mo_numbers 4 mo_numbers (1 : Int32) r3 h4) ⟨⟨rfl, rfl⟩, Nat.le_of_ble_eq_true rfl, Nat.le_of_ble_eq_true rfl⟩ [9] rfl rfl hl.1 rfl (Nat.le_of_ble_eq_true rfl) dX0_takeTask_14 ⟨Nat.zero_le _, Nat.zero_le _⟩ ?_
  refine lv_istore_n (lv' := [(2, .int r3), (1, .int r1), (0, .ref a_mo)]) hx hb dX0_takeTask_17 rfl hl (by decide) rfl (fun ls hl => ?_)
  refine lv_aload_n hx hb dX0_takeTask_18 rfl (lv_at hl 2 rfl) ?_
  refine f_get S hK hw.1 in_X0_takeTask_X0 0 rfl rfl 13 (by decide) (List.mem_of_getElem? (i := 1) rfl) rfl rfl dX0_takeTask_19 ?_
  refine lv_iconst (v := 2) hx hb dX0_takeTask_22 (by decide) ?_
  obtain ⟨r5, h6, hm⟩ := ob hm
  refine k_rNi S hK hw.1 cal_X5_numberAt gX0_takeTask_X5_numberAt_n123 (List.mem_of_getElem? (i := 2) rfl) (List.mem_of_getElem? (i := 9) rfl) (List.mem_of_getElem? (i := 8) rfl) (c_X5_numberAt l D cC cI cJ a_mo_numbers 4 mo_numbers (2 : Int32) r5 h6) ⟨⟨rfl, rfl⟩, Nat.le_of_ble_eq_true rfl, Nat.le_of_ble_eq_true rfl⟩ [9] rfl rfl hl.1 rfl (Nat.le_of_ble_eq_true rfl) dX0_takeTask_23 ⟨Nat.zero_le _, Nat.zero_le _⟩ ?_
  refine lv_istore_n (lv' := [(3, .int r5), (2, .int r3), (1, .int r1), (0, .ref a_mo)]) hx hb dX0_takeTask_26 rfl hl (by decide) rfl (fun ls hl => ?_)
  refine lv_aload_n hx hb dX0_takeTask_27 rfl (lv_at hl 3 rfl) ?_
  refine f_get S hK hw.1 in_X0_takeTask_X0 0 rfl rfl 13 (by decide) (List.mem_of_getElem? (i := 1) rfl) rfl rfl dX0_takeTask_28 ?_
  refine lv_iconst (v := 3) hx hb dX0_takeTask_31 (by decide) ?_
  obtain ⟨r7, h8, hm⟩ := ob hm
  refine k_rNi S hK hw.1 cal_X5_numberAt gX0_takeTask_X5_numberAt_n123 (List.mem_of_getElem? (i := 2) rfl) (List.mem_of_getElem? (i := 9) rfl) (List.mem_of_getElem? (i := 8) rfl) (c_X5_numberAt l D cC cI cJ a_mo_numbers 4 mo_numbers (3 : Int32) r7 h8) ⟨⟨rfl, rfl⟩, Nat.le_of_ble_eq_true rfl, Nat.le_of_ble_eq_true rfl⟩ [9] rfl rfl hl.1 rfl (Nat.le_of_ble_eq_true rfl) dX0_takeTask_32 ⟨Nat.zero_le _, Nat.zero_le _⟩ ?_
  refine lv_istore (lv' := [(4, .int r7), (3, .int r5), (2, .int r3), (1, .int r1), (0, .ref a_mo)]) hx hb dX0_takeTask_35 hl (by decide) rfl (fun ls hl => ?_)
  refine lv_aload_n hx hb dX0_takeTask_37 rfl (lv_at hl 4 rfl) ?_
  refine f_get S hK hw.1 in_X0_takeTask_X0 0 rfl rfl 0 (by decide) (List.mem_of_getElem? (i := 2) rfl) rfl rfl dX0_takeTask_38 ?_
  refine lv_bipush (v := 8) hx hb dX0_takeTask_41 (by decide) ?_
  refine lv_icmp_ge (tgt := 69) hx hb dX0_takeTask_43 (by decide) (fun c9 => ?_) (fun c9 => ?_)
  · replace hm := ipos hm c9
    refine lv_iconst (v := 0) hx hb dX0_takeTask_69 (by decide) ?_
    obtain rfl := Option.some.inj hm
    exact e_WZ S hr hlk hw (Or.inl rfl) rfl hw.1 dX0_takeTask_70
  · replace hm := ineg hm c9
    refine lv_iload_n hx hb dX0_takeTask_46 rfl (lv_at hl 3 rfl) ?_
    refine lv_iconst (v := 4) hx hb dX0_takeTask_47 (by decide) ?_
    refine lv_icmp_gt (tgt := 69) hx hb dX0_takeTask_48 (by decide) (fun c10 => ?_) (fun c10 => ?_)
    · replace hm := ipos hm c10
      refine lv_iconst (v := 0) hx hb dX0_takeTask_69 (by decide) ?_
      obtain rfl := Option.some.inj hm
      exact e_WZ S hr hlk hw (Or.inl rfl) rfl hw.1 dX0_takeTask_70
    · replace hm := ineg hm c10
      refine lv_iload_n hx hb dX0_takeTask_51 rfl (lv_at hl 2 rfl) ?_
      refine lv_bipush (v := 9) hx hb dX0_takeTask_52 (by decide) ?_
      refine lv_icmp_gt (tgt := 69) hx hb dX0_takeTask_54 (by decide) (fun c11 => ?_) (fun c11 => ?_)
      · replace hm := ipos hm c11
        refine lv_iconst (v := 0) hx hb dX0_takeTask_69 (by decide) ?_
        obtain rfl := Option.some.inj hm
        exact e_WZ S hr hlk hw (Or.inl rfl) rfl hw.1 dX0_takeTask_70
      · replace hm := ineg hm c11
        refine lv_iload_n hx hb dX0_takeTask_57 rfl (lv_at hl 1 rfl) ?_
        refine lv_iconst (v := 5) hx hb dX0_takeTask_58 (by decide) ?_
        refine lv_icmp_gt (tgt := 69) hx hb dX0_takeTask_59 (by decide) (fun c12 => ?_) (fun c12 => ?_)
        · replace hm := ipos hm c12
          refine lv_iconst (v := 0) hx hb dX0_takeTask_69 (by decide) ?_
          obtain rfl := Option.some.inj hm
          exact e_WZ S hr hlk hw (Or.inl rfl) rfl hw.1 dX0_takeTask_70
        · replace hm := ineg hm c12
          refine lv_iload hx hb dX0_takeTask_62 (lv_at hl 0 rfl) ?_
          refine lv_bipush (v := 7) hx hb dX0_takeTask_64 (by decide) ?_
          refine lv_icmp_le (tgt := 71) hx hb dX0_takeTask_66 (by decide) (fun c13 => ?_) (fun c13 => ?_)
          · replace hm := ipos hm c13
            refine lv_aload_n hx hb dX0_takeTask_71 rfl (lv_at hl 4 rfl) ?_
            refine f_get S hK hw.1 in_X0_takeTask_X0 0 rfl rfl 5 (by decide) (List.mem_of_getElem? (i := 3) rfl) rfl rfl dX0_takeTask_72 ?_
            refine lv_aload_n hx hb dX0_takeTask_75 rfl (lv_at hl 4 rfl) ?_
            refine f_get S hK hw.1 in_X0_takeTask_X0 0 rfl rfl 0 (by decide) (List.mem_of_getElem? (i := 2) rfl) rfl rfl dX0_takeTask_76 ?_
            refine lv_iload_n hx hb dX0_takeTask_79 rfl (lv_at hl 3 rfl) ?_
            obtain ⟨r14, h15, hm⟩ := ob hm
            refine k_wNv S hK hw cal_X5_setNumber gX0_takeTask_X5_setNumber_n100 (List.mem_of_getElem? (i := 1) rfl) (List.mem_of_getElem? (i := 9) rfl) (List.mem_of_getElem? (i := 11) rfl) (c_X5_setNumber l D cC cI cJ a_mo_kinds 8 mo_kinds mo_tasks r1 (aw _) (hw.own [1] (by decide) rfl) r14 h15) ⟨⟨rfl, rfl⟩, Nat.le_of_ble_eq_true rfl, Nat.le_of_ble_eq_true rfl⟩ [1] rfl rfl hl.1 rfl (Nat.le_of_ble_eq_true rfl) dX0_takeTask_80 ⟨Nat.zero_le _, Nat.zero_le _⟩ (fun H locs hJ hB => ?_)
            have hw := hJ _ hB rfl
            replace hw : Wd D A _ (wd_0 cC cI cJ a_mo mo_tasks mo_helpers mo_askedFirst mo_crumbsFirst mo_lastDay a_mo_kinds a_mo_days a_mo_rideDays a_mo_helpKinds a_mo_nexts a_mo_helperKinds a_mo_prices a_mo_helpersOfKind a_mo_numbers a_mo_kinds r14 a_mo_days mo_days a_mo_rideDays mo_rideDays a_mo_helpKinds mo_helpKinds a_mo_nexts mo_nexts a_mo_helperKinds mo_helperKinds a_mo_prices mo_prices a_mo_helpersOfKind mo_helpersOfKind a_mo_numbers mo_numbers) H locs := hw
            refine lv_aload_n hx hb dX0_takeTask_83 rfl (lv_at hl 4 rfl) ?_
            refine f_get S hK hw.1 in_X0_takeTask_X0 0 rfl rfl 6 (by decide) (List.mem_of_getElem? (i := 4) rfl) rfl rfl dX0_takeTask_84 ?_
            refine lv_aload_n hx hb dX0_takeTask_87 rfl (lv_at hl 4 rfl) ?_
            refine f_get S hK hw.1 in_X0_takeTask_X0 0 rfl rfl 0 (by decide) (List.mem_of_getElem? (i := 2) rfl) rfl rfl dX0_takeTask_88 ?_
            refine lv_iload_n hx hb dX0_takeTask_91 rfl (lv_at hl 2 rfl) ?_
            obtain ⟨r16, h17, hm⟩ := ob hm
            refine k_wNv S hK hw cal_X5_setNumber gX0_takeTask_X5_setNumber_n100 (List.mem_of_getElem? (i := 1) rfl) (List.mem_of_getElem? (i := 9) rfl) (List.mem_of_getElem? (i := 11) rfl) (c_X5_setNumber l D cC cI cJ a_mo_days 8 mo_days mo_tasks r3 (aw _) (hw.own [2] (by decide) rfl) r16 h17) ⟨⟨rfl, rfl⟩, Nat.le_of_ble_eq_true rfl, Nat.le_of_ble_eq_true rfl⟩ [2] rfl rfl hl.1 rfl (Nat.le_of_ble_eq_true rfl) dX0_takeTask_92 ⟨Nat.zero_le _, Nat.zero_le _⟩ (fun H locs hJ hB => ?_)
            have hw := hJ _ hB rfl
            replace hw : Wd D A _ (wd_0 cC cI cJ a_mo mo_tasks mo_helpers mo_askedFirst mo_crumbsFirst mo_lastDay a_mo_kinds a_mo_days a_mo_rideDays a_mo_helpKinds a_mo_nexts a_mo_helperKinds a_mo_prices a_mo_helpersOfKind a_mo_numbers a_mo_kinds r14 a_mo_days r16 a_mo_rideDays mo_rideDays a_mo_helpKinds mo_helpKinds a_mo_nexts mo_nexts a_mo_helperKinds mo_helperKinds a_mo_prices mo_prices a_mo_helpersOfKind mo_helpersOfKind a_mo_numbers mo_numbers) H locs := hw
            refine lv_aload_n hx hb dX0_takeTask_95 rfl (lv_at hl 4 rfl) ?_
            refine f_get S hK hw.1 in_X0_takeTask_X0 0 rfl rfl 7 (by decide) (List.mem_of_getElem? (i := 5) rfl) rfl rfl dX0_takeTask_96 ?_
            refine lv_aload_n hx hb dX0_takeTask_99 rfl (lv_at hl 4 rfl) ?_
            refine f_get S hK hw.1 in_X0_takeTask_X0 0 rfl rfl 0 (by decide) (List.mem_of_getElem? (i := 2) rfl) rfl rfl dX0_takeTask_100 ?_
            refine lv_iload_n hx hb dX0_takeTask_103 rfl (lv_at hl 3 rfl) ?_
            refine lv_iconst (v := 2) hx hb dX0_takeTask_104 (by decide) ?_
            refine lv_icmp_ne (tgt := 112) hx hb dX0_takeTask_105 (by decide) (fun c18 => ?_) (fun c18 => ?_)
            · replace hm := ineg hm c18
              refine lv_iload_n hx hb dX0_takeTask_112 rfl (lv_at hl 2 rfl) ?_
              obtain ⟨r19, h20, hm⟩ := ob hm
              refine k_wNv S hK hw cal_X5_setNumber gX0_takeTask_X5_setNumber_n100 (List.mem_of_getElem? (i := 1) rfl) (List.mem_of_getElem? (i := 9) rfl) (List.mem_of_getElem? (i := 11) rfl) (c_X5_setNumber l D cC cI cJ a_mo_rideDays 8 mo_rideDays mo_tasks r3 (aw _) (hw.own [3] (by decide) rfl) r19 h20) ⟨⟨rfl, rfl⟩, Nat.le_of_ble_eq_true rfl, Nat.le_of_ble_eq_true rfl⟩ [3] rfl rfl hl.1 rfl (Nat.le_of_ble_eq_true rfl) dX0_takeTask_113 ⟨Nat.zero_le _, Nat.zero_le _⟩ (fun H locs hJ hB => ?_)
              have hw := hJ _ hB rfl
              replace hw : Wd D A _ (wd_0 cC cI cJ a_mo mo_tasks mo_helpers mo_askedFirst mo_crumbsFirst mo_lastDay a_mo_kinds a_mo_days a_mo_rideDays a_mo_helpKinds a_mo_nexts a_mo_helperKinds a_mo_prices a_mo_helpersOfKind a_mo_numbers a_mo_kinds r14 a_mo_days r16 a_mo_rideDays r19 a_mo_helpKinds mo_helpKinds a_mo_nexts mo_nexts a_mo_helperKinds mo_helperKinds a_mo_prices mo_prices a_mo_helpersOfKind mo_helpersOfKind a_mo_numbers mo_numbers) H locs := hw
              refine lv_aload_n hx hb dX0_takeTask_116 rfl (lv_at hl 4 rfl) ?_
              refine f_get S hK hw.1 in_X0_takeTask_X0 0 rfl rfl 8 (by decide) (List.mem_of_getElem? (i := 6) rfl) rfl rfl dX0_takeTask_117 ?_
              refine lv_aload_n hx hb dX0_takeTask_120 rfl (lv_at hl 4 rfl) ?_
              refine f_get S hK hw.1 in_X0_takeTask_X0 0 rfl rfl 0 (by decide) (List.mem_of_getElem? (i := 2) rfl) rfl rfl dX0_takeTask_121 ?_
              refine lv_iload_n hx hb dX0_takeTask_124 rfl (lv_at hl 1 rfl) ?_
              obtain ⟨r21, h22, hm⟩ := ob hm
              refine k_wNv S hK hw cal_X5_setNumber gX0_takeTask_X5_setNumber_n100 (List.mem_of_getElem? (i := 1) rfl) (List.mem_of_getElem? (i := 9) rfl) (List.mem_of_getElem? (i := 11) rfl) (c_X5_setNumber l D cC cI cJ a_mo_helpKinds 8 mo_helpKinds mo_tasks r5 (aw _) (hw.own [4] (by decide) rfl) r21 h22) ⟨⟨rfl, rfl⟩, Nat.le_of_ble_eq_true rfl, Nat.le_of_ble_eq_true rfl⟩ [4] rfl rfl hl.1 rfl (Nat.le_of_ble_eq_true rfl) dX0_takeTask_125 ⟨Nat.zero_le _, Nat.zero_le _⟩ (fun H locs hJ hB => ?_)
              have hw := hJ _ hB rfl
              replace hw : Wd D A _ (wd_0 cC cI cJ a_mo mo_tasks mo_helpers mo_askedFirst mo_crumbsFirst mo_lastDay a_mo_kinds a_mo_days a_mo_rideDays a_mo_helpKinds a_mo_nexts a_mo_helperKinds a_mo_prices a_mo_helpersOfKind a_mo_numbers a_mo_kinds r14 a_mo_days r16 a_mo_rideDays r19 a_mo_helpKinds r21 a_mo_nexts mo_nexts a_mo_helperKinds mo_helperKinds a_mo_prices mo_prices a_mo_helpersOfKind mo_helpersOfKind a_mo_numbers mo_numbers) H locs := hw
              refine lv_aload_n hx hb dX0_takeTask_128 rfl (lv_at hl 4 rfl) ?_
              refine f_get S hK hw.1 in_X0_takeTask_X0 0 rfl rfl 9 (by decide) (List.mem_of_getElem? (i := 7) rfl) rfl rfl dX0_takeTask_129 ?_
              refine lv_aload_n hx hb dX0_takeTask_132 rfl (lv_at hl 4 rfl) ?_
              refine f_get S hK hw.1 in_X0_takeTask_X0 0 rfl rfl 0 (by decide) (List.mem_of_getElem? (i := 2) rfl) rfl rfl dX0_takeTask_133 ?_
              refine lv_iload hx hb dX0_takeTask_136 (lv_at hl 0 rfl) ?_
              obtain ⟨r23, h24, hm⟩ := ob hm
              refine k_wNv S hK hw cal_X5_setNumber gX0_takeTask_X5_setNumber_n100 (List.mem_of_getElem? (i := 1) rfl) (List.mem_of_getElem? (i := 9) rfl) (List.mem_of_getElem? (i := 11) rfl) (c_X5_setNumber l D cC cI cJ a_mo_nexts 8 mo_nexts mo_tasks r7 (aw _) (hw.own [5] (by decide) rfl) r23 h24) ⟨⟨rfl, rfl⟩, Nat.le_of_ble_eq_true rfl, Nat.le_of_ble_eq_true rfl⟩ [5] rfl rfl hl.1 rfl (Nat.le_of_ble_eq_true rfl) dX0_takeTask_138 ⟨Nat.zero_le _, Nat.zero_le _⟩ (fun H locs hJ hB => ?_)
              have hw := hJ _ hB rfl
              replace hw : Wd D A _ (wd_0 cC cI cJ a_mo mo_tasks mo_helpers mo_askedFirst mo_crumbsFirst mo_lastDay a_mo_kinds a_mo_days a_mo_rideDays a_mo_helpKinds a_mo_nexts a_mo_helperKinds a_mo_prices a_mo_helpersOfKind a_mo_numbers a_mo_kinds r14 a_mo_days r16 a_mo_rideDays r19 a_mo_helpKinds r21 a_mo_nexts r23 a_mo_helperKinds mo_helperKinds a_mo_prices mo_prices a_mo_helpersOfKind mo_helpersOfKind a_mo_numbers mo_numbers) H locs := hw
              refine lv_aload_n hx hb dX0_takeTask_141 rfl (lv_at hl 4 rfl) ?_
              refine lv_dup hx hb dX0_takeTask_142 rfl ?_
              refine f_get S hK hw.1 in_X0_takeTask_X0 0 rfl rfl 0 (by decide) (List.mem_of_getElem? (i := 2) rfl) rfl rfl dX0_takeTask_143 ?_
              refine lv_iconst (v := 1) hx hb dX0_takeTask_146 (by decide) ?_
              refine lv_iadd hx hb dX0_takeTask_147 ?_
              refine f_put S hK hw in_X0_takeTask_X0 tyX0_ok nmX0 0 rfl rfl 0 (by decide) (List.mem_of_getElem? (i := 2) rfl) rfl rfl rfl rfl (Nat.le_of_ble_eq_true rfl) (ws1 := (wd_0 cC cI cJ a_mo (mo_tasks + (1 : Int32)) mo_helpers mo_askedFirst mo_crumbsFirst mo_lastDay a_mo_kinds a_mo_days a_mo_rideDays a_mo_helpKinds a_mo_nexts a_mo_helperKinds a_mo_prices a_mo_helpersOfKind a_mo_numbers a_mo_kinds r14 a_mo_days r16 a_mo_rideDays r19 a_mo_helpKinds r21 a_mo_nexts r23 a_mo_helperKinds mo_helperKinds a_mo_prices mo_prices a_mo_helpersOfKind mo_helpersOfKind a_mo_numbers mo_numbers)) rfl dX0_takeTask_148 (fun H locs hw => ?_)
              refine lv_iconst (v := 1) hx hb dX0_takeTask_151 (by decide) ?_
              obtain rfl := Option.some.inj hm
              exact e_WZ S hr hlk hw (Or.inr rfl) rfl hw.1 dX0_takeTask_152
            · replace hm := ipos hm c18
              refine lv_iconst (v := 0) hx hb dX0_takeTask_108 (by decide) ?_
              refine lv_goto (tgt := 113) hx hb dX0_takeTask_109 (by decide) ?_
              obtain ⟨r25, h26, hm⟩ := ob hm
              refine k_wNv S hK hw cal_X5_setNumber gX0_takeTask_X5_setNumber_n100 (List.mem_of_getElem? (i := 1) rfl) (List.mem_of_getElem? (i := 9) rfl) (List.mem_of_getElem? (i := 11) rfl) (c_X5_setNumber l D cC cI cJ a_mo_rideDays 8 mo_rideDays mo_tasks (0 : Int32) (aw _) (hw.own [3] (by decide) rfl) r25 h26) ⟨⟨rfl, rfl⟩, Nat.le_of_ble_eq_true rfl, Nat.le_of_ble_eq_true rfl⟩ [3] rfl rfl hl.1 rfl (Nat.le_of_ble_eq_true rfl) dX0_takeTask_113 ⟨Nat.zero_le _, Nat.zero_le _⟩ (fun H locs hJ hB => ?_)
              have hw := hJ _ hB rfl
              replace hw : Wd D A _ (wd_0 cC cI cJ a_mo mo_tasks mo_helpers mo_askedFirst mo_crumbsFirst mo_lastDay a_mo_kinds a_mo_days a_mo_rideDays a_mo_helpKinds a_mo_nexts a_mo_helperKinds a_mo_prices a_mo_helpersOfKind a_mo_numbers a_mo_kinds r14 a_mo_days r16 a_mo_rideDays r25 a_mo_helpKinds mo_helpKinds a_mo_nexts mo_nexts a_mo_helperKinds mo_helperKinds a_mo_prices mo_prices a_mo_helpersOfKind mo_helpersOfKind a_mo_numbers mo_numbers) H locs := hw
              refine lv_aload_n hx hb dX0_takeTask_116 rfl (lv_at hl 4 rfl) ?_
              refine f_get S hK hw.1 in_X0_takeTask_X0 0 rfl rfl 8 (by decide) (List.mem_of_getElem? (i := 6) rfl) rfl rfl dX0_takeTask_117 ?_
              refine lv_aload_n hx hb dX0_takeTask_120 rfl (lv_at hl 4 rfl) ?_
              refine f_get S hK hw.1 in_X0_takeTask_X0 0 rfl rfl 0 (by decide) (List.mem_of_getElem? (i := 2) rfl) rfl rfl dX0_takeTask_121 ?_
              refine lv_iload_n hx hb dX0_takeTask_124 rfl (lv_at hl 1 rfl) ?_
              obtain ⟨r27, h28, hm⟩ := ob hm
              refine k_wNv S hK hw cal_X5_setNumber gX0_takeTask_X5_setNumber_n100 (List.mem_of_getElem? (i := 1) rfl) (List.mem_of_getElem? (i := 9) rfl) (List.mem_of_getElem? (i := 11) rfl) (c_X5_setNumber l D cC cI cJ a_mo_helpKinds 8 mo_helpKinds mo_tasks r5 (aw _) (hw.own [4] (by decide) rfl) r27 h28) ⟨⟨rfl, rfl⟩, Nat.le_of_ble_eq_true rfl, Nat.le_of_ble_eq_true rfl⟩ [4] rfl rfl hl.1 rfl (Nat.le_of_ble_eq_true rfl) dX0_takeTask_125 ⟨Nat.zero_le _, Nat.zero_le _⟩ (fun H locs hJ hB => ?_)
              have hw := hJ _ hB rfl
              replace hw : Wd D A _ (wd_0 cC cI cJ a_mo mo_tasks mo_helpers mo_askedFirst mo_crumbsFirst mo_lastDay a_mo_kinds a_mo_days a_mo_rideDays a_mo_helpKinds a_mo_nexts a_mo_helperKinds a_mo_prices a_mo_helpersOfKind a_mo_numbers a_mo_kinds r14 a_mo_days r16 a_mo_rideDays r25 a_mo_helpKinds r27 a_mo_nexts mo_nexts a_mo_helperKinds mo_helperKinds a_mo_prices mo_prices a_mo_helpersOfKind mo_helpersOfKind a_mo_numbers mo_numbers) H locs := hw
              refine lv_aload_n hx hb dX0_takeTask_128 rfl (lv_at hl 4 rfl) ?_
              refine f_get S hK hw.1 in_X0_takeTask_X0 0 rfl rfl 9 (by decide) (List.mem_of_getElem? (i := 7) rfl) rfl rfl dX0_takeTask_129 ?_
              refine lv_aload_n hx hb dX0_takeTask_132 rfl (lv_at hl 4 rfl) ?_
              refine f_get S hK hw.1 in_X0_takeTask_X0 0 rfl rfl 0 (by decide) (List.mem_of_getElem? (i := 2) rfl) rfl rfl dX0_takeTask_133 ?_
              refine lv_iload hx hb dX0_takeTask_136 (lv_at hl 0 rfl) ?_
              obtain ⟨r29, h30, hm⟩ := ob hm
              refine k_wNv S hK hw cal_X5_setNumber gX0_takeTask_X5_setNumber_n100 (List.mem_of_getElem? (i := 1) rfl) (List.mem_of_getElem? (i := 9) rfl) (List.mem_of_getElem? (i := 11) rfl) (c_X5_setNumber l D cC cI cJ a_mo_nexts 8 mo_nexts mo_tasks r7 (aw _) (hw.own [5] (by decide) rfl) r29 h30) ⟨⟨rfl, rfl⟩, Nat.le_of_ble_eq_true rfl, Nat.le_of_ble_eq_true rfl⟩ [5] rfl rfl hl.1 rfl (Nat.le_of_ble_eq_true rfl) dX0_takeTask_138 ⟨Nat.zero_le _, Nat.zero_le _⟩ (fun H locs hJ hB => ?_)
              have hw := hJ _ hB rfl
              replace hw : Wd D A _ (wd_0 cC cI cJ a_mo mo_tasks mo_helpers mo_askedFirst mo_crumbsFirst mo_lastDay a_mo_kinds a_mo_days a_mo_rideDays a_mo_helpKinds a_mo_nexts a_mo_helperKinds a_mo_prices a_mo_helpersOfKind a_mo_numbers a_mo_kinds r14 a_mo_days r16 a_mo_rideDays r25 a_mo_helpKinds r27 a_mo_nexts r29 a_mo_helperKinds mo_helperKinds a_mo_prices mo_prices a_mo_helpersOfKind mo_helpersOfKind a_mo_numbers mo_numbers) H locs := hw
              refine lv_aload_n hx hb dX0_takeTask_141 rfl (lv_at hl 4 rfl) ?_
              refine lv_dup hx hb dX0_takeTask_142 rfl ?_
              refine f_get S hK hw.1 in_X0_takeTask_X0 0 rfl rfl 0 (by decide) (List.mem_of_getElem? (i := 2) rfl) rfl rfl dX0_takeTask_143 ?_
              refine lv_iconst (v := 1) hx hb dX0_takeTask_146 (by decide) ?_
              refine lv_iadd hx hb dX0_takeTask_147 ?_
              refine f_put S hK hw in_X0_takeTask_X0 tyX0_ok nmX0 0 rfl rfl 0 (by decide) (List.mem_of_getElem? (i := 2) rfl) rfl rfl rfl rfl (Nat.le_of_ble_eq_true rfl) (ws1 := (wd_0 cC cI cJ a_mo (mo_tasks + (1 : Int32)) mo_helpers mo_askedFirst mo_crumbsFirst mo_lastDay a_mo_kinds a_mo_days a_mo_rideDays a_mo_helpKinds a_mo_nexts a_mo_helperKinds a_mo_prices a_mo_helpersOfKind a_mo_numbers a_mo_kinds r14 a_mo_days r16 a_mo_rideDays r25 a_mo_helpKinds r27 a_mo_nexts r29 a_mo_helperKinds mo_helperKinds a_mo_prices mo_prices a_mo_helpersOfKind mo_helpersOfKind a_mo_numbers mo_numbers)) rfl dX0_takeTask_148 (fun H locs hw => ?_)
              refine lv_iconst (v := 1) hx hb dX0_takeTask_151 (by decide) ?_
              obtain rfl := Option.some.inj hm
              exact e_WZ S hr hlk hw (Or.inr rfl) rfl hw.1 dX0_takeTask_152
          · replace hm := ineg hm c13
            refine lv_iconst (v := 0) hx hb dX0_takeTask_69 (by decide) ?_
            obtain rfl := Option.some.inj hm
            exact e_WZ S hr hlk hw (Or.inl rfl) rfl hw.1 dX0_takeTask_70

abbrev rX0_takeItem : Room := { frames := 2, cells := 0, slots := 0, locals := 46 }
theorem cal_X0_takeItem : Cal yX0_takeItem wsX0_takeItem cX0_takeItem 3 (some .boolean) RX0 1 := ⟨⟨_, rfl⟩, rfl, by decide +kernel, by decide +kernel, by decide +kernel⟩
theorem in_X0_takeItem_X0 : ∀ w ∈ wsX00, w ∈ wsX0_takeItem := fun _ h => (List.mem_cons_of_mem _ (List.mem_append_right _ h))
set_option maxHeartbeats 4000000 in
set_option maxRecDepth 100000 in
theorem c_X0_takeItem (l : Launch) (D : va_G) (cC cI cJ : ClassId) (a_mo : Nat) (a_mo_kinds : Nat) (a_mo_days : Nat) (a_mo_rideDays : Nat) (a_mo_helpKinds : Nat) (a_mo_nexts : Nat) (a_mo_helperKinds : Nat) (a_mo_prices : Nat) (a_mo_helpersOfKind : Nat) (a_mo_numbers : Nat) (mo_tasks : Int32) (mo_helpers : Int32) (mo_askedFirst : Int32) (mo_crumbsFirst : Int32) (mo_lastDay : Int32) (mo_kinds : (Nat → Int32)) (mo_days : (Nat → Int32)) (mo_rideDays : (Nat → Int32)) (mo_helpKinds : (Nat → Int32)) (mo_nexts : (Nat → Int32)) (mo_helperKinds : (Nat → Int32)) (mo_prices : (Nat → Int32)) (mo_helpersOfKind : (Nat → Int32)) (mo_numbers : (Nat → Int32)) (p0 : Int32) (A : Nat → Prop) (hD : va_D A (wd_0 cC cI cJ a_mo mo_tasks mo_helpers mo_askedFirst mo_crumbsFirst mo_lastDay a_mo_kinds a_mo_days a_mo_rideDays a_mo_helpKinds a_mo_nexts a_mo_helperKinds a_mo_prices a_mo_helpersOfKind a_mo_numbers a_mo_kinds mo_kinds a_mo_days mo_days a_mo_rideDays mo_rideDays a_mo_helpKinds mo_helpKinds a_mo_nexts mo_nexts a_mo_helperKinds mo_helperKinds a_mo_prices mo_prices a_mo_helpersOfKind mo_helpersOfKind a_mo_numbers mo_numbers)) (out : (Int32 × Int32 × Int32 × Int32 × Int32 × Int32 × (Nat → Int32) × (Nat → Int32) × (Nat → Int32) × (Nat → Int32) × (Nat → Int32) × (Nat → Int32) × (Nat → Int32) × (Nat → Int32))) (hm : m_X0_takeItem mo_tasks mo_helpers mo_askedFirst mo_crumbsFirst mo_lastDay mo_kinds mo_days mo_rideDays mo_helpKinds mo_nexts mo_helperKinds mo_prices mo_helpersOfKind mo_numbers p0 = some out) : WrI l yX0_takeItem wsX0_takeItem rX0_takeItem D (tyK cC cI cJ) [.ref a_mo, .int p0] A (wd_0 cC cI cJ a_mo mo_tasks mo_helpers mo_askedFirst mo_crumbsFirst mo_lastDay a_mo_kinds a_mo_days a_mo_rideDays a_mo_helpKinds a_mo_nexts a_mo_helperKinds a_mo_prices a_mo_helpersOfKind a_mo_numbers a_mo_kinds mo_kinds a_mo_days mo_days a_mo_rideDays mo_rideDays a_mo_helpKinds mo_helpKinds a_mo_nexts mo_nexts a_mo_helperKinds mo_helperKinds a_mo_prices mo_prices a_mo_helpersOfKind mo_helpersOfKind a_mo_numbers mo_numbers) (Bw0 D (wd_0 cC cI cJ a_mo out.2.1 out.2.2.1 out.2.2.2.1 out.2.2.2.2.1 out.2.2.2.2.2.1 a_mo_kinds a_mo_days a_mo_rideDays a_mo_helpKinds a_mo_nexts a_mo_helperKinds a_mo_prices a_mo_helpersOfKind a_mo_numbers a_mo_kinds out.2.2.2.2.2.2.1 a_mo_days out.2.2.2.2.2.2.2.1 a_mo_rideDays out.2.2.2.2.2.2.2.2.1 a_mo_helpKinds out.2.2.2.2.2.2.2.2.2.1 a_mo_nexts out.2.2.2.2.2.2.2.2.2.2.1 a_mo_helperKinds out.2.2.2.2.2.2.2.2.2.2.2.1 a_mo_prices out.2.2.2.2.2.2.2.2.2.2.2.2.1 a_mo_helpersOfKind out.2.2.2.2.2.2.2.2.2.2.2.2.2 a_mo_numbers mo_numbers)) out.1 := by
  unfold m_X0_takeItem at hm
  refine enter (cc := cX0_takeItem) (maxL := 3) (ret := (some .boolean)) (lv := [(0, .ref a_mo), (1, .int p0)]) (by decide) rfl (Nat.le_of_ble_eq_true rfl) rfl ?_
  intro p e s m args below meth c S hr hlk hK hP ls hl
  replace S : CallFix p m c cX0_takeItem 3 s args wsX0_takeItem RX0 := S
  have hx := S.1
  have hb := S.2.1
  have hw : Wd D A s.heap (wd_0 cC cI cJ a_mo mo_tasks mo_helpers mo_askedFirst mo_crumbsFirst mo_lastDay a_mo_kinds a_mo_days a_mo_rideDays a_mo_helpKinds a_mo_nexts a_mo_helperKinds a_mo_prices a_mo_helpersOfKind a_mo_numbers a_mo_kinds mo_kinds a_mo_days mo_days a_mo_rideDays mo_rideDays a_mo_helpKinds mo_helpKinds a_mo_nexts mo_nexts a_mo_helperKinds mo_helperKinds a_mo_prices mo_prices a_mo_helpersOfKind mo_helpersOfKind a_mo_numbers mo_numbers) s.heap [] := ⟨hP, hD, va_S.rf⟩
  have hw0 := hw
  refine lv_aload_n hx hb dX0_takeItem_0 rfl (lv_at hl 0 rfl) ?_
  refine f_get S hK hw.1 in_X0_takeItem_X0 0 rfl rfl 13 (by decide) (List.mem_of_getElem? (i := 1) rfl) rfl rfl dX0_takeItem_1 ?_
  refine lv_iconst (v := 0) hx hb dX0_takeItem_4 (by decide) ?_
  obtain ⟨r1, h2, hm⟩ := ob hm
  refine k_rNi S hK hw.1 cal_X5_numberAt gX0_takeItem_X5_numberAt_n123 (List.mem_of_getElem? (i := 2) rfl) (List.mem_of_getElem? (i := 6) rfl) (List.mem_of_getElem? (i := 5) rfl) (c_X5_numberAt l D cC cI cJ a_mo_numbers 4 mo_numbers (0 : Int32) r1 h2) ⟨⟨rfl, rfl⟩, Nat.le_of_ble_eq_true rfl, Nat.le_of_ble_eq_true rfl⟩ [9] rfl rfl hl.1 rfl (Nat.le_of_ble_eq_true rfl) dX0_takeItem_5 ⟨Nat.zero_le _, Nat.zero_le _⟩ ?_
  refine lv_istore_n (lv' := [(2, .int r1), (0, .ref a_mo), (1, .int p0)]) hx hb dX0_takeItem_8 rfl hl (by decide) rfl (fun ls hl => ?_)
  refine lv_iload_n hx hb dX0_takeItem_9 rfl (lv_at hl 2 rfl) ?_
  by_cases c3 : p0 = (97 : Int32)
  · replace hm := ipos hm c3
    refine f_look S dX0_takeItem_10 rfl (off := 60) (by rw [c3]; decide) (tgt := 70) (by decide) ?_
    refine lv_aload_n hx hb dX0_takeItem_70 rfl (lv_at hl 1 rfl) ?_
    refine lv_iload_n hx hb dX0_takeItem_71 rfl (lv_at hl 0 rfl) ?_
    obtain ⟨r4, h5, hm⟩ := ob hm
    refine k_rVi S hK hw.1 cal_X0_hasTask gX0_takeItem_X0_hasTask (c_X0_hasTask l D cC cI cJ a_mo a_mo_kinds a_mo_days a_mo_rideDays a_mo_helpKinds a_mo_nexts a_mo_helperKinds a_mo_prices a_mo_helpersOfKind a_mo_numbers mo_tasks mo_helpers mo_askedFirst mo_crumbsFirst mo_lastDay mo_kinds mo_days mo_rideDays mo_helpKinds mo_nexts mo_helperKinds mo_prices mo_helpersOfKind mo_numbers r1 r4 h5) ⟨⟨rfl, rfl⟩, Nat.le_of_ble_eq_true rfl, Nat.le_of_ble_eq_true rfl⟩ [0, 1, 2, 3, 4, 5, 6, 7, 8, 9] rfl 0 rfl rfl rfl hl.1 rfl (Nat.le_of_ble_eq_true rfl) dX0_takeItem_72 ⟨Nat.zero_le _, Nat.zero_le _⟩ ?_
    refine lv_if_ne (tgt := 80) hx hb dX0_takeItem_75 (by decide) (fun c6 => ?_) (fun c6 => ?_)
    · replace hm := ineg hm c6
      refine lv_aload_n hx hb dX0_takeItem_80 rfl (lv_at hl 1 rfl) ?_
      refine lv_dup hx hb dX0_takeItem_81 rfl ?_
      refine f_get S hK hw.1 in_X0_takeItem_X0 0 rfl rfl 2 (by decide) (List.mem_of_getElem? (i := 2) rfl) rfl rfl dX0_takeItem_82 ?_
      refine lv_iload_n hx hb dX0_takeItem_85 rfl (lv_at hl 0 rfl) ?_
      obtain ⟨r7, h8, hm⟩ := ob hm
      refine k_rNi S hK hw.1 cal_X5_bit gX0_takeItem_X5_bit_n46 (List.mem_of_getElem? (i := 3) rfl) (List.mem_of_getElem? (i := 6) rfl) (List.mem_of_getElem? (i := 33) rfl) (c_X5_bit l D cC cI cJ r1 r7 h8) ⟨⟨rfl, rfl⟩, Nat.le_of_ble_eq_true rfl, Nat.le_of_ble_eq_true rfl⟩ [] rfl rfl hl.1 rfl (Nat.le_of_ble_eq_true rfl) dX0_takeItem_86 ⟨Nat.zero_le _, Nat.zero_le _⟩ ?_
      refine lv_ior hx hb dX0_takeItem_89 ?_
      refine f_put S hK hw in_X0_takeItem_X0 tyX0_ok nmX0 0 rfl rfl 2 (by decide) (List.mem_of_getElem? (i := 2) rfl) rfl rfl rfl rfl (Nat.le_of_ble_eq_true rfl) (ws1 := (wd_0 cC cI cJ a_mo mo_tasks mo_helpers (mo_askedFirst ||| r7) mo_crumbsFirst mo_lastDay a_mo_kinds a_mo_days a_mo_rideDays a_mo_helpKinds a_mo_nexts a_mo_helperKinds a_mo_prices a_mo_helpersOfKind a_mo_numbers a_mo_kinds mo_kinds a_mo_days mo_days a_mo_rideDays mo_rideDays a_mo_helpKinds mo_helpKinds a_mo_nexts mo_nexts a_mo_helperKinds mo_helperKinds a_mo_prices mo_prices a_mo_helpersOfKind mo_helpersOfKind a_mo_numbers mo_numbers)) rfl dX0_takeItem_90 (fun H locs hw => ?_)
      refine lv_iconst (v := 1) hx hb dX0_takeItem_93 (by decide) ?_
      obtain rfl := Option.some.inj hm
      exact e_WZ S hr hlk hw (Or.inr rfl) rfl hw.1 dX0_takeItem_94
    · replace hm := ipos hm c6
      refine lv_iconst (v := 0) hx hb dX0_takeItem_78 (by decide) ?_
      obtain rfl := Option.some.inj hm
      exact e_WZ S hr hlk hw (Or.inl rfl) rfl hw.1 dX0_takeItem_79
  replace hm := ineg hm c3
  by_cases c9 : p0 = (99 : Int32)
  · replace hm := ipos hm c9
    refine f_look S dX0_takeItem_10 rfl (off := 85) (by rw [c9]; decide) (tgt := 95) (by decide) ?_
    refine lv_aload_n hx hb dX0_takeItem_95 rfl (lv_at hl 1 rfl) ?_
    refine lv_iload_n hx hb dX0_takeItem_96 rfl (lv_at hl 0 rfl) ?_
    refine f_put S hK hw in_X0_takeItem_X0 tyX0_ok nmX0 0 rfl rfl 3 (by decide) (List.mem_of_getElem? (i := 3) rfl) rfl rfl rfl rfl (Nat.le_of_ble_eq_true rfl) (ws1 := (wd_0 cC cI cJ a_mo mo_tasks mo_helpers mo_askedFirst r1 mo_lastDay a_mo_kinds a_mo_days a_mo_rideDays a_mo_helpKinds a_mo_nexts a_mo_helperKinds a_mo_prices a_mo_helpersOfKind a_mo_numbers a_mo_kinds mo_kinds a_mo_days mo_days a_mo_rideDays mo_rideDays a_mo_helpKinds mo_helpKinds a_mo_nexts mo_nexts a_mo_helperKinds mo_helperKinds a_mo_prices mo_prices a_mo_helpersOfKind mo_helpersOfKind a_mo_numbers mo_numbers)) rfl dX0_takeItem_97 (fun H locs hw => ?_)
    refine lv_iload_n hx hb dX0_takeItem_100 rfl (lv_at hl 0 rfl) ?_
    refine lv_bipush (v := 99) hx hb dX0_takeItem_101 (by decide) ?_
    refine lv_icmp_gt (tgt := 110) hx hb dX0_takeItem_103 (by decide) (fun c10 => ?_) (fun c10 => ?_)
    · replace hm := ipos hm c10
      refine lv_iconst (v := 0) hx hb dX0_takeItem_110 (by decide) ?_
      obtain rfl := Option.some.inj hm
      exact e_WZ S hr hlk hw (Or.inl rfl) rfl hw.1 dX0_takeItem_111
    · replace hm := ineg hm c10
      refine lv_iconst (v := 1) hx hb dX0_takeItem_106 (by decide) ?_
      refine lv_goto (tgt := 111) hx hb dX0_takeItem_107 (by decide) ?_
      obtain rfl := Option.some.inj hm
      exact e_WZ S hr hlk hw (Or.inr rfl) rfl hw.1 dX0_takeItem_111
  replace hm := ineg hm c9
  by_cases c11 : p0 = (104 : Int32)
  · replace hm := ipos hm c11
    refine f_look S dX0_takeItem_10 rfl (off := 55) (by rw [c11]; decide) (tgt := 65) (by decide) ?_
    refine lv_aload_n hx hb dX0_takeItem_65 rfl (lv_at hl 1 rfl) ?_
    obtain ⟨r12, h13, hm⟩ := ob hm
    refine k_wVi S hK hw cal_X0_takeHelper gX0_takeItem_X0_takeHelper (c_X0_takeHelper l D cC cI cJ a_mo a_mo_kinds a_mo_days a_mo_rideDays a_mo_helpKinds a_mo_nexts a_mo_helperKinds a_mo_prices a_mo_helpersOfKind a_mo_numbers mo_tasks mo_helpers mo_askedFirst mo_crumbsFirst mo_lastDay mo_kinds mo_days mo_rideDays mo_helpKinds mo_nexts mo_helperKinds mo_prices mo_helpersOfKind mo_numbers (aw _) (hw.own [0, 1, 2, 3, 4, 5, 6, 7, 8, 9] (by decide) rfl) r12 h13) ⟨⟨rfl, rfl⟩, Nat.le_of_ble_eq_true rfl, Nat.le_of_ble_eq_true rfl⟩ [0, 1, 2, 3, 4, 5, 6, 7, 8, 9] rfl 0 rfl rfl rfl hl.1 rfl (Nat.le_of_ble_eq_true rfl) dX0_takeItem_66 ⟨Nat.zero_le _, Nat.zero_le _⟩ (fun H locs hJ hB => ?_)
    have hw := hJ _ hB rfl
    replace hw : Wd D A _ (wd_0 cC cI cJ a_mo mo_tasks r12.2.1 mo_askedFirst mo_crumbsFirst mo_lastDay a_mo_kinds a_mo_days a_mo_rideDays a_mo_helpKinds a_mo_nexts a_mo_helperKinds a_mo_prices a_mo_helpersOfKind a_mo_numbers a_mo_kinds mo_kinds a_mo_days mo_days a_mo_rideDays mo_rideDays a_mo_helpKinds mo_helpKinds a_mo_nexts mo_nexts a_mo_helperKinds r12.2.2.1 a_mo_prices r12.2.2.2.1 a_mo_helpersOfKind r12.2.2.2.2 a_mo_numbers mo_numbers) H locs := hw
    obtain ⟨hz, hm⟩ := gdo hm
    obtain rfl := Option.some.inj hm
    exact e_WZ S hr hlk hw hz rfl hw.1 dX0_takeItem_69
  replace hm := ineg hm c11
  by_cases c14 : p0 = (108 : Int32)
  · replace hm := ipos hm c14
    refine f_look S dX0_takeItem_10 rfl (off := 102) (by rw [c14]; decide) (tgt := 112) (by decide) ?_
    refine lv_aload_n hx hb dX0_takeItem_112 rfl (lv_at hl 1 rfl) ?_
    refine lv_iload_n hx hb dX0_takeItem_113 rfl (lv_at hl 0 rfl) ?_
    refine f_put S hK hw in_X0_takeItem_X0 tyX0_ok nmX0 0 rfl rfl 4 (by decide) (List.mem_of_getElem? (i := 4) rfl) rfl rfl rfl rfl (Nat.le_of_ble_eq_true rfl) (ws1 := (wd_0 cC cI cJ a_mo mo_tasks mo_helpers mo_askedFirst mo_crumbsFirst r1 a_mo_kinds a_mo_days a_mo_rideDays a_mo_helpKinds a_mo_nexts a_mo_helperKinds a_mo_prices a_mo_helpersOfKind a_mo_numbers a_mo_kinds mo_kinds a_mo_days mo_days a_mo_rideDays mo_rideDays a_mo_helpKinds mo_helpKinds a_mo_nexts mo_nexts a_mo_helperKinds mo_helperKinds a_mo_prices mo_prices a_mo_helpersOfKind mo_helpersOfKind a_mo_numbers mo_numbers)) rfl dX0_takeItem_114 (fun H locs hw => ?_)
    refine lv_iload_n hx hb dX0_takeItem_117 rfl (lv_at hl 0 rfl) ?_
    refine lv_iconst (v := 1) hx hb dX0_takeItem_118 (by decide) ?_
    refine lv_icmp_lt (tgt := 132) hx hb dX0_takeItem_119 (by decide) (fun c15 => ?_) (fun c15 => ?_)
    · replace hm := ipos hm c15
      refine lv_iconst (v := 0) hx hb dX0_takeItem_132 (by decide) ?_
      obtain rfl := Option.some.inj hm
      exact e_WZ S hr hlk hw (Or.inl rfl) rfl hw.1 dX0_takeItem_133
    · replace hm := ineg hm c15
      refine lv_iload_n hx hb dX0_takeItem_122 rfl (lv_at hl 0 rfl) ?_
      refine lv_bipush (v := 60) hx hb dX0_takeItem_123 (by decide) ?_
      refine lv_icmp_gt (tgt := 132) hx hb dX0_takeItem_125 (by decide) (fun c16 => ?_) (fun c16 => ?_)
      · replace hm := ipos hm c16
        refine lv_iconst (v := 0) hx hb dX0_takeItem_132 (by decide) ?_
        obtain rfl := Option.some.inj hm
        exact e_WZ S hr hlk hw (Or.inl rfl) rfl hw.1 dX0_takeItem_133
      · replace hm := ineg hm c16
        refine lv_iconst (v := 1) hx hb dX0_takeItem_128 (by decide) ?_
        refine lv_goto (tgt := 133) hx hb dX0_takeItem_129 (by decide) ?_
        obtain rfl := Option.some.inj hm
        exact e_WZ S hr hlk hw (Or.inr rfl) rfl hw.1 dX0_takeItem_133
  replace hm := ineg hm c14
  by_cases c17 : p0 = (116 : Int32)
  · replace hm := ipos hm c17
    refine f_look S dX0_takeItem_10 rfl (off := 50) (by rw [c17]; decide) (tgt := 60) (by decide) ?_
    refine lv_aload_n hx hb dX0_takeItem_60 rfl (lv_at hl 1 rfl) ?_
    obtain ⟨r18, h19, hm⟩ := ob hm
    refine k_wVi S hK hw cal_X0_takeTask gX0_takeItem_X0_takeTask (c_X0_takeTask l D cC cI cJ a_mo a_mo_kinds a_mo_days a_mo_rideDays a_mo_helpKinds a_mo_nexts a_mo_helperKinds a_mo_prices a_mo_helpersOfKind a_mo_numbers mo_tasks mo_helpers mo_askedFirst mo_crumbsFirst mo_lastDay mo_kinds mo_days mo_rideDays mo_helpKinds mo_nexts mo_helperKinds mo_prices mo_helpersOfKind mo_numbers (aw _) (hw.own [0, 1, 2, 3, 4, 5, 6, 7, 8, 9] (by decide) rfl) r18 h19) ⟨⟨rfl, rfl⟩, Nat.le_of_ble_eq_true rfl, Nat.le_of_ble_eq_true rfl⟩ [0, 1, 2, 3, 4, 5, 6, 7, 8, 9] rfl 0 rfl rfl rfl hl.1 rfl (Nat.le_of_ble_eq_true rfl) dX0_takeItem_61 ⟨Nat.zero_le _, Nat.zero_le _⟩ (fun H locs hJ hB => ?_)
    have hw := hJ _ hB rfl
    replace hw : Wd D A _ (wd_0 cC cI cJ a_mo r18.2.1 mo_helpers mo_askedFirst mo_crumbsFirst mo_lastDay a_mo_kinds a_mo_days a_mo_rideDays a_mo_helpKinds a_mo_nexts a_mo_helperKinds a_mo_prices a_mo_helpersOfKind a_mo_numbers a_mo_kinds r18.2.2.1 a_mo_days r18.2.2.2.1 a_mo_rideDays r18.2.2.2.2.1 a_mo_helpKinds r18.2.2.2.2.2.1 a_mo_nexts r18.2.2.2.2.2.2 a_mo_helperKinds mo_helperKinds a_mo_prices mo_prices a_mo_helpersOfKind mo_helpersOfKind a_mo_numbers mo_numbers) H locs := hw
    obtain ⟨hz, hm⟩ := gdo hm
    obtain rfl := Option.some.inj hm
    exact e_WZ S hr hlk hw hz rfl hw.1 dX0_takeItem_64
  replace hm := ineg hm c17
  have nc3 := toInt_ne c3 (n := 97) (by decide)
  have nc9 := toInt_ne c9 (n := 99) (by decide)
  have nc11 := toInt_ne c11 (n := 104) (by decide)
  have nc14 := toInt_ne c14 (n := 108) (by decide)
  have nc17 := toInt_ne c17 (n := 116) (by decide)
  refine f_look S dX0_takeItem_10 rfl (off := 124) (by simp only [Op.lookupswitch.offset, if_neg nc3, if_neg nc9, if_neg nc11, if_neg nc14, if_neg nc17, if_false]) (tgt := 134) (by decide) ?_
  refine lv_iconst (v := 0) hx hb dX0_takeItem_134 (by decide) ?_
  obtain rfl := Option.some.inj hm
  exact e_WZ S hr hlk hw (Or.inl rfl) rfl hw.1 dX0_takeItem_135
