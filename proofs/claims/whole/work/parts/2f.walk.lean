/-! walks: X4_tryHandUp X4_trySuggest X5_back X5_befriend X5_power X5_chancesOfSet X5_chancesOfTen X5_commonDivisor X5_oneIf X5_count X5_drawOf X5_fault X5_fewest -/
abbrev rX4_tryHandUp : Room := { frames := 1, cells := 0, slots := 0, locals := 21 }
theorem cal_X4_tryHandUp : Cal yX4_tryHandUp wsX4_tryHandUp cX4_tryHandUp 3 (some .boolean) RX4 2 := ⟨⟨_, rfl⟩, rfl, by decide +kernel, by decide +kernel, by decide +kernel⟩
theorem in_X4_tryHandUp_X4 : ∀ w ∈ wsX40, w ∈ wsX4_tryHandUp := fun _ h => (List.mem_cons_of_mem _ (List.mem_append_left _ (List.mem_append_right _ h)))
set_option maxHeartbeats 4000000 in
set_option maxRecDepth 100000 in
theorem c_X4_tryHandUp (l : Launch) (D : va_G) (cC cI cJ : ClassId) (a_st : Nat) (a_mo : Nat) (a_mo_kinds : Nat) (a_mo_days : Nat) (a_mo_rideDays : Nat) (a_mo_helpKinds : Nat) (a_mo_nexts : Nat) (a_mo_helperKinds : Nat) (a_mo_prices : Nat) (a_mo_helpersOfKind : Nat) (a_mo_numbers : Nat) (st_asked : Int32) (st_brought : Int32) (st_friends : Int32) (st_used : Int32) (st_crumbs : Int32) (st_day : Int32) (mo_tasks : Int32) (mo_helpers : Int32) (mo_askedFirst : Int32) (mo_crumbsFirst : Int32) (mo_lastDay : Int32) (mo_kinds : (Nat → Int32)) (mo_days : (Nat → Int32)) (mo_rideDays : (Nat → Int32)) (mo_helpKinds : (Nat → Int32)) (mo_nexts : (Nat → Int32)) (mo_helperKinds : (Nat → Int32)) (mo_prices : (Nat → Int32)) (mo_helpersOfKind : (Nat → Int32)) (mo_numbers : (Nat → Int32)) (p1 : Int32) (A : Nat → Prop) (hD : va_D A (wd_8 cC cI cJ a_st st_asked st_brought st_friends st_used st_crumbs st_day a_mo mo_tasks mo_helpers mo_askedFirst mo_crumbsFirst mo_lastDay a_mo_kinds a_mo_days a_mo_rideDays a_mo_helpKinds a_mo_nexts a_mo_helperKinds a_mo_prices a_mo_helpersOfKind a_mo_numbers a_mo_kinds mo_kinds a_mo_days mo_days a_mo_rideDays mo_rideDays a_mo_helpKinds mo_helpKinds a_mo_nexts mo_nexts a_mo_helperKinds mo_helperKinds a_mo_prices mo_prices a_mo_helpersOfKind mo_helpersOfKind a_mo_numbers mo_numbers)) (out : (Int32 × Int32 × Int32)) (hm : m_X4_tryHandUp st_asked st_brought st_day mo_lastDay mo_days p1 = some out) : WrI l yX4_tryHandUp wsX4_tryHandUp rX4_tryHandUp D (tyK cC cI cJ) [.ref a_st, .ref a_mo, .int p1] A (wd_8 cC cI cJ a_st st_asked st_brought st_friends st_used st_crumbs st_day a_mo mo_tasks mo_helpers mo_askedFirst mo_crumbsFirst mo_lastDay a_mo_kinds a_mo_days a_mo_rideDays a_mo_helpKinds a_mo_nexts a_mo_helperKinds a_mo_prices a_mo_helpersOfKind a_mo_numbers a_mo_kinds mo_kinds a_mo_days mo_days a_mo_rideDays mo_rideDays a_mo_helpKinds mo_helpKinds a_mo_nexts mo_nexts a_mo_helperKinds mo_helperKinds a_mo_prices mo_prices a_mo_helpersOfKind mo_helpersOfKind a_mo_numbers mo_numbers) (Bw0 D (wd_8 cC cI cJ a_st st_asked out.2.1 st_friends st_used st_crumbs out.2.2 a_mo mo_tasks mo_helpers mo_askedFirst mo_crumbsFirst mo_lastDay a_mo_kinds a_mo_days a_mo_rideDays a_mo_helpKinds a_mo_nexts a_mo_helperKinds a_mo_prices a_mo_helpersOfKind a_mo_numbers a_mo_kinds mo_kinds a_mo_days mo_days a_mo_rideDays mo_rideDays a_mo_helpKinds mo_helpKinds a_mo_nexts mo_nexts a_mo_helperKinds mo_helperKinds a_mo_prices mo_prices a_mo_helpersOfKind mo_helpersOfKind a_mo_numbers mo_numbers)) out.1 := by
  unfold m_X4_tryHandUp at hm
  refine enter (cc := cX4_tryHandUp) (maxL := 3) (ret := (some .boolean)) (lv := [(0, .ref a_st), (1, .ref a_mo), (2, .int p1)]) (by decide) rfl (Nat.le_of_ble_eq_true rfl) rfl ?_
  intro p e s m args below meth c S hr hlk hK hP ls hl
  replace S : CallFix p m c cX4_tryHandUp 3 s args wsX4_tryHandUp RX4 := S
  have hx := S.1
  have hb := S.2.1
  have hw : Wd D A s.heap (wd_8 cC cI cJ a_st st_asked st_brought st_friends st_used st_crumbs st_day a_mo mo_tasks mo_helpers mo_askedFirst mo_crumbsFirst mo_lastDay a_mo_kinds a_mo_days a_mo_rideDays a_mo_helpKinds a_mo_nexts a_mo_helperKinds a_mo_prices a_mo_helpersOfKind a_mo_numbers a_mo_kinds mo_kinds a_mo_days mo_days a_mo_rideDays mo_rideDays a_mo_helpKinds mo_helpKinds a_mo_nexts mo_nexts a_mo_helperKinds mo_helperKinds a_mo_prices mo_prices a_mo_helpersOfKind mo_helpersOfKind a_mo_numbers mo_numbers) s.heap [] := ⟨hP, hD, va_S.rf⟩
  have hw0 := hw
  refine lv_aload_n hx hb dX4_tryHandUp_0 rfl (lv_at hl 0 rfl) ?_
  refine lv_aload_n hx hb dX4_tryHandUp_1 rfl (lv_at hl 1 rfl) ?_
  obtain ⟨r1, h2, hm⟩ := ob hm
  refine k_rVi S hK hw.1 cal_X4_isLost gX4_tryHandUp_X4_isLost (c_X4_isLost l D cC cI cJ a_st a_mo a_mo_kinds a_mo_days a_mo_rideDays a_mo_helpKinds a_mo_nexts a_mo_helperKinds a_mo_prices a_mo_helpersOfKind a_mo_numbers st_asked st_brought st_friends st_used st_crumbs st_day mo_tasks mo_helpers mo_askedFirst mo_crumbsFirst mo_lastDay mo_kinds mo_days mo_rideDays mo_helpKinds mo_nexts mo_helperKinds mo_prices mo_helpersOfKind mo_numbers r1 h2) ⟨⟨rfl, rfl⟩, Nat.le_of_ble_eq_true rfl, Nat.le_of_ble_eq_true rfl⟩ [0, 1, 2, 3, 4, 5, 6, 7, 8, 9, 10] rfl 0 rfl rfl rfl hl.1 rfl (Nat.le_of_ble_eq_true rfl) dX4_tryHandUp_2 ⟨Nat.zero_le _, Nat.zero_le _⟩ ?_
  refine lv_if_ne (tgt := 20) hx hb dX4_tryHandUp_5 (by decide) (fun c3 => ?_) (fun c3 => ?_)
  · replace hm := ineg hm c3
    refine lv_iconst (v := 0) hx hb dX4_tryHandUp_20 (by decide) ?_
    obtain rfl := Option.some.inj hm
    exact e_WZ S hr hlk hw (Or.inl rfl) rfl hw.1 dX4_tryHandUp_21
  · replace hm := ipos hm c3
    refine lv_aload_n hx hb dX4_tryHandUp_8 rfl (lv_at hl 0 rfl) ?_
    obtain ⟨r4, h5, hm⟩ := ob hm
    refine k_rVi S hK hw.1 cal_X4_openTasks gX4_tryHandUp_X4_openTasks (c_X4_openTasks l D cC cI cJ a_st st_asked st_brought st_friends st_used st_crumbs st_day r4 h5) ⟨⟨rfl, rfl⟩, Nat.le_of_ble_eq_true rfl, Nat.le_of_ble_eq_true rfl⟩ [0] rfl 0 rfl rfl rfl hl.1 rfl (Nat.le_of_ble_eq_true rfl) dX4_tryHandUp_9 ⟨Nat.zero_le _, Nat.zero_le _⟩ ?_
    refine lv_iload_n hx hb dX4_tryHandUp_12 rfl (lv_at hl 2 rfl) ?_
    obtain ⟨r6, h7, hm⟩ := ob hm
    refine k_rNi S hK hw.1 cal_X5_bit gX4_tryHandUp_X5_bit_n49 (List.mem_of_getElem? (i := 4) rfl) (List.mem_of_getElem? (i := 15) rfl) (List.mem_of_getElem? (i := 14) rfl) (c_X5_bit l D cC cI cJ p1 r6 h7) ⟨⟨rfl, rfl⟩, Nat.le_of_ble_eq_true rfl, Nat.le_of_ble_eq_true rfl⟩ [] rfl rfl hl.1 rfl (Nat.le_of_ble_eq_true rfl) dX4_tryHandUp_13 ⟨Nat.zero_le _, Nat.zero_le _⟩ ?_
    refine lv_iand hx hb dX4_tryHandUp_16 ?_
    refine lv_if_ne (tgt := 22) hx hb dX4_tryHandUp_17 (by decide) (fun c8 => ?_) (fun c8 => ?_)
    · replace hm := ineg hm c8
      refine lv_aload_n hx hb dX4_tryHandUp_22 rfl (lv_at hl 0 rfl) ?_
      refine lv_dup hx hb dX4_tryHandUp_23 rfl ?_
      refine f_get S hK hw.1 in_X4_tryHandUp_X4 0 rfl rfl 5 (by decide) (List.mem_of_getElem? (i := 1) rfl) rfl rfl dX4_tryHandUp_24 ?_
      refine lv_iconst (v := 2) hx hb dX4_tryHandUp_27 (by decide) ?_
      refine lv_aload_n hx hb dX4_tryHandUp_28 rfl (lv_at hl 1 rfl) ?_
      refine lv_iload_n hx hb dX4_tryHandUp_29 rfl (lv_at hl 2 rfl) ?_
      obtain ⟨r9, h10, hm⟩ := ob hm
      refine k_rVi S hK hw.1 cal_X0_daysOf gX4_tryHandUp_X0_daysOf (c_X0_daysOf l D cC cI cJ a_mo a_mo_kinds a_mo_days a_mo_rideDays a_mo_helpKinds a_mo_nexts a_mo_helperKinds a_mo_prices a_mo_helpersOfKind a_mo_numbers mo_tasks mo_helpers mo_askedFirst mo_crumbsFirst mo_lastDay mo_kinds mo_days mo_rideDays mo_helpKinds mo_nexts mo_helperKinds mo_prices mo_helpersOfKind mo_numbers p1 r9 h10) ⟨⟨rfl, rfl⟩, Nat.le_of_ble_eq_true rfl, Nat.le_of_ble_eq_true rfl⟩ [1, 2, 3, 4, 5, 6, 7, 8, 9, 10] rfl 1 rfl rfl rfl hl.1 rfl (Nat.le_of_ble_eq_true rfl) dX4_tryHandUp_30 ⟨Nat.zero_le _, Nat.zero_le _⟩ ?_
      refine lv_imul hx hb dX4_tryHandUp_33 ?_
      refine lv_iconst (v := 1) hx hb dX4_tryHandUp_34 (by decide) ?_
      refine lv_iadd hx hb dX4_tryHandUp_35 ?_
      refine lv_iadd hx hb dX4_tryHandUp_36 ?_
      obtain ⟨y11, e12, hm⟩ := ob hm
      refine f_name e12 ?_
      refine f_put S hK hw in_X4_tryHandUp_X4 tyX4_ok nmX4 0 rfl rfl 5 (by decide) (List.mem_of_getElem? (i := 1) rfl) rfl rfl rfl rfl (Nat.le_of_ble_eq_true rfl) (ws1 := (wd_8 cC cI cJ a_st st_asked st_brought st_friends st_used st_crumbs y11 a_mo mo_tasks mo_helpers mo_askedFirst mo_crumbsFirst mo_lastDay a_mo_kinds a_mo_days a_mo_rideDays a_mo_helpKinds a_mo_nexts a_mo_helperKinds a_mo_prices a_mo_helpersOfKind a_mo_numbers a_mo_kinds mo_kinds a_mo_days mo_days a_mo_rideDays mo_rideDays a_mo_helpKinds mo_helpKinds a_mo_nexts mo_nexts a_mo_helperKinds mo_helperKinds a_mo_prices mo_prices a_mo_helpersOfKind mo_helpersOfKind a_mo_numbers mo_numbers)) rfl dX4_tryHandUp_37 (fun H locs hw => ?_)
      refine lv_aload_n hx hb dX4_tryHandUp_40 rfl (lv_at hl 0 rfl) ?_
      refine lv_dup hx hb dX4_tryHandUp_41 rfl ?_
      refine f_get S hK hw.1 in_X4_tryHandUp_X4 0 rfl rfl 1 (by decide) (List.mem_of_getElem? (i := 2) rfl) rfl rfl dX4_tryHandUp_42 ?_
      refine lv_iload_n hx hb dX4_tryHandUp_45 rfl (lv_at hl 2 rfl) ?_
      obtain ⟨r13, h14, hm⟩ := ob hm
      refine k_rNi S hK hw.1 cal_X5_bit gX4_tryHandUp_X5_bit_n49 (List.mem_of_getElem? (i := 4) rfl) (List.mem_of_getElem? (i := 15) rfl) (List.mem_of_getElem? (i := 14) rfl) (c_X5_bit l D cC cI cJ p1 r13 h14) ⟨⟨rfl, rfl⟩, Nat.le_of_ble_eq_true rfl, Nat.le_of_ble_eq_true rfl⟩ [] rfl rfl hl.1 rfl (Nat.le_of_ble_eq_true rfl) dX4_tryHandUp_46 ⟨Nat.zero_le _, Nat.zero_le _⟩ ?_
      refine lv_ior hx hb dX4_tryHandUp_49 ?_
      refine f_put S hK hw in_X4_tryHandUp_X4 tyX4_ok nmX4 0 rfl rfl 1 (by decide) (List.mem_of_getElem? (i := 2) rfl) rfl rfl rfl rfl (Nat.le_of_ble_eq_true rfl) (ws1 := (wd_8 cC cI cJ a_st st_asked (st_brought ||| r13) st_friends st_used st_crumbs y11 a_mo mo_tasks mo_helpers mo_askedFirst mo_crumbsFirst mo_lastDay a_mo_kinds a_mo_days a_mo_rideDays a_mo_helpKinds a_mo_nexts a_mo_helperKinds a_mo_prices a_mo_helpersOfKind a_mo_numbers a_mo_kinds mo_kinds a_mo_days mo_days a_mo_rideDays mo_rideDays a_mo_helpKinds mo_helpKinds a_mo_nexts mo_nexts a_mo_helperKinds mo_helperKinds a_mo_prices mo_prices a_mo_helpersOfKind mo_helpersOfKind a_mo_numbers mo_numbers)) rfl dX4_tryHandUp_50 (fun H locs hw => ?_)
      refine lv_iconst (v := 1) hx hb dX4_tryHandUp_53 (by decide) ?_
      obtain rfl := Option.some.inj hm
      exact e_WZ S hr hlk hw (Or.inr rfl) rfl hw.1 dX4_tryHandUp_54
    · replace hm := ipos hm c8
      refine lv_iconst (v := 0) hx hb dX4_tryHandUp_20 (by decide) ?_
      obtain rfl := Option.some.inj hm
      exact e_WZ S hr hlk hw (Or.inl rfl) rfl hw.1 dX4_tryHandUp_21

abbrev rX4_trySuggest : Room := { frames := 2, cells := 0, slots := 0, locals := 42 }
theorem cal_X4_trySuggest : Cal yX4_trySuggest wsX4_trySuggest cX4_trySuggest 3 (some .boolean) RX4 2 := ⟨⟨_, rfl⟩, rfl, by decide +kernel, by decide +kernel, by decide +kernel⟩
theorem in_X4_trySuggest_X4 : ∀ w ∈ wsX40, w ∈ wsX4_trySuggest := fun _ h => (List.mem_cons_of_mem _ (List.mem_append_left _ (List.mem_append_right _ h)))
set_option maxHeartbeats 4000000 in
set_option maxRecDepth 100000 in
theorem c_X4_trySuggest (l : Launch) (D : va_G) (cC cI cJ : ClassId) (a_st : Nat) (a_mo : Nat) (a_mo_kinds : Nat) (a_mo_days : Nat) (a_mo_rideDays : Nat) (a_mo_helpKinds : Nat) (a_mo_nexts : Nat) (a_mo_helperKinds : Nat) (a_mo_prices : Nat) (a_mo_helpersOfKind : Nat) (a_mo_numbers : Nat) (st_asked : Int32) (st_brought : Int32) (st_friends : Int32) (st_used : Int32) (st_crumbs : Int32) (st_day : Int32) (mo_tasks : Int32) (mo_helpers : Int32) (mo_askedFirst : Int32) (mo_crumbsFirst : Int32) (mo_lastDay : Int32) (mo_kinds : (Nat → Int32)) (mo_days : (Nat → Int32)) (mo_rideDays : (Nat → Int32)) (mo_helpKinds : (Nat → Int32)) (mo_nexts : (Nat → Int32)) (mo_helperKinds : (Nat → Int32)) (mo_prices : (Nat → Int32)) (mo_helpersOfKind : (Nat → Int32)) (mo_numbers : (Nat → Int32)) (p1 : Int32) (A : Nat → Prop) (hD : va_D A (wd_8 cC cI cJ a_st st_asked st_brought st_friends st_used st_crumbs st_day a_mo mo_tasks mo_helpers mo_askedFirst mo_crumbsFirst mo_lastDay a_mo_kinds a_mo_days a_mo_rideDays a_mo_helpKinds a_mo_nexts a_mo_helperKinds a_mo_prices a_mo_helpersOfKind a_mo_numbers a_mo_kinds mo_kinds a_mo_days mo_days a_mo_rideDays mo_rideDays a_mo_helpKinds mo_helpKinds a_mo_nexts mo_nexts a_mo_helperKinds mo_helperKinds a_mo_prices mo_prices a_mo_helpersOfKind mo_helpersOfKind a_mo_numbers mo_numbers)) (out : (Int32 × Int32)) (hm : m_X4_trySuggest st_asked st_day mo_tasks mo_lastDay p1 = some out) : WrI l yX4_trySuggest wsX4_trySuggest rX4_trySuggest D (tyK cC cI cJ) [.ref a_st, .ref a_mo, .int p1] A (wd_8 cC cI cJ a_st st_asked st_brought st_friends st_used st_crumbs st_day a_mo mo_tasks mo_helpers mo_askedFirst mo_crumbsFirst mo_lastDay a_mo_kinds a_mo_days a_mo_rideDays a_mo_helpKinds a_mo_nexts a_mo_helperKinds a_mo_prices a_mo_helpersOfKind a_mo_numbers a_mo_kinds mo_kinds a_mo_days mo_days a_mo_rideDays mo_rideDays a_mo_helpKinds mo_helpKinds a_mo_nexts mo_nexts a_mo_helperKinds mo_helperKinds a_mo_prices mo_prices a_mo_helpersOfKind mo_helpersOfKind a_mo_numbers mo_numbers) (Bw0 D (wd_8 cC cI cJ a_st out.2 st_brought st_friends st_used st_crumbs st_day a_mo mo_tasks mo_helpers mo_askedFirst mo_crumbsFirst mo_lastDay a_mo_kinds a_mo_days a_mo_rideDays a_mo_helpKinds a_mo_nexts a_mo_helperKinds a_mo_prices a_mo_helpersOfKind a_mo_numbers a_mo_kinds mo_kinds a_mo_days mo_days a_mo_rideDays mo_rideDays a_mo_helpKinds mo_helpKinds a_mo_nexts mo_nexts a_mo_helperKinds mo_helperKinds a_mo_prices mo_prices a_mo_helpersOfKind mo_helpersOfKind a_mo_numbers mo_numbers)) out.1 := by
  unfold m_X4_trySuggest at hm
  refine enter (cc := cX4_trySuggest) (maxL := 3) (ret := (some .boolean)) (lv := [(0, .ref a_st), (1, .ref a_mo), (2, .int p1)]) (by decide) rfl (Nat.le_of_ble_eq_true rfl) rfl ?_
  intro p e s m args below meth c S hr hlk hK hP ls hl
  replace S : CallFix p m c cX4_trySuggest 3 s args wsX4_trySuggest RX4 := S
  have hx := S.1
  have hb := S.2.1
  have hw : Wd D A s.heap (wd_8 cC cI cJ a_st st_asked st_brought st_friends st_used st_crumbs st_day a_mo mo_tasks mo_helpers mo_askedFirst mo_crumbsFirst mo_lastDay a_mo_kinds a_mo_days a_mo_rideDays a_mo_helpKinds a_mo_nexts a_mo_helperKinds a_mo_prices a_mo_helpersOfKind a_mo_numbers a_mo_kinds mo_kinds a_mo_days mo_days a_mo_rideDays mo_rideDays a_mo_helpKinds mo_helpKinds a_mo_nexts mo_nexts a_mo_helperKinds mo_helperKinds a_mo_prices mo_prices a_mo_helpersOfKind mo_helpersOfKind a_mo_numbers mo_numbers) s.heap [] := ⟨hP, hD, va_S.rf⟩
  have hw0 := hw
  refine lv_aload_n hx hb dX4_trySuggest_0 rfl (lv_at hl 0 rfl) ?_
  refine lv_aload_n hx hb dX4_trySuggest_1 rfl (lv_at hl 1 rfl) ?_
  obtain ⟨r1, h2, hm⟩ := ob hm
  refine k_rVi S hK hw.1 cal_X4_tasksToSuggest gX4_trySuggest_X4_tasksToSuggest (c_X4_tasksToSuggest l D cC cI cJ a_st a_mo a_mo_kinds a_mo_days a_mo_rideDays a_mo_helpKinds a_mo_nexts a_mo_helperKinds a_mo_prices a_mo_helpersOfKind a_mo_numbers st_asked st_brought st_friends st_used st_crumbs st_day mo_tasks mo_helpers mo_askedFirst mo_crumbsFirst mo_lastDay mo_kinds mo_days mo_rideDays mo_helpKinds mo_nexts mo_helperKinds mo_prices mo_helpersOfKind mo_numbers r1 h2) ⟨⟨rfl, rfl⟩, Nat.le_of_ble_eq_true rfl, Nat.le_of_ble_eq_true rfl⟩ [0, 1, 2, 3, 4, 5, 6, 7, 8, 9, 10] rfl 0 rfl rfl rfl hl.1 rfl (Nat.le_of_ble_eq_true rfl) dX4_trySuggest_2 ⟨Nat.zero_le _, Nat.zero_le _⟩ ?_
  refine lv_iload_n hx hb dX4_trySuggest_5 rfl (lv_at hl 2 rfl) ?_
  obtain ⟨r3, h4, hm⟩ := ob hm
  refine k_rNi S hK hw.1 cal_X5_bit gX4_trySuggest_X5_bit_n49 (List.mem_of_getElem? (i := 4) rfl) (List.mem_of_getElem? (i := 15) rfl) (List.mem_of_getElem? (i := 14) rfl) (c_X5_bit l D cC cI cJ p1 r3 h4) ⟨⟨rfl, rfl⟩, Nat.le_of_ble_eq_true rfl, Nat.le_of_ble_eq_true rfl⟩ [] rfl rfl hl.1 rfl (Nat.le_of_ble_eq_true rfl) dX4_trySuggest_6 ⟨Nat.zero_le _, Nat.zero_le _⟩ ?_
  refine lv_iand hx hb dX4_trySuggest_9 ?_
  refine lv_if_ne (tgt := 15) hx hb dX4_trySuggest_10 (by decide) (fun c5 => ?_) (fun c5 => ?_)
  · replace hm := ineg hm c5
    refine lv_aload_n hx hb dX4_trySuggest_15 rfl (lv_at hl 0 rfl) ?_
    refine lv_dup hx hb dX4_trySuggest_16 rfl ?_
    refine f_get S hK hw.1 in_X4_trySuggest_X4 0 rfl rfl 0 (by decide) (List.mem_of_getElem? (i := 1) rfl) rfl rfl dX4_trySuggest_17 ?_
    refine lv_iload_n hx hb dX4_trySuggest_20 rfl (lv_at hl 2 rfl) ?_
    obtain ⟨r6, h7, hm⟩ := ob hm
    refine k_rNi S hK hw.1 cal_X5_bit gX4_trySuggest_X5_bit_n49 (List.mem_of_getElem? (i := 4) rfl) (List.mem_of_getElem? (i := 15) rfl) (List.mem_of_getElem? (i := 14) rfl) (c_X5_bit l D cC cI cJ p1 r6 h7) ⟨⟨rfl, rfl⟩, Nat.le_of_ble_eq_true rfl, Nat.le_of_ble_eq_true rfl⟩ [] rfl rfl hl.1 rfl (Nat.le_of_ble_eq_true rfl) dX4_trySuggest_21 ⟨Nat.zero_le _, Nat.zero_le _⟩ ?_
    refine lv_ior hx hb dX4_trySuggest_24 ?_
    refine f_put S hK hw in_X4_trySuggest_X4 tyX4_ok nmX4 0 rfl rfl 0 (by decide) (List.mem_of_getElem? (i := 1) rfl) rfl rfl rfl rfl (Nat.le_of_ble_eq_true rfl) (ws1 := (wd_8 cC cI cJ a_st (st_asked ||| r6) st_brought st_friends st_used st_crumbs st_day a_mo mo_tasks mo_helpers mo_askedFirst mo_crumbsFirst mo_lastDay a_mo_kinds a_mo_days a_mo_rideDays a_mo_helpKinds a_mo_nexts a_mo_helperKinds a_mo_prices a_mo_helpersOfKind a_mo_numbers a_mo_kinds mo_kinds a_mo_days mo_days a_mo_rideDays mo_rideDays a_mo_helpKinds mo_helpKinds a_mo_nexts mo_nexts a_mo_helperKinds mo_helperKinds a_mo_prices mo_prices a_mo_helpersOfKind mo_helpersOfKind a_mo_numbers mo_numbers)) rfl dX4_trySuggest_25 (fun H locs hw => ?_)
    refine lv_iconst (v := 1) hx hb dX4_trySuggest_28 (by decide) ?_
    obtain rfl := Option.some.inj hm
    exact e_WZ S hr hlk hw (Or.inr rfl) rfl hw.1 dX4_trySuggest_29
  · replace hm := ipos hm c5
    refine lv_iconst (v := 0) hx hb dX4_trySuggest_13 (by decide) ?_
    obtain rfl := Option.some.inj hm
    exact e_WZ S hr hlk hw (Or.inl rfl) rfl hw.1 dX4_trySuggest_14

abbrev rX5_back : Room := { frames := 1, cells := 0, slots := 0, locals := 22 }
theorem cal_X5_back : Cal yX5_back wsX5_back cX5_back 1 (some .int) RX5 0 := ⟨⟨_, rfl⟩, rfl, by decide +kernel, by decide +kernel, by decide +kernel⟩
theorem in_X5_back_X1 : ∀ w ∈ wsX10, w ∈ wsX5_back := fun _ h => (List.mem_cons_of_mem _ (List.mem_append_left _ (List.mem_append_right _ h)))
theorem in_X5_back_X5 : ∀ w ∈ wsX50, w ∈ wsX5_back := fun _ h => (List.mem_cons_of_mem _ (List.mem_append_left _ (List.mem_append_left _ (List.mem_append_right _ h))))
set_option maxHeartbeats 4000000 in
set_option maxRecDepth 100000 in
theorem c_X5_back (l : Launch) (D : va_G) (cC cI cJ : ClassId) (a_x : Nat) (g_x_text : Nat) (g_x_months : Nat) (g_x_spare : Nat) (a_no : Nat) (g_x_trial : Nat) (a_un : Nat) (a_ke : Nat) (g_x_seen : Nat) (g_x_unseen : Nat) (g_x_search : Nat) (a_un_held : Nat) (a_ke_held : Nat) (x_letters : Int32) (no_asked : Int32) (no_brought : Int32) (no_friends : Int32) (no_used : Int32) (no_crumbs : Int32) (no_day : Int32) (un_size : Int32) (un_held : (Nat → Int64)) (ke_size : Int32) (ke_held : (Nat → Int64)) (A : Nat → Prop) (hD : va_D A (wd_13 cC cI cJ a_x g_x_text x_letters g_x_months g_x_spare a_no g_x_trial a_un a_ke g_x_seen g_x_unseen g_x_search a_no no_asked no_brought no_friends no_used no_crumbs no_day a_un un_size a_un_held a_un_held un_held a_ke ke_size a_ke_held a_ke_held ke_held)) (out : (Int32 × Int32 × Int32 × Int32 × Int32 × Int32 × Int32 × Int32 × Int32)) (hm : m_X5_back no_asked no_brought no_friends no_used no_crumbs no_day un_size ke_size ke_held = some out) : WrI l yX5_back wsX5_back rX5_back D (tyK cC cI cJ) [.ref a_x] A (wd_13 cC cI cJ a_x g_x_text x_letters g_x_months g_x_spare a_no g_x_trial a_un a_ke g_x_seen g_x_unseen g_x_search a_no no_asked no_brought no_friends no_used no_crumbs no_day a_un un_size a_un_held a_un_held un_held a_ke ke_size a_ke_held a_ke_held ke_held) (Bw0 D (wd_13 cC cI cJ a_x g_x_text x_letters g_x_months g_x_spare a_no g_x_trial a_un a_ke g_x_seen g_x_unseen g_x_search a_no out.2.1 out.2.2.1 out.2.2.2.1 out.2.2.2.2.1 out.2.2.2.2.2.1 out.2.2.2.2.2.2.1 a_un out.2.2.2.2.2.2.2.1 a_un_held a_un_held un_held a_ke out.2.2.2.2.2.2.2.2 a_ke_held a_ke_held ke_held)) out.1 := by
  unfold m_X5_back at hm
  refine enter (cc := cX5_back) (maxL := 1) (ret := (some .int)) (lv := [(0, .ref a_x)]) (by decide) rfl (Nat.le_of_ble_eq_true rfl) rfl ?_
  intro p e s m args below meth c S hr hlk hK hP ls hl
  replace S : CallFix p m c cX5_back 1 s args wsX5_back RX5 := S
  have hx := S.1
  have hb := S.2.1
  have hw : Wd D A s.heap (wd_13 cC cI cJ a_x g_x_text x_letters g_x_months g_x_spare a_no g_x_trial a_un a_ke g_x_seen g_x_unseen g_x_search a_no no_asked no_brought no_friends no_used no_crumbs no_day a_un un_size a_un_held a_un_held un_held a_ke ke_size a_ke_held a_ke_held ke_held) s.heap [] := ⟨hP, hD, va_S.rf⟩
  have hw0 := hw
  refine lv_aload_n hx hb dX5_back_0 rfl (lv_at hl 0 rfl) ?_
  refine f_get S hK hw.1 in_X5_back_X5 0 rfl rfl 7 (by decide) (List.mem_of_getElem? (i := 1) rfl) rfl rfl dX5_back_1 ?_
  refine f_get S hK hw.1 in_X5_back_X1 4 rfl rfl 0 (by decide) (List.mem_of_getElem? (i := 2) rfl) rfl rfl dX5_back_4 ?_
  refine lv_iconst (v := 1) hx hb dX5_back_7 (by decide) ?_
  refine lv_icmp_ge (tgt := 14) hx hb dX5_back_8 (by decide) (fun c1 => ?_) (fun c1 => ?_)
  · replace hm := ipos hm c1
    refine lv_aload_n hx hb dX5_back_14 rfl (lv_at hl 0 rfl) ?_
    refine f_get S hK hw.1 in_X5_back_X5 0 rfl rfl 4 (by decide) (List.mem_of_getElem? (i := 3) rfl) rfl rfl dX5_back_15 ?_
    refine lv_aload_n hx hb dX5_back_18 rfl (lv_at hl 0 rfl) ?_
    refine f_get S hK hw.1 in_X5_back_X5 0 rfl rfl 7 (by decide) (List.mem_of_getElem? (i := 1) rfl) rfl rfl dX5_back_19 ?_
    obtain ⟨r2, h3, hm⟩ := ob hm
    refine k_wVl S hK hw cal_X1_takeLatest gX5_back_X1_takeLatest (c_X1_takeLatest l D cC cI cJ a_ke a_ke_held ke_size 2 ke_held (aw _) (hw.own [4, 5] (by decide) rfl) r2 h3) ⟨⟨rfl, rfl⟩, Nat.le_of_ble_eq_true rfl, Nat.le_of_ble_eq_true rfl⟩ [4, 5] rfl 4 rfl rfl rfl hl.1 rfl (Nat.le_of_ble_eq_true rfl) dX5_back_22 ⟨Nat.zero_le _, Nat.zero_le _⟩ (fun H locs hJ hB => ?_)
    have hw := hJ _ hB rfl
    replace hw : Wd D A _ (wd_13 cC cI cJ a_x g_x_text x_letters g_x_months g_x_spare a_no g_x_trial a_un a_ke g_x_seen g_x_unseen g_x_search a_no no_asked no_brought no_friends no_used no_crumbs no_day a_un un_size a_un_held a_un_held un_held a_ke r2.2 a_ke_held a_ke_held ke_held) H locs := hw
    obtain ⟨r4, h5, hm⟩ := ob hm
    refine k_wVv S hK hw cal_X4_unpack gX5_back_X4_unpack (c_X4_unpack l D cC cI cJ a_no no_asked no_brought no_friends no_used no_crumbs no_day r2.1 (aw _) (hw.own [1] (by decide) rfl) r4 h5) ⟨⟨rfl, rfl⟩, Nat.le_of_ble_eq_true rfl, Nat.le_of_ble_eq_true rfl⟩ [1] rfl 1 rfl rfl rfl hl.1 rfl (Nat.le_of_ble_eq_true rfl) dX5_back_25 ⟨Nat.zero_le _, Nat.zero_le _⟩ (fun H locs hJ hB => ?_)
    have hw := hJ _ hB rfl
    replace hw : Wd D A _ (wd_13 cC cI cJ a_x g_x_text x_letters g_x_months g_x_spare a_no g_x_trial a_un a_ke g_x_seen g_x_unseen g_x_search a_no r4.1 r4.2.1 r4.2.2.1 r4.2.2.2.1 r4.2.2.2.2.1 r4.2.2.2.2.2 a_un un_size a_un_held a_un_held un_held a_ke r2.2 a_ke_held a_ke_held ke_held) H locs := hw
    refine lv_aload_n hx hb dX5_back_28 rfl (lv_at hl 0 rfl) ?_
    refine f_get S hK hw.1 in_X5_back_X5 0 rfl rfl 6 (by decide) (List.mem_of_getElem? (i := 4) rfl) rfl rfl dX5_back_29 ?_
    obtain ⟨r6, h7, hm⟩ := ob hm
    refine k_wVv S hK hw cal_X1_clear gX5_back_X1_clear (c_X1_clear l D cC cI cJ a_un a_un_held un_size 8 un_held (aw _) (hw.own [2, 3] (by decide) rfl) r6 h7) ⟨⟨rfl, rfl⟩, Nat.le_of_ble_eq_true rfl, Nat.le_of_ble_eq_true rfl⟩ [2, 3] rfl 2 rfl rfl rfl hl.1 rfl (Nat.le_of_ble_eq_true rfl) dX5_back_32 ⟨Nat.zero_le _, Nat.zero_le _⟩ (fun H locs hJ hB => ?_)
    have hw := hJ _ hB rfl
    replace hw : Wd D A _ (wd_13 cC cI cJ a_x g_x_text x_letters g_x_months g_x_spare a_no g_x_trial a_un a_ke g_x_seen g_x_unseen g_x_search a_no r4.1 r4.2.1 r4.2.2.1 r4.2.2.2.1 r4.2.2.2.2.1 r4.2.2.2.2.2 a_un r6 a_un_held a_un_held un_held a_ke r2.2 a_ke_held a_ke_held ke_held) H locs := hw
    refine lv_aload_n hx hb dX5_back_35 rfl (lv_at hl 0 rfl) ?_
    refine f_get S hK hw.1 in_X5_back_X5 0 rfl rfl 7 (by decide) (List.mem_of_getElem? (i := 1) rfl) rfl rfl dX5_back_36 ?_
    refine f_get S hK hw.1 in_X5_back_X1 4 rfl rfl 0 (by decide) (List.mem_of_getElem? (i := 2) rfl) rfl rfl dX5_back_39 ?_
    obtain rfl := Option.some.inj hm
    exact e_WI S hr hlk hw rfl hw.1 dX5_back_42
  · replace hm := ineg hm c1
    refine lv_bipush (v := (-2)) hx hb dX5_back_11 (by decide) ?_
    obtain rfl := Option.some.inj hm
    exact e_WI S hr hlk hw rfl hw.1 dX5_back_13

abbrev rX5_befriend : Room := { frames := 2, cells := 0, slots := 0, locals := 44 }
theorem cal_X5_befriend : Cal yX5_befriend wsX5_befriend cX5_befriend 4 (some .int) RX5 1 := ⟨⟨_, rfl⟩, rfl, by decide +kernel, by decide +kernel, by decide +kernel⟩
theorem in_X5_befriend_X4 : ∀ w ∈ wsX40, w ∈ wsX5_befriend := fun _ h => (List.mem_cons_of_mem _ (List.mem_append_left _ (List.mem_append_left _ (List.mem_append_right _ h))))
theorem in_X5_befriend_X5 : ∀ w ∈ wsX50, w ∈ wsX5_befriend := fun _ h => (List.mem_cons_of_mem _ (List.mem_append_left _ (List.mem_append_left _ (List.mem_append_left _ (List.mem_append_right _ h)))))
set_option maxHeartbeats 4000000 in
set_option maxRecDepth 100000 in
theorem c_X5_befriend (l : Launch) (D : va_G) (cC cI cJ : ClassId) (a_x : Nat) (g_x_text : Nat) (a_mo : Nat) (g_x_spare : Nat) (a_no : Nat) (g_x_trial : Nat) (a_un : Nat) (g_x_kept : Nat) (g_x_seen : Nat) (g_x_unseen : Nat) (g_x_search : Nat) (a_mo_kinds : Nat) (a_mo_days : Nat) (a_mo_rideDays : Nat) (a_mo_helpKinds : Nat) (a_mo_nexts : Nat) (a_mo_helperKinds : Nat) (a_mo_prices : Nat) (a_mo_helpersOfKind : Nat) (a_mo_numbers : Nat) (a_un_held : Nat) (x_letters : Int32) (mo_tasks : Int32) (mo_helpers : Int32) (mo_askedFirst : Int32) (mo_crumbsFirst : Int32) (mo_lastDay : Int32) (mo_kinds : (Nat → Int32)) (mo_days : (Nat → Int32)) (mo_rideDays : (Nat → Int32)) (mo_helpKinds : (Nat → Int32)) (mo_nexts : (Nat → Int32)) (mo_helperKinds : (Nat → Int32)) (mo_prices : (Nat → Int32)) (mo_helpersOfKind : (Nat → Int32)) (mo_numbers : (Nat → Int32)) (no_asked : Int32) (no_brought : Int32) (no_friends : Int32) (no_used : Int32) (no_crumbs : Int32) (no_day : Int32) (un_size : Int32) (un_held : (Nat → Int64)) (p0 : Int32) (N : Nat) (A : Nat → Prop) (hD : va_D A (wd_14 cC cI cJ a_x g_x_text x_letters a_mo g_x_spare a_no g_x_trial a_un g_x_kept g_x_seen g_x_unseen g_x_search a_mo mo_tasks mo_helpers mo_askedFirst mo_crumbsFirst mo_lastDay a_mo_kinds a_mo_days a_mo_rideDays a_mo_helpKinds a_mo_nexts a_mo_helperKinds a_mo_prices a_mo_helpersOfKind a_mo_numbers a_mo_kinds mo_kinds a_mo_days mo_days a_mo_rideDays mo_rideDays a_mo_helpKinds mo_helpKinds a_mo_nexts mo_nexts a_mo_helperKinds mo_helperKinds a_mo_prices mo_prices a_mo_helpersOfKind mo_helpersOfKind a_mo_numbers mo_numbers a_no no_asked no_brought no_friends no_used no_crumbs no_day a_un un_size a_un_held a_un_held un_held)) (out : (Int32 × Int32 × Int32 × Int32 × (Nat → Int64))) (hm : m_X5_befriend N mo_helpers mo_prices no_asked no_brought no_friends no_used no_crumbs no_day un_size un_held p0 = some out) : WrI l yX5_befriend wsX5_befriend rX5_befriend D (tyK cC cI cJ) [.ref a_x, .int p0] A (wd_14 cC cI cJ a_x g_x_text x_letters a_mo g_x_spare a_no g_x_trial a_un g_x_kept g_x_seen g_x_unseen g_x_search a_mo mo_tasks mo_helpers mo_askedFirst mo_crumbsFirst mo_lastDay a_mo_kinds a_mo_days a_mo_rideDays a_mo_helpKinds a_mo_nexts a_mo_helperKinds a_mo_prices a_mo_helpersOfKind a_mo_numbers a_mo_kinds mo_kinds a_mo_days mo_days a_mo_rideDays mo_rideDays a_mo_helpKinds mo_helpKinds a_mo_nexts mo_nexts a_mo_helperKinds mo_helperKinds a_mo_prices mo_prices a_mo_helpersOfKind mo_helpersOfKind a_mo_numbers mo_numbers a_no no_asked no_brought no_friends no_used no_crumbs no_day a_un un_size a_un_held a_un_held un_held) (Bw0 D (wd_14 cC cI cJ a_x g_x_text x_letters a_mo g_x_spare a_no g_x_trial a_un g_x_kept g_x_seen g_x_unseen g_x_search a_mo mo_tasks mo_helpers mo_askedFirst mo_crumbsFirst mo_lastDay a_mo_kinds a_mo_days a_mo_rideDays a_mo_helpKinds a_mo_nexts a_mo_helperKinds a_mo_prices a_mo_helpersOfKind a_mo_numbers a_mo_kinds mo_kinds a_mo_days mo_days a_mo_rideDays mo_rideDays a_mo_helpKinds mo_helpKinds a_mo_nexts mo_nexts a_mo_helperKinds mo_helperKinds a_mo_prices mo_prices a_mo_helpersOfKind mo_helpersOfKind a_mo_numbers mo_numbers a_no no_asked no_brought out.2.1 no_used out.2.2.1 no_day a_un out.2.2.2.1 a_un_held a_un_held out.2.2.2.2)) out.1 := by
  unfold m_X5_befriend at hm
  refine enter (cc := cX5_befriend) (maxL := 4) (ret := (some .int)) (lv := [(0, .ref a_x), (1, .int p0)]) (by decide) rfl (Nat.le_of_ble_eq_true rfl) rfl ?_
  intro p e s m args below meth c S hr hlk hK hP ls hl
  replace S : CallFix p m c cX5_befriend 4 s args wsX5_befriend RX5 := S
  have hx := S.1
  have hb := S.2.1
  have hw : Wd D A s.heap (wd_14 cC cI cJ a_x g_x_text x_letters a_mo g_x_spare a_no g_x_trial a_un g_x_kept g_x_seen g_x_unseen g_x_search a_mo mo_tasks mo_helpers mo_askedFirst mo_crumbsFirst mo_lastDay a_mo_kinds a_mo_days a_mo_rideDays a_mo_helpKinds a_mo_nexts a_mo_helperKinds a_mo_prices a_mo_helpersOfKind a_mo_numbers a_mo_kinds mo_kinds a_mo_days mo_days a_mo_rideDays mo_rideDays a_mo_helpKinds mo_helpKinds a_mo_nexts mo_nexts a_mo_helperKinds mo_helperKinds a_mo_prices mo_prices a_mo_helpersOfKind mo_helpersOfKind a_mo_numbers mo_numbers a_no no_asked no_brought no_friends no_used no_crumbs no_day a_un un_size a_un_held a_un_held un_held) s.heap [] := ⟨hP, hD, va_S.rf⟩
  have hw0 := hw
  refine lv_aload_n hx hb dX5_befriend_0 rfl (lv_at hl 0 rfl) ?_
  refine f_get S hK hw.1 in_X5_befriend_X5 0 rfl rfl 2 (by decide) (List.mem_of_getElem? (i := 1) rfl) rfl rfl dX5_befriend_1 ?_
  refine lv_iload_n hx hb dX5_befriend_4 rfl (lv_at hl 1 rfl) ?_
  obtain ⟨r1, h2, hm⟩ := ob hm
  refine k_rVi S hK hw.1 cal_X0_hasHelper gX5_befriend_X0_hasHelper (c_X0_hasHelper l D cC cI cJ a_mo a_mo_kinds a_mo_days a_mo_rideDays a_mo_helpKinds a_mo_nexts a_mo_helperKinds a_mo_prices a_mo_helpersOfKind a_mo_numbers mo_tasks mo_helpers mo_askedFirst mo_crumbsFirst mo_lastDay mo_kinds mo_days mo_rideDays mo_helpKinds mo_nexts mo_helperKinds mo_prices mo_helpersOfKind mo_numbers p0 r1 h2) ⟨⟨rfl, rfl⟩, Nat.le_of_ble_eq_true rfl, Nat.le_of_ble_eq_true rfl⟩ [1, 2, 3, 4, 5, 6, 7, 8, 9, 10] rfl 1 rfl rfl rfl hl.1 rfl (Nat.le_of_ble_eq_true rfl) dX5_befriend_5 ⟨Nat.zero_le _, Nat.zero_le _⟩ ?_
  refine lv_if_ne (tgt := 13) hx hb dX5_befriend_8 (by decide) (fun c3 => ?_) (fun c3 => ?_)
  · replace hm := ineg hm c3
    refine lv_aload_n hx hb dX5_befriend_13 rfl (lv_at hl 0 rfl) ?_
    refine f_get S hK hw.1 in_X5_befriend_X5 0 rfl rfl 4 (by decide) (List.mem_of_getElem? (i := 2) rfl) rfl rfl dX5_befriend_14 ?_
    obtain ⟨r4, h5, hm⟩ := ob hm
    refine k_rVl S hK hw.1 cal_X4_packed gX5_befriend_X4_packed (c_X4_packed l D cC cI cJ a_no no_asked no_brought no_friends no_used no_crumbs no_day r4 h5) ⟨⟨rfl, rfl⟩, Nat.le_of_ble_eq_true rfl, Nat.le_of_ble_eq_true rfl⟩ [11] rfl 11 rfl rfl rfl hl.1 rfl (Nat.le_of_ble_eq_true rfl) dX5_befriend_17 ⟨Nat.zero_le _, Nat.zero_le _⟩ ?_
    refine lv_lstore_n (lv' := [(2, .long r4), (0, .ref a_x), (1, .int p0)]) hx hb dX5_befriend_20 rfl hl (by decide) rfl (fun ls hl => ?_)
    refine lv_aload_n hx hb dX5_befriend_21 rfl (lv_at hl 1 rfl) ?_
    refine f_get S hK hw.1 in_X5_befriend_X5 0 rfl rfl 4 (by decide) (List.mem_of_getElem? (i := 2) rfl) rfl rfl dX5_befriend_22 ?_
    refine lv_aload_n hx hb dX5_befriend_25 rfl (lv_at hl 1 rfl) ?_
    refine f_get S hK hw.1 in_X5_befriend_X5 0 rfl rfl 2 (by decide) (List.mem_of_getElem? (i := 1) rfl) rfl rfl dX5_befriend_26 ?_
    refine lv_iload_n hx hb dX5_befriend_29 rfl (lv_at hl 2 rfl) ?_
    obtain ⟨r6, h7, hm⟩ := ob hm
    refine k_wVi S hK hw cal_X4_tryBefriend gX5_befriend_X4_tryBefriend (c_X4_tryBefriend l D cC cI cJ a_no a_mo a_mo_kinds a_mo_days a_mo_rideDays a_mo_helpKinds a_mo_nexts a_mo_helperKinds a_mo_prices a_mo_helpersOfKind a_mo_numbers no_asked no_brought no_friends no_used no_crumbs no_day mo_tasks mo_helpers mo_askedFirst mo_crumbsFirst mo_lastDay mo_kinds mo_days mo_rideDays mo_helpKinds mo_nexts mo_helperKinds mo_prices mo_helpersOfKind mo_numbers p0 (aw _) (hw.own [11, 1, 2, 3, 4, 5, 6, 7, 8, 9, 10] (by decide) rfl) r6 h7) ⟨⟨rfl, rfl⟩, Nat.le_of_ble_eq_true rfl, Nat.le_of_ble_eq_true rfl⟩ [11, 1, 2, 3, 4, 5, 6, 7, 8, 9, 10] rfl 11 rfl rfl rfl hl.1 rfl (Nat.le_of_ble_eq_true rfl) dX5_befriend_30 ⟨Nat.zero_le _, Nat.zero_le _⟩ (fun H locs hJ hB => ?_)
    have hw := hJ _ hB rfl
    replace hw : Wd D A _ (wd_14 cC cI cJ a_x g_x_text x_letters a_mo g_x_spare a_no g_x_trial a_un g_x_kept g_x_seen g_x_unseen g_x_search a_mo mo_tasks mo_helpers mo_askedFirst mo_crumbsFirst mo_lastDay a_mo_kinds a_mo_days a_mo_rideDays a_mo_helpKinds a_mo_nexts a_mo_helperKinds a_mo_prices a_mo_helpersOfKind a_mo_numbers a_mo_kinds mo_kinds a_mo_days mo_days a_mo_rideDays mo_rideDays a_mo_helpKinds mo_helpKinds a_mo_nexts mo_nexts a_mo_helperKinds mo_helperKinds a_mo_prices mo_prices a_mo_helpersOfKind mo_helpersOfKind a_mo_numbers mo_numbers a_no no_asked no_brought r6.2.1 no_used r6.2.2 no_day a_un un_size a_un_held a_un_held un_held) H locs := hw
    refine lv_if_ne (tgt := 39) hx hb dX5_befriend_33 (by decide) (fun c8 => ?_) (fun c8 => ?_)
    · replace hm := ineg hm c8
      refine lv_aload_n hx hb dX5_befriend_39 rfl (lv_at hl 1 rfl) ?_
      refine f_get S hK hw.1 in_X5_befriend_X5 0 rfl rfl 6 (by decide) (List.mem_of_getElem? (i := 3) rfl) rfl rfl dX5_befriend_40 ?_
      refine lv_lload_n hx hb dX5_befriend_43 rfl (lv_at hl 0 rfl) ?_
      obtain ⟨r9, h10, hm⟩ := ob hm
      refine k_wVv S hK hw cal_X1_put gX5_befriend_X1_put (c_X1_put l D cC cI cJ a_un a_un_held un_size 8 un_held r4 N (aw _) (hw.own [12, 13] (by decide) rfl) r9 h10) ⟨⟨rfl, rfl⟩, Nat.le_of_ble_eq_true rfl, Nat.le_of_ble_eq_true rfl⟩ [12, 13] rfl 12 rfl rfl rfl hl.1 rfl (Nat.le_of_ble_eq_true rfl) dX5_befriend_44 ⟨Nat.zero_le _, Nat.zero_le _⟩ (fun H locs hJ hB => ?_)
      have hw := hJ _ hB rfl
      replace hw : Wd D A _ (wd_14 cC cI cJ a_x g_x_text x_letters a_mo g_x_spare a_no g_x_trial a_un g_x_kept g_x_seen g_x_unseen g_x_search a_mo mo_tasks mo_helpers mo_askedFirst mo_crumbsFirst mo_lastDay a_mo_kinds a_mo_days a_mo_rideDays a_mo_helpKinds a_mo_nexts a_mo_helperKinds a_mo_prices a_mo_helpersOfKind a_mo_numbers a_mo_kinds mo_kinds a_mo_days mo_days a_mo_rideDays mo_rideDays a_mo_helpKinds mo_helpKinds a_mo_nexts mo_nexts a_mo_helperKinds mo_helperKinds a_mo_prices mo_prices a_mo_helpersOfKind mo_helpersOfKind a_mo_numbers mo_numbers a_no no_asked no_brought r6.2.1 no_used r6.2.2 no_day a_un r9.1 a_un_held a_un_held r9.2) H locs := hw
      refine lv_aload_n hx hb dX5_befriend_47 rfl (lv_at hl 1 rfl) ?_
      refine f_get S hK hw.1 in_X5_befriend_X5 0 rfl rfl 4 (by decide) (List.mem_of_getElem? (i := 2) rfl) rfl rfl dX5_befriend_48 ?_
      refine f_get S hK hw.1 in_X5_befriend_X4 11 rfl rfl 4 (by decide) (List.mem_of_getElem? (i := 4) rfl) rfl rfl dX5_befriend_51 ?_
      obtain rfl := Option.some.inj hm
      exact e_WI S hr hlk hw rfl hw.1 dX5_befriend_54
    · replace hm := ipos hm c8
      refine lv_bipush (v := (-2)) hx hb dX5_befriend_36 (by decide) ?_
      obtain rfl := Option.some.inj hm
      exact e_WI S hr hlk hw rfl hw.1 dX5_befriend_38
  · replace hm := ipos hm c3
    refine lv_iconst (v := (-1)) hx hb dX5_befriend_11 (by decide) ?_
    obtain rfl := Option.some.inj hm
    exact e_WI S hr hlk hw rfl hw.1 dX5_befriend_12

abbrev rX5_power : Room := { frames := 0, cells := 0, slots := 0, locals := 0 }
theorem cal_X5_power : Cal yX5_power wsX5_power cX5_power 4 (some .int) RX5 2 := ⟨⟨_, rfl⟩, rfl, by decide +kernel, by decide +kernel, by decide +kernel⟩
set_option maxHeartbeats 4000000 in
set_option maxRecDepth 100000 in
theorem t_X5_power_4 {p : Program} {e : Env} {s : State} {m : MethodId} {args : Array Value} {below : List Frame} {meth : Method} {c : Code} {Q : State → Prop} {H : Heap} {locs : List Loc} (l : Launch) {D : va_G} {cC cI cJ : ClassId} (S : CallFix p m c cX5_power 4 s args wsX5_power RX5) (hK : KK D (tyK cC cI cJ) s)  (v0 : Int32) (v1 : Int32) (hP : va_P D vwCl [] H) : ∀ (n : Nat) (v2 : Int32) (v3 : Int32) (out : Int32), lp_X5_power_4 v0 v1 n v2 v3 = some out → ∀ (ls : Array Slot), lv_has ls 4 [(0, .int v0), (1, .int v1), (2, .int v2), (3, .int v3)] → (∀ (ls : Array Slot), lv_has ls 4 [(2, .int out)] → W p l e rX5_power s m args below meth c H locs 0 0 Q (F0 m 19 ls [])) → W p l e rX5_power s m args below meth c H locs 0 0 Q (F0 m 4 ls []) := by
  have hx := S.1
  have hb := S.2.1
  intro n
  induction n with
  | zero => intro v2 v3 out hm; cases (show (none : Option Int32) = some out from hm)
  | succ n ih =>
    intro v2 v3 out hm  ls hl K0
    rw [lp_X5_power_4] at hm
    refine lv_iload_n hx hb dX5_power_4 rfl (lv_at hl 3 rfl) ?_
    refine lv_iload_n hx hb dX5_power_5 rfl (lv_at hl 1 rfl) ?_
    refine lv_icmp_ge (tgt := 19) hx hb dX5_power_6 (by decide) (fun c1 => ?_) (fun c1 => ?_)
    · replace hm := ipos hm c1
      obtain rfl := Option.some.inj hm
      exact K0  ls (lv_sub hl [2] rfl)
    · replace hm := ineg hm c1
      refine lv_iload_n hx hb dX5_power_9 rfl (lv_at hl 2 rfl) ?_
      refine lv_iload_n hx hb dX5_power_10 rfl (lv_at hl 0 rfl) ?_
      refine lv_imul hx hb dX5_power_11 ?_
      refine lv_istore_n (lv' := [(2, .int (v2 * v0)), (0, .int v0), (1, .int v1), (3, .int v3)]) hx hb dX5_power_12 rfl hl (by decide) rfl (fun ls hl => ?_)
      refine lv_iinc (v := (v3 + 1)) (lv' := [(3, .int (v3 + 1)), (2, .int (v2 * v0)), (0, .int v0), (1, .int v1)]) hx hb dX5_power_13 hl (k := 3) rfl (by rw [ofi_1]) (by decide) rfl (fun ls hl => ?_)
      refine lv_goto (tgt := 4) hx hb dX5_power_16 (by decide) ?_
      exact ih (v2 * v0) (v3 + 1) _ hm  ls (lv_sub hl [2, 3, 1, 0] rfl) K0
set_option maxHeartbeats 4000000 in
set_option maxRecDepth 100000 in
theorem c_X5_power (l : Launch) (D : va_G) (cC cI cJ : ClassId)  (p0 : Int32) (p1 : Int32) (N : Nat) (out : Int32) (hm : m_X5_power N p0 p1 = some out) : RdI l yX5_power wsX5_power rX5_power D (tyK cC cI cJ) [.int p0, .int p1] [] out := by
  unfold m_X5_power at hm
  refine enter (cc := cX5_power) (maxL := 4) (ret := (some .int)) (lv := [(0, .int p0), (1, .int p1)]) (by decide) rfl (Nat.le_of_ble_eq_true rfl) rfl ?_
  intro p e s m args below meth c S hr hlk hK hP ls hl
  replace S : CallFix p m c cX5_power 4 s args wsX5_power RX5 := S
  have hx := S.1
  have hb := S.2.1
  refine lv_iconst (v := 1) hx hb dX5_power_0 (by decide) ?_
  refine lv_istore_n (lv' := [(2, .int (1 : Int32)), (0, .int p0), (1, .int p1)]) hx hb dX5_power_1 rfl hl (by decide) rfl (fun ls hl => ?_)
  refine lv_iconst (v := 0) hx hb dX5_power_2 (by decide) ?_
  refine lv_istore_n (lv' := [(3, .int (0 : Int32)), (2, .int (1 : Int32)), (0, .int p0), (1, .int p1)]) hx hb dX5_power_3 rfl hl (by decide) rfl (fun ls hl => ?_)
  obtain ⟨r2, h3, hm⟩ := ob hm
  refine t_X5_power_4 l S hK  p0 p1 hP N (1 : Int32) (0 : Int32) r2 h3  ls (lv_sub hl [2, 3, 1, 0] rfl) (fun ls hl => ?_)
  refine lv_iload_n hx hb dX5_power_19 rfl (lv_at hl 0 rfl) ?_
  exact e_RI S hr hlk (Option.some.inj hm) dX5_power_20

abbrev rX5_chancesOfSet : Room := { frames := 1, cells := 0, slots := 0, locals := 23 }
theorem cal_X5_chancesOfSet : Cal yX5_chancesOfSet wsX5_chancesOfSet cX5_chancesOfSet 4 (some .int) RX5 3 := ⟨⟨_, rfl⟩, rfl, by decide +kernel, by decide +kernel, by decide +kernel⟩
set_option maxHeartbeats 4000000 in
set_option maxRecDepth 100000 in
theorem c_X5_chancesOfSet (l : Launch) (D : va_G) (cC cI cJ : ClassId)  (p0 : Int32) (p1 : Int32) (p2 : Int32) (N : Nat) (out : Int32) (hm : m_X5_chancesOfSet N p0 p1 p2 = some out) : RdI l yX5_chancesOfSet wsX5_chancesOfSet rX5_chancesOfSet D (tyK cC cI cJ) [.int p0, .int p1, .int p2] [] out := by
  unfold m_X5_chancesOfSet at hm
  refine enter (cc := cX5_chancesOfSet) (maxL := 4) (ret := (some .int)) (lv := [(0, .int p0), (1, .int p1), (2, .int p2)]) (by decide) rfl (Nat.le_of_ble_eq_true rfl) rfl ?_
  intro p e s m args below meth c S hr hlk hK hP ls hl
  replace S : CallFix p m c cX5_chancesOfSet 4 s args wsX5_chancesOfSet RX5 := S
  have hx := S.1
  have hb := S.2.1
  refine lv_iload_n hx hb dX5_chancesOfSet_0 rfl (lv_at hl 1 rfl) ?_
  obtain ⟨r1, h2, hm⟩ := ob hm
  refine k_rSi S hK hP cal_J6_bitCount_0f7a4 gX5_chancesOfSet_J6_bitCount_0f7a4 (c_J6_bitCount_0f7a4 l D cC cI cJ p1 r1 h2) ⟨⟨rfl, rfl⟩, Nat.le_of_ble_eq_true rfl, Nat.le_of_ble_eq_true rfl⟩ [] rfl rfl hl.1 rfl (Nat.le_of_ble_eq_true rfl) dX5_chancesOfSet_1 ⟨Nat.zero_le _, Nat.zero_le _⟩ ?_
  refine lv_istore_n (lv' := [(3, .int r1), (0, .int p0), (1, .int p1), (2, .int p2)]) hx hb dX5_chancesOfSet_4 rfl hl (by decide) rfl (fun ls hl => ?_)
  refine lv_iload_n hx hb dX5_chancesOfSet_5 rfl (lv_at hl 3 rfl) ?_
  refine lv_iload_n hx hb dX5_chancesOfSet_6 rfl (lv_at hl 0 rfl) ?_
  obtain ⟨r3, h4, hm⟩ := ob hm
  refine k_rSi S hK hP cal_X5_power gX5_chancesOfSet_X5_power (c_X5_power l D cC cI cJ p2 r1 N r3 h4) ⟨⟨rfl, rfl⟩, Nat.le_of_ble_eq_true rfl, Nat.le_of_ble_eq_true rfl⟩ [] rfl rfl hl.1 rfl (Nat.le_of_ble_eq_true rfl) dX5_chancesOfSet_7 ⟨Nat.zero_le _, Nat.zero_le _⟩ ?_
  refine lv_bipush (v := 10) hx hb dX5_chancesOfSet_10 (by decide) ?_
  refine lv_iload_n hx hb dX5_chancesOfSet_12 rfl (lv_at hl 3 rfl) ?_
  refine lv_isub hx hb dX5_chancesOfSet_13 ?_
  refine lv_iload_n hx hb dX5_chancesOfSet_14 rfl (lv_at hl 1 rfl) ?_
  obtain ⟨r5, h6, hm⟩ := ob hm
  refine k_rSi S hK hP cal_J6_bitCount_0f7a4 gX5_chancesOfSet_J6_bitCount_0f7a4 (c_J6_bitCount_0f7a4 l D cC cI cJ p0 r5 h6) ⟨⟨rfl, rfl⟩, Nat.le_of_ble_eq_true rfl, Nat.le_of_ble_eq_true rfl⟩ [] rfl rfl hl.1 rfl (Nat.le_of_ble_eq_true rfl) dX5_chancesOfSet_15 ⟨Nat.zero_le _, Nat.zero_le _⟩ ?_
  refine lv_iload_n hx hb dX5_chancesOfSet_18 rfl (lv_at hl 0 rfl) ?_
  refine lv_isub hx hb dX5_chancesOfSet_19 ?_
  obtain ⟨r7, h8, hm⟩ := ob hm
  refine k_rSi S hK hP cal_X5_power gX5_chancesOfSet_X5_power (c_X5_power l D cC cI cJ ((10 : Int32) - p2) (r5 - r1) N r7 h8) ⟨⟨rfl, rfl⟩, Nat.le_of_ble_eq_true rfl, Nat.le_of_ble_eq_true rfl⟩ [] rfl rfl hl.1 rfl (Nat.le_of_ble_eq_true rfl) dX5_chancesOfSet_20 ⟨Nat.zero_le _, Nat.zero_le _⟩ ?_
  refine lv_imul hx hb dX5_chancesOfSet_23 ?_
  exact e_RI S hr hlk (Option.some.inj hm) dX5_chancesOfSet_24

abbrev rX5_chancesOfTen : Room := { frames := 15, cells := 0, slots := 0, locals := 402 }
theorem cal_X5_chancesOfTen : Cal yX5_chancesOfTen wsX5_chancesOfTen cX5_chancesOfTen 6 (some .int) RX5 2 := ⟨⟨_, rfl⟩, rfl, by decide +kernel, by decide +kernel, by decide +kernel⟩
theorem in_X5_chancesOfTen_X4 : ∀ w ∈ wsX40, w ∈ wsX5_chancesOfTen := fun _ h => (List.mem_cons_of_mem _ (List.mem_append_left _ (List.mem_append_left _ (List.mem_append_left _ (List.mem_append_right _ h)))))
theorem in_X5_chancesOfTen_X5 : ∀ w ∈ wsX50, w ∈ wsX5_chancesOfTen := fun _ h => (List.mem_cons_of_mem _ (List.mem_append_left _ (List.mem_append_left _ (List.mem_append_left _ (List.mem_append_left _ (List.mem_append_right _ h))))))
set_option maxHeartbeats 4000000 in
set_option maxRecDepth 100000 in
theorem t_X5_chancesOfTen_5 {p : Program} {e : Env} {s : State} {m : MethodId} {args : Array Value} {below : List Frame} {meth : Method} {c : Code} {Q : State → Prop} (l : Launch) {D : va_G} {cC cI cJ : ClassId} {A : Nat → Prop} {H0 : Heap} (S : CallFix p m c cX5_chancesOfTen 6 s args wsX5_chancesOfTen RX5) (hK : KK D (tyK cC cI cJ) s) (a_x : Nat) (g_x_text : Nat) (a_mo : Nat) (g_x_spare : Nat) (a_no : Nat) (a_tr : Nat) (g_x_undoable : Nat) (g_x_kept : Nat) (g_x_seen : Nat) (a_us : Nat) (a_sr : Nat) (a_mo_kinds : Nat) (a_mo_days : Nat) (a_mo_rideDays : Nat) (a_mo_helpKinds : Nat) (a_mo_nexts : Nat) (a_mo_helperKinds : Nat) (a_mo_prices : Nat) (a_mo_helpersOfKind : Nat) (a_mo_numbers : Nat) (a_us_left : Nat) (a_sr_known : Nat) (a_ro : Nat) (g_sr_months : Nat) (g_sr_heeded : Nat) (N : Nat) (v1 : Int32) (v2 : Int32) (x_letters : Int32) (mo_tasks : Int32) (mo_helpers : Int32) (mo_askedFirst : Int32) (mo_crumbsFirst : Int32) (mo_lastDay : Int32) (mo_kinds : (Nat → Int32)) (mo_days : (Nat → Int32)) (mo_rideDays : (Nat → Int32)) (mo_helpKinds : (Nat → Int32)) (mo_nexts : (Nat → Int32)) (mo_helperKinds : (Nat → Int32)) (mo_prices : (Nat → Int32)) (mo_helpersOfKind : (Nat → Int32)) (mo_numbers : (Nat → Int32)) (no_asked : Int32) (no_brought : Int32) (no_friends : Int32) (no_used : Int32) (no_crumbs : Int32) (no_day : Int32) (us_size : Int32) (us_lastPlace : Int32) (us_left : (Nat → Int32)) : ∀ (n : Nat) (v3 : Int32) (v4 : Int32) (tr_asked : Int32) (tr_brought : Int32) (tr_friends : Int32) (tr_used : Int32) (tr_crumbs : Int32) (tr_day : Int32) (sr_number : Int64) (sr_enough : Int64) (sr_hopeless : Int32) (sr_known : (Nat → Int64)) (ro_asked : Int32) (ro_brought : Int32) (ro_friends : Int32) (ro_used : Int32) (ro_crumbs : Int32) (ro_day : Int32) (out : (Int32 × Int32 × Int32 × Int32 × Int32 × Int32 × Int32 × Int64 × Int64 × Int32 × (Nat → Int64) × Int32 × Int32 × Int32 × Int32 × Int32 × Int32)), lp_X5_chancesOfTen_5 N v1 v2 mo_tasks mo_lastDay mo_kinds mo_rideDays mo_helpKinds mo_nexts mo_helpersOfKind no_asked no_brought no_friends no_used no_crumbs no_day us_lastPlace us_left n v3 v4 tr_asked tr_brought tr_friends tr_used tr_crumbs tr_day sr_number sr_enough sr_hopeless sr_known ro_asked ro_brought ro_friends ro_used ro_crumbs ro_day = some out → ∀ (z_15_6 : Nat) (z_15_7 : Nat) (H : Heap) (locs : List Loc) (ls : Array Slot), Wd D A H0 (wd_15 cC cI cJ a_x g_x_text x_letters a_mo g_x_spare a_no a_tr g_x_undoable g_x_kept g_x_seen a_us a_sr a_mo mo_tasks mo_helpers mo_askedFirst mo_crumbsFirst mo_lastDay a_mo_kinds a_mo_days a_mo_rideDays a_mo_helpKinds a_mo_nexts a_mo_helperKinds a_mo_prices a_mo_helpersOfKind a_mo_numbers a_mo_kinds mo_kinds a_mo_days mo_days a_mo_rideDays mo_rideDays a_mo_helpKinds mo_helpKinds a_mo_nexts mo_nexts a_mo_helperKinds mo_helperKinds a_mo_prices mo_prices a_mo_helpersOfKind mo_helpersOfKind a_mo_numbers mo_numbers a_no no_asked no_brought no_friends no_used no_crumbs no_day a_tr tr_asked tr_brought tr_friends tr_used tr_crumbs tr_day a_us us_size us_lastPlace a_us_left a_us_left us_left a_sr a_sr_known a_ro a_us sr_number sr_enough sr_hopeless z_15_6 z_15_7 a_sr_known sr_known a_ro ro_asked ro_brought ro_friends ro_used ro_crumbs ro_day) H locs → lv_has ls 6 [(0, .ref a_x), (1, .int v1), (2, .int v2), (3, .int v3), (4, .int v4)] → (∀ (z_15_6 : Nat) (z_15_7 : Nat) (H : Heap) (locs : List Loc) (ls : Array Slot), Wd D A H0 (wd_15 cC cI cJ a_x g_x_text x_letters a_mo g_x_spare a_no a_tr g_x_undoable g_x_kept g_x_seen a_us a_sr a_mo mo_tasks mo_helpers mo_askedFirst mo_crumbsFirst mo_lastDay a_mo_kinds a_mo_days a_mo_rideDays a_mo_helpKinds a_mo_nexts a_mo_helperKinds a_mo_prices a_mo_helpersOfKind a_mo_numbers a_mo_kinds mo_kinds a_mo_days mo_days a_mo_rideDays mo_rideDays a_mo_helpKinds mo_helpKinds a_mo_nexts mo_nexts a_mo_helperKinds mo_helperKinds a_mo_prices mo_prices a_mo_helpersOfKind mo_helpersOfKind a_mo_numbers mo_numbers a_no no_asked no_brought no_friends no_used no_crumbs no_day a_tr out.2.1 out.2.2.1 out.2.2.2.1 out.2.2.2.2.1 out.2.2.2.2.2.1 out.2.2.2.2.2.2.1 a_us us_size us_lastPlace a_us_left a_us_left us_left a_sr a_sr_known a_ro a_us out.2.2.2.2.2.2.2.1 out.2.2.2.2.2.2.2.2.1 out.2.2.2.2.2.2.2.2.2.1 z_15_6 z_15_7 a_sr_known out.2.2.2.2.2.2.2.2.2.2.1 a_ro out.2.2.2.2.2.2.2.2.2.2.2.1 out.2.2.2.2.2.2.2.2.2.2.2.2.1 out.2.2.2.2.2.2.2.2.2.2.2.2.2.1 out.2.2.2.2.2.2.2.2.2.2.2.2.2.2.1 out.2.2.2.2.2.2.2.2.2.2.2.2.2.2.2.1 out.2.2.2.2.2.2.2.2.2.2.2.2.2.2.2.2) H locs → lv_has ls 6 [(3, .int out.1)] → W p l e rX5_chancesOfTen s m args below meth c H locs 0 0 Q (F0 m 101 ls [])) → W p l e rX5_chancesOfTen s m args below meth c H locs 0 0 Q (F0 m 5 ls []) := by
  have hx := S.1
  have hb := S.2.1
  intro n
  induction n with
  | zero => intro v3 v4 tr_asked tr_brought tr_friends tr_used tr_crumbs tr_day sr_number sr_enough sr_hopeless sr_known ro_asked ro_brought ro_friends ro_used ro_crumbs ro_day out hm; cases (show (none : Option (Int32 × Int32 × Int32 × Int32 × Int32 × Int32 × Int32 × Int64 × Int64 × Int32 × (Nat → Int64) × Int32 × Int32 × Int32 × Int32 × Int32 × Int32)) = some out from hm)
  | succ n ih =>
    intro v3 v4 tr_asked tr_brought tr_friends tr_used tr_crumbs tr_day sr_number sr_enough sr_hopeless sr_known ro_asked ro_brought ro_friends ro_used ro_crumbs ro_day out hm z_15_6 z_15_7 H locs ls hw hl K0
    rw [lp_X5_chancesOfTen_5] at hm
    refine lv_iload hx hb dX5_chancesOfTen_5 (lv_at hl 4 rfl) ?_
    refine lv_sipush (v := 256) hx hb dX5_chancesOfTen_7 (by decide) ?_
    refine lv_icmp_ge (tgt := 101) hx hb dX5_chancesOfTen_10 (by decide) (fun c1 => ?_) (fun c1 => ?_)
    · replace hm := ipos hm c1
      obtain rfl := Option.some.inj hm
      exact K0 z_15_6 z_15_7 _ _ ls hw (lv_sub hl [3] rfl)
    · replace hm := ineg hm c1
      refine lv_iload hx hb dX5_chancesOfTen_13 (lv_at hl 4 rfl) ?_
      refine lv_iload_n hx hb dX5_chancesOfTen_15 rfl (lv_at hl 1 rfl) ?_
      refine lv_iconst (v := (-1)) hx hb dX5_chancesOfTen_16 (by decide) ?_
      refine lv_ixor hx hb dX5_chancesOfTen_17 ?_
      refine lv_iand hx hb dX5_chancesOfTen_18 ?_
      refine lv_if_ne (tgt := 32) hx hb dX5_chancesOfTen_19 (by decide) (fun c2 => ?_) (fun c2 => ?_)
      · replace hm := ineg hm c2
        refine lv_iconst (v := 0) hx hb dX5_chancesOfTen_32 (by decide) ?_
        refine lv_istore (lv' := [(5, .int (0 : Int32)), (0, .ref a_x), (1, .int v1), (2, .int v2), (3, .int v3), (4, .int v4)]) hx hb dX5_chancesOfTen_33 hl (by decide) rfl (fun ls hl => ?_)
        refine lv_iload hx hb dX5_chancesOfTen_35 (lv_at hl 0 rfl) ?_
        refine lv_if_ne (tgt := 43) hx hb dX5_chancesOfTen_37 (by decide) (fun c3 => ?_) (fun c3 => ?_)
        · exact absurd (by decide) c3
        · skip
          refine lv_goto (tgt := 95) hx hb dX5_chancesOfTen_40 (by decide) ?_
          refine lv_iinc (v := (v4 + 1)) (lv' := [(4, .int (v4 + 1)), (5, .int (0 : Int32)), (0, .ref a_x), (1, .int v1), (2, .int v2), (3, .int v3)]) hx hb dX5_chancesOfTen_95 hl (k := 5) rfl (by rw [ofi_1]) (by decide) rfl (fun ls hl => ?_)
          refine lv_goto (tgt := 5) hx hb dX5_chancesOfTen_98 (by decide) ?_
          exact ih v3 (v4 + 1) tr_asked tr_brought tr_friends tr_used tr_crumbs tr_day sr_number sr_enough sr_hopeless sr_known ro_asked ro_brought ro_friends ro_used ro_crumbs ro_day _ hm z_15_6 z_15_7 _ _ ls hw (lv_sub hl [2, 3, 4, 5, 0] rfl) K0
      · replace hm := ipos hm c2
        refine lv_iload_n hx hb dX5_chancesOfTen_22 rfl (lv_at hl 1 rfl) ?_
        refine lv_iload hx hb dX5_chancesOfTen_23 (lv_at hl 4 rfl) ?_
        refine lv_iload_n hx hb dX5_chancesOfTen_25 rfl (lv_at hl 2 rfl) ?_
        obtain ⟨r4, h5, hm⟩ := ob hm
        refine k_rSi S hK hw.1 cal_X5_chancesOfSet gX5_chancesOfTen_X5_chancesOfSet (c_X5_chancesOfSet l D cC cI cJ v1 v4 v2 N r4 h5) ⟨⟨rfl, rfl⟩, Nat.le_of_ble_eq_true rfl, Nat.le_of_ble_eq_true rfl⟩ [] rfl rfl hl.1 rfl (Nat.le_of_ble_eq_true rfl) dX5_chancesOfTen_26 ⟨Nat.zero_le _, Nat.zero_le _⟩ ?_
        refine lv_goto (tgt := 33) hx hb dX5_chancesOfTen_29 (by decide) ?_
        refine lv_istore (lv' := [(5, .int r4), (0, .ref a_x), (1, .int v1), (2, .int v2), (3, .int v3), (4, .int v4)]) hx hb dX5_chancesOfTen_33 hl (by decide) rfl (fun ls hl => ?_)
        refine lv_iload hx hb dX5_chancesOfTen_35 (lv_at hl 0 rfl) ?_
        refine lv_if_ne (tgt := 43) hx hb dX5_chancesOfTen_37 (by decide) (fun c6 => ?_) (fun c6 => ?_)
        · replace hm := ineg hm c6
          refine lv_aload_n hx hb dX5_chancesOfTen_43 rfl (lv_at hl 1 rfl) ?_
          refine f_get S hK hw.1 in_X5_chancesOfTen_X5 0 rfl rfl 5 (by decide) (List.mem_of_getElem? (i := 1) rfl) rfl rfl dX5_chancesOfTen_44 ?_
          refine lv_aload_n hx hb dX5_chancesOfTen_47 rfl (lv_at hl 1 rfl) ?_
          refine f_get S hK hw.1 in_X5_chancesOfTen_X5 0 rfl rfl 4 (by decide) (List.mem_of_getElem? (i := 2) rfl) rfl rfl dX5_chancesOfTen_48 ?_
          obtain ⟨r7, h8, hm⟩ := ob hm
          refine k_rVl S hK hw.1 cal_X4_packed gX5_chancesOfTen_X4_packed (c_X4_packed l D cC cI cJ a_no no_asked no_brought no_friends no_used no_crumbs no_day r7 h8) ⟨⟨rfl, rfl⟩, Nat.le_of_ble_eq_true rfl, Nat.le_of_ble_eq_true rfl⟩ [11] rfl 11 rfl rfl rfl hl.1 rfl (Nat.le_of_ble_eq_true rfl) dX5_chancesOfTen_51 ⟨Nat.zero_le _, Nat.zero_le _⟩ ?_
          obtain ⟨r9, h10, hm⟩ := ob hm
          refine k_wVv S hK hw cal_X4_unpack gX5_chancesOfTen_X4_unpack (c_X4_unpack l D cC cI cJ a_tr tr_asked tr_brought tr_friends tr_used tr_crumbs tr_day r7 (aw _) (hw.own [12] (by decide) rfl) r9 h10) ⟨⟨rfl, rfl⟩, Nat.le_of_ble_eq_true rfl, Nat.le_of_ble_eq_true rfl⟩ [12] rfl 12 rfl rfl rfl hl.1 rfl (Nat.le_of_ble_eq_true rfl) dX5_chancesOfTen_54 ⟨Nat.zero_le _, Nat.zero_le _⟩ (fun H locs hJ hB => ?_)
          have hw := hJ _ hB rfl
          replace hw : Wd D A _ (wd_15 cC cI cJ a_x g_x_text x_letters a_mo g_x_spare a_no a_tr g_x_undoable g_x_kept g_x_seen a_us a_sr a_mo mo_tasks mo_helpers mo_askedFirst mo_crumbsFirst mo_lastDay a_mo_kinds a_mo_days a_mo_rideDays a_mo_helpKinds a_mo_nexts a_mo_helperKinds a_mo_prices a_mo_helpersOfKind a_mo_numbers a_mo_kinds mo_kinds a_mo_days mo_days a_mo_rideDays mo_rideDays a_mo_helpKinds mo_helpKinds a_mo_nexts mo_nexts a_mo_helperKinds mo_helperKinds a_mo_prices mo_prices a_mo_helpersOfKind mo_helpersOfKind a_mo_numbers mo_numbers a_no no_asked no_brought no_friends no_used no_crumbs no_day a_tr r9.1 r9.2.1 r9.2.2.1 r9.2.2.2.1 r9.2.2.2.2.1 r9.2.2.2.2.2 a_us us_size us_lastPlace a_us_left a_us_left us_left a_sr a_sr_known a_ro a_us sr_number sr_enough sr_hopeless z_15_6 z_15_7 a_sr_known sr_known a_ro ro_asked ro_brought ro_friends ro_used ro_crumbs ro_day) H locs := hw
          refine lv_aload_n hx hb dX5_chancesOfTen_57 rfl (lv_at hl 1 rfl) ?_
          refine f_get S hK hw.1 in_X5_chancesOfTen_X5 0 rfl rfl 5 (by decide) (List.mem_of_getElem? (i := 1) rfl) rfl rfl dX5_chancesOfTen_58 ?_
          refine lv_dup hx hb dX5_chancesOfTen_61 rfl ?_
          refine f_get S hK hw.1 in_X5_chancesOfTen_X4 12 rfl rfl 0 (by decide) (List.mem_of_getElem? (i := 3) rfl) rfl rfl dX5_chancesOfTen_62 ?_
          refine lv_iload hx hb dX5_chancesOfTen_65 (lv_at hl 5 rfl) ?_
          refine lv_ior hx hb dX5_chancesOfTen_67 ?_
          refine f_put S hK hw in_X5_chancesOfTen_X4 tyX4_ok nmX4 12 rfl rfl 0 (by decide) (List.mem_of_getElem? (i := 3) rfl) rfl rfl rfl rfl (Nat.le_of_ble_eq_true rfl) (ws1 := (wd_15 cC cI cJ a_x g_x_text x_letters a_mo g_x_spare a_no a_tr g_x_undoable g_x_kept g_x_seen a_us a_sr a_mo mo_tasks mo_helpers mo_askedFirst mo_crumbsFirst mo_lastDay a_mo_kinds a_mo_days a_mo_rideDays a_mo_helpKinds a_mo_nexts a_mo_helperKinds a_mo_prices a_mo_helpersOfKind a_mo_numbers a_mo_kinds mo_kinds a_mo_days mo_days a_mo_rideDays mo_rideDays a_mo_helpKinds mo_helpKinds a_mo_nexts mo_nexts a_mo_helperKinds mo_helperKinds a_mo_prices mo_prices a_mo_helpersOfKind mo_helpersOfKind a_mo_numbers mo_numbers a_no no_asked no_brought no_friends no_used no_crumbs no_day a_tr (r9.1 ||| v4) r9.2.1 r9.2.2.1 r9.2.2.2.1 r9.2.2.2.2.1 r9.2.2.2.2.2 a_us us_size us_lastPlace a_us_left a_us_left us_left a_sr a_sr_known a_ro a_us sr_number sr_enough sr_hopeless z_15_6 z_15_7 a_sr_known sr_known a_ro ro_asked ro_brought ro_friends ro_used ro_crumbs ro_day)) rfl dX5_chancesOfTen_68 (fun H locs hw => ?_)
          refine lv_aload_n hx hb dX5_chancesOfTen_71 rfl (lv_at hl 1 rfl) ?_
          refine f_get S hK hw.1 in_X5_chancesOfTen_X5 0 rfl rfl 10 (by decide) (List.mem_of_getElem? (i := 4) rfl) rfl rfl dX5_chancesOfTen_72 ?_
          refine lv_aload_n hx hb dX5_chancesOfTen_75 rfl (lv_at hl 1 rfl) ?_
          refine f_get S hK hw.1 in_X5_chancesOfTen_X5 0 rfl rfl 2 (by decide) (List.mem_of_getElem? (i := 5) rfl) rfl rfl dX5_chancesOfTen_76 ?_
          refine lv_aload_n hx hb dX5_chancesOfTen_79 rfl (lv_at hl 1 rfl) ?_
          refine f_get S hK hw.1 in_X5_chancesOfTen_X5 0 rfl rfl 5 (by decide) (List.mem_of_getElem? (i := 1) rfl) rfl rfl dX5_chancesOfTen_80 ?_
          refine lv_iconst (v := 0) hx hb dX5_chancesOfTen_83 (by decide) ?_
          obtain ⟨r11, h12, hm⟩ := ob hm
          refine k_wVi S hK hw cal_X2_endsWellWith gX5_chancesOfTen_X2_endsWellWith (c_X2_endsWellWith l D cC cI cJ a_sr a_sr_known a_ro a_us z_15_6 z_15_7 a_us_left a_mo a_mo_kinds a_mo_days a_mo_rideDays a_mo_helpKinds a_mo_nexts a_mo_helperKinds a_mo_prices a_mo_helpersOfKind a_mo_numbers a_tr sr_number sr_enough sr_hopeless sr_known ro_asked ro_brought ro_friends ro_used ro_crumbs ro_day us_size us_lastPlace us_left mo_tasks mo_helpers mo_askedFirst mo_crumbsFirst mo_lastDay mo_kinds mo_days mo_rideDays mo_helpKinds mo_nexts mo_helperKinds mo_prices mo_helpersOfKind mo_numbers (r9.1 ||| v4) r9.2.1 r9.2.2.1 r9.2.2.2.1 r9.2.2.2.2.1 r9.2.2.2.2.2 (0 : Int32) N (aw _) (hw.own [15, 16, 17, 13, 14, 1, 2, 3, 4, 5, 6, 7, 8, 9, 10, 12] (by decide) rfl) r11 h12) ⟨⟨rfl, rfl⟩, Nat.le_of_ble_eq_true rfl, Nat.le_of_ble_eq_true rfl⟩ [15, 16, 17, 13, 14, 1, 2, 3, 4, 5, 6, 7, 8, 9, 10, 12] rfl 15 rfl rfl rfl hl.1 rfl (Nat.le_of_ble_eq_true rfl) dX5_chancesOfTen_84 ⟨Nat.zero_le _, Nat.zero_le _⟩ (fun H locs hJ hB => ?_)
          have hw := hJ _ hB rfl
          replace hw : Wd D A _ (wd_15 cC cI cJ a_x g_x_text x_letters a_mo g_x_spare a_no a_tr g_x_undoable g_x_kept g_x_seen a_us a_sr a_mo mo_tasks mo_helpers mo_askedFirst mo_crumbsFirst mo_lastDay a_mo_kinds a_mo_days a_mo_rideDays a_mo_helpKinds a_mo_nexts a_mo_helperKinds a_mo_prices a_mo_helpersOfKind a_mo_numbers a_mo_kinds mo_kinds a_mo_days mo_days a_mo_rideDays mo_rideDays a_mo_helpKinds mo_helpKinds a_mo_nexts mo_nexts a_mo_helperKinds mo_helperKinds a_mo_prices mo_prices a_mo_helpersOfKind mo_helpersOfKind a_mo_numbers mo_numbers a_no no_asked no_brought no_friends no_used no_crumbs no_day a_tr (r9.1 ||| v4) r9.2.1 r9.2.2.1 r9.2.2.2.1 r9.2.2.2.2.1 r9.2.2.2.2.2 a_us us_size us_lastPlace a_us_left a_us_left us_left a_sr a_sr_known a_ro a_us r11.2.1 r11.2.2.1 r11.2.2.2.1 a_mo a_us a_sr_known r11.2.2.2.2.1 a_ro r11.2.2.2.2.2.1 r11.2.2.2.2.2.2.1 r11.2.2.2.2.2.2.2.1 r11.2.2.2.2.2.2.2.2.1 r11.2.2.2.2.2.2.2.2.2.1 r11.2.2.2.2.2.2.2.2.2.2) H locs := hw
          refine lv_if_eq (tgt := 95) hx hb dX5_chancesOfTen_87 (by decide) (fun c13 => ?_) (fun c13 => ?_)
          · replace hm := ipos hm c13
            refine lv_iinc (v := (v4 + 1)) (lv' := [(4, .int (v4 + 1)), (5, .int r4), (0, .ref a_x), (1, .int v1), (2, .int v2), (3, .int v3)]) hx hb dX5_chancesOfTen_95 hl (k := 5) rfl (by rw [ofi_1]) (by decide) rfl (fun ls hl => ?_)
            refine lv_goto (tgt := 5) hx hb dX5_chancesOfTen_98 (by decide) ?_
            exact ih v3 (v4 + 1) (r9.1 ||| v4) r9.2.1 r9.2.2.1 r9.2.2.2.1 r9.2.2.2.2.1 r9.2.2.2.2.2 r11.2.1 r11.2.2.1 r11.2.2.2.1 r11.2.2.2.2.1 r11.2.2.2.2.2.1 r11.2.2.2.2.2.2.1 r11.2.2.2.2.2.2.2.1 r11.2.2.2.2.2.2.2.2.1 r11.2.2.2.2.2.2.2.2.2.1 r11.2.2.2.2.2.2.2.2.2.2 _ hm a_mo a_us _ _ ls hw (lv_sub hl [2, 3, 4, 5, 0] rfl) K0
          · replace hm := ineg hm c13
            refine lv_iload_n hx hb dX5_chancesOfTen_90 rfl (lv_at hl 4 rfl) ?_
            refine lv_iload hx hb dX5_chancesOfTen_91 (lv_at hl 0 rfl) ?_
            refine lv_iadd hx hb dX5_chancesOfTen_93 ?_
            refine lv_istore_n (lv' := [(3, .int (v3 + r4)), (5, .int r4), (0, .ref a_x), (1, .int v1), (2, .int v2), (4, .int v4)]) hx hb dX5_chancesOfTen_94 rfl hl (by decide) rfl (fun ls hl => ?_)
            refine lv_iinc (v := (v4 + 1)) (lv' := [(4, .int (v4 + 1)), (3, .int (v3 + r4)), (5, .int r4), (0, .ref a_x), (1, .int v1), (2, .int v2)]) hx hb dX5_chancesOfTen_95 hl (k := 5) rfl (by rw [ofi_1]) (by decide) rfl (fun ls hl => ?_)
            refine lv_goto (tgt := 5) hx hb dX5_chancesOfTen_98 (by decide) ?_
            exact ih (v3 + r4) (v4 + 1) (r9.1 ||| v4) r9.2.1 r9.2.2.1 r9.2.2.2.1 r9.2.2.2.2.1 r9.2.2.2.2.2 r11.2.1 r11.2.2.1 r11.2.2.2.1 r11.2.2.2.2.1 r11.2.2.2.2.2.1 r11.2.2.2.2.2.2.1 r11.2.2.2.2.2.2.2.1 r11.2.2.2.2.2.2.2.2.1 r11.2.2.2.2.2.2.2.2.2.1 r11.2.2.2.2.2.2.2.2.2.2 _ hm a_mo a_us _ _ ls hw (lv_sub hl [3, 4, 5, 1, 0] rfl) K0
        · replace hm := ipos hm c6
          refine lv_goto (tgt := 95) hx hb dX5_chancesOfTen_40 (by decide) ?_
          refine lv_iinc (v := (v4 + 1)) (lv' := [(4, .int (v4 + 1)), (5, .int r4), (0, .ref a_x), (1, .int v1), (2, .int v2), (3, .int v3)]) hx hb dX5_chancesOfTen_95 hl (k := 5) rfl (by rw [ofi_1]) (by decide) rfl (fun ls hl => ?_)
          refine lv_goto (tgt := 5) hx hb dX5_chancesOfTen_98 (by decide) ?_
          exact ih v3 (v4 + 1) tr_asked tr_brought tr_friends tr_used tr_crumbs tr_day sr_number sr_enough sr_hopeless sr_known ro_asked ro_brought ro_friends ro_used ro_crumbs ro_day _ hm z_15_6 z_15_7 _ _ ls hw (lv_sub hl [2, 3, 4, 5, 0] rfl) K0
set_option maxHeartbeats 4000000 in
set_option maxRecDepth 100000 in
theorem c_X5_chancesOfTen (l : Launch) (D : va_G) (cC cI cJ : ClassId) (a_x : Nat) (g_x_text : Nat) (a_mo : Nat) (g_x_spare : Nat) (a_no : Nat) (a_tr : Nat) (g_x_undoable : Nat) (g_x_kept : Nat) (g_x_seen : Nat) (a_us : Nat) (a_sr : Nat) (a_mo_kinds : Nat) (a_mo_days : Nat) (a_mo_rideDays : Nat) (a_mo_helpKinds : Nat) (a_mo_nexts : Nat) (a_mo_helperKinds : Nat) (a_mo_prices : Nat) (a_mo_helpersOfKind : Nat) (a_mo_numbers : Nat) (a_us_left : Nat) (a_sr_known : Nat) (a_ro : Nat) (g_sr_months : Nat) (g_sr_heeded : Nat) (x_letters : Int32) (mo_tasks : Int32) (mo_helpers : Int32) (mo_askedFirst : Int32) (mo_crumbsFirst : Int32) (mo_lastDay : Int32) (mo_kinds : (Nat → Int32)) (mo_days : (Nat → Int32)) (mo_rideDays : (Nat → Int32)) (mo_helpKinds : (Nat → Int32)) (mo_nexts : (Nat → Int32)) (mo_helperKinds : (Nat → Int32)) (mo_prices : (Nat → Int32)) (mo_helpersOfKind : (Nat → Int32)) (mo_numbers : (Nat → Int32)) (no_asked : Int32) (no_brought : Int32) (no_friends : Int32) (no_used : Int32) (no_crumbs : Int32) (no_day : Int32) (tr_asked : Int32) (tr_brought : Int32) (tr_friends : Int32) (tr_used : Int32) (tr_crumbs : Int32) (tr_day : Int32) (us_size : Int32) (us_lastPlace : Int32) (us_left : (Nat → Int32)) (sr_number : Int64) (sr_enough : Int64) (sr_hopeless : Int32) (sr_known : (Nat → Int64)) (ro_asked : Int32) (ro_brought : Int32) (ro_friends : Int32) (ro_used : Int32) (ro_crumbs : Int32) (ro_day : Int32) (p0 : Int32) (p1 : Int32) (N : Nat) (A : Nat → Prop) (hD : va_D A (wd_15 cC cI cJ a_x g_x_text x_letters a_mo g_x_spare a_no a_tr g_x_undoable g_x_kept g_x_seen a_us a_sr a_mo mo_tasks mo_helpers mo_askedFirst mo_crumbsFirst mo_lastDay a_mo_kinds a_mo_days a_mo_rideDays a_mo_helpKinds a_mo_nexts a_mo_helperKinds a_mo_prices a_mo_helpersOfKind a_mo_numbers a_mo_kinds mo_kinds a_mo_days mo_days a_mo_rideDays mo_rideDays a_mo_helpKinds mo_helpKinds a_mo_nexts mo_nexts a_mo_helperKinds mo_helperKinds a_mo_prices mo_prices a_mo_helpersOfKind mo_helpersOfKind a_mo_numbers mo_numbers a_no no_asked no_brought no_friends no_used no_crumbs no_day a_tr tr_asked tr_brought tr_friends tr_used tr_crumbs tr_day a_us us_size us_lastPlace a_us_left a_us_left us_left a_sr a_sr_known a_ro a_us sr_number sr_enough sr_hopeless g_sr_months g_sr_heeded a_sr_known sr_known a_ro ro_asked ro_brought ro_friends ro_used ro_crumbs ro_day)) (out : (Int32 × Int32 × Int32 × Int32 × Int32 × Int32 × Int32 × Int64 × Int64 × Int32 × (Nat → Int64) × Int32 × Int32 × Int32 × Int32 × Int32 × Int32)) (hm : m_X5_chancesOfTen N mo_tasks mo_lastDay mo_kinds mo_rideDays mo_helpKinds mo_nexts mo_helpersOfKind no_asked no_brought no_friends no_used no_crumbs no_day tr_asked tr_brought tr_friends tr_used tr_crumbs tr_day us_lastPlace us_left sr_number sr_enough sr_hopeless sr_known ro_asked ro_brought ro_friends ro_used ro_crumbs ro_day p0 p1 = some out) : WrI l yX5_chancesOfTen wsX5_chancesOfTen rX5_chancesOfTen D (tyK cC cI cJ) [.ref a_x, .int p0, .int p1] A (wd_15 cC cI cJ a_x g_x_text x_letters a_mo g_x_spare a_no a_tr g_x_undoable g_x_kept g_x_seen a_us a_sr a_mo mo_tasks mo_helpers mo_askedFirst mo_crumbsFirst mo_lastDay a_mo_kinds a_mo_days a_mo_rideDays a_mo_helpKinds a_mo_nexts a_mo_helperKinds a_mo_prices a_mo_helpersOfKind a_mo_numbers a_mo_kinds mo_kinds a_mo_days mo_days a_mo_rideDays mo_rideDays a_mo_helpKinds mo_helpKinds a_mo_nexts mo_nexts a_mo_helperKinds mo_helperKinds a_mo_prices mo_prices a_mo_helpersOfKind mo_helpersOfKind a_mo_numbers mo_numbers a_no no_asked no_brought no_friends no_used no_crumbs no_day a_tr tr_asked tr_brought tr_friends tr_used tr_crumbs tr_day a_us us_size us_lastPlace a_us_left a_us_left us_left a_sr a_sr_known a_ro a_us sr_number sr_enough sr_hopeless g_sr_months g_sr_heeded a_sr_known sr_known a_ro ro_asked ro_brought ro_friends ro_used ro_crumbs ro_day) (Bw2 D (fun z_15_6 z_15_7 => (wd_15 cC cI cJ a_x g_x_text x_letters a_mo g_x_spare a_no a_tr g_x_undoable g_x_kept g_x_seen a_us a_sr a_mo mo_tasks mo_helpers mo_askedFirst mo_crumbsFirst mo_lastDay a_mo_kinds a_mo_days a_mo_rideDays a_mo_helpKinds a_mo_nexts a_mo_helperKinds a_mo_prices a_mo_helpersOfKind a_mo_numbers a_mo_kinds mo_kinds a_mo_days mo_days a_mo_rideDays mo_rideDays a_mo_helpKinds mo_helpKinds a_mo_nexts mo_nexts a_mo_helperKinds mo_helperKinds a_mo_prices mo_prices a_mo_helpersOfKind mo_helpersOfKind a_mo_numbers mo_numbers a_no no_asked no_brought no_friends no_used no_crumbs no_day a_tr out.2.1 out.2.2.1 out.2.2.2.1 out.2.2.2.2.1 out.2.2.2.2.2.1 out.2.2.2.2.2.2.1 a_us us_size us_lastPlace a_us_left a_us_left us_left a_sr a_sr_known a_ro a_us out.2.2.2.2.2.2.2.1 out.2.2.2.2.2.2.2.2.1 out.2.2.2.2.2.2.2.2.2.1 z_15_6 z_15_7 a_sr_known out.2.2.2.2.2.2.2.2.2.2.1 a_ro out.2.2.2.2.2.2.2.2.2.2.2.1 out.2.2.2.2.2.2.2.2.2.2.2.2.1 out.2.2.2.2.2.2.2.2.2.2.2.2.2.1 out.2.2.2.2.2.2.2.2.2.2.2.2.2.2.1 out.2.2.2.2.2.2.2.2.2.2.2.2.2.2.2.1 out.2.2.2.2.2.2.2.2.2.2.2.2.2.2.2.2))) out.1 := by
  unfold m_X5_chancesOfTen at hm
  refine enter (cc := cX5_chancesOfTen) (maxL := 6) (ret := (some .int)) (lv := [(0, .ref a_x), (1, .int p0), (2, .int p1)]) (by decide) rfl (Nat.le_of_ble_eq_true rfl) rfl ?_
  intro p e s m args below meth c S hr hlk hK hP ls hl
  replace S : CallFix p m c cX5_chancesOfTen 6 s args wsX5_chancesOfTen RX5 := S
  have hx := S.1
  have hb := S.2.1
  have hw : Wd D A s.heap (wd_15 cC cI cJ a_x g_x_text x_letters a_mo g_x_spare a_no a_tr g_x_undoable g_x_kept g_x_seen a_us a_sr a_mo mo_tasks mo_helpers mo_askedFirst mo_crumbsFirst mo_lastDay a_mo_kinds a_mo_days a_mo_rideDays a_mo_helpKinds a_mo_nexts a_mo_helperKinds a_mo_prices a_mo_helpersOfKind a_mo_numbers a_mo_kinds mo_kinds a_mo_days mo_days a_mo_rideDays mo_rideDays a_mo_helpKinds mo_helpKinds a_mo_nexts mo_nexts a_mo_helperKinds mo_helperKinds a_mo_prices mo_prices a_mo_helpersOfKind mo_helpersOfKind a_mo_numbers mo_numbers a_no no_asked no_brought no_friends no_used no_crumbs no_day a_tr tr_asked tr_brought tr_friends tr_used tr_crumbs tr_day a_us us_size us_lastPlace a_us_left a_us_left us_left a_sr a_sr_known a_ro a_us sr_number sr_enough sr_hopeless g_sr_months g_sr_heeded a_sr_known sr_known a_ro ro_asked ro_brought ro_friends ro_used ro_crumbs ro_day) s.heap [] := ⟨hP, hD, va_S.rf⟩
  have hw0 := hw
  refine lv_iconst (v := 0) hx hb dX5_chancesOfTen_0 (by decide) ?_
  refine lv_istore_n (lv' := [(3, .int (0 : Int32)), (0, .ref a_x), (1, .int p0), (2, .int p1)]) hx hb dX5_chancesOfTen_1 rfl hl (by decide) rfl (fun ls hl => ?_)
  refine lv_iconst (v := 0) hx hb dX5_chancesOfTen_2 (by decide) ?_
  refine lv_istore (lv' := [(4, .int (0 : Int32)), (3, .int (0 : Int32)), (0, .ref a_x), (1, .int p0), (2, .int p1)]) hx hb dX5_chancesOfTen_3 hl (by decide) rfl (fun ls hl => ?_)
  obtain ⟨r14, h15, hm⟩ := ob hm
  refine t_X5_chancesOfTen_5 l S hK a_x g_x_text a_mo g_x_spare a_no a_tr g_x_undoable g_x_kept g_x_seen a_us a_sr a_mo_kinds a_mo_days a_mo_rideDays a_mo_helpKinds a_mo_nexts a_mo_helperKinds a_mo_prices a_mo_helpersOfKind a_mo_numbers a_us_left a_sr_known a_ro g_sr_months g_sr_heeded N p0 p1 x_letters mo_tasks mo_helpers mo_askedFirst mo_crumbsFirst mo_lastDay mo_kinds mo_days mo_rideDays mo_helpKinds mo_nexts mo_helperKinds mo_prices mo_helpersOfKind mo_numbers no_asked no_brought no_friends no_used no_crumbs no_day us_size us_lastPlace us_left N (0 : Int32) (0 : Int32) tr_asked tr_brought tr_friends tr_used tr_crumbs tr_day sr_number sr_enough sr_hopeless sr_known ro_asked ro_brought ro_friends ro_used ro_crumbs ro_day r14 h15 g_sr_months g_sr_heeded _ _ ls hw (lv_sub hl [2, 3, 4, 1, 0] rfl) (fun z16 z17 H locs ls hw hl => ?_)
  refine lv_iload_n hx hb dX5_chancesOfTen_101 rfl (lv_at hl 0 rfl) ?_
  obtain rfl := Option.some.inj hm
  exact e_WI S hr hlk hw rfl ⟨z16, z17, hw.1⟩ dX5_chancesOfTen_102

abbrev rX5_commonDivisor : Room := { frames := 0, cells := 0, slots := 0, locals := 0 }
theorem cal_X5_commonDivisor : Cal yX5_commonDivisor wsX5_commonDivisor cX5_commonDivisor 6 (some .int) RX5 2 := ⟨⟨_, rfl⟩, rfl, by decide +kernel, by decide +kernel, by decide +kernel⟩
set_option maxHeartbeats 4000000 in
set_option maxRecDepth 100000 in
theorem t_X5_commonDivisor_7 {p : Program} {e : Env} {s : State} {m : MethodId} {args : Array Value} {below : List Frame} {meth : Method} {c : Code} {Q : State → Prop} {H : Heap} {locs : List Loc} (l : Launch) {D : va_G} {cC cI cJ : ClassId} (S : CallFix p m c cX5_commonDivisor 6 s args wsX5_commonDivisor RX5) (hK : KK D (tyK cC cI cJ) s)   (hP : va_P D vwCl [] H) : ∀ (n : Nat) (v2 : Int32) (v3 : Int32) (v4 : Int32) (out : Int32), lp_X5_commonDivisor_7  n v2 v3 v4 = some out → ∀ (ls : Array Slot), lv_has ls 6 [(2, .int v2), (3, .int v3), (4, .int v4)] → (∀ (ls : Array Slot), lv_has ls 6 [(2, .int out)] → W p l e rX5_commonDivisor s m args below meth c H locs 0 0 Q (F0 m 35 ls [])) → W p l e rX5_commonDivisor s m args below meth c H locs 0 0 Q (F0 m 7 ls []) := by
  have hx := S.1
  have hb := S.2.1
  intro n
  induction n with
  | zero => intro v2 v3 v4 out hm; cases (show (none : Option Int32) = some out from hm)
  | succ n ih =>
    intro v2 v3 v4 out hm  ls hl K0
    rw [lp_X5_commonDivisor_7] at hm
    refine lv_iload hx hb dX5_commonDivisor_7 (lv_at hl 2 rfl) ?_
    refine lv_sipush (v := 1000) hx hb dX5_commonDivisor_9 (by decide) ?_
    refine lv_icmp_ge (tgt := 35) hx hb dX5_commonDivisor_12 (by decide) (fun c1 => ?_) (fun c1 => ?_)
    · replace hm := ipos hm c1
      obtain rfl := Option.some.inj hm
      exact K0  ls (lv_sub hl [0] rfl)
    · replace hm := ineg hm c1
      refine lv_iload_n hx hb dX5_commonDivisor_15 rfl (lv_at hl 1 rfl) ?_
      refine lv_if_eq (tgt := 35) hx hb dX5_commonDivisor_16 (by decide) (fun c2 => ?_) (fun c2 => ?_)
      · replace hm := ipos hm c2
        obtain rfl := Option.some.inj hm
        exact K0  ls (lv_sub hl [0] rfl)
      · replace hm := ineg hm c2
        refine lv_iload_n hx hb dX5_commonDivisor_19 rfl (lv_at hl 0 rfl) ?_
        refine lv_iload_n hx hb dX5_commonDivisor_20 rfl (lv_at hl 1 rfl) ?_
        refine lv_irem hx hb dX5_commonDivisor_21 c2 ?_
        refine lv_istore (lv' := [(5, .int (v2 - v2 / v3 * v3)), (2, .int v2), (3, .int v3), (4, .int v4)]) hx hb dX5_commonDivisor_22 hl (by decide) rfl (fun ls hl => ?_)
        refine lv_iload_n hx hb dX5_commonDivisor_24 rfl (lv_at hl 2 rfl) ?_
        refine lv_istore_n (lv' := [(2, .int v3), (5, .int (v2 - v2 / v3 * v3)), (3, .int v3), (4, .int v4)]) hx hb dX5_commonDivisor_25 rfl hl (by decide) rfl (fun ls hl => ?_)
        refine lv_iload hx hb dX5_commonDivisor_26 (lv_at hl 1 rfl) ?_
        refine lv_istore_n (lv' := [(3, .int (v2 - v2 / v3 * v3)), (2, .int v3), (5, .int (v2 - v2 / v3 * v3)), (4, .int v4)]) hx hb dX5_commonDivisor_28 rfl hl (by decide) rfl (fun ls hl => ?_)
        refine lv_iinc (v := (v4 + 1)) (lv' := [(4, .int (v4 + 1)), (3, .int (v2 - v2 / v3 * v3)), (2, .int v3), (5, .int (v2 - v2 / v3 * v3))]) hx hb dX5_commonDivisor_29 hl (k := 3) rfl (by rw [ofi_1]) (by decide) rfl (fun ls hl => ?_)
        refine lv_goto (tgt := 7) hx hb dX5_commonDivisor_32 (by decide) ?_
        exact ih v3 (v2 - v2 / v3 * v3) (v4 + 1) _ hm  ls (lv_sub hl [2, 1, 0] rfl) K0
set_option maxHeartbeats 4000000 in
set_option maxRecDepth 100000 in
theorem c_X5_commonDivisor (l : Launch) (D : va_G) (cC cI cJ : ClassId)  (p0 : Int32) (p1 : Int32) (N : Nat) (out : Int32) (hm : m_X5_commonDivisor N p0 p1 = some out) : RdI l yX5_commonDivisor wsX5_commonDivisor rX5_commonDivisor D (tyK cC cI cJ) [.int p0, .int p1] [] out := by
  unfold m_X5_commonDivisor at hm
  refine enter (cc := cX5_commonDivisor) (maxL := 6) (ret := (some .int)) (lv := [(0, .int p0), (1, .int p1)]) (by decide) rfl (Nat.le_of_ble_eq_true rfl) rfl ?_
  intro p e s m args below meth c S hr hlk hK hP ls hl
  replace S : CallFix p m c cX5_commonDivisor 6 s args wsX5_commonDivisor RX5 := S
  have hx := S.1
  have hb := S.2.1
  refine lv_iload_n hx hb dX5_commonDivisor_0 rfl (lv_at hl 0 rfl) ?_
  refine lv_istore_n (lv' := [(2, .int p0), (0, .int p0), (1, .int p1)]) hx hb dX5_commonDivisor_1 rfl hl (by decide) rfl (fun ls hl => ?_)
  refine lv_iload_n hx hb dX5_commonDivisor_2 rfl (lv_at hl 2 rfl) ?_
  refine lv_istore_n (lv' := [(3, .int p1), (2, .int p0), (0, .int p0), (1, .int p1)]) hx hb dX5_commonDivisor_3 rfl hl (by decide) rfl (fun ls hl => ?_)
  refine lv_iconst (v := 0) hx hb dX5_commonDivisor_4 (by decide) ?_
  refine lv_istore (lv' := [(4, .int (0 : Int32)), (3, .int p1), (2, .int p0), (0, .int p0), (1, .int p1)]) hx hb dX5_commonDivisor_5 hl (by decide) rfl (fun ls hl => ?_)
  obtain ⟨r4, h5, hm⟩ := ob hm
  refine t_X5_commonDivisor_7 l S hK  hP N p0 p1 (0 : Int32) r4 h5  ls (lv_sub hl [2, 1, 0] rfl) (fun ls hl => ?_)
  refine lv_iload_n hx hb dX5_commonDivisor_35 rfl (lv_at hl 0 rfl) ?_
  exact e_RI S hr hlk (Option.some.inj hm) dX5_commonDivisor_36

abbrev rX5_oneIf : Room := { frames := 0, cells := 0, slots := 0, locals := 0 }
theorem cal_X5_oneIf : Cal yX5_oneIf wsX5_oneIf cX5_oneIf 1 (some .int) RX5 1 := ⟨⟨_, rfl⟩, rfl, by decide +kernel, by decide +kernel, by decide +kernel⟩
set_option maxHeartbeats 4000000 in
set_option maxRecDepth 100000 in
theorem c_X5_oneIf (l : Launch) (D : va_G) (cC cI cJ : ClassId)  (p0 : Int32) (out : Int32) (hm : m_X5_oneIf p0 = some out) : RdI l yX5_oneIf wsX5_oneIf rX5_oneIf D (tyK cC cI cJ) [.int p0] [] out := by
  unfold m_X5_oneIf at hm
  refine enter (cc := cX5_oneIf) (maxL := 1) (ret := (some .int)) (lv := [(0, .int p0)]) (by decide) rfl (Nat.le_of_ble_eq_true rfl) rfl ?_
  intro p e s m args below meth c S hr hlk hK hP ls hl
  replace S : CallFix p m c cX5_oneIf 1 s args wsX5_oneIf RX5 := S
  have hx := S.1
  have hb := S.2.1
  refine lv_iload_n hx hb dX5_oneIf_0 rfl (lv_at hl 0 rfl) ?_
  refine lv_if_eq (tgt := 8) hx hb dX5_oneIf_1 (by decide) (fun c1 => ?_) (fun c1 => ?_)
  · replace hm := ipos hm c1
    refine lv_iconst (v := 0) hx hb dX5_oneIf_8 (by decide) ?_
    exact e_RI S hr hlk (Option.some.inj hm) dX5_oneIf_9
  · replace hm := ineg hm c1
    refine lv_iconst (v := 1) hx hb dX5_oneIf_4 (by decide) ?_
    refine lv_goto (tgt := 9) hx hb dX5_oneIf_5 (by decide) ?_
    exact e_RI S hr hlk (Option.some.inj hm) dX5_oneIf_9

abbrev rX5_count : Room := { frames := 1, cells := 0, slots := 0, locals := 21 }
theorem cal_X5_count : Cal yX5_count wsX5_count cX5_count 2 (some .int) RX5 1 := ⟨⟨_, rfl⟩, rfl, by decide +kernel, by decide +kernel, by decide +kernel⟩
theorem in_X5_count_X0 : ∀ w ∈ wsX00, w ∈ wsX5_count := fun _ h => (List.mem_cons_of_mem _ (List.mem_append_left _ (List.mem_append_left _ (List.mem_append_left _ (List.mem_append_right _ h)))))
theorem in_X5_count_X1 : ∀ w ∈ wsX10, w ∈ wsX5_count := fun _ h => (List.mem_cons_of_mem _ (List.mem_append_right _ h))
theorem in_X5_count_X3 : ∀ w ∈ wsX30, w ∈ wsX5_count := fun _ h => (List.mem_cons_of_mem _ (List.mem_append_left _ (List.mem_append_right _ h)))
theorem in_X5_count_X4 : ∀ w ∈ wsX40, w ∈ wsX5_count := fun _ h => (List.mem_cons_of_mem _ (List.mem_append_left _ (List.mem_append_left _ (List.mem_append_right _ h))))
theorem in_X5_count_X5 : ∀ w ∈ wsX50, w ∈ wsX5_count := fun _ h => (List.mem_cons_of_mem _ (List.mem_append_left _ (List.mem_append_left _ (List.mem_append_left _ (List.mem_append_left _ (List.mem_append_right _ h))))))
set_option maxHeartbeats 4000000 in
set_option maxRecDepth 100000 in
theorem c_X5_count (l : Launch) (D : va_G) (cC cI cJ : ClassId) (a_x : Nat) (g_x_text : Nat) (a_mo : Nat) (g_x_spare : Nat) (a_no : Nat) (g_x_trial : Nat) (a_un : Nat) (a_ke : Nat) (a_se : Nat) (g_x_unseen : Nat) (g_x_search : Nat) (a_mo_kinds : Nat) (a_mo_days : Nat) (a_mo_rideDays : Nat) (a_mo_helpKinds : Nat) (a_mo_nexts : Nat) (a_mo_helperKinds : Nat) (a_mo_prices : Nat) (a_mo_helpersOfKind : Nat) (a_mo_numbers : Nat) (a_un_held : Nat) (a_ke_held : Nat) (a_se_left : Nat) (x_letters : Int32) (mo_tasks : Int32) (mo_helpers : Int32) (mo_askedFirst : Int32) (mo_crumbsFirst : Int32) (mo_lastDay : Int32) (mo_kinds : (Nat → Int32)) (mo_days : (Nat → Int32)) (mo_rideDays : (Nat → Int32)) (mo_helpKinds : (Nat → Int32)) (mo_nexts : (Nat → Int32)) (mo_helperKinds : (Nat → Int32)) (mo_prices : (Nat → Int32)) (mo_helpersOfKind : (Nat → Int32)) (mo_numbers : (Nat → Int32)) (no_asked : Int32) (no_brought : Int32) (no_friends : Int32) (no_used : Int32) (no_crumbs : Int32) (no_day : Int32) (un_size : Int32) (un_held : (Nat → Int64)) (ke_size : Int32) (ke_held : (Nat → Int64)) (se_size : Int32) (se_lastPlace : Int32) (se_left : (Nat → Int32)) (p0 : Int32) (out : Int32) (hm : m_X5_count x_letters mo_tasks mo_helpers mo_lastDay no_asked no_brought no_friends no_used no_crumbs no_day un_size ke_size se_size p0 = some out) : RdI l yX5_count wsX5_count rX5_count D (tyK cC cI cJ) [.ref a_x, .int p0] (wd_16 cC cI cJ a_x g_x_text x_letters a_mo g_x_spare a_no g_x_trial a_un a_ke a_se g_x_unseen g_x_search a_mo mo_tasks mo_helpers mo_askedFirst mo_crumbsFirst mo_lastDay a_mo_kinds a_mo_days a_mo_rideDays a_mo_helpKinds a_mo_nexts a_mo_helperKinds a_mo_prices a_mo_helpersOfKind a_mo_numbers a_mo_kinds mo_kinds a_mo_days mo_days a_mo_rideDays mo_rideDays a_mo_helpKinds mo_helpKinds a_mo_nexts mo_nexts a_mo_helperKinds mo_helperKinds a_mo_prices mo_prices a_mo_helpersOfKind mo_helpersOfKind a_mo_numbers mo_numbers a_no no_asked no_brought no_friends no_used no_crumbs no_day a_un un_size a_un_held a_un_held un_held a_ke ke_size a_ke_held a_ke_held ke_held a_se se_size se_lastPlace a_se_left a_se_left se_left) out := by
  unfold m_X5_count at hm
  refine enter (cc := cX5_count) (maxL := 2) (ret := (some .int)) (lv := [(0, .ref a_x), (1, .int p0)]) (by decide) rfl (Nat.le_of_ble_eq_true rfl) rfl ?_
  intro p e s m args below meth c S hr hlk hK hP ls hl
  replace S : CallFix p m c cX5_count 2 s args wsX5_count RX5 := S
  have hx := S.1
  have hb := S.2.1
  refine lv_iload_n hx hb dX5_count_0 rfl (lv_at hl 1 rfl) ?_
  by_cases c1 : p0 = (0 : Int32)
  · replace hm := ipos hm c1
    refine f_tabIn S c1 dX5_count_1 (off := 63) (by decide) (by decide) (by decide) (tgt := 64) (by decide) ?_
    refine lv_aload_n hx hb dX5_count_64 rfl (lv_at hl 0 rfl) ?_
    refine f_get S hK hP in_X5_count_X5 0 rfl rfl 2 (by decide) (List.mem_of_getElem? (i := 1) rfl) rfl rfl dX5_count_65 ?_
    refine f_get S hK hP in_X5_count_X0 1 rfl rfl 0 (by decide) (List.mem_of_getElem? (i := 2) rfl) rfl rfl dX5_count_68 ?_
    exact e_RI S hr hlk (Option.some.inj hm) dX5_count_71
  replace hm := ineg hm c1
  by_cases c2 : p0 = (1 : Int32)
  · replace hm := ipos hm c2
    refine f_tabIn S c2 dX5_count_1 (off := 71) (by decide) (by decide) (by decide) (tgt := 72) (by decide) ?_
    refine lv_aload_n hx hb dX5_count_72 rfl (lv_at hl 0 rfl) ?_
    refine f_get S hK hP in_X5_count_X5 0 rfl rfl 2 (by decide) (List.mem_of_getElem? (i := 1) rfl) rfl rfl dX5_count_73 ?_
    refine f_get S hK hP in_X5_count_X0 1 rfl rfl 1 (by decide) (List.mem_of_getElem? (i := 3) rfl) rfl rfl dX5_count_76 ?_
    exact e_RI S hr hlk (Option.some.inj hm) dX5_count_79
  replace hm := ineg hm c2
  by_cases c3 : p0 = (2 : Int32)
  · replace hm := ipos hm c3
    refine f_tabIn S c3 dX5_count_1 (off := 79) (by decide) (by decide) (by decide) (tgt := 80) (by decide) ?_
    refine lv_aload_n hx hb dX5_count_80 rfl (lv_at hl 0 rfl) ?_
    refine f_get S hK hP in_X5_count_X5 0 rfl rfl 4 (by decide) (List.mem_of_getElem? (i := 4) rfl) rfl rfl dX5_count_81 ?_
    obtain ⟨r4, h5, hm⟩ := ob hm
    refine k_rVi S hK hP cal_X4_openTasks gX5_count_X4_openTasks (c_X4_openTasks l D cC cI cJ a_no no_asked no_brought no_friends no_used no_crumbs no_day r4 h5) ⟨⟨rfl, rfl⟩, Nat.le_of_ble_eq_true rfl, Nat.le_of_ble_eq_true rfl⟩ [11] rfl 11 rfl rfl rfl hl.1 rfl (Nat.le_of_ble_eq_true rfl) dX5_count_84 ⟨Nat.zero_le _, Nat.zero_le _⟩ ?_
    obtain ⟨r6, h7, hm⟩ := ob hm
    refine k_rSi S hK hP cal_J6_bitCount_0f7a4 gX5_count_J6_bitCount_0f7a4 (c_J6_bitCount_0f7a4 l D cC cI cJ r4 r6 h7) ⟨⟨rfl, rfl⟩, Nat.le_of_ble_eq_true rfl, Nat.le_of_ble_eq_true rfl⟩ [] rfl rfl hl.1 rfl (Nat.le_of_ble_eq_true rfl) dX5_count_87 ⟨Nat.zero_le _, Nat.zero_le _⟩ ?_
    exact e_RI S hr hlk (Option.some.inj hm) dX5_count_90
  replace hm := ineg hm c3
  by_cases c8 : p0 = (3 : Int32)
  · replace hm := ipos hm c8
    refine f_tabIn S c8 dX5_count_1 (off := 90) (by decide) (by decide) (by decide) (tgt := 91) (by decide) ?_
    refine lv_aload_n hx hb dX5_count_91 rfl (lv_at hl 0 rfl) ?_
    refine f_get S hK hP in_X5_count_X5 0 rfl rfl 4 (by decide) (List.mem_of_getElem? (i := 4) rfl) rfl rfl dX5_count_92 ?_
    refine f_get S hK hP in_X5_count_X4 11 rfl rfl 1 (by decide) (List.mem_of_getElem? (i := 5) rfl) rfl rfl dX5_count_95 ?_
    obtain ⟨r9, h10, hm⟩ := ob hm
    refine k_rSi S hK hP cal_J6_bitCount_0f7a4 gX5_count_J6_bitCount_0f7a4 (c_J6_bitCount_0f7a4 l D cC cI cJ no_brought r9 h10) ⟨⟨rfl, rfl⟩, Nat.le_of_ble_eq_true rfl, Nat.le_of_ble_eq_true rfl⟩ [] rfl rfl hl.1 rfl (Nat.le_of_ble_eq_true rfl) dX5_count_98 ⟨Nat.zero_le _, Nat.zero_le _⟩ ?_
    exact e_RI S hr hlk (Option.some.inj hm) dX5_count_101
  replace hm := ineg hm c8
  by_cases c11 : p0 = (4 : Int32)
  · replace hm := ipos hm c11
    refine f_tabIn S c11 dX5_count_1 (off := 101) (by decide) (by decide) (by decide) (tgt := 102) (by decide) ?_
    refine lv_aload_n hx hb dX5_count_102 rfl (lv_at hl 0 rfl) ?_
    refine f_get S hK hP in_X5_count_X5 0 rfl rfl 4 (by decide) (List.mem_of_getElem? (i := 4) rfl) rfl rfl dX5_count_103 ?_
    obtain ⟨r12, h13, hm⟩ := ob hm
    refine k_rVi S hK hP cal_X4_freeFriends gX5_count_X4_freeFriends (c_X4_freeFriends l D cC cI cJ a_no no_asked no_brought no_friends no_used no_crumbs no_day r12 h13) ⟨⟨rfl, rfl⟩, Nat.le_of_ble_eq_true rfl, Nat.le_of_ble_eq_true rfl⟩ [11] rfl 11 rfl rfl rfl hl.1 rfl (Nat.le_of_ble_eq_true rfl) dX5_count_106 ⟨Nat.zero_le _, Nat.zero_le _⟩ ?_
    obtain ⟨r14, h15, hm⟩ := ob hm
    refine k_rSi S hK hP cal_J6_bitCount_0f7a4 gX5_count_J6_bitCount_0f7a4 (c_J6_bitCount_0f7a4 l D cC cI cJ r12 r14 h15) ⟨⟨rfl, rfl⟩, Nat.le_of_ble_eq_true rfl, Nat.le_of_ble_eq_true rfl⟩ [] rfl rfl hl.1 rfl (Nat.le_of_ble_eq_true rfl) dX5_count_109 ⟨Nat.zero_le _, Nat.zero_le _⟩ ?_
    exact e_RI S hr hlk (Option.some.inj hm) dX5_count_112
  replace hm := ineg hm c11
  by_cases c16 : p0 = (5 : Int32)
  · replace hm := ipos hm c16
    refine f_tabIn S c16 dX5_count_1 (off := 112) (by decide) (by decide) (by decide) (tgt := 113) (by decide) ?_
    refine lv_aload_n hx hb dX5_count_113 rfl (lv_at hl 0 rfl) ?_
    refine f_get S hK hP in_X5_count_X5 0 rfl rfl 4 (by decide) (List.mem_of_getElem? (i := 4) rfl) rfl rfl dX5_count_114 ?_
    refine f_get S hK hP in_X5_count_X4 11 rfl rfl 4 (by decide) (List.mem_of_getElem? (i := 6) rfl) rfl rfl dX5_count_117 ?_
    exact e_RI S hr hlk (Option.some.inj hm) dX5_count_120
  replace hm := ineg hm c16
  by_cases c17 : p0 = (6 : Int32)
  · replace hm := ipos hm c17
    refine f_tabIn S c17 dX5_count_1 (off := 120) (by decide) (by decide) (by decide) (tgt := 121) (by decide) ?_
    refine lv_aload_n hx hb dX5_count_121 rfl (lv_at hl 0 rfl) ?_
    refine f_get S hK hP in_X5_count_X5 0 rfl rfl 4 (by decide) (List.mem_of_getElem? (i := 4) rfl) rfl rfl dX5_count_122 ?_
    refine f_get S hK hP in_X5_count_X4 11 rfl rfl 5 (by decide) (List.mem_of_getElem? (i := 7) rfl) rfl rfl dX5_count_125 ?_
    exact e_RI S hr hlk (Option.some.inj hm) dX5_count_128
  replace hm := ineg hm c17
  by_cases c18 : p0 = (7 : Int32)
  · replace hm := ipos hm c18
    refine f_tabIn S c18 dX5_count_1 (off := 128) (by decide) (by decide) (by decide) (tgt := 129) (by decide) ?_
    refine lv_aload_n hx hb dX5_count_129 rfl (lv_at hl 0 rfl) ?_
    refine f_get S hK hP in_X5_count_X5 0 rfl rfl 4 (by decide) (List.mem_of_getElem? (i := 4) rfl) rfl rfl dX5_count_130 ?_
    refine lv_aload_n hx hb dX5_count_133 rfl (lv_at hl 0 rfl) ?_
    refine f_get S hK hP in_X5_count_X5 0 rfl rfl 2 (by decide) (List.mem_of_getElem? (i := 1) rfl) rfl rfl dX5_count_134 ?_
    obtain ⟨r19, h20, hm⟩ := ob hm
    refine k_rVi S hK hP cal_X4_isLost gX5_count_X4_isLost (c_X4_isLost l D cC cI cJ a_no a_mo a_mo_kinds a_mo_days a_mo_rideDays a_mo_helpKinds a_mo_nexts a_mo_helperKinds a_mo_prices a_mo_helpersOfKind a_mo_numbers no_asked no_brought no_friends no_used no_crumbs no_day mo_tasks mo_helpers mo_askedFirst mo_crumbsFirst mo_lastDay mo_kinds mo_days mo_rideDays mo_helpKinds mo_nexts mo_helperKinds mo_prices mo_helpersOfKind mo_numbers r19 h20) ⟨⟨rfl, rfl⟩, Nat.le_of_ble_eq_true rfl, Nat.le_of_ble_eq_true rfl⟩ [11, 1, 2, 3, 4, 5, 6, 7, 8, 9, 10] rfl 11 rfl rfl rfl hl.1 rfl (Nat.le_of_ble_eq_true rfl) dX5_count_137 ⟨Nat.zero_le _, Nat.zero_le _⟩ ?_
    obtain ⟨r21, h22, hm⟩ := ob hm
    refine k_rSi S hK hP cal_X5_oneIf gX5_count_X5_oneIf (c_X5_oneIf l D cC cI cJ r19 r21 h22) ⟨⟨rfl, rfl⟩, Nat.le_of_ble_eq_true rfl, Nat.le_of_ble_eq_true rfl⟩ [] rfl rfl hl.1 rfl (Nat.le_of_ble_eq_true rfl) dX5_count_140 ⟨Nat.zero_le _, Nat.zero_le _⟩ ?_
    exact e_RI S hr hlk (Option.some.inj hm) dX5_count_143
  replace hm := ineg hm c18
  by_cases c23 : p0 = (8 : Int32)
  · replace hm := ipos hm c23
    refine f_tabIn S c23 dX5_count_1 (off := 143) (by decide) (by decide) (by decide) (tgt := 144) (by decide) ?_
    refine lv_aload_n hx hb dX5_count_144 rfl (lv_at hl 0 rfl) ?_
    refine f_get S hK hP in_X5_count_X5 0 rfl rfl 8 (by decide) (List.mem_of_getElem? (i := 8) rfl) rfl rfl dX5_count_145 ?_
    refine f_get S hK hP in_X5_count_X3 16 rfl rfl 0 (by decide) (List.mem_of_getElem? (i := 9) rfl) rfl rfl dX5_count_148 ?_
    exact e_RI S hr hlk (Option.some.inj hm) dX5_count_151
  replace hm := ineg hm c23
  by_cases c24 : p0 = (9 : Int32)
  · replace hm := ipos hm c24
    refine f_tabIn S c24 dX5_count_1 (off := 151) (by decide) (by decide) (by decide) (tgt := 152) (by decide) ?_
    refine lv_aload_n hx hb dX5_count_152 rfl (lv_at hl 0 rfl) ?_
    refine f_get S hK hP in_X5_count_X5 0 rfl rfl 6 (by decide) (List.mem_of_getElem? (i := 10) rfl) rfl rfl dX5_count_153 ?_
    refine f_get S hK hP in_X5_count_X1 12 rfl rfl 0 (by decide) (List.mem_of_getElem? (i := 11) rfl) rfl rfl dX5_count_156 ?_
    exact e_RI S hr hlk (Option.some.inj hm) dX5_count_159
  replace hm := ineg hm c24
  by_cases c25 : p0 = (10 : Int32)
  · replace hm := ipos hm c25
    refine f_tabIn S c25 dX5_count_1 (off := 159) (by decide) (by decide) (by decide) (tgt := 160) (by decide) ?_
    refine lv_aload_n hx hb dX5_count_160 rfl (lv_at hl 0 rfl) ?_
    refine f_get S hK hP in_X5_count_X5 0 rfl rfl 7 (by decide) (List.mem_of_getElem? (i := 12) rfl) rfl rfl dX5_count_161 ?_
    refine f_get S hK hP in_X5_count_X1 14 rfl rfl 0 (by decide) (List.mem_of_getElem? (i := 11) rfl) rfl rfl dX5_count_164 ?_
    exact e_RI S hr hlk (Option.some.inj hm) dX5_count_167
  replace hm := ineg hm c25
  by_cases c26 : p0 = (11 : Int32)
  · replace hm := ipos hm c26
    refine f_tabIn S c26 dX5_count_1 (off := 167) (by decide) (by decide) (by decide) (tgt := 168) (by decide) ?_
    refine lv_aload_n hx hb dX5_count_168 rfl (lv_at hl 0 rfl) ?_
    refine f_get S hK hP in_X5_count_X5 0 rfl rfl 1 (by decide) (List.mem_of_getElem? (i := 13) rfl) rfl rfl dX5_count_169 ?_
    exact e_RI S hr hlk (Option.some.inj hm) dX5_count_172
  replace hm := ineg hm c26
  have nc1 := toInt_ne c1 (n := 0) (by decide)
  have nc2 := toInt_ne c2 (n := 1) (by decide)
  have nc3 := toInt_ne c3 (n := 2) (by decide)
  have nc8 := toInt_ne c8 (n := 3) (by decide)
  have nc11 := toInt_ne c11 (n := 4) (by decide)
  have nc16 := toInt_ne c16 (n := 5) (by decide)
  have nc17 := toInt_ne c17 (n := 6) (by decide)
  have nc18 := toInt_ne c18 (n := 7) (by decide)
  have nc23 := toInt_ne c23 (n := 8) (by decide)
  have nc24 := toInt_ne c24 (n := 9) (by decide)
  have nc25 := toInt_ne c25 (n := 10) (by decide)
  have nc26 := toInt_ne c26 (n := 11) (by decide)
  refine f_tabOut S dX5_count_1 (by omega) (tgt := 173) (by decide) ?_
  refine lv_iconst (v := (-1)) hx hb dX5_count_173 (by decide) ?_
  exact e_RI S hr hlk (Option.some.inj hm) dX5_count_174

abbrev rX5_drawOf : Room := { frames := 0, cells := 0, slots := 0, locals := 0 }
theorem cal_X5_drawOf : Cal yX5_drawOf wsX5_drawOf cX5_drawOf 4 (some .int) RX5 2 := ⟨⟨_, rfl⟩, rfl, by decide +kernel, by decide +kernel, by decide +kernel⟩
set_option maxHeartbeats 4000000 in
set_option maxRecDepth 100000 in
theorem c_X5_drawOf (l : Launch) (D : va_G) (cC cI cJ : ClassId)  (p0 : Int32) (p1 : Int32) (out : Int32) (hm : m_X5_drawOf p0 p1 = some out) : RdI l yX5_drawOf wsX5_drawOf rX5_drawOf D (tyK cC cI cJ) [.int p0, .int p1] [] out := by
  unfold m_X5_drawOf at hm
  refine enter (cc := cX5_drawOf) (maxL := 4) (ret := (some .int)) (lv := [(0, .int p0), (1, .int p1)]) (by decide) rfl (Nat.le_of_ble_eq_true rfl) rfl ?_
  intro p e s m args below meth c S hr hlk hK hP ls hl
  replace S : CallFix p m c cX5_drawOf 4 s args wsX5_drawOf RX5 := S
  have hx := S.1
  have hb := S.2.1
  refine lv_ldc2 hx hb S.2.2.2.1 (S.2.2.2.2 (.constantLong RX5 259 (7919)) (List.mem_of_getElem? (i := 1) rfl)) dX5_drawOf_0 ?_
  refine lv_iload_n hx hb dX5_drawOf_3 rfl (lv_at hl 0 rfl) ?_
  refine lv_i2l (v := (p0).toInt64) hx hb dX5_drawOf_4 rfl ?_
  refine lv_lmul hx hb dX5_drawOf_5 ?_
  refine lv_ldc2 hx hb S.2.2.2.1 (S.2.2.2.2 (.constantLong RX5 261 (6151)) (List.mem_of_getElem? (i := 2) rfl)) dX5_drawOf_6 ?_
  refine lv_iload_n hx hb dX5_drawOf_9 rfl (lv_at hl 1 rfl) ?_
  refine lv_i2l (v := (p1).toInt64) hx hb dX5_drawOf_10 rfl ?_
  refine lv_lmul hx hb dX5_drawOf_11 ?_
  refine lv_ladd hx hb dX5_drawOf_12 ?_
  refine lv_lconst (v := 1) hx hb dX5_drawOf_13 (by decide) ?_
  refine lv_ladd hx hb dX5_drawOf_14 ?_
  obtain ⟨y1, e2, hm⟩ := ob hm
  refine f_nameL e2 ?_
  refine lv_lstore_n (lv' := [(2, .long y1), (0, .int p0), (1, .int p1)]) hx hb dX5_drawOf_15 rfl hl (by decide) rfl (fun ls hl => ?_)
  refine lv_lload_n hx hb dX5_drawOf_16 rfl (lv_at hl 0 rfl) ?_
  refine lv_lload_n hx hb dX5_drawOf_17 rfl (lv_at hl 0 rfl) ?_
  refine lv_lmul hx hb dX5_drawOf_18 ?_
  refine lv_ldc2 hx hb S.2.2.2.1 (S.2.2.2.2 (.constantLong RX5 263 (65521)) (List.mem_of_getElem? (i := 3) rfl)) dX5_drawOf_19 ?_
  refine lv_lrem hx hb dX5_drawOf_22 (by decide) ?_
  refine lv_ldc2 hx hb S.2.2.2.1 (S.2.2.2.2 (.constantLong RX5 265 (2)) (List.mem_of_getElem? (i := 4) rfl)) dX5_drawOf_23 ?_
  refine lv_ldiv hx hb dX5_drawOf_26 (by decide) ?_
  refine lv_l2i (v := ((((y1 * y1) - (y1 * y1) / (65521 : Int64) * (65521 : Int64)) / (2 : Int64))).toInt32) hx hb dX5_drawOf_27 rfl ?_
  exact e_RI S hr hlk (Option.some.inj hm) dX5_drawOf_28

abbrev rX5_fault : Room := { frames := 5, cells := 0, slots := 0, locals := 120 }
theorem cal_X5_fault : Cal yX5_fault wsX5_fault cX5_fault 1 (some .int) RX5 0 := ⟨⟨_, rfl⟩, rfl, by decide +kernel, by decide +kernel, by decide +kernel⟩
theorem in_X5_fault_X5 : ∀ w ∈ wsX50, w ∈ wsX5_fault := fun _ h => (List.mem_cons_of_mem _ (List.mem_append_left _ (List.mem_append_right _ h)))
set_option maxHeartbeats 4000000 in
set_option maxRecDepth 100000 in
theorem c_X5_fault (l : Launch) (D : va_G) (cC cI cJ : ClassId) (a_x : Nat) (a_x_text : Nat) (g_x_months : Nat) (a_sp : Nat) (g_x_now : Nat) (g_x_trial : Nat) (g_x_undoable : Nat) (g_x_kept : Nat) (g_x_seen : Nat) (g_x_unseen : Nat) (g_x_search : Nat) (a_sp_kinds : Nat) (a_sp_days : Nat) (a_sp_rideDays : Nat) (a_sp_helpKinds : Nat) (a_sp_nexts : Nat) (a_sp_helperKinds : Nat) (a_sp_prices : Nat) (a_sp_helpersOfKind : Nat) (a_sp_numbers : Nat) (x_letters : Int32) (x_text : (Nat → Int32)) (sp_tasks : Int32) (sp_helpers : Int32) (sp_askedFirst : Int32) (sp_crumbsFirst : Int32) (sp_lastDay : Int32) (sp_kinds : (Nat → Int32)) (sp_days : (Nat → Int32)) (sp_rideDays : (Nat → Int32)) (sp_helpKinds : (Nat → Int32)) (sp_nexts : (Nat → Int32)) (sp_helperKinds : (Nat → Int32)) (sp_prices : (Nat → Int32)) (sp_helpersOfKind : (Nat → Int32)) (sp_numbers : (Nat → Int32)) (N : Nat) (A : Nat → Prop) (hD : va_D A (wd_17 cC cI cJ a_x a_x_text x_letters g_x_months a_sp g_x_now g_x_trial g_x_undoable g_x_kept g_x_seen g_x_unseen g_x_search a_x_text x_text a_sp sp_tasks sp_helpers sp_askedFirst sp_crumbsFirst sp_lastDay a_sp_kinds a_sp_days a_sp_rideDays a_sp_helpKinds a_sp_nexts a_sp_helperKinds a_sp_prices a_sp_helpersOfKind a_sp_numbers a_sp_kinds sp_kinds a_sp_days sp_days a_sp_rideDays sp_rideDays a_sp_helpKinds sp_helpKinds a_sp_nexts sp_nexts a_sp_helperKinds sp_helperKinds a_sp_prices sp_prices a_sp_helpersOfKind sp_helpersOfKind a_sp_numbers sp_numbers)) (out : (Int32 × Int32 × Int32 × Int32 × Int32 × Int32 × (Nat → Int32) × (Nat → Int32) × (Nat → Int32) × (Nat → Int32) × (Nat → Int32) × (Nat → Int32) × (Nat → Int32) × (Nat → Int32) × (Nat → Int32))) (hm : m_X5_fault N x_letters x_text sp_kinds sp_days sp_rideDays sp_helpKinds sp_nexts sp_helperKinds sp_prices sp_helpersOfKind sp_numbers = some out) : WrI l yX5_fault wsX5_fault rX5_fault D (tyK cC cI cJ) [.ref a_x] A (wd_17 cC cI cJ a_x a_x_text x_letters g_x_months a_sp g_x_now g_x_trial g_x_undoable g_x_kept g_x_seen g_x_unseen g_x_search a_x_text x_text a_sp sp_tasks sp_helpers sp_askedFirst sp_crumbsFirst sp_lastDay a_sp_kinds a_sp_days a_sp_rideDays a_sp_helpKinds a_sp_nexts a_sp_helperKinds a_sp_prices a_sp_helpersOfKind a_sp_numbers a_sp_kinds sp_kinds a_sp_days sp_days a_sp_rideDays sp_rideDays a_sp_helpKinds sp_helpKinds a_sp_nexts sp_nexts a_sp_helperKinds sp_helperKinds a_sp_prices sp_prices a_sp_helpersOfKind sp_helpersOfKind a_sp_numbers sp_numbers) (Bw0 D (wd_17 cC cI cJ a_x a_x_text x_letters g_x_months a_sp g_x_now g_x_trial g_x_undoable g_x_kept g_x_seen g_x_unseen g_x_search a_x_text x_text a_sp out.2.1 out.2.2.1 out.2.2.2.1 out.2.2.2.2.1 out.2.2.2.2.2.1 a_sp_kinds a_sp_days a_sp_rideDays a_sp_helpKinds a_sp_nexts a_sp_helperKinds a_sp_prices a_sp_helpersOfKind a_sp_numbers a_sp_kinds out.2.2.2.2.2.2.1 a_sp_days out.2.2.2.2.2.2.2.1 a_sp_rideDays out.2.2.2.2.2.2.2.2.1 a_sp_helpKinds out.2.2.2.2.2.2.2.2.2.1 a_sp_nexts out.2.2.2.2.2.2.2.2.2.2.1 a_sp_helperKinds out.2.2.2.2.2.2.2.2.2.2.2.1 a_sp_prices out.2.2.2.2.2.2.2.2.2.2.2.2.1 a_sp_helpersOfKind out.2.2.2.2.2.2.2.2.2.2.2.2.2.1 a_sp_numbers out.2.2.2.2.2.2.2.2.2.2.2.2.2.2)) out.1 := by
  unfold m_X5_fault at hm
  refine enter (cc := cX5_fault) (maxL := 1) (ret := (some .int)) (lv := [(0, .ref a_x)]) (by decide) rfl (Nat.le_of_ble_eq_true rfl) rfl ?_
  intro p e s m args below meth c S hr hlk hK hP ls hl
  replace S : CallFix p m c cX5_fault 1 s args wsX5_fault RX5 := S
  have hx := S.1
  have hb := S.2.1
  have hw : Wd D A s.heap (wd_17 cC cI cJ a_x a_x_text x_letters g_x_months a_sp g_x_now g_x_trial g_x_undoable g_x_kept g_x_seen g_x_unseen g_x_search a_x_text x_text a_sp sp_tasks sp_helpers sp_askedFirst sp_crumbsFirst sp_lastDay a_sp_kinds a_sp_days a_sp_rideDays a_sp_helpKinds a_sp_nexts a_sp_helperKinds a_sp_prices a_sp_helpersOfKind a_sp_numbers a_sp_kinds sp_kinds a_sp_days sp_days a_sp_rideDays sp_rideDays a_sp_helpKinds sp_helpKinds a_sp_nexts sp_nexts a_sp_helperKinds sp_helperKinds a_sp_prices sp_prices a_sp_helpersOfKind sp_helpersOfKind a_sp_numbers sp_numbers) s.heap [] := ⟨hP, hD, va_S.rf⟩
  have hw0 := hw
  refine lv_aload_n hx hb dX5_fault_0 rfl (lv_at hl 0 rfl) ?_
  refine f_get S hK hw.1 in_X5_fault_X5 0 rfl rfl 3 (by decide) (List.mem_of_getElem? (i := 1) rfl) rfl rfl dX5_fault_1 ?_
  refine lv_aload_n hx hb dX5_fault_4 rfl (lv_at hl 0 rfl) ?_
  refine f_get S hK hw.1 in_X5_fault_X5 0 rfl rfl 0 (by decide) (List.mem_of_getElem? (i := 2) rfl) rfl rfl dX5_fault_5 ?_
  refine lv_aload_n hx hb dX5_fault_8 rfl (lv_at hl 0 rfl) ?_
  refine f_get S hK hw.1 in_X5_fault_X5 0 rfl rfl 1 (by decide) (List.mem_of_getElem? (i := 3) rfl) rfl rfl dX5_fault_9 ?_
  obtain ⟨r1, h2, hm⟩ := ob hm
  refine k_wVi S hK hw cal_X0_readFrom gX5_fault_X0_readFrom (c_X0_readFrom l D cC cI cJ a_sp a_sp_kinds a_sp_days a_sp_rideDays a_sp_helpKinds a_sp_nexts a_sp_helperKinds a_sp_prices a_sp_helpersOfKind a_sp_numbers a_x_text sp_tasks sp_helpers sp_askedFirst sp_crumbsFirst sp_lastDay sp_kinds sp_days sp_rideDays sp_helpKinds sp_nexts sp_helperKinds sp_prices sp_helpersOfKind sp_numbers 200 x_text x_letters N (aw _) (hw.own [2, 3, 4, 5, 6, 7, 8, 9, 10, 11, 1] (by decide) rfl) r1 h2) ⟨⟨rfl, rfl⟩, Nat.le_of_ble_eq_true rfl, Nat.le_of_ble_eq_true rfl⟩ [2, 3, 4, 5, 6, 7, 8, 9, 10, 11, 1] rfl 2 rfl rfl rfl hl.1 rfl (Nat.le_of_ble_eq_true rfl) dX5_fault_12 ⟨Nat.zero_le _, Nat.zero_le _⟩ (fun H locs hJ hB => ?_)
  have hw := hJ _ hB rfl
  replace hw : Wd D A _ (wd_17 cC cI cJ a_x a_x_text x_letters g_x_months a_sp g_x_now g_x_trial g_x_undoable g_x_kept g_x_seen g_x_unseen g_x_search a_x_text x_text a_sp r1.2.1 r1.2.2.1 r1.2.2.2.1 r1.2.2.2.2.1 r1.2.2.2.2.2.1 a_sp_kinds a_sp_days a_sp_rideDays a_sp_helpKinds a_sp_nexts a_sp_helperKinds a_sp_prices a_sp_helpersOfKind a_sp_numbers a_sp_kinds r1.2.2.2.2.2.2.1 a_sp_days r1.2.2.2.2.2.2.2.1 a_sp_rideDays r1.2.2.2.2.2.2.2.2.1 a_sp_helpKinds r1.2.2.2.2.2.2.2.2.2.1 a_sp_nexts r1.2.2.2.2.2.2.2.2.2.2.1 a_sp_helperKinds r1.2.2.2.2.2.2.2.2.2.2.2.1 a_sp_prices r1.2.2.2.2.2.2.2.2.2.2.2.2.1 a_sp_helpersOfKind r1.2.2.2.2.2.2.2.2.2.2.2.2.2.1 a_sp_numbers r1.2.2.2.2.2.2.2.2.2.2.2.2.2.2) H locs := hw
  obtain rfl := Option.some.inj hm
  exact e_WI S hr hlk hw rfl hw.1 dX5_fault_15

abbrev rX5_fewest : Room := { frames := 16, cells := 0, slots := 0, locals := 429 }
theorem cal_X5_fewest : Cal yX5_fewest wsX5_fewest cX5_fewest 3 (some .int) RX5 1 := ⟨⟨_, rfl⟩, rfl, by decide +kernel, by decide +kernel, by decide +kernel⟩
theorem in_X5_fewest_X5 : ∀ w ∈ wsX50, w ∈ wsX5_fewest := fun _ h => (List.mem_cons_of_mem _ (List.mem_append_left _ (List.mem_append_left _ (List.mem_append_left _ (List.mem_append_left _ (List.mem_append_right _ h))))))
set_option maxHeartbeats 4000000 in
set_option maxRecDepth 100000 in
theorem c_X5_fewest (l : Launch) (D : va_G) (cC cI cJ : ClassId) (a_x : Nat) (g_x_text : Nat) (a_mo : Nat) (g_x_spare : Nat) (a_no : Nat) (g_x_trial : Nat) (g_x_undoable : Nat) (g_x_kept : Nat) (g_x_seen : Nat) (a_us : Nat) (a_sr : Nat) (a_mo_kinds : Nat) (a_mo_days : Nat) (a_mo_rideDays : Nat) (a_mo_helpKinds : Nat) (a_mo_nexts : Nat) (a_mo_helperKinds : Nat) (a_mo_prices : Nat) (a_mo_helpersOfKind : Nat) (a_mo_numbers : Nat) (a_us_left : Nat) (a_sr_known : Nat) (a_ro : Nat) (g_sr_months : Nat) (g_sr_heeded : Nat) (x_letters : Int32) (mo_tasks : Int32) (mo_helpers : Int32) (mo_askedFirst : Int32) (mo_crumbsFirst : Int32) (mo_lastDay : Int32) (mo_kinds : (Nat → Int32)) (mo_days : (Nat → Int32)) (mo_rideDays : (Nat → Int32)) (mo_helpKinds : (Nat → Int32)) (mo_nexts : (Nat → Int32)) (mo_helperKinds : (Nat → Int32)) (mo_prices : (Nat → Int32)) (mo_helpersOfKind : (Nat → Int32)) (mo_numbers : (Nat → Int32)) (no_asked : Int32) (no_brought : Int32) (no_friends : Int32) (no_used : Int32) (no_crumbs : Int32) (no_day : Int32) (us_size : Int32) (us_lastPlace : Int32) (us_left : (Nat → Int32)) (sr_number : Int64) (sr_enough : Int64) (sr_hopeless : Int32) (sr_known : (Nat → Int64)) (ro_asked : Int32) (ro_brought : Int32) (ro_friends : Int32) (ro_used : Int32) (ro_crumbs : Int32) (ro_day : Int32) (p0 : Int32) (N : Nat) (A : Nat → Prop) (hD : va_D A (wd_18 cC cI cJ a_x g_x_text x_letters a_mo g_x_spare a_no g_x_trial g_x_undoable g_x_kept g_x_seen a_us a_sr a_mo mo_tasks mo_helpers mo_askedFirst mo_crumbsFirst mo_lastDay a_mo_kinds a_mo_days a_mo_rideDays a_mo_helpKinds a_mo_nexts a_mo_helperKinds a_mo_prices a_mo_helpersOfKind a_mo_numbers a_mo_kinds mo_kinds a_mo_days mo_days a_mo_rideDays mo_rideDays a_mo_helpKinds mo_helpKinds a_mo_nexts mo_nexts a_mo_helperKinds mo_helperKinds a_mo_prices mo_prices a_mo_helpersOfKind mo_helpersOfKind a_mo_numbers mo_numbers a_no no_asked no_brought no_friends no_used no_crumbs no_day a_us us_size us_lastPlace a_us_left a_us_left us_left a_sr a_sr_known a_ro a_us sr_number sr_enough sr_hopeless g_sr_months g_sr_heeded a_sr_known sr_known a_ro ro_asked ro_brought ro_friends ro_used ro_crumbs ro_day)) (out : (Int32 × Int64 × Int64 × Int32 × (Nat → Int64) × Int32 × Int32 × Int32 × Int32 × Int32 × Int32)) (hm : m_X5_fewest N mo_tasks mo_helpers mo_lastDay mo_kinds mo_rideDays mo_helpKinds mo_nexts mo_prices mo_helpersOfKind no_asked no_brought no_friends no_used no_crumbs no_day us_lastPlace us_left sr_number sr_enough sr_hopeless sr_known ro_asked ro_brought ro_friends ro_used ro_crumbs ro_day p0 = some out) : WrI l yX5_fewest wsX5_fewest rX5_fewest D (tyK cC cI cJ) [.ref a_x, .int p0] A (wd_18 cC cI cJ a_x g_x_text x_letters a_mo g_x_spare a_no g_x_trial g_x_undoable g_x_kept g_x_seen a_us a_sr a_mo mo_tasks mo_helpers mo_askedFirst mo_crumbsFirst mo_lastDay a_mo_kinds a_mo_days a_mo_rideDays a_mo_helpKinds a_mo_nexts a_mo_helperKinds a_mo_prices a_mo_helpersOfKind a_mo_numbers a_mo_kinds mo_kinds a_mo_days mo_days a_mo_rideDays mo_rideDays a_mo_helpKinds mo_helpKinds a_mo_nexts mo_nexts a_mo_helperKinds mo_helperKinds a_mo_prices mo_prices a_mo_helpersOfKind mo_helpersOfKind a_mo_numbers mo_numbers a_no no_asked no_brought no_friends no_used no_crumbs no_day a_us us_size us_lastPlace a_us_left a_us_left us_left a_sr a_sr_known a_ro a_us sr_number sr_enough sr_hopeless g_sr_months g_sr_heeded a_sr_known sr_known a_ro ro_asked ro_brought ro_friends ro_used ro_crumbs ro_day) (Bw2 D (fun z_14_6 z_14_7 => (wd_18 cC cI cJ a_x g_x_text x_letters a_mo g_x_spare a_no g_x_trial g_x_undoable g_x_kept g_x_seen a_us a_sr a_mo mo_tasks mo_helpers mo_askedFirst mo_crumbsFirst mo_lastDay a_mo_kinds a_mo_days a_mo_rideDays a_mo_helpKinds a_mo_nexts a_mo_helperKinds a_mo_prices a_mo_helpersOfKind a_mo_numbers a_mo_kinds mo_kinds a_mo_days mo_days a_mo_rideDays mo_rideDays a_mo_helpKinds mo_helpKinds a_mo_nexts mo_nexts a_mo_helperKinds mo_helperKinds a_mo_prices mo_prices a_mo_helpersOfKind mo_helpersOfKind a_mo_numbers mo_numbers a_no no_asked no_brought no_friends no_used no_crumbs no_day a_us us_size us_lastPlace a_us_left a_us_left us_left a_sr a_sr_known a_ro a_us out.2.1 out.2.2.1 out.2.2.2.1 z_14_6 z_14_7 a_sr_known out.2.2.2.2.1 a_ro out.2.2.2.2.2.1 out.2.2.2.2.2.2.1 out.2.2.2.2.2.2.2.1 out.2.2.2.2.2.2.2.2.1 out.2.2.2.2.2.2.2.2.2.1 out.2.2.2.2.2.2.2.2.2.2))) out.1 := by
  unfold m_X5_fewest at hm
  refine enter (cc := cX5_fewest) (maxL := 3) (ret := (some .int)) (lv := [(0, .ref a_x), (1, .int p0)]) (by decide) rfl (Nat.le_of_ble_eq_true rfl) rfl ?_
  intro p e s m args below meth c S hr hlk hK hP ls hl
  replace S : CallFix p m c cX5_fewest 3 s args wsX5_fewest RX5 := S
  have hx := S.1
  have hb := S.2.1
  have hw : Wd D A s.heap (wd_18 cC cI cJ a_x g_x_text x_letters a_mo g_x_spare a_no g_x_trial g_x_undoable g_x_kept g_x_seen a_us a_sr a_mo mo_tasks mo_helpers mo_askedFirst mo_crumbsFirst mo_lastDay a_mo_kinds a_mo_days a_mo_rideDays a_mo_helpKinds a_mo_nexts a_mo_helperKinds a_mo_prices a_mo_helpersOfKind a_mo_numbers a_mo_kinds mo_kinds a_mo_days mo_days a_mo_rideDays mo_rideDays a_mo_helpKinds mo_helpKinds a_mo_nexts mo_nexts a_mo_helperKinds mo_helperKinds a_mo_prices mo_prices a_mo_helpersOfKind mo_helpersOfKind a_mo_numbers mo_numbers a_no no_asked no_brought no_friends no_used no_crumbs no_day a_us us_size us_lastPlace a_us_left a_us_left us_left a_sr a_sr_known a_ro a_us sr_number sr_enough sr_hopeless g_sr_months g_sr_heeded a_sr_known sr_known a_ro ro_asked ro_brought ro_friends ro_used ro_crumbs ro_day) s.heap [] := ⟨hP, hD, va_S.rf⟩
  have hw0 := hw
  refine lv_iload_n hx hb dX5_fewest_0 rfl (lv_at hl 1 rfl) ?_
  refine lv_if_lt (tgt := 9) hx hb dX5_fewest_1 (by decide) (fun c1 => ?_) (fun c1 => ?_)
  · replace hm := ipos hm c1
    refine lv_iconst (v := (-1)) hx hb dX5_fewest_9 (by decide) ?_
    obtain rfl := Option.some.inj hm
    exact e_WI S hr hlk hw rfl ⟨g_sr_months, g_sr_heeded, hw.1⟩ dX5_fewest_10
  · replace hm := ineg hm c1
    refine lv_iload_n hx hb dX5_fewest_4 rfl (lv_at hl 1 rfl) ?_
    refine lv_iconst (v := 1) hx hb dX5_fewest_5 (by decide) ?_
    refine lv_icmp_le (tgt := 11) hx hb dX5_fewest_6 (by decide) (fun c2 => ?_) (fun c2 => ?_)
    · replace hm := ipos hm c2
      refine lv_aload_n hx hb dX5_fewest_11 rfl (lv_at hl 0 rfl) ?_
      refine f_get S hK hw.1 in_X5_fewest_X5 0 rfl rfl 10 (by decide) (List.mem_of_getElem? (i := 1) rfl) rfl rfl dX5_fewest_12 ?_
      refine lv_aload_n hx hb dX5_fewest_15 rfl (lv_at hl 0 rfl) ?_
      refine f_get S hK hw.1 in_X5_fewest_X5 0 rfl rfl 2 (by decide) (List.mem_of_getElem? (i := 2) rfl) rfl rfl dX5_fewest_16 ?_
      refine lv_aload_n hx hb dX5_fewest_19 rfl (lv_at hl 0 rfl) ?_
      refine f_get S hK hw.1 in_X5_fewest_X5 0 rfl rfl 4 (by decide) (List.mem_of_getElem? (i := 3) rfl) rfl rfl dX5_fewest_20 ?_
      obtain ⟨r3, h4, hm⟩ := ob hm
      refine k_wVi S hK hw cal_X2_fewestSet gX5_fewest_X2_fewestSet (c_X2_fewestSet l D cC cI cJ a_sr a_sr_known a_ro a_us g_sr_months g_sr_heeded a_us_left a_mo a_mo_kinds a_mo_days a_mo_rideDays a_mo_helpKinds a_mo_nexts a_mo_helperKinds a_mo_prices a_mo_helpersOfKind a_mo_numbers a_no sr_number sr_enough sr_hopeless sr_known ro_asked ro_brought ro_friends ro_used ro_crumbs ro_day us_size us_lastPlace us_left mo_tasks mo_helpers mo_askedFirst mo_crumbsFirst mo_lastDay mo_kinds mo_days mo_rideDays mo_helpKinds mo_nexts mo_helperKinds mo_prices mo_helpersOfKind mo_numbers no_asked no_brought no_friends no_used no_crumbs no_day N (aw _) (hw.own [14, 15, 16, 12, 13, 1, 2, 3, 4, 5, 6, 7, 8, 9, 10, 11] (by decide) rfl) r3 h4) ⟨⟨rfl, rfl⟩, Nat.le_of_ble_eq_true rfl, Nat.le_of_ble_eq_true rfl⟩ [14, 15, 16, 12, 13, 1, 2, 3, 4, 5, 6, 7, 8, 9, 10, 11] rfl 14 rfl rfl rfl hl.1 rfl (Nat.le_of_ble_eq_true rfl) dX5_fewest_23 ⟨Nat.zero_le _, Nat.zero_le _⟩ (fun H locs hJ hB => ?_)
      have hw := hJ _ hB rfl
      replace hw : Wd D A _ (wd_18 cC cI cJ a_x g_x_text x_letters a_mo g_x_spare a_no g_x_trial g_x_undoable g_x_kept g_x_seen a_us a_sr a_mo mo_tasks mo_helpers mo_askedFirst mo_crumbsFirst mo_lastDay a_mo_kinds a_mo_days a_mo_rideDays a_mo_helpKinds a_mo_nexts a_mo_helperKinds a_mo_prices a_mo_helpersOfKind a_mo_numbers a_mo_kinds mo_kinds a_mo_days mo_days a_mo_rideDays mo_rideDays a_mo_helpKinds mo_helpKinds a_mo_nexts mo_nexts a_mo_helperKinds mo_helperKinds a_mo_prices mo_prices a_mo_helpersOfKind mo_helpersOfKind a_mo_numbers mo_numbers a_no no_asked no_brought no_friends no_used no_crumbs no_day a_us us_size us_lastPlace a_us_left a_us_left us_left a_sr a_sr_known a_ro a_us r3.2.1 r3.2.2.1 r3.2.2.2.1 a_mo a_us a_sr_known r3.2.2.2.2.1 a_ro r3.2.2.2.2.2.1 r3.2.2.2.2.2.2.1 r3.2.2.2.2.2.2.2.1 r3.2.2.2.2.2.2.2.2.1 r3.2.2.2.2.2.2.2.2.2.1 r3.2.2.2.2.2.2.2.2.2.2) H locs := hw
      refine lv_istore_n (lv' := [(2, .int r3.1), (0, .ref a_x), (1, .int p0)]) hx hb dX5_fewest_26 rfl hl (by decide) rfl (fun ls hl => ?_)
      refine lv_iload_n hx hb dX5_fewest_27 rfl (lv_at hl 0 rfl) ?_
      refine lv_if_ge (tgt := 34) hx hb dX5_fewest_28 (by decide) (fun c5 => ?_) (fun c5 => ?_)
      · replace hm := ipos hm c5
        refine lv_iload_n hx hb dX5_fewest_34 rfl (lv_at hl 2 rfl) ?_
        refine lv_if_ne (tgt := 49) hx hb dX5_fewest_35 (by decide) (fun c6 => ?_) (fun c6 => ?_)
        · replace hm := ineg hm c6
          refine lv_iload_n hx hb dX5_fewest_49 rfl (lv_at hl 0 rfl) ?_
          obtain rfl := Option.some.inj hm
          exact e_WI S hr hlk hw rfl ⟨a_mo, a_us, hw.1⟩ dX5_fewest_50
        · replace hm := ipos hm c6
          refine lv_aload_n hx hb dX5_fewest_38 rfl (lv_at hl 1 rfl) ?_
          refine f_get S hK hw.1 in_X5_fewest_X5 0 rfl rfl 2 (by decide) (List.mem_of_getElem? (i := 2) rfl) rfl rfl dX5_fewest_39 ?_
          refine lv_iload_n hx hb dX5_fewest_42 rfl (lv_at hl 0 rfl) ?_
          obtain ⟨r7, h8, hm⟩ := ob hm
          refine k_rVi S hK hw.1 cal_X0_priceOfSet gX5_fewest_X0_priceOfSet (c_X0_priceOfSet l D cC cI cJ a_mo a_mo_kinds a_mo_days a_mo_rideDays a_mo_helpKinds a_mo_nexts a_mo_helperKinds a_mo_prices a_mo_helpersOfKind a_mo_numbers mo_tasks mo_helpers mo_askedFirst mo_crumbsFirst mo_lastDay mo_kinds mo_days mo_rideDays mo_helpKinds mo_nexts mo_helperKinds mo_prices mo_helpersOfKind mo_numbers r3.1 N r7 h8) ⟨⟨rfl, rfl⟩, Nat.le_of_ble_eq_true rfl, Nat.le_of_ble_eq_true rfl⟩ [1, 2, 3, 4, 5, 6, 7, 8, 9, 10] rfl 1 rfl rfl rfl hl.1 rfl (Nat.le_of_ble_eq_true rfl) dX5_fewest_43 ⟨Nat.zero_le _, Nat.zero_le _⟩ ?_
          refine lv_goto (tgt := 50) hx hb dX5_fewest_46 (by decide) ?_
          obtain rfl := Option.some.inj hm
          exact e_WI S hr hlk hw rfl ⟨a_mo, a_us, hw.1⟩ dX5_fewest_50
      · replace hm := ineg hm c5
        refine lv_bipush (v := (-4)) hx hb dX5_fewest_31 (by decide) ?_
        obtain rfl := Option.some.inj hm
        exact e_WI S hr hlk hw rfl ⟨a_mo, a_us, hw.1⟩ dX5_fewest_33
    · replace hm := ineg hm c2
      refine lv_iconst (v := (-1)) hx hb dX5_fewest_9 (by decide) ?_
      obtain rfl := Option.some.inj hm
      exact e_WI S hr hlk hw rfl ⟨g_sr_months, g_sr_heeded, hw.1⟩ dX5_fewest_10
