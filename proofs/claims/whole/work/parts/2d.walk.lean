/-! walks: X4_lowestOf X4_withOneMore X4_helpersFor X4_tryRide X2_remember X2_waysOn X2_endsWellWith X2_fewestSet -/
abbrev rX4_lowestOf : Room := { frames := 0, cells := 0, slots := 0, locals := 0 }
theorem cal_X4_lowestOf : Cal yX4_lowestOf wsX4_lowestOf cX4_lowestOf 1 (some .int) RX4 1 := ⟨⟨_, rfl⟩, rfl, by decide +kernel, by decide +kernel, by decide +kernel⟩
set_option maxHeartbeats 4000000 in
set_option maxRecDepth 100000 in
theorem c_X4_lowestOf (l : Launch) (D : va_G) (cC cI cJ : ClassId)  (p0 : Int32) (out : Int32) (hm : m_X4_lowestOf p0 = some out) : RdI l yX4_lowestOf wsX4_lowestOf rX4_lowestOf D (tyK cC cI cJ) [.int p0] [] out := by
  unfold m_X4_lowestOf at hm
  refine enter (cc := cX4_lowestOf) (maxL := 1) (ret := (some .int)) (lv := [(0, .int p0)]) (by decide) rfl (Nat.le_of_ble_eq_true rfl) rfl ?_
  intro p e s m args below meth c S hr hlk hK hP ls hl
  replace S : CallFix p m c cX4_lowestOf 1 s args wsX4_lowestOf RX4 := S
  have hx := S.1
  have hb := S.2.1
  refine lv_iload_n hx hb dX4_lowestOf_0 rfl (lv_at hl 0 rfl) ?_
  refine lv_if_ne (tgt := 9) hx hb dX4_lowestOf_1 (by decide) (fun c1 => ?_) (fun c1 => ?_)
  · replace hm := ineg hm c1
    refine lv_iload_n hx hb dX4_lowestOf_9 rfl (lv_at hl 0 rfl) ?_
    refine lv_iload_n hx hb dX4_lowestOf_10 rfl (lv_at hl 0 rfl) ?_
    refine lv_ineg hx hb dX4_lowestOf_11 ?_
    refine lv_iand hx hb dX4_lowestOf_12 ?_
    exact e_RI S hr hlk (Option.some.inj hm) dX4_lowestOf_13
  · replace hm := ipos hm c1
    refine lv_bipush (v := (-2)) hx hb dX4_lowestOf_4 (by decide) ?_
    refine lv_goto (tgt := 13) hx hb dX4_lowestOf_6 (by decide) ?_
    exact e_RI S hr hlk (Option.some.inj hm) dX4_lowestOf_13

abbrev rX4_withOneMore : Room := { frames := 0, cells := 0, slots := 0, locals := 0 }
theorem cal_X4_withOneMore : Cal yX4_withOneMore wsX4_withOneMore cX4_withOneMore 3 (some .int) RX4 2 := ⟨⟨_, rfl⟩, rfl, by decide +kernel, by decide +kernel, by decide +kernel⟩
set_option maxHeartbeats 4000000 in
set_option maxRecDepth 100000 in
theorem c_X4_withOneMore (l : Launch) (D : va_G) (cC cI cJ : ClassId)  (p0 : Int32) (p1 : Int32) (out : Int32) (hm : m_X4_withOneMore p0 p1 = some out) : RdI l yX4_withOneMore wsX4_withOneMore rX4_withOneMore D (tyK cC cI cJ) [.int p0, .int p1] [] out := by
  unfold m_X4_withOneMore at hm
  refine enter (cc := cX4_withOneMore) (maxL := 3) (ret := (some .int)) (lv := [(0, .int p0), (1, .int p1)]) (by decide) rfl (Nat.le_of_ble_eq_true rfl) rfl ?_
  intro p e s m args below meth c S hr hlk hK hP ls hl
  replace S : CallFix p m c cX4_withOneMore 3 s args wsX4_withOneMore RX4 := S
  have hx := S.1
  have hb := S.2.1
  refine lv_iload_n hx hb dX4_withOneMore_0 rfl (lv_at hl 0 rfl) ?_
  refine lv_if_ge (tgt := 8) hx hb dX4_withOneMore_1 (by decide) (fun c1 => ?_) (fun c1 => ?_)
  · replace hm := ipos hm c1
    refine lv_iload_n hx hb dX4_withOneMore_8 rfl (lv_at hl 1 rfl) ?_
    refine lv_iload_n hx hb dX4_withOneMore_9 rfl (lv_at hl 0 rfl) ?_
    refine lv_iconst (v := (-1)) hx hb dX4_withOneMore_10 (by decide) ?_
    refine lv_ixor hx hb dX4_withOneMore_11 ?_
    refine lv_iand hx hb dX4_withOneMore_12 ?_
    refine lv_istore_n (lv' := [(2, .int (p1 &&& (p0 ^^^ (-1 : Int32)))), (0, .int p0), (1, .int p1)]) hx hb dX4_withOneMore_13 rfl hl (by decide) rfl (fun ls hl => ?_)
    refine lv_iload_n hx hb dX4_withOneMore_14 rfl (lv_at hl 0 rfl) ?_
    refine lv_if_ne (tgt := 23) hx hb dX4_withOneMore_15 (by decide) (fun c2 => ?_) (fun c2 => ?_)
    · replace hm := ineg hm c2
      refine lv_iload_n hx hb dX4_withOneMore_23 rfl (lv_at hl 1 rfl) ?_
      refine lv_iload_n hx hb dX4_withOneMore_24 rfl (lv_at hl 0 rfl) ?_
      refine lv_iload_n hx hb dX4_withOneMore_25 rfl (lv_at hl 0 rfl) ?_
      refine lv_ineg hx hb dX4_withOneMore_26 ?_
      refine lv_iand hx hb dX4_withOneMore_27 ?_
      refine lv_ior hx hb dX4_withOneMore_28 ?_
      exact e_RI S hr hlk (Option.some.inj hm) dX4_withOneMore_29
    · replace hm := ipos hm c2
      refine lv_bipush (v := (-2)) hx hb dX4_withOneMore_18 (by decide) ?_
      refine lv_goto (tgt := 29) hx hb dX4_withOneMore_20 (by decide) ?_
      exact e_RI S hr hlk (Option.some.inj hm) dX4_withOneMore_29
  · replace hm := ineg hm c1
    refine lv_iconst (v := 0) hx hb dX4_withOneMore_4 (by decide) ?_
    refine lv_goto (tgt := 13) hx hb dX4_withOneMore_5 (by decide) ?_
    refine lv_istore_n (lv' := [(2, .int (0 : Int32)), (0, .int p0), (1, .int p1)]) hx hb dX4_withOneMore_13 rfl hl (by decide) rfl (fun ls hl => ?_)
    refine lv_iload_n hx hb dX4_withOneMore_14 rfl (lv_at hl 0 rfl) ?_
    refine lv_if_ne (tgt := 23) hx hb dX4_withOneMore_15 (by decide) (fun c3 => ?_) (fun c3 => ?_)
    · exact absurd (by decide) c3
    · skip
      refine lv_bipush (v := (-2)) hx hb dX4_withOneMore_18 (by decide) ?_
      refine lv_goto (tgt := 29) hx hb dX4_withOneMore_20 (by decide) ?_
      exact e_RI S hr hlk (Option.some.inj hm) dX4_withOneMore_29

abbrev rX4_helpersFor : Room := { frames := 1, cells := 0, slots := 0, locals := 22 }
theorem cal_X4_helpersFor : Cal yX4_helpersFor wsX4_helpersFor cX4_helpersFor 7 (some .int) RX4 2 := ⟨⟨_, rfl⟩, rfl, by decide +kernel, by decide +kernel, by decide +kernel⟩
theorem in_X4_helpersFor_X4 : ∀ w ∈ wsX40, w ∈ wsX4_helpersFor := fun _ h => (List.mem_cons_of_mem _ (List.mem_append_left _ (List.mem_append_right _ h)))
set_option maxHeartbeats 4000000 in
set_option maxRecDepth 100000 in
theorem c_X4_helpersFor (l : Launch) (D : va_G) (cC cI cJ : ClassId) (a_st : Nat) (a_mo : Nat) (a_mo_kinds : Nat) (a_mo_days : Nat) (a_mo_rideDays : Nat) (a_mo_helpKinds : Nat) (a_mo_nexts : Nat) (a_mo_helperKinds : Nat) (a_mo_prices : Nat) (a_mo_helpersOfKind : Nat) (a_mo_numbers : Nat) (st_asked : Int32) (st_brought : Int32) (st_friends : Int32) (st_used : Int32) (st_crumbs : Int32) (st_day : Int32) (mo_tasks : Int32) (mo_helpers : Int32) (mo_askedFirst : Int32) (mo_crumbsFirst : Int32) (mo_lastDay : Int32) (mo_kinds : (Nat → Int32)) (mo_days : (Nat → Int32)) (mo_rideDays : (Nat → Int32)) (mo_helpKinds : (Nat → Int32)) (mo_nexts : (Nat → Int32)) (mo_helperKinds : (Nat → Int32)) (mo_prices : (Nat → Int32)) (mo_helpersOfKind : (Nat → Int32)) (mo_numbers : (Nat → Int32)) (p1 : Int32) (out : Int32) (hm : m_X4_helpersFor st_asked st_brought st_friends st_used st_day mo_lastDay mo_kinds mo_helpKinds mo_helpersOfKind p1 = some out) : RdI l yX4_helpersFor wsX4_helpersFor rX4_helpersFor D (tyK cC cI cJ) [.ref a_st, .ref a_mo, .int p1] (wd_8 cC cI cJ a_st st_asked st_brought st_friends st_used st_crumbs st_day a_mo mo_tasks mo_helpers mo_askedFirst mo_crumbsFirst mo_lastDay a_mo_kinds a_mo_days a_mo_rideDays a_mo_helpKinds a_mo_nexts a_mo_helperKinds a_mo_prices a_mo_helpersOfKind a_mo_numbers a_mo_kinds mo_kinds a_mo_days mo_days a_mo_rideDays mo_rideDays a_mo_helpKinds mo_helpKinds a_mo_nexts mo_nexts a_mo_helperKinds mo_helperKinds a_mo_prices mo_prices a_mo_helpersOfKind mo_helpersOfKind a_mo_numbers mo_numbers) out := by
  unfold m_X4_helpersFor at hm
  refine enter (cc := cX4_helpersFor) (maxL := 7) (ret := (some .int)) (lv := [(0, .ref a_st), (1, .ref a_mo), (2, .int p1)]) (by decide) rfl (Nat.le_of_ble_eq_true rfl) rfl ?_
  intro p e s m args below meth c S hr hlk hK hP ls hl
  replace S : CallFix p m c cX4_helpersFor 7 s args wsX4_helpersFor RX4 := S
  have hx := S.1
  have hb := S.2.1
  refine lv_aload_n hx hb dX4_helpersFor_0 rfl (lv_at hl 0 rfl) ?_
  refine lv_aload_n hx hb dX4_helpersFor_1 rfl (lv_at hl 1 rfl) ?_
  obtain ⟨r1, h2, hm⟩ := ob hm
  refine k_rVi S hK hP cal_X4_isLost gX4_helpersFor_X4_isLost (c_X4_isLost l D cC cI cJ a_st a_mo a_mo_kinds a_mo_days a_mo_rideDays a_mo_helpKinds a_mo_nexts a_mo_helperKinds a_mo_prices a_mo_helpersOfKind a_mo_numbers st_asked st_brought st_friends st_used st_crumbs st_day mo_tasks mo_helpers mo_askedFirst mo_crumbsFirst mo_lastDay mo_kinds mo_days mo_rideDays mo_helpKinds mo_nexts mo_helperKinds mo_prices mo_helpersOfKind mo_numbers r1 h2) ⟨⟨rfl, rfl⟩, Nat.le_of_ble_eq_true rfl, Nat.le_of_ble_eq_true rfl⟩ [0, 1, 2, 3, 4, 5, 6, 7, 8, 9, 10] rfl 0 rfl rfl rfl hl.1 rfl (Nat.le_of_ble_eq_true rfl) dX4_helpersFor_2 ⟨Nat.zero_le _, Nat.zero_le _⟩ ?_
  refine lv_if_ne (tgt := 20) hx hb dX4_helpersFor_5 (by decide) (fun c3 => ?_) (fun c3 => ?_)
  · replace hm := ineg hm c3
    refine lv_bipush (v := (-2)) hx hb dX4_helpersFor_20 (by decide) ?_
    exact e_RI S hr hlk (Option.some.inj hm) dX4_helpersFor_22
  · replace hm := ipos hm c3
    refine lv_aload_n hx hb dX4_helpersFor_8 rfl (lv_at hl 0 rfl) ?_
    obtain ⟨r4, h5, hm⟩ := ob hm
    refine k_rVi S hK hP cal_X4_openTasks gX4_helpersFor_X4_openTasks (c_X4_openTasks l D cC cI cJ a_st st_asked st_brought st_friends st_used st_crumbs st_day r4 h5) ⟨⟨rfl, rfl⟩, Nat.le_of_ble_eq_true rfl, Nat.le_of_ble_eq_true rfl⟩ [0] rfl 0 rfl rfl rfl hl.1 rfl (Nat.le_of_ble_eq_true rfl) dX4_helpersFor_9 ⟨Nat.zero_le _, Nat.zero_le _⟩ ?_
    refine lv_iload_n hx hb dX4_helpersFor_12 rfl (lv_at hl 2 rfl) ?_
    obtain ⟨r6, h7, hm⟩ := ob hm
    refine k_rNi S hK hP cal_X5_bit gX4_helpersFor_X5_bit_n49 (List.mem_of_getElem? (i := 4) rfl) (List.mem_of_getElem? (i := 15) rfl) (List.mem_of_getElem? (i := 14) rfl) (c_X5_bit l D cC cI cJ p1 r6 h7) ⟨⟨rfl, rfl⟩, Nat.le_of_ble_eq_true rfl, Nat.le_of_ble_eq_true rfl⟩ [] rfl rfl hl.1 rfl (Nat.le_of_ble_eq_true rfl) dX4_helpersFor_13 ⟨Nat.zero_le _, Nat.zero_le _⟩ ?_
    refine lv_iand hx hb dX4_helpersFor_16 ?_
    refine lv_if_ne (tgt := 23) hx hb dX4_helpersFor_17 (by decide) (fun c8 => ?_) (fun c8 => ?_)
    · replace hm := ineg hm c8
      refine lv_aload_n hx hb dX4_helpersFor_23 rfl (lv_at hl 1 rfl) ?_
      refine lv_iload_n hx hb dX4_helpersFor_24 rfl (lv_at hl 2 rfl) ?_
      obtain ⟨r9, h10, hm⟩ := ob hm
      refine k_rVi S hK hP cal_X0_helpKindOf gX4_helpersFor_X0_helpKindOf (c_X0_helpKindOf l D cC cI cJ a_mo a_mo_kinds a_mo_days a_mo_rideDays a_mo_helpKinds a_mo_nexts a_mo_helperKinds a_mo_prices a_mo_helpersOfKind a_mo_numbers mo_tasks mo_helpers mo_askedFirst mo_crumbsFirst mo_lastDay mo_kinds mo_days mo_rideDays mo_helpKinds mo_nexts mo_helperKinds mo_prices mo_helpersOfKind mo_numbers p1 r9 h10) ⟨⟨rfl, rfl⟩, Nat.le_of_ble_eq_true rfl, Nat.le_of_ble_eq_true rfl⟩ [1, 2, 3, 4, 5, 6, 7, 8, 9, 10] rfl 1 rfl rfl rfl hl.1 rfl (Nat.le_of_ble_eq_true rfl) dX4_helpersFor_25 ⟨Nat.zero_le _, Nat.zero_le _⟩ ?_
      refine lv_istore_n (lv' := [(3, .int r9), (0, .ref a_st), (1, .ref a_mo), (2, .int p1)]) hx hb dX4_helpersFor_28 rfl hl (by decide) rfl (fun ls hl => ?_)
      refine lv_aload_n hx hb dX4_helpersFor_29 rfl (lv_at hl 1 rfl) ?_
      obtain ⟨r11, h12, hm⟩ := ob hm
      refine k_rVi S hK hP cal_X4_freeFriends gX4_helpersFor_X4_freeFriends (c_X4_freeFriends l D cC cI cJ a_st st_asked st_brought st_friends st_used st_crumbs st_day r11 h12) ⟨⟨rfl, rfl⟩, Nat.le_of_ble_eq_true rfl, Nat.le_of_ble_eq_true rfl⟩ [0] rfl 0 rfl rfl rfl hl.1 rfl (Nat.le_of_ble_eq_true rfl) dX4_helpersFor_30 ⟨Nat.zero_le _, Nat.zero_le _⟩ ?_
      refine lv_istore (lv' := [(4, .int r11), (3, .int r9), (0, .ref a_st), (1, .ref a_mo), (2, .int p1)]) hx hb dX4_helpersFor_33 hl (by decide) rfl (fun ls hl => ?_)
      refine lv_iload hx hb dX4_helpersFor_35 (lv_at hl 0 rfl) ?_
      refine lv_aload_n hx hb dX4_helpersFor_37 rfl (lv_at hl 3 rfl) ?_
      refine lv_iload_n hx hb dX4_helpersFor_38 rfl (lv_at hl 1 rfl) ?_
      obtain ⟨r13, h14, hm⟩ := ob hm
      refine k_rVi S hK hP cal_X0_helpersOf gX4_helpersFor_X0_helpersOf (c_X0_helpersOf l D cC cI cJ a_mo a_mo_kinds a_mo_days a_mo_rideDays a_mo_helpKinds a_mo_nexts a_mo_helperKinds a_mo_prices a_mo_helpersOfKind a_mo_numbers mo_tasks mo_helpers mo_askedFirst mo_crumbsFirst mo_lastDay mo_kinds mo_days mo_rideDays mo_helpKinds mo_nexts mo_helperKinds mo_prices mo_helpersOfKind mo_numbers r9 r13 h14) ⟨⟨rfl, rfl⟩, Nat.le_of_ble_eq_true rfl, Nat.le_of_ble_eq_true rfl⟩ [1, 2, 3, 4, 5, 6, 7, 8, 9, 10] rfl 1 rfl rfl rfl hl.1 rfl (Nat.le_of_ble_eq_true rfl) dX4_helpersFor_39 ⟨Nat.zero_le _, Nat.zero_le _⟩ ?_
      refine lv_iand hx hb dX4_helpersFor_42 ?_
      refine lv_istore (lv' := [(5, .int (r11 &&& r13)), (4, .int r11), (3, .int r9), (0, .ref a_st), (1, .ref a_mo), (2, .int p1)]) hx hb dX4_helpersFor_43 hl (by decide) rfl (fun ls hl => ?_)
      refine lv_iload_n hx hb dX4_helpersFor_45 rfl (lv_at hl 2 rfl) ?_
      refine lv_iconst (v := 5) hx hb dX4_helpersFor_46 (by decide) ?_
      refine lv_icmp_ne (tgt := 54) hx hb dX4_helpersFor_47 (by decide) (fun c15 => ?_) (fun c15 => ?_)
      · replace hm := ineg hm c15
        refine lv_iload hx hb dX4_helpersFor_54 (lv_at hl 0 rfl) ?_
        obtain ⟨r16, h17, hm⟩ := ob hm
        refine k_rSi S hK hP cal_X4_lowestOf gX4_helpersFor_X4_lowestOf (c_X4_lowestOf l D cC cI cJ (r11 &&& r13) r16 h17) ⟨⟨rfl, rfl⟩, Nat.le_of_ble_eq_true rfl, Nat.le_of_ble_eq_true rfl⟩ [] rfl rfl hl.1 rfl (Nat.le_of_ble_eq_true rfl) dX4_helpersFor_56 ⟨Nat.zero_le _, Nat.zero_le _⟩ ?_
        refine lv_istore (lv' := [(6, .int r16), (5, .int (r11 &&& r13)), (4, .int r11), (3, .int r9), (0, .ref a_st), (1, .ref a_mo), (2, .int p1)]) hx hb dX4_helpersFor_59 hl (by decide) rfl (fun ls hl => ?_)
        refine lv_aload_n hx hb dX4_helpersFor_61 rfl (lv_at hl 5 rfl) ?_
        refine lv_iload_n hx hb dX4_helpersFor_62 rfl (lv_at hl 6 rfl) ?_
        obtain ⟨r18, h19, hm⟩ := ob hm
        refine k_rVi S hK hP cal_X0_kindOf gX4_helpersFor_X0_kindOf (c_X0_kindOf l D cC cI cJ a_mo a_mo_kinds a_mo_days a_mo_rideDays a_mo_helpKinds a_mo_nexts a_mo_helperKinds a_mo_prices a_mo_helpersOfKind a_mo_numbers mo_tasks mo_helpers mo_askedFirst mo_crumbsFirst mo_lastDay mo_kinds mo_days mo_rideDays mo_helpKinds mo_nexts mo_helperKinds mo_prices mo_helpersOfKind mo_numbers p1 r18 h19) ⟨⟨rfl, rfl⟩, Nat.le_of_ble_eq_true rfl, Nat.le_of_ble_eq_true rfl⟩ [1, 2, 3, 4, 5, 6, 7, 8, 9, 10] rfl 1 rfl rfl rfl hl.1 rfl (Nat.le_of_ble_eq_true rfl) dX4_helpersFor_63 ⟨Nat.zero_le _, Nat.zero_le _⟩ ?_
        by_cases c20 : r18 = (0 : Int32)
        · replace hm := ipos hm c20
          refine f_tabIn S c20 dX4_helpersFor_66 (off := 34) (by decide) (by decide) (by decide) (tgt := 100) (by decide) ?_
          refine lv_iload hx hb dX4_helpersFor_100 (lv_at hl 0 rfl) ?_
          exact e_RI S hr hlk (Option.some.inj hm) dX4_helpersFor_102
        replace hm := ineg hm c20
        by_cases c21 : r18 = (1 : Int32)
        · replace hm := ipos hm c21
          refine f_tabIn S c21 dX4_helpersFor_66 (off := 37) (by decide) (by decide) (by decide) (tgt := 103) (by decide) ?_
          refine lv_iload_n hx hb dX4_helpersFor_103 rfl (lv_at hl 3 rfl) ?_
          refine lv_iconst (v := 5) hx hb dX4_helpersFor_104 (by decide) ?_
          refine lv_icmp_ne (tgt := 112) hx hb dX4_helpersFor_105 (by decide) (fun c22 => ?_) (fun c22 => ?_)
          · skip
            refine lv_iload hx hb dX4_helpersFor_112 (lv_at hl 0 rfl) ?_
            refine lv_iload hx hb dX4_helpersFor_114 (lv_at hl 1 rfl) ?_
            obtain ⟨r23, h24, hm⟩ := ob hm
            refine k_rSi S hK hP cal_X4_withOneMore gX4_helpersFor_X4_withOneMore (c_X4_withOneMore l D cC cI cJ r16 (r11 &&& r13) r23 h24) ⟨⟨rfl, rfl⟩, Nat.le_of_ble_eq_true rfl, Nat.le_of_ble_eq_true rfl⟩ [] rfl rfl hl.1 rfl (Nat.le_of_ble_eq_true rfl) dX4_helpersFor_116 ⟨Nat.zero_le _, Nat.zero_le _⟩ ?_
            exact e_RI S hr hlk (Option.some.inj hm) dX4_helpersFor_119
          · exact absurd c22 c15
        replace hm := ineg hm c21
        by_cases c25 : r18 = (2 : Int32)
        · replace hm := ipos hm c25
          refine f_tabIn S c25 dX4_helpersFor_66 (off := 54) (by decide) (by decide) (by decide) (tgt := 120) (by decide) ?_
          refine lv_iconst (v := 0) hx hb dX4_helpersFor_120 (by decide) ?_
          exact e_RI S hr hlk (Option.some.inj hm) dX4_helpersFor_121
        replace hm := ineg hm c25
        by_cases c26 : r18 = (3 : Int32)
        · replace hm := ipos hm c26
          refine f_tabIn S c26 dX4_helpersFor_66 (off := 56) (by decide) (by decide) (by decide) (tgt := 122) (by decide) ?_
          refine lv_iload hx hb dX4_helpersFor_122 (lv_at hl 0 rfl) ?_
          refine lv_iload hx hb dX4_helpersFor_124 (lv_at hl 2 rfl) ?_
          obtain ⟨r27, h28, hm⟩ := ob hm
          refine k_rSi S hK hP cal_X4_withOneMore gX4_helpersFor_X4_withOneMore (c_X4_withOneMore l D cC cI cJ r16 r11 r27 h28) ⟨⟨rfl, rfl⟩, Nat.le_of_ble_eq_true rfl, Nat.le_of_ble_eq_true rfl⟩ [] rfl rfl hl.1 rfl (Nat.le_of_ble_eq_true rfl) dX4_helpersFor_126 ⟨Nat.zero_le _, Nat.zero_le _⟩ ?_
          exact e_RI S hr hlk (Option.some.inj hm) dX4_helpersFor_129
        replace hm := ineg hm c26
        by_cases c29 : r18 = (4 : Int32)
        · replace hm := ipos hm c29
          refine f_tabIn S c29 dX4_helpersFor_66 (off := 64) (by decide) (by decide) (by decide) (tgt := 130) (by decide) ?_
          refine lv_aload_n hx hb dX4_helpersFor_130 rfl (lv_at hl 4 rfl) ?_
          refine f_get S hK hP in_X4_helpersFor_X4 0 rfl rfl 5 (by decide) (List.mem_of_getElem? (i := 1) rfl) rfl rfl dX4_helpersFor_131 ?_
          refine lv_bipush (v := 10) hx hb dX4_helpersFor_134 (by decide) ?_
          refine lv_icmp_le (tgt := 144) hx hb dX4_helpersFor_136 (by decide) (fun c30 => ?_) (fun c30 => ?_)
          · replace hm := ipos hm c30
            refine lv_iload hx hb dX4_helpersFor_144 (lv_at hl 0 rfl) ?_
            exact e_RI S hr hlk (Option.some.inj hm) dX4_helpersFor_146
          · replace hm := ineg hm c30
            refine lv_bipush (v := (-2)) hx hb dX4_helpersFor_139 (by decide) ?_
            refine lv_goto (tgt := 146) hx hb dX4_helpersFor_141 (by decide) ?_
            exact e_RI S hr hlk (Option.some.inj hm) dX4_helpersFor_146
        replace hm := ineg hm c29
        have nc20 := toInt_ne c20 (n := 0) (by decide)
        have nc21 := toInt_ne c21 (n := 1) (by decide)
        have nc25 := toInt_ne c25 (n := 2) (by decide)
        have nc26 := toInt_ne c26 (n := 3) (by decide)
        have nc29 := toInt_ne c29 (n := 4) (by decide)
        refine f_tabOut S dX4_helpersFor_66 (by omega) (tgt := 147) (by decide) ?_
        refine lv_bipush (v := (-2)) hx hb dX4_helpersFor_147 (by decide) ?_
        exact e_RI S hr hlk (Option.some.inj hm) dX4_helpersFor_149
      · replace hm := ipos hm c15
        refine lv_iconst (v := 0) hx hb dX4_helpersFor_50 (by decide) ?_
        refine lv_goto (tgt := 59) hx hb dX4_helpersFor_51 (by decide) ?_
        refine lv_istore (lv' := [(6, .int (0 : Int32)), (5, .int (r11 &&& r13)), (4, .int r11), (3, .int r9), (0, .ref a_st), (1, .ref a_mo), (2, .int p1)]) hx hb dX4_helpersFor_59 hl (by decide) rfl (fun ls hl => ?_)
        refine lv_aload_n hx hb dX4_helpersFor_61 rfl (lv_at hl 5 rfl) ?_
        refine lv_iload_n hx hb dX4_helpersFor_62 rfl (lv_at hl 6 rfl) ?_
        obtain ⟨r31, h32, hm⟩ := ob hm
        refine k_rVi S hK hP cal_X0_kindOf gX4_helpersFor_X0_kindOf (c_X0_kindOf l D cC cI cJ a_mo a_mo_kinds a_mo_days a_mo_rideDays a_mo_helpKinds a_mo_nexts a_mo_helperKinds a_mo_prices a_mo_helpersOfKind a_mo_numbers mo_tasks mo_helpers mo_askedFirst mo_crumbsFirst mo_lastDay mo_kinds mo_days mo_rideDays mo_helpKinds mo_nexts mo_helperKinds mo_prices mo_helpersOfKind mo_numbers p1 r31 h32) ⟨⟨rfl, rfl⟩, Nat.le_of_ble_eq_true rfl, Nat.le_of_ble_eq_true rfl⟩ [1, 2, 3, 4, 5, 6, 7, 8, 9, 10] rfl 1 rfl rfl rfl hl.1 rfl (Nat.le_of_ble_eq_true rfl) dX4_helpersFor_63 ⟨Nat.zero_le _, Nat.zero_le _⟩ ?_
        by_cases c33 : r31 = (0 : Int32)
        · replace hm := ipos hm c33
          refine f_tabIn S c33 dX4_helpersFor_66 (off := 34) (by decide) (by decide) (by decide) (tgt := 100) (by decide) ?_
          refine lv_iload hx hb dX4_helpersFor_100 (lv_at hl 0 rfl) ?_
          exact e_RI S hr hlk (Option.some.inj hm) dX4_helpersFor_102
        replace hm := ineg hm c33
        by_cases c34 : r31 = (1 : Int32)
        · replace hm := ipos hm c34
          refine f_tabIn S c34 dX4_helpersFor_66 (off := 37) (by decide) (by decide) (by decide) (tgt := 103) (by decide) ?_
          refine lv_iload_n hx hb dX4_helpersFor_103 rfl (lv_at hl 3 rfl) ?_
          refine lv_iconst (v := 5) hx hb dX4_helpersFor_104 (by decide) ?_
          refine lv_icmp_ne (tgt := 112) hx hb dX4_helpersFor_105 (by decide) (fun c35 => ?_) (fun c35 => ?_)
          · exact absurd c15 c35
          · skip
            refine lv_iconst (v := 0) hx hb dX4_helpersFor_108 (by decide) ?_
            refine lv_goto (tgt := 119) hx hb dX4_helpersFor_109 (by decide) ?_
            exact e_RI S hr hlk (Option.some.inj hm) dX4_helpersFor_119
        replace hm := ineg hm c34
        by_cases c36 : r31 = (2 : Int32)
        · replace hm := ipos hm c36
          refine f_tabIn S c36 dX4_helpersFor_66 (off := 54) (by decide) (by decide) (by decide) (tgt := 120) (by decide) ?_
          refine lv_iconst (v := 0) hx hb dX4_helpersFor_120 (by decide) ?_
          exact e_RI S hr hlk (Option.some.inj hm) dX4_helpersFor_121
        replace hm := ineg hm c36
        by_cases c37 : r31 = (3 : Int32)
        · replace hm := ipos hm c37
          refine f_tabIn S c37 dX4_helpersFor_66 (off := 56) (by decide) (by decide) (by decide) (tgt := 122) (by decide) ?_
          refine lv_iload hx hb dX4_helpersFor_122 (lv_at hl 0 rfl) ?_
          refine lv_iload hx hb dX4_helpersFor_124 (lv_at hl 2 rfl) ?_
          obtain ⟨r38, h39, hm⟩ := ob hm
          refine k_rSi S hK hP cal_X4_withOneMore gX4_helpersFor_X4_withOneMore (c_X4_withOneMore l D cC cI cJ (0 : Int32) r11 r38 h39) ⟨⟨rfl, rfl⟩, Nat.le_of_ble_eq_true rfl, Nat.le_of_ble_eq_true rfl⟩ [] rfl rfl hl.1 rfl (Nat.le_of_ble_eq_true rfl) dX4_helpersFor_126 ⟨Nat.zero_le _, Nat.zero_le _⟩ ?_
          exact e_RI S hr hlk (Option.some.inj hm) dX4_helpersFor_129
        replace hm := ineg hm c37
        by_cases c40 : r31 = (4 : Int32)
        · replace hm := ipos hm c40
          refine f_tabIn S c40 dX4_helpersFor_66 (off := 64) (by decide) (by decide) (by decide) (tgt := 130) (by decide) ?_
          refine lv_aload_n hx hb dX4_helpersFor_130 rfl (lv_at hl 4 rfl) ?_
          refine f_get S hK hP in_X4_helpersFor_X4 0 rfl rfl 5 (by decide) (List.mem_of_getElem? (i := 1) rfl) rfl rfl dX4_helpersFor_131 ?_
          refine lv_bipush (v := 10) hx hb dX4_helpersFor_134 (by decide) ?_
          refine lv_icmp_le (tgt := 144) hx hb dX4_helpersFor_136 (by decide) (fun c41 => ?_) (fun c41 => ?_)
          · replace hm := ipos hm c41
            refine lv_iload hx hb dX4_helpersFor_144 (lv_at hl 0 rfl) ?_
            exact e_RI S hr hlk (Option.some.inj hm) dX4_helpersFor_146
          · replace hm := ineg hm c41
            refine lv_bipush (v := (-2)) hx hb dX4_helpersFor_139 (by decide) ?_
            refine lv_goto (tgt := 146) hx hb dX4_helpersFor_141 (by decide) ?_
            exact e_RI S hr hlk (Option.some.inj hm) dX4_helpersFor_146
        replace hm := ineg hm c40
        have nc33 := toInt_ne c33 (n := 0) (by decide)
        have nc34 := toInt_ne c34 (n := 1) (by decide)
        have nc36 := toInt_ne c36 (n := 2) (by decide)
        have nc37 := toInt_ne c37 (n := 3) (by decide)
        have nc40 := toInt_ne c40 (n := 4) (by decide)
        refine f_tabOut S dX4_helpersFor_66 (by omega) (tgt := 147) (by decide) ?_
        refine lv_bipush (v := (-2)) hx hb dX4_helpersFor_147 (by decide) ?_
        exact e_RI S hr hlk (Option.some.inj hm) dX4_helpersFor_149
    · replace hm := ipos hm c8
      refine lv_bipush (v := (-2)) hx hb dX4_helpersFor_20 (by decide) ?_
      exact e_RI S hr hlk (Option.some.inj hm) dX4_helpersFor_22

abbrev rX4_tryRide : Room := { frames := 2, cells := 0, slots := 0, locals := 48 }
theorem cal_X4_tryRide : Cal yX4_tryRide wsX4_tryRide cX4_tryRide 4 (some .boolean) RX4 2 := ⟨⟨_, rfl⟩, rfl, by decide +kernel, by decide +kernel, by decide +kernel⟩
theorem in_X4_tryRide_X4 : ∀ w ∈ wsX40, w ∈ wsX4_tryRide := fun _ h => (List.mem_cons_of_mem _ (List.mem_append_left _ (List.mem_append_right _ h)))
set_option maxHeartbeats 4000000 in
set_option maxRecDepth 100000 in
theorem c_X4_tryRide (l : Launch) (D : va_G) (cC cI cJ : ClassId) (a_st : Nat) (a_mo : Nat) (a_mo_kinds : Nat) (a_mo_days : Nat) (a_mo_rideDays : Nat) (a_mo_helpKinds : Nat) (a_mo_nexts : Nat) (a_mo_helperKinds : Nat) (a_mo_prices : Nat) (a_mo_helpersOfKind : Nat) (a_mo_numbers : Nat) (st_asked : Int32) (st_brought : Int32) (st_friends : Int32) (st_used : Int32) (st_crumbs : Int32) (st_day : Int32) (mo_tasks : Int32) (mo_helpers : Int32) (mo_askedFirst : Int32) (mo_crumbsFirst : Int32) (mo_lastDay : Int32) (mo_kinds : (Nat → Int32)) (mo_days : (Nat → Int32)) (mo_rideDays : (Nat → Int32)) (mo_helpKinds : (Nat → Int32)) (mo_nexts : (Nat → Int32)) (mo_helperKinds : (Nat → Int32)) (mo_prices : (Nat → Int32)) (mo_helpersOfKind : (Nat → Int32)) (mo_numbers : (Nat → Int32)) (p1 : Int32) (A : Nat → Prop) (hD : va_D A (wd_8 cC cI cJ a_st st_asked st_brought st_friends st_used st_crumbs st_day a_mo mo_tasks mo_helpers mo_askedFirst mo_crumbsFirst mo_lastDay a_mo_kinds a_mo_days a_mo_rideDays a_mo_helpKinds a_mo_nexts a_mo_helperKinds a_mo_prices a_mo_helpersOfKind a_mo_numbers a_mo_kinds mo_kinds a_mo_days mo_days a_mo_rideDays mo_rideDays a_mo_helpKinds mo_helpKinds a_mo_nexts mo_nexts a_mo_helperKinds mo_helperKinds a_mo_prices mo_prices a_mo_helpersOfKind mo_helpersOfKind a_mo_numbers mo_numbers)) (out : (Int32 × Int32 × Int32 × Int32 × Int32)) (hm : m_X4_tryRide st_asked st_brought st_friends st_used st_day mo_lastDay mo_kinds mo_rideDays mo_helpKinds mo_nexts mo_helpersOfKind p1 = some out) : WrI l yX4_tryRide wsX4_tryRide rX4_tryRide D (tyK cC cI cJ) [.ref a_st, .ref a_mo, .int p1] A (wd_8 cC cI cJ a_st st_asked st_brought st_friends st_used st_crumbs st_day a_mo mo_tasks mo_helpers mo_askedFirst mo_crumbsFirst mo_lastDay a_mo_kinds a_mo_days a_mo_rideDays a_mo_helpKinds a_mo_nexts a_mo_helperKinds a_mo_prices a_mo_helpersOfKind a_mo_numbers a_mo_kinds mo_kinds a_mo_days mo_days a_mo_rideDays mo_rideDays a_mo_helpKinds mo_helpKinds a_mo_nexts mo_nexts a_mo_helperKinds mo_helperKinds a_mo_prices mo_prices a_mo_helpersOfKind mo_helpersOfKind a_mo_numbers mo_numbers) (Bw0 D (wd_8 cC cI cJ a_st out.2.1 out.2.2.1 st_friends out.2.2.2.1 st_crumbs out.2.2.2.2 a_mo mo_tasks mo_helpers mo_askedFirst mo_crumbsFirst mo_lastDay a_mo_kinds a_mo_days a_mo_rideDays a_mo_helpKinds a_mo_nexts a_mo_helperKinds a_mo_prices a_mo_helpersOfKind a_mo_numbers a_mo_kinds mo_kinds a_mo_days mo_days a_mo_rideDays mo_rideDays a_mo_helpKinds mo_helpKinds a_mo_nexts mo_nexts a_mo_helperKinds mo_helperKinds a_mo_prices mo_prices a_mo_helpersOfKind mo_helpersOfKind a_mo_numbers mo_numbers)) out.1 := by
  unfold m_X4_tryRide at hm
  refine enter (cc := cX4_tryRide) (maxL := 4) (ret := (some .boolean)) (lv := [(0, .ref a_st), (1, .ref a_mo), (2, .int p1)]) (by decide) rfl (Nat.le_of_ble_eq_true rfl) rfl ?_
  intro p e s m args below meth c S hr hlk hK hP ls hl
  replace S : CallFix p m c cX4_tryRide 4 s args wsX4_tryRide RX4 := S
  have hx := S.1
  have hb := S.2.1
  have hw : Wd D A s.heap (wd_8 cC cI cJ a_st st_asked st_brought st_friends st_used st_crumbs st_day a_mo mo_tasks mo_helpers mo_askedFirst mo_crumbsFirst mo_lastDay a_mo_kinds a_mo_days a_mo_rideDays a_mo_helpKinds a_mo_nexts a_mo_helperKinds a_mo_prices a_mo_helpersOfKind a_mo_numbers a_mo_kinds mo_kinds a_mo_days mo_days a_mo_rideDays mo_rideDays a_mo_helpKinds mo_helpKinds a_mo_nexts mo_nexts a_mo_helperKinds mo_helperKinds a_mo_prices mo_prices a_mo_helpersOfKind mo_helpersOfKind a_mo_numbers mo_numbers) s.heap [] := ⟨hP, hD, va_S.rf⟩
  have hw0 := hw
  refine lv_aload_n hx hb dX4_tryRide_0 rfl (lv_at hl 0 rfl) ?_
  refine lv_aload_n hx hb dX4_tryRide_1 rfl (lv_at hl 1 rfl) ?_
  refine lv_iload_n hx hb dX4_tryRide_2 rfl (lv_at hl 2 rfl) ?_
  obtain ⟨r1, h2, hm⟩ := ob hm
  refine k_rVi S hK hw.1 cal_X4_helpersFor gX4_tryRide_X4_helpersFor (c_X4_helpersFor l D cC cI cJ a_st a_mo a_mo_kinds a_mo_days a_mo_rideDays a_mo_helpKinds a_mo_nexts a_mo_helperKinds a_mo_prices a_mo_helpersOfKind a_mo_numbers st_asked st_brought st_friends st_used st_crumbs st_day mo_tasks mo_helpers mo_askedFirst mo_crumbsFirst mo_lastDay mo_kinds mo_days mo_rideDays mo_helpKinds mo_nexts mo_helperKinds mo_prices mo_helpersOfKind mo_numbers p1 r1 h2) ⟨⟨rfl, rfl⟩, Nat.le_of_ble_eq_true rfl, Nat.le_of_ble_eq_true rfl⟩ [0, 1, 2, 3, 4, 5, 6, 7, 8, 9, 10] rfl 0 rfl rfl rfl hl.1 rfl (Nat.le_of_ble_eq_true rfl) dX4_tryRide_3 ⟨Nat.zero_le _, Nat.zero_le _⟩ ?_
  refine lv_istore_n (lv' := [(3, .int r1), (0, .ref a_st), (1, .ref a_mo), (2, .int p1)]) hx hb dX4_tryRide_6 rfl hl (by decide) rfl (fun ls hl => ?_)
  refine lv_iload_n hx hb dX4_tryRide_7 rfl (lv_at hl 0 rfl) ?_
  refine lv_if_ge (tgt := 13) hx hb dX4_tryRide_8 (by decide) (fun c3 => ?_) (fun c3 => ?_)
  · replace hm := ipos hm c3
    refine lv_aload_n hx hb dX4_tryRide_13 rfl (lv_at hl 1 rfl) ?_
    refine lv_dup hx hb dX4_tryRide_14 rfl ?_
    refine f_get S hK hw.1 in_X4_tryRide_X4 0 rfl rfl 3 (by decide) (List.mem_of_getElem? (i := 1) rfl) rfl rfl dX4_tryRide_15 ?_
    refine lv_iload_n hx hb dX4_tryRide_18 rfl (lv_at hl 0 rfl) ?_
    refine lv_ior hx hb dX4_tryRide_19 ?_
    refine f_put S hK hw in_X4_tryRide_X4 tyX4_ok nmX4 0 rfl rfl 3 (by decide) (List.mem_of_getElem? (i := 1) rfl) rfl rfl rfl rfl (Nat.le_of_ble_eq_true rfl) (ws1 := (wd_8 cC cI cJ a_st st_asked st_brought st_friends (st_used ||| r1) st_crumbs st_day a_mo mo_tasks mo_helpers mo_askedFirst mo_crumbsFirst mo_lastDay a_mo_kinds a_mo_days a_mo_rideDays a_mo_helpKinds a_mo_nexts a_mo_helperKinds a_mo_prices a_mo_helpersOfKind a_mo_numbers a_mo_kinds mo_kinds a_mo_days mo_days a_mo_rideDays mo_rideDays a_mo_helpKinds mo_helpKinds a_mo_nexts mo_nexts a_mo_helperKinds mo_helperKinds a_mo_prices mo_prices a_mo_helpersOfKind mo_helpersOfKind a_mo_numbers mo_numbers)) rfl dX4_tryRide_20 (fun H locs hw => ?_)
    refine lv_aload_n hx hb dX4_tryRide_23 rfl (lv_at hl 1 rfl) ?_
    refine lv_dup hx hb dX4_tryRide_24 rfl ?_
    refine f_get S hK hw.1 in_X4_tryRide_X4 0 rfl rfl 5 (by decide) (List.mem_of_getElem? (i := 2) rfl) rfl rfl dX4_tryRide_25 ?_
    refine lv_aload_n hx hb dX4_tryRide_28 rfl (lv_at hl 2 rfl) ?_
    refine lv_iload_n hx hb dX4_tryRide_29 rfl (lv_at hl 3 rfl) ?_
    obtain ⟨r4, h5, hm⟩ := ob hm
    refine k_rVi S hK hw.1 cal_X0_rideDaysOf gX4_tryRide_X0_rideDaysOf (c_X0_rideDaysOf l D cC cI cJ a_mo a_mo_kinds a_mo_days a_mo_rideDays a_mo_helpKinds a_mo_nexts a_mo_helperKinds a_mo_prices a_mo_helpersOfKind a_mo_numbers mo_tasks mo_helpers mo_askedFirst mo_crumbsFirst mo_lastDay mo_kinds mo_days mo_rideDays mo_helpKinds mo_nexts mo_helperKinds mo_prices mo_helpersOfKind mo_numbers p1 r4 h5) ⟨⟨rfl, rfl⟩, Nat.le_of_ble_eq_true rfl, Nat.le_of_ble_eq_true rfl⟩ [1, 2, 3, 4, 5, 6, 7, 8, 9, 10] rfl 1 rfl rfl rfl hl.1 rfl (Nat.le_of_ble_eq_true rfl) dX4_tryRide_30 ⟨Nat.zero_le _, Nat.zero_le _⟩ ?_
    refine lv_iadd hx hb dX4_tryRide_33 ?_
    refine f_put S hK hw in_X4_tryRide_X4 tyX4_ok nmX4 0 rfl rfl 5 (by decide) (List.mem_of_getElem? (i := 2) rfl) rfl rfl rfl rfl (Nat.le_of_ble_eq_true rfl) (ws1 := (wd_8 cC cI cJ a_st st_asked st_brought st_friends (st_used ||| r1) st_crumbs (st_day + r4) a_mo mo_tasks mo_helpers mo_askedFirst mo_crumbsFirst mo_lastDay a_mo_kinds a_mo_days a_mo_rideDays a_mo_helpKinds a_mo_nexts a_mo_helperKinds a_mo_prices a_mo_helpersOfKind a_mo_numbers a_mo_kinds mo_kinds a_mo_days mo_days a_mo_rideDays mo_rideDays a_mo_helpKinds mo_helpKinds a_mo_nexts mo_nexts a_mo_helperKinds mo_helperKinds a_mo_prices mo_prices a_mo_helpersOfKind mo_helpersOfKind a_mo_numbers mo_numbers)) rfl dX4_tryRide_34 (fun H locs hw => ?_)
    refine lv_aload_n hx hb dX4_tryRide_37 rfl (lv_at hl 1 rfl) ?_
    refine lv_dup hx hb dX4_tryRide_38 rfl ?_
    refine f_get S hK hw.1 in_X4_tryRide_X4 0 rfl rfl 1 (by decide) (List.mem_of_getElem? (i := 3) rfl) rfl rfl dX4_tryRide_39 ?_
    refine lv_iload_n hx hb dX4_tryRide_42 rfl (lv_at hl 3 rfl) ?_
    obtain ⟨r6, h7, hm⟩ := ob hm
    refine k_rNi S hK hw.1 cal_X5_bit gX4_tryRide_X5_bit_n49 (List.mem_of_getElem? (i := 4) rfl) (List.mem_of_getElem? (i := 20) rfl) (List.mem_of_getElem? (i := 19) rfl) (c_X5_bit l D cC cI cJ p1 r6 h7) ⟨⟨rfl, rfl⟩, Nat.le_of_ble_eq_true rfl, Nat.le_of_ble_eq_true rfl⟩ [] rfl rfl hl.1 rfl (Nat.le_of_ble_eq_true rfl) dX4_tryRide_43 ⟨Nat.zero_le _, Nat.zero_le _⟩ ?_
    refine lv_ior hx hb dX4_tryRide_46 ?_
    refine f_put S hK hw in_X4_tryRide_X4 tyX4_ok nmX4 0 rfl rfl 1 (by decide) (List.mem_of_getElem? (i := 3) rfl) rfl rfl rfl rfl (Nat.le_of_ble_eq_true rfl) (ws1 := (wd_8 cC cI cJ a_st st_asked (st_brought ||| r6) st_friends (st_used ||| r1) st_crumbs (st_day + r4) a_mo mo_tasks mo_helpers mo_askedFirst mo_crumbsFirst mo_lastDay a_mo_kinds a_mo_days a_mo_rideDays a_mo_helpKinds a_mo_nexts a_mo_helperKinds a_mo_prices a_mo_helpersOfKind a_mo_numbers a_mo_kinds mo_kinds a_mo_days mo_days a_mo_rideDays mo_rideDays a_mo_helpKinds mo_helpKinds a_mo_nexts mo_nexts a_mo_helperKinds mo_helperKinds a_mo_prices mo_prices a_mo_helpersOfKind mo_helpersOfKind a_mo_numbers mo_numbers)) rfl dX4_tryRide_47 (fun H locs hw => ?_)
    refine lv_aload_n hx hb dX4_tryRide_50 rfl (lv_at hl 1 rfl) ?_
    refine lv_dup hx hb dX4_tryRide_51 rfl ?_
    refine f_get S hK hw.1 in_X4_tryRide_X4 0 rfl rfl 0 (by decide) (List.mem_of_getElem? (i := 4) rfl) rfl rfl dX4_tryRide_52 ?_
    refine lv_aload_n hx hb dX4_tryRide_55 rfl (lv_at hl 2 rfl) ?_
    refine lv_iload_n hx hb dX4_tryRide_56 rfl (lv_at hl 3 rfl) ?_
    obtain ⟨r8, h9, hm⟩ := ob hm
    refine k_rVi S hK hw.1 cal_X0_nextOf gX4_tryRide_X0_nextOf (c_X0_nextOf l D cC cI cJ a_mo a_mo_kinds a_mo_days a_mo_rideDays a_mo_helpKinds a_mo_nexts a_mo_helperKinds a_mo_prices a_mo_helpersOfKind a_mo_numbers mo_tasks mo_helpers mo_askedFirst mo_crumbsFirst mo_lastDay mo_kinds mo_days mo_rideDays mo_helpKinds mo_nexts mo_helperKinds mo_prices mo_helpersOfKind mo_numbers p1 r8 h9) ⟨⟨rfl, rfl⟩, Nat.le_of_ble_eq_true rfl, Nat.le_of_ble_eq_true rfl⟩ [1, 2, 3, 4, 5, 6, 7, 8, 9, 10] rfl 1 rfl rfl rfl hl.1 rfl (Nat.le_of_ble_eq_true rfl) dX4_tryRide_57 ⟨Nat.zero_le _, Nat.zero_le _⟩ ?_
    obtain ⟨r10, h11, hm⟩ := ob hm
    refine k_rNi S hK hw.1 cal_X5_bit gX4_tryRide_X5_bit_n49 (List.mem_of_getElem? (i := 4) rfl) (List.mem_of_getElem? (i := 20) rfl) (List.mem_of_getElem? (i := 19) rfl) (c_X5_bit l D cC cI cJ r8 r10 h11) ⟨⟨rfl, rfl⟩, Nat.le_of_ble_eq_true rfl, Nat.le_of_ble_eq_true rfl⟩ [] rfl rfl hl.1 rfl (Nat.le_of_ble_eq_true rfl) dX4_tryRide_60 ⟨Nat.zero_le _, Nat.zero_le _⟩ ?_
    refine lv_ior hx hb dX4_tryRide_63 ?_
    refine f_put S hK hw in_X4_tryRide_X4 tyX4_ok nmX4 0 rfl rfl 0 (by decide) (List.mem_of_getElem? (i := 4) rfl) rfl rfl rfl rfl (Nat.le_of_ble_eq_true rfl) (ws1 := (wd_8 cC cI cJ a_st (st_asked ||| r10) (st_brought ||| r6) st_friends (st_used ||| r1) st_crumbs (st_day + r4) a_mo mo_tasks mo_helpers mo_askedFirst mo_crumbsFirst mo_lastDay a_mo_kinds a_mo_days a_mo_rideDays a_mo_helpKinds a_mo_nexts a_mo_helperKinds a_mo_prices a_mo_helpersOfKind a_mo_numbers a_mo_kinds mo_kinds a_mo_days mo_days a_mo_rideDays mo_rideDays a_mo_helpKinds mo_helpKinds a_mo_nexts mo_nexts a_mo_helperKinds mo_helperKinds a_mo_prices mo_prices a_mo_helpersOfKind mo_helpersOfKind a_mo_numbers mo_numbers)) rfl dX4_tryRide_64 (fun H locs hw => ?_)
    refine lv_iconst (v := 1) hx hb dX4_tryRide_67 (by decide) ?_
    obtain rfl := Option.some.inj hm
    exact e_WZ S hr hlk hw (Or.inr rfl) rfl hw.1 dX4_tryRide_68
  · replace hm := ineg hm c3
    refine lv_iconst (v := 0) hx hb dX4_tryRide_11 (by decide) ?_
    obtain rfl := Option.some.inj hm
    exact e_WZ S hr hlk hw (Or.inl rfl) rfl hw.1 dX4_tryRide_12

abbrev rX2_remember : Room := { frames := 0, cells := 0, slots := 0, locals := 0 }
theorem cal_X2_remember : Cal yX2_remember wsX2_remember cX2_remember 4 none RX2 2 := ⟨⟨_, rfl⟩, rfl, by decide +kernel, by decide +kernel, by decide +kernel⟩
theorem in_X2_remember_X2 : ∀ w ∈ wsX20, w ∈ wsX2_remember := fun _ h => (List.mem_cons_of_mem _ (List.mem_append_right _ h))
set_option maxHeartbeats 4000000 in
set_option maxRecDepth 100000 in
theorem c_X2_remember (l : Launch) (D : va_G) (cC cI cJ : ClassId) (a_sr : Nat) (a_sr_known : Nat) (g_sr_road : Nat) (g_sr_unseen : Nat) (g_sr_months : Nat) (g_sr_heeded : Nat) (sr_number : Int64) (sr_enough : Int64) (sr_tooLong : Int32) (sr_known : (Nat → Int64)) (p0 : Int32) (p1 : Int64) (A : Nat → Prop) (hD : va_D A (wd_10 cC cI cJ a_sr a_sr_known g_sr_road g_sr_unseen sr_number sr_enough sr_tooLong g_sr_months g_sr_heeded a_sr_known sr_known)) (out : (Nat → Int64)) (hm : m_X2_remember sr_number sr_known p0 p1 = some out) : WrV l yX2_remember wsX2_remember rX2_remember D (tyK cC cI cJ) [.ref a_sr, .int p0, .long p1] A (wd_10 cC cI cJ a_sr a_sr_known g_sr_road g_sr_unseen sr_number sr_enough sr_tooLong g_sr_months g_sr_heeded a_sr_known sr_known) (Bw0 D (wd_10 cC cI cJ a_sr a_sr_known g_sr_road g_sr_unseen sr_number sr_enough sr_tooLong g_sr_months g_sr_heeded a_sr_known out)) := by
  unfold m_X2_remember at hm
  refine enter (cc := cX2_remember) (maxL := 4) (ret := none) (lv := [(0, .ref a_sr), (1, .int p0), (2, .long p1)]) (by decide) rfl (Nat.le_of_ble_eq_true rfl) rfl ?_
  intro p e s m args below meth c S hr hlk hK hP ls hl
  replace S : CallFix p m c cX2_remember 4 s args wsX2_remember RX2 := S
  have hx := S.1
  have hb := S.2.1
  have hw : Wd D A s.heap (wd_10 cC cI cJ a_sr a_sr_known g_sr_road g_sr_unseen sr_number sr_enough sr_tooLong g_sr_months g_sr_heeded a_sr_known sr_known) s.heap [] := ⟨hP, hD, va_S.rf⟩
  have hw0 := hw
  refine lv_iload_n hx hb dX2_remember_0 rfl (lv_at hl 1 rfl) ?_
  refine lv_if_lt (tgt := 28) hx hb dX2_remember_1 (by decide) (fun c1 => ?_) (fun c1 => ?_)
  · replace hm := ipos hm c1
    obtain rfl := Option.some.inj hm
    exact e_WV S hr hlk hw hw.1 dX2_remember_28
  · replace hm := ineg hm c1
    refine lv_iload_n hx hb dX2_remember_4 rfl (lv_at hl 1 rfl) ?_
    refine lv_aload_n hx hb dX2_remember_5 rfl (lv_at hl 0 rfl) ?_
    refine f_get S hK hw.1 in_X2_remember_X2 0 rfl rfl 0 (by decide) (List.mem_of_getElem? (i := 1) rfl) rfl rfl dX2_remember_6 ?_
    refine f_alen S hK hw.1 1 2 rfl rfl (v := (32768 : Int32)) rfl dX2_remember_9 ?_
    refine lv_icmp_ge (tgt := 28) hx hb dX2_remember_10 (by decide) (fun c2 => ?_) (fun c2 => ?_)
    · replace hm := ipos hm c2
      obtain rfl := Option.some.inj hm
      exact e_WV S hr hlk hw hw.1 dX2_remember_28
    · replace hm := ineg hm c2
      refine lv_aload_n hx hb dX2_remember_13 rfl (lv_at hl 0 rfl) ?_
      refine f_get S hK hw.1 in_X2_remember_X2 0 rfl rfl 0 (by decide) (List.mem_of_getElem? (i := 1) rfl) rfl rfl dX2_remember_14 ?_
      refine lv_iload_n hx hb dX2_remember_17 rfl (lv_at hl 1 rfl) ?_
      refine lv_aload_n hx hb dX2_remember_18 rfl (lv_at hl 0 rfl) ?_
      refine f_get S hK hw.1 in_X2_remember_X2 0 rfl rfl 3 (by decide) (List.mem_of_getElem? (i := 2) rfl) rfl rfl dX2_remember_19 ?_
      refine lv_bipush (v := 16) hx hb dX2_remember_22 (by decide) ?_
      refine lv_lshl (v := (sr_number <<< (((16 : Int32)).toInt64 &&& 63))) hx hb dX2_remember_24 rfl ?_
      refine lv_lload_n hx hb dX2_remember_25 rfl (lv_at hl 2 rfl) ?_
      refine lv_lor hx hb dX2_remember_26 ?_
      obtain ⟨y4, e5, hm⟩ := ob hm
      refine f_nameL e5 ?_
      obtain ⟨g3, hm⟩ := gdo hm
      refine f_last S hK hw 1 2 rfl rfl g3 (ws1 := (wd_10 cC cI cJ a_sr a_sr_known g_sr_road g_sr_unseen sr_number sr_enough sr_tooLong g_sr_months g_sr_heeded a_sr_known (vp_updL sr_known (p0).toNatClampNeg y4))) rfl dX2_remember_27 (fun H locs hw => ?_)
      obtain rfl := Option.some.inj hm
      exact e_WV S hr hlk hw hw.1 dX2_remember_28

abbrev rX2_waysOn_0 : Room := { frames := 3, cells := 0, slots := 0, locals := 71 }
def rX2_waysOn (n : Nat) : Room := { frames := 3 + n, cells := 0, slots := 0, locals := 71 + 28 * n }
theorem rX2_waysOn_up {rm : Room} {mL : Nat} (n : Nat) (h : rmIn rm rX2_waysOn_0 mL) : rmIn rm (rX2_waysOn n) mL := ⟨h.1, Nat.le_trans h.2.1 (by show 3 ≤ 3 + n; omega), Nat.le_trans h.2.2 (by show 71 ≤ 71 + 28 * n; omega)⟩
theorem rX2_waysOn_in (n : Nat) : rmIn (rX2_waysOn n) (rX2_waysOn (n + 1)) 9 := ⟨⟨rfl, rfl⟩, by show 3 + n + 1 ≤ 3 + (n + 1); omega, by show 8 + (9 + 11) + (71 + 28 * n) ≤ 71 + 28 * (n + 1); omega⟩
theorem cal_X2_waysOn : Cal yX2_waysOn wsX2_waysOn cX2_waysOn 9 (some .long) RX2 2 := ⟨⟨_, rfl⟩, rfl, by decide +kernel, by decide +kernel, by decide +kernel⟩
theorem in_X2_waysOn_X2 : ∀ w ∈ wsX20, w ∈ wsX2_waysOn := fun _ h => (List.mem_cons_of_mem _ (List.mem_append_left _ (List.mem_append_left _ (List.mem_append_left _ (List.mem_append_right _ h)))))
theorem in_X2_waysOn_X4 : ∀ w ∈ wsX40, w ∈ wsX2_waysOn := fun _ h => (List.mem_cons_of_mem _ (List.mem_append_left _ (List.mem_append_left _ (List.mem_append_right _ h))))
set_option maxHeartbeats 4000000 in
set_option maxRecDepth 100000 in
theorem t_X2_waysOn_96 {p : Program} {e : Env} {s : State} {m : MethodId} {args : Array Value} {below : List Frame} {meth : Method} {c : Code} {Q : State → Prop} {nr : Nat} (l : Launch) {D : va_G} {cC cI cJ : ClassId} {A : Nat → Prop} {H0 : Heap} (S : CallFix p m c cX2_waysOn 9 s args wsX2_waysOn RX2) (hK : KK D (tyK cC cI cJ) s) (a_sr : Nat) (a_sr_known : Nat) (a_ro : Nat) (g_sr_unseen : Nat) (a_mo : Nat) (a_se : Nat) (a_mo_kinds : Nat) (a_mo_days : Nat) (a_mo_rideDays : Nat) (a_mo_helpKinds : Nat) (a_mo_nexts : Nat) (a_mo_helperKinds : Nat) (a_mo_prices : Nat) (a_mo_helpersOfKind : Nat) (a_mo_numbers : Nat) (a_se_left : Nat) (self : Int64 → Int64 → Int32 → (Nat → Int64) → Int32 → Int32 → Int32 → Int32 → Int32 → Int32 → Int32 → (Nat → Int32) → (Nat → Int32) → (Nat → Int32) → (Nat → Int32) → (Nat → Int32) → Int32 → (Nat → Int32) → Int32 → Option (Int64 × (Nat → Int64) × Int32 × Int32 × Int32 × Int32 × Int32 × Int32)) (v1 : Int32) (v3 : Int32) (v6 : Int64) (sr_number : Int64) (sr_enough : Int64) (sr_tooLong : Int32) (mo_tasks : Int32) (mo_helpers : Int32) (mo_askedFirst : Int32) (mo_crumbsFirst : Int32) (mo_lastDay : Int32) (mo_kinds : (Nat → Int32)) (mo_days : (Nat → Int32)) (mo_rideDays : (Nat → Int32)) (mo_helpKinds : (Nat → Int32)) (mo_nexts : (Nat → Int32)) (mo_helperKinds : (Nat → Int32)) (mo_prices : (Nat → Int32)) (mo_helpersOfKind : (Nat → Int32)) (mo_numbers : (Nat → Int32)) (se_size : Int32) (se_lastPlace : Int32) (se_left : (Nat → Int32)) (hself : ∀ (sr_number : Int64) (sr_enough : Int64) (sr_tooLong : Int32) (sr_known : (Nat → Int64)) (ro_asked : Int32) (ro_brought : Int32) (ro_friends : Int32) (ro_used : Int32) (ro_crumbs : Int32) (ro_day : Int32) (mo_tasks : Int32) (mo_helpers : Int32) (mo_askedFirst : Int32) (mo_crumbsFirst : Int32) (mo_lastDay : Int32) (mo_kinds : (Nat → Int32)) (mo_days : (Nat → Int32)) (mo_rideDays : (Nat → Int32)) (mo_helpKinds : (Nat → Int32)) (mo_nexts : (Nat → Int32)) (mo_helperKinds : (Nat → Int32)) (mo_prices : (Nat → Int32)) (mo_helpersOfKind : (Nat → Int32)) (mo_numbers : (Nat → Int32)) (se_size : Int32) (se_lastPlace : Int32) (se_left : (Nat → Int32)) (p1 : Int32) (A : Nat → Prop), va_D A (wd_11 cC cI cJ a_sr a_sr_known a_ro g_sr_unseen sr_number sr_enough sr_tooLong a_mo a_se a_sr_known sr_known a_ro ro_asked ro_brought ro_friends ro_used ro_crumbs ro_day a_mo mo_tasks mo_helpers mo_askedFirst mo_crumbsFirst mo_lastDay a_mo_kinds a_mo_days a_mo_rideDays a_mo_helpKinds a_mo_nexts a_mo_helperKinds a_mo_prices a_mo_helpersOfKind a_mo_numbers a_mo_kinds mo_kinds a_mo_days mo_days a_mo_rideDays mo_rideDays a_mo_helpKinds mo_helpKinds a_mo_nexts mo_nexts a_mo_helperKinds mo_helperKinds a_mo_prices mo_prices a_mo_helpersOfKind mo_helpersOfKind a_mo_numbers mo_numbers a_se se_size se_lastPlace a_se_left a_se_left se_left) → ∀ (out : (Int64 × (Nat → Int64) × Int32 × Int32 × Int32 × Int32 × Int32 × Int32)), self sr_number sr_enough sr_tooLong sr_known ro_asked ro_brought ro_friends ro_used ro_crumbs ro_day mo_lastDay mo_kinds mo_rideDays mo_helpKinds mo_nexts mo_helpersOfKind se_lastPlace se_left p1 = some out → WrL l yX2_waysOn wsX2_waysOn (rX2_waysOn nr) D (tyK cC cI cJ) [.ref a_sr, .int p1] A (wd_11 cC cI cJ a_sr a_sr_known a_ro g_sr_unseen sr_number sr_enough sr_tooLong a_mo a_se a_sr_known sr_known a_ro ro_asked ro_brought ro_friends ro_used ro_crumbs ro_day a_mo mo_tasks mo_helpers mo_askedFirst mo_crumbsFirst mo_lastDay a_mo_kinds a_mo_days a_mo_rideDays a_mo_helpKinds a_mo_nexts a_mo_helperKinds a_mo_prices a_mo_helpersOfKind a_mo_numbers a_mo_kinds mo_kinds a_mo_days mo_days a_mo_rideDays mo_rideDays a_mo_helpKinds mo_helpKinds a_mo_nexts mo_nexts a_mo_helperKinds mo_helperKinds a_mo_prices mo_prices a_mo_helpersOfKind mo_helpersOfKind a_mo_numbers mo_numbers a_se se_size se_lastPlace a_se_left a_se_left se_left) (Bw0 D (wd_11 cC cI cJ a_sr a_sr_known a_ro g_sr_unseen sr_number sr_enough sr_tooLong a_mo a_se a_sr_known out.2.1 a_ro out.2.2.1 out.2.2.2.1 out.2.2.2.2.1 out.2.2.2.2.2.1 out.2.2.2.2.2.2.1 out.2.2.2.2.2.2.2 a_mo mo_tasks mo_helpers mo_askedFirst mo_crumbsFirst mo_lastDay a_mo_kinds a_mo_days a_mo_rideDays a_mo_helpKinds a_mo_nexts a_mo_helperKinds a_mo_prices a_mo_helpersOfKind a_mo_numbers a_mo_kinds mo_kinds a_mo_days mo_days a_mo_rideDays mo_rideDays a_mo_helpKinds mo_helpKinds a_mo_nexts mo_nexts a_mo_helperKinds mo_helperKinds a_mo_prices mo_prices a_mo_helpersOfKind mo_helpersOfKind a_mo_numbers mo_numbers a_se se_size se_lastPlace a_se_left a_se_left se_left)) out.1) : ∀ (n : Nat) (v4 : Int64) (v8 : Int32) (sr_known : (Nat → Int64)) (ro_asked : Int32) (ro_brought : Int32) (ro_friends : Int32) (ro_used : Int32) (ro_crumbs : Int32) (ro_day : Int32) (out : (Int64 × (Nat → Int64) × Int32 × Int32 × Int32 × Int32 × Int32 × Int32)), lp_X2_waysOn_96 self v1 v6 sr_number sr_enough sr_tooLong mo_lastDay mo_kinds mo_rideDays mo_helpKinds mo_nexts mo_helpersOfKind se_lastPlace se_left n v4 v8 sr_known ro_asked ro_brought ro_friends ro_used ro_crumbs ro_day = some out → ∀ (H : Heap) (locs : List Loc) (ls : Array Slot), Wd D A H0 (wd_11 cC cI cJ a_sr a_sr_known a_ro g_sr_unseen sr_number sr_enough sr_tooLong a_mo a_se a_sr_known sr_known a_ro ro_asked ro_brought ro_friends ro_used ro_crumbs ro_day a_mo mo_tasks mo_helpers mo_askedFirst mo_crumbsFirst mo_lastDay a_mo_kinds a_mo_days a_mo_rideDays a_mo_helpKinds a_mo_nexts a_mo_helperKinds a_mo_prices a_mo_helpersOfKind a_mo_numbers a_mo_kinds mo_kinds a_mo_days mo_days a_mo_rideDays mo_rideDays a_mo_helpKinds mo_helpKinds a_mo_nexts mo_nexts a_mo_helperKinds mo_helperKinds a_mo_prices mo_prices a_mo_helpersOfKind mo_helpersOfKind a_mo_numbers mo_numbers a_se se_size se_lastPlace a_se_left a_se_left se_left) H locs → lv_has ls 9 [(0, .ref a_sr), (1, .int v1), (2, .ref a_ro), (3, .int v3), (4, .long v4), (6, .long v6), (8, .int v8)] → (∀ (H : Heap) (locs : List Loc) (ls : Array Slot), Wd D A H0 (wd_11 cC cI cJ a_sr a_sr_known a_ro g_sr_unseen sr_number sr_enough sr_tooLong a_mo a_se a_sr_known out.2.1 a_ro out.2.2.1 out.2.2.2.1 out.2.2.2.2.1 out.2.2.2.2.2.1 out.2.2.2.2.2.2.1 out.2.2.2.2.2.2.2 a_mo mo_tasks mo_helpers mo_askedFirst mo_crumbsFirst mo_lastDay a_mo_kinds a_mo_days a_mo_rideDays a_mo_helpKinds a_mo_nexts a_mo_helperKinds a_mo_prices a_mo_helpersOfKind a_mo_numbers a_mo_kinds mo_kinds a_mo_days mo_days a_mo_rideDays mo_rideDays a_mo_helpKinds mo_helpKinds a_mo_nexts mo_nexts a_mo_helperKinds mo_helperKinds a_mo_prices mo_prices a_mo_helpersOfKind mo_helpersOfKind a_mo_numbers mo_numbers a_se se_size se_lastPlace a_se_left a_se_left se_left) H locs → lv_has ls 9 [(0, .ref a_sr), (3, .int v3), (4, .long out.1)] → W p l e (rX2_waysOn (nr + 1)) s m args below meth c H locs 0 0 Q (F0 m 165 ls [])) → W p l e (rX2_waysOn (nr + 1)) s m args below meth c H locs 0 0 Q (F0 m 96 ls []) := by
  have hx := S.1
  have hb := S.2.1
  intro n
  induction n with
  | zero => intro v4 v8 sr_known ro_asked ro_brought ro_friends ro_used ro_crumbs ro_day out hm; cases (show (none : Option (Int64 × (Nat → Int64) × Int32 × Int32 × Int32 × Int32 × Int32 × Int32)) = some out from hm)
  | succ n ih =>
    intro v4 v8 sr_known ro_asked ro_brought ro_friends ro_used ro_crumbs ro_day out hm  H locs ls hw hl K0
    rw [lp_X2_waysOn_96] at hm
    refine lv_iload hx hb dX2_waysOn_96 (lv_at hl 6 rfl) ?_
    refine lv_bipush (v := 8) hx hb dX2_waysOn_98 (by decide) ?_
    refine lv_icmp_ge (tgt := 165) hx hb dX2_waysOn_100 (by decide) (fun c13 => ?_) (fun c13 => ?_)
    · replace hm := ipos hm c13
      obtain rfl := Option.some.inj hm
      exact K0  _ _ ls hw (lv_sub hl [0, 3, 4] rfl)
    · replace hm := ineg hm c13
      refine lv_lload hx hb dX2_waysOn_103 (lv_at hl 4 rfl) ?_
      refine lv_aload_n hx hb dX2_waysOn_105 rfl (lv_at hl 0 rfl) ?_
      refine f_get S hK hw.1 in_X2_waysOn_X2 0 rfl rfl 4 (by decide) (List.mem_of_getElem? (i := 6) rfl) rfl rfl dX2_waysOn_106 ?_
      refine W.lcmp hx hb dX2_waysOn_109 ?_
      refine lv_if_ge (tgt := 165) hx hb dX2_waysOn_110 (by decide) (fun c14 => ?_) (fun c14 => ?_)
      · replace hm := ipos hm c14
        obtain rfl := Option.some.inj hm
        exact K0  _ _ ls hw (lv_sub hl [0, 3, 4] rfl)
      · replace hm := ineg hm c14
        refine lv_aload_n hx hb dX2_waysOn_113 rfl (lv_at hl 0 rfl) ?_
        refine f_get S hK hw.1 in_X2_waysOn_X2 0 rfl rfl 7 (by decide) (List.mem_of_getElem? (i := 3) rfl) rfl rfl dX2_waysOn_114 ?_
        refine lv_iload hx hb dX2_waysOn_117 (lv_at hl 6 rfl) ?_
        refine lv_iload_n hx hb dX2_waysOn_119 rfl (lv_at hl 1 rfl) ?_
        refine lv_iconst (v := 1) hx hb dX2_waysOn_120 (by decide) ?_
        refine lv_iadd hx hb dX2_waysOn_121 ?_
        obtain ⟨r15, h16, hm⟩ := ob hm
        refine k_rVi S hK hw.1 cal_X3_leaves gX2_waysOn_X3_leaves (c_X3_leaves l D cC cI cJ a_se a_se_left se_size se_lastPlace se_left v8 (v1 + (1 : Int32)) r15 h16) (rX2_waysOn_up _ ⟨⟨rfl, rfl⟩, Nat.le_of_ble_eq_true rfl, Nat.le_of_ble_eq_true rfl⟩) [13, 14] rfl 13 rfl rfl rfl hl.1 rfl (Nat.le_of_ble_eq_true rfl) dX2_waysOn_122 ⟨Nat.zero_le _, Nat.zero_le _⟩ ?_
        refine lv_if_eq (tgt := 159) hx hb dX2_waysOn_125 (by decide) (fun c17 => ?_) (fun c17 => ?_)
        · replace hm := ipos hm c17
          refine lv_iinc (v := (v8 + 1)) (lv' := [(8, .int (v8 + 1)), (0, .ref a_sr), (1, .int v1), (2, .ref a_ro), (3, .int v3), (4, .long v4), (6, .long v6)]) hx hb dX2_waysOn_159 hl (k := 6) rfl (by rw [ofi_1]) (by decide) rfl (fun ls hl => ?_)
          refine lv_goto (tgt := 96) hx hb dX2_waysOn_162 (by decide) ?_
          exact ih v4 (v8 + 1) sr_known ro_asked ro_brought ro_friends ro_used ro_crumbs ro_day _ hm  _ _ ls hw (lv_sub hl [1, 2, 3, 4, 5, 6, 0] rfl) K0
        · replace hm := ineg hm c17
          refine lv_aload_n hx hb dX2_waysOn_128 rfl (lv_at hl 2 rfl) ?_
          refine lv_aload_n hx hb dX2_waysOn_129 rfl (lv_at hl 0 rfl) ?_
          refine f_get S hK hw.1 in_X2_waysOn_X2 0 rfl rfl 6 (by decide) (List.mem_of_getElem? (i := 7) rfl) rfl rfl dX2_waysOn_130 ?_
          refine lv_iload hx hb dX2_waysOn_133 (lv_at hl 6 rfl) ?_
          obtain ⟨r18, h19, hm⟩ := ob hm
          refine k_wVi S hK hw cal_X4_tryRide gX2_waysOn_X4_tryRide (c_X4_tryRide l D cC cI cJ a_ro a_mo a_mo_kinds a_mo_days a_mo_rideDays a_mo_helpKinds a_mo_nexts a_mo_helperKinds a_mo_prices a_mo_helpersOfKind a_mo_numbers ro_asked ro_brought ro_friends ro_used ro_crumbs ro_day mo_tasks mo_helpers mo_askedFirst mo_crumbsFirst mo_lastDay mo_kinds mo_days mo_rideDays mo_helpKinds mo_nexts mo_helperKinds mo_prices mo_helpersOfKind mo_numbers v8 (aw _) (hw.own [2, 3, 4, 5, 6, 7, 8, 9, 10, 11, 12] (by decide) rfl) r18 h19) (rX2_waysOn_up _ ⟨⟨rfl, rfl⟩, Nat.le_of_ble_eq_true rfl, Nat.le_of_ble_eq_true rfl⟩) [2, 3, 4, 5, 6, 7, 8, 9, 10, 11, 12] rfl 2 rfl rfl rfl hl.1 rfl (Nat.le_of_ble_eq_true rfl) dX2_waysOn_135 ⟨Nat.zero_le _, Nat.zero_le _⟩ (fun H locs hJ hB => ?_)
          have hw := hJ _ hB rfl
          replace hw : Wd D A _ (wd_11 cC cI cJ a_sr a_sr_known a_ro g_sr_unseen sr_number sr_enough sr_tooLong a_mo a_se a_sr_known sr_known a_ro r18.2.1 r18.2.2.1 ro_friends r18.2.2.2.1 ro_crumbs r18.2.2.2.2 a_mo mo_tasks mo_helpers mo_askedFirst mo_crumbsFirst mo_lastDay a_mo_kinds a_mo_days a_mo_rideDays a_mo_helpKinds a_mo_nexts a_mo_helperKinds a_mo_prices a_mo_helpersOfKind a_mo_numbers a_mo_kinds mo_kinds a_mo_days mo_days a_mo_rideDays mo_rideDays a_mo_helpKinds mo_helpKinds a_mo_nexts mo_nexts a_mo_helperKinds mo_helperKinds a_mo_prices mo_prices a_mo_helpersOfKind mo_helpersOfKind a_mo_numbers mo_numbers a_se se_size se_lastPlace a_se_left a_se_left se_left) H locs := hw
          refine lv_if_eq (tgt := 159) hx hb dX2_waysOn_138 (by decide) (fun c20 => ?_) (fun c20 => ?_)
          · replace hm := ipos hm c20
            refine lv_iinc (v := (v8 + 1)) (lv' := [(8, .int (v8 + 1)), (0, .ref a_sr), (1, .int v1), (2, .ref a_ro), (3, .int v3), (4, .long v4), (6, .long v6)]) hx hb dX2_waysOn_159 hl (k := 6) rfl (by rw [ofi_1]) (by decide) rfl (fun ls hl => ?_)
            refine lv_goto (tgt := 96) hx hb dX2_waysOn_162 (by decide) ?_
            exact ih v4 (v8 + 1) sr_known r18.2.1 r18.2.2.1 ro_friends r18.2.2.2.1 ro_crumbs r18.2.2.2.2 _ hm  _ _ ls hw (lv_sub hl [1, 2, 3, 4, 5, 6, 0] rfl) K0
          · replace hm := ineg hm c20
            refine lv_lload hx hb dX2_waysOn_141 (lv_at hl 4 rfl) ?_
            refine lv_aload_n hx hb dX2_waysOn_143 rfl (lv_at hl 0 rfl) ?_
            refine lv_iload_n hx hb dX2_waysOn_144 rfl (lv_at hl 1 rfl) ?_
            refine lv_iconst (v := 1) hx hb dX2_waysOn_145 (by decide) ?_
            refine lv_iadd hx hb dX2_waysOn_146 ?_
            obtain ⟨r21, h22, hm⟩ := ob hm
            refine k_wSl S hK hw cal_X2_waysOn gX2_waysOn_X2_waysOn (hself sr_number sr_enough sr_tooLong sr_known r18.2.1 r18.2.2.1 ro_friends r18.2.2.2.1 ro_crumbs r18.2.2.2.2 mo_tasks mo_helpers mo_askedFirst mo_crumbsFirst mo_lastDay mo_kinds mo_days mo_rideDays mo_helpKinds mo_nexts mo_helperKinds mo_prices mo_helpersOfKind mo_numbers se_size se_lastPlace se_left (v1 + (1 : Int32)) (aw _) (hw.own [0, 1, 2, 3, 4, 5, 6, 7, 8, 9, 10, 11, 12, 13, 14] (by decide) rfl) r21 h22) (rX2_waysOn_in _) [0, 1, 2, 3, 4, 5, 6, 7, 8, 9, 10, 11, 12, 13, 14] rfl rfl hl.1 rfl (Nat.le_of_ble_eq_true rfl) dX2_waysOn_147 ⟨Nat.zero_le _, Nat.zero_le _⟩ (fun H locs hJ hB => ?_)
            have hw := hJ _ hB rfl
            replace hw : Wd D A _ (wd_11 cC cI cJ a_sr a_sr_known a_ro g_sr_unseen sr_number sr_enough sr_tooLong a_mo a_se a_sr_known r21.2.1 a_ro r21.2.2.1 r21.2.2.2.1 r21.2.2.2.2.1 r21.2.2.2.2.2.1 r21.2.2.2.2.2.2.1 r21.2.2.2.2.2.2.2 a_mo mo_tasks mo_helpers mo_askedFirst mo_crumbsFirst mo_lastDay a_mo_kinds a_mo_days a_mo_rideDays a_mo_helpKinds a_mo_nexts a_mo_helperKinds a_mo_prices a_mo_helpersOfKind a_mo_numbers a_mo_kinds mo_kinds a_mo_days mo_days a_mo_rideDays mo_rideDays a_mo_helpKinds mo_helpKinds a_mo_nexts mo_nexts a_mo_helperKinds mo_helperKinds a_mo_prices mo_prices a_mo_helpersOfKind mo_helpersOfKind a_mo_numbers mo_numbers a_se se_size se_lastPlace a_se_left a_se_left se_left) H locs := hw
            refine lv_ladd hx hb dX2_waysOn_150 ?_
            refine lv_lstore (lv' := [(4, .long (v4 + r21.1)), (0, .ref a_sr), (1, .int v1), (2, .ref a_ro), (3, .int v3), (6, .long v6), (8, .int v8)]) hx hb dX2_waysOn_151 hl (by decide) rfl (fun ls hl => ?_)
            refine lv_aload_n hx hb dX2_waysOn_153 rfl (lv_at hl 3 rfl) ?_
            refine lv_lload hx hb dX2_waysOn_154 (lv_at hl 5 rfl) ?_
            obtain ⟨r23, h24, hm⟩ := ob hm
            refine k_wVv S hK hw cal_X4_unpack gX2_waysOn_X4_unpack (c_X4_unpack l D cC cI cJ a_ro r21.2.2.1 r21.2.2.2.1 r21.2.2.2.2.1 r21.2.2.2.2.2.1 r21.2.2.2.2.2.2.1 r21.2.2.2.2.2.2.2 v6 (aw _) (hw.own [2] (by decide) rfl) r23 h24) (rX2_waysOn_up _ ⟨⟨rfl, rfl⟩, Nat.le_of_ble_eq_true rfl, Nat.le_of_ble_eq_true rfl⟩) [2] rfl 2 rfl rfl rfl hl.1 rfl (Nat.le_of_ble_eq_true rfl) dX2_waysOn_156 ⟨Nat.zero_le _, Nat.zero_le _⟩ (fun H locs hJ hB => ?_)
            have hw := hJ _ hB rfl
            replace hw : Wd D A _ (wd_11 cC cI cJ a_sr a_sr_known a_ro g_sr_unseen sr_number sr_enough sr_tooLong a_mo a_se a_sr_known r21.2.1 a_ro r23.1 r23.2.1 r23.2.2.1 r23.2.2.2.1 r23.2.2.2.2.1 r23.2.2.2.2.2 a_mo mo_tasks mo_helpers mo_askedFirst mo_crumbsFirst mo_lastDay a_mo_kinds a_mo_days a_mo_rideDays a_mo_helpKinds a_mo_nexts a_mo_helperKinds a_mo_prices a_mo_helpersOfKind a_mo_numbers a_mo_kinds mo_kinds a_mo_days mo_days a_mo_rideDays mo_rideDays a_mo_helpKinds mo_helpKinds a_mo_nexts mo_nexts a_mo_helperKinds mo_helperKinds a_mo_prices mo_prices a_mo_helpersOfKind mo_helpersOfKind a_mo_numbers mo_numbers a_se se_size se_lastPlace a_se_left a_se_left se_left) H locs := hw
            refine lv_iinc (v := (v8 + 1)) (lv' := [(8, .int (v8 + 1)), (4, .long (v4 + r21.1)), (0, .ref a_sr), (1, .int v1), (2, .ref a_ro), (3, .int v3), (6, .long v6)]) hx hb dX2_waysOn_159 hl (k := 6) rfl (by rw [ofi_1]) (by decide) rfl (fun ls hl => ?_)
            refine lv_goto (tgt := 96) hx hb dX2_waysOn_162 (by decide) ?_
            exact ih (v4 + r21.1) (v8 + 1) r21.2.1 r23.1 r23.2.1 r23.2.2.1 r23.2.2.2.1 r23.2.2.2.2.1 r23.2.2.2.2.2 _ hm  _ _ ls hw (lv_sub hl [2, 3, 4, 5, 1, 6, 0] rfl) K0
set_option maxHeartbeats 4000000 in
set_option maxRecDepth 100000 in
theorem c_X2_waysOn_n (l : Launch) (D : va_G) (cC cI cJ : ClassId) (a_sr : Nat) (a_sr_known : Nat) (a_ro : Nat) (g_sr_unseen : Nat) (a_mo : Nat) (a_se : Nat) (a_mo_kinds : Nat) (a_mo_days : Nat) (a_mo_rideDays : Nat) (a_mo_helpKinds : Nat) (a_mo_nexts : Nat) (a_mo_helperKinds : Nat) (a_mo_prices : Nat) (a_mo_helpersOfKind : Nat) (a_mo_numbers : Nat) (a_se_left : Nat) (N : Nat) : ∀ (nr : Nat) (sr_number : Int64) (sr_enough : Int64) (sr_tooLong : Int32) (sr_known : (Nat → Int64)) (ro_asked : Int32) (ro_brought : Int32) (ro_friends : Int32) (ro_used : Int32) (ro_crumbs : Int32) (ro_day : Int32) (mo_tasks : Int32) (mo_helpers : Int32) (mo_askedFirst : Int32) (mo_crumbsFirst : Int32) (mo_lastDay : Int32) (mo_kinds : (Nat → Int32)) (mo_days : (Nat → Int32)) (mo_rideDays : (Nat → Int32)) (mo_helpKinds : (Nat → Int32)) (mo_nexts : (Nat → Int32)) (mo_helperKinds : (Nat → Int32)) (mo_prices : (Nat → Int32)) (mo_helpersOfKind : (Nat → Int32)) (mo_numbers : (Nat → Int32)) (se_size : Int32) (se_lastPlace : Int32) (se_left : (Nat → Int32)) (p1 : Int32) (A : Nat → Prop) (hD : va_D A (wd_11 cC cI cJ a_sr a_sr_known a_ro g_sr_unseen sr_number sr_enough sr_tooLong a_mo a_se a_sr_known sr_known a_ro ro_asked ro_brought ro_friends ro_used ro_crumbs ro_day a_mo mo_tasks mo_helpers mo_askedFirst mo_crumbsFirst mo_lastDay a_mo_kinds a_mo_days a_mo_rideDays a_mo_helpKinds a_mo_nexts a_mo_helperKinds a_mo_prices a_mo_helpersOfKind a_mo_numbers a_mo_kinds mo_kinds a_mo_days mo_days a_mo_rideDays mo_rideDays a_mo_helpKinds mo_helpKinds a_mo_nexts mo_nexts a_mo_helperKinds mo_helperKinds a_mo_prices mo_prices a_mo_helpersOfKind mo_helpersOfKind a_mo_numbers mo_numbers a_se se_size se_lastPlace a_se_left a_se_left se_left)) (out : (Int64 × (Nat → Int64) × Int32 × Int32 × Int32 × Int32 × Int32 × Int32)) (hm : m_X2_waysOn N nr sr_number sr_enough sr_tooLong sr_known ro_asked ro_brought ro_friends ro_used ro_crumbs ro_day mo_lastDay mo_kinds mo_rideDays mo_helpKinds mo_nexts mo_helpersOfKind se_lastPlace se_left p1 = some out), WrL l yX2_waysOn wsX2_waysOn (rX2_waysOn nr) D (tyK cC cI cJ) [.ref a_sr, .int p1] A (wd_11 cC cI cJ a_sr a_sr_known a_ro g_sr_unseen sr_number sr_enough sr_tooLong a_mo a_se a_sr_known sr_known a_ro ro_asked ro_brought ro_friends ro_used ro_crumbs ro_day a_mo mo_tasks mo_helpers mo_askedFirst mo_crumbsFirst mo_lastDay a_mo_kinds a_mo_days a_mo_rideDays a_mo_helpKinds a_mo_nexts a_mo_helperKinds a_mo_prices a_mo_helpersOfKind a_mo_numbers a_mo_kinds mo_kinds a_mo_days mo_days a_mo_rideDays mo_rideDays a_mo_helpKinds mo_helpKinds a_mo_nexts mo_nexts a_mo_helperKinds mo_helperKinds a_mo_prices mo_prices a_mo_helpersOfKind mo_helpersOfKind a_mo_numbers mo_numbers a_se se_size se_lastPlace a_se_left a_se_left se_left) (Bw0 D (wd_11 cC cI cJ a_sr a_sr_known a_ro g_sr_unseen sr_number sr_enough sr_tooLong a_mo a_se a_sr_known out.2.1 a_ro out.2.2.1 out.2.2.2.1 out.2.2.2.2.1 out.2.2.2.2.2.1 out.2.2.2.2.2.2.1 out.2.2.2.2.2.2.2 a_mo mo_tasks mo_helpers mo_askedFirst mo_crumbsFirst mo_lastDay a_mo_kinds a_mo_days a_mo_rideDays a_mo_helpKinds a_mo_nexts a_mo_helperKinds a_mo_prices a_mo_helpersOfKind a_mo_numbers a_mo_kinds mo_kinds a_mo_days mo_days a_mo_rideDays mo_rideDays a_mo_helpKinds mo_helpKinds a_mo_nexts mo_nexts a_mo_helperKinds mo_helperKinds a_mo_prices mo_prices a_mo_helpersOfKind mo_helpersOfKind a_mo_numbers mo_numbers a_se se_size se_lastPlace a_se_left a_se_left se_left)) out.1 := by
  intro nr
  induction nr with
  | zero => intro sr_number sr_enough sr_tooLong sr_known ro_asked ro_brought ro_friends ro_used ro_crumbs ro_day mo_tasks mo_helpers mo_askedFirst mo_crumbsFirst mo_lastDay mo_kinds mo_days mo_rideDays mo_helpKinds mo_nexts mo_helperKinds mo_prices mo_helpersOfKind mo_numbers se_size se_lastPlace se_left p1 A hD out hm; cases (show (none : Option (Int64 × (Nat → Int64) × Int32 × Int32 × Int32 × Int32 × Int32 × Int32)) = some out from hm)
  | succ nr hself =>
    intro sr_number sr_enough sr_tooLong sr_known ro_asked ro_brought ro_friends ro_used ro_crumbs ro_day mo_tasks mo_helpers mo_askedFirst mo_crumbsFirst mo_lastDay mo_kinds mo_days mo_rideDays mo_helpKinds mo_nexts mo_helperKinds mo_prices mo_helpersOfKind mo_numbers se_size se_lastPlace se_left p1 A hD out hm
    rw [m_X2_waysOn] at hm
    refine enter (cc := cX2_waysOn) (maxL := 9) (ret := (some .long)) (lv := [(0, .ref a_sr), (1, .int p1)]) (by decide) rfl (Nat.le_of_ble_eq_true rfl) rfl ?_
    intro p e s m args below meth c S hr hlk hK hP ls hl
    replace S : CallFix p m c cX2_waysOn 9 s args wsX2_waysOn RX2 := S
    have hx := S.1
    have hb := S.2.1
    have hw : Wd D A s.heap (wd_11 cC cI cJ a_sr a_sr_known a_ro g_sr_unseen sr_number sr_enough sr_tooLong a_mo a_se a_sr_known sr_known a_ro ro_asked ro_brought ro_friends ro_used ro_crumbs ro_day a_mo mo_tasks mo_helpers mo_askedFirst mo_crumbsFirst mo_lastDay a_mo_kinds a_mo_days a_mo_rideDays a_mo_helpKinds a_mo_nexts a_mo_helperKinds a_mo_prices a_mo_helpersOfKind a_mo_numbers a_mo_kinds mo_kinds a_mo_days mo_days a_mo_rideDays mo_rideDays a_mo_helpKinds mo_helpKinds a_mo_nexts mo_nexts a_mo_helperKinds mo_helperKinds a_mo_prices mo_prices a_mo_helpersOfKind mo_helpersOfKind a_mo_numbers mo_numbers a_se se_size se_lastPlace a_se_left a_se_left se_left) s.heap [] := ⟨hP, hD, va_S.rf⟩
    have hw0 := hw
    refine lv_aload_n hx hb dX2_waysOn_0 rfl (lv_at hl 0 rfl) ?_
    refine f_get S hK hw.1 in_X2_waysOn_X2 0 rfl rfl 1 (by decide) (List.mem_of_getElem? (i := 1) rfl) rfl rfl dX2_waysOn_1 ?_
    refine lv_astore_n (lv' := [(2, .ref a_ro), (0, .ref a_sr), (1, .int p1)]) hx hb dX2_waysOn_4 rfl hl (by decide) rfl (fun ls hl => ?_)
    refine lv_aload_n hx hb dX2_waysOn_5 rfl (lv_at hl 1 rfl) ?_
    refine f_get S hK hw.1 in_X2_waysOn_X2 0 rfl rfl 5 (by decide) (List.mem_of_getElem? (i := 2) rfl) rfl rfl dX2_waysOn_6 ?_
    refine lv_if_eq (tgt := 14) hx hb dX2_waysOn_9 (by decide) (fun c1 => ?_) (fun c1 => ?_)
    · replace hm := ipos hm c1
      refine lv_aload_n hx hb dX2_waysOn_14 rfl (lv_at hl 0 rfl) ?_
      obtain ⟨r2, h3, hm⟩ := ob hm
      refine k_rVi S hK hw.1 cal_X4_openTasks gX2_waysOn_X4_openTasks (c_X4_openTasks l D cC cI cJ a_ro ro_asked ro_brought ro_friends ro_used ro_crumbs ro_day r2 h3) (rX2_waysOn_up _ ⟨⟨rfl, rfl⟩, Nat.le_of_ble_eq_true rfl, Nat.le_of_ble_eq_true rfl⟩) [2] rfl 2 rfl rfl rfl hl.1 rfl (Nat.le_of_ble_eq_true rfl) dX2_waysOn_15 ⟨Nat.zero_le _, Nat.zero_le _⟩ ?_
      refine lv_if_ne (tgt := 38) hx hb dX2_waysOn_18 (by decide) (fun c4 => ?_) (fun c4 => ?_)
      · replace hm := ineg hm c4
        refine lv_iload_n hx hb dX2_waysOn_38 rfl (lv_at hl 2 rfl) ?_
        refine lv_bipush (v := 8) hx hb dX2_waysOn_39 (by decide) ?_
        refine lv_icmp_lt (tgt := 46) hx hb dX2_waysOn_41 (by decide) (fun c5 => ?_) (fun c5 => ?_)
        · replace hm := ipos hm c5
          refine lv_aload_n hx hb dX2_waysOn_46 rfl (lv_at hl 0 rfl) ?_
          refine f_get S hK hw.1 in_X2_waysOn_X4 2 rfl rfl 1 (by decide) (List.mem_of_getElem? (i := 4) rfl) rfl rfl dX2_waysOn_47 ?_
          refine lv_sipush (v := 255) hx hb dX2_waysOn_50 (by decide) ?_
          refine lv_iand hx hb dX2_waysOn_53 ?_
          refine lv_sipush (v := 128) hx hb dX2_waysOn_54 (by decide) ?_
          refine lv_imul hx hb dX2_waysOn_57 ?_
          refine lv_aload_n hx hb dX2_waysOn_58 rfl (lv_at hl 0 rfl) ?_
          refine f_get S hK hw.1 in_X2_waysOn_X4 2 rfl rfl 3 (by decide) (List.mem_of_getElem? (i := 5) rfl) rfl rfl dX2_waysOn_59 ?_
          refine lv_bipush (v := 127) hx hb dX2_waysOn_62 (by decide) ?_
          refine lv_iand hx hb dX2_waysOn_64 ?_
          refine lv_iadd hx hb dX2_waysOn_65 ?_
          obtain ⟨y6, e7, hm⟩ := ob hm
          refine f_name e7 ?_
          refine lv_istore_n (lv' := [(3, .int y6), (2, .ref a_ro), (0, .ref a_sr), (1, .int p1)]) hx hb dX2_waysOn_66 rfl hl (by decide) rfl (fun ls hl => ?_)
          refine lv_aload_n hx hb dX2_waysOn_67 rfl (lv_at hl 2 rfl) ?_
          refine lv_iload_n hx hb dX2_waysOn_68 rfl (lv_at hl 0 rfl) ?_
          obtain ⟨r8, h9, hm⟩ := ob hm
          refine k_rVl S hK hw.1 cal_X2_recall gX2_waysOn_X2_recall (c_X2_recall l D cC cI cJ a_sr a_sr_known a_ro g_sr_unseen a_mo a_se sr_number sr_enough sr_tooLong sr_known y6 r8 h9) (rX2_waysOn_up _ ⟨⟨rfl, rfl⟩, Nat.le_of_ble_eq_true rfl, Nat.le_of_ble_eq_true rfl⟩) [0, 1] rfl 0 rfl rfl rfl hl.1 rfl (Nat.le_of_ble_eq_true rfl) dX2_waysOn_69 ⟨Nat.zero_le _, Nat.zero_le _⟩ ?_
          refine lv_lstore (lv' := [(4, .long r8), (3, .int y6), (2, .ref a_ro), (0, .ref a_sr), (1, .int p1)]) hx hb dX2_waysOn_72 hl (by decide) rfl (fun ls hl => ?_)
          refine lv_lload hx hb dX2_waysOn_74 (lv_at hl 0 rfl) ?_
          refine lv_lconst (v := 0) hx hb dX2_waysOn_76 (by decide) ?_
          refine W.lcmp hx hb dX2_waysOn_77 ?_
          refine lv_if_lt (tgt := 84) hx hb dX2_waysOn_78 (by decide) (fun c10 => ?_) (fun c10 => ?_)
          · replace hm := ipos hm c10
            refine lv_lconst (v := 0) hx hb dX2_waysOn_84 (by decide) ?_
            refine lv_lstore (lv' := [(4, .long (0 : Int64)), (3, .int y6), (2, .ref a_ro), (0, .ref a_sr), (1, .int p1)]) hx hb dX2_waysOn_85 hl (by decide) rfl (fun ls hl => ?_)
            refine lv_aload_n hx hb dX2_waysOn_87 rfl (lv_at hl 2 rfl) ?_
            obtain ⟨r11, h12, hm⟩ := ob hm
            refine k_rVl S hK hw.1 cal_X4_packed gX2_waysOn_X4_packed (c_X4_packed l D cC cI cJ a_ro ro_asked ro_brought ro_friends ro_used ro_crumbs ro_day r11 h12) (rX2_waysOn_up _ ⟨⟨rfl, rfl⟩, Nat.le_of_ble_eq_true rfl, Nat.le_of_ble_eq_true rfl⟩) [2] rfl 2 rfl rfl rfl hl.1 rfl (Nat.le_of_ble_eq_true rfl) dX2_waysOn_88 ⟨Nat.zero_le _, Nat.zero_le _⟩ ?_
            refine lv_lstore (lv' := [(6, .long r11), (4, .long (0 : Int64)), (3, .int y6), (2, .ref a_ro), (0, .ref a_sr), (1, .int p1)]) hx hb dX2_waysOn_91 hl (by decide) rfl (fun ls hl => ?_)
            refine lv_iconst (v := 0) hx hb dX2_waysOn_93 (by decide) ?_
            refine lv_istore (lv' := [(8, .int (0 : Int32)), (6, .long r11), (4, .long (0 : Int64)), (3, .int y6), (2, .ref a_ro), (0, .ref a_sr), (1, .int p1)]) hx hb dX2_waysOn_94 hl (by decide) rfl (fun ls hl => ?_)
            obtain ⟨r25, h26, hm⟩ := ob hm
            refine t_X2_waysOn_96 l S hK a_sr a_sr_known a_ro g_sr_unseen a_mo a_se a_mo_kinds a_mo_days a_mo_rideDays a_mo_helpKinds a_mo_nexts a_mo_helperKinds a_mo_prices a_mo_helpersOfKind a_mo_numbers a_se_left (m_X2_waysOn N nr) p1 y6 r11 sr_number sr_enough sr_tooLong mo_tasks mo_helpers mo_askedFirst mo_crumbsFirst mo_lastDay mo_kinds mo_days mo_rideDays mo_helpKinds mo_nexts mo_helperKinds mo_prices mo_helpersOfKind mo_numbers se_size se_lastPlace se_left hself N (0 : Int64) (0 : Int32) sr_known ro_asked ro_brought ro_friends ro_used ro_crumbs ro_day r25 h26  _ _ ls hw (lv_sub hl [5, 6, 4, 3, 2, 1, 0] rfl) (fun H locs ls hw hl => ?_)
            refine lv_aload_n hx hb dX2_waysOn_165 rfl (lv_at hl 0 rfl) ?_
            refine lv_iload_n hx hb dX2_waysOn_166 rfl (lv_at hl 1 rfl) ?_
            refine lv_lload hx hb dX2_waysOn_167 (lv_at hl 2 rfl) ?_
            obtain ⟨r27, h28, hm⟩ := ob hm
            refine k_wVv S hK hw cal_X2_remember gX2_waysOn_X2_remember (c_X2_remember l D cC cI cJ a_sr a_sr_known a_ro g_sr_unseen a_mo a_se sr_number sr_enough sr_tooLong r25.2.1 y6 r25.1 (aw _) (hw.own [0, 1] (by decide) rfl) r27 h28) (rX2_waysOn_up _ ⟨⟨rfl, rfl⟩, Nat.le_of_ble_eq_true rfl, Nat.le_of_ble_eq_true rfl⟩) [0, 1] rfl 0 rfl rfl rfl hl.1 rfl (Nat.le_of_ble_eq_true rfl) dX2_waysOn_169 ⟨Nat.zero_le _, Nat.zero_le _⟩ (fun H locs hJ hB => ?_)
            have hw := hJ _ hB rfl
            replace hw : Wd D A _ (wd_11 cC cI cJ a_sr a_sr_known a_ro g_sr_unseen sr_number sr_enough sr_tooLong a_mo a_se a_sr_known r27 a_ro r25.2.2.1 r25.2.2.2.1 r25.2.2.2.2.1 r25.2.2.2.2.2.1 r25.2.2.2.2.2.2.1 r25.2.2.2.2.2.2.2 a_mo mo_tasks mo_helpers mo_askedFirst mo_crumbsFirst mo_lastDay a_mo_kinds a_mo_days a_mo_rideDays a_mo_helpKinds a_mo_nexts a_mo_helperKinds a_mo_prices a_mo_helpersOfKind a_mo_numbers a_mo_kinds mo_kinds a_mo_days mo_days a_mo_rideDays mo_rideDays a_mo_helpKinds mo_helpKinds a_mo_nexts mo_nexts a_mo_helperKinds mo_helperKinds a_mo_prices mo_prices a_mo_helpersOfKind mo_helpersOfKind a_mo_numbers mo_numbers a_se se_size se_lastPlace a_se_left a_se_left se_left) H locs := hw
            refine lv_lload hx hb dX2_waysOn_172 (lv_at hl 2 rfl) ?_
            obtain rfl := Option.some.inj hm
            exact e_WL S hr hlk hw rfl hw.1 dX2_waysOn_174
          · replace hm := ineg hm c10
            refine lv_lload hx hb dX2_waysOn_81 (lv_at hl 0 rfl) ?_
            obtain rfl := Option.some.inj hm
            exact e_WL S hr hlk hw rfl hw.1 dX2_waysOn_83
        · replace hm := ineg hm c5
          refine lv_lconst (v := 0) hx hb dX2_waysOn_44 (by decide) ?_
          obtain rfl := Option.some.inj hm
          exact e_WL S hr hlk hw rfl hw.1 dX2_waysOn_45
      · replace hm := ipos hm c4
        refine lv_aload_n hx hb dX2_waysOn_21 rfl (lv_at hl 1 rfl) ?_
        refine f_get S hK hw.1 in_X2_waysOn_X2 0 rfl rfl 7 (by decide) (List.mem_of_getElem? (i := 3) rfl) rfl rfl dX2_waysOn_22 ?_
        refine lv_iload_n hx hb dX2_waysOn_25 rfl (lv_at hl 2 rfl) ?_
        obtain ⟨r29, h30, hm⟩ := ob hm
        refine k_rVi S hK hw.1 cal_X3_isWithin gX2_waysOn_X3_isWithin (c_X3_isWithin l D cC cI cJ a_se a_se_left se_size se_lastPlace se_left p1 r29 h30) (rX2_waysOn_up _ ⟨⟨rfl, rfl⟩, Nat.le_of_ble_eq_true rfl, Nat.le_of_ble_eq_true rfl⟩) [13, 14] rfl 13 rfl rfl rfl hl.1 rfl (Nat.le_of_ble_eq_true rfl) dX2_waysOn_26 ⟨Nat.zero_le _, Nat.zero_le _⟩ ?_
        refine lv_if_eq (tgt := 36) hx hb dX2_waysOn_29 (by decide) (fun c31 => ?_) (fun c31 => ?_)
        · replace hm := ipos hm c31
          refine lv_lconst (v := 0) hx hb dX2_waysOn_36 (by decide) ?_
          obtain rfl := Option.some.inj hm
          exact e_WL S hr hlk hw rfl hw.1 dX2_waysOn_37
        · replace hm := ineg hm c31
          refine lv_lconst (v := 1) hx hb dX2_waysOn_32 (by decide) ?_
          refine lv_goto (tgt := 37) hx hb dX2_waysOn_33 (by decide) ?_
          obtain rfl := Option.some.inj hm
          exact e_WL S hr hlk hw rfl hw.1 dX2_waysOn_37
    · replace hm := ineg hm c1
      refine lv_lconst (v := 0) hx hb dX2_waysOn_12 (by decide) ?_
      obtain rfl := Option.some.inj hm
      exact e_WL S hr hlk hw rfl hw.1 dX2_waysOn_13
theorem c_X2_waysOn (l : Launch) (D : va_G) (cC cI cJ : ClassId) (a_sr : Nat) (a_sr_known : Nat) (a_ro : Nat) (g_sr_unseen : Nat) (a_mo : Nat) (a_se : Nat) (a_mo_kinds : Nat) (a_mo_days : Nat) (a_mo_rideDays : Nat) (a_mo_helpKinds : Nat) (a_mo_nexts : Nat) (a_mo_helperKinds : Nat) (a_mo_prices : Nat) (a_mo_helpersOfKind : Nat) (a_mo_numbers : Nat) (a_se_left : Nat) (sr_number : Int64) (sr_enough : Int64) (sr_tooLong : Int32) (sr_known : (Nat → Int64)) (ro_asked : Int32) (ro_brought : Int32) (ro_friends : Int32) (ro_used : Int32) (ro_crumbs : Int32) (ro_day : Int32) (mo_tasks : Int32) (mo_helpers : Int32) (mo_askedFirst : Int32) (mo_crumbsFirst : Int32) (mo_lastDay : Int32) (mo_kinds : (Nat → Int32)) (mo_days : (Nat → Int32)) (mo_rideDays : (Nat → Int32)) (mo_helpKinds : (Nat → Int32)) (mo_nexts : (Nat → Int32)) (mo_helperKinds : (Nat → Int32)) (mo_prices : (Nat → Int32)) (mo_helpersOfKind : (Nat → Int32)) (mo_numbers : (Nat → Int32)) (se_size : Int32) (se_lastPlace : Int32) (se_left : (Nat → Int32)) (p1 : Int32) (N : Nat) (nr : Nat) (A : Nat → Prop) (hD : va_D A (wd_11 cC cI cJ a_sr a_sr_known a_ro g_sr_unseen sr_number sr_enough sr_tooLong a_mo a_se a_sr_known sr_known a_ro ro_asked ro_brought ro_friends ro_used ro_crumbs ro_day a_mo mo_tasks mo_helpers mo_askedFirst mo_crumbsFirst mo_lastDay a_mo_kinds a_mo_days a_mo_rideDays a_mo_helpKinds a_mo_nexts a_mo_helperKinds a_mo_prices a_mo_helpersOfKind a_mo_numbers a_mo_kinds mo_kinds a_mo_days mo_days a_mo_rideDays mo_rideDays a_mo_helpKinds mo_helpKinds a_mo_nexts mo_nexts a_mo_helperKinds mo_helperKinds a_mo_prices mo_prices a_mo_helpersOfKind mo_helpersOfKind a_mo_numbers mo_numbers a_se se_size se_lastPlace a_se_left a_se_left se_left)) (out : (Int64 × (Nat → Int64) × Int32 × Int32 × Int32 × Int32 × Int32 × Int32)) (hm : m_X2_waysOn N nr sr_number sr_enough sr_tooLong sr_known ro_asked ro_brought ro_friends ro_used ro_crumbs ro_day mo_lastDay mo_kinds mo_rideDays mo_helpKinds mo_nexts mo_helpersOfKind se_lastPlace se_left p1 = some out) : WrL l yX2_waysOn wsX2_waysOn (rX2_waysOn nr) D (tyK cC cI cJ) [.ref a_sr, .int p1] A (wd_11 cC cI cJ a_sr a_sr_known a_ro g_sr_unseen sr_number sr_enough sr_tooLong a_mo a_se a_sr_known sr_known a_ro ro_asked ro_brought ro_friends ro_used ro_crumbs ro_day a_mo mo_tasks mo_helpers mo_askedFirst mo_crumbsFirst mo_lastDay a_mo_kinds a_mo_days a_mo_rideDays a_mo_helpKinds a_mo_nexts a_mo_helperKinds a_mo_prices a_mo_helpersOfKind a_mo_numbers a_mo_kinds mo_kinds a_mo_days mo_days a_mo_rideDays mo_rideDays a_mo_helpKinds mo_helpKinds a_mo_nexts mo_nexts a_mo_helperKinds mo_helperKinds a_mo_prices mo_prices a_mo_helpersOfKind mo_helpersOfKind a_mo_numbers mo_numbers a_se se_size se_lastPlace a_se_left a_se_left se_left) (Bw0 D (wd_11 cC cI cJ a_sr a_sr_known a_ro g_sr_unseen sr_number sr_enough sr_tooLong a_mo a_se a_sr_known out.2.1 a_ro out.2.2.1 out.2.2.2.1 out.2.2.2.2.1 out.2.2.2.2.2.1 out.2.2.2.2.2.2.1 out.2.2.2.2.2.2.2 a_mo mo_tasks mo_helpers mo_askedFirst mo_crumbsFirst mo_lastDay a_mo_kinds a_mo_days a_mo_rideDays a_mo_helpKinds a_mo_nexts a_mo_helperKinds a_mo_prices a_mo_helpersOfKind a_mo_numbers a_mo_kinds mo_kinds a_mo_days mo_days a_mo_rideDays mo_rideDays a_mo_helpKinds mo_helpKinds a_mo_nexts mo_nexts a_mo_helperKinds mo_helperKinds a_mo_prices mo_prices a_mo_helpersOfKind mo_helpersOfKind a_mo_numbers mo_numbers a_se se_size se_lastPlace a_se_left a_se_left se_left)) out.1 := c_X2_waysOn_n l D cC cI cJ a_sr a_sr_known a_ro g_sr_unseen a_mo a_se a_mo_kinds a_mo_days a_mo_rideDays a_mo_helpKinds a_mo_nexts a_mo_helperKinds a_mo_prices a_mo_helpersOfKind a_mo_numbers a_se_left N nr sr_number sr_enough sr_tooLong sr_known ro_asked ro_brought ro_friends ro_used ro_crumbs ro_day mo_tasks mo_helpers mo_askedFirst mo_crumbsFirst mo_lastDay mo_kinds mo_days mo_rideDays mo_helpKinds mo_nexts mo_helperKinds mo_prices mo_helpersOfKind mo_numbers se_size se_lastPlace se_left p1 A hD out hm

abbrev rX2_endsWellWith : Room := { frames := 14, cells := 0, slots := 0, locals := 379 }
theorem cal_X2_endsWellWith : Cal yX2_endsWellWith wsX2_endsWellWith cX2_endsWellWith 4 (some .boolean) RX2 3 := ⟨⟨_, rfl⟩, rfl, by decide +kernel, by decide +kernel, by decide +kernel⟩
theorem in_X2_endsWellWith_X2 : ∀ w ∈ wsX20, w ∈ wsX2_endsWellWith := fun _ h => (List.mem_cons_of_mem _ (List.mem_append_left _ (List.mem_append_left _ (List.mem_append_left _ (List.mem_append_right _ h)))))
theorem in_X2_endsWellWith_X4 : ∀ w ∈ wsX40, w ∈ wsX2_endsWellWith := fun _ h => (List.mem_cons_of_mem _ (List.mem_append_left _ (List.mem_append_left _ (List.mem_append_right _ h))))
set_option maxHeartbeats 4000000 in
set_option maxRecDepth 100000 in
theorem c_X2_endsWellWith (l : Launch) (D : va_G) (cC cI cJ : ClassId) (a_sr : Nat) (a_sr_known : Nat) (a_ro : Nat) (a_us : Nat) (g_sr_months : Nat) (g_sr_heeded : Nat) (a_us_left : Nat) (a_mo : Nat) (a_mo_kinds : Nat) (a_mo_days : Nat) (a_mo_rideDays : Nat) (a_mo_helpKinds : Nat) (a_mo_nexts : Nat) (a_mo_helperKinds : Nat) (a_mo_prices : Nat) (a_mo_helpersOfKind : Nat) (a_mo_numbers : Nat) (a_fr : Nat) (sr_number : Int64) (sr_enough : Int64) (sr_tooLong : Int32) (sr_known : (Nat → Int64)) (ro_asked : Int32) (ro_brought : Int32) (ro_friends : Int32) (ro_used : Int32) (ro_crumbs : Int32) (ro_day : Int32) (us_size : Int32) (us_lastPlace : Int32) (us_left : (Nat → Int32)) (mo_tasks : Int32) (mo_helpers : Int32) (mo_askedFirst : Int32) (mo_crumbsFirst : Int32) (mo_lastDay : Int32) (mo_kinds : (Nat → Int32)) (mo_days : (Nat → Int32)) (mo_rideDays : (Nat → Int32)) (mo_helpKinds : (Nat → Int32)) (mo_nexts : (Nat → Int32)) (mo_helperKinds : (Nat → Int32)) (mo_prices : (Nat → Int32)) (mo_helpersOfKind : (Nat → Int32)) (mo_numbers : (Nat → Int32)) (fr_asked : Int32) (fr_brought : Int32) (fr_friends : Int32) (fr_used : Int32) (fr_crumbs : Int32) (fr_day : Int32) (p2 : Int32) (N : Nat) (A : Nat → Prop) (hD : va_D A (wd_9 cC cI cJ a_sr a_sr_known a_ro a_us sr_number sr_enough sr_tooLong g_sr_months g_sr_heeded a_sr_known sr_known a_ro ro_asked ro_brought ro_friends ro_used ro_crumbs ro_day a_us us_size us_lastPlace a_us_left a_us_left us_left a_mo mo_tasks mo_helpers mo_askedFirst mo_crumbsFirst mo_lastDay a_mo_kinds a_mo_days a_mo_rideDays a_mo_helpKinds a_mo_nexts a_mo_helperKinds a_mo_prices a_mo_helpersOfKind a_mo_numbers a_mo_kinds mo_kinds a_mo_days mo_days a_mo_rideDays mo_rideDays a_mo_helpKinds mo_helpKinds a_mo_nexts mo_nexts a_mo_helperKinds mo_helperKinds a_mo_prices mo_prices a_mo_helpersOfKind mo_helpersOfKind a_mo_numbers mo_numbers a_fr fr_asked fr_brought fr_friends fr_used fr_crumbs fr_day)) (out : (Int32 × Int64 × Int64 × Int32 × (Nat → Int64) × Int32 × Int32 × Int32 × Int32 × Int32 × Int32)) (hm : m_X2_endsWellWith N sr_number sr_known us_lastPlace us_left mo_tasks mo_lastDay mo_kinds mo_rideDays mo_helpKinds mo_nexts mo_helpersOfKind fr_asked fr_brought fr_friends fr_used fr_crumbs fr_day p2 = some out) : WrI l yX2_endsWellWith wsX2_endsWellWith rX2_endsWellWith D (tyK cC cI cJ) [.ref a_sr, .ref a_mo, .ref a_fr, .int p2] A (wd_9 cC cI cJ a_sr a_sr_known a_ro a_us sr_number sr_enough sr_tooLong g_sr_months g_sr_heeded a_sr_known sr_known a_ro ro_asked ro_brought ro_friends ro_used ro_crumbs ro_day a_us us_size us_lastPlace a_us_left a_us_left us_left a_mo mo_tasks mo_helpers mo_askedFirst mo_crumbsFirst mo_lastDay a_mo_kinds a_mo_days a_mo_rideDays a_mo_helpKinds a_mo_nexts a_mo_helperKinds a_mo_prices a_mo_helpersOfKind a_mo_numbers a_mo_kinds mo_kinds a_mo_days mo_days a_mo_rideDays mo_rideDays a_mo_helpKinds mo_helpKinds a_mo_nexts mo_nexts a_mo_helperKinds mo_helperKinds a_mo_prices mo_prices a_mo_helpersOfKind mo_helpersOfKind a_mo_numbers mo_numbers a_fr fr_asked fr_brought fr_friends fr_used fr_crumbs fr_day) (Bw0 D (wd_9 cC cI cJ a_sr a_sr_known a_ro a_us out.2.1 out.2.2.1 out.2.2.2.1 a_mo a_us a_sr_known out.2.2.2.2.1 a_ro out.2.2.2.2.2.1 out.2.2.2.2.2.2.1 out.2.2.2.2.2.2.2.1 out.2.2.2.2.2.2.2.2.1 out.2.2.2.2.2.2.2.2.2.1 out.2.2.2.2.2.2.2.2.2.2 a_us us_size us_lastPlace a_us_left a_us_left us_left a_mo mo_tasks mo_helpers mo_askedFirst mo_crumbsFirst mo_lastDay a_mo_kinds a_mo_days a_mo_rideDays a_mo_helpKinds a_mo_nexts a_mo_helperKinds a_mo_prices a_mo_helpersOfKind a_mo_numbers a_mo_kinds mo_kinds a_mo_days mo_days a_mo_rideDays mo_rideDays a_mo_helpKinds mo_helpKinds a_mo_nexts mo_nexts a_mo_helperKinds mo_helperKinds a_mo_prices mo_prices a_mo_helpersOfKind mo_helpersOfKind a_mo_numbers mo_numbers a_fr fr_asked fr_brought fr_friends fr_used fr_crumbs fr_day)) out.1 := by
  unfold m_X2_endsWellWith at hm
  refine enter (cc := cX2_endsWellWith) (maxL := 4) (ret := (some .boolean)) (lv := [(0, .ref a_sr), (1, .ref a_mo), (2, .ref a_fr), (3, .int p2)]) (by decide) rfl (Nat.le_of_ble_eq_true rfl) rfl ?_
  intro p e s m args below meth c S hr hlk hK hP ls hl
  replace S : CallFix p m c cX2_endsWellWith 4 s args wsX2_endsWellWith RX2 := S
  have hx := S.1
  have hb := S.2.1
  have hw : Wd D A s.heap (wd_9 cC cI cJ a_sr a_sr_known a_ro a_us sr_number sr_enough sr_tooLong g_sr_months g_sr_heeded a_sr_known sr_known a_ro ro_asked ro_brought ro_friends ro_used ro_crumbs ro_day a_us us_size us_lastPlace a_us_left a_us_left us_left a_mo mo_tasks mo_helpers mo_askedFirst mo_crumbsFirst mo_lastDay a_mo_kinds a_mo_days a_mo_rideDays a_mo_helpKinds a_mo_nexts a_mo_helperKinds a_mo_prices a_mo_helpersOfKind a_mo_numbers a_mo_kinds mo_kinds a_mo_days mo_days a_mo_rideDays mo_rideDays a_mo_helpKinds mo_helpKinds a_mo_nexts mo_nexts a_mo_helperKinds mo_helperKinds a_mo_prices mo_prices a_mo_helpersOfKind mo_helpersOfKind a_mo_numbers mo_numbers a_fr fr_asked fr_brought fr_friends fr_used fr_crumbs fr_day) s.heap [] := ⟨hP, hD, va_S.rf⟩
  have hw0 := hw
  refine lv_aload_n hx hb dX2_endsWellWith_0 rfl (lv_at hl 0 rfl) ?_
  refine lv_aload_n hx hb dX2_endsWellWith_1 rfl (lv_at hl 1 rfl) ?_
  refine lv_aload_n hx hb dX2_endsWellWith_2 rfl (lv_at hl 2 rfl) ?_
  refine lv_aload_n hx hb dX2_endsWellWith_3 rfl (lv_at hl 0 rfl) ?_
  refine f_get S hK hw.1 in_X2_endsWellWith_X2 0 rfl rfl 2 (by decide) (List.mem_of_getElem? (i := 1) rfl) rfl rfl dX2_endsWellWith_4 ?_
  refine lv_lconst (v := 1) hx hb dX2_endsWellWith_7 (by decide) ?_
  obtain ⟨r1, h2, hm⟩ := ob hm
  refine k_wVv S hK hw cal_X2_begin gX2_endsWellWith_X2_begin (c_X2_begin l D cC cI cJ a_sr a_sr_known a_ro a_us g_sr_months g_sr_heeded a_mo a_mo_kinds a_mo_days a_mo_rideDays a_mo_helpKinds a_mo_nexts a_mo_helperKinds a_mo_prices a_mo_helpersOfKind a_mo_numbers a_fr a_us sr_number sr_enough sr_tooLong sr_known ro_asked ro_brought ro_friends ro_used ro_crumbs ro_day mo_tasks mo_helpers mo_askedFirst mo_crumbsFirst mo_lastDay mo_kinds mo_days mo_rideDays mo_helpKinds mo_nexts mo_helperKinds mo_prices mo_helpersOfKind mo_numbers fr_asked fr_brought fr_friends fr_used fr_crumbs fr_day (1 : Int64) N (aw _) (hw.own [0, 1, 2, 5, 6, 7, 8, 9, 10, 11, 12, 13, 14, 15] (by decide) rfl) r1 h2) ⟨⟨rfl, rfl⟩, Nat.le_of_ble_eq_true rfl, Nat.le_of_ble_eq_true rfl⟩ [0, 1, 2, 5, 6, 7, 8, 9, 10, 11, 12, 13, 14, 15] rfl 0 rfl rfl rfl hl.1 rfl (Nat.le_of_ble_eq_true rfl) dX2_endsWellWith_8 ⟨Nat.zero_le _, Nat.zero_le _⟩ (fun H locs hJ hB => ?_)
  have hw := hJ _ hB rfl
  replace hw : Wd D A _ (wd_9 cC cI cJ a_sr a_sr_known a_ro a_us r1.1 r1.2.1 r1.2.2.1 a_mo a_us a_sr_known sr_known a_ro r1.2.2.2.1 r1.2.2.2.2.1 r1.2.2.2.2.2.1 r1.2.2.2.2.2.2.1 r1.2.2.2.2.2.2.2.1 r1.2.2.2.2.2.2.2.2 a_us us_size us_lastPlace a_us_left a_us_left us_left a_mo mo_tasks mo_helpers mo_askedFirst mo_crumbsFirst mo_lastDay a_mo_kinds a_mo_days a_mo_rideDays a_mo_helpKinds a_mo_nexts a_mo_helperKinds a_mo_prices a_mo_helpersOfKind a_mo_numbers a_mo_kinds mo_kinds a_mo_days mo_days a_mo_rideDays mo_rideDays a_mo_helpKinds mo_helpKinds a_mo_nexts mo_nexts a_mo_helperKinds mo_helperKinds a_mo_prices mo_prices a_mo_helpersOfKind mo_helpersOfKind a_mo_numbers mo_numbers a_fr fr_asked fr_brought fr_friends fr_used fr_crumbs fr_day) H locs := hw
  refine lv_aload_n hx hb dX2_endsWellWith_11 rfl (lv_at hl 0 rfl) ?_
  refine f_get S hK hw.1 in_X2_endsWellWith_X2 0 rfl rfl 1 (by decide) (List.mem_of_getElem? (i := 2) rfl) rfl rfl dX2_endsWellWith_12 ?_
  refine lv_dup hx hb dX2_endsWellWith_15 rfl ?_
  refine f_get S hK hw.1 in_X2_endsWellWith_X4 2 rfl rfl 2 (by decide) (List.mem_of_getElem? (i := 3) rfl) rfl rfl dX2_endsWellWith_16 ?_
  refine lv_iload_n hx hb dX2_endsWellWith_19 rfl (lv_at hl 3 rfl) ?_
  refine lv_ior hx hb dX2_endsWellWith_20 ?_
  refine f_put S hK hw in_X2_endsWellWith_X4 tyX4_ok nmX4 2 rfl rfl 2 (by decide) (List.mem_of_getElem? (i := 3) rfl) rfl rfl rfl rfl (Nat.le_of_ble_eq_true rfl) (ws1 := (wd_9 cC cI cJ a_sr a_sr_known a_ro a_us r1.1 r1.2.1 r1.2.2.1 a_mo a_us a_sr_known sr_known a_ro r1.2.2.2.1 r1.2.2.2.2.1 (r1.2.2.2.2.2.1 ||| p2) r1.2.2.2.2.2.2.1 r1.2.2.2.2.2.2.2.1 r1.2.2.2.2.2.2.2.2 a_us us_size us_lastPlace a_us_left a_us_left us_left a_mo mo_tasks mo_helpers mo_askedFirst mo_crumbsFirst mo_lastDay a_mo_kinds a_mo_days a_mo_rideDays a_mo_helpKinds a_mo_nexts a_mo_helperKinds a_mo_prices a_mo_helpersOfKind a_mo_numbers a_mo_kinds mo_kinds a_mo_days mo_days a_mo_rideDays mo_rideDays a_mo_helpKinds mo_helpKinds a_mo_nexts mo_nexts a_mo_helperKinds mo_helperKinds a_mo_prices mo_prices a_mo_helpersOfKind mo_helpersOfKind a_mo_numbers mo_numbers a_fr fr_asked fr_brought fr_friends fr_used fr_crumbs fr_day)) rfl dX2_endsWellWith_21 (fun H locs hw => ?_)
  refine lv_aload_n hx hb dX2_endsWellWith_24 rfl (lv_at hl 0 rfl) ?_
  refine lv_iconst (v := 0) hx hb dX2_endsWellWith_25 (by decide) ?_
  obtain ⟨r3, h4, hm⟩ := ob hm
  refine k_wSl S hK hw cal_X2_waysOn gX2_endsWellWith_X2_waysOn (c_X2_waysOn l D cC cI cJ a_sr a_sr_known a_ro a_us a_mo a_us a_mo_kinds a_mo_days a_mo_rideDays a_mo_helpKinds a_mo_nexts a_mo_helperKinds a_mo_prices a_mo_helpersOfKind a_mo_numbers a_us_left r1.1 r1.2.1 r1.2.2.1 sr_known r1.2.2.2.1 r1.2.2.2.2.1 (r1.2.2.2.2.2.1 ||| p2) r1.2.2.2.2.2.2.1 r1.2.2.2.2.2.2.2.1 r1.2.2.2.2.2.2.2.2 mo_tasks mo_helpers mo_askedFirst mo_crumbsFirst mo_lastDay mo_kinds mo_days mo_rideDays mo_helpKinds mo_nexts mo_helperKinds mo_prices mo_helpersOfKind mo_numbers us_size us_lastPlace us_left (0 : Int32) N 10 (aw _) (hw.own [0, 1, 2, 5, 6, 7, 8, 9, 10, 11, 12, 13, 14, 3, 4] (by decide) rfl) r3 h4) ⟨⟨rfl, rfl⟩, Nat.le_of_ble_eq_true rfl, Nat.le_of_ble_eq_true rfl⟩ [0, 1, 2, 5, 6, 7, 8, 9, 10, 11, 12, 13, 14, 3, 4] rfl rfl hl.1 rfl (Nat.le_of_ble_eq_true rfl) dX2_endsWellWith_26 ⟨Nat.zero_le _, Nat.zero_le _⟩ (fun H locs hJ hB => ?_)
  have hw := hJ _ hB rfl
  replace hw : Wd D A _ (wd_9 cC cI cJ a_sr a_sr_known a_ro a_us r1.1 r1.2.1 r1.2.2.1 a_mo a_us a_sr_known r3.2.1 a_ro r3.2.2.1 r3.2.2.2.1 r3.2.2.2.2.1 r3.2.2.2.2.2.1 r3.2.2.2.2.2.2.1 r3.2.2.2.2.2.2.2 a_us us_size us_lastPlace a_us_left a_us_left us_left a_mo mo_tasks mo_helpers mo_askedFirst mo_crumbsFirst mo_lastDay a_mo_kinds a_mo_days a_mo_rideDays a_mo_helpKinds a_mo_nexts a_mo_helperKinds a_mo_prices a_mo_helpersOfKind a_mo_numbers a_mo_kinds mo_kinds a_mo_days mo_days a_mo_rideDays mo_rideDays a_mo_helpKinds mo_helpKinds a_mo_nexts mo_nexts a_mo_helperKinds mo_helperKinds a_mo_prices mo_prices a_mo_helpersOfKind mo_helpersOfKind a_mo_numbers mo_numbers a_fr fr_asked fr_brought fr_friends fr_used fr_crumbs fr_day) H locs := hw
  refine lv_lconst (v := 0) hx hb dX2_endsWellWith_29 (by decide) ?_
  refine W.lcmp hx hb dX2_endsWellWith_30 ?_
  refine lv_if_le (tgt := 38) hx hb dX2_endsWellWith_31 (by decide) (fun c5 => ?_) (fun c5 => ?_)
  · replace hm := ipos hm c5
    refine lv_iconst (v := 0) hx hb dX2_endsWellWith_38 (by decide) ?_
    obtain rfl := Option.some.inj hm
    exact e_WZ S hr hlk hw (Or.inl rfl) rfl hw.1 dX2_endsWellWith_39
  · replace hm := ineg hm c5
    refine lv_iconst (v := 1) hx hb dX2_endsWellWith_34 (by decide) ?_
    refine lv_goto (tgt := 39) hx hb dX2_endsWellWith_35 (by decide) ?_
    obtain rfl := Option.some.inj hm
    exact e_WZ S hr hlk hw (Or.inr rfl) rfl hw.1 dX2_endsWellWith_39

abbrev rX2_fewestSet : Room := { frames := 15, cells := 0, slots := 0, locals := 402 }
theorem cal_X2_fewestSet : Cal yX2_fewestSet wsX2_fewestSet cX2_fewestSet 8 (some .int) RX2 2 := ⟨⟨_, rfl⟩, rfl, by decide +kernel, by decide +kernel, by decide +kernel⟩
theorem in_X2_fewestSet_X0 : ∀ w ∈ wsX00, w ∈ wsX2_fewestSet := fun _ h => (List.mem_cons_of_mem _ (List.mem_append_left _ (List.mem_append_left _ (List.mem_append_right _ h))))
theorem in_X2_fewestSet_X4 : ∀ w ∈ wsX40, w ∈ wsX2_fewestSet := fun _ h => (List.mem_cons_of_mem _ (List.mem_append_left _ (List.mem_append_left _ (List.mem_append_left _ (List.mem_append_right _ h)))))
set_option maxHeartbeats 4000000 in
set_option maxRecDepth 100000 in
theorem t_X2_fewestSet_46 {p : Program} {e : Env} {s : State} {m : MethodId} {args : Array Value} {below : List Frame} {meth : Method} {c : Code} {Q : State → Prop} (l : Launch) {D : va_G} {cC cI cJ : ClassId} {A : Nat → Prop} {H0 : Heap} (S : CallFix p m c cX2_fewestSet 8 s args wsX2_fewestSet RX2) (hK : KK D (tyK cC cI cJ) s) (a_sr : Nat) (a_sr_known : Nat) (a_ro : Nat) (a_us : Nat) (g_sr_months : Nat) (g_sr_heeded : Nat) (a_us_left : Nat) (a_mo : Nat) (a_mo_kinds : Nat) (a_mo_days : Nat) (a_mo_rideDays : Nat) (a_mo_helpKinds : Nat) (a_mo_nexts : Nat) (a_mo_helperKinds : Nat) (a_mo_prices : Nat) (a_mo_helpersOfKind : Nat) (a_mo_numbers : Nat) (a_fr : Nat) (N : Nat) (v5 : Int32) (us_size : Int32) (us_lastPlace : Int32) (us_left : (Nat → Int32)) (mo_tasks : Int32) (mo_helpers : Int32) (mo_askedFirst : Int32) (mo_crumbsFirst : Int32) (mo_lastDay : Int32) (mo_kinds : (Nat → Int32)) (mo_days : (Nat → Int32)) (mo_rideDays : (Nat → Int32)) (mo_helpKinds : (Nat → Int32)) (mo_nexts : (Nat → Int32)) (mo_helperKinds : (Nat → Int32)) (mo_prices : (Nat → Int32)) (mo_helpersOfKind : (Nat → Int32)) (mo_numbers : (Nat → Int32)) (fr_asked : Int32) (fr_brought : Int32) (fr_friends : Int32) (fr_used : Int32) (fr_crumbs : Int32) (fr_day : Int32) : ∀ (n : Nat) (v3 : Int32) (v4 : Int32) (v6 : Int32) (sr_number : Int64) (sr_enough : Int64) (sr_tooLong : Int32) (sr_known : (Nat → Int64)) (ro_asked : Int32) (ro_brought : Int32) (ro_friends : Int32) (ro_used : Int32) (ro_crumbs : Int32) (ro_day : Int32) (out : (Int32 × Int64 × Int64 × Int32 × (Nat → Int64) × Int32 × Int32 × Int32 × Int32 × Int32 × Int32)), lp_X2_fewestSet_46 N v5 us_lastPlace us_left mo_tasks mo_helpers mo_lastDay mo_kinds mo_rideDays mo_helpKinds mo_nexts mo_prices mo_helpersOfKind fr_asked fr_brought fr_friends fr_used fr_crumbs fr_day n v3 v4 v6 sr_number sr_enough sr_tooLong sr_known ro_asked ro_brought ro_friends ro_used ro_crumbs ro_day = some out → ∀ (H : Heap) (locs : List Loc) (ls : Array Slot), Wd D A H0 (wd_9 cC cI cJ a_sr a_sr_known a_ro a_us sr_number sr_enough sr_tooLong a_mo a_us a_sr_known sr_known a_ro ro_asked ro_brought ro_friends ro_used ro_crumbs ro_day a_us us_size us_lastPlace a_us_left a_us_left us_left a_mo mo_tasks mo_helpers mo_askedFirst mo_crumbsFirst mo_lastDay a_mo_kinds a_mo_days a_mo_rideDays a_mo_helpKinds a_mo_nexts a_mo_helperKinds a_mo_prices a_mo_helpersOfKind a_mo_numbers a_mo_kinds mo_kinds a_mo_days mo_days a_mo_rideDays mo_rideDays a_mo_helpKinds mo_helpKinds a_mo_nexts mo_nexts a_mo_helperKinds mo_helperKinds a_mo_prices mo_prices a_mo_helpersOfKind mo_helpersOfKind a_mo_numbers mo_numbers a_fr fr_asked fr_brought fr_friends fr_used fr_crumbs fr_day) H locs → lv_has ls 8 [(0, .ref a_sr), (1, .ref a_mo), (2, .ref a_fr), (3, .int v3), (4, .int v4), (5, .int v5), (6, .int v6)] → (∀ (H : Heap) (locs : List Loc) (ls : Array Slot), Wd D A H0 (wd_9 cC cI cJ a_sr a_sr_known a_ro a_us out.2.1 out.2.2.1 out.2.2.2.1 a_mo a_us a_sr_known out.2.2.2.2.1 a_ro out.2.2.2.2.2.1 out.2.2.2.2.2.2.1 out.2.2.2.2.2.2.2.1 out.2.2.2.2.2.2.2.2.1 out.2.2.2.2.2.2.2.2.2.1 out.2.2.2.2.2.2.2.2.2.2 a_us us_size us_lastPlace a_us_left a_us_left us_left a_mo mo_tasks mo_helpers mo_askedFirst mo_crumbsFirst mo_lastDay a_mo_kinds a_mo_days a_mo_rideDays a_mo_helpKinds a_mo_nexts a_mo_helperKinds a_mo_prices a_mo_helpersOfKind a_mo_numbers a_mo_kinds mo_kinds a_mo_days mo_days a_mo_rideDays mo_rideDays a_mo_helpKinds mo_helpKinds a_mo_nexts mo_nexts a_mo_helperKinds mo_helperKinds a_mo_prices mo_prices a_mo_helpersOfKind mo_helpersOfKind a_mo_numbers mo_numbers a_fr fr_asked fr_brought fr_friends fr_used fr_crumbs fr_day) H locs → lv_has ls 8 [(3, .int out.1)] → W p l e rX2_fewestSet s m args below meth c H locs 0 0 Q (F0 m 103 ls [])) → W p l e rX2_fewestSet s m args below meth c H locs 0 0 Q (F0 m 46 ls []) := by
  have hx := S.1
  have hb := S.2.1
  intro n
  induction n with
  | zero => intro v3 v4 v6 sr_number sr_enough sr_tooLong sr_known ro_asked ro_brought ro_friends ro_used ro_crumbs ro_day out hm; cases (show (none : Option (Int32 × Int64 × Int64 × Int32 × (Nat → Int64) × Int32 × Int32 × Int32 × Int32 × Int32 × Int32)) = some out from hm)
  | succ n ih =>
    intro v3 v4 v6 sr_number sr_enough sr_tooLong sr_known ro_asked ro_brought ro_friends ro_used ro_crumbs ro_day out hm  H locs ls hw hl K0
    rw [lp_X2_fewestSet_46] at hm
    refine lv_iload hx hb dX2_fewestSet_46 (lv_at hl 6 rfl) ?_
    refine lv_sipush (v := 128) hx hb dX2_fewestSet_48 (by decide) ?_
    refine lv_icmp_ge (tgt := 103) hx hb dX2_fewestSet_51 (by decide) (fun c8 => ?_) (fun c8 => ?_)
    · replace hm := ipos hm c8
      obtain rfl := Option.some.inj hm
      exact K0  _ _ ls hw (lv_sub hl [3] rfl)
    · replace hm := ineg hm c8
      refine lv_aload_n hx hb dX2_fewestSet_54 rfl (lv_at hl 1 rfl) ?_
      refine lv_iload hx hb dX2_fewestSet_55 (lv_at hl 6 rfl) ?_
      obtain ⟨r9, h10, hm⟩ := ob hm
      refine k_rVi S hK hw.1 cal_X0_priceOfSet gX2_fewestSet_X0_priceOfSet (c_X0_priceOfSet l D cC cI cJ a_mo a_mo_kinds a_mo_days a_mo_rideDays a_mo_helpKinds a_mo_nexts a_mo_helperKinds a_mo_prices a_mo_helpersOfKind a_mo_numbers mo_tasks mo_helpers mo_askedFirst mo_crumbsFirst mo_lastDay mo_kinds mo_days mo_rideDays mo_helpKinds mo_nexts mo_helperKinds mo_prices mo_helpersOfKind mo_numbers v6 N r9 h10) ⟨⟨rfl, rfl⟩, Nat.le_of_ble_eq_true rfl, Nat.le_of_ble_eq_true rfl⟩ [5, 6, 7, 8, 9, 10, 11, 12, 13, 14] rfl 5 rfl rfl rfl hl.1 rfl (Nat.le_of_ble_eq_true rfl) dX2_fewestSet_57 ⟨Nat.zero_le _, Nat.zero_le _⟩ ?_
      refine lv_istore (lv' := [(7, .int r9), (0, .ref a_sr), (1, .ref a_mo), (2, .ref a_fr), (3, .int v3), (4, .int v4), (5, .int v5), (6, .int v6)]) hx hb dX2_fewestSet_60 hl (by decide) rfl (fun ls hl => ?_)
      refine lv_iload hx hb dX2_fewestSet_62 (lv_at hl 7 rfl) ?_
      refine lv_iload hx hb dX2_fewestSet_64 (lv_at hl 6 rfl) ?_
      refine lv_iconst (v := (-1)) hx hb dX2_fewestSet_66 (by decide) ?_
      refine lv_ixor hx hb dX2_fewestSet_67 ?_
      refine lv_iand hx hb dX2_fewestSet_68 ?_
      refine lv_if_ne (tgt := 97) hx hb dX2_fewestSet_69 (by decide) (fun c11 => ?_) (fun c11 => ?_)
      · replace hm := ineg hm c11
        refine lv_iinc (v := (v6 + 1)) (lv' := [(6, .int (v6 + 1)), (7, .int r9), (0, .ref a_sr), (1, .ref a_mo), (2, .ref a_fr), (3, .int v3), (4, .int v4), (5, .int v5)]) hx hb dX2_fewestSet_97 hl (k := 7) rfl (by rw [ofi_1]) (by decide) rfl (fun ls hl => ?_)
        refine lv_goto (tgt := 46) hx hb dX2_fewestSet_100 (by decide) ?_
        exact ih v3 v4 (v6 + 1) sr_number sr_enough sr_tooLong sr_known ro_asked ro_brought ro_friends ro_used ro_crumbs ro_day _ hm  _ _ ls hw (lv_sub hl [2, 3, 4, 5, 6, 7, 0] rfl) K0
      · replace hm := ipos hm c11
        refine lv_iload hx hb dX2_fewestSet_72 (lv_at hl 0 rfl) ?_
        refine lv_iload hx hb dX2_fewestSet_74 (lv_at hl 5 rfl) ?_
        refine lv_icmp_ge (tgt := 97) hx hb dX2_fewestSet_76 (by decide) (fun c12 => ?_) (fun c12 => ?_)
        · replace hm := ipos hm c12
          refine lv_iinc (v := (v6 + 1)) (lv' := [(6, .int (v6 + 1)), (7, .int r9), (0, .ref a_sr), (1, .ref a_mo), (2, .ref a_fr), (3, .int v3), (4, .int v4), (5, .int v5)]) hx hb dX2_fewestSet_97 hl (k := 7) rfl (by rw [ofi_1]) (by decide) rfl (fun ls hl => ?_)
          refine lv_goto (tgt := 46) hx hb dX2_fewestSet_100 (by decide) ?_
          exact ih v3 v4 (v6 + 1) sr_number sr_enough sr_tooLong sr_known ro_asked ro_brought ro_friends ro_used ro_crumbs ro_day _ hm  _ _ ls hw (lv_sub hl [2, 3, 4, 5, 6, 7, 0] rfl) K0
        · replace hm := ineg hm c12
          refine lv_aload_n hx hb dX2_fewestSet_79 rfl (lv_at hl 1 rfl) ?_
          refine lv_aload_n hx hb dX2_fewestSet_80 rfl (lv_at hl 2 rfl) ?_
          refine lv_aload_n hx hb dX2_fewestSet_81 rfl (lv_at hl 3 rfl) ?_
          refine lv_iload hx hb dX2_fewestSet_82 (lv_at hl 7 rfl) ?_
          obtain ⟨r13, h14, hm⟩ := ob hm
          refine k_wVi S hK hw cal_X2_endsWellWith gX2_fewestSet_X2_endsWellWith (c_X2_endsWellWith l D cC cI cJ a_sr a_sr_known a_ro a_us a_mo a_us a_us_left a_mo a_mo_kinds a_mo_days a_mo_rideDays a_mo_helpKinds a_mo_nexts a_mo_helperKinds a_mo_prices a_mo_helpersOfKind a_mo_numbers a_fr sr_number sr_enough sr_tooLong sr_known ro_asked ro_brought ro_friends ro_used ro_crumbs ro_day us_size us_lastPlace us_left mo_tasks mo_helpers mo_askedFirst mo_crumbsFirst mo_lastDay mo_kinds mo_days mo_rideDays mo_helpKinds mo_nexts mo_helperKinds mo_prices mo_helpersOfKind mo_numbers fr_asked fr_brought fr_friends fr_used fr_crumbs fr_day v6 N (aw _) (hw.own [0, 1, 2, 3, 4, 5, 6, 7, 8, 9, 10, 11, 12, 13, 14, 15] (by decide) rfl) r13 h14) ⟨⟨rfl, rfl⟩, Nat.le_of_ble_eq_true rfl, Nat.le_of_ble_eq_true rfl⟩ [0, 1, 2, 3, 4, 5, 6, 7, 8, 9, 10, 11, 12, 13, 14, 15] rfl 0 rfl rfl rfl hl.1 rfl (Nat.le_of_ble_eq_true rfl) dX2_fewestSet_84 ⟨Nat.zero_le _, Nat.zero_le _⟩ (fun H locs hJ hB => ?_)
          have hw := hJ _ hB rfl
          replace hw : Wd D A _ (wd_9 cC cI cJ a_sr a_sr_known a_ro a_us r13.2.1 r13.2.2.1 r13.2.2.2.1 a_mo a_us a_sr_known r13.2.2.2.2.1 a_ro r13.2.2.2.2.2.1 r13.2.2.2.2.2.2.1 r13.2.2.2.2.2.2.2.1 r13.2.2.2.2.2.2.2.2.1 r13.2.2.2.2.2.2.2.2.2.1 r13.2.2.2.2.2.2.2.2.2.2 a_us us_size us_lastPlace a_us_left a_us_left us_left a_mo mo_tasks mo_helpers mo_askedFirst mo_crumbsFirst mo_lastDay a_mo_kinds a_mo_days a_mo_rideDays a_mo_helpKinds a_mo_nexts a_mo_helperKinds a_mo_prices a_mo_helpersOfKind a_mo_numbers a_mo_kinds mo_kinds a_mo_days mo_days a_mo_rideDays mo_rideDays a_mo_helpKinds mo_helpKinds a_mo_nexts mo_nexts a_mo_helperKinds mo_helperKinds a_mo_prices mo_prices a_mo_helpersOfKind mo_helpersOfKind a_mo_numbers mo_numbers a_fr fr_asked fr_brought fr_friends fr_used fr_crumbs fr_day) H locs := hw
          refine lv_if_eq (tgt := 97) hx hb dX2_fewestSet_87 (by decide) (fun c15 => ?_) (fun c15 => ?_)
          · replace hm := ipos hm c15
            refine lv_iinc (v := (v6 + 1)) (lv' := [(6, .int (v6 + 1)), (7, .int r9), (0, .ref a_sr), (1, .ref a_mo), (2, .ref a_fr), (3, .int v3), (4, .int v4), (5, .int v5)]) hx hb dX2_fewestSet_97 hl (k := 7) rfl (by rw [ofi_1]) (by decide) rfl (fun ls hl => ?_)
            refine lv_goto (tgt := 46) hx hb dX2_fewestSet_100 (by decide) ?_
            exact ih v3 v4 (v6 + 1) r13.2.1 r13.2.2.1 r13.2.2.2.1 r13.2.2.2.2.1 r13.2.2.2.2.2.1 r13.2.2.2.2.2.2.1 r13.2.2.2.2.2.2.2.1 r13.2.2.2.2.2.2.2.2.1 r13.2.2.2.2.2.2.2.2.2.1 r13.2.2.2.2.2.2.2.2.2.2 _ hm  _ _ ls hw (lv_sub hl [2, 3, 4, 5, 6, 7, 0] rfl) K0
          · replace hm := ineg hm c15
            refine lv_iload hx hb dX2_fewestSet_90 (lv_at hl 7 rfl) ?_
            refine lv_istore_n (lv' := [(3, .int v6), (7, .int r9), (0, .ref a_sr), (1, .ref a_mo), (2, .ref a_fr), (4, .int v4), (5, .int v5), (6, .int v6)]) hx hb dX2_fewestSet_92 rfl hl (by decide) rfl (fun ls hl => ?_)
            refine lv_iload hx hb dX2_fewestSet_93 (lv_at hl 1 rfl) ?_
            refine lv_istore (lv' := [(4, .int r9), (3, .int v6), (7, .int r9), (0, .ref a_sr), (1, .ref a_mo), (2, .ref a_fr), (5, .int v5), (6, .int v6)]) hx hb dX2_fewestSet_95 hl (by decide) rfl (fun ls hl => ?_)
            refine lv_iinc (v := (v6 + 1)) (lv' := [(6, .int (v6 + 1)), (4, .int r9), (3, .int v6), (7, .int r9), (0, .ref a_sr), (1, .ref a_mo), (2, .ref a_fr), (5, .int v5)]) hx hb dX2_fewestSet_97 hl (k := 7) rfl (by rw [ofi_1]) (by decide) rfl (fun ls hl => ?_)
            refine lv_goto (tgt := 46) hx hb dX2_fewestSet_100 (by decide) ?_
            exact ih v6 r9 (v6 + 1) r13.2.1 r13.2.2.1 r13.2.2.2.1 r13.2.2.2.2.1 r13.2.2.2.2.2.1 r13.2.2.2.2.2.2.1 r13.2.2.2.2.2.2.2.1 r13.2.2.2.2.2.2.2.2.1 r13.2.2.2.2.2.2.2.2.2.1 r13.2.2.2.2.2.2.2.2.2.2 _ hm  _ _ ls hw (lv_sub hl [4, 5, 6, 2, 1, 7, 0] rfl) K0
set_option maxHeartbeats 4000000 in
set_option maxRecDepth 100000 in
theorem c_X2_fewestSet (l : Launch) (D : va_G) (cC cI cJ : ClassId) (a_sr : Nat) (a_sr_known : Nat) (a_ro : Nat) (a_us : Nat) (g_sr_months : Nat) (g_sr_heeded : Nat) (a_us_left : Nat) (a_mo : Nat) (a_mo_kinds : Nat) (a_mo_days : Nat) (a_mo_rideDays : Nat) (a_mo_helpKinds : Nat) (a_mo_nexts : Nat) (a_mo_helperKinds : Nat) (a_mo_prices : Nat) (a_mo_helpersOfKind : Nat) (a_mo_numbers : Nat) (a_fr : Nat) (sr_number : Int64) (sr_enough : Int64) (sr_tooLong : Int32) (sr_known : (Nat → Int64)) (ro_asked : Int32) (ro_brought : Int32) (ro_friends : Int32) (ro_used : Int32) (ro_crumbs : Int32) (ro_day : Int32) (us_size : Int32) (us_lastPlace : Int32) (us_left : (Nat → Int32)) (mo_tasks : Int32) (mo_helpers : Int32) (mo_askedFirst : Int32) (mo_crumbsFirst : Int32) (mo_lastDay : Int32) (mo_kinds : (Nat → Int32)) (mo_days : (Nat → Int32)) (mo_rideDays : (Nat → Int32)) (mo_helpKinds : (Nat → Int32)) (mo_nexts : (Nat → Int32)) (mo_helperKinds : (Nat → Int32)) (mo_prices : (Nat → Int32)) (mo_helpersOfKind : (Nat → Int32)) (mo_numbers : (Nat → Int32)) (fr_asked : Int32) (fr_brought : Int32) (fr_friends : Int32) (fr_used : Int32) (fr_crumbs : Int32) (fr_day : Int32) (N : Nat) (A : Nat → Prop) (hD : va_D A (wd_9 cC cI cJ a_sr a_sr_known a_ro a_us sr_number sr_enough sr_tooLong g_sr_months g_sr_heeded a_sr_known sr_known a_ro ro_asked ro_brought ro_friends ro_used ro_crumbs ro_day a_us us_size us_lastPlace a_us_left a_us_left us_left a_mo mo_tasks mo_helpers mo_askedFirst mo_crumbsFirst mo_lastDay a_mo_kinds a_mo_days a_mo_rideDays a_mo_helpKinds a_mo_nexts a_mo_helperKinds a_mo_prices a_mo_helpersOfKind a_mo_numbers a_mo_kinds mo_kinds a_mo_days mo_days a_mo_rideDays mo_rideDays a_mo_helpKinds mo_helpKinds a_mo_nexts mo_nexts a_mo_helperKinds mo_helperKinds a_mo_prices mo_prices a_mo_helpersOfKind mo_helpersOfKind a_mo_numbers mo_numbers a_fr fr_asked fr_brought fr_friends fr_used fr_crumbs fr_day)) (out : (Int32 × Int64 × Int64 × Int32 × (Nat → Int64) × Int32 × Int32 × Int32 × Int32 × Int32 × Int32)) (hm : m_X2_fewestSet N sr_number sr_known us_lastPlace us_left mo_tasks mo_helpers mo_lastDay mo_kinds mo_rideDays mo_helpKinds mo_nexts mo_prices mo_helpersOfKind fr_asked fr_brought fr_friends fr_used fr_crumbs fr_day = some out) : WrI l yX2_fewestSet wsX2_fewestSet rX2_fewestSet D (tyK cC cI cJ) [.ref a_sr, .ref a_mo, .ref a_fr] A (wd_9 cC cI cJ a_sr a_sr_known a_ro a_us sr_number sr_enough sr_tooLong g_sr_months g_sr_heeded a_sr_known sr_known a_ro ro_asked ro_brought ro_friends ro_used ro_crumbs ro_day a_us us_size us_lastPlace a_us_left a_us_left us_left a_mo mo_tasks mo_helpers mo_askedFirst mo_crumbsFirst mo_lastDay a_mo_kinds a_mo_days a_mo_rideDays a_mo_helpKinds a_mo_nexts a_mo_helperKinds a_mo_prices a_mo_helpersOfKind a_mo_numbers a_mo_kinds mo_kinds a_mo_days mo_days a_mo_rideDays mo_rideDays a_mo_helpKinds mo_helpKinds a_mo_nexts mo_nexts a_mo_helperKinds mo_helperKinds a_mo_prices mo_prices a_mo_helpersOfKind mo_helpersOfKind a_mo_numbers mo_numbers a_fr fr_asked fr_brought fr_friends fr_used fr_crumbs fr_day) (Bw0 D (wd_9 cC cI cJ a_sr a_sr_known a_ro a_us out.2.1 out.2.2.1 out.2.2.2.1 a_mo a_us a_sr_known out.2.2.2.2.1 a_ro out.2.2.2.2.2.1 out.2.2.2.2.2.2.1 out.2.2.2.2.2.2.2.1 out.2.2.2.2.2.2.2.2.1 out.2.2.2.2.2.2.2.2.2.1 out.2.2.2.2.2.2.2.2.2.2 a_us us_size us_lastPlace a_us_left a_us_left us_left a_mo mo_tasks mo_helpers mo_askedFirst mo_crumbsFirst mo_lastDay a_mo_kinds a_mo_days a_mo_rideDays a_mo_helpKinds a_mo_nexts a_mo_helperKinds a_mo_prices a_mo_helpersOfKind a_mo_numbers a_mo_kinds mo_kinds a_mo_days mo_days a_mo_rideDays mo_rideDays a_mo_helpKinds mo_helpKinds a_mo_nexts mo_nexts a_mo_helperKinds mo_helperKinds a_mo_prices mo_prices a_mo_helpersOfKind mo_helpersOfKind a_mo_numbers mo_numbers a_fr fr_asked fr_brought fr_friends fr_used fr_crumbs fr_day)) out.1 := by
  unfold m_X2_fewestSet at hm
  refine enter (cc := cX2_fewestSet) (maxL := 8) (ret := (some .int)) (lv := [(0, .ref a_sr), (1, .ref a_mo), (2, .ref a_fr)]) (by decide) rfl (Nat.le_of_ble_eq_true rfl) rfl ?_
  intro p e s m args below meth c S hr hlk hK hP ls hl
  replace S : CallFix p m c cX2_fewestSet 8 s args wsX2_fewestSet RX2 := S
  have hx := S.1
  have hb := S.2.1
  have hw : Wd D A s.heap (wd_9 cC cI cJ a_sr a_sr_known a_ro a_us sr_number sr_enough sr_tooLong g_sr_months g_sr_heeded a_sr_known sr_known a_ro ro_asked ro_brought ro_friends ro_used ro_crumbs ro_day a_us us_size us_lastPlace a_us_left a_us_left us_left a_mo mo_tasks mo_helpers mo_askedFirst mo_crumbsFirst mo_lastDay a_mo_kinds a_mo_days a_mo_rideDays a_mo_helpKinds a_mo_nexts a_mo_helperKinds a_mo_prices a_mo_helpersOfKind a_mo_numbers a_mo_kinds mo_kinds a_mo_days mo_days a_mo_rideDays mo_rideDays a_mo_helpKinds mo_helpKinds a_mo_nexts mo_nexts a_mo_helperKinds mo_helperKinds a_mo_prices mo_prices a_mo_helpersOfKind mo_helpersOfKind a_mo_numbers mo_numbers a_fr fr_asked fr_brought fr_friends fr_used fr_crumbs fr_day) s.heap [] := ⟨hP, hD, va_S.rf⟩
  have hw0 := hw
  refine lv_bipush (v := (-4)) hx hb dX2_fewestSet_0 (by decide) ?_
  refine lv_istore_n (lv' := [(3, .int (-4 : Int32)), (0, .ref a_sr), (1, .ref a_mo), (2, .ref a_fr)]) hx hb dX2_fewestSet_2 rfl hl (by decide) rfl (fun ls hl => ?_)
  refine lv_aload_n hx hb dX2_fewestSet_3 rfl (lv_at hl 3 rfl) ?_
  refine f_get S hK hw.1 in_X2_fewestSet_X4 15 rfl rfl 4 (by decide) (List.mem_of_getElem? (i := 1) rfl) rfl rfl dX2_fewestSet_4 ?_
  refine lv_iconst (v := 1) hx hb dX2_fewestSet_7 (by decide) ?_
  refine lv_iadd hx hb dX2_fewestSet_8 ?_
  refine lv_istore (lv' := [(4, .int (fr_crumbs + (1 : Int32))), (3, .int (-4 : Int32)), (0, .ref a_sr), (1, .ref a_mo), (2, .ref a_fr)]) hx hb dX2_fewestSet_9 hl (by decide) rfl (fun ls hl => ?_)
  refine lv_aload_n hx hb dX2_fewestSet_11 rfl (lv_at hl 3 rfl) ?_
  refine f_get S hK hw.1 in_X2_fewestSet_X0 5 rfl rfl 1 (by decide) (List.mem_of_getElem? (i := 2) rfl) rfl rfl dX2_fewestSet_12 ?_
  obtain ⟨r1, h2, hm⟩ := ob hm
  refine k_rNi S hK hw.1 cal_X5_bit gX2_fewestSet_X5_bit_n60 (List.mem_of_getElem? (i := 7) rfl) (List.mem_of_getElem? (i := 5) rfl) (List.mem_of_getElem? (i := 4) rfl) (c_X5_bit l D cC cI cJ mo_helpers r1 h2) ⟨⟨rfl, rfl⟩, Nat.le_of_ble_eq_true rfl, Nat.le_of_ble_eq_true rfl⟩ [] rfl rfl hl.1 rfl (Nat.le_of_ble_eq_true rfl) dX2_fewestSet_15 ⟨Nat.zero_le _, Nat.zero_le _⟩ ?_
  refine lv_iconst (v := 1) hx hb dX2_fewestSet_18 (by decide) ?_
  refine lv_isub hx hb dX2_fewestSet_19 ?_
  refine lv_aload_n hx hb dX2_fewestSet_20 rfl (lv_at hl 4 rfl) ?_
  refine f_get S hK hw.1 in_X2_fewestSet_X4 15 rfl rfl 2 (by decide) (List.mem_of_getElem? (i := 3) rfl) rfl rfl dX2_fewestSet_21 ?_
  refine lv_iconst (v := (-1)) hx hb dX2_fewestSet_24 (by decide) ?_
  refine lv_ixor hx hb dX2_fewestSet_25 ?_
  refine lv_iand hx hb dX2_fewestSet_26 ?_
  obtain ⟨y3, e4, hm⟩ := ob hm
  refine f_name e4 ?_
  refine lv_istore (lv' := [(5, .int y3), (4, .int (fr_crumbs + (1 : Int32))), (3, .int (-4 : Int32)), (0, .ref a_sr), (1, .ref a_mo), (2, .ref a_fr)]) hx hb dX2_fewestSet_27 hl (by decide) rfl (fun ls hl => ?_)
  refine lv_aload_n hx hb dX2_fewestSet_29 rfl (lv_at hl 3 rfl) ?_
  refine lv_aload_n hx hb dX2_fewestSet_30 rfl (lv_at hl 4 rfl) ?_
  refine lv_aload_n hx hb dX2_fewestSet_31 rfl (lv_at hl 5 rfl) ?_
  refine lv_iload hx hb dX2_fewestSet_32 (lv_at hl 0 rfl) ?_
  obtain ⟨r5, h6, hm⟩ := ob hm
  refine k_wVi S hK hw cal_X2_endsWellWith gX2_fewestSet_X2_endsWellWith (c_X2_endsWellWith l D cC cI cJ a_sr a_sr_known a_ro a_us g_sr_months g_sr_heeded a_us_left a_mo a_mo_kinds a_mo_days a_mo_rideDays a_mo_helpKinds a_mo_nexts a_mo_helperKinds a_mo_prices a_mo_helpersOfKind a_mo_numbers a_fr sr_number sr_enough sr_tooLong sr_known ro_asked ro_brought ro_friends ro_used ro_crumbs ro_day us_size us_lastPlace us_left mo_tasks mo_helpers mo_askedFirst mo_crumbsFirst mo_lastDay mo_kinds mo_days mo_rideDays mo_helpKinds mo_nexts mo_helperKinds mo_prices mo_helpersOfKind mo_numbers fr_asked fr_brought fr_friends fr_used fr_crumbs fr_day y3 N (aw _) (hw.own [0, 1, 2, 3, 4, 5, 6, 7, 8, 9, 10, 11, 12, 13, 14, 15] (by decide) rfl) r5 h6) ⟨⟨rfl, rfl⟩, Nat.le_of_ble_eq_true rfl, Nat.le_of_ble_eq_true rfl⟩ [0, 1, 2, 3, 4, 5, 6, 7, 8, 9, 10, 11, 12, 13, 14, 15] rfl 0 rfl rfl rfl hl.1 rfl (Nat.le_of_ble_eq_true rfl) dX2_fewestSet_34 ⟨Nat.zero_le _, Nat.zero_le _⟩ (fun H locs hJ hB => ?_)
  have hw := hJ _ hB rfl
  replace hw : Wd D A _ (wd_9 cC cI cJ a_sr a_sr_known a_ro a_us r5.2.1 r5.2.2.1 r5.2.2.2.1 a_mo a_us a_sr_known r5.2.2.2.2.1 a_ro r5.2.2.2.2.2.1 r5.2.2.2.2.2.2.1 r5.2.2.2.2.2.2.2.1 r5.2.2.2.2.2.2.2.2.1 r5.2.2.2.2.2.2.2.2.2.1 r5.2.2.2.2.2.2.2.2.2.2 a_us us_size us_lastPlace a_us_left a_us_left us_left a_mo mo_tasks mo_helpers mo_askedFirst mo_crumbsFirst mo_lastDay a_mo_kinds a_mo_days a_mo_rideDays a_mo_helpKinds a_mo_nexts a_mo_helperKinds a_mo_prices a_mo_helpersOfKind a_mo_numbers a_mo_kinds mo_kinds a_mo_days mo_days a_mo_rideDays mo_rideDays a_mo_helpKinds mo_helpKinds a_mo_nexts mo_nexts a_mo_helperKinds mo_helperKinds a_mo_prices mo_prices a_mo_helpersOfKind mo_helpersOfKind a_mo_numbers mo_numbers a_fr fr_asked fr_brought fr_friends fr_used fr_crumbs fr_day) H locs := hw
  refine lv_if_ne (tgt := 43) hx hb dX2_fewestSet_37 (by decide) (fun c7 => ?_) (fun c7 => ?_)
  · replace hm := ineg hm c7
    refine lv_iconst (v := 0) hx hb dX2_fewestSet_43 (by decide) ?_
    refine lv_istore (lv' := [(6, .int (0 : Int32)), (5, .int y3), (4, .int (fr_crumbs + (1 : Int32))), (3, .int (-4 : Int32)), (0, .ref a_sr), (1, .ref a_mo), (2, .ref a_fr)]) hx hb dX2_fewestSet_44 hl (by decide) rfl (fun ls hl => ?_)
    obtain ⟨r16, h17, hm⟩ := ob hm
    refine t_X2_fewestSet_46 l S hK a_sr a_sr_known a_ro a_us g_sr_months g_sr_heeded a_us_left a_mo a_mo_kinds a_mo_days a_mo_rideDays a_mo_helpKinds a_mo_nexts a_mo_helperKinds a_mo_prices a_mo_helpersOfKind a_mo_numbers a_fr N y3 us_size us_lastPlace us_left mo_tasks mo_helpers mo_askedFirst mo_crumbsFirst mo_lastDay mo_kinds mo_days mo_rideDays mo_helpKinds mo_nexts mo_helperKinds mo_prices mo_helpersOfKind mo_numbers fr_asked fr_brought fr_friends fr_used fr_crumbs fr_day N (-4 : Int32) (fr_crumbs + (1 : Int32)) (0 : Int32) r5.2.1 r5.2.2.1 r5.2.2.2.1 r5.2.2.2.2.1 r5.2.2.2.2.2.1 r5.2.2.2.2.2.2.1 r5.2.2.2.2.2.2.2.1 r5.2.2.2.2.2.2.2.2.1 r5.2.2.2.2.2.2.2.2.2.1 r5.2.2.2.2.2.2.2.2.2.2 r16 h17  _ _ ls hw (lv_sub hl [4, 5, 6, 3, 2, 1, 0] rfl) (fun H locs ls hw hl => ?_)
    refine lv_iload_n hx hb dX2_fewestSet_103 rfl (lv_at hl 0 rfl) ?_
    obtain rfl := Option.some.inj hm
    exact e_WI S hr hlk hw rfl hw.1 dX2_fewestSet_104
  · replace hm := ipos hm c7
    refine lv_bipush (v := (-4)) hx hb dX2_fewestSet_40 (by decide) ?_
    obtain rfl := Option.some.inj hm
    exact e_WI S hr hlk hw rfl hw.1 dX2_fewestSet_42
