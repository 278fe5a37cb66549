/-! walks: X5_task X5_undo X5_well X5_wipe X5_worth X5_write X6_back X6_in X6_isHelper X6_canBefriend -/
abbrev rX5_task : Room := { frames := 2, cells := 0, slots := 0, locals := 48 }
theorem cal_X5_task : Cal yX5_task wsX5_task cX5_task 3 (some .int) RX5 2 := ⟨⟨_, rfl⟩, rfl, by decide +kernel, by decide +kernel, by decide +kernel⟩
theorem in_X5_task_X4 : ∀ w ∈ wsX40, w ∈ wsX5_task := fun _ h => (List.mem_cons_of_mem _ (List.mem_append_left _ (List.mem_append_right _ h)))
theorem in_X5_task_X5 : ∀ w ∈ wsX50, w ∈ wsX5_task := fun _ h => (List.mem_cons_of_mem _ (List.mem_append_left _ (List.mem_append_left _ (List.mem_append_right _ h))))
set_option maxHeartbeats 4000000 in
set_option maxRecDepth 100000 in
theorem c_X5_task (l : Launch) (D : va_G) (cC cI cJ : ClassId) (a_x : Nat) (g_x_text : Nat) (a_mo : Nat) (g_x_spare : Nat) (a_no : Nat) (g_x_trial : Nat) (g_x_undoable : Nat) (g_x_kept : Nat) (g_x_seen : Nat) (g_x_unseen : Nat) (g_x_search : Nat) (a_mo_kinds : Nat) (a_mo_days : Nat) (a_mo_rideDays : Nat) (a_mo_helpKinds : Nat) (a_mo_nexts : Nat) (a_mo_helperKinds : Nat) (a_mo_prices : Nat) (a_mo_helpersOfKind : Nat) (a_mo_numbers : Nat) (x_letters : Int32) (mo_tasks : Int32) (mo_helpers : Int32) (mo_askedFirst : Int32) (mo_crumbsFirst : Int32) (mo_lastDay : Int32) (mo_kinds : (Nat → Int32)) (mo_days : (Nat → Int32)) (mo_rideDays : (Nat → Int32)) (mo_helpKinds : (Nat → Int32)) (mo_nexts : (Nat → Int32)) (mo_helperKinds : (Nat → Int32)) (mo_prices : (Nat → Int32)) (mo_helpersOfKind : (Nat → Int32)) (mo_numbers : (Nat → Int32)) (no_asked : Int32) (no_brought : Int32) (no_friends : Int32) (no_used : Int32) (no_crumbs : Int32) (no_day : Int32) (p0 : Int32) (p1 : Int32) (out : Int32) (hm : m_X5_task mo_tasks mo_lastDay mo_kinds mo_days mo_helpKinds mo_nexts mo_helpersOfKind no_asked no_brought no_friends no_used no_day p0 p1 = some out) : RdI l yX5_task wsX5_task rX5_task D (tyK cC cI cJ) [.ref a_x, .int p0, .int p1] (wd_19 cC cI cJ a_x g_x_text x_letters a_mo g_x_spare a_no g_x_trial g_x_undoable g_x_kept g_x_seen g_x_unseen g_x_search a_mo mo_tasks mo_helpers mo_askedFirst mo_crumbsFirst mo_lastDay a_mo_kinds a_mo_days a_mo_rideDays a_mo_helpKinds a_mo_nexts a_mo_helperKinds a_mo_prices a_mo_helpersOfKind a_mo_numbers a_mo_kinds mo_kinds a_mo_days mo_days a_mo_rideDays mo_rideDays a_mo_helpKinds mo_helpKinds a_mo_nexts mo_nexts a_mo_helperKinds mo_helperKinds a_mo_prices mo_prices a_mo_helpersOfKind mo_helpersOfKind a_mo_numbers mo_numbers a_no no_asked no_brought no_friends no_used no_crumbs no_day) out := by
  unfold m_X5_task at hm
  refine enter (cc := cX5_task) (maxL := 3) (ret := (some .int)) (lv := [(0, .ref a_x), (1, .int p0), (2, .int p1)]) (by decide) rfl (Nat.le_of_ble_eq_true rfl) rfl ?_
  intro p e s m args below meth c S hr hlk hK hP ls hl
  replace S : CallFix p m c cX5_task 3 s args wsX5_task RX5 := S
  have hx := S.1
  have hb := S.2.1
  refine lv_aload_n hx hb dX5_task_0 rfl (lv_at hl 0 rfl) ?_
  refine f_get S hK hP in_X5_task_X5 0 rfl rfl 2 (by decide) (List.mem_of_getElem? (i := 1) rfl) rfl rfl dX5_task_1 ?_
  refine lv_iload_n hx hb dX5_task_4 rfl (lv_at hl 1 rfl) ?_
  obtain ⟨r1, h2, hm⟩ := ob hm
  refine k_rVi S hK hP cal_X0_hasTask gX5_task_X0_hasTask (c_X0_hasTask l D cC cI cJ a_mo a_mo_kinds a_mo_days a_mo_rideDays a_mo_helpKinds a_mo_nexts a_mo_helperKinds a_mo_prices a_mo_helpersOfKind a_mo_numbers mo_tasks mo_helpers mo_askedFirst mo_crumbsFirst mo_lastDay mo_kinds mo_days mo_rideDays mo_helpKinds mo_nexts mo_helperKinds mo_prices mo_helpersOfKind mo_numbers p0 r1 h2) ⟨⟨rfl, rfl⟩, Nat.le_of_ble_eq_true rfl, Nat.le_of_ble_eq_true rfl⟩ [1, 2, 3, 4, 5, 6, 7, 8, 9, 10] rfl 1 rfl rfl rfl hl.1 rfl (Nat.le_of_ble_eq_true rfl) dX5_task_5 ⟨Nat.zero_le _, Nat.zero_le _⟩ ?_
  refine lv_if_ne (tgt := 13) hx hb dX5_task_8 (by decide) (fun c3 => ?_) (fun c3 => ?_)
  · replace hm := ineg hm c3
    refine lv_iload_n hx hb dX5_task_13 rfl (lv_at hl 2 rfl) ?_
    by_cases c4 : p1 = (0 : Int32)
    · replace hm := ipos hm c4
      refine f_tabIn S c4 dX5_task_14 (off := 42) (by decide) (by decide) (by decide) (tgt := 56) (by decide) ?_
      refine lv_aload_n hx hb dX5_task_56 rfl (lv_at hl 0 rfl) ?_
      refine f_get S hK hP in_X5_task_X5 0 rfl rfl 2 (by decide) (List.mem_of_getElem? (i := 1) rfl) rfl rfl dX5_task_57 ?_
      refine lv_iload_n hx hb dX5_task_60 rfl (lv_at hl 1 rfl) ?_
      obtain ⟨r5, h6, hm⟩ := ob hm
      refine k_rVi S hK hP cal_X0_kindOf gX5_task_X0_kindOf (c_X0_kindOf l D cC cI cJ a_mo a_mo_kinds a_mo_days a_mo_rideDays a_mo_helpKinds a_mo_nexts a_mo_helperKinds a_mo_prices a_mo_helpersOfKind a_mo_numbers mo_tasks mo_helpers mo_askedFirst mo_crumbsFirst mo_lastDay mo_kinds mo_days mo_rideDays mo_helpKinds mo_nexts mo_helperKinds mo_prices mo_helpersOfKind mo_numbers p0 r5 h6) ⟨⟨rfl, rfl⟩, Nat.le_of_ble_eq_true rfl, Nat.le_of_ble_eq_true rfl⟩ [1, 2, 3, 4, 5, 6, 7, 8, 9, 10] rfl 1 rfl rfl rfl hl.1 rfl (Nat.le_of_ble_eq_true rfl) dX5_task_61 ⟨Nat.zero_le _, Nat.zero_le _⟩ ?_
      exact e_RI S hr hlk (Option.some.inj hm) dX5_task_64
    replace hm := ineg hm c4
    by_cases c7 : p1 = (1 : Int32)
    · replace hm := ipos hm c7
      refine f_tabIn S c7 dX5_task_14 (off := 51) (by decide) (by decide) (by decide) (tgt := 65) (by decide) ?_
      refine lv_aload_n hx hb dX5_task_65 rfl (lv_at hl 0 rfl) ?_
      refine f_get S hK hP in_X5_task_X5 0 rfl rfl 2 (by decide) (List.mem_of_getElem? (i := 1) rfl) rfl rfl dX5_task_66 ?_
      refine lv_iload_n hx hb dX5_task_69 rfl (lv_at hl 1 rfl) ?_
      obtain ⟨r8, h9, hm⟩ := ob hm
      refine k_rVi S hK hP cal_X0_daysOf gX5_task_X0_daysOf (c_X0_daysOf l D cC cI cJ a_mo a_mo_kinds a_mo_days a_mo_rideDays a_mo_helpKinds a_mo_nexts a_mo_helperKinds a_mo_prices a_mo_helpersOfKind a_mo_numbers mo_tasks mo_helpers mo_askedFirst mo_crumbsFirst mo_lastDay mo_kinds mo_days mo_rideDays mo_helpKinds mo_nexts mo_helperKinds mo_prices mo_helpersOfKind mo_numbers p0 r8 h9) ⟨⟨rfl, rfl⟩, Nat.le_of_ble_eq_true rfl, Nat.le_of_ble_eq_true rfl⟩ [1, 2, 3, 4, 5, 6, 7, 8, 9, 10] rfl 1 rfl rfl rfl hl.1 rfl (Nat.le_of_ble_eq_true rfl) dX5_task_70 ⟨Nat.zero_le _, Nat.zero_le _⟩ ?_
      exact e_RI S hr hlk (Option.some.inj hm) dX5_task_73
    replace hm := ineg hm c7
    by_cases c10 : p1 = (2 : Int32)
    · replace hm := ipos hm c10
      refine f_tabIn S c10 dX5_task_14 (off := 60) (by decide) (by decide) (by decide) (tgt := 74) (by decide) ?_
      refine lv_aload_n hx hb dX5_task_74 rfl (lv_at hl 0 rfl) ?_
      refine f_get S hK hP in_X5_task_X5 0 rfl rfl 2 (by decide) (List.mem_of_getElem? (i := 1) rfl) rfl rfl dX5_task_75 ?_
      refine lv_iload_n hx hb dX5_task_78 rfl (lv_at hl 1 rfl) ?_
      obtain ⟨r11, h12, hm⟩ := ob hm
      refine k_rVi S hK hP cal_X0_helpKindOf gX5_task_X0_helpKindOf (c_X0_helpKindOf l D cC cI cJ a_mo a_mo_kinds a_mo_days a_mo_rideDays a_mo_helpKinds a_mo_nexts a_mo_helperKinds a_mo_prices a_mo_helpersOfKind a_mo_numbers mo_tasks mo_helpers mo_askedFirst mo_crumbsFirst mo_lastDay mo_kinds mo_days mo_rideDays mo_helpKinds mo_nexts mo_helperKinds mo_prices mo_helpersOfKind mo_numbers p0 r11 h12) ⟨⟨rfl, rfl⟩, Nat.le_of_ble_eq_true rfl, Nat.le_of_ble_eq_true rfl⟩ [1, 2, 3, 4, 5, 6, 7, 8, 9, 10] rfl 1 rfl rfl rfl hl.1 rfl (Nat.le_of_ble_eq_true rfl) dX5_task_79 ⟨Nat.zero_le _, Nat.zero_le _⟩ ?_
      exact e_RI S hr hlk (Option.some.inj hm) dX5_task_82
    replace hm := ineg hm c10
    by_cases c13 : p1 = (3 : Int32)
    · replace hm := ipos hm c13
      refine f_tabIn S c13 dX5_task_14 (off := 69) (by decide) (by decide) (by decide) (tgt := 83) (by decide) ?_
      refine lv_aload_n hx hb dX5_task_83 rfl (lv_at hl 0 rfl) ?_
      refine f_get S hK hP in_X5_task_X5 0 rfl rfl 2 (by decide) (List.mem_of_getElem? (i := 1) rfl) rfl rfl dX5_task_84 ?_
      refine lv_iload_n hx hb dX5_task_87 rfl (lv_at hl 1 rfl) ?_
      obtain ⟨r14, h15, hm⟩ := ob hm
      refine k_rVi S hK hP cal_X0_nextOf gX5_task_X0_nextOf (c_X0_nextOf l D cC cI cJ a_mo a_mo_kinds a_mo_days a_mo_rideDays a_mo_helpKinds a_mo_nexts a_mo_helperKinds a_mo_prices a_mo_helpersOfKind a_mo_numbers mo_tasks mo_helpers mo_askedFirst mo_crumbsFirst mo_lastDay mo_kinds mo_days mo_rideDays mo_helpKinds mo_nexts mo_helperKinds mo_prices mo_helpersOfKind mo_numbers p0 r14 h15) ⟨⟨rfl, rfl⟩, Nat.le_of_ble_eq_true rfl, Nat.le_of_ble_eq_true rfl⟩ [1, 2, 3, 4, 5, 6, 7, 8, 9, 10] rfl 1 rfl rfl rfl hl.1 rfl (Nat.le_of_ble_eq_true rfl) dX5_task_88 ⟨Nat.zero_le _, Nat.zero_le _⟩ ?_
      exact e_RI S hr hlk (Option.some.inj hm) dX5_task_91
    replace hm := ineg hm c13
    by_cases c16 : p1 = (4 : Int32)
    · replace hm := ipos hm c16
      refine f_tabIn S c16 dX5_task_14 (off := 78) (by decide) (by decide) (by decide) (tgt := 92) (by decide) ?_
      refine lv_aload_n hx hb dX5_task_92 rfl (lv_at hl 0 rfl) ?_
      refine f_get S hK hP in_X5_task_X5 0 rfl rfl 4 (by decide) (List.mem_of_getElem? (i := 2) rfl) rfl rfl dX5_task_93 ?_
      refine f_get S hK hP in_X5_task_X4 11 rfl rfl 0 (by decide) (List.mem_of_getElem? (i := 3) rfl) rfl rfl dX5_task_96 ?_
      refine lv_iload_n hx hb dX5_task_99 rfl (lv_at hl 1 rfl) ?_
      obtain ⟨r17, h18, hm⟩ := ob hm
      refine k_rSi S hK hP cal_X5_bit gX5_task_X5_bit (c_X5_bit l D cC cI cJ p0 r17 h18) ⟨⟨rfl, rfl⟩, Nat.le_of_ble_eq_true rfl, Nat.le_of_ble_eq_true rfl⟩ [] rfl rfl hl.1 rfl (Nat.le_of_ble_eq_true rfl) dX5_task_100 ⟨Nat.zero_le _, Nat.zero_le _⟩ ?_
      refine lv_iand hx hb dX5_task_103 ?_
      refine lv_if_eq (tgt := 111) hx hb dX5_task_104 (by decide) (fun c19 => ?_) (fun c19 => ?_)
      · replace hm := ipos hm c19
        refine lv_iconst (v := 0) hx hb dX5_task_111 (by decide) ?_
        obtain ⟨r20, h21, hm⟩ := ob hm
        refine k_rSi S hK hP cal_X5_oneIf gX5_task_X5_oneIf (c_X5_oneIf l D cC cI cJ (0 : Int32) r20 h21) ⟨⟨rfl, rfl⟩, Nat.le_of_ble_eq_true rfl, Nat.le_of_ble_eq_true rfl⟩ [] rfl rfl hl.1 rfl (Nat.le_of_ble_eq_true rfl) dX5_task_112 ⟨Nat.zero_le _, Nat.zero_le _⟩ ?_
        exact e_RI S hr hlk (Option.some.inj hm) dX5_task_115
      · replace hm := ineg hm c19
        refine lv_iconst (v := 1) hx hb dX5_task_107 (by decide) ?_
        refine lv_goto (tgt := 112) hx hb dX5_task_108 (by decide) ?_
        obtain ⟨r22, h23, hm⟩ := ob hm
        refine k_rSi S hK hP cal_X5_oneIf gX5_task_X5_oneIf (c_X5_oneIf l D cC cI cJ (1 : Int32) r22 h23) ⟨⟨rfl, rfl⟩, Nat.le_of_ble_eq_true rfl, Nat.le_of_ble_eq_true rfl⟩ [] rfl rfl hl.1 rfl (Nat.le_of_ble_eq_true rfl) dX5_task_112 ⟨Nat.zero_le _, Nat.zero_le _⟩ ?_
        exact e_RI S hr hlk (Option.some.inj hm) dX5_task_115
    replace hm := ineg hm c16
    by_cases c24 : p1 = (5 : Int32)
    · replace hm := ipos hm c24
      refine f_tabIn S c24 dX5_task_14 (off := 102) (by decide) (by decide) (by decide) (tgt := 116) (by decide) ?_
      refine lv_aload_n hx hb dX5_task_116 rfl (lv_at hl 0 rfl) ?_
      refine f_get S hK hP in_X5_task_X5 0 rfl rfl 4 (by decide) (List.mem_of_getElem? (i := 2) rfl) rfl rfl dX5_task_117 ?_
      refine f_get S hK hP in_X5_task_X4 11 rfl rfl 1 (by decide) (List.mem_of_getElem? (i := 4) rfl) rfl rfl dX5_task_120 ?_
      refine lv_iload_n hx hb dX5_task_123 rfl (lv_at hl 1 rfl) ?_
      obtain ⟨r25, h26, hm⟩ := ob hm
      refine k_rSi S hK hP cal_X5_bit gX5_task_X5_bit (c_X5_bit l D cC cI cJ p0 r25 h26) ⟨⟨rfl, rfl⟩, Nat.le_of_ble_eq_true rfl, Nat.le_of_ble_eq_true rfl⟩ [] rfl rfl hl.1 rfl (Nat.le_of_ble_eq_true rfl) dX5_task_124 ⟨Nat.zero_le _, Nat.zero_le _⟩ ?_
      refine lv_iand hx hb dX5_task_127 ?_
      refine lv_if_eq (tgt := 135) hx hb dX5_task_128 (by decide) (fun c27 => ?_) (fun c27 => ?_)
      · replace hm := ipos hm c27
        refine lv_iconst (v := 0) hx hb dX5_task_135 (by decide) ?_
        obtain ⟨r28, h29, hm⟩ := ob hm
        refine k_rSi S hK hP cal_X5_oneIf gX5_task_X5_oneIf (c_X5_oneIf l D cC cI cJ (0 : Int32) r28 h29) ⟨⟨rfl, rfl⟩, Nat.le_of_ble_eq_true rfl, Nat.le_of_ble_eq_true rfl⟩ [] rfl rfl hl.1 rfl (Nat.le_of_ble_eq_true rfl) dX5_task_136 ⟨Nat.zero_le _, Nat.zero_le _⟩ ?_
        exact e_RI S hr hlk (Option.some.inj hm) dX5_task_139
      · replace hm := ineg hm c27
        refine lv_iconst (v := 1) hx hb dX5_task_131 (by decide) ?_
        refine lv_goto (tgt := 136) hx hb dX5_task_132 (by decide) ?_
        obtain ⟨r30, h31, hm⟩ := ob hm
        refine k_rSi S hK hP cal_X5_oneIf gX5_task_X5_oneIf (c_X5_oneIf l D cC cI cJ (1 : Int32) r30 h31) ⟨⟨rfl, rfl⟩, Nat.le_of_ble_eq_true rfl, Nat.le_of_ble_eq_true rfl⟩ [] rfl rfl hl.1 rfl (Nat.le_of_ble_eq_true rfl) dX5_task_136 ⟨Nat.zero_le _, Nat.zero_le _⟩ ?_
        exact e_RI S hr hlk (Option.some.inj hm) dX5_task_139
    replace hm := ineg hm c24
    by_cases c32 : p1 = (6 : Int32)
    · replace hm := ipos hm c32
      refine f_tabIn S c32 dX5_task_14 (off := 126) (by decide) (by decide) (by decide) (tgt := 140) (by decide) ?_
      refine lv_aload_n hx hb dX5_task_140 rfl (lv_at hl 0 rfl) ?_
      refine f_get S hK hP in_X5_task_X5 0 rfl rfl 4 (by decide) (List.mem_of_getElem? (i := 2) rfl) rfl rfl dX5_task_141 ?_
      refine lv_aload_n hx hb dX5_task_144 rfl (lv_at hl 0 rfl) ?_
      refine f_get S hK hP in_X5_task_X5 0 rfl rfl 2 (by decide) (List.mem_of_getElem? (i := 1) rfl) rfl rfl dX5_task_145 ?_
      refine lv_iload_n hx hb dX5_task_148 rfl (lv_at hl 1 rfl) ?_
      obtain ⟨r33, h34, hm⟩ := ob hm
      refine k_rVi S hK hP cal_X4_helpersFor gX5_task_X4_helpersFor (c_X4_helpersFor l D cC cI cJ a_no a_mo a_mo_kinds a_mo_days a_mo_rideDays a_mo_helpKinds a_mo_nexts a_mo_helperKinds a_mo_prices a_mo_helpersOfKind a_mo_numbers no_asked no_brought no_friends no_used no_crumbs no_day mo_tasks mo_helpers mo_askedFirst mo_crumbsFirst mo_lastDay mo_kinds mo_days mo_rideDays mo_helpKinds mo_nexts mo_helperKinds mo_prices mo_helpersOfKind mo_numbers p0 r33 h34) ⟨⟨rfl, rfl⟩, Nat.le_of_ble_eq_true rfl, Nat.le_of_ble_eq_true rfl⟩ [11, 1, 2, 3, 4, 5, 6, 7, 8, 9, 10] rfl 11 rfl rfl rfl hl.1 rfl (Nat.le_of_ble_eq_true rfl) dX5_task_149 ⟨Nat.zero_le _, Nat.zero_le _⟩ ?_
      refine lv_if_lt (tgt := 159) hx hb dX5_task_152 (by decide) (fun c35 => ?_) (fun c35 => ?_)
      · replace hm := ipos hm c35
        refine lv_iconst (v := 0) hx hb dX5_task_159 (by decide) ?_
        obtain ⟨r36, h37, hm⟩ := ob hm
        refine k_rSi S hK hP cal_X5_oneIf gX5_task_X5_oneIf (c_X5_oneIf l D cC cI cJ (0 : Int32) r36 h37) ⟨⟨rfl, rfl⟩, Nat.le_of_ble_eq_true rfl, Nat.le_of_ble_eq_true rfl⟩ [] rfl rfl hl.1 rfl (Nat.le_of_ble_eq_true rfl) dX5_task_160 ⟨Nat.zero_le _, Nat.zero_le _⟩ ?_
        exact e_RI S hr hlk (Option.some.inj hm) dX5_task_163
      · replace hm := ineg hm c35
        refine lv_iconst (v := 1) hx hb dX5_task_155 (by decide) ?_
        refine lv_goto (tgt := 160) hx hb dX5_task_156 (by decide) ?_
        obtain ⟨r38, h39, hm⟩ := ob hm
        refine k_rSi S hK hP cal_X5_oneIf gX5_task_X5_oneIf (c_X5_oneIf l D cC cI cJ (1 : Int32) r38 h39) ⟨⟨rfl, rfl⟩, Nat.le_of_ble_eq_true rfl, Nat.le_of_ble_eq_true rfl⟩ [] rfl rfl hl.1 rfl (Nat.le_of_ble_eq_true rfl) dX5_task_160 ⟨Nat.zero_le _, Nat.zero_le _⟩ ?_
        exact e_RI S hr hlk (Option.some.inj hm) dX5_task_163
    replace hm := ineg hm c32
    have nc4 := toInt_ne c4 (n := 0) (by decide)
    have nc7 := toInt_ne c7 (n := 1) (by decide)
    have nc10 := toInt_ne c10 (n := 2) (by decide)
    have nc13 := toInt_ne c13 (n := 3) (by decide)
    have nc16 := toInt_ne c16 (n := 4) (by decide)
    have nc24 := toInt_ne c24 (n := 5) (by decide)
    have nc32 := toInt_ne c32 (n := 6) (by decide)
    refine f_tabOut S dX5_task_14 (by omega) (tgt := 164) (by decide) ?_
    refine lv_iconst (v := (-1)) hx hb dX5_task_164 (by decide) ?_
    exact e_RI S hr hlk (Option.some.inj hm) dX5_task_165
  · replace hm := ipos hm c3
    refine lv_iconst (v := (-1)) hx hb dX5_task_11 (by decide) ?_
    exact e_RI S hr hlk (Option.some.inj hm) dX5_task_12

abbrev rX5_undo : Room := { frames := 1, cells := 0, slots := 0, locals := 22 }
theorem cal_X5_undo : Cal yX5_undo wsX5_undo cX5_undo 1 (some .int) RX5 0 := ⟨⟨_, rfl⟩, rfl, by decide +kernel, by decide +kernel, by decide +kernel⟩
theorem in_X5_undo_X1 : ∀ w ∈ wsX10, w ∈ wsX5_undo := fun _ h => (List.mem_cons_of_mem _ (List.mem_append_left _ (List.mem_append_right _ h)))
theorem in_X5_undo_X5 : ∀ w ∈ wsX50, w ∈ wsX5_undo := fun _ h => (List.mem_cons_of_mem _ (List.mem_append_left _ (List.mem_append_left _ (List.mem_append_right _ h))))
set_option maxHeartbeats 4000000 in
set_option maxRecDepth 100000 in
theorem c_X5_undo (l : Launch) (D : va_G) (cC cI cJ : ClassId) (a_x : Nat) (g_x_text : Nat) (g_x_months : Nat) (g_x_spare : Nat) (a_no : Nat) (g_x_trial : Nat) (a_un : Nat) (g_x_kept : Nat) (g_x_seen : Nat) (g_x_unseen : Nat) (g_x_search : Nat) (a_un_held : Nat) (x_letters : Int32) (no_asked : Int32) (no_brought : Int32) (no_friends : Int32) (no_used : Int32) (no_crumbs : Int32) (no_day : Int32) (un_size : Int32) (un_held : (Nat → Int64)) (A : Nat → Prop) (hD : va_D A (wd_25 cC cI cJ a_x g_x_text x_letters g_x_months g_x_spare a_no g_x_trial a_un g_x_kept g_x_seen g_x_unseen g_x_search a_no no_asked no_brought no_friends no_used no_crumbs no_day a_un un_size a_un_held a_un_held un_held)) (out : (Int32 × Int32 × Int32 × Int32 × Int32 × Int32 × Int32 × Int32)) (hm : m_X5_undo no_asked no_brought no_friends no_used no_crumbs no_day un_size un_held = some out) : WrI l yX5_undo wsX5_undo rX5_undo D (tyK cC cI cJ) [.ref a_x] A (wd_25 cC cI cJ a_x g_x_text x_letters g_x_months g_x_spare a_no g_x_trial a_un g_x_kept g_x_seen g_x_unseen g_x_search a_no no_asked no_brought no_friends no_used no_crumbs no_day a_un un_size a_un_held a_un_held un_held) (Bw0 D (wd_25 cC cI cJ a_x g_x_text x_letters g_x_months g_x_spare a_no g_x_trial a_un g_x_kept g_x_seen g_x_unseen g_x_search a_no out.2.1 out.2.2.1 out.2.2.2.1 out.2.2.2.2.1 out.2.2.2.2.2.1 out.2.2.2.2.2.2.1 a_un out.2.2.2.2.2.2.2 a_un_held a_un_held un_held)) out.1 := by
  unfold m_X5_undo at hm
  refine enter (cc := cX5_undo) (maxL := 1) (ret := (some .int)) (lv := [(0, .ref a_x)]) (by decide) rfl (Nat.le_of_ble_eq_true rfl) rfl ?_
  intro p e s m args below meth c S hr hlk hK hP ls hl
  replace S : CallFix p m c cX5_undo 1 s args wsX5_undo RX5 := S
  have hx := S.1
  have hb := S.2.1
  have hw : Wd D A s.heap (wd_25 cC cI cJ a_x g_x_text x_letters g_x_months g_x_spare a_no g_x_trial a_un g_x_kept g_x_seen g_x_unseen g_x_search a_no no_asked no_brought no_friends no_used no_crumbs no_day a_un un_size a_un_held a_un_held un_held) s.heap [] := ⟨hP, hD, va_S.rf⟩
  have hw0 := hw
  refine lv_aload_n hx hb dX5_undo_0 rfl (lv_at hl 0 rfl) ?_
  refine f_get S hK hw.1 in_X5_undo_X5 0 rfl rfl 6 (by decide) (List.mem_of_getElem? (i := 1) rfl) rfl rfl dX5_undo_1 ?_
  refine f_get S hK hw.1 in_X5_undo_X1 2 rfl rfl 0 (by decide) (List.mem_of_getElem? (i := 2) rfl) rfl rfl dX5_undo_4 ?_
  refine lv_iconst (v := 1) hx hb dX5_undo_7 (by decide) ?_
  refine lv_icmp_ge (tgt := 14) hx hb dX5_undo_8 (by decide) (fun c1 => ?_) (fun c1 => ?_)
  · replace hm := ipos hm c1
    refine lv_aload_n hx hb dX5_undo_14 rfl (lv_at hl 0 rfl) ?_
    refine f_get S hK hw.1 in_X5_undo_X5 0 rfl rfl 4 (by decide) (List.mem_of_getElem? (i := 3) rfl) rfl rfl dX5_undo_15 ?_
    refine lv_aload_n hx hb dX5_undo_18 rfl (lv_at hl 0 rfl) ?_
    refine f_get S hK hw.1 in_X5_undo_X5 0 rfl rfl 6 (by decide) (List.mem_of_getElem? (i := 1) rfl) rfl rfl dX5_undo_19 ?_
    obtain ⟨r2, h3, hm⟩ := ob hm
    refine k_wVl S hK hw cal_X1_takeLatest gX5_undo_X1_takeLatest (c_X1_takeLatest l D cC cI cJ a_un a_un_held un_size 8 un_held (aw _) (hw.own [2, 3] (by decide) rfl) r2 h3) ⟨⟨rfl, rfl⟩, Nat.le_of_ble_eq_true rfl, Nat.le_of_ble_eq_true rfl⟩ [2, 3] rfl 2 rfl rfl rfl hl.1 rfl (Nat.le_of_ble_eq_true rfl) dX5_undo_22 ⟨Nat.zero_le _, Nat.zero_le _⟩ (fun H locs hJ hB => ?_)
    have hw := hJ _ hB rfl
    replace hw : Wd D A _ (wd_25 cC cI cJ a_x g_x_text x_letters g_x_months g_x_spare a_no g_x_trial a_un g_x_kept g_x_seen g_x_unseen g_x_search a_no no_asked no_brought no_friends no_used no_crumbs no_day a_un r2.2 a_un_held a_un_held un_held) H locs := hw
    obtain ⟨r4, h5, hm⟩ := ob hm
    refine k_wVv S hK hw cal_X4_unpack gX5_undo_X4_unpack (c_X4_unpack l D cC cI cJ a_no no_asked no_brought no_friends no_used no_crumbs no_day r2.1 (aw _) (hw.own [1] (by decide) rfl) r4 h5) ⟨⟨rfl, rfl⟩, Nat.le_of_ble_eq_true rfl, Nat.le_of_ble_eq_true rfl⟩ [1] rfl 1 rfl rfl rfl hl.1 rfl (Nat.le_of_ble_eq_true rfl) dX5_undo_25 ⟨Nat.zero_le _, Nat.zero_le _⟩ (fun H locs hJ hB => ?_)
    have hw := hJ _ hB rfl
    replace hw : Wd D A _ (wd_25 cC cI cJ a_x g_x_text x_letters g_x_months g_x_spare a_no g_x_trial a_un g_x_kept g_x_seen g_x_unseen g_x_search a_no r4.1 r4.2.1 r4.2.2.1 r4.2.2.2.1 r4.2.2.2.2.1 r4.2.2.2.2.2 a_un r2.2 a_un_held a_un_held un_held) H locs := hw
    refine lv_aload_n hx hb dX5_undo_28 rfl (lv_at hl 0 rfl) ?_
    refine f_get S hK hw.1 in_X5_undo_X5 0 rfl rfl 6 (by decide) (List.mem_of_getElem? (i := 1) rfl) rfl rfl dX5_undo_29 ?_
    refine f_get S hK hw.1 in_X5_undo_X1 2 rfl rfl 0 (by decide) (List.mem_of_getElem? (i := 2) rfl) rfl rfl dX5_undo_32 ?_
    obtain rfl := Option.some.inj hm
    exact e_WI S hr hlk hw rfl hw.1 dX5_undo_35
  · replace hm := ineg hm c1
    refine lv_bipush (v := (-2)) hx hb dX5_undo_11 (by decide) ?_
    obtain rfl := Option.some.inj hm
    exact e_WI S hr hlk hw rfl hw.1 dX5_undo_13

abbrev rX5_well : Room := { frames := 16, cells := 0, slots := 0, locals := 429 }
theorem cal_X5_well : Cal yX5_well wsX5_well cX5_well 2 (some .int) RX5 1 := ⟨⟨_, rfl⟩, rfl, by decide +kernel, by decide +kernel, by decide +kernel⟩
theorem in_X5_well_X5 : ∀ w ∈ wsX50, w ∈ wsX5_well := fun _ h => (List.mem_cons_of_mem _ (List.mem_append_left _ (List.mem_append_left _ (List.mem_append_left _ (List.mem_append_left _ (List.mem_append_right _ h))))))
set_option maxHeartbeats 4000000 in
set_option maxRecDepth 100000 in
theorem c_X5_well (l : Launch) (D : va_G) (cC cI cJ : ClassId) (a_x : Nat) (g_x_text : Nat) (a_mo : Nat) (g_x_spare : Nat) (a_no : Nat) (g_x_trial : Nat) (g_x_undoable : Nat) (g_x_kept : Nat) (g_x_seen : Nat) (a_us : Nat) (a_sr : Nat) (a_mo_kinds : Nat) (a_mo_days : Nat) (a_mo_rideDays : Nat) (a_mo_helpKinds : Nat) (a_mo_nexts : Nat) (a_mo_helperKinds : Nat) (a_mo_prices : Nat) (a_mo_helpersOfKind : Nat) (a_mo_numbers : Nat) (a_us_left : Nat) (a_sr_known : Nat) (a_ro : Nat) (g_sr_months : Nat) (g_sr_heeded : Nat) (x_letters : Int32) (mo_tasks : Int32) (mo_helpers : Int32) (mo_askedFirst : Int32) (mo_crumbsFirst : Int32) (mo_lastDay : Int32) (mo_kinds : (Nat → Int32)) (mo_days : (Nat → Int32)) (mo_rideDays : (Nat → Int32)) (mo_helpKinds : (Nat → Int32)) (mo_nexts : (Nat → Int32)) (mo_helperKinds : (Nat → Int32)) (mo_prices : (Nat → Int32)) (mo_helpersOfKind : (Nat → Int32)) (mo_numbers : (Nat → Int32)) (no_asked : Int32) (no_brought : Int32) (no_friends : Int32) (no_used : Int32) (no_crumbs : Int32) (no_day : Int32) (us_size : Int32) (us_lastPlace : Int32) (us_left : (Nat → Int32)) (sr_number : Int64) (sr_enough : Int64) (sr_tooLong : Int32) (sr_known : (Nat → Int64)) (ro_asked : Int32) (ro_brought : Int32) (ro_friends : Int32) (ro_used : Int32) (ro_crumbs : Int32) (ro_day : Int32) (p0 : Int32) (N : Nat) (A : Nat → Prop) (hD : va_D A (wd_18 cC cI cJ a_x g_x_text x_letters a_mo g_x_spare a_no g_x_trial g_x_undoable g_x_kept g_x_seen a_us a_sr a_mo mo_tasks mo_helpers mo_askedFirst mo_crumbsFirst mo_lastDay a_mo_kinds a_mo_days a_mo_rideDays a_mo_helpKinds a_mo_nexts a_mo_helperKinds a_mo_prices a_mo_helpersOfKind a_mo_numbers a_mo_kinds mo_kinds a_mo_days mo_days a_mo_rideDays mo_rideDays a_mo_helpKinds mo_helpKinds a_mo_nexts mo_nexts a_mo_helperKinds mo_helperKinds a_mo_prices mo_prices a_mo_helpersOfKind mo_helpersOfKind a_mo_numbers mo_numbers a_no no_asked no_brought no_friends no_used no_crumbs no_day a_us us_size us_lastPlace a_us_left a_us_left us_left a_sr a_sr_known a_ro a_us sr_number sr_enough sr_tooLong g_sr_months g_sr_heeded a_sr_known sr_known a_ro ro_asked ro_brought ro_friends ro_used ro_crumbs ro_day)) (out : (Int32 × Int64 × Int64 × Int32 × (Nat → Int64) × Int32 × Int32 × Int32 × Int32 × Int32 × Int32)) (hm : m_X5_well N mo_tasks mo_lastDay mo_kinds mo_rideDays mo_helpKinds mo_nexts mo_helpersOfKind no_asked no_brought no_friends no_used no_crumbs no_day us_lastPlace us_left sr_number sr_enough sr_tooLong sr_known ro_asked ro_brought ro_friends ro_used ro_crumbs ro_day p0 = some out) : WrI l yX5_well wsX5_well rX5_well D (tyK cC cI cJ) [.ref a_x, .int p0] A (wd_18 cC cI cJ a_x g_x_text x_letters a_mo g_x_spare a_no g_x_trial g_x_undoable g_x_kept g_x_seen a_us a_sr a_mo mo_tasks mo_helpers mo_askedFirst mo_crumbsFirst mo_lastDay a_mo_kinds a_mo_days a_mo_rideDays a_mo_helpKinds a_mo_nexts a_mo_helperKinds a_mo_prices a_mo_helpersOfKind a_mo_numbers a_mo_kinds mo_kinds a_mo_days mo_days a_mo_rideDays mo_rideDays a_mo_helpKinds mo_helpKinds a_mo_nexts mo_nexts a_mo_helperKinds mo_helperKinds a_mo_prices mo_prices a_mo_helpersOfKind mo_helpersOfKind a_mo_numbers mo_numbers a_no no_asked no_brought no_friends no_used no_crumbs no_day a_us us_size us_lastPlace a_us_left a_us_left us_left a_sr a_sr_known a_ro a_us sr_number sr_enough sr_tooLong g_sr_months g_sr_heeded a_sr_known sr_known a_ro ro_asked ro_brought ro_friends ro_used ro_crumbs ro_day) (Bw2 D (fun z_14_6 z_14_7 => (wd_18 cC cI cJ a_x g_x_text x_letters a_mo g_x_spare a_no g_x_trial g_x_undoable g_x_kept g_x_seen a_us a_sr a_mo mo_tasks mo_helpers mo_askedFirst mo_crumbsFirst mo_lastDay a_mo_kinds a_mo_days a_mo_rideDays a_mo_helpKinds a_mo_nexts a_mo_helperKinds a_mo_prices a_mo_helpersOfKind a_mo_numbers a_mo_kinds mo_kinds a_mo_days mo_days a_mo_rideDays mo_rideDays a_mo_helpKinds mo_helpKinds a_mo_nexts mo_nexts a_mo_helperKinds mo_helperKinds a_mo_prices mo_prices a_mo_helpersOfKind mo_helpersOfKind a_mo_numbers mo_numbers a_no no_asked no_brought no_friends no_used no_crumbs no_day a_us us_size us_lastPlace a_us_left a_us_left us_left a_sr a_sr_known a_ro a_us out.2.1 out.2.2.1 out.2.2.2.1 z_14_6 z_14_7 a_sr_known out.2.2.2.2.1 a_ro out.2.2.2.2.2.1 out.2.2.2.2.2.2.1 out.2.2.2.2.2.2.2.1 out.2.2.2.2.2.2.2.2.1 out.2.2.2.2.2.2.2.2.2.1 out.2.2.2.2.2.2.2.2.2.2))) out.1 := by
  unfold m_X5_well at hm
  refine enter (cc := cX5_well) (maxL := 2) (ret := (some .int)) (lv := [(0, .ref a_x), (1, .int p0)]) (by decide) rfl (Nat.le_of_ble_eq_true rfl) rfl ?_
  intro p e s m args below meth c S hr hlk hK hP ls hl
  replace S : CallFix p m c cX5_well 2 s args wsX5_well RX5 := S
  have hx := S.1
  have hb := S.2.1
  have hw : Wd D A s.heap (wd_18 cC cI cJ a_x g_x_text x_letters a_mo g_x_spare a_no g_x_trial g_x_undoable g_x_kept g_x_seen a_us a_sr a_mo mo_tasks mo_helpers mo_askedFirst mo_crumbsFirst mo_lastDay a_mo_kinds a_mo_days a_mo_rideDays a_mo_helpKinds a_mo_nexts a_mo_helperKinds a_mo_prices a_mo_helpersOfKind a_mo_numbers a_mo_kinds mo_kinds a_mo_days mo_days a_mo_rideDays mo_rideDays a_mo_helpKinds mo_helpKinds a_mo_nexts mo_nexts a_mo_helperKinds mo_helperKinds a_mo_prices mo_prices a_mo_helpersOfKind mo_helpersOfKind a_mo_numbers mo_numbers a_no no_asked no_brought no_friends no_used no_crumbs no_day a_us us_size us_lastPlace a_us_left a_us_left us_left a_sr a_sr_known a_ro a_us sr_number sr_enough sr_tooLong g_sr_months g_sr_heeded a_sr_known sr_known a_ro ro_asked ro_brought ro_friends ro_used ro_crumbs ro_day) s.heap [] := ⟨hP, hD, va_S.rf⟩
  have hw0 := hw
  refine lv_iload_n hx hb dX5_well_0 rfl (lv_at hl 1 rfl) ?_
  refine lv_if_lt (tgt := 10) hx hb dX5_well_1 (by decide) (fun c1 => ?_) (fun c1 => ?_)
  · replace hm := ipos hm c1
    refine lv_iconst (v := (-1)) hx hb dX5_well_10 (by decide) ?_
    obtain rfl := Option.some.inj hm
    exact e_WI S hr hlk hw rfl ⟨g_sr_months, g_sr_heeded, hw.1⟩ dX5_well_11
  · replace hm := ineg hm c1
    refine lv_iload_n hx hb dX5_well_4 rfl (lv_at hl 1 rfl) ?_
    refine lv_bipush (v := 8) hx hb dX5_well_5 (by decide) ?_
    refine lv_icmp_le (tgt := 12) hx hb dX5_well_7 (by decide) (fun c2 => ?_) (fun c2 => ?_)
    · replace hm := ipos hm c2
      refine lv_iload_n hx hb dX5_well_12 rfl (lv_at hl 1 rfl) ?_
      refine lv_if_ne (tgt := 38) hx hb dX5_well_13 (by decide) (fun c3 => ?_) (fun c3 => ?_)
      · replace hm := ineg hm c3
        refine lv_aload_n hx hb dX5_well_38 rfl (lv_at hl 0 rfl) ?_
        refine f_get S hK hw.1 in_X5_well_X5 0 rfl rfl 10 (by decide) (List.mem_of_getElem? (i := 1) rfl) rfl rfl dX5_well_39 ?_
        refine lv_aload_n hx hb dX5_well_42 rfl (lv_at hl 0 rfl) ?_
        refine f_get S hK hw.1 in_X5_well_X5 0 rfl rfl 2 (by decide) (List.mem_of_getElem? (i := 2) rfl) rfl rfl dX5_well_43 ?_
        refine lv_aload_n hx hb dX5_well_46 rfl (lv_at hl 0 rfl) ?_
        refine f_get S hK hw.1 in_X5_well_X5 0 rfl rfl 4 (by decide) (List.mem_of_getElem? (i := 3) rfl) rfl rfl dX5_well_47 ?_
        refine lv_aload_n hx hb dX5_well_50 rfl (lv_at hl 0 rfl) ?_
        refine f_get S hK hw.1 in_X5_well_X5 0 rfl rfl 9 (by decide) (List.mem_of_getElem? (i := 4) rfl) rfl rfl dX5_well_51 ?_
        refine lv_iload_n hx hb dX5_well_54 rfl (lv_at hl 1 rfl) ?_
        obtain ⟨r4, h5, hm⟩ := ob hm
        refine k_wVi S hK hw cal_X2_placeInFirst gX5_well_X2_placeInFirst (c_X2_placeInFirst l D cC cI cJ a_sr a_sr_known a_ro a_us g_sr_months g_sr_heeded a_mo a_mo_kinds a_mo_days a_mo_rideDays a_mo_helpKinds a_mo_nexts a_mo_helperKinds a_mo_prices a_mo_helpersOfKind a_mo_numbers a_no a_us a_us_left sr_number sr_enough sr_tooLong sr_known ro_asked ro_brought ro_friends ro_used ro_crumbs ro_day mo_tasks mo_helpers mo_askedFirst mo_crumbsFirst mo_lastDay mo_kinds mo_days mo_rideDays mo_helpKinds mo_nexts mo_helperKinds mo_prices mo_helpersOfKind mo_numbers no_asked no_brought no_friends no_used no_crumbs no_day us_size us_lastPlace us_left p0 N (aw _) (hw.own [14, 15, 16, 1, 2, 3, 4, 5, 6, 7, 8, 9, 10, 11, 12, 13] (by decide) rfl) r4 h5) ⟨⟨rfl, rfl⟩, Nat.le_of_ble_eq_true rfl, Nat.le_of_ble_eq_true rfl⟩ [14, 15, 16, 1, 2, 3, 4, 5, 6, 7, 8, 9, 10, 11, 12, 13] rfl 14 rfl rfl rfl hl.1 rfl (Nat.le_of_ble_eq_true rfl) dX5_well_55 ⟨Nat.zero_le _, Nat.zero_le _⟩ (fun H locs hJ hB => ?_)
        have hw := hJ _ hB rfl
        replace hw : Wd D A _ (wd_18 cC cI cJ a_x g_x_text x_letters a_mo g_x_spare a_no g_x_trial g_x_undoable g_x_kept g_x_seen a_us a_sr a_mo mo_tasks mo_helpers mo_askedFirst mo_crumbsFirst mo_lastDay a_mo_kinds a_mo_days a_mo_rideDays a_mo_helpKinds a_mo_nexts a_mo_helperKinds a_mo_prices a_mo_helpersOfKind a_mo_numbers a_mo_kinds mo_kinds a_mo_days mo_days a_mo_rideDays mo_rideDays a_mo_helpKinds mo_helpKinds a_mo_nexts mo_nexts a_mo_helperKinds mo_helperKinds a_mo_prices mo_prices a_mo_helpersOfKind mo_helpersOfKind a_mo_numbers mo_numbers a_no no_asked no_brought no_friends no_used no_crumbs no_day a_us us_size us_lastPlace a_us_left a_us_left us_left a_sr a_sr_known a_ro a_us r4.2.1 r4.2.2.1 r4.2.2.2.1 a_mo a_us a_sr_known r4.2.2.2.2.1 a_ro r4.2.2.2.2.2.1 r4.2.2.2.2.2.2.1 r4.2.2.2.2.2.2.2.1 r4.2.2.2.2.2.2.2.2.1 r4.2.2.2.2.2.2.2.2.2.1 r4.2.2.2.2.2.2.2.2.2.2) H locs := hw
        obtain rfl := Option.some.inj hm
        exact e_WI S hr hlk hw rfl ⟨a_mo, a_us, hw.1⟩ dX5_well_58
      · replace hm := ipos hm c3
        refine lv_aload_n hx hb dX5_well_16 rfl (lv_at hl 0 rfl) ?_
        refine f_get S hK hw.1 in_X5_well_X5 0 rfl rfl 10 (by decide) (List.mem_of_getElem? (i := 1) rfl) rfl rfl dX5_well_17 ?_
        refine lv_aload_n hx hb dX5_well_20 rfl (lv_at hl 0 rfl) ?_
        refine f_get S hK hw.1 in_X5_well_X5 0 rfl rfl 2 (by decide) (List.mem_of_getElem? (i := 2) rfl) rfl rfl dX5_well_21 ?_
        refine lv_aload_n hx hb dX5_well_24 rfl (lv_at hl 0 rfl) ?_
        refine f_get S hK hw.1 in_X5_well_X5 0 rfl rfl 4 (by decide) (List.mem_of_getElem? (i := 3) rfl) rfl rfl dX5_well_25 ?_
        refine lv_aload_n hx hb dX5_well_28 rfl (lv_at hl 0 rfl) ?_
        refine f_get S hK hw.1 in_X5_well_X5 0 rfl rfl 9 (by decide) (List.mem_of_getElem? (i := 4) rfl) rfl rfl dX5_well_29 ?_
        obtain ⟨r6, h7, hm⟩ := ob hm
        refine k_wVi S hK hw cal_X2_waysOf gX5_well_X2_waysOf (c_X2_waysOf l D cC cI cJ a_sr a_sr_known a_ro a_us g_sr_months g_sr_heeded a_mo a_mo_kinds a_mo_days a_mo_rideDays a_mo_helpKinds a_mo_nexts a_mo_helperKinds a_mo_prices a_mo_helpersOfKind a_mo_numbers a_no a_us a_us_left sr_number sr_enough sr_tooLong sr_known ro_asked ro_brought ro_friends ro_used ro_crumbs ro_day mo_tasks mo_helpers mo_askedFirst mo_crumbsFirst mo_lastDay mo_kinds mo_days mo_rideDays mo_helpKinds mo_nexts mo_helperKinds mo_prices mo_helpersOfKind mo_numbers no_asked no_brought no_friends no_used no_crumbs no_day us_size us_lastPlace us_left N (aw _) (hw.own [14, 15, 16, 1, 2, 3, 4, 5, 6, 7, 8, 9, 10, 11, 12, 13] (by decide) rfl) r6 h7) ⟨⟨rfl, rfl⟩, Nat.le_of_ble_eq_true rfl, Nat.le_of_ble_eq_true rfl⟩ [14, 15, 16, 1, 2, 3, 4, 5, 6, 7, 8, 9, 10, 11, 12, 13] rfl 14 rfl rfl rfl hl.1 rfl (Nat.le_of_ble_eq_true rfl) dX5_well_32 ⟨Nat.zero_le _, Nat.zero_le _⟩ (fun H locs hJ hB => ?_)
        have hw := hJ _ hB rfl
        replace hw : Wd D A _ (wd_18 cC cI cJ a_x g_x_text x_letters a_mo g_x_spare a_no g_x_trial g_x_undoable g_x_kept g_x_seen a_us a_sr a_mo mo_tasks mo_helpers mo_askedFirst mo_crumbsFirst mo_lastDay a_mo_kinds a_mo_days a_mo_rideDays a_mo_helpKinds a_mo_nexts a_mo_helperKinds a_mo_prices a_mo_helpersOfKind a_mo_numbers a_mo_kinds mo_kinds a_mo_days mo_days a_mo_rideDays mo_rideDays a_mo_helpKinds mo_helpKinds a_mo_nexts mo_nexts a_mo_helperKinds mo_helperKinds a_mo_prices mo_prices a_mo_helpersOfKind mo_helpersOfKind a_mo_numbers mo_numbers a_no no_asked no_brought no_friends no_used no_crumbs no_day a_us us_size us_lastPlace a_us_left a_us_left us_left a_sr a_sr_known a_ro a_us r6.2.1 r6.2.2.1 r6.2.2.2.1 a_mo a_us a_sr_known r6.2.2.2.2.1 a_ro r6.2.2.2.2.2.1 r6.2.2.2.2.2.2.1 r6.2.2.2.2.2.2.2.1 r6.2.2.2.2.2.2.2.2.1 r6.2.2.2.2.2.2.2.2.2.1 r6.2.2.2.2.2.2.2.2.2.2) H locs := hw
        refine lv_goto (tgt := 58) hx hb dX5_well_35 (by decide) ?_
        obtain rfl := Option.some.inj hm
        exact e_WI S hr hlk hw rfl ⟨a_mo, a_us, hw.1⟩ dX5_well_58
    · replace hm := ineg hm c2
      refine lv_iconst (v := (-1)) hx hb dX5_well_10 (by decide) ?_
      obtain rfl := Option.some.inj hm
      exact e_WI S hr hlk hw rfl ⟨g_sr_months, g_sr_heeded, hw.1⟩ dX5_well_11

abbrev rX5_wipe : Room := { frames := 0, cells := 0, slots := 0, locals := 0 }
theorem cal_X5_wipe : Cal yX5_wipe wsX5_wipe cX5_wipe 2 (some .int) RX5 0 := ⟨⟨_, rfl⟩, rfl, by decide +kernel, by decide +kernel, by decide +kernel⟩
theorem in_X5_wipe_X5 : ∀ w ∈ wsX50, w ∈ wsX5_wipe := fun _ h => (List.mem_cons_of_mem _ (List.mem_append_right _ h))
set_option maxHeartbeats 4000000 in
set_option maxRecDepth 100000 in
theorem c_X5_wipe (l : Launch) (D : va_G) (cC cI cJ : ClassId) (a_x : Nat) (g_x_text : Nat) (g_x_months : Nat) (g_x_spare : Nat) (g_x_now : Nat) (g_x_trial : Nat) (g_x_undoable : Nat) (g_x_kept : Nat) (g_x_seen : Nat) (g_x_unseen : Nat) (g_x_search : Nat) (x_letters : Int32) (A : Nat → Prop) (hD : va_D A (wd_26 cC cI cJ a_x g_x_text x_letters g_x_months g_x_spare g_x_now g_x_trial g_x_undoable g_x_kept g_x_seen g_x_unseen g_x_search)) (out : (Int32 × Int32)) (hm : m_X5_wipe x_letters = some out) : WrI l yX5_wipe wsX5_wipe rX5_wipe D (tyK cC cI cJ) [.ref a_x] A (wd_26 cC cI cJ a_x g_x_text x_letters g_x_months g_x_spare g_x_now g_x_trial g_x_undoable g_x_kept g_x_seen g_x_unseen g_x_search) (Bw0 D (wd_26 cC cI cJ a_x g_x_text out.2 g_x_months g_x_spare g_x_now g_x_trial g_x_undoable g_x_kept g_x_seen g_x_unseen g_x_search)) out.1 := by
  unfold m_X5_wipe at hm
  refine enter (cc := cX5_wipe) (maxL := 2) (ret := (some .int)) (lv := [(0, .ref a_x)]) (by decide) rfl (Nat.le_of_ble_eq_true rfl) rfl ?_
  intro p e s m args below meth c S hr hlk hK hP ls hl
  replace S : CallFix p m c cX5_wipe 2 s args wsX5_wipe RX5 := S
  have hx := S.1
  have hb := S.2.1
  have hw : Wd D A s.heap (wd_26 cC cI cJ a_x g_x_text x_letters g_x_months g_x_spare g_x_now g_x_trial g_x_undoable g_x_kept g_x_seen g_x_unseen g_x_search) s.heap [] := ⟨hP, hD, va_S.rf⟩
  have hw0 := hw
  refine lv_aload_n hx hb dX5_wipe_0 rfl (lv_at hl 0 rfl) ?_
  refine f_get S hK hw.1 in_X5_wipe_X5 0 rfl rfl 1 (by decide) (List.mem_of_getElem? (i := 1) rfl) rfl rfl dX5_wipe_1 ?_
  refine lv_istore_n (lv' := [(1, .int x_letters), (0, .ref a_x)]) hx hb dX5_wipe_4 rfl hl (by decide) rfl (fun ls hl => ?_)
  refine lv_aload_n hx hb dX5_wipe_5 rfl (lv_at hl 1 rfl) ?_
  refine lv_iconst (v := 0) hx hb dX5_wipe_6 (by decide) ?_
  refine f_put S hK hw in_X5_wipe_X5 tyX5_ok nmX5 0 rfl rfl 1 (by decide) (List.mem_of_getElem? (i := 1) rfl) rfl rfl rfl rfl (Nat.le_of_ble_eq_true rfl) (ws1 := (wd_26 cC cI cJ a_x g_x_text (0 : Int32) g_x_months g_x_spare g_x_now g_x_trial g_x_undoable g_x_kept g_x_seen g_x_unseen g_x_search)) rfl dX5_wipe_7 (fun H locs hw => ?_)
  refine lv_iload_n hx hb dX5_wipe_10 rfl (lv_at hl 0 rfl) ?_
  obtain rfl := Option.some.inj hm
  exact e_WI S hr hlk hw rfl hw.1 dX5_wipe_11

abbrev rX5_worth : Room := { frames := 16, cells := 0, slots := 0, locals := 429 }
theorem cal_X5_worth : Cal yX5_worth wsX5_worth cX5_worth 5 (some .int) RX5 2 := ⟨⟨_, rfl⟩, rfl, by decide +kernel, by decide +kernel, by decide +kernel⟩
theorem in_X5_worth_X4 : ∀ w ∈ wsX40, w ∈ wsX5_worth := fun _ h => (List.mem_cons_of_mem _ (List.mem_append_left _ (List.mem_append_left _ (List.mem_append_left _ (List.mem_append_right _ h)))))
theorem in_X5_worth_X5 : ∀ w ∈ wsX50, w ∈ wsX5_worth := fun _ h => (List.mem_cons_of_mem _ (List.mem_append_left _ (List.mem_append_left _ (List.mem_append_left _ (List.mem_append_left _ (List.mem_append_right _ h))))))
set_option maxHeartbeats 4000000 in
set_option maxRecDepth 100000 in
theorem c_X5_worth (l : Launch) (D : va_G) (cC cI cJ : ClassId) (a_x : Nat) (g_x_text : Nat) (a_mo : Nat) (g_x_spare : Nat) (a_no : Nat) (a_tr : Nat) (g_x_undoable : Nat) (g_x_kept : Nat) (g_x_seen : Nat) (a_us : Nat) (a_sr : Nat) (a_mo_kinds : Nat) (a_mo_days : Nat) (a_mo_rideDays : Nat) (a_mo_helpKinds : Nat) (a_mo_nexts : Nat) (a_mo_helperKinds : Nat) (a_mo_prices : Nat) (a_mo_helpersOfKind : Nat) (a_mo_numbers : Nat) (a_us_left : Nat) (a_sr_known : Nat) (a_ro : Nat) (g_sr_months : Nat) (g_sr_heeded : Nat) (x_letters : Int32) (mo_tasks : Int32) (mo_helpers : Int32) (mo_askedFirst : Int32) (mo_crumbsFirst : Int32) (mo_lastDay : Int32) (mo_kinds : (Nat → Int32)) (mo_days : (Nat → Int32)) (mo_rideDays : (Nat → Int32)) (mo_helpKinds : (Nat → Int32)) (mo_nexts : (Nat → Int32)) (mo_helperKinds : (Nat → Int32)) (mo_prices : (Nat → Int32)) (mo_helpersOfKind : (Nat → Int32)) (mo_numbers : (Nat → Int32)) (no_asked : Int32) (no_brought : Int32) (no_friends : Int32) (no_used : Int32) (no_crumbs : Int32) (no_day : Int32) (tr_asked : Int32) (tr_brought : Int32) (tr_friends : Int32) (tr_used : Int32) (tr_crumbs : Int32) (tr_day : Int32) (us_size : Int32) (us_lastPlace : Int32) (us_left : (Nat → Int32)) (sr_number : Int64) (sr_enough : Int64) (sr_tooLong : Int32) (sr_known : (Nat → Int64)) (ro_asked : Int32) (ro_brought : Int32) (ro_friends : Int32) (ro_used : Int32) (ro_crumbs : Int32) (ro_day : Int32) (p0 : Int32) (p1 : Int32) (N : Nat) (A : Nat → Prop) (hD : va_D A (wd_15 cC cI cJ a_x g_x_text x_letters a_mo g_x_spare a_no a_tr g_x_undoable g_x_kept g_x_seen a_us a_sr a_mo mo_tasks mo_helpers mo_askedFirst mo_crumbsFirst mo_lastDay a_mo_kinds a_mo_days a_mo_rideDays a_mo_helpKinds a_mo_nexts a_mo_helperKinds a_mo_prices a_mo_helpersOfKind a_mo_numbers a_mo_kinds mo_kinds a_mo_days mo_days a_mo_rideDays mo_rideDays a_mo_helpKinds mo_helpKinds a_mo_nexts mo_nexts a_mo_helperKinds mo_helperKinds a_mo_prices mo_prices a_mo_helpersOfKind mo_helpersOfKind a_mo_numbers mo_numbers a_no no_asked no_brought no_friends no_used no_crumbs no_day a_tr tr_asked tr_brought tr_friends tr_used tr_crumbs tr_day a_us us_size us_lastPlace a_us_left a_us_left us_left a_sr a_sr_known a_ro a_us sr_number sr_enough sr_tooLong g_sr_months g_sr_heeded a_sr_known sr_known a_ro ro_asked ro_brought ro_friends ro_used ro_crumbs ro_day)) (out : (Int32 × Int32 × Int32 × Int32 × Int32 × Int32 × Int32 × Int64 × Int64 × Int32 × (Nat → Int64) × Int32 × Int32 × Int32 × Int32 × Int32 × Int32)) (hm : m_X5_worth N mo_tasks mo_helpers mo_lastDay mo_kinds mo_rideDays mo_helpKinds mo_nexts mo_prices mo_helpersOfKind no_asked no_brought no_friends no_used no_crumbs no_day tr_asked tr_brought tr_friends tr_used tr_crumbs tr_day us_lastPlace us_left sr_number sr_enough sr_tooLong sr_known ro_asked ro_brought ro_friends ro_used ro_crumbs ro_day p0 p1 = some out) : WrI l yX5_worth wsX5_worth rX5_worth D (tyK cC cI cJ) [.ref a_x, .int p0, .int p1] A (wd_15 cC cI cJ a_x g_x_text x_letters a_mo g_x_spare a_no a_tr g_x_undoable g_x_kept g_x_seen a_us a_sr a_mo mo_tasks mo_helpers mo_askedFirst mo_crumbsFirst mo_lastDay a_mo_kinds a_mo_days a_mo_rideDays a_mo_helpKinds a_mo_nexts a_mo_helperKinds a_mo_prices a_mo_helpersOfKind a_mo_numbers a_mo_kinds mo_kinds a_mo_days mo_days a_mo_rideDays mo_rideDays a_mo_helpKinds mo_helpKinds a_mo_nexts mo_nexts a_mo_helperKinds mo_helperKinds a_mo_prices mo_prices a_mo_helpersOfKind mo_helpersOfKind a_mo_numbers mo_numbers a_no no_asked no_brought no_friends no_used no_crumbs no_day a_tr tr_asked tr_brought tr_friends tr_used tr_crumbs tr_day a_us us_size us_lastPlace a_us_left a_us_left us_left a_sr a_sr_known a_ro a_us sr_number sr_enough sr_tooLong g_sr_months g_sr_heeded a_sr_known sr_known a_ro ro_asked ro_brought ro_friends ro_used ro_crumbs ro_day) (Bw2 D (fun z_15_6 z_15_7 => (wd_15 cC cI cJ a_x g_x_text x_letters a_mo g_x_spare a_no a_tr g_x_undoable g_x_kept g_x_seen a_us a_sr a_mo mo_tasks mo_helpers mo_askedFirst mo_crumbsFirst mo_lastDay a_mo_kinds a_mo_days a_mo_rideDays a_mo_helpKinds a_mo_nexts a_mo_helperKinds a_mo_prices a_mo_helpersOfKind a_mo_numbers a_mo_kinds mo_kinds a_mo_days mo_days a_mo_rideDays mo_rideDays a_mo_helpKinds mo_helpKinds a_mo_nexts mo_nexts a_mo_helperKinds mo_helperKinds a_mo_prices mo_prices a_mo_helpersOfKind mo_helpersOfKind a_mo_numbers mo_numbers a_no no_asked no_brought no_friends no_used no_crumbs no_day a_tr out.2.1 out.2.2.1 out.2.2.2.1 out.2.2.2.2.1 out.2.2.2.2.2.1 out.2.2.2.2.2.2.1 a_us us_size us_lastPlace a_us_left a_us_left us_left a_sr a_sr_known a_ro a_us out.2.2.2.2.2.2.2.1 out.2.2.2.2.2.2.2.2.1 out.2.2.2.2.2.2.2.2.2.1 z_15_6 z_15_7 a_sr_known out.2.2.2.2.2.2.2.2.2.2.1 a_ro out.2.2.2.2.2.2.2.2.2.2.2.1 out.2.2.2.2.2.2.2.2.2.2.2.2.1 out.2.2.2.2.2.2.2.2.2.2.2.2.2.1 out.2.2.2.2.2.2.2.2.2.2.2.2.2.2.1 out.2.2.2.2.2.2.2.2.2.2.2.2.2.2.2.1 out.2.2.2.2.2.2.2.2.2.2.2.2.2.2.2.2))) out.1 := by
  unfold m_X5_worth at hm
  refine enter (cc := cX5_worth) (maxL := 5) (ret := (some .int)) (lv := [(0, .ref a_x), (1, .int p0), (2, .int p1)]) (by decide) rfl (Nat.le_of_ble_eq_true rfl) rfl ?_
  intro p e s m args below meth c S hr hlk hK hP ls hl
  replace S : CallFix p m c cX5_worth 5 s args wsX5_worth RX5 := S
  have hx := S.1
  have hb := S.2.1
  have hw : Wd D A s.heap (wd_15 cC cI cJ a_x g_x_text x_letters a_mo g_x_spare a_no a_tr g_x_undoable g_x_kept g_x_seen a_us a_sr a_mo mo_tasks mo_helpers mo_askedFirst mo_crumbsFirst mo_lastDay a_mo_kinds a_mo_days a_mo_rideDays a_mo_helpKinds a_mo_nexts a_mo_helperKinds a_mo_prices a_mo_helpersOfKind a_mo_numbers a_mo_kinds mo_kinds a_mo_days mo_days a_mo_rideDays mo_rideDays a_mo_helpKinds mo_helpKinds a_mo_nexts mo_nexts a_mo_helperKinds mo_helperKinds a_mo_prices mo_prices a_mo_helpersOfKind mo_helpersOfKind a_mo_numbers mo_numbers a_no no_asked no_brought no_friends no_used no_crumbs no_day a_tr tr_asked tr_brought tr_friends tr_used tr_crumbs tr_day a_us us_size us_lastPlace a_us_left a_us_left us_left a_sr a_sr_known a_ro a_us sr_number sr_enough sr_tooLong g_sr_months g_sr_heeded a_sr_known sr_known a_ro ro_asked ro_brought ro_friends ro_used ro_crumbs ro_day) s.heap [] := ⟨hP, hD, va_S.rf⟩
  have hw0 := hw
  refine lv_aload_n hx hb dX5_worth_0 rfl (lv_at hl 0 rfl) ?_
  refine f_get S hK hw.1 in_X5_worth_X5 0 rfl rfl 2 (by decide) (List.mem_of_getElem? (i := 1) rfl) rfl rfl dX5_worth_1 ?_
  refine lv_iload_n hx hb dX5_worth_4 rfl (lv_at hl 1 rfl) ?_
  obtain ⟨r1, h2, hm⟩ := ob hm
  refine k_rVi S hK hw.1 cal_X0_hasHelper gX5_worth_X0_hasHelper (c_X0_hasHelper l D cC cI cJ a_mo a_mo_kinds a_mo_days a_mo_rideDays a_mo_helpKinds a_mo_nexts a_mo_helperKinds a_mo_prices a_mo_helpersOfKind a_mo_numbers mo_tasks mo_helpers mo_askedFirst mo_crumbsFirst mo_lastDay mo_kinds mo_days mo_rideDays mo_helpKinds mo_nexts mo_helperKinds mo_prices mo_helpersOfKind mo_numbers p0 r1 h2) ⟨⟨rfl, rfl⟩, Nat.le_of_ble_eq_true rfl, Nat.le_of_ble_eq_true rfl⟩ [1, 2, 3, 4, 5, 6, 7, 8, 9, 10] rfl 1 rfl rfl rfl hl.1 rfl (Nat.le_of_ble_eq_true rfl) dX5_worth_5 ⟨Nat.zero_le _, Nat.zero_le _⟩ ?_
  refine lv_if_eq (tgt := 20) hx hb dX5_worth_8 (by decide) (fun c3 => ?_) (fun c3 => ?_)
  · replace hm := ipos hm c3
    refine lv_iconst (v := (-1)) hx hb dX5_worth_20 (by decide) ?_
    obtain rfl := Option.some.inj hm
    exact e_WI S hr hlk hw rfl ⟨g_sr_months, g_sr_heeded, hw.1⟩ dX5_worth_21
  · replace hm := ineg hm c3
    refine lv_iload_n hx hb dX5_worth_11 rfl (lv_at hl 2 rfl) ?_
    refine lv_if_lt (tgt := 20) hx hb dX5_worth_12 (by decide) (fun c4 => ?_) (fun c4 => ?_)
    · replace hm := ipos hm c4
      refine lv_iconst (v := (-1)) hx hb dX5_worth_20 (by decide) ?_
      obtain rfl := Option.some.inj hm
      exact e_WI S hr hlk hw rfl ⟨g_sr_months, g_sr_heeded, hw.1⟩ dX5_worth_21
    · replace hm := ineg hm c4
      refine lv_iload_n hx hb dX5_worth_15 rfl (lv_at hl 2 rfl) ?_
      refine lv_iconst (v := 1) hx hb dX5_worth_16 (by decide) ?_
      refine lv_icmp_le (tgt := 22) hx hb dX5_worth_17 (by decide) (fun c5 => ?_) (fun c5 => ?_)
      · replace hm := ipos hm c5
        refine lv_aload_n hx hb dX5_worth_22 rfl (lv_at hl 0 rfl) ?_
        refine f_get S hK hw.1 in_X5_worth_X5 0 rfl rfl 4 (by decide) (List.mem_of_getElem? (i := 2) rfl) rfl rfl dX5_worth_23 ?_
        refine f_get S hK hw.1 in_X5_worth_X4 11 rfl rfl 2 (by decide) (List.mem_of_getElem? (i := 3) rfl) rfl rfl dX5_worth_26 ?_
        refine lv_iload_n hx hb dX5_worth_29 rfl (lv_at hl 1 rfl) ?_
        obtain ⟨r6, h7, hm⟩ := ob hm
        refine k_rSi S hK hw.1 cal_X5_bit gX5_worth_X5_bit (c_X5_bit l D cC cI cJ p0 r6 h7) ⟨⟨rfl, rfl⟩, Nat.le_of_ble_eq_true rfl, Nat.le_of_ble_eq_true rfl⟩ [] rfl rfl hl.1 rfl (Nat.le_of_ble_eq_true rfl) dX5_worth_30 ⟨Nat.zero_le _, Nat.zero_le _⟩ ?_
        refine lv_iand hx hb dX5_worth_33 ?_
        refine lv_if_eq (tgt := 40) hx hb dX5_worth_34 (by decide) (fun c8 => ?_) (fun c8 => ?_)
        · replace hm := ipos hm c8
          refine lv_aload_n hx hb dX5_worth_40 rfl (lv_at hl 0 rfl) ?_
          refine f_get S hK hw.1 in_X5_worth_X5 0 rfl rfl 5 (by decide) (List.mem_of_getElem? (i := 4) rfl) rfl rfl dX5_worth_41 ?_
          refine lv_aload_n hx hb dX5_worth_44 rfl (lv_at hl 0 rfl) ?_
          refine f_get S hK hw.1 in_X5_worth_X5 0 rfl rfl 4 (by decide) (List.mem_of_getElem? (i := 2) rfl) rfl rfl dX5_worth_45 ?_
          obtain ⟨r9, h10, hm⟩ := ob hm
          refine k_rVl S hK hw.1 cal_X4_packed gX5_worth_X4_packed (c_X4_packed l D cC cI cJ a_no no_asked no_brought no_friends no_used no_crumbs no_day r9 h10) ⟨⟨rfl, rfl⟩, Nat.le_of_ble_eq_true rfl, Nat.le_of_ble_eq_true rfl⟩ [11] rfl 11 rfl rfl rfl hl.1 rfl (Nat.le_of_ble_eq_true rfl) dX5_worth_48 ⟨Nat.zero_le _, Nat.zero_le _⟩ ?_
          obtain ⟨r11, h12, hm⟩ := ob hm
          refine k_wVv S hK hw cal_X4_unpack gX5_worth_X4_unpack (c_X4_unpack l D cC cI cJ a_tr tr_asked tr_brought tr_friends tr_used tr_crumbs tr_day r9 (aw _) (hw.own [12] (by decide) rfl) r11 h12) ⟨⟨rfl, rfl⟩, Nat.le_of_ble_eq_true rfl, Nat.le_of_ble_eq_true rfl⟩ [12] rfl 12 rfl rfl rfl hl.1 rfl (Nat.le_of_ble_eq_true rfl) dX5_worth_51 ⟨Nat.zero_le _, Nat.zero_le _⟩ (fun H locs hJ hB => ?_)
          have hw := hJ _ hB rfl
          replace hw : Wd D A _ (wd_15 cC cI cJ a_x g_x_text x_letters a_mo g_x_spare a_no a_tr g_x_undoable g_x_kept g_x_seen a_us a_sr a_mo mo_tasks mo_helpers mo_askedFirst mo_crumbsFirst mo_lastDay a_mo_kinds a_mo_days a_mo_rideDays a_mo_helpKinds a_mo_nexts a_mo_helperKinds a_mo_prices a_mo_helpersOfKind a_mo_numbers a_mo_kinds mo_kinds a_mo_days mo_days a_mo_rideDays mo_rideDays a_mo_helpKinds mo_helpKinds a_mo_nexts mo_nexts a_mo_helperKinds mo_helperKinds a_mo_prices mo_prices a_mo_helpersOfKind mo_helpersOfKind a_mo_numbers mo_numbers a_no no_asked no_brought no_friends no_used no_crumbs no_day a_tr r11.1 r11.2.1 r11.2.2.1 r11.2.2.2.1 r11.2.2.2.2.1 r11.2.2.2.2.2 a_us us_size us_lastPlace a_us_left a_us_left us_left a_sr a_sr_known a_ro a_us sr_number sr_enough sr_tooLong g_sr_months g_sr_heeded a_sr_known sr_known a_ro ro_asked ro_brought ro_friends ro_used ro_crumbs ro_day) H locs := hw
          refine lv_aload_n hx hb dX5_worth_54 rfl (lv_at hl 0 rfl) ?_
          refine f_get S hK hw.1 in_X5_worth_X5 0 rfl rfl 5 (by decide) (List.mem_of_getElem? (i := 4) rfl) rfl rfl dX5_worth_55 ?_
          refine lv_dup hx hb dX5_worth_58 rfl ?_
          refine f_get S hK hw.1 in_X5_worth_X4 12 rfl rfl 2 (by decide) (List.mem_of_getElem? (i := 3) rfl) rfl rfl dX5_worth_59 ?_
          refine lv_iload_n hx hb dX5_worth_62 rfl (lv_at hl 1 rfl) ?_
          obtain ⟨r13, h14, hm⟩ := ob hm
          refine k_rSi S hK hw.1 cal_X5_bit gX5_worth_X5_bit (c_X5_bit l D cC cI cJ p0 r13 h14) ⟨⟨rfl, rfl⟩, Nat.le_of_ble_eq_true rfl, Nat.le_of_ble_eq_true rfl⟩ [] rfl rfl hl.1 rfl (Nat.le_of_ble_eq_true rfl) dX5_worth_63 ⟨Nat.zero_le _, Nat.zero_le _⟩ ?_
          refine lv_ior hx hb dX5_worth_66 ?_
          refine f_put S hK hw in_X5_worth_X4 tyX4_ok nmX4 12 rfl rfl 2 (by decide) (List.mem_of_getElem? (i := 3) rfl) rfl rfl rfl rfl (Nat.le_of_ble_eq_true rfl) (ws1 := (wd_15 cC cI cJ a_x g_x_text x_letters a_mo g_x_spare a_no a_tr g_x_undoable g_x_kept g_x_seen a_us a_sr a_mo mo_tasks mo_helpers mo_askedFirst mo_crumbsFirst mo_lastDay a_mo_kinds a_mo_days a_mo_rideDays a_mo_helpKinds a_mo_nexts a_mo_helperKinds a_mo_prices a_mo_helpersOfKind a_mo_numbers a_mo_kinds mo_kinds a_mo_days mo_days a_mo_rideDays mo_rideDays a_mo_helpKinds mo_helpKinds a_mo_nexts mo_nexts a_mo_helperKinds mo_helperKinds a_mo_prices mo_prices a_mo_helpersOfKind mo_helpersOfKind a_mo_numbers mo_numbers a_no no_asked no_brought no_friends no_used no_crumbs no_day a_tr r11.1 r11.2.1 (r11.2.2.1 ||| r13) r11.2.2.2.1 r11.2.2.2.2.1 r11.2.2.2.2.2 a_us us_size us_lastPlace a_us_left a_us_left us_left a_sr a_sr_known a_ro a_us sr_number sr_enough sr_tooLong g_sr_months g_sr_heeded a_sr_known sr_known a_ro ro_asked ro_brought ro_friends ro_used ro_crumbs ro_day)) rfl dX5_worth_67 (fun H locs hw => ?_)
          refine lv_iload_n hx hb dX5_worth_70 rfl (lv_at hl 2 rfl) ?_
          refine lv_if_ne (tgt := 120) hx hb dX5_worth_71 (by decide) (fun c15 => ?_) (fun c15 => ?_)
          · replace hm := ineg hm c15
            refine lv_aload_n hx hb dX5_worth_120 rfl (lv_at hl 0 rfl) ?_
            refine f_get S hK hw.1 in_X5_worth_X5 0 rfl rfl 10 (by decide) (List.mem_of_getElem? (i := 5) rfl) rfl rfl dX5_worth_121 ?_
            refine lv_aload_n hx hb dX5_worth_124 rfl (lv_at hl 0 rfl) ?_
            refine f_get S hK hw.1 in_X5_worth_X5 0 rfl rfl 2 (by decide) (List.mem_of_getElem? (i := 1) rfl) rfl rfl dX5_worth_125 ?_
            refine lv_aload_n hx hb dX5_worth_128 rfl (lv_at hl 0 rfl) ?_
            refine f_get S hK hw.1 in_X5_worth_X5 0 rfl rfl 4 (by decide) (List.mem_of_getElem? (i := 2) rfl) rfl rfl dX5_worth_129 ?_
            obtain ⟨r16, h17, hm⟩ := ob hm
            refine k_wVi S hK hw cal_X2_fewestSet gX5_worth_X2_fewestSet (c_X2_fewestSet l D cC cI cJ a_sr a_sr_known a_ro a_us g_sr_months g_sr_heeded a_us_left a_mo a_mo_kinds a_mo_days a_mo_rideDays a_mo_helpKinds a_mo_nexts a_mo_helperKinds a_mo_prices a_mo_helpersOfKind a_mo_numbers a_no sr_number sr_enough sr_tooLong sr_known ro_asked ro_brought ro_friends ro_used ro_crumbs ro_day us_size us_lastPlace us_left mo_tasks mo_helpers mo_askedFirst mo_crumbsFirst mo_lastDay mo_kinds mo_days mo_rideDays mo_helpKinds mo_nexts mo_helperKinds mo_prices mo_helpersOfKind mo_numbers no_asked no_brought no_friends no_used no_crumbs no_day N (aw _) (hw.own [15, 16, 17, 13, 14, 1, 2, 3, 4, 5, 6, 7, 8, 9, 10, 11] (by decide) rfl) r16 h17) ⟨⟨rfl, rfl⟩, Nat.le_of_ble_eq_true rfl, Nat.le_of_ble_eq_true rfl⟩ [15, 16, 17, 13, 14, 1, 2, 3, 4, 5, 6, 7, 8, 9, 10, 11] rfl 15 rfl rfl rfl hl.1 rfl (Nat.le_of_ble_eq_true rfl) dX5_worth_132 ⟨Nat.zero_le _, Nat.zero_le _⟩ (fun H locs hJ hB => ?_)
            have hw := hJ _ hB rfl
            replace hw : Wd D A _ (wd_15 cC cI cJ a_x g_x_text x_letters a_mo g_x_spare a_no a_tr g_x_undoable g_x_kept g_x_seen a_us a_sr a_mo mo_tasks mo_helpers mo_askedFirst mo_crumbsFirst mo_lastDay a_mo_kinds a_mo_days a_mo_rideDays a_mo_helpKinds a_mo_nexts a_mo_helperKinds a_mo_prices a_mo_helpersOfKind a_mo_numbers a_mo_kinds mo_kinds a_mo_days mo_days a_mo_rideDays mo_rideDays a_mo_helpKinds mo_helpKinds a_mo_nexts mo_nexts a_mo_helperKinds mo_helperKinds a_mo_prices mo_prices a_mo_helpersOfKind mo_helpersOfKind a_mo_numbers mo_numbers a_no no_asked no_brought no_friends no_used no_crumbs no_day a_tr r11.1 r11.2.1 (r11.2.2.1 ||| r13) r11.2.2.2.1 r11.2.2.2.2.1 r11.2.2.2.2.2 a_us us_size us_lastPlace a_us_left a_us_left us_left a_sr a_sr_known a_ro a_us r16.2.1 r16.2.2.1 r16.2.2.2.1 a_mo a_us a_sr_known r16.2.2.2.2.1 a_ro r16.2.2.2.2.2.1 r16.2.2.2.2.2.2.1 r16.2.2.2.2.2.2.2.1 r16.2.2.2.2.2.2.2.2.1 r16.2.2.2.2.2.2.2.2.2.1 r16.2.2.2.2.2.2.2.2.2.2) H locs := hw
            refine lv_istore_n (lv' := [(3, .int r16.1), (0, .ref a_x), (1, .int p0), (2, .int p1)]) hx hb dX5_worth_135 rfl hl (by decide) rfl (fun ls hl => ?_)
            refine lv_aload_n hx hb dX5_worth_136 rfl (lv_at hl 1 rfl) ?_
            refine f_get S hK hw.1 in_X5_worth_X5 0 rfl rfl 10 (by decide) (List.mem_of_getElem? (i := 5) rfl) rfl rfl dX5_worth_137 ?_
            refine lv_aload_n hx hb dX5_worth_140 rfl (lv_at hl 1 rfl) ?_
            refine f_get S hK hw.1 in_X5_worth_X5 0 rfl rfl 2 (by decide) (List.mem_of_getElem? (i := 1) rfl) rfl rfl dX5_worth_141 ?_
            refine lv_aload_n hx hb dX5_worth_144 rfl (lv_at hl 1 rfl) ?_
            refine f_get S hK hw.1 in_X5_worth_X5 0 rfl rfl 5 (by decide) (List.mem_of_getElem? (i := 4) rfl) rfl rfl dX5_worth_145 ?_
            obtain ⟨r18, h19, hm⟩ := ob hm
            refine k_wVi S hK hw cal_X2_fewestSet gX5_worth_X2_fewestSet (c_X2_fewestSet l D cC cI cJ a_sr a_sr_known a_ro a_us a_mo a_us a_us_left a_mo a_mo_kinds a_mo_days a_mo_rideDays a_mo_helpKinds a_mo_nexts a_mo_helperKinds a_mo_prices a_mo_helpersOfKind a_mo_numbers a_tr r16.2.1 r16.2.2.1 r16.2.2.2.1 r16.2.2.2.2.1 r16.2.2.2.2.2.1 r16.2.2.2.2.2.2.1 r16.2.2.2.2.2.2.2.1 r16.2.2.2.2.2.2.2.2.1 r16.2.2.2.2.2.2.2.2.2.1 r16.2.2.2.2.2.2.2.2.2.2 us_size us_lastPlace us_left mo_tasks mo_helpers mo_askedFirst mo_crumbsFirst mo_lastDay mo_kinds mo_days mo_rideDays mo_helpKinds mo_nexts mo_helperKinds mo_prices mo_helpersOfKind mo_numbers r11.1 r11.2.1 (r11.2.2.1 ||| r13) r11.2.2.2.1 r11.2.2.2.2.1 r11.2.2.2.2.2 N (aw _) (hw.own [15, 16, 17, 13, 14, 1, 2, 3, 4, 5, 6, 7, 8, 9, 10, 12] (by decide) rfl) r18 h19) ⟨⟨rfl, rfl⟩, Nat.le_of_ble_eq_true rfl, Nat.le_of_ble_eq_true rfl⟩ [15, 16, 17, 13, 14, 1, 2, 3, 4, 5, 6, 7, 8, 9, 10, 12] rfl 15 rfl rfl rfl hl.1 rfl (Nat.le_of_ble_eq_true rfl) dX5_worth_148 ⟨Nat.zero_le _, Nat.zero_le _⟩ (fun H locs hJ hB => ?_)
            have hw := hJ _ hB rfl
            replace hw : Wd D A _ (wd_15 cC cI cJ a_x g_x_text x_letters a_mo g_x_spare a_no a_tr g_x_undoable g_x_kept g_x_seen a_us a_sr a_mo mo_tasks mo_helpers mo_askedFirst mo_crumbsFirst mo_lastDay a_mo_kinds a_mo_days a_mo_rideDays a_mo_helpKinds a_mo_nexts a_mo_helperKinds a_mo_prices a_mo_helpersOfKind a_mo_numbers a_mo_kinds mo_kinds a_mo_days mo_days a_mo_rideDays mo_rideDays a_mo_helpKinds mo_helpKinds a_mo_nexts mo_nexts a_mo_helperKinds mo_helperKinds a_mo_prices mo_prices a_mo_helpersOfKind mo_helpersOfKind a_mo_numbers mo_numbers a_no no_asked no_brought no_friends no_used no_crumbs no_day a_tr r11.1 r11.2.1 (r11.2.2.1 ||| r13) r11.2.2.2.1 r11.2.2.2.2.1 r11.2.2.2.2.2 a_us us_size us_lastPlace a_us_left a_us_left us_left a_sr a_sr_known a_ro a_us r18.2.1 r18.2.2.1 r18.2.2.2.1 a_mo a_us a_sr_known r18.2.2.2.2.1 a_ro r18.2.2.2.2.2.1 r18.2.2.2.2.2.2.1 r18.2.2.2.2.2.2.2.1 r18.2.2.2.2.2.2.2.2.1 r18.2.2.2.2.2.2.2.2.2.1 r18.2.2.2.2.2.2.2.2.2.2) H locs := hw
            refine lv_istore (lv' := [(4, .int r18.1), (3, .int r16.1), (0, .ref a_x), (1, .int p0), (2, .int p1)]) hx hb dX5_worth_151 hl (by decide) rfl (fun ls hl => ?_)
            refine lv_iload_n hx hb dX5_worth_153 rfl (lv_at hl 1 rfl) ?_
            refine lv_if_lt (tgt := 162) hx hb dX5_worth_154 (by decide) (fun c20 => ?_) (fun c20 => ?_)
            · replace hm := ipos hm c20
              refine lv_bipush (v := (-4)) hx hb dX5_worth_162 (by decide) ?_
              obtain rfl := Option.some.inj hm
              exact e_WI S hr hlk hw rfl ⟨a_mo, a_us, hw.1⟩ dX5_worth_164
            · replace hm := ineg hm c20
              refine lv_iload hx hb dX5_worth_157 (lv_at hl 0 rfl) ?_
              refine lv_if_ge (tgt := 165) hx hb dX5_worth_159 (by decide) (fun c21 => ?_) (fun c21 => ?_)
              · replace hm := ipos hm c21
                refine lv_aload_n hx hb dX5_worth_165 rfl (lv_at hl 2 rfl) ?_
                refine f_get S hK hw.1 in_X5_worth_X5 0 rfl rfl 2 (by decide) (List.mem_of_getElem? (i := 1) rfl) rfl rfl dX5_worth_166 ?_
                refine lv_iload_n hx hb dX5_worth_169 rfl (lv_at hl 1 rfl) ?_
                obtain ⟨r22, h23, hm⟩ := ob hm
                refine k_rVi S hK hw.1 cal_X0_priceOfSet gX5_worth_X0_priceOfSet (c_X0_priceOfSet l D cC cI cJ a_mo a_mo_kinds a_mo_days a_mo_rideDays a_mo_helpKinds a_mo_nexts a_mo_helperKinds a_mo_prices a_mo_helpersOfKind a_mo_numbers mo_tasks mo_helpers mo_askedFirst mo_crumbsFirst mo_lastDay mo_kinds mo_days mo_rideDays mo_helpKinds mo_nexts mo_helperKinds mo_prices mo_helpersOfKind mo_numbers r16.1 N r22 h23) ⟨⟨rfl, rfl⟩, Nat.le_of_ble_eq_true rfl, Nat.le_of_ble_eq_true rfl⟩ [1, 2, 3, 4, 5, 6, 7, 8, 9, 10] rfl 1 rfl rfl rfl hl.1 rfl (Nat.le_of_ble_eq_true rfl) dX5_worth_170 ⟨Nat.zero_le _, Nat.zero_le _⟩ ?_
                refine lv_aload_n hx hb dX5_worth_173 rfl (lv_at hl 2 rfl) ?_
                refine f_get S hK hw.1 in_X5_worth_X5 0 rfl rfl 2 (by decide) (List.mem_of_getElem? (i := 1) rfl) rfl rfl dX5_worth_174 ?_
                refine lv_iload hx hb dX5_worth_177 (lv_at hl 0 rfl) ?_
                obtain ⟨r24, h25, hm⟩ := ob hm
                refine k_rVi S hK hw.1 cal_X0_priceOfSet gX5_worth_X0_priceOfSet (c_X0_priceOfSet l D cC cI cJ a_mo a_mo_kinds a_mo_days a_mo_rideDays a_mo_helpKinds a_mo_nexts a_mo_helperKinds a_mo_prices a_mo_helpersOfKind a_mo_numbers mo_tasks mo_helpers mo_askedFirst mo_crumbsFirst mo_lastDay mo_kinds mo_days mo_rideDays mo_helpKinds mo_nexts mo_helperKinds mo_prices mo_helpersOfKind mo_numbers r18.1 N r24 h25) ⟨⟨rfl, rfl⟩, Nat.le_of_ble_eq_true rfl, Nat.le_of_ble_eq_true rfl⟩ [1, 2, 3, 4, 5, 6, 7, 8, 9, 10] rfl 1 rfl rfl rfl hl.1 rfl (Nat.le_of_ble_eq_true rfl) dX5_worth_179 ⟨Nat.zero_le _, Nat.zero_le _⟩ ?_
                refine lv_isub hx hb dX5_worth_182 ?_
                obtain rfl := Option.some.inj hm
                exact e_WI S hr hlk hw rfl ⟨a_mo, a_us, hw.1⟩ dX5_worth_183
              · replace hm := ineg hm c21
                refine lv_bipush (v := (-4)) hx hb dX5_worth_162 (by decide) ?_
                obtain rfl := Option.some.inj hm
                exact e_WI S hr hlk hw rfl ⟨a_mo, a_us, hw.1⟩ dX5_worth_164
          · replace hm := ipos hm c15
            refine lv_aload_n hx hb dX5_worth_74 rfl (lv_at hl 0 rfl) ?_
            refine f_get S hK hw.1 in_X5_worth_X5 0 rfl rfl 10 (by decide) (List.mem_of_getElem? (i := 5) rfl) rfl rfl dX5_worth_75 ?_
            refine lv_aload_n hx hb dX5_worth_78 rfl (lv_at hl 0 rfl) ?_
            refine f_get S hK hw.1 in_X5_worth_X5 0 rfl rfl 2 (by decide) (List.mem_of_getElem? (i := 1) rfl) rfl rfl dX5_worth_79 ?_
            refine lv_aload_n hx hb dX5_worth_82 rfl (lv_at hl 0 rfl) ?_
            refine f_get S hK hw.1 in_X5_worth_X5 0 rfl rfl 4 (by decide) (List.mem_of_getElem? (i := 2) rfl) rfl rfl dX5_worth_83 ?_
            refine lv_aload_n hx hb dX5_worth_86 rfl (lv_at hl 0 rfl) ?_
            refine f_get S hK hw.1 in_X5_worth_X5 0 rfl rfl 9 (by decide) (List.mem_of_getElem? (i := 6) rfl) rfl rfl dX5_worth_87 ?_
            obtain ⟨r26, h27, hm⟩ := ob hm
            refine k_wVi S hK hw cal_X2_waysOf gX5_worth_X2_waysOf (c_X2_waysOf l D cC cI cJ a_sr a_sr_known a_ro a_us g_sr_months g_sr_heeded a_mo a_mo_kinds a_mo_days a_mo_rideDays a_mo_helpKinds a_mo_nexts a_mo_helperKinds a_mo_prices a_mo_helpersOfKind a_mo_numbers a_no a_us a_us_left sr_number sr_enough sr_tooLong sr_known ro_asked ro_brought ro_friends ro_used ro_crumbs ro_day mo_tasks mo_helpers mo_askedFirst mo_crumbsFirst mo_lastDay mo_kinds mo_days mo_rideDays mo_helpKinds mo_nexts mo_helperKinds mo_prices mo_helpersOfKind mo_numbers no_asked no_brought no_friends no_used no_crumbs no_day us_size us_lastPlace us_left N (aw _) (hw.own [15, 16, 17, 1, 2, 3, 4, 5, 6, 7, 8, 9, 10, 11, 13, 14] (by decide) rfl) r26 h27) ⟨⟨rfl, rfl⟩, Nat.le_of_ble_eq_true rfl, Nat.le_of_ble_eq_true rfl⟩ [15, 16, 17, 1, 2, 3, 4, 5, 6, 7, 8, 9, 10, 11, 13, 14] rfl 15 rfl rfl rfl hl.1 rfl (Nat.le_of_ble_eq_true rfl) dX5_worth_90 ⟨Nat.zero_le _, Nat.zero_le _⟩ (fun H locs hJ hB => ?_)
            have hw := hJ _ hB rfl
            replace hw : Wd D A _ (wd_15 cC cI cJ a_x g_x_text x_letters a_mo g_x_spare a_no a_tr g_x_undoable g_x_kept g_x_seen a_us a_sr a_mo mo_tasks mo_helpers mo_askedFirst mo_crumbsFirst mo_lastDay a_mo_kinds a_mo_days a_mo_rideDays a_mo_helpKinds a_mo_nexts a_mo_helperKinds a_mo_prices a_mo_helpersOfKind a_mo_numbers a_mo_kinds mo_kinds a_mo_days mo_days a_mo_rideDays mo_rideDays a_mo_helpKinds mo_helpKinds a_mo_nexts mo_nexts a_mo_helperKinds mo_helperKinds a_mo_prices mo_prices a_mo_helpersOfKind mo_helpersOfKind a_mo_numbers mo_numbers a_no no_asked no_brought no_friends no_used no_crumbs no_day a_tr r11.1 r11.2.1 (r11.2.2.1 ||| r13) r11.2.2.2.1 r11.2.2.2.2.1 r11.2.2.2.2.2 a_us us_size us_lastPlace a_us_left a_us_left us_left a_sr a_sr_known a_ro a_us r26.2.1 r26.2.2.1 r26.2.2.2.1 a_mo a_us a_sr_known r26.2.2.2.2.1 a_ro r26.2.2.2.2.2.1 r26.2.2.2.2.2.2.1 r26.2.2.2.2.2.2.2.1 r26.2.2.2.2.2.2.2.2.1 r26.2.2.2.2.2.2.2.2.2.1 r26.2.2.2.2.2.2.2.2.2.2) H locs := hw
            refine lv_istore_n (lv' := [(3, .int r26.1), (0, .ref a_x), (1, .int p0), (2, .int p1)]) hx hb dX5_worth_93 rfl hl (by decide) rfl (fun ls hl => ?_)
            refine lv_iconst (v := 0) hx hb dX5_worth_94 (by decide) ?_
            refine lv_aload_n hx hb dX5_worth_95 rfl (lv_at hl 1 rfl) ?_
            refine f_get S hK hw.1 in_X5_worth_X5 0 rfl rfl 10 (by decide) (List.mem_of_getElem? (i := 5) rfl) rfl rfl dX5_worth_96 ?_
            refine lv_aload_n hx hb dX5_worth_99 rfl (lv_at hl 1 rfl) ?_
            refine f_get S hK hw.1 in_X5_worth_X5 0 rfl rfl 2 (by decide) (List.mem_of_getElem? (i := 1) rfl) rfl rfl dX5_worth_100 ?_
            refine lv_aload_n hx hb dX5_worth_103 rfl (lv_at hl 1 rfl) ?_
            refine f_get S hK hw.1 in_X5_worth_X5 0 rfl rfl 5 (by decide) (List.mem_of_getElem? (i := 4) rfl) rfl rfl dX5_worth_104 ?_
            refine lv_aload_n hx hb dX5_worth_107 rfl (lv_at hl 1 rfl) ?_
            refine f_get S hK hw.1 in_X5_worth_X5 0 rfl rfl 9 (by decide) (List.mem_of_getElem? (i := 6) rfl) rfl rfl dX5_worth_108 ?_
            obtain ⟨r28, h29, hm⟩ := ob hm
            refine k_wVi S hK hw cal_X2_waysOf gX5_worth_X2_waysOf (c_X2_waysOf l D cC cI cJ a_sr a_sr_known a_ro a_us a_mo a_us a_mo a_mo_kinds a_mo_days a_mo_rideDays a_mo_helpKinds a_mo_nexts a_mo_helperKinds a_mo_prices a_mo_helpersOfKind a_mo_numbers a_tr a_us a_us_left r26.2.1 r26.2.2.1 r26.2.2.2.1 r26.2.2.2.2.1 r26.2.2.2.2.2.1 r26.2.2.2.2.2.2.1 r26.2.2.2.2.2.2.2.1 r26.2.2.2.2.2.2.2.2.1 r26.2.2.2.2.2.2.2.2.2.1 r26.2.2.2.2.2.2.2.2.2.2 mo_tasks mo_helpers mo_askedFirst mo_crumbsFirst mo_lastDay mo_kinds mo_days mo_rideDays mo_helpKinds mo_nexts mo_helperKinds mo_prices mo_helpersOfKind mo_numbers r11.1 r11.2.1 (r11.2.2.1 ||| r13) r11.2.2.2.1 r11.2.2.2.2.1 r11.2.2.2.2.2 us_size us_lastPlace us_left N (aw _) (hw.own [15, 16, 17, 1, 2, 3, 4, 5, 6, 7, 8, 9, 10, 12, 13, 14] (by decide) rfl) r28 h29) ⟨⟨rfl, rfl⟩, Nat.le_of_ble_eq_true rfl, Nat.le_of_ble_eq_true rfl⟩ [15, 16, 17, 1, 2, 3, 4, 5, 6, 7, 8, 9, 10, 12, 13, 14] rfl 15 rfl rfl rfl hl.1 rfl (Nat.le_of_ble_eq_true rfl) dX5_worth_111 ⟨Nat.zero_le _, Nat.zero_le _⟩ (fun H locs hJ hB => ?_)
            have hw := hJ _ hB rfl
            replace hw : Wd D A _ (wd_15 cC cI cJ a_x g_x_text x_letters a_mo g_x_spare a_no a_tr g_x_undoable g_x_kept g_x_seen a_us a_sr a_mo mo_tasks mo_helpers mo_askedFirst mo_crumbsFirst mo_lastDay a_mo_kinds a_mo_days a_mo_rideDays a_mo_helpKinds a_mo_nexts a_mo_helperKinds a_mo_prices a_mo_helpersOfKind a_mo_numbers a_mo_kinds mo_kinds a_mo_days mo_days a_mo_rideDays mo_rideDays a_mo_helpKinds mo_helpKinds a_mo_nexts mo_nexts a_mo_helperKinds mo_helperKinds a_mo_prices mo_prices a_mo_helpersOfKind mo_helpersOfKind a_mo_numbers mo_numbers a_no no_asked no_brought no_friends no_used no_crumbs no_day a_tr r11.1 r11.2.1 (r11.2.2.1 ||| r13) r11.2.2.2.1 r11.2.2.2.2.1 r11.2.2.2.2.2 a_us us_size us_lastPlace a_us_left a_us_left us_left a_sr a_sr_known a_ro a_us r28.2.1 r28.2.2.1 r28.2.2.2.1 a_mo a_us a_sr_known r28.2.2.2.2.1 a_ro r28.2.2.2.2.2.1 r28.2.2.2.2.2.2.1 r28.2.2.2.2.2.2.2.1 r28.2.2.2.2.2.2.2.2.1 r28.2.2.2.2.2.2.2.2.2.1 r28.2.2.2.2.2.2.2.2.2.2) H locs := hw
            refine lv_iload_n hx hb dX5_worth_114 rfl (lv_at hl 0 rfl) ?_
            refine lv_isub hx hb dX5_worth_115 ?_
            refine va_mmax hx hb (S.2.2.1.trans hl.1.symm) S.2.2.2.1 (S.2.2.2.2 _ (List.mem_of_getElem? (i := 7) rfl)) (S.2.2.2.2 _ (List.mem_of_getElem? (i := 8) rfl)) (S.2.2.2.2 _ (List.mem_of_getElem? (i := 9) rfl)) (S.2.2.2.2 _ (List.mem_of_getElem? (i := 10) rfl)) (Nat.le_of_ble_eq_true rfl) (Nat.le_of_ble_eq_true rfl) (Nat.zero_le _) (Nat.zero_le _) dX5_worth_116 ?_
            obtain rfl := Option.some.inj hm
            exact e_WI S hr hlk hw rfl ⟨a_mo, a_us, hw.1⟩ dX5_worth_119
        · replace hm := ineg hm c8
          refine lv_bipush (v := (-2)) hx hb dX5_worth_37 (by decide) ?_
          obtain rfl := Option.some.inj hm
          exact e_WI S hr hlk hw rfl ⟨g_sr_months, g_sr_heeded, hw.1⟩ dX5_worth_39
      · replace hm := ineg hm c5
        refine lv_iconst (v := (-1)) hx hb dX5_worth_20 (by decide) ?_
        obtain rfl := Option.some.inj hm
        exact e_WI S hr hlk hw rfl ⟨g_sr_months, g_sr_heeded, hw.1⟩ dX5_worth_21

abbrev rX5_write : Room := { frames := 0, cells := 0, slots := 0, locals := 0 }
theorem cal_X5_write : Cal yX5_write wsX5_write cX5_write 2 (some .int) RX5 1 := ⟨⟨_, rfl⟩, rfl, by decide +kernel, by decide +kernel, by decide +kernel⟩
theorem in_X5_write_X5 : ∀ w ∈ wsX50, w ∈ wsX5_write := fun _ h => (List.mem_cons_of_mem _ (List.mem_append_right _ h))
set_option maxHeartbeats 4000000 in
set_option maxRecDepth 100000 in
theorem c_X5_write (l : Launch) (D : va_G) (cC cI cJ : ClassId) (a_x : Nat) (a_x_text : Nat) (g_x_months : Nat) (g_x_spare : Nat) (g_x_now : Nat) (g_x_trial : Nat) (g_x_undoable : Nat) (g_x_kept : Nat) (g_x_seen : Nat) (g_x_unseen : Nat) (g_x_search : Nat) (x_letters : Int32) (x_text : (Nat → Int32)) (p0 : Int32) (A : Nat → Prop) (hD : va_D A (wd_27 cC cI cJ a_x a_x_text x_letters g_x_months g_x_spare g_x_now g_x_trial g_x_undoable g_x_kept g_x_seen g_x_unseen g_x_search a_x_text x_text)) (out : (Int32 × Int32 × (Nat → Int32))) (hm : m_X5_write x_letters x_text p0 = some out) : WrI l yX5_write wsX5_write rX5_write D (tyK cC cI cJ) [.ref a_x, .int p0] A (wd_27 cC cI cJ a_x a_x_text x_letters g_x_months g_x_spare g_x_now g_x_trial g_x_undoable g_x_kept g_x_seen g_x_unseen g_x_search a_x_text x_text) (Bw0 D (wd_27 cC cI cJ a_x a_x_text out.2.1 g_x_months g_x_spare g_x_now g_x_trial g_x_undoable g_x_kept g_x_seen g_x_unseen g_x_search a_x_text out.2.2)) out.1 := by
  unfold m_X5_write at hm
  refine enter (cc := cX5_write) (maxL := 2) (ret := (some .int)) (lv := [(0, .ref a_x), (1, .int p0)]) (by decide) rfl (Nat.le_of_ble_eq_true rfl) rfl ?_
  intro p e s m args below meth c S hr hlk hK hP ls hl
  replace S : CallFix p m c cX5_write 2 s args wsX5_write RX5 := S
  have hx := S.1
  have hb := S.2.1
  have hw : Wd D A s.heap (wd_27 cC cI cJ a_x a_x_text x_letters g_x_months g_x_spare g_x_now g_x_trial g_x_undoable g_x_kept g_x_seen g_x_unseen g_x_search a_x_text x_text) s.heap [] := ⟨hP, hD, va_S.rf⟩
  have hw0 := hw
  refine lv_iload_n hx hb dX5_write_0 rfl (lv_at hl 1 rfl) ?_
  refine lv_bipush (v := 32) hx hb dX5_write_1 (by decide) ?_
  refine lv_icmp_lt (tgt := 12) hx hb dX5_write_3 (by decide) (fun c1 => ?_) (fun c1 => ?_)
  · replace hm := ipos hm c1
    refine lv_iconst (v := (-1)) hx hb dX5_write_12 (by decide) ?_
    obtain rfl := Option.some.inj hm
    exact e_WI S hr hlk hw rfl hw.1 dX5_write_13
  · replace hm := ineg hm c1
    refine lv_iload_n hx hb dX5_write_6 rfl (lv_at hl 1 rfl) ?_
    refine lv_bipush (v := 126) hx hb dX5_write_7 (by decide) ?_
    refine lv_icmp_le (tgt := 14) hx hb dX5_write_9 (by decide) (fun c2 => ?_) (fun c2 => ?_)
    · replace hm := ipos hm c2
      refine lv_aload_n hx hb dX5_write_14 rfl (lv_at hl 0 rfl) ?_
      refine f_get S hK hw.1 in_X5_write_X5 0 rfl rfl 1 (by decide) (List.mem_of_getElem? (i := 1) rfl) rfl rfl dX5_write_15 ?_
      refine lv_if_lt (tgt := 33) hx hb dX5_write_18 (by decide) (fun c3 => ?_) (fun c3 => ?_)
      · replace hm := ipos hm c3
        refine lv_bipush (v := (-3)) hx hb dX5_write_33 (by decide) ?_
        obtain rfl := Option.some.inj hm
        exact e_WI S hr hlk hw rfl hw.1 dX5_write_35
      · replace hm := ineg hm c3
        refine lv_aload_n hx hb dX5_write_21 rfl (lv_at hl 0 rfl) ?_
        refine f_get S hK hw.1 in_X5_write_X5 0 rfl rfl 1 (by decide) (List.mem_of_getElem? (i := 1) rfl) rfl rfl dX5_write_22 ?_
        refine lv_aload_n hx hb dX5_write_25 rfl (lv_at hl 0 rfl) ?_
        refine f_get S hK hw.1 in_X5_write_X5 0 rfl rfl 0 (by decide) (List.mem_of_getElem? (i := 2) rfl) rfl rfl dX5_write_26 ?_
        refine f_alen S hK hw.1 1 0 rfl rfl (v := (200 : Int32)) rfl dX5_write_29 ?_
        refine lv_icmp_lt (tgt := 36) hx hb dX5_write_30 (by decide) (fun c4 => ?_) (fun c4 => ?_)
        · replace hm := ipos hm c4
          refine lv_aload_n hx hb dX5_write_36 rfl (lv_at hl 0 rfl) ?_
          refine f_get S hK hw.1 in_X5_write_X5 0 rfl rfl 0 (by decide) (List.mem_of_getElem? (i := 2) rfl) rfl rfl dX5_write_37 ?_
          refine lv_aload_n hx hb dX5_write_40 rfl (lv_at hl 0 rfl) ?_
          refine f_get S hK hw.1 in_X5_write_X5 0 rfl rfl 1 (by decide) (List.mem_of_getElem? (i := 1) rfl) rfl rfl dX5_write_41 ?_
          refine lv_iload_n hx hb dX5_write_44 rfl (lv_at hl 1 rfl) ?_
          refine lv_i2c (v := ((p0).toUInt32 % 65536).toInt32) hx hb dX5_write_45 rfl ?_
          obtain ⟨y6, e7, hm⟩ := ob hm
          refine f_name e7 ?_
          obtain ⟨g5, hm⟩ := gdo hm
          refine f_cast S hK hw 1 0 rfl rfl g5 (ws1 := (wd_27 cC cI cJ a_x a_x_text x_letters g_x_months g_x_spare g_x_now g_x_trial g_x_undoable g_x_kept g_x_seen g_x_unseen g_x_search a_x_text (upd x_text (x_letters).toNatClampNeg (vp_nar .char y6)))) rfl dX5_write_46 (fun H locs hw => ?_)
          refine lv_aload_n hx hb dX5_write_47 rfl (lv_at hl 0 rfl) ?_
          refine lv_dup hx hb dX5_write_48 rfl ?_
          refine f_get S hK hw.1 in_X5_write_X5 0 rfl rfl 1 (by decide) (List.mem_of_getElem? (i := 1) rfl) rfl rfl dX5_write_49 ?_
          refine lv_iconst (v := 1) hx hb dX5_write_52 (by decide) ?_
          refine lv_iadd hx hb dX5_write_53 ?_
          refine f_put S hK hw in_X5_write_X5 tyX5_ok nmX5 0 rfl rfl 1 (by decide) (List.mem_of_getElem? (i := 1) rfl) rfl rfl rfl rfl (Nat.le_of_ble_eq_true rfl) (ws1 := (wd_27 cC cI cJ a_x a_x_text (x_letters + (1 : Int32)) g_x_months g_x_spare g_x_now g_x_trial g_x_undoable g_x_kept g_x_seen g_x_unseen g_x_search a_x_text (upd x_text (x_letters).toNatClampNeg (vp_nar .char y6)))) rfl dX5_write_54 (fun H locs hw => ?_)
          refine lv_aload_n hx hb dX5_write_57 rfl (lv_at hl 0 rfl) ?_
          refine f_get S hK hw.1 in_X5_write_X5 0 rfl rfl 1 (by decide) (List.mem_of_getElem? (i := 1) rfl) rfl rfl dX5_write_58 ?_
          obtain rfl := Option.some.inj hm
          exact e_WI S hr hlk hw rfl hw.1 dX5_write_61
        · replace hm := ineg hm c4
          refine lv_bipush (v := (-3)) hx hb dX5_write_33 (by decide) ?_
          obtain rfl := Option.some.inj hm
          exact e_WI S hr hlk hw rfl hw.1 dX5_write_35
    · replace hm := ineg hm c2
      refine lv_iconst (v := (-1)) hx hb dX5_write_12 (by decide) ?_
      obtain rfl := Option.some.inj hm
      exact e_WI S hr hlk hw rfl hw.1 dX5_write_13

abbrev rX6_back : Room := { frames := 0, cells := 0, slots := 0, locals := 0 }
theorem cal_X6_back : Cal yX6_back wsX6_back cX6_back 2 (some .int) RX6 0 := ⟨⟨_, rfl⟩, rfl, by decide +kernel, by decide +kernel, by decide +kernel⟩
theorem in_X6_back_X6 : ∀ w ∈ wsX60, w ∈ wsX6_back := fun _ h => (List.mem_cons_of_mem _ (List.mem_append_right _ h))
set_option maxHeartbeats 4000000 in
set_option maxRecDepth 100000 in
theorem t_X6_back_22 {p : Program} {e : Env} {s : State} {m : MethodId} {args : Array Value} {below : List Frame} {meth : Method} {c : Code} {Q : State → Prop} (l : Launch) {D : va_G} {cC cI cJ : ClassId} {A : Nat → Prop} {H0 : Heap} (S : CallFix p m c cX6_back 2 s args wsX6_back RX6) (hK : KK D (tyK cC cI cJ) s) (a_md : Nat) (a_md_text : Nat) (a_md_told : Nat) (a_md_draft : Nat) (a_md_s : Nat) (a_md_past : Nat) (a_md_images : Nat) (a_md_seen : Nat) (a_md_asks : Nat) (a_md_brings : Nat) (a_md_uses : Nat) (a_md_days : Nat) (a_md_tries : Nat) (a_md_row : Nat) (a_md_first : Nat) (a_md_held : Nat) (md_typed : Int32) (md_known : Int32) (md_kept : Int32) (md_sights : Int32) (md_at : Int32) (md_many : Int32) (md_length : Int32) (md_set : Int32) (md_text : (Nat → Int32)) (md_told : (Nat → Int32)) (md_draft : (Nat → Int32)) (md_past : (Nat → Int32)) (md_images : (Nat → Int32)) (md_seen : (Nat → Int32)) (md_asks : (Nat → Int32)) (md_brings : (Nat → Int32)) (md_uses : (Nat → Int32)) (md_days : (Nat → Int32)) (md_tries : (Nat → Int32)) (md_row : (Nat → Int32)) (md_first : (Nat → Int32)) (md_held : (Nat → Int32)) : ∀ (n : Nat) (v1 : Int32) (md_s : (Nat → Int32)) (out : (Nat → Int32)), lp_X6_back_22 md_kept md_images n v1 md_s = some out → ∀ (H : Heap) (locs : List Loc) (ls : Array Slot), Wd D A H0 (wd_28 cC cI cJ a_md a_md_text md_typed a_md_told a_md_draft a_md_s a_md_past md_known a_md_images md_kept a_md_seen md_sights md_at a_md_asks a_md_brings a_md_uses a_md_days a_md_tries a_md_row md_many a_md_first md_length md_set a_md_held a_md_text md_text a_md_told md_told a_md_draft md_draft a_md_s md_s a_md_past md_past a_md_images md_images a_md_seen md_seen a_md_asks md_asks a_md_brings md_brings a_md_uses md_uses a_md_days md_days a_md_tries md_tries a_md_row md_row a_md_first md_first a_md_held md_held) H locs → lv_has ls 2 [(0, .ref a_md), (1, .int v1)] → (∀ (H : Heap) (locs : List Loc) (ls : Array Slot), Wd D A H0 (wd_28 cC cI cJ a_md a_md_text md_typed a_md_told a_md_draft a_md_s a_md_past md_known a_md_images md_kept a_md_seen md_sights md_at a_md_asks a_md_brings a_md_uses a_md_days a_md_tries a_md_row md_many a_md_first md_length md_set a_md_held a_md_text md_text a_md_told md_told a_md_draft md_draft a_md_s out a_md_past md_past a_md_images md_images a_md_seen md_seen a_md_asks md_asks a_md_brings md_brings a_md_uses md_uses a_md_days md_days a_md_tries md_tries a_md_row md_row a_md_first md_first a_md_held md_held) H locs → lv_has ls 2 [(0, .ref a_md)] → W p l e rX6_back s m args below meth c H locs 0 0 Q (F0 m 54 ls [])) → W p l e rX6_back s m args below meth c H locs 0 0 Q (F0 m 22 ls []) := by
  have hx := S.1
  have hb := S.2.1
  intro n
  induction n with
  | zero => intro v1 md_s out hm; cases (show (none : Option (Nat → Int32)) = some out from hm)
  | succ n ih =>
    intro v1 md_s out hm  H locs ls hw hl K0
    rw [lp_X6_back_22] at hm
    refine lv_iload_n hx hb dX6_back_22 rfl (lv_at hl 1 rfl) ?_
    refine lv_bipush (v := 6) hx hb dX6_back_23 (by decide) ?_
    refine lv_icmp_ge (tgt := 54) hx hb dX6_back_25 (by decide) (fun c2 => ?_) (fun c2 => ?_)
    · replace hm := ipos hm c2
      obtain rfl := Option.some.inj hm
      exact K0  _ _ ls hw (lv_sub hl [0] rfl)
    · replace hm := ineg hm c2
      refine lv_aload_n hx hb dX6_back_28 rfl (lv_at hl 0 rfl) ?_
      refine f_get S hK hw.1 in_X6_back_X6 0 rfl rfl 4 (by decide) (List.mem_of_getElem? (i := 2) rfl) rfl rfl dX6_back_29 ?_
      refine lv_iload_n hx hb dX6_back_32 rfl (lv_at hl 1 rfl) ?_
      refine lv_aload_n hx hb dX6_back_33 rfl (lv_at hl 0 rfl) ?_
      refine f_get S hK hw.1 in_X6_back_X6 0 rfl rfl 7 (by decide) (List.mem_of_getElem? (i := 3) rfl) rfl rfl dX6_back_34 ?_
      refine lv_bipush (v := 6) hx hb dX6_back_37 (by decide) ?_
      refine lv_aload_n hx hb dX6_back_39 rfl (lv_at hl 0 rfl) ?_
      refine f_get S hK hw.1 in_X6_back_X6 0 rfl rfl 8 (by decide) (List.mem_of_getElem? (i := 1) rfl) rfl rfl dX6_back_40 ?_
      refine lv_imul hx hb dX6_back_43 ?_
      refine lv_iload_n hx hb dX6_back_44 rfl (lv_at hl 1 rfl) ?_
      refine lv_iadd hx hb dX6_back_45 ?_
      obtain ⟨g3, hm⟩ := gdo hm
      refine f_iald S hK hw.1 6 1 rfl rfl g3 dX6_back_46 ?_
      obtain ⟨y5, e6, hm⟩ := ob hm
      refine f_name e6 ?_
      obtain ⟨g4, hm⟩ := gdo hm
      refine f_iast S hK hw 4 1 rfl rfl g4 (ws1 := (wd_28 cC cI cJ a_md a_md_text md_typed a_md_told a_md_draft a_md_s a_md_past md_known a_md_images md_kept a_md_seen md_sights md_at a_md_asks a_md_brings a_md_uses a_md_days a_md_tries a_md_row md_many a_md_first md_length md_set a_md_held a_md_text md_text a_md_told md_told a_md_draft md_draft a_md_s (upd md_s (v1).toNatClampNeg y5) a_md_past md_past a_md_images md_images a_md_seen md_seen a_md_asks md_asks a_md_brings md_brings a_md_uses md_uses a_md_days md_days a_md_tries md_tries a_md_row md_row a_md_first md_first a_md_held md_held)) rfl dX6_back_47 (fun H locs hw => ?_)
      refine lv_iinc (v := (v1 + 1)) (lv' := [(1, .int (v1 + 1)), (0, .ref a_md)]) hx hb dX6_back_48 hl (k := 1) rfl (by rw [ofi_1]) (by decide) rfl (fun ls hl => ?_)
      refine lv_goto (tgt := 22) hx hb dX6_back_51 (by decide) ?_
      exact ih (v1 + 1) (upd md_s (v1).toNatClampNeg y5) _ hm  _ _ ls hw (lv_sub hl [1, 0] rfl) K0
set_option maxHeartbeats 4000000 in
set_option maxRecDepth 100000 in
theorem c_X6_back (l : Launch) (D : va_G) (cC cI cJ : ClassId) (a_md : Nat) (a_md_text : Nat) (a_md_told : Nat) (a_md_draft : Nat) (a_md_s : Nat) (a_md_past : Nat) (a_md_images : Nat) (a_md_seen : Nat) (a_md_asks : Nat) (a_md_brings : Nat) (a_md_uses : Nat) (a_md_days : Nat) (a_md_tries : Nat) (a_md_row : Nat) (a_md_first : Nat) (a_md_held : Nat) (md_typed : Int32) (md_known : Int32) (md_kept : Int32) (md_sights : Int32) (md_at : Int32) (md_many : Int32) (md_length : Int32) (md_set : Int32) (md_text : (Nat → Int32)) (md_told : (Nat → Int32)) (md_draft : (Nat → Int32)) (md_s : (Nat → Int32)) (md_past : (Nat → Int32)) (md_images : (Nat → Int32)) (md_seen : (Nat → Int32)) (md_asks : (Nat → Int32)) (md_brings : (Nat → Int32)) (md_uses : (Nat → Int32)) (md_days : (Nat → Int32)) (md_tries : (Nat → Int32)) (md_row : (Nat → Int32)) (md_first : (Nat → Int32)) (md_held : (Nat → Int32)) (N : Nat) (A : Nat → Prop) (hD : va_D A (wd_28 cC cI cJ a_md a_md_text md_typed a_md_told a_md_draft a_md_s a_md_past md_known a_md_images md_kept a_md_seen md_sights md_at a_md_asks a_md_brings a_md_uses a_md_days a_md_tries a_md_row md_many a_md_first md_length md_set a_md_held a_md_text md_text a_md_told md_told a_md_draft md_draft a_md_s md_s a_md_past md_past a_md_images md_images a_md_seen md_seen a_md_asks md_asks a_md_brings md_brings a_md_uses md_uses a_md_days md_days a_md_tries md_tries a_md_row md_row a_md_first md_first a_md_held md_held)) (out : (Int32 × Int32 × Int32 × (Nat → Int32))) (hm : m_X6_back N md_known md_kept md_s md_images = some out) : WrI l yX6_back wsX6_back rX6_back D (tyK cC cI cJ) [.ref a_md] A (wd_28 cC cI cJ a_md a_md_text md_typed a_md_told a_md_draft a_md_s a_md_past md_known a_md_images md_kept a_md_seen md_sights md_at a_md_asks a_md_brings a_md_uses a_md_days a_md_tries a_md_row md_many a_md_first md_length md_set a_md_held a_md_text md_text a_md_told md_told a_md_draft md_draft a_md_s md_s a_md_past md_past a_md_images md_images a_md_seen md_seen a_md_asks md_asks a_md_brings md_brings a_md_uses md_uses a_md_days md_days a_md_tries md_tries a_md_row md_row a_md_first md_first a_md_held md_held) (Bw0 D (wd_28 cC cI cJ a_md a_md_text md_typed a_md_told a_md_draft a_md_s a_md_past out.2.1 a_md_images out.2.2.1 a_md_seen md_sights md_at a_md_asks a_md_brings a_md_uses a_md_days a_md_tries a_md_row md_many a_md_first md_length md_set a_md_held a_md_text md_text a_md_told md_told a_md_draft md_draft a_md_s out.2.2.2 a_md_past md_past a_md_images md_images a_md_seen md_seen a_md_asks md_asks a_md_brings md_brings a_md_uses md_uses a_md_days md_days a_md_tries md_tries a_md_row md_row a_md_first md_first a_md_held md_held)) out.1 := by
  unfold m_X6_back at hm
  refine enter (cc := cX6_back) (maxL := 2) (ret := (some .int)) (lv := [(0, .ref a_md)]) (by decide) rfl (Nat.le_of_ble_eq_true rfl) rfl ?_
  intro p e s m args below meth c S hr hlk hK hP ls hl
  replace S : CallFix p m c cX6_back 2 s args wsX6_back RX6 := S
  have hx := S.1
  have hb := S.2.1
  have hw : Wd D A s.heap (wd_28 cC cI cJ a_md a_md_text md_typed a_md_told a_md_draft a_md_s a_md_past md_known a_md_images md_kept a_md_seen md_sights md_at a_md_asks a_md_brings a_md_uses a_md_days a_md_tries a_md_row md_many a_md_first md_length md_set a_md_held a_md_text md_text a_md_told md_told a_md_draft md_draft a_md_s md_s a_md_past md_past a_md_images md_images a_md_seen md_seen a_md_asks md_asks a_md_brings md_brings a_md_uses md_uses a_md_days md_days a_md_tries md_tries a_md_row md_row a_md_first md_first a_md_held md_held) s.heap [] := ⟨hP, hD, va_S.rf⟩
  have hw0 := hw
  refine lv_aload_n hx hb dX6_back_0 rfl (lv_at hl 0 rfl) ?_
  refine f_get S hK hw.1 in_X6_back_X6 0 rfl rfl 8 (by decide) (List.mem_of_getElem? (i := 1) rfl) rfl rfl dX6_back_1 ?_
  refine lv_if_ne (tgt := 10) hx hb dX6_back_4 (by decide) (fun c1 => ?_) (fun c1 => ?_)
  · replace hm := ineg hm c1
    refine lv_aload_n hx hb dX6_back_10 rfl (lv_at hl 0 rfl) ?_
    refine lv_dup hx hb dX6_back_11 rfl ?_
    refine f_get S hK hw.1 in_X6_back_X6 0 rfl rfl 8 (by decide) (List.mem_of_getElem? (i := 1) rfl) rfl rfl dX6_back_12 ?_
    refine lv_iconst (v := 1) hx hb dX6_back_15 (by decide) ?_
    refine lv_isub hx hb dX6_back_16 ?_
    refine f_put S hK hw in_X6_back_X6 tyX6_ok nmX6 0 rfl rfl 8 (by decide) (List.mem_of_getElem? (i := 1) rfl) rfl rfl rfl rfl (Nat.le_of_ble_eq_true rfl) (ws1 := (wd_28 cC cI cJ a_md a_md_text md_typed a_md_told a_md_draft a_md_s a_md_past md_known a_md_images (md_kept - (1 : Int32)) a_md_seen md_sights md_at a_md_asks a_md_brings a_md_uses a_md_days a_md_tries a_md_row md_many a_md_first md_length md_set a_md_held a_md_text md_text a_md_told md_told a_md_draft md_draft a_md_s md_s a_md_past md_past a_md_images md_images a_md_seen md_seen a_md_asks md_asks a_md_brings md_brings a_md_uses md_uses a_md_days md_days a_md_tries md_tries a_md_row md_row a_md_first md_first a_md_held md_held)) rfl dX6_back_17 (fun H locs hw => ?_)
    refine lv_iconst (v := 0) hx hb dX6_back_20 (by decide) ?_
    refine lv_istore_n (lv' := [(1, .int (0 : Int32)), (0, .ref a_md)]) hx hb dX6_back_21 rfl hl (by decide) rfl (fun ls hl => ?_)
    obtain ⟨r7, h8, hm⟩ := ob hm
    refine t_X6_back_22 l S hK a_md a_md_text a_md_told a_md_draft a_md_s a_md_past a_md_images a_md_seen a_md_asks a_md_brings a_md_uses a_md_days a_md_tries a_md_row a_md_first a_md_held md_typed md_known (md_kept - (1 : Int32)) md_sights md_at md_many md_length md_set md_text md_told md_draft md_past md_images md_seen md_asks md_brings md_uses md_days md_tries md_row md_first md_held N (0 : Int32) md_s r7 h8  _ _ ls hw (lv_sub hl [1, 0] rfl) (fun H locs ls hw hl => ?_)
    refine lv_aload_n hx hb dX6_back_54 rfl (lv_at hl 0 rfl) ?_
    refine lv_iconst (v := 0) hx hb dX6_back_55 (by decide) ?_
    refine f_put S hK hw in_X6_back_X6 tyX6_ok nmX6 0 rfl rfl 6 (by decide) (List.mem_of_getElem? (i := 4) rfl) rfl rfl rfl rfl (Nat.le_of_ble_eq_true rfl) (ws1 := (wd_28 cC cI cJ a_md a_md_text md_typed a_md_told a_md_draft a_md_s a_md_past (0 : Int32) a_md_images (md_kept - (1 : Int32)) a_md_seen md_sights md_at a_md_asks a_md_brings a_md_uses a_md_days a_md_tries a_md_row md_many a_md_first md_length md_set a_md_held a_md_text md_text a_md_told md_told a_md_draft md_draft a_md_s r7 a_md_past md_past a_md_images md_images a_md_seen md_seen a_md_asks md_asks a_md_brings md_brings a_md_uses md_uses a_md_days md_days a_md_tries md_tries a_md_row md_row a_md_first md_first a_md_held md_held)) rfl dX6_back_56 (fun H locs hw => ?_)
    refine lv_aload_n hx hb dX6_back_59 rfl (lv_at hl 0 rfl) ?_
    refine f_get S hK hw.1 in_X6_back_X6 0 rfl rfl 8 (by decide) (List.mem_of_getElem? (i := 1) rfl) rfl rfl dX6_back_60 ?_
    obtain rfl := Option.some.inj hm
    exact e_WI S hr hlk hw rfl hw.1 dX6_back_63
  · replace hm := ipos hm c1
    refine lv_bipush (v := (-2)) hx hb dX6_back_7 (by decide) ?_
    obtain rfl := Option.some.inj hm
    exact e_WI S hr hlk hw rfl hw.1 dX6_back_9

abbrev rX6_in : Room := { frames := 0, cells := 0, slots := 0, locals := 0 }
theorem cal_X6_in : Cal yX6_in wsX6_in cX6_in 3 (some .boolean) RX6 3 := ⟨⟨_, rfl⟩, rfl, by decide +kernel, by decide +kernel, by decide +kernel⟩
set_option maxHeartbeats 4000000 in
set_option maxRecDepth 100000 in
theorem c_X6_in (l : Launch) (D : va_G) (cC cI cJ : ClassId)  (p0 : Int32) (p1 : Int32) (p2 : Int32) (out : Int32) (hm : m_X6_in p0 p1 p2 = some out) : RdI l yX6_in wsX6_in rX6_in D (tyK cC cI cJ) [.int p0, .int p1, .int p2] [] out := by
  unfold m_X6_in at hm
  refine enter (cc := cX6_in) (maxL := 3) (ret := (some .boolean)) (lv := [(0, .int p0), (1, .int p1), (2, .int p2)]) (by decide) rfl (Nat.le_of_ble_eq_true rfl) rfl ?_
  intro p e s m args below meth c S hr hlk hK hP ls hl
  replace S : CallFix p m c cX6_in 3 s args wsX6_in RX6 := S
  have hx := S.1
  have hb := S.2.1
  refine lv_iload_n hx hb dX6_in_0 rfl (lv_at hl 0 rfl) ?_
  refine lv_iload_n hx hb dX6_in_1 rfl (lv_at hl 1 rfl) ?_
  refine lv_icmp_lt (tgt := 14) hx hb dX6_in_2 (by decide) (fun c1 => ?_) (fun c1 => ?_)
  · replace hm := ipos hm c1
    refine lv_iconst (v := 0) hx hb dX6_in_14 (by decide) ?_
    exact e_RZ S hr hlk (Or.inl rfl) (Option.some.inj hm) dX6_in_15
  · replace hm := ineg hm c1
    refine lv_iload_n hx hb dX6_in_5 rfl (lv_at hl 0 rfl) ?_
    refine lv_iload_n hx hb dX6_in_6 rfl (lv_at hl 2 rfl) ?_
    refine lv_icmp_gt (tgt := 14) hx hb dX6_in_7 (by decide) (fun c2 => ?_) (fun c2 => ?_)
    · replace hm := ipos hm c2
      refine lv_iconst (v := 0) hx hb dX6_in_14 (by decide) ?_
      exact e_RZ S hr hlk (Or.inl rfl) (Option.some.inj hm) dX6_in_15
    · replace hm := ineg hm c2
      refine lv_iconst (v := 1) hx hb dX6_in_10 (by decide) ?_
      refine lv_goto (tgt := 15) hx hb dX6_in_11 (by decide) ?_
      exact e_RZ S hr hlk (Or.inr rfl) (Option.some.inj hm) dX6_in_15

abbrev rX6_isHelper : Room := { frames := 1, cells := 0, slots := 0, locals := 22 }
theorem cal_X6_isHelper : Cal yX6_isHelper wsX6_isHelper cX6_isHelper 2 (some .boolean) RX6 1 := ⟨⟨_, rfl⟩, rfl, by decide +kernel, by decide +kernel, by decide +kernel⟩
theorem in_X6_isHelper_X6 : ∀ w ∈ wsX60, w ∈ wsX6_isHelper := fun _ h => (List.mem_cons_of_mem _ (List.mem_append_right _ h))
set_option maxHeartbeats 4000000 in
set_option maxRecDepth 100000 in
theorem c_X6_isHelper (l : Launch) (D : va_G) (cC cI cJ : ClassId) (a_md : Nat) (a_md_text : Nat) (a_md_told : Nat) (a_md_draft : Nat) (a_md_s : Nat) (a_md_past : Nat) (a_md_images : Nat) (a_md_seen : Nat) (a_md_asks : Nat) (a_md_brings : Nat) (a_md_uses : Nat) (a_md_days : Nat) (a_md_tries : Nat) (a_md_row : Nat) (a_md_first : Nat) (a_md_held : Nat) (md_typed : Int32) (md_known : Int32) (md_kept : Int32) (md_sights : Int32) (md_at : Int32) (md_many : Int32) (md_length : Int32) (md_set : Int32) (md_text : (Nat → Int32)) (md_told : (Nat → Int32)) (md_draft : (Nat → Int32)) (md_s : (Nat → Int32)) (md_past : (Nat → Int32)) (md_images : (Nat → Int32)) (md_seen : (Nat → Int32)) (md_asks : (Nat → Int32)) (md_brings : (Nat → Int32)) (md_uses : (Nat → Int32)) (md_days : (Nat → Int32)) (md_tries : (Nat → Int32)) (md_row : (Nat → Int32)) (md_first : (Nat → Int32)) (md_held : (Nat → Int32)) (p0 : Int32) (out : Int32) (hm : m_X6_isHelper md_told p0 = some out) : RdI l yX6_isHelper wsX6_isHelper rX6_isHelper D (tyK cC cI cJ) [.ref a_md, .int p0] (wd_28 cC cI cJ a_md a_md_text md_typed a_md_told a_md_draft a_md_s a_md_past md_known a_md_images md_kept a_md_seen md_sights md_at a_md_asks a_md_brings a_md_uses a_md_days a_md_tries a_md_row md_many a_md_first md_length md_set a_md_held a_md_text md_text a_md_told md_told a_md_draft md_draft a_md_s md_s a_md_past md_past a_md_images md_images a_md_seen md_seen a_md_asks md_asks a_md_brings md_brings a_md_uses md_uses a_md_days md_days a_md_tries md_tries a_md_row md_row a_md_first md_first a_md_held md_held) out := by
  unfold m_X6_isHelper at hm
  refine enter (cc := cX6_isHelper) (maxL := 2) (ret := (some .boolean)) (lv := [(0, .ref a_md), (1, .int p0)]) (by decide) rfl (Nat.le_of_ble_eq_true rfl) rfl ?_
  intro p e s m args below meth c S hr hlk hK hP ls hl
  replace S : CallFix p m c cX6_isHelper 2 s args wsX6_isHelper RX6 := S
  have hx := S.1
  have hb := S.2.1
  refine lv_iload_n hx hb dX6_isHelper_0 rfl (lv_at hl 1 rfl) ?_
  refine lv_iconst (v := 0) hx hb dX6_isHelper_1 (by decide) ?_
  refine lv_aload_n hx hb dX6_isHelper_2 rfl (lv_at hl 0 rfl) ?_
  refine f_get S hK hP in_X6_isHelper_X6 0 rfl rfl 2 (by decide) (List.mem_of_getElem? (i := 1) rfl) rfl rfl dX6_isHelper_3 ?_
  refine lv_iconst (v := 1) hx hb dX6_isHelper_6 (by decide) ?_
  refine f_ialdK S hK hP 2 1 rfl rfl 1 (by decide) (by decide) (v := (md_told 1)) rfl dX6_isHelper_7 ?_
  refine lv_iconst (v := 1) hx hb dX6_isHelper_8 (by decide) ?_
  refine lv_isub hx hb dX6_isHelper_9 ?_
  obtain ⟨r2, h3, hm⟩ := ob hm
  refine k_rSi S hK hP cal_X6_in gX6_isHelper_X6_in (c_X6_in l D cC cI cJ p0 (0 : Int32) ((md_told 1) - (1 : Int32)) r2 h3) ⟨⟨rfl, rfl⟩, Nat.le_of_ble_eq_true rfl, Nat.le_of_ble_eq_true rfl⟩ [] rfl rfl hl.1 rfl (Nat.le_of_ble_eq_true rfl) dX6_isHelper_10 ⟨Nat.zero_le _, Nat.zero_le _⟩ ?_
  obtain ⟨hz, hm⟩ := gdo hm
  exact e_RZ S hr hlk hz (Option.some.inj hm) dX6_isHelper_13

abbrev rX6_canBefriend : Room := { frames := 0, cells := 0, slots := 0, locals := 0 }
theorem cal_X6_canBefriend : Cal yX6_canBefriend wsX6_canBefriend cX6_canBefriend 2 (some .boolean) RX6 1 := ⟨⟨_, rfl⟩, rfl, by decide +kernel, by decide +kernel, by decide +kernel⟩
theorem in_X6_canBefriend_X6 : ∀ w ∈ wsX60, w ∈ wsX6_canBefriend := fun _ h => (List.mem_cons_of_mem _ (List.mem_append_right _ h))
set_option maxHeartbeats 4000000 in
set_option maxRecDepth 100000 in
theorem c_X6_canBefriend (l : Launch) (D : va_G) (cC cI cJ : ClassId) (a_md : Nat) (a_md_text : Nat) (a_md_told : Nat) (a_md_draft : Nat) (a_md_s : Nat) (a_md_past : Nat) (a_md_images : Nat) (a_md_seen : Nat) (a_md_asks : Nat) (a_md_brings : Nat) (a_md_uses : Nat) (a_md_days : Nat) (a_md_tries : Nat) (a_md_row : Nat) (a_md_first : Nat) (a_md_held : Nat) (md_typed : Int32) (md_known : Int32) (md_kept : Int32) (md_sights : Int32) (md_at : Int32) (md_many : Int32) (md_length : Int32) (md_set : Int32) (md_text : (Nat → Int32)) (md_told : (Nat → Int32)) (md_draft : (Nat → Int32)) (md_s : (Nat → Int32)) (md_past : (Nat → Int32)) (md_images : (Nat → Int32)) (md_seen : (Nat → Int32)) (md_asks : (Nat → Int32)) (md_brings : (Nat → Int32)) (md_uses : (Nat → Int32)) (md_days : (Nat → Int32)) (md_tries : (Nat → Int32)) (md_row : (Nat → Int32)) (md_first : (Nat → Int32)) (md_held : (Nat → Int32)) (p0 : Int32) (out : Int32) (hm : m_X6_canBefriend md_told md_s p0 = some out) : RdI l yX6_canBefriend wsX6_canBefriend rX6_canBefriend D (tyK cC cI cJ) [.ref a_md, .int p0] (wd_28 cC cI cJ a_md a_md_text md_typed a_md_told a_md_draft a_md_s a_md_past md_known a_md_images md_kept a_md_seen md_sights md_at a_md_asks a_md_brings a_md_uses a_md_days a_md_tries a_md_row md_many a_md_first md_length md_set a_md_held a_md_text md_text a_md_told md_told a_md_draft md_draft a_md_s md_s a_md_past md_past a_md_images md_images a_md_seen md_seen a_md_asks md_asks a_md_brings md_brings a_md_uses md_uses a_md_days md_days a_md_tries md_tries a_md_row md_row a_md_first md_first a_md_held md_held) out := by
  unfold m_X6_canBefriend at hm
  refine enter (cc := cX6_canBefriend) (maxL := 2) (ret := (some .boolean)) (lv := [(0, .ref a_md), (1, .int p0)]) (by decide) rfl (Nat.le_of_ble_eq_true rfl) rfl ?_
  intro p e s m args below meth c S hr hlk hK hP ls hl
  replace S : CallFix p m c cX6_canBefriend 2 s args wsX6_canBefriend RX6 := S
  have hx := S.1
  have hb := S.2.1
  refine lv_aload_n hx hb dX6_canBefriend_0 rfl (lv_at hl 0 rfl) ?_
  refine f_get S hK hP in_X6_canBefriend_X6 0 rfl rfl 4 (by decide) (List.mem_of_getElem? (i := 1) rfl) rfl rfl dX6_canBefriend_1 ?_
  refine lv_iconst (v := 2) hx hb dX6_canBefriend_4 (by decide) ?_
  refine f_ialdK S hK hP 4 1 rfl rfl 2 (by decide) (by decide) (v := (md_s 2)) rfl dX6_canBefriend_5 ?_
  refine lv_iload_n hx hb dX6_canBefriend_6 rfl (lv_at hl 1 rfl) ?_
  refine lv_ishr hx hb dX6_canBefriend_7 ?_
  refine lv_iconst (v := 1) hx hb dX6_canBefriend_8 (by decide) ?_
  refine lv_iand hx hb dX6_canBefriend_9 ?_
  refine lv_if_ne (tgt := 35) hx hb dX6_canBefriend_10 (by decide) (fun c2 => ?_) (fun c2 => ?_)
  · replace hm := ineg hm c2
    refine lv_iconst (v := 0) hx hb dX6_canBefriend_35 (by decide) ?_
    exact e_RZ S hr hlk (Or.inl rfl) (Option.some.inj hm) dX6_canBefriend_36
  · replace hm := ipos hm c2
    refine lv_aload_n hx hb dX6_canBefriend_13 rfl (lv_at hl 0 rfl) ?_
    refine f_get S hK hP in_X6_canBefriend_X6 0 rfl rfl 2 (by decide) (List.mem_of_getElem? (i := 2) rfl) rfl rfl dX6_canBefriend_14 ?_
    refine lv_bipush (v := 44) hx hb dX6_canBefriend_17 (by decide) ?_
    refine lv_iload_n hx hb dX6_canBefriend_19 rfl (lv_at hl 1 rfl) ?_
    refine lv_iadd hx hb dX6_canBefriend_20 ?_
    obtain ⟨g3, hm⟩ := gdo hm
    refine f_iald S hK hP 2 1 rfl rfl g3 dX6_canBefriend_21 ?_
    refine lv_aload_n hx hb dX6_canBefriend_22 rfl (lv_at hl 0 rfl) ?_
    refine f_get S hK hP in_X6_canBefriend_X6 0 rfl rfl 4 (by decide) (List.mem_of_getElem? (i := 1) rfl) rfl rfl dX6_canBefriend_23 ?_
    refine lv_iconst (v := 4) hx hb dX6_canBefriend_26 (by decide) ?_
    refine f_ialdK S hK hP 4 1 rfl rfl 4 (by decide) (by decide) (v := (md_s 4)) rfl dX6_canBefriend_27 ?_
    refine lv_icmp_gt (tgt := 35) hx hb dX6_canBefriend_28 (by decide) (fun c5 => ?_) (fun c5 => ?_)
    · replace hm := ipos hm c5
      refine lv_iconst (v := 0) hx hb dX6_canBefriend_35 (by decide) ?_
      exact e_RZ S hr hlk (Or.inl rfl) (Option.some.inj hm) dX6_canBefriend_36
    · replace hm := ineg hm c5
      refine lv_iconst (v := 1) hx hb dX6_canBefriend_31 (by decide) ?_
      refine lv_goto (tgt := 36) hx hb dX6_canBefriend_32 (by decide) ?_
      exact e_RZ S hr hlk (Or.inr rfl) (Option.some.inj hm) dX6_canBefriend_36
