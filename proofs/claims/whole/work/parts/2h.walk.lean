/-! walks: X5_ride X5_rows X5_see X5_step X5_suggest X5_task X5_undo X5_well X5_wipe X5_worth -/
abbrev rX5_ride : Room := { frames := 3, cells := 0, slots := 0, locals := 71 }
theorem cal_X5_ride : Cal yX5_ride wsX5_ride cX5_ride 4 (some .int) RX5 1 := ⟨⟨_, rfl⟩, rfl, by decide +kernel, by decide +kernel, by decide +kernel⟩
theorem in_X5_ride_X4 : ∀ w ∈ wsX40, w ∈ wsX5_ride := fun _ h => (List.mem_cons_of_mem _ (List.mem_append_left _ (List.mem_append_left _ (List.mem_append_right _ h))))
theorem in_X5_ride_X5 : ∀ w ∈ wsX50, w ∈ wsX5_ride := fun _ h => (List.mem_cons_of_mem _ (List.mem_append_left _ (List.mem_append_left _ (List.mem_append_left _ (List.mem_append_right _ h)))))
set_option maxHeartbeats 4000000 in
set_option maxRecDepth 100000 in
theorem c_X5_ride (l : Launch) (D : va_G) (cC cI cJ : ClassId) (a_x : Nat) (g_x_text : Nat) (a_mo : Nat) (g_x_spare : Nat) (a_no : Nat) (g_x_trial : Nat) (a_un : Nat) (g_x_kept : Nat) (g_x_seen : Nat) (g_x_unseen : Nat) (g_x_search : Nat) (a_mo_kinds : Nat) (a_mo_days : Nat) (a_mo_rideDays : Nat) (a_mo_helpKinds : Nat) (a_mo_nexts : Nat) (a_mo_helperKinds : Nat) (a_mo_prices : Nat) (a_mo_helpersOfKind : Nat) (a_mo_numbers : Nat) (a_un_held : Nat) (x_letters : Int32) (mo_tasks : Int32) (mo_helpers : Int32) (mo_askedFirst : Int32) (mo_crumbsFirst : Int32) (mo_lastDay : Int32) (mo_kinds : (Nat → Int32)) (mo_days : (Nat → Int32)) (mo_rideDays : (Nat → Int32)) (mo_helpKinds : (Nat → Int32)) (mo_nexts : (Nat → Int32)) (mo_helperKinds : (Nat → Int32)) (mo_prices : (Nat → Int32)) (mo_helpersOfKind : (Nat → Int32)) (mo_numbers : (Nat → Int32)) (no_asked : Int32) (no_brought : Int32) (no_friends : Int32) (no_used : Int32) (no_crumbs : Int32) (no_day : Int32) (un_size : Int32) (un_held : (Nat → Int64)) (p0 : Int32) (N : Nat) (A : Nat → Prop) (hD : va_D A (wd_14 cC cI cJ a_x g_x_text x_letters a_mo g_x_spare a_no g_x_trial a_un g_x_kept g_x_seen g_x_unseen g_x_search a_mo mo_tasks mo_helpers mo_askedFirst mo_crumbsFirst mo_lastDay a_mo_kinds a_mo_days a_mo_rideDays a_mo_helpKinds a_mo_nexts a_mo_helperKinds a_mo_prices a_mo_helpersOfKind a_mo_numbers a_mo_kinds mo_kinds a_mo_days mo_days a_mo_rideDays mo_rideDays a_mo_helpKinds mo_helpKinds a_mo_nexts mo_nexts a_mo_helperKinds mo_helperKinds a_mo_prices mo_prices a_mo_helpersOfKind mo_helpersOfKind a_mo_numbers mo_numbers a_no no_asked no_brought no_friends no_used no_crumbs no_day a_un un_size a_un_held a_un_held un_held)) (out : (Int32 × Int32 × Int32 × Int32 × Int32 × Int32 × (Nat → Int64))) (hm : m_X5_ride N mo_tasks mo_lastDay mo_kinds mo_rideDays mo_helpKinds mo_nexts mo_helpersOfKind no_asked no_brought no_friends no_used no_crumbs no_day un_size un_held p0 = some out) : WrI l yX5_ride wsX5_ride rX5_ride D (tyK cC cI cJ) [.ref a_x, .int p0] A (wd_14 cC cI cJ a_x g_x_text x_letters a_mo g_x_spare a_no g_x_trial a_un g_x_kept g_x_seen g_x_unseen g_x_search a_mo mo_tasks mo_helpers mo_askedFirst mo_crumbsFirst mo_lastDay a_mo_kinds a_mo_days a_mo_rideDays a_mo_helpKinds a_mo_nexts a_mo_helperKinds a_mo_prices a_mo_helpersOfKind a_mo_numbers a_mo_kinds mo_kinds a_mo_days mo_days a_mo_rideDays mo_rideDays a_mo_helpKinds mo_helpKinds a_mo_nexts mo_nexts a_mo_helperKinds mo_helperKinds a_mo_prices mo_prices a_mo_helpersOfKind mo_helpersOfKind a_mo_numbers mo_numbers a_no no_asked no_brought no_friends no_used no_crumbs no_day a_un un_size a_un_held a_un_held un_held) (Bw0 D (wd_14 cC cI cJ a_x g_x_text x_letters a_mo g_x_spare a_no g_x_trial a_un g_x_kept g_x_seen g_x_unseen g_x_search a_mo mo_tasks mo_helpers mo_askedFirst mo_crumbsFirst mo_lastDay a_mo_kinds a_mo_days a_mo_rideDays a_mo_helpKinds a_mo_nexts a_mo_helperKinds a_mo_prices a_mo_helpersOfKind a_mo_numbers a_mo_kinds mo_kinds a_mo_days mo_days a_mo_rideDays mo_rideDays a_mo_helpKinds mo_helpKinds a_mo_nexts mo_nexts a_mo_helperKinds mo_helperKinds a_mo_prices mo_prices a_mo_helpersOfKind mo_helpersOfKind a_mo_numbers mo_numbers a_no out.2.1 out.2.2.1 no_friends out.2.2.2.1 no_crumbs out.2.2.2.2.1 a_un out.2.2.2.2.2.1 a_un_held a_un_held out.2.2.2.2.2.2)) out.1 := by
  unfold m_X5_ride at hm
  refine enter (cc := cX5_ride) (maxL := 4) (ret := (some .int)) (lv := [(0, .ref a_x), (1, .int p0)]) (by decide) rfl (Nat.le_of_ble_eq_true rfl) rfl ?_
  intro p e s m args below meth c S hr hlk hK hP ls hl
  replace S : CallFix p m c cX5_ride 4 s args wsX5_ride RX5 := S
  have hx := S.1
  have hb := S.2.1
  have hw : Wd D A s.heap (wd_14 cC cI cJ a_x g_x_text x_letters a_mo g_x_spare a_no g_x_trial a_un g_x_kept g_x_seen g_x_unseen g_x_search a_mo mo_tasks mo_helpers mo_askedFirst mo_crumbsFirst mo_lastDay a_mo_kinds a_mo_days a_mo_rideDays a_mo_helpKinds a_mo_nexts a_mo_helperKinds a_mo_prices a_mo_helpersOfKind a_mo_numbers a_mo_kinds mo_kinds a_mo_days mo_days a_mo_rideDays mo_rideDays a_mo_helpKinds mo_helpKinds a_mo_nexts mo_nexts a_mo_helperKinds mo_helperKinds a_mo_prices mo_prices a_mo_helpersOfKind mo_helpersOfKind a_mo_numbers mo_numbers a_no no_asked no_brought no_friends no_used no_crumbs no_day a_un un_size a_un_held a_un_held un_held) s.heap [] := ⟨hP, hD, va_S.rf⟩
  have hw0 := hw
  refine lv_aload_n hx hb dX5_ride_0 rfl (lv_at hl 0 rfl) ?_
  refine f_get S hK hw.1 in_X5_ride_X5 0 rfl rfl 2 (by decide) (List.mem_of_getElem? (i := 1) rfl) rfl rfl dX5_ride_1 ?_
  refine lv_iload_n hx hb dX5_ride_4 rfl (lv_at hl 1 rfl) ?_
  obtain ⟨r1, h2, hm⟩ := ob hm
  refine k_rVi S hK hw.1 cal_X0_hasTask gX5_ride_X0_hasTask (c_X0_hasTask l D cC cI cJ a_mo a_mo_kinds a_mo_days a_mo_rideDays a_mo_helpKinds a_mo_nexts a_mo_helperKinds a_mo_prices a_mo_helpersOfKind a_mo_numbers mo_tasks mo_helpers mo_askedFirst mo_crumbsFirst mo_lastDay mo_kinds mo_days mo_rideDays mo_helpKinds mo_nexts mo_helperKinds mo_prices mo_helpersOfKind mo_numbers p0 r1 h2) ⟨⟨rfl, rfl⟩, Nat.le_of_ble_eq_true rfl, Nat.le_of_ble_eq_true rfl⟩ [1, 2, 3, 4, 5, 6, 7, 8, 9, 10] rfl 1 rfl rfl rfl hl.1 rfl (Nat.le_of_ble_eq_true rfl) dX5_ride_5 ⟨Nat.zero_le _, Nat.zero_le _⟩ ?_
  refine lv_if_ne (tgt := 13) hx hb dX5_ride_8 (by decide) (fun c3 => ?_) (fun c3 => ?_)
  · replace hm := ineg hm c3
    refine lv_aload_n hx hb dX5_ride_13 rfl (lv_at hl 0 rfl) ?_
    refine f_get S hK hw.1 in_X5_ride_X5 0 rfl rfl 4 (by decide) (List.mem_of_getElem? (i := 2) rfl) rfl rfl dX5_ride_14 ?_
    obtain ⟨r4, h5, hm⟩ := ob hm
    refine k_rVl S hK hw.1 cal_X4_packed gX5_ride_X4_packed (c_X4_packed l D cC cI cJ a_no no_asked no_brought no_friends no_used no_crumbs no_day r4 h5) ⟨⟨rfl, rfl⟩, Nat.le_of_ble_eq_true rfl, Nat.le_of_ble_eq_true rfl⟩ [11] rfl 11 rfl rfl rfl hl.1 rfl (Nat.le_of_ble_eq_true rfl) dX5_ride_17 ⟨Nat.zero_le _, Nat.zero_le _⟩ ?_
    refine lv_lstore_n (lv' := [(2, .long r4), (0, .ref a_x), (1, .int p0)]) hx hb dX5_ride_20 rfl hl (by decide) rfl (fun ls hl => ?_)
    refine lv_aload_n hx hb dX5_ride_21 rfl (lv_at hl 1 rfl) ?_
    refine f_get S hK hw.1 in_X5_ride_X5 0 rfl rfl 4 (by decide) (List.mem_of_getElem? (i := 2) rfl) rfl rfl dX5_ride_22 ?_
    refine lv_aload_n hx hb dX5_ride_25 rfl (lv_at hl 1 rfl) ?_
    refine f_get S hK hw.1 in_X5_ride_X5 0 rfl rfl 2 (by decide) (List.mem_of_getElem? (i := 1) rfl) rfl rfl dX5_ride_26 ?_
    refine lv_iload_n hx hb dX5_ride_29 rfl (lv_at hl 2 rfl) ?_
    obtain ⟨r6, h7, hm⟩ := ob hm
    refine k_wVi S hK hw cal_X4_tryRide gX5_ride_X4_tryRide (c_X4_tryRide l D cC cI cJ a_no a_mo a_mo_kinds a_mo_days a_mo_rideDays a_mo_helpKinds a_mo_nexts a_mo_helperKinds a_mo_prices a_mo_helpersOfKind a_mo_numbers no_asked no_brought no_friends no_used no_crumbs no_day mo_tasks mo_helpers mo_askedFirst mo_crumbsFirst mo_lastDay mo_kinds mo_days mo_rideDays mo_helpKinds mo_nexts mo_helperKinds mo_prices mo_helpersOfKind mo_numbers p0 (aw _) (hw.own [11, 1, 2, 3, 4, 5, 6, 7, 8, 9, 10] (by decide) rfl) r6 h7) ⟨⟨rfl, rfl⟩, Nat.le_of_ble_eq_true rfl, Nat.le_of_ble_eq_true rfl⟩ [11, 1, 2, 3, 4, 5, 6, 7, 8, 9, 10] rfl 11 rfl rfl rfl hl.1 rfl (Nat.le_of_ble_eq_true rfl) dX5_ride_30 ⟨Nat.zero_le _, Nat.zero_le _⟩ (fun H locs hJ hB => ?_)
    have hw := hJ _ hB rfl
    replace hw : Wd D A _ (wd_14 cC cI cJ a_x g_x_text x_letters a_mo g_x_spare a_no g_x_trial a_un g_x_kept g_x_seen g_x_unseen g_x_search a_mo mo_tasks mo_helpers mo_askedFirst mo_crumbsFirst mo_lastDay a_mo_kinds a_mo_days a_mo_rideDays a_mo_helpKinds a_mo_nexts a_mo_helperKinds a_mo_prices a_mo_helpersOfKind a_mo_numbers a_mo_kinds mo_kinds a_mo_days mo_days a_mo_rideDays mo_rideDays a_mo_helpKinds mo_helpKinds a_mo_nexts mo_nexts a_mo_helperKinds mo_helperKinds a_mo_prices mo_prices a_mo_helpersOfKind mo_helpersOfKind a_mo_numbers mo_numbers a_no r6.2.1 r6.2.2.1 no_friends r6.2.2.2.1 no_crumbs r6.2.2.2.2 a_un un_size a_un_held a_un_held un_held) H locs := hw
    refine lv_if_ne (tgt := 39) hx hb dX5_ride_33 (by decide) (fun c8 => ?_) (fun c8 => ?_)
    · replace hm := ineg hm c8
      refine lv_aload_n hx hb dX5_ride_39 rfl (lv_at hl 1 rfl) ?_
      refine f_get S hK hw.1 in_X5_ride_X5 0 rfl rfl 6 (by decide) (List.mem_of_getElem? (i := 3) rfl) rfl rfl dX5_ride_40 ?_
      refine lv_lload_n hx hb dX5_ride_43 rfl (lv_at hl 0 rfl) ?_
      obtain ⟨r9, h10, hm⟩ := ob hm
      refine k_wVv S hK hw cal_X1_put gX5_ride_X1_put (c_X1_put l D cC cI cJ a_un a_un_held un_size 8 un_held r4 N (aw _) (hw.own [12, 13] (by decide) rfl) r9 h10) ⟨⟨rfl, rfl⟩, Nat.le_of_ble_eq_true rfl, Nat.le_of_ble_eq_true rfl⟩ [12, 13] rfl 12 rfl rfl rfl hl.1 rfl (Nat.le_of_ble_eq_true rfl) dX5_ride_44 ⟨Nat.zero_le _, Nat.zero_le _⟩ (fun H locs hJ hB => ?_)
      have hw := hJ _ hB rfl
      replace hw : Wd D A _ (wd_14 cC cI cJ a_x g_x_text x_letters a_mo g_x_spare a_no g_x_trial a_un g_x_kept g_x_seen g_x_unseen g_x_search a_mo mo_tasks mo_helpers mo_askedFirst mo_crumbsFirst mo_lastDay a_mo_kinds a_mo_days a_mo_rideDays a_mo_helpKinds a_mo_nexts a_mo_helperKinds a_mo_prices a_mo_helpersOfKind a_mo_numbers a_mo_kinds mo_kinds a_mo_days mo_days a_mo_rideDays mo_rideDays a_mo_helpKinds mo_helpKinds a_mo_nexts mo_nexts a_mo_helperKinds mo_helperKinds a_mo_prices mo_prices a_mo_helpersOfKind mo_helpersOfKind a_mo_numbers mo_numbers a_no r6.2.1 r6.2.2.1 no_friends r6.2.2.2.1 no_crumbs r6.2.2.2.2 a_un r9.1 a_un_held a_un_held r9.2) H locs := hw
      refine lv_aload_n hx hb dX5_ride_47 rfl (lv_at hl 1 rfl) ?_
      refine f_get S hK hw.1 in_X5_ride_X5 0 rfl rfl 4 (by decide) (List.mem_of_getElem? (i := 2) rfl) rfl rfl dX5_ride_48 ?_
      refine f_get S hK hw.1 in_X5_ride_X4 11 rfl rfl 5 (by decide) (List.mem_of_getElem? (i := 4) rfl) rfl rfl dX5_ride_51 ?_
      obtain rfl := Option.some.inj hm
      exact e_WI S hr hlk hw rfl hw.1 dX5_ride_54
    · replace hm := ipos hm c8
      refine lv_bipush (v := (-2)) hx hb dX5_ride_36 (by decide) ?_
      obtain rfl := Option.some.inj hm
      exact e_WI S hr hlk hw rfl hw.1 dX5_ride_38
  · replace hm := ipos hm c3
    refine lv_iconst (v := (-1)) hx hb dX5_ride_11 (by decide) ?_
    obtain rfl := Option.some.inj hm
    exact e_WI S hr hlk hw rfl hw.1 dX5_ride_12

abbrev rX5_rows : Room := { frames := 16, cells := 0, slots := 0, locals := 429 }
theorem cal_X5_rows : Cal yX5_rows wsX5_rows cX5_rows 2 (some .int) RX5 1 := ⟨⟨_, rfl⟩, rfl, by decide +kernel, by decide +kernel, by decide +kernel⟩
theorem in_X5_rows_X5 : ∀ w ∈ wsX50, w ∈ wsX5_rows := fun _ h => (List.mem_cons_of_mem _ (List.mem_append_left _ (List.mem_append_left _ (List.mem_append_left _ (List.mem_append_left _ (List.mem_append_right _ h))))))
set_option maxHeartbeats 4000000 in
set_option maxRecDepth 100000 in
theorem c_X5_rows (l : Launch) (D : va_G) (cC cI cJ : ClassId) (a_x : Nat) (g_x_text : Nat) (a_mo : Nat) (g_x_spare : Nat) (a_no : Nat) (g_x_trial : Nat) (g_x_undoable : Nat) (g_x_kept : Nat) (a_se : Nat) (g_x_unseen : Nat) (a_sr : Nat) (a_mo_kinds : Nat) (a_mo_days : Nat) (a_mo_rideDays : Nat) (a_mo_helpKinds : Nat) (a_mo_nexts : Nat) (a_mo_helperKinds : Nat) (a_mo_prices : Nat) (a_mo_helpersOfKind : Nat) (a_mo_numbers : Nat) (a_se_left : Nat) (a_sr_known : Nat) (a_ro : Nat) (a_us : Nat) (g_sr_months : Nat) (g_sr_heeded : Nat) (x_letters : Int32) (mo_tasks : Int32) (mo_helpers : Int32) (mo_askedFirst : Int32) (mo_crumbsFirst : Int32) (mo_lastDay : Int32) (mo_kinds : (Nat → Int32)) (mo_days : (Nat → Int32)) (mo_rideDays : (Nat → Int32)) (mo_helpKinds : (Nat → Int32)) (mo_nexts : (Nat → Int32)) (mo_helperKinds : (Nat → Int32)) (mo_prices : (Nat → Int32)) (mo_helpersOfKind : (Nat → Int32)) (mo_numbers : (Nat → Int32)) (no_asked : Int32) (no_brought : Int32) (no_friends : Int32) (no_used : Int32) (no_crumbs : Int32) (no_day : Int32) (se_size : Int32) (se_lastPlace : Int32) (se_left : (Nat → Int32)) (sr_number : Int64) (sr_enough : Int64) (sr_hopeless : Int32) (sr_known : (Nat → Int64)) (ro_asked : Int32) (ro_brought : Int32) (ro_friends : Int32) (ro_used : Int32) (ro_crumbs : Int32) (ro_day : Int32) (p0 : Int32) (N : Nat) (A : Nat → Prop) (hD : va_D A (wd_18 cC cI cJ a_x g_x_text x_letters a_mo g_x_spare a_no g_x_trial g_x_undoable g_x_kept a_se g_x_unseen a_sr a_mo mo_tasks mo_helpers mo_askedFirst mo_crumbsFirst mo_lastDay a_mo_kinds a_mo_days a_mo_rideDays a_mo_helpKinds a_mo_nexts a_mo_helperKinds a_mo_prices a_mo_helpersOfKind a_mo_numbers a_mo_kinds mo_kinds a_mo_days mo_days a_mo_rideDays mo_rideDays a_mo_helpKinds mo_helpKinds a_mo_nexts mo_nexts a_mo_helperKinds mo_helperKinds a_mo_prices mo_prices a_mo_helpersOfKind mo_helpersOfKind a_mo_numbers mo_numbers a_no no_asked no_brought no_friends no_used no_crumbs no_day a_se se_size se_lastPlace a_se_left a_se_left se_left a_sr a_sr_known a_ro a_us sr_number sr_enough sr_hopeless g_sr_months g_sr_heeded a_sr_known sr_known a_ro ro_asked ro_brought ro_friends ro_used ro_crumbs ro_day)) (out : (Int32 × Int64 × Int64 × Int32 × (Nat → Int64) × Int32 × Int32 × Int32 × Int32 × Int32 × Int32)) (hm : m_X5_rows N mo_tasks mo_lastDay mo_kinds mo_rideDays mo_helpKinds mo_nexts mo_helpersOfKind no_asked no_brought no_friends no_used no_crumbs no_day se_lastPlace se_left sr_number sr_enough sr_hopeless sr_known ro_asked ro_brought ro_friends ro_used ro_crumbs ro_day p0 = some out) : WrI l yX5_rows wsX5_rows rX5_rows D (tyK cC cI cJ) [.ref a_x, .int p0] A (wd_18 cC cI cJ a_x g_x_text x_letters a_mo g_x_spare a_no g_x_trial g_x_undoable g_x_kept a_se g_x_unseen a_sr a_mo mo_tasks mo_helpers mo_askedFirst mo_crumbsFirst mo_lastDay a_mo_kinds a_mo_days a_mo_rideDays a_mo_helpKinds a_mo_nexts a_mo_helperKinds a_mo_prices a_mo_helpersOfKind a_mo_numbers a_mo_kinds mo_kinds a_mo_days mo_days a_mo_rideDays mo_rideDays a_mo_helpKinds mo_helpKinds a_mo_nexts mo_nexts a_mo_helperKinds mo_helperKinds a_mo_prices mo_prices a_mo_helpersOfKind mo_helpersOfKind a_mo_numbers mo_numbers a_no no_asked no_brought no_friends no_used no_crumbs no_day a_se se_size se_lastPlace a_se_left a_se_left se_left a_sr a_sr_known a_ro a_us sr_number sr_enough sr_hopeless g_sr_months g_sr_heeded a_sr_known sr_known a_ro ro_asked ro_brought ro_friends ro_used ro_crumbs ro_day) (Bw2 D (fun z_14_6 z_14_7 => (wd_18 cC cI cJ a_x g_x_text x_letters a_mo g_x_spare a_no g_x_trial g_x_undoable g_x_kept a_se g_x_unseen a_sr a_mo mo_tasks mo_helpers mo_askedFirst mo_crumbsFirst mo_lastDay a_mo_kinds a_mo_days a_mo_rideDays a_mo_helpKinds a_mo_nexts a_mo_helperKinds a_mo_prices a_mo_helpersOfKind a_mo_numbers a_mo_kinds mo_kinds a_mo_days mo_days a_mo_rideDays mo_rideDays a_mo_helpKinds mo_helpKinds a_mo_nexts mo_nexts a_mo_helperKinds mo_helperKinds a_mo_prices mo_prices a_mo_helpersOfKind mo_helpersOfKind a_mo_numbers mo_numbers a_no no_asked no_brought no_friends no_used no_crumbs no_day a_se se_size se_lastPlace a_se_left a_se_left se_left a_sr a_sr_known a_ro a_us out.2.1 out.2.2.1 out.2.2.2.1 z_14_6 z_14_7 a_sr_known out.2.2.2.2.1 a_ro out.2.2.2.2.2.1 out.2.2.2.2.2.2.1 out.2.2.2.2.2.2.2.1 out.2.2.2.2.2.2.2.2.1 out.2.2.2.2.2.2.2.2.2.1 out.2.2.2.2.2.2.2.2.2.2))) out.1 := by
  unfold m_X5_rows at hm
  refine enter (cc := cX5_rows) (maxL := 2) (ret := (some .int)) (lv := [(0, .ref a_x), (1, .int p0)]) (by decide) rfl (Nat.le_of_ble_eq_true rfl) rfl ?_
  intro p e s m args below meth c S hr hlk hK hP ls hl
  replace S : CallFix p m c cX5_rows 2 s args wsX5_rows RX5 := S
  have hx := S.1
  have hb := S.2.1
  have hw : Wd D A s.heap (wd_18 cC cI cJ a_x g_x_text x_letters a_mo g_x_spare a_no g_x_trial g_x_undoable g_x_kept a_se g_x_unseen a_sr a_mo mo_tasks mo_helpers mo_askedFirst mo_crumbsFirst mo_lastDay a_mo_kinds a_mo_days a_mo_rideDays a_mo_helpKinds a_mo_nexts a_mo_helperKinds a_mo_prices a_mo_helpersOfKind a_mo_numbers a_mo_kinds mo_kinds a_mo_days mo_days a_mo_rideDays mo_rideDays a_mo_helpKinds mo_helpKinds a_mo_nexts mo_nexts a_mo_helperKinds mo_helperKinds a_mo_prices mo_prices a_mo_helpersOfKind mo_helpersOfKind a_mo_numbers mo_numbers a_no no_asked no_brought no_friends no_used no_crumbs no_day a_se se_size se_lastPlace a_se_left a_se_left se_left a_sr a_sr_known a_ro a_us sr_number sr_enough sr_hopeless g_sr_months g_sr_heeded a_sr_known sr_known a_ro ro_asked ro_brought ro_friends ro_used ro_crumbs ro_day) s.heap [] := ⟨hP, hD, va_S.rf⟩
  have hw0 := hw
  refine lv_iload_n hx hb dX5_rows_0 rfl (lv_at hl 1 rfl) ?_
  refine lv_if_lt (tgt := 10) hx hb dX5_rows_1 (by decide) (fun c1 => ?_) (fun c1 => ?_)
  · replace hm := ipos hm c1
    refine lv_iconst (v := (-1)) hx hb dX5_rows_10 (by decide) ?_
    obtain rfl := Option.some.inj hm
    exact e_WI S hr hlk hw rfl ⟨g_sr_months, g_sr_heeded, hw.1⟩ dX5_rows_11
  · replace hm := ineg hm c1
    refine lv_iload_n hx hb dX5_rows_4 rfl (lv_at hl 1 rfl) ?_
    refine lv_bipush (v := 8) hx hb dX5_rows_5 (by decide) ?_
    refine lv_icmp_le (tgt := 12) hx hb dX5_rows_7 (by decide) (fun c2 => ?_) (fun c2 => ?_)
    · replace hm := ipos hm c2
      refine lv_iload_n hx hb dX5_rows_12 rfl (lv_at hl 1 rfl) ?_
      refine lv_if_ne (tgt := 38) hx hb dX5_rows_13 (by decide) (fun c3 => ?_) (fun c3 => ?_)
      · replace hm := ineg hm c3
        refine lv_aload_n hx hb dX5_rows_38 rfl (lv_at hl 0 rfl) ?_
        refine f_get S hK hw.1 in_X5_rows_X5 0 rfl rfl 10 (by decide) (List.mem_of_getElem? (i := 1) rfl) rfl rfl dX5_rows_39 ?_
        refine lv_aload_n hx hb dX5_rows_42 rfl (lv_at hl 0 rfl) ?_
        refine f_get S hK hw.1 in_X5_rows_X5 0 rfl rfl 2 (by decide) (List.mem_of_getElem? (i := 2) rfl) rfl rfl dX5_rows_43 ?_
        refine lv_aload_n hx hb dX5_rows_46 rfl (lv_at hl 0 rfl) ?_
        refine f_get S hK hw.1 in_X5_rows_X5 0 rfl rfl 4 (by decide) (List.mem_of_getElem? (i := 3) rfl) rfl rfl dX5_rows_47 ?_
        refine lv_aload_n hx hb dX5_rows_50 rfl (lv_at hl 0 rfl) ?_
        refine f_get S hK hw.1 in_X5_rows_X5 0 rfl rfl 8 (by decide) (List.mem_of_getElem? (i := 4) rfl) rfl rfl dX5_rows_51 ?_
        refine lv_iload_n hx hb dX5_rows_54 rfl (lv_at hl 1 rfl) ?_
        obtain ⟨r4, h5, hm⟩ := ob hm
        refine k_wVi S hK hw cal_X2_placeInFirst gX5_rows_X2_placeInFirst (c_X2_placeInFirst l D cC cI cJ a_sr a_sr_known a_ro a_us g_sr_months g_sr_heeded a_mo a_mo_kinds a_mo_days a_mo_rideDays a_mo_helpKinds a_mo_nexts a_mo_helperKinds a_mo_prices a_mo_helpersOfKind a_mo_numbers a_no a_se a_se_left sr_number sr_enough sr_hopeless sr_known ro_asked ro_brought ro_friends ro_used ro_crumbs ro_day mo_tasks mo_helpers mo_askedFirst mo_crumbsFirst mo_lastDay mo_kinds mo_days mo_rideDays mo_helpKinds mo_nexts mo_helperKinds mo_prices mo_helpersOfKind mo_numbers no_asked no_brought no_friends no_used no_crumbs no_day se_size se_lastPlace se_left p0 N (aw _) (hw.own [14, 15, 16, 1, 2, 3, 4, 5, 6, 7, 8, 9, 10, 11, 12, 13] (by decide) rfl) r4 h5) ⟨⟨rfl, rfl⟩, Nat.le_of_ble_eq_true rfl, Nat.le_of_ble_eq_true rfl⟩ [14, 15, 16, 1, 2, 3, 4, 5, 6, 7, 8, 9, 10, 11, 12, 13] rfl 14 rfl rfl rfl hl.1 rfl (Nat.le_of_ble_eq_true rfl) dX5_rows_55 ⟨Nat.zero_le _, Nat.zero_le _⟩ (fun H locs hJ hB => ?_)
        have hw := hJ _ hB rfl
        replace hw : Wd D A _ (wd_18 cC cI cJ a_x g_x_text x_letters a_mo g_x_spare a_no g_x_trial g_x_undoable g_x_kept a_se g_x_unseen a_sr a_mo mo_tasks mo_helpers mo_askedFirst mo_crumbsFirst mo_lastDay a_mo_kinds a_mo_days a_mo_rideDays a_mo_helpKinds a_mo_nexts a_mo_helperKinds a_mo_prices a_mo_helpersOfKind a_mo_numbers a_mo_kinds mo_kinds a_mo_days mo_days a_mo_rideDays mo_rideDays a_mo_helpKinds mo_helpKinds a_mo_nexts mo_nexts a_mo_helperKinds mo_helperKinds a_mo_prices mo_prices a_mo_helpersOfKind mo_helpersOfKind a_mo_numbers mo_numbers a_no no_asked no_brought no_friends no_used no_crumbs no_day a_se se_size se_lastPlace a_se_left a_se_left se_left a_sr a_sr_known a_ro a_us r4.2.1 r4.2.2.1 r4.2.2.2.1 a_mo a_se a_sr_known r4.2.2.2.2.1 a_ro r4.2.2.2.2.2.1 r4.2.2.2.2.2.2.1 r4.2.2.2.2.2.2.2.1 r4.2.2.2.2.2.2.2.2.1 r4.2.2.2.2.2.2.2.2.2.1 r4.2.2.2.2.2.2.2.2.2.2) H locs := hw
        obtain rfl := Option.some.inj hm
        exact e_WI S hr hlk hw rfl ⟨a_mo, a_se, hw.1⟩ dX5_rows_58
      · replace hm := ipos hm c3
        refine lv_aload_n hx hb dX5_rows_16 rfl (lv_at hl 0 rfl) ?_
        refine f_get S hK hw.1 in_X5_rows_X5 0 rfl rfl 10 (by decide) (List.mem_of_getElem? (i := 1) rfl) rfl rfl dX5_rows_17 ?_
        refine lv_aload_n hx hb dX5_rows_20 rfl (lv_at hl 0 rfl) ?_
        refine f_get S hK hw.1 in_X5_rows_X5 0 rfl rfl 2 (by decide) (List.mem_of_getElem? (i := 2) rfl) rfl rfl dX5_rows_21 ?_
        refine lv_aload_n hx hb dX5_rows_24 rfl (lv_at hl 0 rfl) ?_
        refine f_get S hK hw.1 in_X5_rows_X5 0 rfl rfl 4 (by decide) (List.mem_of_getElem? (i := 3) rfl) rfl rfl dX5_rows_25 ?_
        refine lv_aload_n hx hb dX5_rows_28 rfl (lv_at hl 0 rfl) ?_
        refine f_get S hK hw.1 in_X5_rows_X5 0 rfl rfl 8 (by decide) (List.mem_of_getElem? (i := 4) rfl) rfl rfl dX5_rows_29 ?_
        obtain ⟨r6, h7, hm⟩ := ob hm
        refine k_wVi S hK hw cal_X2_waysOf gX5_rows_X2_waysOf (c_X2_waysOf l D cC cI cJ a_sr a_sr_known a_ro a_us g_sr_months g_sr_heeded a_mo a_mo_kinds a_mo_days a_mo_rideDays a_mo_helpKinds a_mo_nexts a_mo_helperKinds a_mo_prices a_mo_helpersOfKind a_mo_numbers a_no a_se a_se_left sr_number sr_enough sr_hopeless sr_known ro_asked ro_brought ro_friends ro_used ro_crumbs ro_day mo_tasks mo_helpers mo_askedFirst mo_crumbsFirst mo_lastDay mo_kinds mo_days mo_rideDays mo_helpKinds mo_nexts mo_helperKinds mo_prices mo_helpersOfKind mo_numbers no_asked no_brought no_friends no_used no_crumbs no_day se_size se_lastPlace se_left N (aw _) (hw.own [14, 15, 16, 1, 2, 3, 4, 5, 6, 7, 8, 9, 10, 11, 12, 13] (by decide) rfl) r6 h7) ⟨⟨rfl, rfl⟩, Nat.le_of_ble_eq_true rfl, Nat.le_of_ble_eq_true rfl⟩ [14, 15, 16, 1, 2, 3, 4, 5, 6, 7, 8, 9, 10, 11, 12, 13] rfl 14 rfl rfl rfl hl.1 rfl (Nat.le_of_ble_eq_true rfl) dX5_rows_32 ⟨Nat.zero_le _, Nat.zero_le _⟩ (fun H locs hJ hB => ?_)
        have hw := hJ _ hB rfl
        replace hw : Wd D A _ (wd_18 cC cI cJ a_x g_x_text x_letters a_mo g_x_spare a_no g_x_trial g_x_undoable g_x_kept a_se g_x_unseen a_sr a_mo mo_tasks mo_helpers mo_askedFirst mo_crumbsFirst mo_lastDay a_mo_kinds a_mo_days a_mo_rideDays a_mo_helpKinds a_mo_nexts a_mo_helperKinds a_mo_prices a_mo_helpersOfKind a_mo_numbers a_mo_kinds mo_kinds a_mo_days mo_days a_mo_rideDays mo_rideDays a_mo_helpKinds mo_helpKinds a_mo_nexts mo_nexts a_mo_helperKinds mo_helperKinds a_mo_prices mo_prices a_mo_helpersOfKind mo_helpersOfKind a_mo_numbers mo_numbers a_no no_asked no_brought no_friends no_used no_crumbs no_day a_se se_size se_lastPlace a_se_left a_se_left se_left a_sr a_sr_known a_ro a_us r6.2.1 r6.2.2.1 r6.2.2.2.1 a_mo a_se a_sr_known r6.2.2.2.2.1 a_ro r6.2.2.2.2.2.1 r6.2.2.2.2.2.2.1 r6.2.2.2.2.2.2.2.1 r6.2.2.2.2.2.2.2.2.1 r6.2.2.2.2.2.2.2.2.2.1 r6.2.2.2.2.2.2.2.2.2.2) H locs := hw
        refine lv_goto (tgt := 58) hx hb dX5_rows_35 (by decide) ?_
        obtain rfl := Option.some.inj hm
        exact e_WI S hr hlk hw rfl ⟨a_mo, a_se, hw.1⟩ dX5_rows_58
    · replace hm := ineg hm c2
      refine lv_iconst (v := (-1)) hx hb dX5_rows_10 (by decide) ?_
      obtain rfl := Option.some.inj hm
      exact e_WI S hr hlk hw rfl ⟨g_sr_months, g_sr_heeded, hw.1⟩ dX5_rows_11

abbrev rX5_see : Room := { frames := 2, cells := 0, slots := 0, locals := 46 }
theorem cal_X5_see : Cal yX5_see wsX5_see cX5_see 3 (some .int) RX5 2 := ⟨⟨_, rfl⟩, rfl, by decide +kernel, by decide +kernel, by decide +kernel⟩
theorem in_X5_see_X3 : ∀ w ∈ wsX30, w ∈ wsX5_see := fun _ h => (List.mem_cons_of_mem _ (List.mem_append_left _ (List.mem_append_right _ h)))
theorem in_X5_see_X5 : ∀ w ∈ wsX50, w ∈ wsX5_see := fun _ h => (List.mem_cons_of_mem _ (List.mem_append_left _ (List.mem_append_left _ (List.mem_append_right _ h))))
set_option maxHeartbeats 4000000 in
set_option maxRecDepth 100000 in
theorem c_X5_see (l : Launch) (D : va_G) (cC cI cJ : ClassId) (a_x : Nat) (g_x_text : Nat) (a_mo : Nat) (g_x_spare : Nat) (g_x_now : Nat) (g_x_trial : Nat) (g_x_undoable : Nat) (g_x_kept : Nat) (a_se : Nat) (g_x_unseen : Nat) (g_x_search : Nat) (a_mo_kinds : Nat) (a_mo_days : Nat) (a_mo_rideDays : Nat) (a_mo_helpKinds : Nat) (a_mo_nexts : Nat) (a_mo_helperKinds : Nat) (a_mo_prices : Nat) (a_mo_helpersOfKind : Nat) (a_mo_numbers : Nat) (a_se_left : Nat) (x_letters : Int32) (mo_tasks : Int32) (mo_helpers : Int32) (mo_askedFirst : Int32) (mo_crumbsFirst : Int32) (mo_lastDay : Int32) (mo_kinds : (Nat → Int32)) (mo_days : (Nat → Int32)) (mo_rideDays : (Nat → Int32)) (mo_helpKinds : (Nat → Int32)) (mo_nexts : (Nat → Int32)) (mo_helperKinds : (Nat → Int32)) (mo_prices : (Nat → Int32)) (mo_helpersOfKind : (Nat → Int32)) (mo_numbers : (Nat → Int32)) (se_size : Int32) (se_lastPlace : Int32) (se_left : (Nat → Int32)) (p0 : Int32) (p1 : Int32) (A : Nat → Prop) (hD : va_D A (wd_24 cC cI cJ a_x g_x_text x_letters a_mo g_x_spare g_x_now g_x_trial g_x_undoable g_x_kept a_se g_x_unseen g_x_search a_mo mo_tasks mo_helpers mo_askedFirst mo_crumbsFirst mo_lastDay a_mo_kinds a_mo_days a_mo_rideDays a_mo_helpKinds a_mo_nexts a_mo_helperKinds a_mo_prices a_mo_helpersOfKind a_mo_numbers a_mo_kinds mo_kinds a_mo_days mo_days a_mo_rideDays mo_rideDays a_mo_helpKinds mo_helpKinds a_mo_nexts mo_nexts a_mo_helperKinds mo_helperKinds a_mo_prices mo_prices a_mo_helpersOfKind mo_helpersOfKind a_mo_numbers mo_numbers a_se se_size se_lastPlace a_se_left a_se_left se_left)) (out : (Int32 × Int32 × Int32 × (Nat → Int32))) (hm : m_X5_see mo_tasks se_size se_lastPlace se_left p0 p1 = some out) : WrI l yX5_see wsX5_see rX5_see D (tyK cC cI cJ) [.ref a_x, .int p0, .int p1] A (wd_24 cC cI cJ a_x g_x_text x_letters a_mo g_x_spare g_x_now g_x_trial g_x_undoable g_x_kept a_se g_x_unseen g_x_search a_mo mo_tasks mo_helpers mo_askedFirst mo_crumbsFirst mo_lastDay a_mo_kinds a_mo_days a_mo_rideDays a_mo_helpKinds a_mo_nexts a_mo_helperKinds a_mo_prices a_mo_helpersOfKind a_mo_numbers a_mo_kinds mo_kinds a_mo_days mo_days a_mo_rideDays mo_rideDays a_mo_helpKinds mo_helpKinds a_mo_nexts mo_nexts a_mo_helperKinds mo_helperKinds a_mo_prices mo_prices a_mo_helpersOfKind mo_helpersOfKind a_mo_numbers mo_numbers a_se se_size se_lastPlace a_se_left a_se_left se_left) (Bw0 D (wd_24 cC cI cJ a_x g_x_text x_letters a_mo g_x_spare g_x_now g_x_trial g_x_undoable g_x_kept a_se g_x_unseen g_x_search a_mo mo_tasks mo_helpers mo_askedFirst mo_crumbsFirst mo_lastDay a_mo_kinds a_mo_days a_mo_rideDays a_mo_helpKinds a_mo_nexts a_mo_helperKinds a_mo_prices a_mo_helpersOfKind a_mo_numbers a_mo_kinds mo_kinds a_mo_days mo_days a_mo_rideDays mo_rideDays a_mo_helpKinds mo_helpKinds a_mo_nexts mo_nexts a_mo_helperKinds mo_helperKinds a_mo_prices mo_prices a_mo_helpersOfKind mo_helpersOfKind a_mo_numbers mo_numbers a_se out.2.1 out.2.2.1 a_se_left a_se_left out.2.2.2)) out.1 := by
  unfold m_X5_see at hm
  refine enter (cc := cX5_see) (maxL := 3) (ret := (some .int)) (lv := [(0, .ref a_x), (1, .int p0), (2, .int p1)]) (by decide) rfl (Nat.le_of_ble_eq_true rfl) rfl ?_
  intro p e s m args below meth c S hr hlk hK hP ls hl
  replace S : CallFix p m c cX5_see 3 s args wsX5_see RX5 := S
  have hx := S.1
  have hb := S.2.1
  have hw : Wd D A s.heap (wd_24 cC cI cJ a_x g_x_text x_letters a_mo g_x_spare g_x_now g_x_trial g_x_undoable g_x_kept a_se g_x_unseen g_x_search a_mo mo_tasks mo_helpers mo_askedFirst mo_crumbsFirst mo_lastDay a_mo_kinds a_mo_days a_mo_rideDays a_mo_helpKinds a_mo_nexts a_mo_helperKinds a_mo_prices a_mo_helpersOfKind a_mo_numbers a_mo_kinds mo_kinds a_mo_days mo_days a_mo_rideDays mo_rideDays a_mo_helpKinds mo_helpKinds a_mo_nexts mo_nexts a_mo_helperKinds mo_helperKinds a_mo_prices mo_prices a_mo_helpersOfKind mo_helpersOfKind a_mo_numbers mo_numbers a_se se_size se_lastPlace a_se_left a_se_left se_left) s.heap [] := ⟨hP, hD, va_S.rf⟩
  have hw0 := hw
  refine lv_aload_n hx hb dX5_see_0 rfl (lv_at hl 0 rfl) ?_
  refine f_get S hK hw.1 in_X5_see_X5 0 rfl rfl 2 (by decide) (List.mem_of_getElem? (i := 1) rfl) rfl rfl dX5_see_1 ?_
  refine lv_iload_n hx hb dX5_see_4 rfl (lv_at hl 1 rfl) ?_
  obtain ⟨r1, h2, hm⟩ := ob hm
  refine k_rVi S hK hw.1 cal_X0_hasTask gX5_see_X0_hasTask (c_X0_hasTask l D cC cI cJ a_mo a_mo_kinds a_mo_days a_mo_rideDays a_mo_helpKinds a_mo_nexts a_mo_helperKinds a_mo_prices a_mo_helpersOfKind a_mo_numbers mo_tasks mo_helpers mo_askedFirst mo_crumbsFirst mo_lastDay mo_kinds mo_days mo_rideDays mo_helpKinds mo_nexts mo_helperKinds mo_prices mo_helpersOfKind mo_numbers p0 r1 h2) ⟨⟨rfl, rfl⟩, Nat.le_of_ble_eq_true rfl, Nat.le_of_ble_eq_true rfl⟩ [1, 2, 3, 4, 5, 6, 7, 8, 9, 10] rfl 1 rfl rfl rfl hl.1 rfl (Nat.le_of_ble_eq_true rfl) dX5_see_5 ⟨Nat.zero_le _, Nat.zero_le _⟩ ?_
  refine lv_if_eq (tgt := 22) hx hb dX5_see_8 (by decide) (fun c3 => ?_) (fun c3 => ?_)
  · replace hm := ipos hm c3
    refine lv_iconst (v := (-1)) hx hb dX5_see_22 (by decide) ?_
    obtain rfl := Option.some.inj hm
    exact e_WI S hr hlk hw rfl hw.1 dX5_see_23
  · replace hm := ineg hm c3
    refine lv_iload_n hx hb dX5_see_11 rfl (lv_at hl 2 rfl) ?_
    refine lv_iconst (v := 1) hx hb dX5_see_12 (by decide) ?_
    refine lv_icmp_lt (tgt := 22) hx hb dX5_see_13 (by decide) (fun c4 => ?_) (fun c4 => ?_)
    · replace hm := ipos hm c4
      refine lv_iconst (v := (-1)) hx hb dX5_see_22 (by decide) ?_
      obtain rfl := Option.some.inj hm
      exact e_WI S hr hlk hw rfl hw.1 dX5_see_23
    · replace hm := ineg hm c4
      refine lv_iload_n hx hb dX5_see_16 rfl (lv_at hl 2 rfl) ?_
      refine lv_bipush (v := 8) hx hb dX5_see_17 (by decide) ?_
      refine lv_icmp_le (tgt := 24) hx hb dX5_see_19 (by decide) (fun c5 => ?_) (fun c5 => ?_)
      · replace hm := ipos hm c5
        refine lv_aload_n hx hb dX5_see_24 rfl (lv_at hl 0 rfl) ?_
        refine f_get S hK hw.1 in_X5_see_X5 0 rfl rfl 8 (by decide) (List.mem_of_getElem? (i := 2) rfl) rfl rfl dX5_see_25 ?_
        refine f_get S hK hw.1 in_X5_see_X3 11 rfl rfl 0 (by decide) (List.mem_of_getElem? (i := 3) rfl) rfl rfl dX5_see_28 ?_
        refine lv_bipush (v := 6) hx hb dX5_see_31 (by decide) ?_
        refine lv_icmp_lt (tgt := 39) hx hb dX5_see_33 (by decide) (fun c6 => ?_) (fun c6 => ?_)
        · replace hm := ipos hm c6
          refine lv_aload_n hx hb dX5_see_39 rfl (lv_at hl 0 rfl) ?_
          refine f_get S hK hw.1 in_X5_see_X5 0 rfl rfl 8 (by decide) (List.mem_of_getElem? (i := 2) rfl) rfl rfl dX5_see_40 ?_
          refine lv_iload_n hx hb dX5_see_43 rfl (lv_at hl 1 rfl) ?_
          refine lv_iload_n hx hb dX5_see_44 rfl (lv_at hl 2 rfl) ?_
          obtain ⟨r7, h8, hm⟩ := ob hm
          refine k_wVv S hK hw cal_X3_add gX5_see_X3_add (c_X3_add l D cC cI cJ a_se a_se_left se_size se_lastPlace se_left p0 p1 (aw _) (hw.own [11, 12] (by decide) rfl) r7 h8) ⟨⟨rfl, rfl⟩, Nat.le_of_ble_eq_true rfl, Nat.le_of_ble_eq_true rfl⟩ [11, 12] rfl 11 rfl rfl rfl hl.1 rfl (Nat.le_of_ble_eq_true rfl) dX5_see_45 ⟨Nat.zero_le _, Nat.zero_le _⟩ (fun H locs hJ hB => ?_)
          have hw := hJ _ hB rfl
          replace hw : Wd D A _ (wd_24 cC cI cJ a_x g_x_text x_letters a_mo g_x_spare g_x_now g_x_trial g_x_undoable g_x_kept a_se g_x_unseen g_x_search a_mo mo_tasks mo_helpers mo_askedFirst mo_crumbsFirst mo_lastDay a_mo_kinds a_mo_days a_mo_rideDays a_mo_helpKinds a_mo_nexts a_mo_helperKinds a_mo_prices a_mo_helpersOfKind a_mo_numbers a_mo_kinds mo_kinds a_mo_days mo_days a_mo_rideDays mo_rideDays a_mo_helpKinds mo_helpKinds a_mo_nexts mo_nexts a_mo_helperKinds mo_helperKinds a_mo_prices mo_prices a_mo_helpersOfKind mo_helpersOfKind a_mo_numbers mo_numbers a_se r7.1 r7.2.1 a_se_left a_se_left r7.2.2) H locs := hw
          refine lv_aload_n hx hb dX5_see_48 rfl (lv_at hl 0 rfl) ?_
          refine f_get S hK hw.1 in_X5_see_X5 0 rfl rfl 8 (by decide) (List.mem_of_getElem? (i := 2) rfl) rfl rfl dX5_see_49 ?_
          refine f_get S hK hw.1 in_X5_see_X3 11 rfl rfl 0 (by decide) (List.mem_of_getElem? (i := 3) rfl) rfl rfl dX5_see_52 ?_
          obtain rfl := Option.some.inj hm
          exact e_WI S hr hlk hw rfl hw.1 dX5_see_55
        · replace hm := ineg hm c6
          refine lv_bipush (v := (-3)) hx hb dX5_see_36 (by decide) ?_
          obtain rfl := Option.some.inj hm
          exact e_WI S hr hlk hw rfl hw.1 dX5_see_38
      · replace hm := ineg hm c5
        refine lv_iconst (v := (-1)) hx hb dX5_see_22 (by decide) ?_
        obtain rfl := Option.some.inj hm
        exact e_WI S hr hlk hw rfl hw.1 dX5_see_23

abbrev rX5_step : Room := { frames := 15, cells := 0, slots := 0, locals := 402 }
theorem cal_X5_step : Cal yX5_step wsX5_step cX5_step 2 (some .int) RX5 1 := ⟨⟨_, rfl⟩, rfl, by decide +kernel, by decide +kernel, by decide +kernel⟩
theorem in_X5_step_X5 : ∀ w ∈ wsX50, w ∈ wsX5_step := fun _ h => (List.mem_cons_of_mem _ (List.mem_append_left _ (List.mem_append_left _ (List.mem_append_left _ (List.mem_append_left _ (List.mem_append_right _ h))))))
set_option maxHeartbeats 4000000 in
set_option maxRecDepth 100000 in
theorem c_X5_step (l : Launch) (D : va_G) (cC cI cJ : ClassId) (a_x : Nat) (g_x_text : Nat) (a_mo : Nat) (g_x_spare : Nat) (a_no : Nat) (a_tr : Nat) (g_x_undoable : Nat) (g_x_kept : Nat) (g_x_seen : Nat) (a_us : Nat) (a_sr : Nat) (a_mo_kinds : Nat) (a_mo_days : Nat) (a_mo_rideDays : Nat) (a_mo_helpKinds : Nat) (a_mo_nexts : Nat) (a_mo_helperKinds : Nat) (a_mo_prices : Nat) (a_mo_helpersOfKind : Nat) (a_mo_numbers : Nat) (a_us_left : Nat) (a_sr_known : Nat) (a_ro : Nat) (g_sr_months : Nat) (g_sr_heeded : Nat) (x_letters : Int32) (mo_tasks : Int32) (mo_helpers : Int32) (mo_askedFirst : Int32) (mo_crumbsFirst : Int32) (mo_lastDay : Int32) (mo_kinds : (Nat → Int32)) (mo_days : (Nat → Int32)) (mo_rideDays : (Nat → Int32)) (mo_helpKinds : (Nat → Int32)) (mo_nexts : (Nat → Int32)) (mo_helperKinds : (Nat → Int32)) (mo_prices : (Nat → Int32)) (mo_helpersOfKind : (Nat → Int32)) (mo_numbers : (Nat → Int32)) (no_asked : Int32) (no_brought : Int32) (no_friends : Int32) (no_used : Int32) (no_crumbs : Int32) (no_day : Int32) (tr_asked : Int32) (tr_brought : Int32) (tr_friends : Int32) (tr_used : Int32) (tr_crumbs : Int32) (tr_day : Int32) (us_size : Int32) (us_lastPlace : Int32) (us_left : (Nat → Int32)) (sr_number : Int64) (sr_enough : Int64) (sr_hopeless : Int32) (sr_known : (Nat → Int64)) (ro_asked : Int32) (ro_brought : Int32) (ro_friends : Int32) (ro_used : Int32) (ro_crumbs : Int32) (ro_day : Int32) (p0 : Int32) (N : Nat) (A : Nat → Prop) (hD : va_D A (wd_15 cC cI cJ a_x g_x_text x_letters a_mo g_x_spare a_no a_tr g_x_undoable g_x_kept g_x_seen a_us a_sr a_mo mo_tasks mo_helpers mo_askedFirst mo_crumbsFirst mo_lastDay a_mo_kinds a_mo_days a_mo_rideDays a_mo_helpKinds a_mo_nexts a_mo_helperKinds a_mo_prices a_mo_helpersOfKind a_mo_numbers a_mo_kinds mo_kinds a_mo_days mo_days a_mo_rideDays mo_rideDays a_mo_helpKinds mo_helpKinds a_mo_nexts mo_nexts a_mo_helperKinds mo_helperKinds a_mo_prices mo_prices a_mo_helpersOfKind mo_helpersOfKind a_mo_numbers mo_numbers a_no no_asked no_brought no_friends no_used no_crumbs no_day a_tr tr_asked tr_brought tr_friends tr_used tr_crumbs tr_day a_us us_size us_lastPlace a_us_left a_us_left us_left a_sr a_sr_known a_ro a_us sr_number sr_enough sr_hopeless g_sr_months g_sr_heeded a_sr_known sr_known a_ro ro_asked ro_brought ro_friends ro_used ro_crumbs ro_day)) (out : (Int32 × Int32 × Int32 × Int32 × Int32 × Int32 × Int32 × Int64 × Int64 × Int32 × (Nat → Int64) × Int32 × Int32 × Int32 × Int32 × Int32 × Int32)) (hm : m_X5_step N mo_tasks mo_lastDay mo_kinds mo_rideDays mo_helpKinds mo_nexts mo_helpersOfKind no_asked no_brought no_friends no_used no_crumbs no_day tr_asked tr_brought tr_friends tr_used tr_crumbs tr_day us_lastPlace us_left sr_number sr_enough sr_hopeless sr_known ro_asked ro_brought ro_friends ro_used ro_crumbs ro_day p0 = some out) : WrI l yX5_step wsX5_step rX5_step D (tyK cC cI cJ) [.ref a_x, .int p0] A (wd_15 cC cI cJ a_x g_x_text x_letters a_mo g_x_spare a_no a_tr g_x_undoable g_x_kept g_x_seen a_us a_sr a_mo mo_tasks mo_helpers mo_askedFirst mo_crumbsFirst mo_lastDay a_mo_kinds a_mo_days a_mo_rideDays a_mo_helpKinds a_mo_nexts a_mo_helperKinds a_mo_prices a_mo_helpersOfKind a_mo_numbers a_mo_kinds mo_kinds a_mo_days mo_days a_mo_rideDays mo_rideDays a_mo_helpKinds mo_helpKinds a_mo_nexts mo_nexts a_mo_helperKinds mo_helperKinds a_mo_prices mo_prices a_mo_helpersOfKind mo_helpersOfKind a_mo_numbers mo_numbers a_no no_asked no_brought no_friends no_used no_crumbs no_day a_tr tr_asked tr_brought tr_friends tr_used tr_crumbs tr_day a_us us_size us_lastPlace a_us_left a_us_left us_left a_sr a_sr_known a_ro a_us sr_number sr_enough sr_hopeless g_sr_months g_sr_heeded a_sr_known sr_known a_ro ro_asked ro_brought ro_friends ro_used ro_crumbs ro_day) (Bw2 D (fun z_15_6 z_15_7 => (wd_15 cC cI cJ a_x g_x_text x_letters a_mo g_x_spare a_no a_tr g_x_undoable g_x_kept g_x_seen a_us a_sr a_mo mo_tasks mo_helpers mo_askedFirst mo_crumbsFirst mo_lastDay a_mo_kinds a_mo_days a_mo_rideDays a_mo_helpKinds a_mo_nexts a_mo_helperKinds a_mo_prices a_mo_helpersOfKind a_mo_numbers a_mo_kinds mo_kinds a_mo_days mo_days a_mo_rideDays mo_rideDays a_mo_helpKinds mo_helpKinds a_mo_nexts mo_nexts a_mo_helperKinds mo_helperKinds a_mo_prices mo_prices a_mo_helpersOfKind mo_helpersOfKind a_mo_numbers mo_numbers a_no no_asked no_brought no_friends no_used no_crumbs no_day a_tr out.2.1 out.2.2.1 out.2.2.2.1 out.2.2.2.2.1 out.2.2.2.2.2.1 out.2.2.2.2.2.2.1 a_us us_size us_lastPlace a_us_left a_us_left us_left a_sr a_sr_known a_ro a_us out.2.2.2.2.2.2.2.1 out.2.2.2.2.2.2.2.2.1 out.2.2.2.2.2.2.2.2.2.1 z_15_6 z_15_7 a_sr_known out.2.2.2.2.2.2.2.2.2.2.1 a_ro out.2.2.2.2.2.2.2.2.2.2.2.1 out.2.2.2.2.2.2.2.2.2.2.2.2.1 out.2.2.2.2.2.2.2.2.2.2.2.2.2.1 out.2.2.2.2.2.2.2.2.2.2.2.2.2.2.1 out.2.2.2.2.2.2.2.2.2.2.2.2.2.2.2.1 out.2.2.2.2.2.2.2.2.2.2.2.2.2.2.2.2))) out.1 := by
  unfold m_X5_step at hm
  refine enter (cc := cX5_step) (maxL := 2) (ret := (some .int)) (lv := [(0, .ref a_x), (1, .int p0)]) (by decide) rfl (Nat.le_of_ble_eq_true rfl) rfl ?_
  intro p e s m args below meth c S hr hlk hK hP ls hl
  replace S : CallFix p m c cX5_step 2 s args wsX5_step RX5 := S
  have hx := S.1
  have hb := S.2.1
  have hw : Wd D A s.heap (wd_15 cC cI cJ a_x g_x_text x_letters a_mo g_x_spare a_no a_tr g_x_undoable g_x_kept g_x_seen a_us a_sr a_mo mo_tasks mo_helpers mo_askedFirst mo_crumbsFirst mo_lastDay a_mo_kinds a_mo_days a_mo_rideDays a_mo_helpKinds a_mo_nexts a_mo_helperKinds a_mo_prices a_mo_helpersOfKind a_mo_numbers a_mo_kinds mo_kinds a_mo_days mo_days a_mo_rideDays mo_rideDays a_mo_helpKinds mo_helpKinds a_mo_nexts mo_nexts a_mo_helperKinds mo_helperKinds a_mo_prices mo_prices a_mo_helpersOfKind mo_helpersOfKind a_mo_numbers mo_numbers a_no no_asked no_brought no_friends no_used no_crumbs no_day a_tr tr_asked tr_brought tr_friends tr_used tr_crumbs tr_day a_us us_size us_lastPlace a_us_left a_us_left us_left a_sr a_sr_known a_ro a_us sr_number sr_enough sr_hopeless g_sr_months g_sr_heeded a_sr_known sr_known a_ro ro_asked ro_brought ro_friends ro_used ro_crumbs ro_day) s.heap [] := ⟨hP, hD, va_S.rf⟩
  have hw0 := hw
  refine lv_aload_n hx hb dX5_step_0 rfl (lv_at hl 0 rfl) ?_
  refine f_get S hK hw.1 in_X5_step_X5 0 rfl rfl 2 (by decide) (List.mem_of_getElem? (i := 1) rfl) rfl rfl dX5_step_1 ?_
  refine lv_iload_n hx hb dX5_step_4 rfl (lv_at hl 1 rfl) ?_
  obtain ⟨r1, h2, hm⟩ := ob hm
  refine k_rVi S hK hw.1 cal_X0_hasTask gX5_step_X0_hasTask (c_X0_hasTask l D cC cI cJ a_mo a_mo_kinds a_mo_days a_mo_rideDays a_mo_helpKinds a_mo_nexts a_mo_helperKinds a_mo_prices a_mo_helpersOfKind a_mo_numbers mo_tasks mo_helpers mo_askedFirst mo_crumbsFirst mo_lastDay mo_kinds mo_days mo_rideDays mo_helpKinds mo_nexts mo_helperKinds mo_prices mo_helpersOfKind mo_numbers p0 r1 h2) ⟨⟨rfl, rfl⟩, Nat.le_of_ble_eq_true rfl, Nat.le_of_ble_eq_true rfl⟩ [1, 2, 3, 4, 5, 6, 7, 8, 9, 10] rfl 1 rfl rfl rfl hl.1 rfl (Nat.le_of_ble_eq_true rfl) dX5_step_5 ⟨Nat.zero_le _, Nat.zero_le _⟩ ?_
  refine lv_if_ne (tgt := 13) hx hb dX5_step_8 (by decide) (fun c3 => ?_) (fun c3 => ?_)
  · replace hm := ineg hm c3
    refine lv_aload_n hx hb dX5_step_13 rfl (lv_at hl 0 rfl) ?_
    refine f_get S hK hw.1 in_X5_step_X5 0 rfl rfl 5 (by decide) (List.mem_of_getElem? (i := 2) rfl) rfl rfl dX5_step_14 ?_
    refine lv_aload_n hx hb dX5_step_17 rfl (lv_at hl 0 rfl) ?_
    refine f_get S hK hw.1 in_X5_step_X5 0 rfl rfl 4 (by decide) (List.mem_of_getElem? (i := 3) rfl) rfl rfl dX5_step_18 ?_
    obtain ⟨r4, h5, hm⟩ := ob hm
    refine k_rVl S hK hw.1 cal_X4_packed gX5_step_X4_packed (c_X4_packed l D cC cI cJ a_no no_asked no_brought no_friends no_used no_crumbs no_day r4 h5) ⟨⟨rfl, rfl⟩, Nat.le_of_ble_eq_true rfl, Nat.le_of_ble_eq_true rfl⟩ [11] rfl 11 rfl rfl rfl hl.1 rfl (Nat.le_of_ble_eq_true rfl) dX5_step_21 ⟨Nat.zero_le _, Nat.zero_le _⟩ ?_
    obtain ⟨r6, h7, hm⟩ := ob hm
    refine k_wVv S hK hw cal_X4_unpack gX5_step_X4_unpack (c_X4_unpack l D cC cI cJ a_tr tr_asked tr_brought tr_friends tr_used tr_crumbs tr_day r4 (aw _) (hw.own [12] (by decide) rfl) r6 h7) ⟨⟨rfl, rfl⟩, Nat.le_of_ble_eq_true rfl, Nat.le_of_ble_eq_true rfl⟩ [12] rfl 12 rfl rfl rfl hl.1 rfl (Nat.le_of_ble_eq_true rfl) dX5_step_24 ⟨Nat.zero_le _, Nat.zero_le _⟩ (fun H locs hJ hB => ?_)
    have hw := hJ _ hB rfl
    replace hw : Wd D A _ (wd_15 cC cI cJ a_x g_x_text x_letters a_mo g_x_spare a_no a_tr g_x_undoable g_x_kept g_x_seen a_us a_sr a_mo mo_tasks mo_helpers mo_askedFirst mo_crumbsFirst mo_lastDay a_mo_kinds a_mo_days a_mo_rideDays a_mo_helpKinds a_mo_nexts a_mo_helperKinds a_mo_prices a_mo_helpersOfKind a_mo_numbers a_mo_kinds mo_kinds a_mo_days mo_days a_mo_rideDays mo_rideDays a_mo_helpKinds mo_helpKinds a_mo_nexts mo_nexts a_mo_helperKinds mo_helperKinds a_mo_prices mo_prices a_mo_helpersOfKind mo_helpersOfKind a_mo_numbers mo_numbers a_no no_asked no_brought no_friends no_used no_crumbs no_day a_tr r6.1 r6.2.1 r6.2.2.1 r6.2.2.2.1 r6.2.2.2.2.1 r6.2.2.2.2.2 a_us us_size us_lastPlace a_us_left a_us_left us_left a_sr a_sr_known a_ro a_us sr_number sr_enough sr_hopeless g_sr_months g_sr_heeded a_sr_known sr_known a_ro ro_asked ro_brought ro_friends ro_used ro_crumbs ro_day) H locs := hw
    refine lv_aload_n hx hb dX5_step_27 rfl (lv_at hl 0 rfl) ?_
    refine f_get S hK hw.1 in_X5_step_X5 0 rfl rfl 5 (by decide) (List.mem_of_getElem? (i := 2) rfl) rfl rfl dX5_step_28 ?_
    refine lv_aload_n hx hb dX5_step_31 rfl (lv_at hl 0 rfl) ?_
    refine f_get S hK hw.1 in_X5_step_X5 0 rfl rfl 2 (by decide) (List.mem_of_getElem? (i := 1) rfl) rfl rfl dX5_step_32 ?_
    refine lv_iload_n hx hb dX5_step_35 rfl (lv_at hl 1 rfl) ?_
    obtain ⟨r8, h9, hm⟩ := ob hm
    refine k_wVi S hK hw cal_X4_tryRide gX5_step_X4_tryRide (c_X4_tryRide l D cC cI cJ a_tr a_mo a_mo_kinds a_mo_days a_mo_rideDays a_mo_helpKinds a_mo_nexts a_mo_helperKinds a_mo_prices a_mo_helpersOfKind a_mo_numbers r6.1 r6.2.1 r6.2.2.1 r6.2.2.2.1 r6.2.2.2.2.1 r6.2.2.2.2.2 mo_tasks mo_helpers mo_askedFirst mo_crumbsFirst mo_lastDay mo_kinds mo_days mo_rideDays mo_helpKinds mo_nexts mo_helperKinds mo_prices mo_helpersOfKind mo_numbers p0 (aw _) (hw.own [12, 1, 2, 3, 4, 5, 6, 7, 8, 9, 10] (by decide) rfl) r8 h9) ⟨⟨rfl, rfl⟩, Nat.le_of_ble_eq_true rfl, Nat.le_of_ble_eq_true rfl⟩ [12, 1, 2, 3, 4, 5, 6, 7, 8, 9, 10] rfl 12 rfl rfl rfl hl.1 rfl (Nat.le_of_ble_eq_true rfl) dX5_step_36 ⟨Nat.zero_le _, Nat.zero_le _⟩ (fun H locs hJ hB => ?_)
    have hw := hJ _ hB rfl
    replace hw : Wd D A _ (wd_15 cC cI cJ a_x g_x_text x_letters a_mo g_x_spare a_no a_tr g_x_undoable g_x_kept g_x_seen a_us a_sr a_mo mo_tasks mo_helpers mo_askedFirst mo_crumbsFirst mo_lastDay a_mo_kinds a_mo_days a_mo_rideDays a_mo_helpKinds a_mo_nexts a_mo_helperKinds a_mo_prices a_mo_helpersOfKind a_mo_numbers a_mo_kinds mo_kinds a_mo_days mo_days a_mo_rideDays mo_rideDays a_mo_helpKinds mo_helpKinds a_mo_nexts mo_nexts a_mo_helperKinds mo_helperKinds a_mo_prices mo_prices a_mo_helpersOfKind mo_helpersOfKind a_mo_numbers mo_numbers a_no no_asked no_brought no_friends no_used no_crumbs no_day a_tr r8.2.1 r8.2.2.1 r6.2.2.1 r8.2.2.2.1 r6.2.2.2.2.1 r8.2.2.2.2 a_us us_size us_lastPlace a_us_left a_us_left us_left a_sr a_sr_known a_ro a_us sr_number sr_enough sr_hopeless g_sr_months g_sr_heeded a_sr_known sr_known a_ro ro_asked ro_brought ro_friends ro_used ro_crumbs ro_day) H locs := hw
    refine lv_if_ne (tgt := 44) hx hb dX5_step_39 (by decide) (fun c10 => ?_) (fun c10 => ?_)
    · replace hm := ineg hm c10
      refine lv_aload_n hx hb dX5_step_44 rfl (lv_at hl 0 rfl) ?_
      refine f_get S hK hw.1 in_X5_step_X5 0 rfl rfl 10 (by decide) (List.mem_of_getElem? (i := 4) rfl) rfl rfl dX5_step_45 ?_
      refine lv_aload_n hx hb dX5_step_48 rfl (lv_at hl 0 rfl) ?_
      refine f_get S hK hw.1 in_X5_step_X5 0 rfl rfl 2 (by decide) (List.mem_of_getElem? (i := 1) rfl) rfl rfl dX5_step_49 ?_
      refine lv_aload_n hx hb dX5_step_52 rfl (lv_at hl 0 rfl) ?_
      refine f_get S hK hw.1 in_X5_step_X5 0 rfl rfl 5 (by decide) (List.mem_of_getElem? (i := 2) rfl) rfl rfl dX5_step_53 ?_
      refine lv_aload_n hx hb dX5_step_56 rfl (lv_at hl 0 rfl) ?_
      refine f_get S hK hw.1 in_X5_step_X5 0 rfl rfl 9 (by decide) (List.mem_of_getElem? (i := 5) rfl) rfl rfl dX5_step_57 ?_
      obtain ⟨r11, h12, hm⟩ := ob hm
      refine k_wVi S hK hw cal_X2_waysOf gX5_step_X2_waysOf (c_X2_waysOf l D cC cI cJ a_sr a_sr_known a_ro a_us g_sr_months g_sr_heeded a_mo a_mo_kinds a_mo_days a_mo_rideDays a_mo_helpKinds a_mo_nexts a_mo_helperKinds a_mo_prices a_mo_helpersOfKind a_mo_numbers a_tr a_us a_us_left sr_number sr_enough sr_hopeless sr_known ro_asked ro_brought ro_friends ro_used ro_crumbs ro_day mo_tasks mo_helpers mo_askedFirst mo_crumbsFirst mo_lastDay mo_kinds mo_days mo_rideDays mo_helpKinds mo_nexts mo_helperKinds mo_prices mo_helpersOfKind mo_numbers r8.2.1 r8.2.2.1 r6.2.2.1 r8.2.2.2.1 r6.2.2.2.2.1 r8.2.2.2.2 us_size us_lastPlace us_left N (aw _) (hw.own [15, 16, 17, 1, 2, 3, 4, 5, 6, 7, 8, 9, 10, 12, 13, 14] (by decide) rfl) r11 h12) ⟨⟨rfl, rfl⟩, Nat.le_of_ble_eq_true rfl, Nat.le_of_ble_eq_true rfl⟩ [15, 16, 17, 1, 2, 3, 4, 5, 6, 7, 8, 9, 10, 12, 13, 14] rfl 15 rfl rfl rfl hl.1 rfl (Nat.le_of_ble_eq_true rfl) dX5_step_60 ⟨Nat.zero_le _, Nat.zero_le _⟩ (fun H locs hJ hB => ?_)
      have hw := hJ _ hB rfl
      replace hw : Wd D A _ (wd_15 cC cI cJ a_x g_x_text x_letters a_mo g_x_spare a_no a_tr g_x_undoable g_x_kept g_x_seen a_us a_sr a_mo mo_tasks mo_helpers mo_askedFirst mo_crumbsFirst mo_lastDay a_mo_kinds a_mo_days a_mo_rideDays a_mo_helpKinds a_mo_nexts a_mo_helperKinds a_mo_prices a_mo_helpersOfKind a_mo_numbers a_mo_kinds mo_kinds a_mo_days mo_days a_mo_rideDays mo_rideDays a_mo_helpKinds mo_helpKinds a_mo_nexts mo_nexts a_mo_helperKinds mo_helperKinds a_mo_prices mo_prices a_mo_helpersOfKind mo_helpersOfKind a_mo_numbers mo_numbers a_no no_asked no_brought no_friends no_used no_crumbs no_day a_tr r8.2.1 r8.2.2.1 r6.2.2.1 r8.2.2.2.1 r6.2.2.2.2.1 r8.2.2.2.2 a_us us_size us_lastPlace a_us_left a_us_left us_left a_sr a_sr_known a_ro a_us r11.2.1 r11.2.2.1 r11.2.2.2.1 a_mo a_us a_sr_known r11.2.2.2.2.1 a_ro r11.2.2.2.2.2.1 r11.2.2.2.2.2.2.1 r11.2.2.2.2.2.2.2.1 r11.2.2.2.2.2.2.2.2.1 r11.2.2.2.2.2.2.2.2.2.1 r11.2.2.2.2.2.2.2.2.2.2) H locs := hw
      obtain rfl := Option.some.inj hm
      exact e_WI S hr hlk hw rfl ⟨a_mo, a_us, hw.1⟩ dX5_step_63
    · replace hm := ipos hm c10
      refine lv_iconst (v := 0) hx hb dX5_step_42 (by decide) ?_
      obtain rfl := Option.some.inj hm
      exact e_WI S hr hlk hw rfl ⟨g_sr_months, g_sr_heeded, hw.1⟩ dX5_step_43
  · replace hm := ipos hm c3
    refine lv_iconst (v := (-1)) hx hb dX5_step_11 (by decide) ?_
    obtain rfl := Option.some.inj hm
    exact e_WI S hr hlk hw rfl ⟨g_sr_months, g_sr_heeded, hw.1⟩ dX5_step_12

abbrev rX5_suggest : Room := { frames := 3, cells := 0, slots := 0, locals := 64 }
theorem cal_X5_suggest : Cal yX5_suggest wsX5_suggest cX5_suggest 4 (some .int) RX5 1 := ⟨⟨_, rfl⟩, rfl, by decide +kernel, by decide +kernel, by decide +kernel⟩
theorem in_X5_suggest_X5 : ∀ w ∈ wsX50, w ∈ wsX5_suggest := fun _ h => (List.mem_cons_of_mem _ (List.mem_append_left _ (List.mem_append_left _ (List.mem_append_left _ (List.mem_append_right _ h)))))
set_option maxHeartbeats 4000000 in
set_option maxRecDepth 100000 in
theorem c_X5_suggest (l : Launch) (D : va_G) (cC cI cJ : ClassId) (a_x : Nat) (g_x_text : Nat) (a_mo : Nat) (g_x_spare : Nat) (a_no : Nat) (g_x_trial : Nat) (a_un : Nat) (g_x_kept : Nat) (g_x_seen : Nat) (g_x_unseen : Nat) (g_x_search : Nat) (a_mo_kinds : Nat) (a_mo_days : Nat) (a_mo_rideDays : Nat) (a_mo_helpKinds : Nat) (a_mo_nexts : Nat) (a_mo_helperKinds : Nat) (a_mo_prices : Nat) (a_mo_helpersOfKind : Nat) (a_mo_numbers : Nat) (a_un_held : Nat) (x_letters : Int32) (mo_tasks : Int32) (mo_helpers : Int32) (mo_askedFirst : Int32) (mo_crumbsFirst : Int32) (mo_lastDay : Int32) (mo_kinds : (Nat → Int32)) (mo_days : (Nat → Int32)) (mo_rideDays : (Nat → Int32)) (mo_helpKinds : (Nat → Int32)) (mo_nexts : (Nat → Int32)) (mo_helperKinds : (Nat → Int32)) (mo_prices : (Nat → Int32)) (mo_helpersOfKind : (Nat → Int32)) (mo_numbers : (Nat → Int32)) (no_asked : Int32) (no_brought : Int32) (no_friends : Int32) (no_used : Int32) (no_crumbs : Int32) (no_day : Int32) (un_size : Int32) (un_held : (Nat → Int64)) (p0 : Int32) (N : Nat) (A : Nat → Prop) (hD : va_D A (wd_14 cC cI cJ a_x g_x_text x_letters a_mo g_x_spare a_no g_x_trial a_un g_x_kept g_x_seen g_x_unseen g_x_search a_mo mo_tasks mo_helpers mo_askedFirst mo_crumbsFirst mo_lastDay a_mo_kinds a_mo_days a_mo_rideDays a_mo_helpKinds a_mo_nexts a_mo_helperKinds a_mo_prices a_mo_helpersOfKind a_mo_numbers a_mo_kinds mo_kinds a_mo_days mo_days a_mo_rideDays mo_rideDays a_mo_helpKinds mo_helpKinds a_mo_nexts mo_nexts a_mo_helperKinds mo_helperKinds a_mo_prices mo_prices a_mo_helpersOfKind mo_helpersOfKind a_mo_numbers mo_numbers a_no no_asked no_brought no_friends no_used no_crumbs no_day a_un un_size a_un_held a_un_held un_held)) (out : (Int32 × Int32 × Int32 × (Nat → Int64))) (hm : m_X5_suggest N mo_tasks mo_lastDay no_asked no_brought no_friends no_used no_crumbs no_day un_size un_held p0 = some out) : WrI l yX5_suggest wsX5_suggest rX5_suggest D (tyK cC cI cJ) [.ref a_x, .int p0] A (wd_14 cC cI cJ a_x g_x_text x_letters a_mo g_x_spare a_no g_x_trial a_un g_x_kept g_x_seen g_x_unseen g_x_search a_mo mo_tasks mo_helpers mo_askedFirst mo_crumbsFirst mo_lastDay a_mo_kinds a_mo_days a_mo_rideDays a_mo_helpKinds a_mo_nexts a_mo_helperKinds a_mo_prices a_mo_helpersOfKind a_mo_numbers a_mo_kinds mo_kinds a_mo_days mo_days a_mo_rideDays mo_rideDays a_mo_helpKinds mo_helpKinds a_mo_nexts mo_nexts a_mo_helperKinds mo_helperKinds a_mo_prices mo_prices a_mo_helpersOfKind mo_helpersOfKind a_mo_numbers mo_numbers a_no no_asked no_brought no_friends no_used no_crumbs no_day a_un un_size a_un_held a_un_held un_held) (Bw0 D (wd_14 cC cI cJ a_x g_x_text x_letters a_mo g_x_spare a_no g_x_trial a_un g_x_kept g_x_seen g_x_unseen g_x_search a_mo mo_tasks mo_helpers mo_askedFirst mo_crumbsFirst mo_lastDay a_mo_kinds a_mo_days a_mo_rideDays a_mo_helpKinds a_mo_nexts a_mo_helperKinds a_mo_prices a_mo_helpersOfKind a_mo_numbers a_mo_kinds mo_kinds a_mo_days mo_days a_mo_rideDays mo_rideDays a_mo_helpKinds mo_helpKinds a_mo_nexts mo_nexts a_mo_helperKinds mo_helperKinds a_mo_prices mo_prices a_mo_helpersOfKind mo_helpersOfKind a_mo_numbers mo_numbers a_no out.2.1 no_brought no_friends no_used no_crumbs no_day a_un out.2.2.1 a_un_held a_un_held out.2.2.2)) out.1 := by
  unfold m_X5_suggest at hm
  refine enter (cc := cX5_suggest) (maxL := 4) (ret := (some .int)) (lv := [(0, .ref a_x), (1, .int p0)]) (by decide) rfl (Nat.le_of_ble_eq_true rfl) rfl ?_
  intro p e s m args below meth c S hr hlk hK hP ls hl
  replace S : CallFix p m c cX5_suggest 4 s args wsX5_suggest RX5 := S
  have hx := S.1
  have hb := S.2.1
  have hw : Wd D A s.heap (wd_14 cC cI cJ a_x g_x_text x_letters a_mo g_x_spare a_no g_x_trial a_un g_x_kept g_x_seen g_x_unseen g_x_search a_mo mo_tasks mo_helpers mo_askedFirst mo_crumbsFirst mo_lastDay a_mo_kinds a_mo_days a_mo_rideDays a_mo_helpKinds a_mo_nexts a_mo_helperKinds a_mo_prices a_mo_helpersOfKind a_mo_numbers a_mo_kinds mo_kinds a_mo_days mo_days a_mo_rideDays mo_rideDays a_mo_helpKinds mo_helpKinds a_mo_nexts mo_nexts a_mo_helperKinds mo_helperKinds a_mo_prices mo_prices a_mo_helpersOfKind mo_helpersOfKind a_mo_numbers mo_numbers a_no no_asked no_brought no_friends no_used no_crumbs no_day a_un un_size a_un_held a_un_held un_held) s.heap [] := ⟨hP, hD, va_S.rf⟩
  have hw0 := hw
  refine lv_aload_n hx hb dX5_suggest_0 rfl (lv_at hl 0 rfl) ?_
  refine f_get S hK hw.1 in_X5_suggest_X5 0 rfl rfl 2 (by decide) (List.mem_of_getElem? (i := 1) rfl) rfl rfl dX5_suggest_1 ?_
  refine lv_iload_n hx hb dX5_suggest_4 rfl (lv_at hl 1 rfl) ?_
  obtain ⟨r1, h2, hm⟩ := ob hm
  refine k_rVi S hK hw.1 cal_X0_hasTask gX5_suggest_X0_hasTask (c_X0_hasTask l D cC cI cJ a_mo a_mo_kinds a_mo_days a_mo_rideDays a_mo_helpKinds a_mo_nexts a_mo_helperKinds a_mo_prices a_mo_helpersOfKind a_mo_numbers mo_tasks mo_helpers mo_askedFirst mo_crumbsFirst mo_lastDay mo_kinds mo_days mo_rideDays mo_helpKinds mo_nexts mo_helperKinds mo_prices mo_helpersOfKind mo_numbers p0 r1 h2) ⟨⟨rfl, rfl⟩, Nat.le_of_ble_eq_true rfl, Nat.le_of_ble_eq_true rfl⟩ [1, 2, 3, 4, 5, 6, 7, 8, 9, 10] rfl 1 rfl rfl rfl hl.1 rfl (Nat.le_of_ble_eq_true rfl) dX5_suggest_5 ⟨Nat.zero_le _, Nat.zero_le _⟩ ?_
  refine lv_if_ne (tgt := 13) hx hb dX5_suggest_8 (by decide) (fun c3 => ?_) (fun c3 => ?_)
  · replace hm := ineg hm c3
    refine lv_aload_n hx hb dX5_suggest_13 rfl (lv_at hl 0 rfl) ?_
    refine f_get S hK hw.1 in_X5_suggest_X5 0 rfl rfl 4 (by decide) (List.mem_of_getElem? (i := 2) rfl) rfl rfl dX5_suggest_14 ?_
    obtain ⟨r4, h5, hm⟩ := ob hm
    refine k_rVl S hK hw.1 cal_X4_packed gX5_suggest_X4_packed (c_X4_packed l D cC cI cJ a_no no_asked no_brought no_friends no_used no_crumbs no_day r4 h5) ⟨⟨rfl, rfl⟩, Nat.le_of_ble_eq_true rfl, Nat.le_of_ble_eq_true rfl⟩ [11] rfl 11 rfl rfl rfl hl.1 rfl (Nat.le_of_ble_eq_true rfl) dX5_suggest_17 ⟨Nat.zero_le _, Nat.zero_le _⟩ ?_
    refine lv_lstore_n (lv' := [(2, .long r4), (0, .ref a_x), (1, .int p0)]) hx hb dX5_suggest_20 rfl hl (by decide) rfl (fun ls hl => ?_)
    refine lv_aload_n hx hb dX5_suggest_21 rfl (lv_at hl 1 rfl) ?_
    refine f_get S hK hw.1 in_X5_suggest_X5 0 rfl rfl 4 (by decide) (List.mem_of_getElem? (i := 2) rfl) rfl rfl dX5_suggest_22 ?_
    refine lv_aload_n hx hb dX5_suggest_25 rfl (lv_at hl 1 rfl) ?_
    refine f_get S hK hw.1 in_X5_suggest_X5 0 rfl rfl 2 (by decide) (List.mem_of_getElem? (i := 1) rfl) rfl rfl dX5_suggest_26 ?_
    refine lv_iload_n hx hb dX5_suggest_29 rfl (lv_at hl 2 rfl) ?_
    obtain ⟨r6, h7, hm⟩ := ob hm
    refine k_wVi S hK hw cal_X4_trySuggest gX5_suggest_X4_trySuggest (c_X4_trySuggest l D cC cI cJ a_no a_mo a_mo_kinds a_mo_days a_mo_rideDays a_mo_helpKinds a_mo_nexts a_mo_helperKinds a_mo_prices a_mo_helpersOfKind a_mo_numbers no_asked no_brought no_friends no_used no_crumbs no_day mo_tasks mo_helpers mo_askedFirst mo_crumbsFirst mo_lastDay mo_kinds mo_days mo_rideDays mo_helpKinds mo_nexts mo_helperKinds mo_prices mo_helpersOfKind mo_numbers p0 (aw _) (hw.own [11, 1, 2, 3, 4, 5, 6, 7, 8, 9, 10] (by decide) rfl) r6 h7) ⟨⟨rfl, rfl⟩, Nat.le_of_ble_eq_true rfl, Nat.le_of_ble_eq_true rfl⟩ [11, 1, 2, 3, 4, 5, 6, 7, 8, 9, 10] rfl 11 rfl rfl rfl hl.1 rfl (Nat.le_of_ble_eq_true rfl) dX5_suggest_30 ⟨Nat.zero_le _, Nat.zero_le _⟩ (fun H locs hJ hB => ?_)
    have hw := hJ _ hB rfl
    replace hw : Wd D A _ (wd_14 cC cI cJ a_x g_x_text x_letters a_mo g_x_spare a_no g_x_trial a_un g_x_kept g_x_seen g_x_unseen g_x_search a_mo mo_tasks mo_helpers mo_askedFirst mo_crumbsFirst mo_lastDay a_mo_kinds a_mo_days a_mo_rideDays a_mo_helpKinds a_mo_nexts a_mo_helperKinds a_mo_prices a_mo_helpersOfKind a_mo_numbers a_mo_kinds mo_kinds a_mo_days mo_days a_mo_rideDays mo_rideDays a_mo_helpKinds mo_helpKinds a_mo_nexts mo_nexts a_mo_helperKinds mo_helperKinds a_mo_prices mo_prices a_mo_helpersOfKind mo_helpersOfKind a_mo_numbers mo_numbers a_no r6.2 no_brought no_friends no_used no_crumbs no_day a_un un_size a_un_held a_un_held un_held) H locs := hw
    refine lv_if_ne (tgt := 39) hx hb dX5_suggest_33 (by decide) (fun c8 => ?_) (fun c8 => ?_)
    · replace hm := ineg hm c8
      refine lv_aload_n hx hb dX5_suggest_39 rfl (lv_at hl 1 rfl) ?_
      refine f_get S hK hw.1 in_X5_suggest_X5 0 rfl rfl 6 (by decide) (List.mem_of_getElem? (i := 3) rfl) rfl rfl dX5_suggest_40 ?_
      refine lv_lload_n hx hb dX5_suggest_43 rfl (lv_at hl 0 rfl) ?_
      obtain ⟨r9, h10, hm⟩ := ob hm
      refine k_wVv S hK hw cal_X1_put gX5_suggest_X1_put (c_X1_put l D cC cI cJ a_un a_un_held un_size 8 un_held r4 N (aw _) (hw.own [12, 13] (by decide) rfl) r9 h10) ⟨⟨rfl, rfl⟩, Nat.le_of_ble_eq_true rfl, Nat.le_of_ble_eq_true rfl⟩ [12, 13] rfl 12 rfl rfl rfl hl.1 rfl (Nat.le_of_ble_eq_true rfl) dX5_suggest_44 ⟨Nat.zero_le _, Nat.zero_le _⟩ (fun H locs hJ hB => ?_)
      have hw := hJ _ hB rfl
      replace hw : Wd D A _ (wd_14 cC cI cJ a_x g_x_text x_letters a_mo g_x_spare a_no g_x_trial a_un g_x_kept g_x_seen g_x_unseen g_x_search a_mo mo_tasks mo_helpers mo_askedFirst mo_crumbsFirst mo_lastDay a_mo_kinds a_mo_days a_mo_rideDays a_mo_helpKinds a_mo_nexts a_mo_helperKinds a_mo_prices a_mo_helpersOfKind a_mo_numbers a_mo_kinds mo_kinds a_mo_days mo_days a_mo_rideDays mo_rideDays a_mo_helpKinds mo_helpKinds a_mo_nexts mo_nexts a_mo_helperKinds mo_helperKinds a_mo_prices mo_prices a_mo_helpersOfKind mo_helpersOfKind a_mo_numbers mo_numbers a_no r6.2 no_brought no_friends no_used no_crumbs no_day a_un r9.1 a_un_held a_un_held r9.2) H locs := hw
      refine lv_aload_n hx hb dX5_suggest_47 rfl (lv_at hl 1 rfl) ?_
      refine f_get S hK hw.1 in_X5_suggest_X5 0 rfl rfl 4 (by decide) (List.mem_of_getElem? (i := 2) rfl) rfl rfl dX5_suggest_48 ?_
      obtain ⟨r11, h12, hm⟩ := ob hm
      refine k_rVi S hK hw.1 cal_X4_openTasks gX5_suggest_X4_openTasks (c_X4_openTasks l D cC cI cJ a_no r6.2 no_brought no_friends no_used no_crumbs no_day r11 h12) ⟨⟨rfl, rfl⟩, Nat.le_of_ble_eq_true rfl, Nat.le_of_ble_eq_true rfl⟩ [11] rfl 11 rfl rfl rfl hl.1 rfl (Nat.le_of_ble_eq_true rfl) dX5_suggest_51 ⟨Nat.zero_le _, Nat.zero_le _⟩ ?_
      obtain ⟨r13, h14, hm⟩ := ob hm
      refine k_rSi S hK hw.1 cal_J6_bitCount_0f7a4 gX5_suggest_J6_bitCount_0f7a4 (c_J6_bitCount_0f7a4 l D cC cI cJ r11 r13 h14) ⟨⟨rfl, rfl⟩, Nat.le_of_ble_eq_true rfl, Nat.le_of_ble_eq_true rfl⟩ [] rfl rfl hl.1 rfl (Nat.le_of_ble_eq_true rfl) dX5_suggest_54 ⟨Nat.zero_le _, Nat.zero_le _⟩ ?_
      obtain rfl := Option.some.inj hm
      exact e_WI S hr hlk hw rfl hw.1 dX5_suggest_57
    · replace hm := ipos hm c8
      refine lv_bipush (v := (-2)) hx hb dX5_suggest_36 (by decide) ?_
      obtain rfl := Option.some.inj hm
      exact e_WI S hr hlk hw rfl hw.1 dX5_suggest_38
  · replace hm := ipos hm c3
    refine lv_iconst (v := (-1)) hx hb dX5_suggest_11 (by decide) ?_
    obtain rfl := Option.some.inj hm
    exact e_WI S hr hlk hw rfl hw.1 dX5_suggest_12

abbrev rX5_task : Room := { frames := 2, cells := 0, slots := 0, locals := 48 }
theorem cal_X5_task : Cal yX5_task wsX5_task cX5_task 3 (some .int) RX5 2 := ⟨⟨_, rfl⟩, rfl, by decide +kernel, by decide +kernel, by decide +kernel⟩
theorem in_X5_task_X4 : ∀ w ∈ wsX40, w ∈ wsX5_task := fun _ h => (List.mem_cons_of_mem _ (List.mem_append_left _ (List.mem_append_right _ h)))
theorem in_X5_task_X5 : ∀ w ∈ wsX50, w ∈ wsX5_task := fun _ h => (List.mem_cons_of_mem _ (List.mem_append_left _ (List.mem_append_left _ (List.mem_append_right _ h))))
set_option maxHeartbeats 4000000 in
set_option maxRecDepth 100000 in
theorem c_X5_task (l : Launch) (D : va_G) (cC cI cJ : ClassId) (a_x : Nat) (g_x_text : Nat) (a_mo : Nat) (g_x_spare : Nat) (a_no : Nat) (g_x_trial : Nat) (g_x_undoable : Nat) (g_x_kept : Nat) (g_x_seen : Nat) (g_x_unseen : Nat) (g_x_search : Nat) (a_mo_kinds : Nat) (a_mo_days : Nat) (a_mo_rideDays : Nat) (a_mo_helpKinds : Nat) (a_mo_nexts : Nat) (a_mo_helperKinds : Nat) (a_mo_prices : Nat) (a_mo_helpersOfKind : Nat) (a_mo_numbers : Nat) (x_letters : Int32) (mo_tasks : Int32) (mo_helpers : Int32) (mo_askedFirst : Int32) (mo_crumbsFirst : Int32) (mo_lastDay : Int32) (mo_kinds : (Nat → Int32)) (mo_days : (Nat → Int32)) (mo_rideDays : (Nat → Int32)) (mo_helpKinds : (Nat → Int32)) (mo_nexts : (Nat → Int32)) (mo_helperKinds : (Nat → Int32)) (mo_prices : (Nat → Int32)) (mo_helpersOfKind : (Nat → Int32)) (mo_numbers : (Nat → Int32)) (no_asked : Int32) (no_brought : Int32) (no_friends : Int32) (no_used : Int32) (no_crumbs : Int32) (no_day : Int32) (p0 : Int32) (p1 : Int32) (out : Int32) (hm : m_X5_task mo_tasks mo_lastDay mo_kinds mo_days mo_helpKinds mo_nexts mo_helpersOfKind no_asked no_brought no_friends no_used no_day p0 p1 = some out) : RdI l yX5_task wsX5_task rX5_task D (tyK cC cI cJ) [.ref a_x, .int p0, .int p1] (wd_19 cC cI cJ a_x g_x_text x_letters a_mo g_x_spare a_no g_x_trial g_x_undoable g_x_kept g_x_seen g_x_unseen g_x_search a_mo mo_tasks mo_helpers mo_askedFirst mo_crumbsFirst mo_lastDay a_mo_kinds a_mo_days a_mo_rideDays a_mo_helpKinds a_mo_nexts a_mo_helperKinds a_mo_prices a_mo_helpersOfKind a_mo_numbers a_mo_kinds mo_kinds a_mo_days mo_days a_mo_rideDays mo_rideDays a_mo_helpKinds mo_helpKinds a_mo_nexts mo_nexts a_mo_helperKinds mo_helperKinds a_mo_prices mo_prices a_mo_helpersOfKind mo_helpersOfKind a_mo_numbers mo_numbers a_no no_asked no_brought no_friends no_used no_crumbs no_day) out := by
  unfold m_X5_task at hm
  refine enter (cc := cX5_task) (maxL := 3) (ret := (some .int)) (lv := [(0, .ref a_x), (1, .int p0), (2, .int p1)]) (by decide) rfl (Nat.le_of_ble_eq_true rfl) rfl ?_
  intro p e s m args below meth c S hr hlk hK hP ls hl
  replace S : CallFix p m c cX5_task 3 s args wsX5_task RX5 := S
  have hx := S.1
  have hb := S.2.1
  refine lv_aload_n hx hb dX5_task_0 rfl (lv_at hl 0 rfl) ?_
  refine f_get S hK hP in_X5_task_X5 0 rfl rfl 2 (by decide) (List.mem_of_getElem? (i := 1) rfl) rfl rfl dX5_task_1 ?_
  refine lv_iload_n hx hb dX5_task_4 rfl (lv_at hl 1 rfl) ?_
  obtain ⟨r1, h2, hm⟩ := ob hm
  refine k_rVi S hK hP cal_X0_hasTask gX5_task_X0_hasTask (c_X0_hasTask l D cC cI cJ a_mo a_mo_kinds a_mo_days a_mo_rideDays a_mo_helpKinds a_mo_nexts a_mo_helperKinds a_mo_prices a_mo_helpersOfKind a_mo_numbers mo_tasks mo_helpers mo_askedFirst mo_crumbsFirst mo_lastDay mo_kinds mo_days mo_rideDays mo_helpKinds mo_nexts mo_helperKinds mo_prices mo_helpersOfKind mo_numbers p0 r1 h2) ⟨⟨rfl, rfl⟩, Nat.le_of_ble_eq_true rfl, Nat.le_of_ble_eq_true rfl⟩ [1, 2, 3, 4, 5, 6, 7, 8, 9, 10] rfl 1 rfl rfl rfl hl.1 rfl (Nat.le_of_ble_eq_true rfl) dX5_task_5 ⟨Nat.zero_le _, Nat.zero_le _⟩ ?_
  refine lv_if_ne (tgt := 13) hx hb dX5_task_8 (by decide) (fun c3 => ?_) (fun c3 => ?_)
  · replace hm := ineg hm c3
    refine lv_iload_n hx hb dX5_task_13 rfl (lv_at hl 2 rfl) ?_
    by_cases c4 : p1 = (0 : Int32)
    · replace hm := ipos hm c4
      refine f_tabIn S c4 dX5_task_14 (off := 42) (by decide) (by decide) (by decide) (tgt := 56) (by decide) ?_
      refine lv_aload_n hx hb dX5_task_56 rfl (lv_at hl 0 rfl) ?_
      refine f_get S hK hP in_X5_task_X5 0 rfl rfl 2 (by decide) (List.mem_of_getElem? (i := 1) rfl) rfl rfl dX5_task_57 ?_
      refine lv_iload_n hx hb dX5_task_60 rfl (lv_at hl 1 rfl) ?_
      obtain ⟨r5, h6, hm⟩ := ob hm
      refine k_rVi S hK hP cal_X0_kindOf gX5_task_X0_kindOf (c_X0_kindOf l D cC cI cJ a_mo a_mo_kinds a_mo_days a_mo_rideDays a_mo_helpKinds a_mo_nexts a_mo_helperKinds a_mo_prices a_mo_helpersOfKind a_mo_numbers mo_tasks mo_helpers mo_askedFirst mo_crumbsFirst mo_lastDay mo_kinds mo_days mo_rideDays mo_helpKinds mo_nexts mo_helperKinds mo_prices mo_helpersOfKind mo_numbers p0 r5 h6) ⟨⟨rfl, rfl⟩, Nat.le_of_ble_eq_true rfl, Nat.le_of_ble_eq_true rfl⟩ [1, 2, 3, 4, 5, 6, 7, 8, 9, 10] rfl 1 rfl rfl rfl hl.1 rfl (Nat.le_of_ble_eq_true rfl) dX5_task_61 ⟨Nat.zero_le _, Nat.zero_le _⟩ ?_
      exact e_RI S hr hlk (Option.some.inj hm) dX5_task_64
    replace hm := ineg hm c4
    by_cases c7 : p1 = (1 : Int32)
    · replace hm := ipos hm c7
      refine f_tabIn S c7 dX5_task_14 (off := 51) (by decide) (by decide) (by decide) (tgt := 65) (by decide) ?_
      refine lv_aload_n hx hb dX5_task_65 rfl (lv_at hl 0 rfl) ?_
      refine f_get S hK hP in_X5_task_X5 0 rfl rfl 2 (by decide) (List.mem_of_getElem? (i := 1) rfl) rfl rfl dX5_task_66 ?_
      refine lv_iload_n hx hb dX5_task_69 rfl (lv_at hl 1 rfl) ?_
      obtain ⟨r8, h9, hm⟩ := ob hm
      refine k_rVi S hK hP cal_X0_daysOf gX5_task_X0_daysOf (c_X0_daysOf l D cC cI cJ a_mo a_mo_kinds a_mo_days a_mo_rideDays a_mo_helpKinds a_mo_nexts a_mo_helperKinds a_mo_prices a_mo_helpersOfKind a_mo_numbers mo_tasks mo_helpers mo_askedFirst mo_crumbsFirst mo_lastDay mo_kinds mo_days mo_rideDays mo_helpKinds mo_nexts mo_helperKinds mo_prices mo_helpersOfKind mo_numbers p0 r8 h9) ⟨⟨rfl, rfl⟩, Nat.le_of_ble_eq_true rfl, Nat.le_of_ble_eq_true rfl⟩ [1, 2, 3, 4, 5, 6, 7, 8, 9, 10] rfl 1 rfl rfl rfl hl.1 rfl (Nat.le_of_ble_eq_true rfl) dX5_task_70 ⟨Nat.zero_le _, Nat.zero_le _⟩ ?_
      exact e_RI S hr hlk (Option.some.inj hm) dX5_task_73
    replace hm := ineg hm c7
    by_cases c10 : p1 = (2 : Int32)
    · replace hm := ipos hm c10
      refine f_tabIn S c10 dX5_task_14 (off := 60) (by decide) (by decide) (by decide) (tgt := 74) (by decide) ?_
      refine lv_aload_n hx hb dX5_task_74 rfl (lv_at hl 0 rfl) ?_
      refine f_get S hK hP in_X5_task_X5 0 rfl rfl 2 (by decide) (List.mem_of_getElem? (i := 1) rfl) rfl rfl dX5_task_75 ?_
      refine lv_iload_n hx hb dX5_task_78 rfl (lv_at hl 1 rfl) ?_
      obtain ⟨r11, h12, hm⟩ := ob hm
      refine k_rVi S hK hP cal_X0_helpKindOf gX5_task_X0_helpKindOf (c_X0_helpKindOf l D cC cI cJ a_mo a_mo_kinds a_mo_days a_mo_rideDays a_mo_helpKinds a_mo_nexts a_mo_helperKinds a_mo_prices a_mo_helpersOfKind a_mo_numbers mo_tasks mo_helpers mo_askedFirst mo_crumbsFirst mo_lastDay mo_kinds mo_days mo_rideDays mo_helpKinds mo_nexts mo_helperKinds mo_prices mo_helpersOfKind mo_numbers p0 r11 h12) ⟨⟨rfl, rfl⟩, Nat.le_of_ble_eq_true rfl, Nat.le_of_ble_eq_true rfl⟩ [1, 2, 3, 4, 5, 6, 7, 8, 9, 10] rfl 1 rfl rfl rfl hl.1 rfl (Nat.le_of_ble_eq_true rfl) dX5_task_79 ⟨Nat.zero_le _, Nat.zero_le _⟩ ?_
      exact e_RI S hr hlk (Option.some.inj hm) dX5_task_82
    replace hm := ineg hm c10
    by_cases c13 : p1 = (3 : Int32)
    · replace hm := ipos hm c13
      refine f_tabIn S c13 dX5_task_14 (off := 69) (by decide) (by decide) (by decide) (tgt := 83) (by decide) ?_
      refine lv_aload_n hx hb dX5_task_83 rfl (lv_at hl 0 rfl) ?_
      refine f_get S hK hP in_X5_task_X5 0 rfl rfl 2 (by decide) (List.mem_of_getElem? (i := 1) rfl) rfl rfl dX5_task_84 ?_
      refine lv_iload_n hx hb dX5_task_87 rfl (lv_at hl 1 rfl) ?_
      obtain ⟨r14, h15, hm⟩ := ob hm
      refine k_rVi S hK hP cal_X0_nextOf gX5_task_X0_nextOf (c_X0_nextOf l D cC cI cJ a_mo a_mo_kinds a_mo_days a_mo_rideDays a_mo_helpKinds a_mo_nexts a_mo_helperKinds a_mo_prices a_mo_helpersOfKind a_mo_numbers mo_tasks mo_helpers mo_askedFirst mo_crumbsFirst mo_lastDay mo_kinds mo_days mo_rideDays mo_helpKinds mo_nexts mo_helperKinds mo_prices mo_helpersOfKind mo_numbers p0 r14 h15) ⟨⟨rfl, rfl⟩, Nat.le_of_ble_eq_true rfl, Nat.le_of_ble_eq_true rfl⟩ [1, 2, 3, 4, 5, 6, 7, 8, 9, 10] rfl 1 rfl rfl rfl hl.1 rfl (Nat.le_of_ble_eq_true rfl) dX5_task_88 ⟨Nat.zero_le _, Nat.zero_le _⟩ ?_
      exact e_RI S hr hlk (Option.some.inj hm) dX5_task_91
    replace hm := ineg hm c13
    by_cases c16 : p1 = (4 : Int32)
    · replace hm := ipos hm c16
      refine f_tabIn S c16 dX5_task_14 (off := 78) (by decide) (by decide) (by decide) (tgt := 92) (by decide) ?_
      refine lv_aload_n hx hb dX5_task_92 rfl (lv_at hl 0 rfl) ?_
      refine f_get S hK hP in_X5_task_X5 0 rfl rfl 4 (by decide) (List.mem_of_getElem? (i := 2) rfl) rfl rfl dX5_task_93 ?_
      refine f_get S hK hP in_X5_task_X4 11 rfl rfl 0 (by decide) (List.mem_of_getElem? (i := 3) rfl) rfl rfl dX5_task_96 ?_
      refine lv_iload_n hx hb dX5_task_99 rfl (lv_at hl 1 rfl) ?_
      obtain ⟨r17, h18, hm⟩ := ob hm
      refine k_rSi S hK hP cal_X5_bit gX5_task_X5_bit (c_X5_bit l D cC cI cJ p0 r17 h18) ⟨⟨rfl, rfl⟩, Nat.le_of_ble_eq_true rfl, Nat.le_of_ble_eq_true rfl⟩ [] rfl rfl hl.1 rfl (Nat.le_of_ble_eq_true rfl) dX5_task_100 ⟨Nat.zero_le _, Nat.zero_le _⟩ ?_
      refine lv_iand hx hb dX5_task_103 ?_
      refine lv_if_eq (tgt := 111) hx hb dX5_task_104 (by decide) (fun c19 => ?_) (fun c19 => ?_)
      · replace hm := ipos hm c19
        refine lv_iconst (v := 0) hx hb dX5_task_111 (by decide) ?_
        obtain ⟨r20, h21, hm⟩ := ob hm
        refine k_rSi S hK hP cal_X5_oneIf gX5_task_X5_oneIf (c_X5_oneIf l D cC cI cJ (0 : Int32) r20 h21) ⟨⟨rfl, rfl⟩, Nat.le_of_ble_eq_true rfl, Nat.le_of_ble_eq_true rfl⟩ [] rfl rfl hl.1 rfl (Nat.le_of_ble_eq_true rfl) dX5_task_112 ⟨Nat.zero_le _, Nat.zero_le _⟩ ?_
        exact e_RI S hr hlk (Option.some.inj hm) dX5_task_115
      · replace hm := ineg hm c19
        refine lv_iconst (v := 1) hx hb dX5_task_107 (by decide) ?_
        refine lv_goto (tgt := 112) hx hb dX5_task_108 (by decide) ?_
        obtain ⟨r22, h23, hm⟩ := ob hm
        refine k_rSi S hK hP cal_X5_oneIf gX5_task_X5_oneIf (c_X5_oneIf l D cC cI cJ (1 : Int32) r22 h23) ⟨⟨rfl, rfl⟩, Nat.le_of_ble_eq_true rfl, Nat.le_of_ble_eq_true rfl⟩ [] rfl rfl hl.1 rfl (Nat.le_of_ble_eq_true rfl) dX5_task_112 ⟨Nat.zero_le _, Nat.zero_le _⟩ ?_
        exact e_RI S hr hlk (Option.some.inj hm) dX5_task_115
    replace hm := ineg hm c16
    by_cases c24 : p1 = (5 : Int32)
    · replace hm := ipos hm c24
      refine f_tabIn S c24 dX5_task_14 (off := 102) (by decide) (by decide) (by decide) (tgt := 116) (by decide) ?_
      refine lv_aload_n hx hb dX5_task_116 rfl (lv_at hl 0 rfl) ?_
      refine f_get S hK hP in_X5_task_X5 0 rfl rfl 4 (by decide) (List.mem_of_getElem? (i := 2) rfl) rfl rfl dX5_task_117 ?_
      refine f_get S hK hP in_X5_task_X4 11 rfl rfl 1 (by decide) (List.mem_of_getElem? (i := 4) rfl) rfl rfl dX5_task_120 ?_
      refine lv_iload_n hx hb dX5_task_123 rfl (lv_at hl 1 rfl) ?_
      obtain ⟨r25, h26, hm⟩ := ob hm
      refine k_rSi S hK hP cal_X5_bit gX5_task_X5_bit (c_X5_bit l D cC cI cJ p0 r25 h26) ⟨⟨rfl, rfl⟩, Nat.le_of_ble_eq_true rfl, Nat.le_of_ble_eq_true rfl⟩ [] rfl rfl hl.1 rfl (Nat.le_of_ble_eq_true rfl) dX5_task_124 ⟨Nat.zero_le _, Nat.zero_le _⟩ ?_
      refine lv_iand hx hb dX5_task_127 ?_
      refine lv_if_eq (tgt := 135) hx hb dX5_task_128 (by decide) (fun c27 => ?_) (fun c27 => ?_)
      · replace hm := ipos hm c27
        refine lv_iconst (v := 0) hx hb dX5_task_135 (by decide) ?_
        obtain ⟨r28, h29, hm⟩ := ob hm
        refine k_rSi S hK hP cal_X5_oneIf gX5_task_X5_oneIf (c_X5_oneIf l D cC cI cJ (0 : Int32) r28 h29) ⟨⟨rfl, rfl⟩, Nat.le_of_ble_eq_true rfl, Nat.le_of_ble_eq_true rfl⟩ [] rfl rfl hl.1 rfl (Nat.le_of_ble_eq_true rfl) dX5_task_136 ⟨Nat.zero_le _, Nat.zero_le _⟩ ?_
        exact e_RI S hr hlk (Option.some.inj hm) dX5_task_139
      · replace hm := ineg hm c27
        refine lv_iconst (v := 1) hx hb dX5_task_131 (by decide) ?_
        refine lv_goto (tgt := 136) hx hb dX5_task_132 (by decide) ?_
        obtain ⟨r30, h31, hm⟩ := ob hm
        refine k_rSi S hK hP cal_X5_oneIf gX5_task_X5_oneIf (c_X5_oneIf l D cC cI cJ (1 : Int32) r30 h31) ⟨⟨rfl, rfl⟩, Nat.le_of_ble_eq_true rfl, Nat.le_of_ble_eq_true rfl⟩ [] rfl rfl hl.1 rfl (Nat.le_of_ble_eq_true rfl) dX5_task_136 ⟨Nat.zero_le _, Nat.zero_le _⟩ ?_
        exact e_RI S hr hlk (Option.some.inj hm) dX5_task_139
    replace hm := ineg hm c24
    by_cases c32 : p1 = (6 : Int32)
    · replace hm := ipos hm c32
      refine f_tabIn S c32 dX5_task_14 (off := 126) (by decide) (by decide) (by decide) (tgt := 140) (by decide) ?_
      refine lv_aload_n hx hb dX5_task_140 rfl (lv_at hl 0 rfl) ?_
      refine f_get S hK hP in_X5_task_X5 0 rfl rfl 4 (by decide) (List.mem_of_getElem? (i := 2) rfl) rfl rfl dX5_task_141 ?_
      refine lv_aload_n hx hb dX5_task_144 rfl (lv_at hl 0 rfl) ?_
      refine f_get S hK hP in_X5_task_X5 0 rfl rfl 2 (by decide) (List.mem_of_getElem? (i := 1) rfl) rfl rfl dX5_task_145 ?_
      refine lv_iload_n hx hb dX5_task_148 rfl (lv_at hl 1 rfl) ?_
      obtain ⟨r33, h34, hm⟩ := ob hm
      refine k_rVi S hK hP cal_X4_helpersFor gX5_task_X4_helpersFor (c_X4_helpersFor l D cC cI cJ a_no a_mo a_mo_kinds a_mo_days a_mo_rideDays a_mo_helpKinds a_mo_nexts a_mo_helperKinds a_mo_prices a_mo_helpersOfKind a_mo_numbers no_asked no_brought no_friends no_used no_crumbs no_day mo_tasks mo_helpers mo_askedFirst mo_crumbsFirst mo_lastDay mo_kinds mo_days mo_rideDays mo_helpKinds mo_nexts mo_helperKinds mo_prices mo_helpersOfKind mo_numbers p0 r33 h34) ⟨⟨rfl, rfl⟩, Nat.le_of_ble_eq_true rfl, Nat.le_of_ble_eq_true rfl⟩ [11, 1, 2, 3, 4, 5, 6, 7, 8, 9, 10] rfl 11 rfl rfl rfl hl.1 rfl (Nat.le_of_ble_eq_true rfl) dX5_task_149 ⟨Nat.zero_le _, Nat.zero_le _⟩ ?_
      refine lv_if_lt (tgt := 159) hx hb dX5_task_152 (by decide) (fun c35 => ?_) (fun c35 => ?_)
      · replace hm := ipos hm c35
        refine lv_iconst (v := 0) hx hb dX5_task_159 (by decide) ?_
        obtain ⟨r36, h37, hm⟩ := ob hm
        refine k_rSi S hK hP cal_X5_oneIf gX5_task_X5_oneIf (c_X5_oneIf l D cC cI cJ (0 : Int32) r36 h37) ⟨⟨rfl, rfl⟩, Nat.le_of_ble_eq_true rfl, Nat.le_of_ble_eq_true rfl⟩ [] rfl rfl hl.1 rfl (Nat.le_of_ble_eq_true rfl) dX5_task_160 ⟨Nat.zero_le _, Nat.zero_le _⟩ ?_
        exact e_RI S hr hlk (Option.some.inj hm) dX5_task_163
      · replace hm := ineg hm c35
        refine lv_iconst (v := 1) hx hb dX5_task_155 (by decide) ?_
        refine lv_goto (tgt := 160) hx hb dX5_task_156 (by decide) ?_
        obtain ⟨r38, h39, hm⟩ := ob hm
        refine k_rSi S hK hP cal_X5_oneIf gX5_task_X5_oneIf (c_X5_oneIf l D cC cI cJ (1 : Int32) r38 h39) ⟨⟨rfl, rfl⟩, Nat.le_of_ble_eq_true rfl, Nat.le_of_ble_eq_true rfl⟩ [] rfl rfl hl.1 rfl (Nat.le_of_ble_eq_true rfl) dX5_task_160 ⟨Nat.zero_le _, Nat.zero_le _⟩ ?_
        exact e_RI S hr hlk (Option.some.inj hm) dX5_task_163
    replace hm := ineg hm c32
    have nc4 := toInt_ne c4 (n := 0) (by decide)
    have nc7 := toInt_ne c7 (n := 1) (by decide)
    have nc10 := toInt_ne c10 (n := 2) (by decide)
    have nc13 := toInt_ne c13 (n := 3) (by decide)
    have nc16 := toInt_ne c16 (n := 4) (by decide)
    have nc24 := toInt_ne c24 (n := 5) (by decide)
    have nc32 := toInt_ne c32 (n := 6) (by decide)
    refine f_tabOut S dX5_task_14 (by omega) (tgt := 164) (by decide) ?_
    refine lv_iconst (v := (-1)) hx hb dX5_task_164 (by decide) ?_
    exact e_RI S hr hlk (Option.some.inj hm) dX5_task_165
  · replace hm := ipos hm c3
    refine lv_iconst (v := (-1)) hx hb dX5_task_11 (by decide) ?_
    exact e_RI S hr hlk (Option.some.inj hm) dX5_task_12

abbrev rX5_undo : Room := { frames := 1, cells := 0, slots := 0, locals := 22 }
theorem cal_X5_undo : Cal yX5_undo wsX5_undo cX5_undo 1 (some .int) RX5 0 := ⟨⟨_, rfl⟩, rfl, by decide +kernel, by decide +kernel, by decide +kernel⟩
theorem in_X5_undo_X1 : ∀ w ∈ wsX10, w ∈ wsX5_undo := fun _ h => (List.mem_cons_of_mem _ (List.mem_append_left _ (List.mem_append_right _ h)))
theorem in_X5_undo_X5 : ∀ w ∈ wsX50, w ∈ wsX5_undo := fun _ h => (List.mem_cons_of_mem _ (List.mem_append_left _ (List.mem_append_left _ (List.mem_append_right _ h))))
set_option maxHeartbeats 4000000 in
set_option maxRecDepth 100000 in
theorem c_X5_undo (l : Launch) (D : va_G) (cC cI cJ : ClassId) (a_x : Nat) (g_x_text : Nat) (g_x_months : Nat) (g_x_spare : Nat) (a_no : Nat) (g_x_trial : Nat) (a_un : Nat) (g_x_kept : Nat) (g_x_seen : Nat) (g_x_unseen : Nat) (g_x_search : Nat) (a_un_held : Nat) (x_letters : Int32) (no_asked : Int32) (no_brought : Int32) (no_friends : Int32) (no_used : Int32) (no_crumbs : Int32) (no_day : Int32) (un_size : Int32) (un_held : (Nat → Int64)) (A : Nat → Prop) (hD : va_D A (wd_25 cC cI cJ a_x g_x_text x_letters g_x_months g_x_spare a_no g_x_trial a_un g_x_kept g_x_seen g_x_unseen g_x_search a_no no_asked no_brought no_friends no_used no_crumbs no_day a_un un_size a_un_held a_un_held un_held)) (out : (Int32 × Int32 × Int32 × Int32 × Int32 × Int32 × Int32 × Int32)) (hm : m_X5_undo no_asked no_brought no_friends no_used no_crumbs no_day un_size un_held = some out) : WrI l yX5_undo wsX5_undo rX5_undo D (tyK cC cI cJ) [.ref a_x] A (wd_25 cC cI cJ a_x g_x_text x_letters g_x_months g_x_spare a_no g_x_trial a_un g_x_kept g_x_seen g_x_unseen g_x_search a_no no_asked no_brought no_friends no_used no_crumbs no_day a_un un_size a_un_held a_un_held un_held) (Bw0 D (wd_25 cC cI cJ a_x g_x_text x_letters g_x_months g_x_spare a_no g_x_trial a_un g_x_kept g_x_seen g_x_unseen g_x_search a_no out.2.1 out.2.2.1 out.2.2.2.1 out.2.2.2.2.1 out.2.2.2.2.2.1 out.2.2.2.2.2.2.1 a_un out.2.2.2.2.2.2.2 a_un_held a_un_held un_held)) out.1 := by
  unfold m_X5_undo at hm
  refine enter (cc := cX5_undo) (maxL := 1) (ret := (some .int)) (lv := [(0, .ref a_x)]) (by decide) rfl (Nat.le_of_ble_eq_true rfl) rfl ?_
  intro p e s m args below meth c S hr hlk hK hP ls hl
  replace S : CallFix p m c cX5_undo 1 s args wsX5_undo RX5 := S
  have hx := S.1
  have hb := S.2.1
  have hw : Wd D A s.heap (wd_25 cC cI cJ a_x g_x_text x_letters g_x_months g_x_spare a_no g_x_trial a_un g_x_kept g_x_seen g_x_unseen g_x_search a_no no_asked no_brought no_friends no_used no_crumbs no_day a_un un_size a_un_held a_un_held un_held) s.heap [] := ⟨hP, hD, va_S.rf⟩
  have hw0 := hw
  refine lv_aload_n hx hb dX5_undo_0 rfl (lv_at hl 0 rfl) ?_
  refine f_get S hK hw.1 in_X5_undo_X5 0 rfl rfl 6 (by decide) (List.mem_of_getElem? (i := 1) rfl) rfl rfl dX5_undo_1 ?_
  refine f_get S hK hw.1 in_X5_undo_X1 2 rfl rfl 0 (by decide) (List.mem_of_getElem? (i := 2) rfl) rfl rfl dX5_undo_4 ?_
  refine lv_iconst (v := 1) hx hb dX5_undo_7 (by decide) ?_
  refine lv_icmp_ge (tgt := 14) hx hb dX5_undo_8 (by decide) (fun c1 => ?_) (fun c1 => ?_)
  · replace hm := ipos hm c1
    refine lv_aload_n hx hb dX5_undo_14 rfl (lv_at hl 0 rfl) ?_
    refine f_get S hK hw.1 in_X5_undo_X5 0 rfl rfl 4 (by decide) (List.mem_of_getElem? (i := 3) rfl) rfl rfl dX5_undo_15 ?_
    refine lv_aload_n hx hb dX5_undo_18 rfl (lv_at hl 0 rfl) ?_
    refine f_get S hK hw.1 in_X5_undo_X5 0 rfl rfl 6 (by decide) (List.mem_of_getElem? (i := 1) rfl) rfl rfl dX5_undo_19 ?_
    obtain ⟨r2, h3, hm⟩ := ob hm
    refine k_wVl S hK hw cal_X1_takeLatest gX5_undo_X1_takeLatest (c_X1_takeLatest l D cC cI cJ a_un a_un_held un_size 8 un_held (aw _) (hw.own [2, 3] (by decide) rfl) r2 h3) ⟨⟨rfl, rfl⟩, Nat.le_of_ble_eq_true rfl, Nat.le_of_ble_eq_true rfl⟩ [2, 3] rfl 2 rfl rfl rfl hl.1 rfl (Nat.le_of_ble_eq_true rfl) dX5_undo_22 ⟨Nat.zero_le _, Nat.zero_le _⟩ (fun H locs hJ hB => ?_)
    have hw := hJ _ hB rfl
    replace hw : Wd D A _ (wd_25 cC cI cJ a_x g_x_text x_letters g_x_months g_x_spare a_no g_x_trial a_un g_x_kept g_x_seen g_x_unseen g_x_search a_no no_asked no_brought no_friends no_used no_crumbs no_day a_un r2.2 a_un_held a_un_held un_held) H locs := hw
    obtain ⟨r4, h5, hm⟩ := ob hm
    refine k_wVv S hK hw cal_X4_unpack gX5_undo_X4_unpack (c_X4_unpack l D cC cI cJ a_no no_asked no_brought no_friends no_used no_crumbs no_day r2.1 (aw _) (hw.own [1] (by decide) rfl) r4 h5) ⟨⟨rfl, rfl⟩, Nat.le_of_ble_eq_true rfl, Nat.le_of_ble_eq_true rfl⟩ [1] rfl 1 rfl rfl rfl hl.1 rfl (Nat.le_of_ble_eq_true rfl) dX5_undo_25 ⟨Nat.zero_le _, Nat.zero_le _⟩ (fun H locs hJ hB => ?_)
    have hw := hJ _ hB rfl
    replace hw : Wd D A _ (wd_25 cC cI cJ a_x g_x_text x_letters g_x_months g_x_spare a_no g_x_trial a_un g_x_kept g_x_seen g_x_unseen g_x_search a_no r4.1 r4.2.1 r4.2.2.1 r4.2.2.2.1 r4.2.2.2.2.1 r4.2.2.2.2.2 a_un r2.2 a_un_held a_un_held un_held) H locs := hw
    refine lv_aload_n hx hb dX5_undo_28 rfl (lv_at hl 0 rfl) ?_
    refine f_get S hK hw.1 in_X5_undo_X5 0 rfl rfl 6 (by decide) (List.mem_of_getElem? (i := 1) rfl) rfl rfl dX5_undo_29 ?_
    refine f_get S hK hw.1 in_X5_undo_X1 2 rfl rfl 0 (by decide) (List.mem_of_getElem? (i := 2) rfl) rfl rfl dX5_undo_32 ?_
    obtain rfl := Option.some.inj hm
    exact e_WI S hr hlk hw rfl hw.1 dX5_undo_35
  · replace hm := ineg hm c1
    refine lv_bipush (v := (-2)) hx hb dX5_undo_11 (by decide) ?_
    obtain rfl := Option.some.inj hm
    exact e_WI S hr hlk hw rfl hw.1 dX5_undo_13

abbrev rX5_well : Room := { frames := 16, cells := 0, slots := 0, locals := 429 }
theorem cal_X5_well : Cal yX5_well wsX5_well cX5_well 2 (some .int) RX5 1 := ⟨⟨_, rfl⟩, rfl, by decide +kernel, by decide +kernel, by decide +kernel⟩
theorem in_X5_well_X5 : ∀ w ∈ wsX50, w ∈ wsX5_well := fun _ h => (List.mem_cons_of_mem _ (List.mem_append_left _ (List.mem_append_left _ (List.mem_append_left _ (List.mem_append_left _ (List.mem_append_right _ h))))))
set_option maxHeartbeats 4000000 in
set_option maxRecDepth 100000 in
theorem c_X5_well (l : Launch) (D : va_G) (cC cI cJ : ClassId) (a_x : Nat) (g_x_text : Nat) (a_mo : Nat) (g_x_spare : Nat) (a_no : Nat) (g_x_trial : Nat) (g_x_undoable : Nat) (g_x_kept : Nat) (g_x_seen : Nat) (a_us : Nat) (a_sr : Nat) (a_mo_kinds : Nat) (a_mo_days : Nat) (a_mo_rideDays : Nat) (a_mo_helpKinds : Nat) (a_mo_nexts : Nat) (a_mo_helperKinds : Nat) (a_mo_prices : Nat) (a_mo_helpersOfKind : Nat) (a_mo_numbers : Nat) (a_us_left : Nat) (a_sr_known : Nat) (a_ro : Nat) (g_sr_months : Nat) (g_sr_heeded : Nat) (x_letters : Int32) (mo_tasks : Int32) (mo_helpers : Int32) (mo_askedFirst : Int32) (mo_crumbsFirst : Int32) (mo_lastDay : Int32) (mo_kinds : (Nat → Int32)) (mo_days : (Nat → Int32)) (mo_rideDays : (Nat → Int32)) (mo_helpKinds : (Nat → Int32)) (mo_nexts : (Nat → Int32)) (mo_helperKinds : (Nat → Int32)) (mo_prices : (Nat → Int32)) (mo_helpersOfKind : (Nat → Int32)) (mo_numbers : (Nat → Int32)) (no_asked : Int32) (no_brought : Int32) (no_friends : Int32) (no_used : Int32) (no_crumbs : Int32) (no_day : Int32) (us_size : Int32) (us_lastPlace : Int32) (us_left : (Nat → Int32)) (sr_number : Int64) (sr_enough : Int64) (sr_hopeless : Int32) (sr_known : (Nat → Int64)) (ro_asked : Int32) (ro_brought : Int32) (ro_friends : Int32) (ro_used : Int32) (ro_crumbs : Int32) (ro_day : Int32) (p0 : Int32) (N : Nat) (A : Nat → Prop) (hD : va_D A (wd_18 cC cI cJ a_x g_x_text x_letters a_mo g_x_spare a_no g_x_trial g_x_undoable g_x_kept g_x_seen a_us a_sr a_mo mo_tasks mo_helpers mo_askedFirst mo_crumbsFirst mo_lastDay a_mo_kinds a_mo_days a_mo_rideDays a_mo_helpKinds a_mo_nexts a_mo_helperKinds a_mo_prices a_mo_helpersOfKind a_mo_numbers a_mo_kinds mo_kinds a_mo_days mo_days a_mo_rideDays mo_rideDays a_mo_helpKinds mo_helpKinds a_mo_nexts mo_nexts a_mo_helperKinds mo_helperKinds a_mo_prices mo_prices a_mo_helpersOfKind mo_helpersOfKind a_mo_numbers mo_numbers a_no no_asked no_brought no_friends no_used no_crumbs no_day a_us us_size us_lastPlace a_us_left a_us_left us_left a_sr a_sr_known a_ro a_us sr_number sr_enough sr_hopeless g_sr_months g_sr_heeded a_sr_known sr_known a_ro ro_asked ro_brought ro_friends ro_used ro_crumbs ro_day)) (out : (Int32 × Int64 × Int64 × Int32 × (Nat → Int64) × Int32 × Int32 × Int32 × Int32 × Int32 × Int32)) (hm : m_X5_well N mo_tasks mo_lastDay mo_kinds mo_rideDays mo_helpKinds mo_nexts mo_helpersOfKind no_asked no_brought no_friends no_used no_crumbs no_day us_lastPlace us_left sr_number sr_enough sr_hopeless sr_known ro_asked ro_brought ro_friends ro_used ro_crumbs ro_day p0 = some out) : WrI l yX5_well wsX5_well rX5_well D (tyK cC cI cJ) [.ref a_x, .int p0] A (wd_18 cC cI cJ a_x g_x_text x_letters a_mo g_x_spare a_no g_x_trial g_x_undoable g_x_kept g_x_seen a_us a_sr a_mo mo_tasks mo_helpers mo_askedFirst mo_crumbsFirst mo_lastDay a_mo_kinds a_mo_days a_mo_rideDays a_mo_helpKinds a_mo_nexts a_mo_helperKinds a_mo_prices a_mo_helpersOfKind a_mo_numbers a_mo_kinds mo_kinds a_mo_days mo_days a_mo_rideDays mo_rideDays a_mo_helpKinds mo_helpKinds a_mo_nexts mo_nexts a_mo_helperKinds mo_helperKinds a_mo_prices mo_prices a_mo_helpersOfKind mo_helpersOfKind a_mo_numbers mo_numbers a_no no_asked no_brought no_friends no_used no_crumbs no_day a_us us_size us_lastPlace a_us_left a_us_left us_left a_sr a_sr_known a_ro a_us sr_number sr_enough sr_hopeless g_sr_months g_sr_heeded a_sr_known sr_known a_ro ro_asked ro_brought ro_friends ro_used ro_crumbs ro_day) (Bw2 D (fun z_14_6 z_14_7 => (wd_18 cC cI cJ a_x g_x_text x_letters a_mo g_x_spare a_no g_x_trial g_x_undoable g_x_kept g_x_seen a_us a_sr a_mo mo_tasks mo_helpers mo_askedFirst mo_crumbsFirst mo_lastDay a_mo_kinds a_mo_days a_mo_rideDays a_mo_helpKinds a_mo_nexts a_mo_helperKinds a_mo_prices a_mo_helpersOfKind a_mo_numbers a_mo_kinds mo_kinds a_mo_days mo_days a_mo_rideDays mo_rideDays a_mo_helpKinds mo_helpKinds a_mo_nexts mo_nexts a_mo_helperKinds mo_helperKinds a_mo_prices mo_prices a_mo_helpersOfKind mo_helpersOfKind a_mo_numbers mo_numbers a_no no_asked no_brought no_friends no_used no_crumbs no_day a_us us_size us_lastPlace a_us_left a_us_left us_left a_sr a_sr_known a_ro a_us out.2.1 out.2.2.1 out.2.2.2.1 z_14_6 z_14_7 a_sr_known out.2.2.2.2.1 a_ro out.2.2.2.2.2.1 out.2.2.2.2.2.2.1 out.2.2.2.2.2.2.2.1 out.2.2.2.2.2.2.2.2.1 out.2.2.2.2.2.2.2.2.2.1 out.2.2.2.2.2.2.2.2.2.2))) out.1 := by
  unfold m_X5_well at hm
  refine enter (cc := cX5_well) (maxL := 2) (ret := (some .int)) (lv := [(0, .ref a_x), (1, .int p0)]) (by decide) rfl (Nat.le_of_ble_eq_true rfl) rfl ?_
  intro p e s m args below meth c S hr hlk hK hP ls hl
  replace S : CallFix p m c cX5_well 2 s args wsX5_well RX5 := S
  have hx := S.1
  have hb := S.2.1
  have hw : Wd D A s.heap (wd_18 cC cI cJ a_x g_x_text x_letters a_mo g_x_spare a_no g_x_trial g_x_undoable g_x_kept g_x_seen a_us a_sr a_mo mo_tasks mo_helpers mo_askedFirst mo_crumbsFirst mo_lastDay a_mo_kinds a_mo_days a_mo_rideDays a_mo_helpKinds a_mo_nexts a_mo_helperKinds a_mo_prices a_mo_helpersOfKind a_mo_numbers a_mo_kinds mo_kinds a_mo_days mo_days a_mo_rideDays mo_rideDays a_mo_helpKinds mo_helpKinds a_mo_nexts mo_nexts a_mo_helperKinds mo_helperKinds a_mo_prices mo_prices a_mo_helpersOfKind mo_helpersOfKind a_mo_numbers mo_numbers a_no no_asked no_brought no_friends no_used no_crumbs no_day a_us us_size us_lastPlace a_us_left a_us_left us_left a_sr a_sr_known a_ro a_us sr_number sr_enough sr_hopeless g_sr_months g_sr_heeded a_sr_known sr_known a_ro ro_asked ro_brought ro_friends ro_used ro_crumbs ro_day) s.heap [] := ⟨hP, hD, va_S.rf⟩
  have hw0 := hw
  refine lv_iload_n hx hb dX5_well_0 rfl (lv_at hl 1 rfl) ?_
  refine lv_if_lt (tgt := 10) hx hb dX5_well_1 (by decide) (fun c1 => ?_) (fun c1 => ?_)
  · replace hm := ipos hm c1
    refine lv_iconst (v := (-1)) hx hb dX5_well_10 (by decide) ?_
    obtain rfl := Option.some.inj hm
    exact e_WI S hr hlk hw rfl ⟨g_sr_months, g_sr_heeded, hw.1⟩ dX5_well_11
  · replace hm := ineg hm c1
    refine lv_iload_n hx hb dX5_well_4 rfl (lv_at hl 1 rfl) ?_
    refine lv_bipush (v := 8) hx hb dX5_well_5 (by decide) ?_
    refine lv_icmp_le (tgt := 12) hx hb dX5_well_7 (by decide) (fun c2 => ?_) (fun c2 => ?_)
    · replace hm := ipos hm c2
      refine lv_iload_n hx hb dX5_well_12 rfl (lv_at hl 1 rfl) ?_
      refine lv_if_ne (tgt := 38) hx hb dX5_well_13 (by decide) (fun c3 => ?_) (fun c3 => ?_)
      · replace hm := ineg hm c3
        refine lv_aload_n hx hb dX5_well_38 rfl (lv_at hl 0 rfl) ?_
        refine f_get S hK hw.1 in_X5_well_X5 0 rfl rfl 10 (by decide) (List.mem_of_getElem? (i := 1) rfl) rfl rfl dX5_well_39 ?_
        refine lv_aload_n hx hb dX5_well_42 rfl (lv_at hl 0 rfl) ?_
        refine f_get S hK hw.1 in_X5_well_X5 0 rfl rfl 2 (by decide) (List.mem_of_getElem? (i := 2) rfl) rfl rfl dX5_well_43 ?_
        refine lv_aload_n hx hb dX5_well_46 rfl (lv_at hl 0 rfl) ?_
        refine f_get S hK hw.1 in_X5_well_X5 0 rfl rfl 4 (by decide) (List.mem_of_getElem? (i := 3) rfl) rfl rfl dX5_well_47 ?_
        refine lv_aload_n hx hb dX5_well_50 rfl (lv_at hl 0 rfl) ?_
        refine f_get S hK hw.1 in_X5_well_X5 0 rfl rfl 9 (by decide) (List.mem_of_getElem? (i := 4) rfl) rfl rfl dX5_well_51 ?_
        refine lv_iload_n hx hb dX5_well_54 rfl (lv_at hl 1 rfl) ?_
        obtain ⟨r4, h5, hm⟩ := ob hm
        refine k_wVi S hK hw cal_X2_placeInFirst gX5_well_X2_placeInFirst (c_X2_placeInFirst l D cC cI cJ a_sr a_sr_known a_ro a_us g_sr_months g_sr_heeded a_mo a_mo_kinds a_mo_days a_mo_rideDays a_mo_helpKinds a_mo_nexts a_mo_helperKinds a_mo_prices a_mo_helpersOfKind a_mo_numbers a_no a_us a_us_left sr_number sr_enough sr_hopeless sr_known ro_asked ro_brought ro_friends ro_used ro_crumbs ro_day mo_tasks mo_helpers mo_askedFirst mo_crumbsFirst mo_lastDay mo_kinds mo_days mo_rideDays mo_helpKinds mo_nexts mo_helperKinds mo_prices mo_helpersOfKind mo_numbers no_asked no_brought no_friends no_used no_crumbs no_day us_size us_lastPlace us_left p0 N (aw _) (hw.own [14, 15, 16, 1, 2, 3, 4, 5, 6, 7, 8, 9, 10, 11, 12, 13] (by decide) rfl) r4 h5) ⟨⟨rfl, rfl⟩, Nat.le_of_ble_eq_true rfl, Nat.le_of_ble_eq_true rfl⟩ [14, 15, 16, 1, 2, 3, 4, 5, 6, 7, 8, 9, 10, 11, 12, 13] rfl 14 rfl rfl rfl hl.1 rfl (Nat.le_of_ble_eq_true rfl) dX5_well_55 ⟨Nat.zero_le _, Nat.zero_le _⟩ (fun H locs hJ hB => ?_)
        have hw := hJ _ hB rfl
        replace hw : Wd D A _ (wd_18 cC cI cJ a_x g_x_text x_letters a_mo g_x_spare a_no g_x_trial g_x_undoable g_x_kept g_x_seen a_us a_sr a_mo mo_tasks mo_helpers mo_askedFirst mo_crumbsFirst mo_lastDay a_mo_kinds a_mo_days a_mo_rideDays a_mo_helpKinds a_mo_nexts a_mo_helperKinds a_mo_prices a_mo_helpersOfKind a_mo_numbers a_mo_kinds mo_kinds a_mo_days mo_days a_mo_rideDays mo_rideDays a_mo_helpKinds mo_helpKinds a_mo_nexts mo_nexts a_mo_helperKinds mo_helperKinds a_mo_prices mo_prices a_mo_helpersOfKind mo_helpersOfKind a_mo_numbers mo_numbers a_no no_asked no_brought no_friends no_used no_crumbs no_day a_us us_size us_lastPlace a_us_left a_us_left us_left a_sr a_sr_known a_ro a_us r4.2.1 r4.2.2.1 r4.2.2.2.1 a_mo a_us a_sr_known r4.2.2.2.2.1 a_ro r4.2.2.2.2.2.1 r4.2.2.2.2.2.2.1 r4.2.2.2.2.2.2.2.1 r4.2.2.2.2.2.2.2.2.1 r4.2.2.2.2.2.2.2.2.2.1 r4.2.2.2.2.2.2.2.2.2.2) H locs := hw
        obtain rfl := Option.some.inj hm
        exact e_WI S hr hlk hw rfl ⟨a_mo, a_us, hw.1⟩ dX5_well_58
      · replace hm := ipos hm c3
        refine lv_aload_n hx hb dX5_well_16 rfl (lv_at hl 0 rfl) ?_
        refine f_get S hK hw.1 in_X5_well_X5 0 rfl rfl 10 (by decide) (List.mem_of_getElem? (i := 1) rfl) rfl rfl dX5_well_17 ?_
        refine lv_aload_n hx hb dX5_well_20 rfl (lv_at hl 0 rfl) ?_
        refine f_get S hK hw.1 in_X5_well_X5 0 rfl rfl 2 (by decide) (List.mem_of_getElem? (i := 2) rfl) rfl rfl dX5_well_21 ?_
        refine lv_aload_n hx hb dX5_well_24 rfl (lv_at hl 0 rfl) ?_
        refine f_get S hK hw.1 in_X5_well_X5 0 rfl rfl 4 (by decide) (List.mem_of_getElem? (i := 3) rfl) rfl rfl dX5_well_25 ?_
        refine lv_aload_n hx hb dX5_well_28 rfl (lv_at hl 0 rfl) ?_
        refine f_get S hK hw.1 in_X5_well_X5 0 rfl rfl 9 (by decide) (List.mem_of_getElem? (i := 4) rfl) rfl rfl dX5_well_29 ?_
        obtain ⟨r6, h7, hm⟩ := ob hm
        refine k_wVi S hK hw cal_X2_waysOf gX5_well_X2_waysOf (c_X2_waysOf l D cC cI cJ a_sr a_sr_known a_ro a_us g_sr_months g_sr_heeded a_mo a_mo_kinds a_mo_days a_mo_rideDays a_mo_helpKinds a_mo_nexts a_mo_helperKinds a_mo_prices a_mo_helpersOfKind a_mo_numbers a_no a_us a_us_left sr_number sr_enough sr_hopeless sr_known ro_asked ro_brought ro_friends ro_used ro_crumbs ro_day mo_tasks mo_helpers mo_askedFirst mo_crumbsFirst mo_lastDay mo_kinds mo_days mo_rideDays mo_helpKinds mo_nexts mo_helperKinds mo_prices mo_helpersOfKind mo_numbers no_asked no_brought no_friends no_used no_crumbs no_day us_size us_lastPlace us_left N (aw _) (hw.own [14, 15, 16, 1, 2, 3, 4, 5, 6, 7, 8, 9, 10, 11, 12, 13] (by decide) rfl) r6 h7) ⟨⟨rfl, rfl⟩, Nat.le_of_ble_eq_true rfl, Nat.le_of_ble_eq_true rfl⟩ [14, 15, 16, 1, 2, 3, 4, 5, 6, 7, 8, 9, 10, 11, 12, 13] rfl 14 rfl rfl rfl hl.1 rfl (Nat.le_of_ble_eq_true rfl) dX5_well_32 ⟨Nat.zero_le _, Nat.zero_le _⟩ (fun H locs hJ hB => ?_)
        have hw := hJ _ hB rfl
        replace hw : Wd D A _ (wd_18 cC cI cJ a_x g_x_text x_letters a_mo g_x_spare a_no g_x_trial g_x_undoable g_x_kept g_x_seen a_us a_sr a_mo mo_tasks mo_helpers mo_askedFirst mo_crumbsFirst mo_lastDay a_mo_kinds a_mo_days a_mo_rideDays a_mo_helpKinds a_mo_nexts a_mo_helperKinds a_mo_prices a_mo_helpersOfKind a_mo_numbers a_mo_kinds mo_kinds a_mo_days mo_days a_mo_rideDays mo_rideDays a_mo_helpKinds mo_helpKinds a_mo_nexts mo_nexts a_mo_helperKinds mo_helperKinds a_mo_prices mo_prices a_mo_helpersOfKind mo_helpersOfKind a_mo_numbers mo_numbers a_no no_asked no_brought no_friends no_used no_crumbs no_day a_us us_size us_lastPlace a_us_left a_us_left us_left a_sr a_sr_known a_ro a_us r6.2.1 r6.2.2.1 r6.2.2.2.1 a_mo a_us a_sr_known r6.2.2.2.2.1 a_ro r6.2.2.2.2.2.1 r6.2.2.2.2.2.2.1 r6.2.2.2.2.2.2.2.1 r6.2.2.2.2.2.2.2.2.1 r6.2.2.2.2.2.2.2.2.2.1 r6.2.2.2.2.2.2.2.2.2.2) H locs := hw
        refine lv_goto (tgt := 58) hx hb dX5_well_35 (by decide) ?_
        obtain rfl := Option.some.inj hm
        exact e_WI S hr hlk hw rfl ⟨a_mo, a_us, hw.1⟩ dX5_well_58
    · replace hm := ineg hm c2
      refine lv_iconst (v := (-1)) hx hb dX5_well_10 (by decide) ?_
      obtain rfl := Option.some.inj hm
      exact e_WI S hr hlk hw rfl ⟨g_sr_months, g_sr_heeded, hw.1⟩ dX5_well_11

abbrev rX5_wipe : Room := { frames := 0, cells := 0, slots := 0, locals := 0 }
theorem cal_X5_wipe : Cal yX5_wipe wsX5_wipe cX5_wipe 2 (some .int) RX5 0 := ⟨⟨_, rfl⟩, rfl, by decide +kernel, by decide +kernel, by decide +kernel⟩
theorem in_X5_wipe_X5 : ∀ w ∈ wsX50, w ∈ wsX5_wipe := fun _ h => (List.mem_cons_of_mem _ (List.mem_append_right _ h))
set_option maxHeartbeats 4000000 in
set_option maxRecDepth 100000 in
theorem c_X5_wipe (l : Launch) (D : va_G) (cC cI cJ : ClassId) (a_x : Nat) (g_x_text : Nat) (g_x_months : Nat) (g_x_spare : Nat) (g_x_now : Nat) (g_x_trial : Nat) (g_x_undoable : Nat) (g_x_kept : Nat) (g_x_seen : Nat) (g_x_unseen : Nat) (g_x_search : Nat) (x_letters : Int32) (A : Nat → Prop) (hD : va_D A (wd_26 cC cI cJ a_x g_x_text x_letters g_x_months g_x_spare g_x_now g_x_trial g_x_undoable g_x_kept g_x_seen g_x_unseen g_x_search)) (out : (Int32 × Int32)) (hm : m_X5_wipe x_letters = some out) : WrI l yX5_wipe wsX5_wipe rX5_wipe D (tyK cC cI cJ) [.ref a_x] A (wd_26 cC cI cJ a_x g_x_text x_letters g_x_months g_x_spare g_x_now g_x_trial g_x_undoable g_x_kept g_x_seen g_x_unseen g_x_search) (Bw0 D (wd_26 cC cI cJ a_x g_x_text out.2 g_x_months g_x_spare g_x_now g_x_trial g_x_undoable g_x_kept g_x_seen g_x_unseen g_x_search)) out.1 := by
  unfold m_X5_wipe at hm
  refine enter (cc := cX5_wipe) (maxL := 2) (ret := (some .int)) (lv := [(0, .ref a_x)]) (by decide) rfl (Nat.le_of_ble_eq_true rfl) rfl ?_
  intro p e s m args below meth c S hr hlk hK hP ls hl
  replace S : CallFix p m c cX5_wipe 2 s args wsX5_wipe RX5 := S
  have hx := S.1
  have hb := S.2.1
  have hw : Wd D A s.heap (wd_26 cC cI cJ a_x g_x_text x_letters g_x_months g_x_spare g_x_now g_x_trial g_x_undoable g_x_kept g_x_seen g_x_unseen g_x_search) s.heap [] := ⟨hP, hD, va_S.rf⟩
  have hw0 := hw
  refine lv_aload_n hx hb dX5_wipe_0 rfl (lv_at hl 0 rfl) ?_
  refine f_get S hK hw.1 in_X5_wipe_X5 0 rfl rfl 1 (by decide) (List.mem_of_getElem? (i := 1) rfl) rfl rfl dX5_wipe_1 ?_
  refine lv_istore_n (lv' := [(1, .int x_letters), (0, .ref a_x)]) hx hb dX5_wipe_4 rfl hl (by decide) rfl (fun ls hl => ?_)
  refine lv_aload_n hx hb dX5_wipe_5 rfl (lv_at hl 1 rfl) ?_
  refine lv_iconst (v := 0) hx hb dX5_wipe_6 (by decide) ?_
  refine f_put S hK hw in_X5_wipe_X5 tyX5_ok nmX5 0 rfl rfl 1 (by decide) (List.mem_of_getElem? (i := 1) rfl) rfl rfl rfl rfl (Nat.le_of_ble_eq_true rfl) (ws1 := (wd_26 cC cI cJ a_x g_x_text (0 : Int32) g_x_months g_x_spare g_x_now g_x_trial g_x_undoable g_x_kept g_x_seen g_x_unseen g_x_search)) rfl dX5_wipe_7 (fun H locs hw => ?_)
  refine lv_iload_n hx hb dX5_wipe_10 rfl (lv_at hl 0 rfl) ?_
  obtain rfl := Option.some.inj hm
  exact e_WI S hr hlk hw rfl hw.1 dX5_wipe_11

abbrev rX5_worth : Room := { frames := 16, cells := 0, slots := 0, locals := 429 }
theorem cal_X5_worth : Cal yX5_worth wsX5_worth cX5_worth 5 (some .int) RX5 2 := ⟨⟨_, rfl⟩, rfl, by decide +kernel, by decide +kernel, by decide +kernel⟩
theorem in_X5_worth_X4 : ∀ w ∈ wsX40, w ∈ wsX5_worth := fun _ h => (List.mem_cons_of_mem _ (List.mem_append_left _ (List.mem_append_left _ (List.mem_append_left _ (List.mem_append_right _ h)))))
theorem in_X5_worth_X5 : ∀ w ∈ wsX50, w ∈ wsX5_worth := fun _ h => (List.mem_cons_of_mem _ (List.mem_append_left _ (List.mem_append_left _ (List.mem_append_left _ (List.mem_append_left _ (List.mem_append_right _ h))))))
set_option maxHeartbeats 4000000 in
set_option maxRecDepth 100000 in
theorem c_X5_worth (l : Launch) (D : va_G) (cC cI cJ : ClassId) (a_x : Nat) (g_x_text : Nat) (a_mo : Nat) (g_x_spare : Nat) (a_no : Nat) (a_tr : Nat) (g_x_undoable : Nat) (g_x_kept : Nat) (g_x_seen : Nat) (a_us : Nat) (a_sr : Nat) (a_mo_kinds : Nat) (a_mo_days : Nat) (a_mo_rideDays : Nat) (a_mo_helpKinds : Nat) (a_mo_nexts : Nat) (a_mo_helperKinds : Nat) (a_mo_prices : Nat) (a_mo_helpersOfKind : Nat) (a_mo_numbers : Nat) (a_us_left : Nat) (a_sr_known : Nat) (a_ro : Nat) (g_sr_months : Nat) (g_sr_heeded : Nat) (x_letters : Int32) (mo_tasks : Int32) (mo_helpers : Int32) (mo_askedFirst : Int32) (mo_crumbsFirst : Int32) (mo_lastDay : Int32) (mo_kinds : (Nat → Int32)) (mo_days : (Nat → Int32)) (mo_rideDays : (Nat → Int32)) (mo_helpKinds : (Nat → Int32)) (mo_nexts : (Nat → Int32)) (mo_helperKinds : (Nat → Int32)) (mo_prices : (Nat → Int32)) (mo_helpersOfKind : (Nat → Int32)) (mo_numbers : (Nat → Int32)) (no_asked : Int32) (no_brought : Int32) (no_friends : Int32) (no_used : Int32) (no_crumbs : Int32) (no_day : Int32) (tr_asked : Int32) (tr_brought : Int32) (tr_friends : Int32) (tr_used : Int32) (tr_crumbs : Int32) (tr_day : Int32) (us_size : Int32) (us_lastPlace : Int32) (us_left : (Nat → Int32)) (sr_number : Int64) (sr_enough : Int64) (sr_hopeless : Int32) (sr_known : (Nat → Int64)) (ro_asked : Int32) (ro_brought : Int32) (ro_friends : Int32) (ro_used : Int32) (ro_crumbs : Int32) (ro_day : Int32) (p0 : Int32) (p1 : Int32) (N : Nat) (A : Nat → Prop) (hD : va_D A (wd_15 cC cI cJ a_x g_x_text x_letters a_mo g_x_spare a_no a_tr g_x_undoable g_x_kept g_x_seen a_us a_sr a_mo mo_tasks mo_helpers mo_askedFirst mo_crumbsFirst mo_lastDay a_mo_kinds a_mo_days a_mo_rideDays a_mo_helpKinds a_mo_nexts a_mo_helperKinds a_mo_prices a_mo_helpersOfKind a_mo_numbers a_mo_kinds mo_kinds a_mo_days mo_days a_mo_rideDays mo_rideDays a_mo_helpKinds mo_helpKinds a_mo_nexts mo_nexts a_mo_helperKinds mo_helperKinds a_mo_prices mo_prices a_mo_helpersOfKind mo_helpersOfKind a_mo_numbers mo_numbers a_no no_asked no_brought no_friends no_used no_crumbs no_day a_tr tr_asked tr_brought tr_friends tr_used tr_crumbs tr_day a_us us_size us_lastPlace a_us_left a_us_left us_left a_sr a_sr_known a_ro a_us sr_number sr_enough sr_hopeless g_sr_months g_sr_heeded a_sr_known sr_known a_ro ro_asked ro_brought ro_friends ro_used ro_crumbs ro_day)) (out : (Int32 × Int32 × Int32 × Int32 × Int32 × Int32 × Int32 × Int64 × Int64 × Int32 × (Nat → Int64) × Int32 × Int32 × Int32 × Int32 × Int32 × Int32)) (hm : m_X5_worth N mo_tasks mo_helpers mo_lastDay mo_kinds mo_rideDays mo_helpKinds mo_nexts mo_prices mo_helpersOfKind no_asked no_brought no_friends no_used no_crumbs no_day tr_asked tr_brought tr_friends tr_used tr_crumbs tr_day us_lastPlace us_left sr_number sr_enough sr_hopeless sr_known ro_asked ro_brought ro_friends ro_used ro_crumbs ro_day p0 p1 = some out) : WrI l yX5_worth wsX5_worth rX5_worth D (tyK cC cI cJ) [.ref a_x, .int p0, .int p1] A (wd_15 cC cI cJ a_x g_x_text x_letters a_mo g_x_spare a_no a_tr g_x_undoable g_x_kept g_x_seen a_us a_sr a_mo mo_tasks mo_helpers mo_askedFirst mo_crumbsFirst mo_lastDay a_mo_kinds a_mo_days a_mo_rideDays a_mo_helpKinds a_mo_nexts a_mo_helperKinds a_mo_prices a_mo_helpersOfKind a_mo_numbers a_mo_kinds mo_kinds a_mo_days mo_days a_mo_rideDays mo_rideDays a_mo_helpKinds mo_helpKinds a_mo_nexts mo_nexts a_mo_helperKinds mo_helperKinds a_mo_prices mo_prices a_mo_helpersOfKind mo_helpersOfKind a_mo_numbers mo_numbers a_no no_asked no_brought no_friends no_used no_crumbs no_day a_tr tr_asked tr_brought tr_friends tr_used tr_crumbs tr_day a_us us_size us_lastPlace a_us_left a_us_left us_left a_sr a_sr_known a_ro a_us sr_number sr_enough sr_hopeless g_sr_months g_sr_heeded a_sr_known sr_known a_ro ro_asked ro_brought ro_friends ro_used ro_crumbs ro_day) (Bw2 D (fun z_15_6 z_15_7 => (wd_15 cC cI cJ a_x g_x_text x_letters a_mo g_x_spare a_no a_tr g_x_undoable g_x_kept g_x_seen a_us a_sr a_mo mo_tasks mo_helpers mo_askedFirst mo_crumbsFirst mo_lastDay a_mo_kinds a_mo_days a_mo_rideDays a_mo_helpKinds a_mo_nexts a_mo_helperKinds a_mo_prices a_mo_helpersOfKind a_mo_numbers a_mo_kinds mo_kinds a_mo_days mo_days a_mo_rideDays mo_rideDays a_mo_helpKinds mo_helpKinds a_mo_nexts mo_nexts a_mo_helperKinds mo_helperKinds a_mo_prices mo_prices a_mo_helpersOfKind mo_helpersOfKind a_mo_numbers mo_numbers a_no no_asked no_brought no_friends no_used no_crumbs no_day a_tr out.2.1 out.2.2.1 out.2.2.2.1 out.2.2.2.2.1 out.2.2.2.2.2.1 out.2.2.2.2.2.2.1 a_us us_size us_lastPlace a_us_left a_us_left us_left a_sr a_sr_known a_ro a_us out.2.2.2.2.2.2.2.1 out.2.2.2.2.2.2.2.2.1 out.2.2.2.2.2.2.2.2.2.1 z_15_6 z_15_7 a_sr_known out.2.2.2.2.2.2.2.2.2.2.1 a_ro out.2.2.2.2.2.2.2.2.2.2.2.1 out.2.2.2.2.2.2.2.2.2.2.2.2.1 out.2.2.2.2.2.2.2.2.2.2.2.2.2.1 out.2.2.2.2.2.2.2.2.2.2.2.2.2.2.1 out.2.2.2.2.2.2.2.2.2.2.2.2.2.2.2.1 out.2.2.2.2.2.2.2.2.2.2.2.2.2.2.2.2))) out.1 := by
  unfold m_X5_worth at hm
  refine enter (cc := cX5_worth) (maxL := 5) (ret := (some .int)) (lv := [(0, .ref a_x), (1, .int p0), (2, .int p1)]) (by decide) rfl (Nat.le_of_ble_eq_true rfl) rfl ?_
  intro p e s m args below meth c S hr hlk hK hP ls hl
  replace S : CallFix p m c cX5_worth 5 s args wsX5_worth RX5 := S
  have hx := S.1
  have hb := S.2.1
  have hw : Wd D A s.heap (wd_15 cC cI cJ a_x g_x_text x_letters a_mo g_x_spare a_no a_tr g_x_undoable g_x_kept g_x_seen a_us a_sr a_mo mo_tasks mo_helpers mo_askedFirst mo_crumbsFirst mo_lastDay a_mo_kinds a_mo_days a_mo_rideDays a_mo_helpKinds a_mo_nexts a_mo_helperKinds a_mo_prices a_mo_helpersOfKind a_mo_numbers a_mo_kinds mo_kinds a_mo_days mo_days a_mo_rideDays mo_rideDays a_mo_helpKinds mo_helpKinds a_mo_nexts mo_nexts a_mo_helperKinds mo_helperKinds a_mo_prices mo_prices a_mo_helpersOfKind mo_helpersOfKind a_mo_numbers mo_numbers a_no no_asked no_brought no_friends no_used no_crumbs no_day a_tr tr_asked tr_brought tr_friends tr_used tr_crumbs tr_day a_us us_size us_lastPlace a_us_left a_us_left us_left a_sr a_sr_known a_ro a_us sr_number sr_enough sr_hopeless g_sr_months g_sr_heeded a_sr_known sr_known a_ro ro_asked ro_brought ro_friends ro_used ro_crumbs ro_day) s.heap [] := ⟨hP, hD, va_S.rf⟩
  have hw0 := hw
  refine lv_aload_n hx hb dX5_worth_0 rfl (lv_at hl 0 rfl) ?_
  refine f_get S hK hw.1 in_X5_worth_X5 0 rfl rfl 2 (by decide) (List.mem_of_getElem? (i := 1) rfl) rfl rfl dX5_worth_1 ?_
  refine lv_iload_n hx hb dX5_worth_4 rfl (lv_at hl 1 rfl) ?_
  obtain ⟨r1, h2, hm⟩ := ob hm
  refine k_rVi S hK hw.1 cal_X0_hasHelper gX5_worth_X0_hasHelper (c_X0_hasHelper l D cC cI cJ a_mo a_mo_kinds a_mo_days a_mo_rideDays a_mo_helpKinds a_mo_nexts a_mo_helperKinds a_mo_prices a_mo_helpersOfKind a_mo_numbers mo_tasks mo_helpers mo_askedFirst mo_crumbsFirst mo_lastDay mo_kinds mo_days mo_rideDays mo_helpKinds mo_nexts mo_helperKinds mo_prices mo_helpersOfKind mo_numbers p0 r1 h2) ⟨⟨rfl, rfl⟩, Nat.le_of_ble_eq_true rfl, Nat.le_of_ble_eq_true rfl⟩ [1, 2, 3, 4, 5, 6, 7, 8, 9, 10] rfl 1 rfl rfl rfl hl.1 rfl (Nat.le_of_ble_eq_true rfl) dX5_worth_5 ⟨Nat.zero_le _, Nat.zero_le _⟩ ?_
  refine lv_if_eq (tgt := 20) hx hb dX5_worth_8 (by decide) (fun c3 => ?_) (fun c3 => ?_)
  · replace hm := ipos hm c3
    refine lv_iconst (v := (-1)) hx hb dX5_worth_20 (by decide) ?_
    obtain rfl := Option.some.inj hm
    exact e_WI S hr hlk hw rfl ⟨g_sr_months, g_sr_heeded, hw.1⟩ dX5_worth_21
  · replace hm := ineg hm c3
    refine lv_iload_n hx hb dX5_worth_11 rfl (lv_at hl 2 rfl) ?_
    refine lv_if_lt (tgt := 20) hx hb dX5_worth_12 (by decide) (fun c4 => ?_) (fun c4 => ?_)
    · replace hm := ipos hm c4
      refine lv_iconst (v := (-1)) hx hb dX5_worth_20 (by decide) ?_
      obtain rfl := Option.some.inj hm
      exact e_WI S hr hlk hw rfl ⟨g_sr_months, g_sr_heeded, hw.1⟩ dX5_worth_21
    · replace hm := ineg hm c4
      refine lv_iload_n hx hb dX5_worth_15 rfl (lv_at hl 2 rfl) ?_
      refine lv_iconst (v := 1) hx hb dX5_worth_16 (by decide) ?_
      refine lv_icmp_le (tgt := 22) hx hb dX5_worth_17 (by decide) (fun c5 => ?_) (fun c5 => ?_)
      · replace hm := ipos hm c5
        refine lv_aload_n hx hb dX5_worth_22 rfl (lv_at hl 0 rfl) ?_
        refine f_get S hK hw.1 in_X5_worth_X5 0 rfl rfl 4 (by decide) (List.mem_of_getElem? (i := 2) rfl) rfl rfl dX5_worth_23 ?_
        refine f_get S hK hw.1 in_X5_worth_X4 11 rfl rfl 2 (by decide) (List.mem_of_getElem? (i := 3) rfl) rfl rfl dX5_worth_26 ?_
        refine lv_iload_n hx hb dX5_worth_29 rfl (lv_at hl 1 rfl) ?_
        obtain ⟨r6, h7, hm⟩ := ob hm
        refine k_rSi S hK hw.1 cal_X5_bit gX5_worth_X5_bit (c_X5_bit l D cC cI cJ p0 r6 h7) ⟨⟨rfl, rfl⟩, Nat.le_of_ble_eq_true rfl, Nat.le_of_ble_eq_true rfl⟩ [] rfl rfl hl.1 rfl (Nat.le_of_ble_eq_true rfl) dX5_worth_30 ⟨Nat.zero_le _, Nat.zero_le _⟩ ?_
        refine lv_iand hx hb dX5_worth_33 ?_
        refine lv_if_eq (tgt := 40) hx hb dX5_worth_34 (by decide) (fun c8 => ?_) (fun c8 => ?_)
        · replace hm := ipos hm c8
          refine lv_aload_n hx hb dX5_worth_40 rfl (lv_at hl 0 rfl) ?_
          refine f_get S hK hw.1 in_X5_worth_X5 0 rfl rfl 5 (by decide) (List.mem_of_getElem? (i := 4) rfl) rfl rfl dX5_worth_41 ?_
          refine lv_aload_n hx hb dX5_worth_44 rfl (lv_at hl 0 rfl) ?_
          refine f_get S hK hw.1 in_X5_worth_X5 0 rfl rfl 4 (by decide) (List.mem_of_getElem? (i := 2) rfl) rfl rfl dX5_worth_45 ?_
          obtain ⟨r9, h10, hm⟩ := ob hm
          refine k_rVl S hK hw.1 cal_X4_packed gX5_worth_X4_packed (c_X4_packed l D cC cI cJ a_no no_asked no_brought no_friends no_used no_crumbs no_day r9 h10) ⟨⟨rfl, rfl⟩, Nat.le_of_ble_eq_true rfl, Nat.le_of_ble_eq_true rfl⟩ [11] rfl 11 rfl rfl rfl hl.1 rfl (Nat.le_of_ble_eq_true rfl) dX5_worth_48 ⟨Nat.zero_le _, Nat.zero_le _⟩ ?_
          obtain ⟨r11, h12, hm⟩ := ob hm
          refine k_wVv S hK hw cal_X4_unpack gX5_worth_X4_unpack (c_X4_unpack l D cC cI cJ a_tr tr_asked tr_brought tr_friends tr_used tr_crumbs tr_day r9 (aw _) (hw.own [12] (by decide) rfl) r11 h12) ⟨⟨rfl, rfl⟩, Nat.le_of_ble_eq_true rfl, Nat.le_of_ble_eq_true rfl⟩ [12] rfl 12 rfl rfl rfl hl.1 rfl (Nat.le_of_ble_eq_true rfl) dX5_worth_51 ⟨Nat.zero_le _, Nat.zero_le _⟩ (fun H locs hJ hB => ?_)
          have hw := hJ _ hB rfl
          replace hw : Wd D A _ (wd_15 cC cI cJ a_x g_x_text x_letters a_mo g_x_spare a_no a_tr g_x_undoable g_x_kept g_x_seen a_us a_sr a_mo mo_tasks mo_helpers mo_askedFirst mo_crumbsFirst mo_lastDay a_mo_kinds a_mo_days a_mo_rideDays a_mo_helpKinds a_mo_nexts a_mo_helperKinds a_mo_prices a_mo_helpersOfKind a_mo_numbers a_mo_kinds mo_kinds a_mo_days mo_days a_mo_rideDays mo_rideDays a_mo_helpKinds mo_helpKinds a_mo_nexts mo_nexts a_mo_helperKinds mo_helperKinds a_mo_prices mo_prices a_mo_helpersOfKind mo_helpersOfKind a_mo_numbers mo_numbers a_no no_asked no_brought no_friends no_used no_crumbs no_day a_tr r11.1 r11.2.1 r11.2.2.1 r11.2.2.2.1 r11.2.2.2.2.1 r11.2.2.2.2.2 a_us us_size us_lastPlace a_us_left a_us_left us_left a_sr a_sr_known a_ro a_us sr_number sr_enough sr_hopeless g_sr_months g_sr_heeded a_sr_known sr_known a_ro ro_asked ro_brought ro_friends ro_used ro_crumbs ro_day) H locs := hw
          refine lv_aload_n hx hb dX5_worth_54 rfl (lv_at hl 0 rfl) ?_
          refine f_get S hK hw.1 in_X5_worth_X5 0 rfl rfl 5 (by decide) (List.mem_of_getElem? (i := 4) rfl) rfl rfl dX5_worth_55 ?_
          refine lv_dup hx hb dX5_worth_58 rfl ?_
          refine f_get S hK hw.1 in_X5_worth_X4 12 rfl rfl 2 (by decide) (List.mem_of_getElem? (i := 3) rfl) rfl rfl dX5_worth_59 ?_
          refine lv_iload_n hx hb dX5_worth_62 rfl (lv_at hl 1 rfl) ?_
          obtain ⟨r13, h14, hm⟩ := ob hm
          refine k_rSi S hK hw.1 cal_X5_bit gX5_worth_X5_bit (c_X5_bit l D cC cI cJ p0 r13 h14) ⟨⟨rfl, rfl⟩, Nat.le_of_ble_eq_true rfl, Nat.le_of_ble_eq_true rfl⟩ [] rfl rfl hl.1 rfl (Nat.le_of_ble_eq_true rfl) dX5_worth_63 ⟨Nat.zero_le _, Nat.zero_le _⟩ ?_
          refine lv_ior hx hb dX5_worth_66 ?_
          refine f_put S hK hw in_X5_worth_X4 tyX4_ok nmX4 12 rfl rfl 2 (by decide) (List.mem_of_getElem? (i := 3) rfl) rfl rfl rfl rfl (Nat.le_of_ble_eq_true rfl) (ws1 := (wd_15 cC cI cJ a_x g_x_text x_letters a_mo g_x_spare a_no a_tr g_x_undoable g_x_kept g_x_seen a_us a_sr a_mo mo_tasks mo_helpers mo_askedFirst mo_crumbsFirst mo_lastDay a_mo_kinds a_mo_days a_mo_rideDays a_mo_helpKinds a_mo_nexts a_mo_helperKinds a_mo_prices a_mo_helpersOfKind a_mo_numbers a_mo_kinds mo_kinds a_mo_days mo_days a_mo_rideDays mo_rideDays a_mo_helpKinds mo_helpKinds a_mo_nexts mo_nexts a_mo_helperKinds mo_helperKinds a_mo_prices mo_prices a_mo_helpersOfKind mo_helpersOfKind a_mo_numbers mo_numbers a_no no_asked no_brought no_friends no_used no_crumbs no_day a_tr r11.1 r11.2.1 (r11.2.2.1 ||| r13) r11.2.2.2.1 r11.2.2.2.2.1 r11.2.2.2.2.2 a_us us_size us_lastPlace a_us_left a_us_left us_left a_sr a_sr_known a_ro a_us sr_number sr_enough sr_hopeless g_sr_months g_sr_heeded a_sr_known sr_known a_ro ro_asked ro_brought ro_friends ro_used ro_crumbs ro_day)) rfl dX5_worth_67 (fun H locs hw => ?_)
          refine lv_iload_n hx hb dX5_worth_70 rfl (lv_at hl 2 rfl) ?_
          refine lv_if_ne (tgt := 120) hx hb dX5_worth_71 (by decide) (fun c15 => ?_) (fun c15 => ?_)
          · replace hm := ineg hm c15
            refine lv_aload_n hx hb dX5_worth_120 rfl (lv_at hl 0 rfl) ?_
            refine f_get S hK hw.1 in_X5_worth_X5 0 rfl rfl 10 (by decide) (List.mem_of_getElem? (i := 5) rfl) rfl rfl dX5_worth_121 ?_
            refine lv_aload_n hx hb dX5_worth_124 rfl (lv_at hl 0 rfl) ?_
            refine f_get S hK hw.1 in_X5_worth_X5 0 rfl rfl 2 (by decide) (List.mem_of_getElem? (i := 1) rfl) rfl rfl dX5_worth_125 ?_
            refine lv_aload_n hx hb dX5_worth_128 rfl (lv_at hl 0 rfl) ?_
            refine f_get S hK hw.1 in_X5_worth_X5 0 rfl rfl 4 (by decide) (List.mem_of_getElem? (i := 2) rfl) rfl rfl dX5_worth_129 ?_
            obtain ⟨r16, h17, hm⟩ := ob hm
            refine k_wVi S hK hw cal_X2_fewestSet gX5_worth_X2_fewestSet (c_X2_fewestSet l D cC cI cJ a_sr a_sr_known a_ro a_us g_sr_months g_sr_heeded a_us_left a_mo a_mo_kinds a_mo_days a_mo_rideDays a_mo_helpKinds a_mo_nexts a_mo_helperKinds a_mo_prices a_mo_helpersOfKind a_mo_numbers a_no sr_number sr_enough sr_hopeless sr_known ro_asked ro_brought ro_friends ro_used ro_crumbs ro_day us_size us_lastPlace us_left mo_tasks mo_helpers mo_askedFirst mo_crumbsFirst mo_lastDay mo_kinds mo_days mo_rideDays mo_helpKinds mo_nexts mo_helperKinds mo_prices mo_helpersOfKind mo_numbers no_asked no_brought no_friends no_used no_crumbs no_day N (aw _) (hw.own [15, 16, 17, 13, 14, 1, 2, 3, 4, 5, 6, 7, 8, 9, 10, 11] (by decide) rfl) r16 h17) ⟨⟨rfl, rfl⟩, Nat.le_of_ble_eq_true rfl, Nat.le_of_ble_eq_true rfl⟩ [15, 16, 17, 13, 14, 1, 2, 3, 4, 5, 6, 7, 8, 9, 10, 11] rfl 15 rfl rfl rfl hl.1 rfl (Nat.le_of_ble_eq_true rfl) dX5_worth_132 ⟨Nat.zero_le _, Nat.zero_le _⟩ (fun H locs hJ hB => ?_)
            have hw := hJ _ hB rfl
            replace hw : Wd D A _ (wd_15 cC cI cJ a_x g_x_text x_letters a_mo g_x_spare a_no a_tr g_x_undoable g_x_kept g_x_seen a_us a_sr a_mo mo_tasks mo_helpers mo_askedFirst mo_crumbsFirst mo_lastDay a_mo_kinds a_mo_days a_mo_rideDays a_mo_helpKinds a_mo_nexts a_mo_helperKinds a_mo_prices a_mo_helpersOfKind a_mo_numbers a_mo_kinds mo_kinds a_mo_days mo_days a_mo_rideDays mo_rideDays a_mo_helpKinds mo_helpKinds a_mo_nexts mo_nexts a_mo_helperKinds mo_helperKinds a_mo_prices mo_prices a_mo_helpersOfKind mo_helpersOfKind a_mo_numbers mo_numbers a_no no_asked no_brought no_friends no_used no_crumbs no_day a_tr r11.1 r11.2.1 (r11.2.2.1 ||| r13) r11.2.2.2.1 r11.2.2.2.2.1 r11.2.2.2.2.2 a_us us_size us_lastPlace a_us_left a_us_left us_left a_sr a_sr_known a_ro a_us r16.2.1 r16.2.2.1 r16.2.2.2.1 a_mo a_us a_sr_known r16.2.2.2.2.1 a_ro r16.2.2.2.2.2.1 r16.2.2.2.2.2.2.1 r16.2.2.2.2.2.2.2.1 r16.2.2.2.2.2.2.2.2.1 r16.2.2.2.2.2.2.2.2.2.1 r16.2.2.2.2.2.2.2.2.2.2) H locs := hw
            refine lv_istore_n (lv' := [(3, .int r16.1), (0, .ref a_x), (1, .int p0), (2, .int p1)]) hx hb dX5_worth_135 rfl hl (by decide) rfl (fun ls hl => ?_)
            refine lv_aload_n hx hb dX5_worth_136 rfl (lv_at hl 1 rfl) ?_
            refine f_get S hK hw.1 in_X5_worth_X5 0 rfl rfl 10 (by decide) (List.mem_of_getElem? (i := 5) rfl) rfl rfl dX5_worth_137 ?_
            refine lv_aload_n hx hb dX5_worth_140 rfl (lv_at hl 1 rfl) ?_
            refine f_get S hK hw.1 in_X5_worth_X5 0 rfl rfl 2 (by decide) (List.mem_of_getElem? (i := 1) rfl) rfl rfl dX5_worth_141 ?_
            refine lv_aload_n hx hb dX5_worth_144 rfl (lv_at hl 1 rfl) ?_
            refine f_get S hK hw.1 in_X5_worth_X5 0 rfl rfl 5 (by decide) (List.mem_of_getElem? (i := 4) rfl) rfl rfl dX5_worth_145 ?_
            obtain ⟨r18, h19, hm⟩ := ob hm
            refine k_wVi S hK hw cal_X2_fewestSet gX5_worth_X2_fewestSet (c_X2_fewestSet l D cC cI cJ a_sr a_sr_known a_ro a_us a_mo a_us a_us_left a_mo a_mo_kinds a_mo_days a_mo_rideDays a_mo_helpKinds a_mo_nexts a_mo_helperKinds a_mo_prices a_mo_helpersOfKind a_mo_numbers a_tr r16.2.1 r16.2.2.1 r16.2.2.2.1 r16.2.2.2.2.1 r16.2.2.2.2.2.1 r16.2.2.2.2.2.2.1 r16.2.2.2.2.2.2.2.1 r16.2.2.2.2.2.2.2.2.1 r16.2.2.2.2.2.2.2.2.2.1 r16.2.2.2.2.2.2.2.2.2.2 us_size us_lastPlace us_left mo_tasks mo_helpers mo_askedFirst mo_crumbsFirst mo_lastDay mo_kinds mo_days mo_rideDays mo_helpKinds mo_nexts mo_helperKinds mo_prices mo_helpersOfKind mo_numbers r11.1 r11.2.1 (r11.2.2.1 ||| r13) r11.2.2.2.1 r11.2.2.2.2.1 r11.2.2.2.2.2 N (aw _) (hw.own [15, 16, 17, 13, 14, 1, 2, 3, 4, 5, 6, 7, 8, 9, 10, 12] (by decide) rfl) r18 h19) ⟨⟨rfl, rfl⟩, Nat.le_of_ble_eq_true rfl, Nat.le_of_ble_eq_true rfl⟩ [15, 16, 17, 13, 14, 1, 2, 3, 4, 5, 6, 7, 8, 9, 10, 12] rfl 15 rfl rfl rfl hl.1 rfl (Nat.le_of_ble_eq_true rfl) dX5_worth_148 ⟨Nat.zero_le _, Nat.zero_le _⟩ (fun H locs hJ hB => ?_)
            have hw := hJ _ hB rfl
            replace hw : Wd D A _ (wd_15 cC cI cJ a_x g_x_text x_letters a_mo g_x_spare a_no a_tr g_x_undoable g_x_kept g_x_seen a_us a_sr a_mo mo_tasks mo_helpers mo_askedFirst mo_crumbsFirst mo_lastDay a_mo_kinds a_mo_days a_mo_rideDays a_mo_helpKinds a_mo_nexts a_mo_helperKinds a_mo_prices a_mo_helpersOfKind a_mo_numbers a_mo_kinds mo_kinds a_mo_days mo_days a_mo_rideDays mo_rideDays a_mo_helpKinds mo_helpKinds a_mo_nexts mo_nexts a_mo_helperKinds mo_helperKinds a_mo_prices mo_prices a_mo_helpersOfKind mo_helpersOfKind a_mo_numbers mo_numbers a_no no_asked no_brought no_friends no_used no_crumbs no_day a_tr r11.1 r11.2.1 (r11.2.2.1 ||| r13) r11.2.2.2.1 r11.2.2.2.2.1 r11.2.2.2.2.2 a_us us_size us_lastPlace a_us_left a_us_left us_left a_sr a_sr_known a_ro a_us r18.2.1 r18.2.2.1 r18.2.2.2.1 a_mo a_us a_sr_known r18.2.2.2.2.1 a_ro r18.2.2.2.2.2.1 r18.2.2.2.2.2.2.1 r18.2.2.2.2.2.2.2.1 r18.2.2.2.2.2.2.2.2.1 r18.2.2.2.2.2.2.2.2.2.1 r18.2.2.2.2.2.2.2.2.2.2) H locs := hw
            refine lv_istore (lv' := [(4, .int r18.1), (3, .int r16.1), (0, .ref a_x), (1, .int p0), (2, .int p1)]) hx hb dX5_worth_151 hl (by decide) rfl (fun ls hl => ?_)
            refine lv_iload_n hx hb dX5_worth_153 rfl (lv_at hl 1 rfl) ?_
            refine lv_if_lt (tgt := 162) hx hb dX5_worth_154 (by decide) (fun c20 => ?_) (fun c20 => ?_)
            · replace hm := ipos hm c20
              refine lv_bipush (v := (-4)) hx hb dX5_worth_162 (by decide) ?_
              obtain rfl := Option.some.inj hm
              exact e_WI S hr hlk hw rfl ⟨a_mo, a_us, hw.1⟩ dX5_worth_164
            · replace hm := ineg hm c20
              refine lv_iload hx hb dX5_worth_157 (lv_at hl 0 rfl) ?_
              refine lv_if_ge (tgt := 165) hx hb dX5_worth_159 (by decide) (fun c21 => ?_) (fun c21 => ?_)
              · replace hm := ipos hm c21
                refine lv_aload_n hx hb dX5_worth_165 rfl (lv_at hl 2 rfl) ?_
                refine f_get S hK hw.1 in_X5_worth_X5 0 rfl rfl 2 (by decide) (List.mem_of_getElem? (i := 1) rfl) rfl rfl dX5_worth_166 ?_
                refine lv_iload_n hx hb dX5_worth_169 rfl (lv_at hl 1 rfl) ?_
                obtain ⟨r22, h23, hm⟩ := ob hm
                refine k_rVi S hK hw.1 cal_X0_priceOfSet gX5_worth_X0_priceOfSet (c_X0_priceOfSet l D cC cI cJ a_mo a_mo_kinds a_mo_days a_mo_rideDays a_mo_helpKinds a_mo_nexts a_mo_helperKinds a_mo_prices a_mo_helpersOfKind a_mo_numbers mo_tasks mo_helpers mo_askedFirst mo_crumbsFirst mo_lastDay mo_kinds mo_days mo_rideDays mo_helpKinds mo_nexts mo_helperKinds mo_prices mo_helpersOfKind mo_numbers r16.1 N r22 h23) ⟨⟨rfl, rfl⟩, Nat.le_of_ble_eq_true rfl, Nat.le_of_ble_eq_true rfl⟩ [1, 2, 3, 4, 5, 6, 7, 8, 9, 10] rfl 1 rfl rfl rfl hl.1 rfl (Nat.le_of_ble_eq_true rfl) dX5_worth_170 ⟨Nat.zero_le _, Nat.zero_le _⟩ ?_
                refine lv_aload_n hx hb dX5_worth_173 rfl (lv_at hl 2 rfl) ?_
                refine f_get S hK hw.1 in_X5_worth_X5 0 rfl rfl 2 (by decide) (List.mem_of_getElem? (i := 1) rfl) rfl rfl dX5_worth_174 ?_
                refine lv_iload hx hb dX5_worth_177 (lv_at hl 0 rfl) ?_
                obtain ⟨r24, h25, hm⟩ := ob hm
                refine k_rVi S hK hw.1 cal_X0_priceOfSet gX5_worth_X0_priceOfSet (c_X0_priceOfSet l D cC cI cJ a_mo a_mo_kinds a_mo_days a_mo_rideDays a_mo_helpKinds a_mo_nexts a_mo_helperKinds a_mo_prices a_mo_helpersOfKind a_mo_numbers mo_tasks mo_helpers mo_askedFirst mo_crumbsFirst mo_lastDay mo_kinds mo_days mo_rideDays mo_helpKinds mo_nexts mo_helperKinds mo_prices mo_helpersOfKind mo_numbers r18.1 N r24 h25) ⟨⟨rfl, rfl⟩, Nat.le_of_ble_eq_true rfl, Nat.le_of_ble_eq_true rfl⟩ [1, 2, 3, 4, 5, 6, 7, 8, 9, 10] rfl 1 rfl rfl rfl hl.1 rfl (Nat.le_of_ble_eq_true rfl) dX5_worth_179 ⟨Nat.zero_le _, Nat.zero_le _⟩ ?_
                refine lv_isub hx hb dX5_worth_182 ?_
                obtain rfl := Option.some.inj hm
                exact e_WI S hr hlk hw rfl ⟨a_mo, a_us, hw.1⟩ dX5_worth_183
              · replace hm := ineg hm c21
                refine lv_bipush (v := (-4)) hx hb dX5_worth_162 (by decide) ?_
                obtain rfl := Option.some.inj hm
                exact e_WI S hr hlk hw rfl ⟨a_mo, a_us, hw.1⟩ dX5_worth_164
          · replace hm := ipos hm c15
            refine lv_aload_n hx hb dX5_worth_74 rfl (lv_at hl 0 rfl) ?_
            refine f_get S hK hw.1 in_X5_worth_X5 0 rfl rfl 10 (by decide) (List.mem_of_getElem? (i := 5) rfl) rfl rfl dX5_worth_75 ?_
            refine lv_aload_n hx hb dX5_worth_78 rfl (lv_at hl 0 rfl) ?_
            refine f_get S hK hw.1 in_X5_worth_X5 0 rfl rfl 2 (by decide) (List.mem_of_getElem? (i := 1) rfl) rfl rfl dX5_worth_79 ?_
            refine lv_aload_n hx hb dX5_worth_82 rfl (lv_at hl 0 rfl) ?_
            refine f_get S hK hw.1 in_X5_worth_X5 0 rfl rfl 4 (by decide) (List.mem_of_getElem? (i := 2) rfl) rfl rfl dX5_worth_83 ?_
            refine lv_aload_n hx hb dX5_worth_86 rfl (lv_at hl 0 rfl) ?_
            refine f_get S hK hw.1 in_X5_worth_X5 0 rfl rfl 9 (by decide) (List.mem_of_getElem? (i := 6) rfl) rfl rfl dX5_worth_87 ?_
            obtain ⟨r26, h27, hm⟩ := ob hm
            refine k_wVi S hK hw cal_X2_waysOf gX5_worth_X2_waysOf (c_X2_waysOf l D cC cI cJ a_sr a_sr_known a_ro a_us g_sr_months g_sr_heeded a_mo a_mo_kinds a_mo_days a_mo_rideDays a_mo_helpKinds a_mo_nexts a_mo_helperKinds a_mo_prices a_mo_helpersOfKind a_mo_numbers a_no a_us a_us_left sr_number sr_enough sr_hopeless sr_known ro_asked ro_brought ro_friends ro_used ro_crumbs ro_day mo_tasks mo_helpers mo_askedFirst mo_crumbsFirst mo_lastDay mo_kinds mo_days mo_rideDays mo_helpKinds mo_nexts mo_helperKinds mo_prices mo_helpersOfKind mo_numbers no_asked no_brought no_friends no_used no_crumbs no_day us_size us_lastPlace us_left N (aw _) (hw.own [15, 16, 17, 1, 2, 3, 4, 5, 6, 7, 8, 9, 10, 11, 13, 14] (by decide) rfl) r26 h27) ⟨⟨rfl, rfl⟩, Nat.le_of_ble_eq_true rfl, Nat.le_of_ble_eq_true rfl⟩ [15, 16, 17, 1, 2, 3, 4, 5, 6, 7, 8, 9, 10, 11, 13, 14] rfl 15 rfl rfl rfl hl.1 rfl (Nat.le_of_ble_eq_true rfl) dX5_worth_90 ⟨Nat.zero_le _, Nat.zero_le _⟩ (fun H locs hJ hB => ?_)
            have hw := hJ _ hB rfl
            replace hw : Wd D A _ (wd_15 cC cI cJ a_x g_x_text x_letters a_mo g_x_spare a_no a_tr g_x_undoable g_x_kept g_x_seen a_us a_sr a_mo mo_tasks mo_helpers mo_askedFirst mo_crumbsFirst mo_lastDay a_mo_kinds a_mo_days a_mo_rideDays a_mo_helpKinds a_mo_nexts a_mo_helperKinds a_mo_prices a_mo_helpersOfKind a_mo_numbers a_mo_kinds mo_kinds a_mo_days mo_days a_mo_rideDays mo_rideDays a_mo_helpKinds mo_helpKinds a_mo_nexts mo_nexts a_mo_helperKinds mo_helperKinds a_mo_prices mo_prices a_mo_helpersOfKind mo_helpersOfKind a_mo_numbers mo_numbers a_no no_asked no_brought no_friends no_used no_crumbs no_day a_tr r11.1 r11.2.1 (r11.2.2.1 ||| r13) r11.2.2.2.1 r11.2.2.2.2.1 r11.2.2.2.2.2 a_us us_size us_lastPlace a_us_left a_us_left us_left a_sr a_sr_known a_ro a_us r26.2.1 r26.2.2.1 r26.2.2.2.1 a_mo a_us a_sr_known r26.2.2.2.2.1 a_ro r26.2.2.2.2.2.1 r26.2.2.2.2.2.2.1 r26.2.2.2.2.2.2.2.1 r26.2.2.2.2.2.2.2.2.1 r26.2.2.2.2.2.2.2.2.2.1 r26.2.2.2.2.2.2.2.2.2.2) H locs := hw
            refine lv_istore_n (lv' := [(3, .int r26.1), (0, .ref a_x), (1, .int p0), (2, .int p1)]) hx hb dX5_worth_93 rfl hl (by decide) rfl (fun ls hl => ?_)
            refine lv_iconst (v := 0) hx hb dX5_worth_94 (by decide) ?_
            refine lv_aload_n hx hb dX5_worth_95 rfl (lv_at hl 1 rfl) ?_
            refine f_get S hK hw.1 in_X5_worth_X5 0 rfl rfl 10 (by decide) (List.mem_of_getElem? (i := 5) rfl) rfl rfl dX5_worth_96 ?_
            refine lv_aload_n hx hb dX5_worth_99 rfl (lv_at hl 1 rfl) ?_
            refine f_get S hK hw.1 in_X5_worth_X5 0 rfl rfl 2 (by decide) (List.mem_of_getElem? (i := 1) rfl) rfl rfl dX5_worth_100 ?_
            refine lv_aload_n hx hb dX5_worth_103 rfl (lv_at hl 1 rfl) ?_
            refine f_get S hK hw.1 in_X5_worth_X5 0 rfl rfl 5 (by decide) (List.mem_of_getElem? (i := 4) rfl) rfl rfl dX5_worth_104 ?_
            refine lv_aload_n hx hb dX5_worth_107 rfl (lv_at hl 1 rfl) ?_
            refine f_get S hK hw.1 in_X5_worth_X5 0 rfl rfl 9 (by decide) (List.mem_of_getElem? (i := 6) rfl) rfl rfl dX5_worth_108 ?_
            obtain ⟨r28, h29, hm⟩ := ob hm
            refine k_wVi S hK hw cal_X2_waysOf gX5_worth_X2_waysOf (c_X2_waysOf l D cC cI cJ a_sr a_sr_known a_ro a_us a_mo a_us a_mo a_mo_kinds a_mo_days a_mo_rideDays a_mo_helpKinds a_mo_nexts a_mo_helperKinds a_mo_prices a_mo_helpersOfKind a_mo_numbers a_tr a_us a_us_left r26.2.1 r26.2.2.1 r26.2.2.2.1 r26.2.2.2.2.1 r26.2.2.2.2.2.1 r26.2.2.2.2.2.2.1 r26.2.2.2.2.2.2.2.1 r26.2.2.2.2.2.2.2.2.1 r26.2.2.2.2.2.2.2.2.2.1 r26.2.2.2.2.2.2.2.2.2.2 mo_tasks mo_helpers mo_askedFirst mo_crumbsFirst mo_lastDay mo_kinds mo_days mo_rideDays mo_helpKinds mo_nexts mo_helperKinds mo_prices mo_helpersOfKind mo_numbers r11.1 r11.2.1 (r11.2.2.1 ||| r13) r11.2.2.2.1 r11.2.2.2.2.1 r11.2.2.2.2.2 us_size us_lastPlace us_left N (aw _) (hw.own [15, 16, 17, 1, 2, 3, 4, 5, 6, 7, 8, 9, 10, 12, 13, 14] (by decide) rfl) r28 h29) ⟨⟨rfl, rfl⟩, Nat.le_of_ble_eq_true rfl, Nat.le_of_ble_eq_true rfl⟩ [15, 16, 17, 1, 2, 3, 4, 5, 6, 7, 8, 9, 10, 12, 13, 14] rfl 15 rfl rfl rfl hl.1 rfl (Nat.le_of_ble_eq_true rfl) dX5_worth_111 ⟨Nat.zero_le _, Nat.zero_le _⟩ (fun H locs hJ hB => ?_)
            have hw := hJ _ hB rfl
            replace hw : Wd D A _ (wd_15 cC cI cJ a_x g_x_text x_letters a_mo g_x_spare a_no a_tr g_x_undoable g_x_kept g_x_seen a_us a_sr a_mo mo_tasks mo_helpers mo_askedFirst mo_crumbsFirst mo_lastDay a_mo_kinds a_mo_days a_mo_rideDays a_mo_helpKinds a_mo_nexts a_mo_helperKinds a_mo_prices a_mo_helpersOfKind a_mo_numbers a_mo_kinds mo_kinds a_mo_days mo_days a_mo_rideDays mo_rideDays a_mo_helpKinds mo_helpKinds a_mo_nexts mo_nexts a_mo_helperKinds mo_helperKinds a_mo_prices mo_prices a_mo_helpersOfKind mo_helpersOfKind a_mo_numbers mo_numbers a_no no_asked no_brought no_friends no_used no_crumbs no_day a_tr r11.1 r11.2.1 (r11.2.2.1 ||| r13) r11.2.2.2.1 r11.2.2.2.2.1 r11.2.2.2.2.2 a_us us_size us_lastPlace a_us_left a_us_left us_left a_sr a_sr_known a_ro a_us r28.2.1 r28.2.2.1 r28.2.2.2.1 a_mo a_us a_sr_known r28.2.2.2.2.1 a_ro r28.2.2.2.2.2.1 r28.2.2.2.2.2.2.1 r28.2.2.2.2.2.2.2.1 r28.2.2.2.2.2.2.2.2.1 r28.2.2.2.2.2.2.2.2.2.1 r28.2.2.2.2.2.2.2.2.2.2) H locs := hw
            refine lv_iload_n hx hb dX5_worth_114 rfl (lv_at hl 0 rfl) ?_
            refine lv_isub hx hb dX5_worth_115 ?_
            refine va_mmax hx hb (S.2.2.1.trans hl.1.symm) S.2.2.2.1 (S.2.2.2.2 _ (List.mem_of_getElem? (i := 7) rfl)) (S.2.2.2.2 _ (List.mem_of_getElem? (i := 8) rfl)) (S.2.2.2.2 _ (List.mem_of_getElem? (i := 9) rfl)) (S.2.2.2.2 _ (List.mem_of_getElem? (i := 10) rfl)) (Nat.le_of_ble_eq_true rfl) (Nat.le_of_ble_eq_true rfl) (Nat.zero_le _) (Nat.zero_le _) dX5_worth_116 ?_
            obtain rfl := Option.some.inj hm
            exact e_WI S hr hlk hw rfl ⟨a_mo, a_us, hw.1⟩ dX5_worth_119
        · replace hm := ineg hm c8
          refine lv_bipush (v := (-2)) hx hb dX5_worth_37 (by decide) ?_
          obtain rfl := Option.some.inj hm
          exact e_WI S hr hlk hw rfl ⟨g_sr_months, g_sr_heeded, hw.1⟩ dX5_worth_39
      · replace hm := ineg hm c5
        refine lv_iconst (v := (-1)) hx hb dX5_worth_20 (by decide) ?_
        obtain rfl := Option.some.inj hm
        exact e_WI S hr hlk hw rfl ⟨g_sr_months, g_sr_heeded, hw.1⟩ dX5_worth_21
