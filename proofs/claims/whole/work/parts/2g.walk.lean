/-! walks: X5_forWhat X5_forget X5_grooms X5_handUp X5_help X5_helper X5_keep X5_kingGoesOn X5_king X5_lay X5_mayCome -/
abbrev rX5_forWhat : Room := { frames := 2, cells := 0, slots := 0, locals := 45 }
theorem cal_X5_forWhat : Cal yX5_forWhat wsX5_forWhat cX5_forWhat 2 (some .int) RX5 1 := ⟨⟨_, rfl⟩, rfl, by decide +kernel, by decide +kernel, by decide +kernel⟩
theorem in_X5_forWhat_X4 : ∀ w ∈ wsX40, w ∈ wsX5_forWhat := fun _ h => (List.mem_cons_of_mem _ (List.mem_append_left _ (List.mem_append_right _ h)))
theorem in_X5_forWhat_X5 : ∀ w ∈ wsX50, w ∈ wsX5_forWhat := fun _ h => (List.mem_cons_of_mem _ (List.mem_append_left _ (List.mem_append_left _ (List.mem_append_right _ h))))
set_option maxHeartbeats 4000000 in
set_option maxRecDepth 100000 in
theorem c_X5_forWhat (l : Launch) (D : va_G) (cC cI cJ : ClassId) (a_x : Nat) (g_x_text : Nat) (a_mo : Nat) (g_x_spare : Nat) (a_no : Nat) (g_x_trial : Nat) (g_x_undoable : Nat) (g_x_kept : Nat) (g_x_seen : Nat) (g_x_unseen : Nat) (g_x_search : Nat) (a_mo_kinds : Nat) (a_mo_days : Nat) (a_mo_rideDays : Nat) (a_mo_helpKinds : Nat) (a_mo_nexts : Nat) (a_mo_helperKinds : Nat) (a_mo_prices : Nat) (a_mo_helpersOfKind : Nat) (a_mo_numbers : Nat) (x_letters : Int32) (mo_tasks : Int32) (mo_helpers : Int32) (mo_askedFirst : Int32) (mo_crumbsFirst : Int32) (mo_lastDay : Int32) (mo_kinds : (Nat → Int32)) (mo_days : (Nat → Int32)) (mo_rideDays : (Nat → Int32)) (mo_helpKinds : (Nat → Int32)) (mo_nexts : (Nat → Int32)) (mo_helperKinds : (Nat → Int32)) (mo_prices : (Nat → Int32)) (mo_helpersOfKind : (Nat → Int32)) (mo_numbers : (Nat → Int32)) (no_asked : Int32) (no_brought : Int32) (no_friends : Int32) (no_used : Int32) (no_crumbs : Int32) (no_day : Int32) (p0 : Int32) (N : Nat) (out : Int32) (hm : m_X5_forWhat N mo_tasks mo_nexts no_asked no_brought p0 = some out) : RdI l yX5_forWhat wsX5_forWhat rX5_forWhat D (tyK cC cI cJ) [.ref a_x, .int p0] (wd_19 cC cI cJ a_x g_x_text x_letters a_mo g_x_spare a_no g_x_trial g_x_undoable g_x_kept g_x_seen g_x_unseen g_x_search a_mo mo_tasks mo_helpers mo_askedFirst mo_crumbsFirst mo_lastDay a_mo_kinds a_mo_days a_mo_rideDays a_mo_helpKinds a_mo_nexts a_mo_helperKinds a_mo_prices a_mo_helpersOfKind a_mo_numbers a_mo_kinds mo_kinds a_mo_days mo_days a_mo_rideDays mo_rideDays a_mo_helpKinds mo_helpKinds a_mo_nexts mo_nexts a_mo_helperKinds mo_helperKinds a_mo_prices mo_prices a_mo_helpersOfKind mo_helpersOfKind a_mo_numbers mo_numbers a_no no_asked no_brought no_friends no_used no_crumbs no_day) out := by
  unfold m_X5_forWhat at hm
  refine enter (cc := cX5_forWhat) (maxL := 2) (ret := (some .int)) (lv := [(0, .ref a_x), (1, .int p0)]) (by decide) rfl (Nat.le_of_ble_eq_true rfl) rfl ?_
  intro p e s m args below meth c S hr hlk hK hP ls hl
  replace S : CallFix p m c cX5_forWhat 2 s args wsX5_forWhat RX5 := S
  have hx := S.1
  have hb := S.2.1
  refine lv_aload_n hx hb dX5_forWhat_0 rfl (lv_at hl 0 rfl) ?_
  refine f_get S hK hP in_X5_forWhat_X5 0 rfl rfl 2 (by decide) (List.mem_of_getElem? (i := 1) rfl) rfl rfl dX5_forWhat_1 ?_
  refine lv_iload_n hx hb dX5_forWhat_4 rfl (lv_at hl 1 rfl) ?_
  obtain ⟨r1, h2, hm⟩ := ob hm
  refine k_rVi S hK hP cal_X0_hasTask gX5_forWhat_X0_hasTask (c_X0_hasTask l D cC cI cJ a_mo a_mo_kinds a_mo_days a_mo_rideDays a_mo_helpKinds a_mo_nexts a_mo_helperKinds a_mo_prices a_mo_helpersOfKind a_mo_numbers mo_tasks mo_helpers mo_askedFirst mo_crumbsFirst mo_lastDay mo_kinds mo_days mo_rideDays mo_helpKinds mo_nexts mo_helperKinds mo_prices mo_helpersOfKind mo_numbers p0 r1 h2) ⟨⟨rfl, rfl⟩, Nat.le_of_ble_eq_true rfl, Nat.le_of_ble_eq_true rfl⟩ [1, 2, 3, 4, 5, 6, 7, 8, 9, 10] rfl 1 rfl rfl rfl hl.1 rfl (Nat.le_of_ble_eq_true rfl) dX5_forWhat_5 ⟨Nat.zero_le _, Nat.zero_le _⟩ ?_
  refine lv_if_ne (tgt := 13) hx hb dX5_forWhat_8 (by decide) (fun c3 => ?_) (fun c3 => ?_)
  · replace hm := ineg hm c3
    refine lv_aload_n hx hb dX5_forWhat_13 rfl (lv_at hl 0 rfl) ?_
    refine f_get S hK hP in_X5_forWhat_X5 0 rfl rfl 4 (by decide) (List.mem_of_getElem? (i := 2) rfl) rfl rfl dX5_forWhat_14 ?_
    refine f_get S hK hP in_X5_forWhat_X4 11 rfl rfl 1 (by decide) (List.mem_of_getElem? (i := 3) rfl) rfl rfl dX5_forWhat_17 ?_
    refine lv_iload_n hx hb dX5_forWhat_20 rfl (lv_at hl 1 rfl) ?_
    obtain ⟨r4, h5, hm⟩ := ob hm
    refine k_rSi S hK hP cal_X5_bit gX5_forWhat_X5_bit (c_X5_bit l D cC cI cJ p0 r4 h5) ⟨⟨rfl, rfl⟩, Nat.le_of_ble_eq_true rfl, Nat.le_of_ble_eq_true rfl⟩ [] rfl rfl hl.1 rfl (Nat.le_of_ble_eq_true rfl) dX5_forWhat_21 ⟨Nat.zero_le _, Nat.zero_le _⟩ ?_
    refine lv_iand hx hb dX5_forWhat_24 ?_
    refine lv_if_eq (tgt := 31) hx hb dX5_forWhat_25 (by decide) (fun c6 => ?_) (fun c6 => ?_)
    · replace hm := ipos hm c6
      refine lv_aload_n hx hb dX5_forWhat_31 rfl (lv_at hl 0 rfl) ?_
      refine f_get S hK hP in_X5_forWhat_X5 0 rfl rfl 4 (by decide) (List.mem_of_getElem? (i := 2) rfl) rfl rfl dX5_forWhat_32 ?_
      refine f_get S hK hP in_X5_forWhat_X4 11 rfl rfl 0 (by decide) (List.mem_of_getElem? (i := 4) rfl) rfl rfl dX5_forWhat_35 ?_
      refine lv_iload_n hx hb dX5_forWhat_38 rfl (lv_at hl 1 rfl) ?_
      obtain ⟨r7, h8, hm⟩ := ob hm
      refine k_rSi S hK hP cal_X5_bit gX5_forWhat_X5_bit (c_X5_bit l D cC cI cJ p0 r7 h8) ⟨⟨rfl, rfl⟩, Nat.le_of_ble_eq_true rfl, Nat.le_of_ble_eq_true rfl⟩ [] rfl rfl hl.1 rfl (Nat.le_of_ble_eq_true rfl) dX5_forWhat_39 ⟨Nat.zero_le _, Nat.zero_le _⟩ ?_
      refine lv_iand hx hb dX5_forWhat_42 ?_
      refine lv_if_eq (tgt := 51) hx hb dX5_forWhat_43 (by decide) (fun c9 => ?_) (fun c9 => ?_)
      · replace hm := ipos hm c9
        refine lv_aload_n hx hb dX5_forWhat_51 rfl (lv_at hl 0 rfl) ?_
        refine f_get S hK hP in_X5_forWhat_X5 0 rfl rfl 2 (by decide) (List.mem_of_getElem? (i := 1) rfl) rfl rfl dX5_forWhat_52 ?_
        refine lv_iload_n hx hb dX5_forWhat_55 rfl (lv_at hl 1 rfl) ?_
        obtain ⟨r10, h11, hm⟩ := ob hm
        refine k_rVi S hK hP cal_X0_tasksThatAsk gX5_forWhat_X0_tasksThatAsk (c_X0_tasksThatAsk l D cC cI cJ a_mo a_mo_kinds a_mo_days a_mo_rideDays a_mo_helpKinds a_mo_nexts a_mo_helperKinds a_mo_prices a_mo_helpersOfKind a_mo_numbers mo_tasks mo_helpers mo_askedFirst mo_crumbsFirst mo_lastDay mo_kinds mo_days mo_rideDays mo_helpKinds mo_nexts mo_helperKinds mo_prices mo_helpersOfKind mo_numbers p0 N r10 h11) ⟨⟨rfl, rfl⟩, Nat.le_of_ble_eq_true rfl, Nat.le_of_ble_eq_true rfl⟩ [1, 2, 3, 4, 5, 6, 7, 8, 9, 10] rfl 1 rfl rfl rfl hl.1 rfl (Nat.le_of_ble_eq_true rfl) dX5_forWhat_56 ⟨Nat.zero_le _, Nat.zero_le _⟩ ?_
        refine lv_aload_n hx hb dX5_forWhat_59 rfl (lv_at hl 0 rfl) ?_
        refine f_get S hK hP in_X5_forWhat_X5 0 rfl rfl 4 (by decide) (List.mem_of_getElem? (i := 2) rfl) rfl rfl dX5_forWhat_60 ?_
        refine lv_aload_n hx hb dX5_forWhat_63 rfl (lv_at hl 0 rfl) ?_
        refine f_get S hK hP in_X5_forWhat_X5 0 rfl rfl 2 (by decide) (List.mem_of_getElem? (i := 1) rfl) rfl rfl dX5_forWhat_64 ?_
        obtain ⟨r12, h13, hm⟩ := ob hm
        refine k_rVi S hK hP cal_X4_tasksToCome gX5_forWhat_X4_tasksToCome (c_X4_tasksToCome l D cC cI cJ a_no a_mo a_mo_kinds a_mo_days a_mo_rideDays a_mo_helpKinds a_mo_nexts a_mo_helperKinds a_mo_prices a_mo_helpersOfKind a_mo_numbers no_asked no_brought no_friends no_used no_crumbs no_day mo_tasks mo_helpers mo_askedFirst mo_crumbsFirst mo_lastDay mo_kinds mo_days mo_rideDays mo_helpKinds mo_nexts mo_helperKinds mo_prices mo_helpersOfKind mo_numbers N r12 h13) ⟨⟨rfl, rfl⟩, Nat.le_of_ble_eq_true rfl, Nat.le_of_ble_eq_true rfl⟩ [11, 1, 2, 3, 4, 5, 6, 7, 8, 9, 10] rfl 11 rfl rfl rfl hl.1 rfl (Nat.le_of_ble_eq_true rfl) dX5_forWhat_67 ⟨Nat.zero_le _, Nat.zero_le _⟩ ?_
        refine lv_iand hx hb dX5_forWhat_70 ?_
        exact e_RI S hr hlk (Option.some.inj hm) dX5_forWhat_71
      · replace hm := ineg hm c9
        refine lv_iload_n hx hb dX5_forWhat_46 rfl (lv_at hl 1 rfl) ?_
        obtain ⟨r14, h15, hm⟩ := ob hm
        refine k_rSi S hK hP cal_X5_bit gX5_forWhat_X5_bit (c_X5_bit l D cC cI cJ p0 r14 h15) ⟨⟨rfl, rfl⟩, Nat.le_of_ble_eq_true rfl, Nat.le_of_ble_eq_true rfl⟩ [] rfl rfl hl.1 rfl (Nat.le_of_ble_eq_true rfl) dX5_forWhat_47 ⟨Nat.zero_le _, Nat.zero_le _⟩ ?_
        exact e_RI S hr hlk (Option.some.inj hm) dX5_forWhat_50
    · replace hm := ineg hm c6
      refine lv_bipush (v := (-2)) hx hb dX5_forWhat_28 (by decide) ?_
      exact e_RI S hr hlk (Option.some.inj hm) dX5_forWhat_30
  · replace hm := ipos hm c3
    refine lv_iconst (v := (-1)) hx hb dX5_forWhat_11 (by decide) ?_
    exact e_RI S hr hlk (Option.some.inj hm) dX5_forWhat_12

abbrev rX5_forget : Room := { frames := 2, cells := 0, slots := 0, locals := 43 }
theorem cal_X5_forget : Cal yX5_forget wsX5_forget cX5_forget 2 (some .int) RX5 0 := ⟨⟨_, rfl⟩, rfl, by decide +kernel, by decide +kernel, by decide +kernel⟩
theorem in_X5_forget_X3 : ∀ w ∈ wsX30, w ∈ wsX5_forget := fun _ h => (List.mem_cons_of_mem _ (List.mem_append_right _ h))
theorem in_X5_forget_X5 : ∀ w ∈ wsX50, w ∈ wsX5_forget := fun _ h => (List.mem_cons_of_mem _ (List.mem_append_left _ (List.mem_append_right _ h)))
set_option maxHeartbeats 4000000 in
set_option maxRecDepth 100000 in
theorem c_X5_forget (l : Launch) (D : va_G) (cC cI cJ : ClassId) (a_x : Nat) (g_x_text : Nat) (g_x_months : Nat) (g_x_spare : Nat) (g_x_now : Nat) (g_x_trial : Nat) (g_x_undoable : Nat) (g_x_kept : Nat) (a_se : Nat) (g_x_unseen : Nat) (g_x_search : Nat) (a_se_left : Nat) (x_letters : Int32) (se_size : Int32) (se_lastPlace : Int32) (se_left : (Nat → Int32)) (N : Nat) (A : Nat → Prop) (hD : va_D A (wd_20 cC cI cJ a_x g_x_text x_letters g_x_months g_x_spare g_x_now g_x_trial g_x_undoable g_x_kept a_se g_x_unseen g_x_search a_se se_size se_lastPlace a_se_left a_se_left se_left)) (out : (Int32 × Int32 × Int32 × (Nat → Int32))) (hm : m_X5_forget N se_size se_left = some out) : WrI l yX5_forget wsX5_forget rX5_forget D (tyK cC cI cJ) [.ref a_x] A (wd_20 cC cI cJ a_x g_x_text x_letters g_x_months g_x_spare g_x_now g_x_trial g_x_undoable g_x_kept a_se g_x_unseen g_x_search a_se se_size se_lastPlace a_se_left a_se_left se_left) (Bw0 D (wd_20 cC cI cJ a_x g_x_text x_letters g_x_months g_x_spare g_x_now g_x_trial g_x_undoable g_x_kept a_se g_x_unseen g_x_search a_se out.2.1 out.2.2.1 a_se_left a_se_left out.2.2.2)) out.1 := by
  unfold m_X5_forget at hm
  refine enter (cc := cX5_forget) (maxL := 2) (ret := (some .int)) (lv := [(0, .ref a_x)]) (by decide) rfl (Nat.le_of_ble_eq_true rfl) rfl ?_
  intro p e s m args below meth c S hr hlk hK hP ls hl
  replace S : CallFix p m c cX5_forget 2 s args wsX5_forget RX5 := S
  have hx := S.1
  have hb := S.2.1
  have hw : Wd D A s.heap (wd_20 cC cI cJ a_x g_x_text x_letters g_x_months g_x_spare g_x_now g_x_trial g_x_undoable g_x_kept a_se g_x_unseen g_x_search a_se se_size se_lastPlace a_se_left a_se_left se_left) s.heap [] := ⟨hP, hD, va_S.rf⟩
  have hw0 := hw
  refine lv_aload_n hx hb dX5_forget_0 rfl (lv_at hl 0 rfl) ?_
  refine f_get S hK hw.1 in_X5_forget_X5 0 rfl rfl 8 (by decide) (List.mem_of_getElem? (i := 1) rfl) rfl rfl dX5_forget_1 ?_
  refine f_get S hK hw.1 in_X5_forget_X3 1 rfl rfl 0 (by decide) (List.mem_of_getElem? (i := 2) rfl) rfl rfl dX5_forget_4 ?_
  refine lv_istore_n (lv' := [(1, .int se_size), (0, .ref a_x)]) hx hb dX5_forget_7 rfl hl (by decide) rfl (fun ls hl => ?_)
  refine lv_aload_n hx hb dX5_forget_8 rfl (lv_at hl 1 rfl) ?_
  refine f_get S hK hw.1 in_X5_forget_X5 0 rfl rfl 8 (by decide) (List.mem_of_getElem? (i := 1) rfl) rfl rfl dX5_forget_9 ?_
  obtain ⟨r1, h2, hm⟩ := ob hm
  refine k_wVv S hK hw cal_X3_clear gX5_forget_X3_clear (c_X3_clear l D cC cI cJ a_se a_se_left se_size se_lastPlace se_left N (aw _) (hw.own [1, 2] (by decide) rfl) r1 h2) ⟨⟨rfl, rfl⟩, Nat.le_of_ble_eq_true rfl, Nat.le_of_ble_eq_true rfl⟩ [1, 2] rfl 1 rfl rfl rfl hl.1 rfl (Nat.le_of_ble_eq_true rfl) dX5_forget_12 ⟨Nat.zero_le _, Nat.zero_le _⟩ (fun H locs hJ hB => ?_)
  have hw := hJ _ hB rfl
  replace hw : Wd D A _ (wd_20 cC cI cJ a_x g_x_text x_letters g_x_months g_x_spare g_x_now g_x_trial g_x_undoable g_x_kept a_se g_x_unseen g_x_search a_se r1.1 r1.2.1 a_se_left a_se_left r1.2.2) H locs := hw
  refine lv_iload_n hx hb dX5_forget_15 rfl (lv_at hl 0 rfl) ?_
  obtain rfl := Option.some.inj hm
  exact e_WI S hr hlk hw rfl hw.1 dX5_forget_16

abbrev rX5_grooms : Room := { frames := 16, cells := 0, slots := 0, locals := 427 }
theorem cal_X5_grooms : Cal yX5_grooms wsX5_grooms cX5_grooms 7 (some .int) RX5 2 := ⟨⟨_, rfl⟩, rfl, by decide +kernel, by decide +kernel, by decide +kernel⟩
theorem in_X5_grooms_X5 : ∀ w ∈ wsX50, w ∈ wsX5_grooms := fun _ h => (List.mem_cons_of_mem _ (List.mem_append_left _ (List.mem_append_left _ (List.mem_append_left _ (List.mem_append_left _ (List.mem_append_right _ h))))))
set_option maxHeartbeats 4000000 in
set_option maxRecDepth 100000 in
theorem c_X5_grooms (l : Launch) (D : va_G) (cC cI cJ : ClassId) (a_x : Nat) (g_x_text : Nat) (a_mo : Nat) (g_x_spare : Nat) (a_no : Nat) (a_tr : Nat) (g_x_undoable : Nat) (g_x_kept : Nat) (g_x_seen : Nat) (a_us : Nat) (a_sr : Nat) (a_mo_kinds : Nat) (a_mo_days : Nat) (a_mo_rideDays : Nat) (a_mo_helpKinds : Nat) (a_mo_nexts : Nat) (a_mo_helperKinds : Nat) (a_mo_prices : Nat) (a_mo_helpersOfKind : Nat) (a_mo_numbers : Nat) (a_us_left : Nat) (a_sr_known : Nat) (a_ro : Nat) (g_sr_months : Nat) (g_sr_heeded : Nat) (x_letters : Int32) (mo_tasks : Int32) (mo_helpers : Int32) (mo_askedFirst : Int32) (mo_crumbsFirst : Int32) (mo_lastDay : Int32) (mo_kinds : (Nat → Int32)) (mo_days : (Nat → Int32)) (mo_rideDays : (Nat → Int32)) (mo_helpKinds : (Nat → Int32)) (mo_nexts : (Nat → Int32)) (mo_helperKinds : (Nat → Int32)) (mo_prices : (Nat → Int32)) (mo_helpersOfKind : (Nat → Int32)) (mo_numbers : (Nat → Int32)) (no_asked : Int32) (no_brought : Int32) (no_friends : Int32) (no_used : Int32) (no_crumbs : Int32) (no_day : Int32) (tr_asked : Int32) (tr_brought : Int32) (tr_friends : Int32) (tr_used : Int32) (tr_crumbs : Int32) (tr_day : Int32) (us_size : Int32) (us_lastPlace : Int32) (us_left : (Nat → Int32)) (sr_number : Int64) (sr_enough : Int64) (sr_hopeless : Int32) (sr_known : (Nat → Int64)) (ro_asked : Int32) (ro_brought : Int32) (ro_friends : Int32) (ro_used : Int32) (ro_crumbs : Int32) (ro_day : Int32) (p0 : Int32) (p1 : Int32) (N : Nat) (A : Nat → Prop) (hD : va_D A (wd_15 cC cI cJ a_x g_x_text x_letters a_mo g_x_spare a_no a_tr g_x_undoable g_x_kept g_x_seen a_us a_sr a_mo mo_tasks mo_helpers mo_askedFirst mo_crumbsFirst mo_lastDay a_mo_kinds a_mo_days a_mo_rideDays a_mo_helpKinds a_mo_nexts a_mo_helperKinds a_mo_prices a_mo_helpersOfKind a_mo_numbers a_mo_kinds mo_kinds a_mo_days mo_days a_mo_rideDays mo_rideDays a_mo_helpKinds mo_helpKinds a_mo_nexts mo_nexts a_mo_helperKinds mo_helperKinds a_mo_prices mo_prices a_mo_helpersOfKind mo_helpersOfKind a_mo_numbers mo_numbers a_no no_asked no_brought no_friends no_used no_crumbs no_day a_tr tr_asked tr_brought tr_friends tr_used tr_crumbs tr_day a_us us_size us_lastPlace a_us_left a_us_left us_left a_sr a_sr_known a_ro a_us sr_number sr_enough sr_hopeless g_sr_months g_sr_heeded a_sr_known sr_known a_ro ro_asked ro_brought ro_friends ro_used ro_crumbs ro_day)) (out : (Int32 × Int32 × Int32 × Int32 × Int32 × Int32 × Int32 × Int64 × Int64 × Int32 × (Nat → Int64) × Int32 × Int32 × Int32 × Int32 × Int32 × Int32)) (hm : m_X5_grooms N mo_tasks mo_lastDay mo_kinds mo_rideDays mo_helpKinds mo_nexts mo_helpersOfKind no_asked no_brought no_friends no_used no_crumbs no_day tr_asked tr_brought tr_friends tr_used tr_crumbs tr_day us_lastPlace us_left sr_number sr_enough sr_hopeless sr_known ro_asked ro_brought ro_friends ro_used ro_crumbs ro_day p0 p1 = some out) : WrI l yX5_grooms wsX5_grooms rX5_grooms D (tyK cC cI cJ) [.ref a_x, .int p0, .int p1] A (wd_15 cC cI cJ a_x g_x_text x_letters a_mo g_x_spare a_no a_tr g_x_undoable g_x_kept g_x_seen a_us a_sr a_mo mo_tasks mo_helpers mo_askedFirst mo_crumbsFirst mo_lastDay a_mo_kinds a_mo_days a_mo_rideDays a_mo_helpKinds a_mo_nexts a_mo_helperKinds a_mo_prices a_mo_helpersOfKind a_mo_numbers a_mo_kinds mo_kinds a_mo_days mo_days a_mo_rideDays mo_rideDays a_mo_helpKinds mo_helpKinds a_mo_nexts mo_nexts a_mo_helperKinds mo_helperKinds a_mo_prices mo_prices a_mo_helpersOfKind mo_helpersOfKind a_mo_numbers mo_numbers a_no no_asked no_brought no_friends no_used no_crumbs no_day a_tr tr_asked tr_brought tr_friends tr_used tr_crumbs tr_day a_us us_size us_lastPlace a_us_left a_us_left us_left a_sr a_sr_known a_ro a_us sr_number sr_enough sr_hopeless g_sr_months g_sr_heeded a_sr_known sr_known a_ro ro_asked ro_brought ro_friends ro_used ro_crumbs ro_day) (Bw2 D (fun z_15_6 z_15_7 => (wd_15 cC cI cJ a_x g_x_text x_letters a_mo g_x_spare a_no a_tr g_x_undoable g_x_kept g_x_seen a_us a_sr a_mo mo_tasks mo_helpers mo_askedFirst mo_crumbsFirst mo_lastDay a_mo_kinds a_mo_days a_mo_rideDays a_mo_helpKinds a_mo_nexts a_mo_helperKinds a_mo_prices a_mo_helpersOfKind a_mo_numbers a_mo_kinds mo_kinds a_mo_days mo_days a_mo_rideDays mo_rideDays a_mo_helpKinds mo_helpKinds a_mo_nexts mo_nexts a_mo_helperKinds mo_helperKinds a_mo_prices mo_prices a_mo_helpersOfKind mo_helpersOfKind a_mo_numbers mo_numbers a_no no_asked no_brought no_friends no_used no_crumbs no_day a_tr out.2.1 out.2.2.1 out.2.2.2.1 out.2.2.2.2.1 out.2.2.2.2.2.1 out.2.2.2.2.2.2.1 a_us us_size us_lastPlace a_us_left a_us_left us_left a_sr a_sr_known a_ro a_us out.2.2.2.2.2.2.2.1 out.2.2.2.2.2.2.2.2.1 out.2.2.2.2.2.2.2.2.2.1 z_15_6 z_15_7 a_sr_known out.2.2.2.2.2.2.2.2.2.2.1 a_ro out.2.2.2.2.2.2.2.2.2.2.2.1 out.2.2.2.2.2.2.2.2.2.2.2.2.1 out.2.2.2.2.2.2.2.2.2.2.2.2.2.1 out.2.2.2.2.2.2.2.2.2.2.2.2.2.2.1 out.2.2.2.2.2.2.2.2.2.2.2.2.2.2.2.1 out.2.2.2.2.2.2.2.2.2.2.2.2.2.2.2.2))) out.1 := by
  unfold m_X5_grooms at hm
  refine enter (cc := cX5_grooms) (maxL := 7) (ret := (some .int)) (lv := [(0, .ref a_x), (1, .int p0), (2, .int p1)]) (by decide) rfl (Nat.le_of_ble_eq_true rfl) rfl ?_
  intro p e s m args below meth c S hr hlk hK hP ls hl
  replace S : CallFix p m c cX5_grooms 7 s args wsX5_grooms RX5 := S
  have hx := S.1
  have hb := S.2.1
  have hw : Wd D A s.heap (wd_15 cC cI cJ a_x g_x_text x_letters a_mo g_x_spare a_no a_tr g_x_undoable g_x_kept g_x_seen a_us a_sr a_mo mo_tasks mo_helpers mo_askedFirst mo_crumbsFirst mo_lastDay a_mo_kinds a_mo_days a_mo_rideDays a_mo_helpKinds a_mo_nexts a_mo_helperKinds a_mo_prices a_mo_helpersOfKind a_mo_numbers a_mo_kinds mo_kinds a_mo_days mo_days a_mo_rideDays mo_rideDays a_mo_helpKinds mo_helpKinds a_mo_nexts mo_nexts a_mo_helperKinds mo_helperKinds a_mo_prices mo_prices a_mo_helpersOfKind mo_helpersOfKind a_mo_numbers mo_numbers a_no no_asked no_brought no_friends no_used no_crumbs no_day a_tr tr_asked tr_brought tr_friends tr_used tr_crumbs tr_day a_us us_size us_lastPlace a_us_left a_us_left us_left a_sr a_sr_known a_ro a_us sr_number sr_enough sr_hopeless g_sr_months g_sr_heeded a_sr_known sr_known a_ro ro_asked ro_brought ro_friends ro_used ro_crumbs ro_day) s.heap [] := ⟨hP, hD, va_S.rf⟩
  have hw0 := hw
  refine lv_iload_n hx hb dX5_grooms_0 rfl (lv_at hl 1 rfl) ?_
  refine lv_if_lt (tgt := 19) hx hb dX5_grooms_1 (by decide) (fun c1 => ?_) (fun c1 => ?_)
  · replace hm := ipos hm c1
    refine lv_iconst (v := (-1)) hx hb dX5_grooms_19 (by decide) ?_
    obtain rfl := Option.some.inj hm
    exact e_WI S hr hlk hw rfl ⟨g_sr_months, g_sr_heeded, hw.1⟩ dX5_grooms_20
  · replace hm := ineg hm c1
    refine lv_iload_n hx hb dX5_grooms_4 rfl (lv_at hl 1 rfl) ?_
    refine lv_bipush (v := 10) hx hb dX5_grooms_5 (by decide) ?_
    refine lv_icmp_gt (tgt := 19) hx hb dX5_grooms_7 (by decide) (fun c2 => ?_) (fun c2 => ?_)
    · replace hm := ipos hm c2
      refine lv_iconst (v := (-1)) hx hb dX5_grooms_19 (by decide) ?_
      obtain rfl := Option.some.inj hm
      exact e_WI S hr hlk hw rfl ⟨g_sr_months, g_sr_heeded, hw.1⟩ dX5_grooms_20
    · replace hm := ineg hm c2
      refine lv_iload_n hx hb dX5_grooms_10 rfl (lv_at hl 2 rfl) ?_
      refine lv_if_lt (tgt := 19) hx hb dX5_grooms_11 (by decide) (fun c3 => ?_) (fun c3 => ?_)
      · replace hm := ipos hm c3
        refine lv_iconst (v := (-1)) hx hb dX5_grooms_19 (by decide) ?_
        obtain rfl := Option.some.inj hm
        exact e_WI S hr hlk hw rfl ⟨g_sr_months, g_sr_heeded, hw.1⟩ dX5_grooms_20
      · replace hm := ineg hm c3
        refine lv_iload_n hx hb dX5_grooms_14 rfl (lv_at hl 2 rfl) ?_
        refine lv_iconst (v := 1) hx hb dX5_grooms_15 (by decide) ?_
        refine lv_icmp_le (tgt := 21) hx hb dX5_grooms_16 (by decide) (fun c4 => ?_) (fun c4 => ?_)
        · replace hm := ipos hm c4
          refine lv_aload_n hx hb dX5_grooms_21 rfl (lv_at hl 0 rfl) ?_
          refine f_get S hK hw.1 in_X5_grooms_X5 0 rfl rfl 4 (by decide) (List.mem_of_getElem? (i := 1) rfl) rfl rfl dX5_grooms_22 ?_
          refine lv_aload_n hx hb dX5_grooms_25 rfl (lv_at hl 0 rfl) ?_
          refine f_get S hK hw.1 in_X5_grooms_X5 0 rfl rfl 2 (by decide) (List.mem_of_getElem? (i := 2) rfl) rfl rfl dX5_grooms_26 ?_
          obtain ⟨r5, h6, hm⟩ := ob hm
          refine k_rVi S hK hw.1 cal_X4_tasksToSuggest gX5_grooms_X4_tasksToSuggest (c_X4_tasksToSuggest l D cC cI cJ a_no a_mo a_mo_kinds a_mo_days a_mo_rideDays a_mo_helpKinds a_mo_nexts a_mo_helperKinds a_mo_prices a_mo_helpersOfKind a_mo_numbers no_asked no_brought no_friends no_used no_crumbs no_day mo_tasks mo_helpers mo_askedFirst mo_crumbsFirst mo_lastDay mo_kinds mo_days mo_rideDays mo_helpKinds mo_nexts mo_helperKinds mo_prices mo_helpersOfKind mo_numbers r5 h6) ⟨⟨rfl, rfl⟩, Nat.le_of_ble_eq_true rfl, Nat.le_of_ble_eq_true rfl⟩ [11, 1, 2, 3, 4, 5, 6, 7, 8, 9, 10] rfl 11 rfl rfl rfl hl.1 rfl (Nat.le_of_ble_eq_true rfl) dX5_grooms_29 ⟨Nat.zero_le _, Nat.zero_le _⟩ ?_
          refine lv_istore_n (lv' := [(3, .int r5), (0, .ref a_x), (1, .int p0), (2, .int p1)]) hx hb dX5_grooms_32 rfl hl (by decide) rfl (fun ls hl => ?_)
          refine lv_aload_n hx hb dX5_grooms_33 rfl (lv_at hl 1 rfl) ?_
          refine lv_iload_n hx hb dX5_grooms_34 rfl (lv_at hl 0 rfl) ?_
          refine lv_iload_n hx hb dX5_grooms_35 rfl (lv_at hl 2 rfl) ?_
          obtain ⟨r7, h8, hm⟩ := ob hm
          refine k_wVi S hK hw cal_X5_chancesOfTen gX5_grooms_X5_chancesOfTen (c_X5_chancesOfTen l D cC cI cJ a_x g_x_text a_mo g_x_spare a_no a_tr g_x_undoable g_x_kept g_x_seen a_us a_sr a_mo_kinds a_mo_days a_mo_rideDays a_mo_helpKinds a_mo_nexts a_mo_helperKinds a_mo_prices a_mo_helpersOfKind a_mo_numbers a_us_left a_sr_known a_ro g_sr_months g_sr_heeded x_letters mo_tasks mo_helpers mo_askedFirst mo_crumbsFirst mo_lastDay mo_kinds mo_days mo_rideDays mo_helpKinds mo_nexts mo_helperKinds mo_prices mo_helpersOfKind mo_numbers no_asked no_brought no_friends no_used no_crumbs no_day tr_asked tr_brought tr_friends tr_used tr_crumbs tr_day us_size us_lastPlace us_left sr_number sr_enough sr_hopeless sr_known ro_asked ro_brought ro_friends ro_used ro_crumbs ro_day r5 p0 N (aw _) (hw.own [0, 1, 2, 3, 4, 5, 6, 7, 8, 9, 10, 11, 12, 13, 14, 15, 16, 17] (by decide) rfl) r7 h8) ⟨⟨rfl, rfl⟩, Nat.le_of_ble_eq_true rfl, Nat.le_of_ble_eq_true rfl⟩ [0, 1, 2, 3, 4, 5, 6, 7, 8, 9, 10, 11, 12, 13, 14, 15, 16, 17] rfl 0 rfl rfl rfl hl.1 rfl (Nat.le_of_ble_eq_true rfl) dX5_grooms_36 ⟨Nat.zero_le _, Nat.zero_le _⟩ (fun H locs hJ hB => ?_)
          obtain ⟨z9, z10, hB⟩ := hB
          have hw := hJ _ hB rfl
          replace hw : Wd D A _ (wd_15 cC cI cJ a_x g_x_text x_letters a_mo g_x_spare a_no a_tr g_x_undoable g_x_kept g_x_seen a_us a_sr a_mo mo_tasks mo_helpers mo_askedFirst mo_crumbsFirst mo_lastDay a_mo_kinds a_mo_days a_mo_rideDays a_mo_helpKinds a_mo_nexts a_mo_helperKinds a_mo_prices a_mo_helpersOfKind a_mo_numbers a_mo_kinds mo_kinds a_mo_days mo_days a_mo_rideDays mo_rideDays a_mo_helpKinds mo_helpKinds a_mo_nexts mo_nexts a_mo_helperKinds mo_helperKinds a_mo_prices mo_prices a_mo_helpersOfKind mo_helpersOfKind a_mo_numbers mo_numbers a_no no_asked no_brought no_friends no_used no_crumbs no_day a_tr r7.2.1 r7.2.2.1 r7.2.2.2.1 r7.2.2.2.2.1 r7.2.2.2.2.2.1 r7.2.2.2.2.2.2.1 a_us us_size us_lastPlace a_us_left a_us_left us_left a_sr a_sr_known a_ro a_us r7.2.2.2.2.2.2.2.1 r7.2.2.2.2.2.2.2.2.1 r7.2.2.2.2.2.2.2.2.2.1 z9 z10 a_sr_known r7.2.2.2.2.2.2.2.2.2.2.1 a_ro r7.2.2.2.2.2.2.2.2.2.2.2.1 r7.2.2.2.2.2.2.2.2.2.2.2.2.1 r7.2.2.2.2.2.2.2.2.2.2.2.2.2.1 r7.2.2.2.2.2.2.2.2.2.2.2.2.2.2.1 r7.2.2.2.2.2.2.2.2.2.2.2.2.2.2.2.1 r7.2.2.2.2.2.2.2.2.2.2.2.2.2.2.2.2) H locs := hw
          refine lv_istore (lv' := [(4, .int r7.1), (3, .int r5), (0, .ref a_x), (1, .int p0), (2, .int p1)]) hx hb dX5_grooms_39 hl (by decide) rfl (fun ls hl => ?_)
          refine lv_bipush (v := 10) hx hb dX5_grooms_41 (by decide) ?_
          refine lv_iload_n hx hb dX5_grooms_43 rfl (lv_at hl 1 rfl) ?_
          obtain ⟨r11, h12, hm⟩ := ob hm
          refine k_rSi S hK hw.1 cal_J6_bitCount_0f7a4 gX5_grooms_J6_bitCount_0f7a4 (c_J6_bitCount_0f7a4 l D cC cI cJ r5 r11 h12) ⟨⟨rfl, rfl⟩, Nat.le_of_ble_eq_true rfl, Nat.le_of_ble_eq_true rfl⟩ [] rfl rfl hl.1 rfl (Nat.le_of_ble_eq_true rfl) dX5_grooms_44 ⟨Nat.zero_le _, Nat.zero_le _⟩ ?_
          obtain ⟨r13, h14, hm⟩ := ob hm
          refine k_rSi S hK hw.1 cal_X5_power gX5_grooms_X5_power (c_X5_power l D cC cI cJ (10 : Int32) r11 N r13 h14) ⟨⟨rfl, rfl⟩, Nat.le_of_ble_eq_true rfl, Nat.le_of_ble_eq_true rfl⟩ [] rfl rfl hl.1 rfl (Nat.le_of_ble_eq_true rfl) dX5_grooms_47 ⟨Nat.zero_le _, Nat.zero_le _⟩ ?_
          refine lv_istore (lv' := [(5, .int r13), (4, .int r7.1), (3, .int r5), (0, .ref a_x), (1, .int p0), (2, .int p1)]) hx hb dX5_grooms_50 hl (by decide) rfl (fun ls hl => ?_)
          refine lv_iload hx hb dX5_grooms_52 (lv_at hl 1 rfl) ?_
          refine lv_iload hx hb dX5_grooms_54 (lv_at hl 0 rfl) ?_
          obtain ⟨r15, h16, hm⟩ := ob hm
          refine k_rSi S hK hw.1 cal_X5_commonDivisor gX5_grooms_X5_commonDivisor (c_X5_commonDivisor l D cC cI cJ r7.1 r13 N r15 h16) ⟨⟨rfl, rfl⟩, Nat.le_of_ble_eq_true rfl, Nat.le_of_ble_eq_true rfl⟩ [] rfl rfl hl.1 rfl (Nat.le_of_ble_eq_true rfl) dX5_grooms_56 ⟨Nat.zero_le _, Nat.zero_le _⟩ ?_
          refine lv_istore (lv' := [(6, .int r15), (5, .int r13), (4, .int r7.1), (3, .int r5), (0, .ref a_x), (1, .int p0), (2, .int p1)]) hx hb dX5_grooms_59 hl (by decide) rfl (fun ls hl => ?_)
          refine lv_iload hx hb dX5_grooms_61 (lv_at hl 0 rfl) ?_
          refine lv_iconst (v := 1) hx hb dX5_grooms_63 (by decide) ?_
          refine lv_icmp_ge (tgt := 69) hx hb dX5_grooms_64 (by decide) (fun c17 => ?_) (fun c17 => ?_)
          · replace hm := ipos hm c17
            refine lv_iload_n hx hb dX5_grooms_69 rfl (lv_at hl 6 rfl) ?_
            refine lv_if_ne (tgt := 81) hx hb dX5_grooms_70 (by decide) (fun c18 => ?_) (fun c18 => ?_)
            · replace hm := ineg hm c18
              refine lv_iload hx hb dX5_grooms_81 (lv_at hl 1 rfl) ?_
              refine lv_iload hx hb dX5_grooms_83 (lv_at hl 0 rfl) ?_
              obtain ⟨g19, hm⟩ := gdo hm
              refine lv_idiv hx hb dX5_grooms_85 g19 ?_
              obtain rfl := Option.some.inj hm
              exact e_WI S hr hlk hw rfl ⟨z9, z10, hw.1⟩ dX5_grooms_86
            · replace hm := ipos hm c18
              refine lv_iload hx hb dX5_grooms_73 (lv_at hl 2 rfl) ?_
              refine lv_iload hx hb dX5_grooms_75 (lv_at hl 0 rfl) ?_
              obtain ⟨g20, hm⟩ := gdo hm
              refine lv_idiv hx hb dX5_grooms_77 g20 ?_
              refine lv_goto (tgt := 86) hx hb dX5_grooms_78 (by decide) ?_
              obtain rfl := Option.some.inj hm
              exact e_WI S hr hlk hw rfl ⟨z9, z10, hw.1⟩ dX5_grooms_86
          · replace hm := ineg hm c17
            refine lv_iload_n hx hb dX5_grooms_67 rfl (lv_at hl 6 rfl) ?_
            obtain rfl := Option.some.inj hm
            exact e_WI S hr hlk hw rfl ⟨z9, z10, hw.1⟩ dX5_grooms_68
        · replace hm := ineg hm c4
          refine lv_iconst (v := (-1)) hx hb dX5_grooms_19 (by decide) ?_
          obtain rfl := Option.some.inj hm
          exact e_WI S hr hlk hw rfl ⟨g_sr_months, g_sr_heeded, hw.1⟩ dX5_grooms_20

abbrev rX5_handUp : Room := { frames := 2, cells := 0, slots := 0, locals := 43 }
theorem cal_X5_handUp : Cal yX5_handUp wsX5_handUp cX5_handUp 4 (some .int) RX5 1 := ⟨⟨_, rfl⟩, rfl, by decide +kernel, by decide +kernel, by decide +kernel⟩
theorem in_X5_handUp_X4 : ∀ w ∈ wsX40, w ∈ wsX5_handUp := fun _ h => (List.mem_cons_of_mem _ (List.mem_append_left _ (List.mem_append_left _ (List.mem_append_right _ h))))
theorem in_X5_handUp_X5 : ∀ w ∈ wsX50, w ∈ wsX5_handUp := fun _ h => (List.mem_cons_of_mem _ (List.mem_append_left _ (List.mem_append_left _ (List.mem_append_left _ (List.mem_append_right _ h)))))
set_option maxHeartbeats 4000000 in
set_option maxRecDepth 100000 in
theorem c_X5_handUp (l : Launch) (D : va_G) (cC cI cJ : ClassId) (a_x : Nat) (g_x_text : Nat) (a_mo : Nat) (g_x_spare : Nat) (a_no : Nat) (g_x_trial : Nat) (a_un : Nat) (g_x_kept : Nat) (g_x_seen : Nat) (g_x_unseen : Nat) (g_x_search : Nat) (a_mo_kinds : Nat) (a_mo_days : Nat) (a_mo_rideDays : Nat) (a_mo_helpKinds : Nat) (a_mo_nexts : Nat) (a_mo_helperKinds : Nat) (a_mo_prices : Nat) (a_mo_helpersOfKind : Nat) (a_mo_numbers : Nat) (a_un_held : Nat) (x_letters : Int32) (mo_tasks : Int32) (mo_helpers : Int32) (mo_askedFirst : Int32) (mo_crumbsFirst : Int32) (mo_lastDay : Int32) (mo_kinds : (Nat → Int32)) (mo_days : (Nat → Int32)) (mo_rideDays : (Nat → Int32)) (mo_helpKinds : (Nat → Int32)) (mo_nexts : (Nat → Int32)) (mo_helperKinds : (Nat → Int32)) (mo_prices : (Nat → Int32)) (mo_helpersOfKind : (Nat → Int32)) (mo_numbers : (Nat → Int32)) (no_asked : Int32) (no_brought : Int32) (no_friends : Int32) (no_used : Int32) (no_crumbs : Int32) (no_day : Int32) (un_size : Int32) (un_held : (Nat → Int64)) (p0 : Int32) (N : Nat) (A : Nat → Prop) (hD : va_D A (wd_14 cC cI cJ a_x g_x_text x_letters a_mo g_x_spare a_no g_x_trial a_un g_x_kept g_x_seen g_x_unseen g_x_search a_mo mo_tasks mo_helpers mo_askedFirst mo_crumbsFirst mo_lastDay a_mo_kinds a_mo_days a_mo_rideDays a_mo_helpKinds a_mo_nexts a_mo_helperKinds a_mo_prices a_mo_helpersOfKind a_mo_numbers a_mo_kinds mo_kinds a_mo_days mo_days a_mo_rideDays mo_rideDays a_mo_helpKinds mo_helpKinds a_mo_nexts mo_nexts a_mo_helperKinds mo_helperKinds a_mo_prices mo_prices a_mo_helpersOfKind mo_helpersOfKind a_mo_numbers mo_numbers a_no no_asked no_brought no_friends no_used no_crumbs no_day a_un un_size a_un_held a_un_held un_held)) (out : (Int32 × Int32 × Int32 × Int32 × (Nat → Int64))) (hm : m_X5_handUp N mo_tasks mo_lastDay mo_days no_asked no_brought no_friends no_used no_crumbs no_day un_size un_held p0 = some out) : WrI l yX5_handUp wsX5_handUp rX5_handUp D (tyK cC cI cJ) [.ref a_x, .int p0] A (wd_14 cC cI cJ a_x g_x_text x_letters a_mo g_x_spare a_no g_x_trial a_un g_x_kept g_x_seen g_x_unseen g_x_search a_mo mo_tasks mo_helpers mo_askedFirst mo_crumbsFirst mo_lastDay a_mo_kinds a_mo_days a_mo_rideDays a_mo_helpKinds a_mo_nexts a_mo_helperKinds a_mo_prices a_mo_helpersOfKind a_mo_numbers a_mo_kinds mo_kinds a_mo_days mo_days a_mo_rideDays mo_rideDays a_mo_helpKinds mo_helpKinds a_mo_nexts mo_nexts a_mo_helperKinds mo_helperKinds a_mo_prices mo_prices a_mo_helpersOfKind mo_helpersOfKind a_mo_numbers mo_numbers a_no no_asked no_brought no_friends no_used no_crumbs no_day a_un un_size a_un_held a_un_held un_held) (Bw0 D (wd_14 cC cI cJ a_x g_x_text x_letters a_mo g_x_spare a_no g_x_trial a_un g_x_kept g_x_seen g_x_unseen g_x_search a_mo mo_tasks mo_helpers mo_askedFirst mo_crumbsFirst mo_lastDay a_mo_kinds a_mo_days a_mo_rideDays a_mo_helpKinds a_mo_nexts a_mo_helperKinds a_mo_prices a_mo_helpersOfKind a_mo_numbers a_mo_kinds mo_kinds a_mo_days mo_days a_mo_rideDays mo_rideDays a_mo_helpKinds mo_helpKinds a_mo_nexts mo_nexts a_mo_helperKinds mo_helperKinds a_mo_prices mo_prices a_mo_helpersOfKind mo_helpersOfKind a_mo_numbers mo_numbers a_no no_asked out.2.1 no_friends no_used no_crumbs out.2.2.1 a_un out.2.2.2.1 a_un_held a_un_held out.2.2.2.2)) out.1 := by
  unfold m_X5_handUp at hm
  refine enter (cc := cX5_handUp) (maxL := 4) (ret := (some .int)) (lv := [(0, .ref a_x), (1, .int p0)]) (by decide) rfl (Nat.le_of_ble_eq_true rfl) rfl ?_
  intro p e s m args below meth c S hr hlk hK hP ls hl
  replace S : CallFix p m c cX5_handUp 4 s args wsX5_handUp RX5 := S
  have hx := S.1
  have hb := S.2.1
  have hw : Wd D A s.heap (wd_14 cC cI cJ a_x g_x_text x_letters a_mo g_x_spare a_no g_x_trial a_un g_x_kept g_x_seen g_x_unseen g_x_search a_mo mo_tasks mo_helpers mo_askedFirst mo_crumbsFirst mo_lastDay a_mo_kinds a_mo_days a_mo_rideDays a_mo_helpKinds a_mo_nexts a_mo_helperKinds a_mo_prices a_mo_helpersOfKind a_mo_numbers a_mo_kinds mo_kinds a_mo_days mo_days a_mo_rideDays mo_rideDays a_mo_helpKinds mo_helpKinds a_mo_nexts mo_nexts a_mo_helperKinds mo_helperKinds a_mo_prices mo_prices a_mo_helpersOfKind mo_helpersOfKind a_mo_numbers mo_numbers a_no no_asked no_brought no_friends no_used no_crumbs no_day a_un un_size a_un_held a_un_held un_held) s.heap [] := ⟨hP, hD, va_S.rf⟩
  have hw0 := hw
  refine lv_aload_n hx hb dX5_handUp_0 rfl (lv_at hl 0 rfl) ?_
  refine f_get S hK hw.1 in_X5_handUp_X5 0 rfl rfl 2 (by decide) (List.mem_of_getElem? (i := 1) rfl) rfl rfl dX5_handUp_1 ?_
  refine lv_iload_n hx hb dX5_handUp_4 rfl (lv_at hl 1 rfl) ?_
  obtain ⟨r1, h2, hm⟩ := ob hm
  refine k_rVi S hK hw.1 cal_X0_hasTask gX5_handUp_X0_hasTask (c_X0_hasTask l D cC cI cJ a_mo a_mo_kinds a_mo_days a_mo_rideDays a_mo_helpKinds a_mo_nexts a_mo_helperKinds a_mo_prices a_mo_helpersOfKind a_mo_numbers mo_tasks mo_helpers mo_askedFirst mo_crumbsFirst mo_lastDay mo_kinds mo_days mo_rideDays mo_helpKinds mo_nexts mo_helperKinds mo_prices mo_helpersOfKind mo_numbers p0 r1 h2) ⟨⟨rfl, rfl⟩, Nat.le_of_ble_eq_true rfl, Nat.le_of_ble_eq_true rfl⟩ [1, 2, 3, 4, 5, 6, 7, 8, 9, 10] rfl 1 rfl rfl rfl hl.1 rfl (Nat.le_of_ble_eq_true rfl) dX5_handUp_5 ⟨Nat.zero_le _, Nat.zero_le _⟩ ?_
  refine lv_if_ne (tgt := 13) hx hb dX5_handUp_8 (by decide) (fun c3 => ?_) (fun c3 => ?_)
  · replace hm := ineg hm c3
    refine lv_aload_n hx hb dX5_handUp_13 rfl (lv_at hl 0 rfl) ?_
    refine f_get S hK hw.1 in_X5_handUp_X5 0 rfl rfl 4 (by decide) (List.mem_of_getElem? (i := 2) rfl) rfl rfl dX5_handUp_14 ?_
    obtain ⟨r4, h5, hm⟩ := ob hm
    refine k_rVl S hK hw.1 cal_X4_packed gX5_handUp_X4_packed (c_X4_packed l D cC cI cJ a_no no_asked no_brought no_friends no_used no_crumbs no_day r4 h5) ⟨⟨rfl, rfl⟩, Nat.le_of_ble_eq_true rfl, Nat.le_of_ble_eq_true rfl⟩ [11] rfl 11 rfl rfl rfl hl.1 rfl (Nat.le_of_ble_eq_true rfl) dX5_handUp_17 ⟨Nat.zero_le _, Nat.zero_le _⟩ ?_
    refine lv_lstore_n (lv' := [(2, .long r4), (0, .ref a_x), (1, .int p0)]) hx hb dX5_handUp_20 rfl hl (by decide) rfl (fun ls hl => ?_)
    refine lv_aload_n hx hb dX5_handUp_21 rfl (lv_at hl 1 rfl) ?_
    refine f_get S hK hw.1 in_X5_handUp_X5 0 rfl rfl 4 (by decide) (List.mem_of_getElem? (i := 2) rfl) rfl rfl dX5_handUp_22 ?_
    refine lv_aload_n hx hb dX5_handUp_25 rfl (lv_at hl 1 rfl) ?_
    refine f_get S hK hw.1 in_X5_handUp_X5 0 rfl rfl 2 (by decide) (List.mem_of_getElem? (i := 1) rfl) rfl rfl dX5_handUp_26 ?_
    refine lv_iload_n hx hb dX5_handUp_29 rfl (lv_at hl 2 rfl) ?_
    obtain ⟨r6, h7, hm⟩ := ob hm
    refine k_wVi S hK hw cal_X4_tryHandUp gX5_handUp_X4_tryHandUp (c_X4_tryHandUp l D cC cI cJ a_no a_mo a_mo_kinds a_mo_days a_mo_rideDays a_mo_helpKinds a_mo_nexts a_mo_helperKinds a_mo_prices a_mo_helpersOfKind a_mo_numbers no_asked no_brought no_friends no_used no_crumbs no_day mo_tasks mo_helpers mo_askedFirst mo_crumbsFirst mo_lastDay mo_kinds mo_days mo_rideDays mo_helpKinds mo_nexts mo_helperKinds mo_prices mo_helpersOfKind mo_numbers p0 (aw _) (hw.own [11, 1, 2, 3, 4, 5, 6, 7, 8, 9, 10] (by decide) rfl) r6 h7) ⟨⟨rfl, rfl⟩, Nat.le_of_ble_eq_true rfl, Nat.le_of_ble_eq_true rfl⟩ [11, 1, 2, 3, 4, 5, 6, 7, 8, 9, 10] rfl 11 rfl rfl rfl hl.1 rfl (Nat.le_of_ble_eq_true rfl) dX5_handUp_30 ⟨Nat.zero_le _, Nat.zero_le _⟩ (fun H locs hJ hB => ?_)
    have hw := hJ _ hB rfl
    replace hw : Wd D A _ (wd_14 cC cI cJ a_x g_x_text x_letters a_mo g_x_spare a_no g_x_trial a_un g_x_kept g_x_seen g_x_unseen g_x_search a_mo mo_tasks mo_helpers mo_askedFirst mo_crumbsFirst mo_lastDay a_mo_kinds a_mo_days a_mo_rideDays a_mo_helpKinds a_mo_nexts a_mo_helperKinds a_mo_prices a_mo_helpersOfKind a_mo_numbers a_mo_kinds mo_kinds a_mo_days mo_days a_mo_rideDays mo_rideDays a_mo_helpKinds mo_helpKinds a_mo_nexts mo_nexts a_mo_helperKinds mo_helperKinds a_mo_prices mo_prices a_mo_helpersOfKind mo_helpersOfKind a_mo_numbers mo_numbers a_no no_asked r6.2.1 no_friends no_used no_crumbs r6.2.2 a_un un_size a_un_held a_un_held un_held) H locs := hw
    refine lv_if_ne (tgt := 39) hx hb dX5_handUp_33 (by decide) (fun c8 => ?_) (fun c8 => ?_)
    · replace hm := ineg hm c8
      refine lv_aload_n hx hb dX5_handUp_39 rfl (lv_at hl 1 rfl) ?_
      refine f_get S hK hw.1 in_X5_handUp_X5 0 rfl rfl 6 (by decide) (List.mem_of_getElem? (i := 3) rfl) rfl rfl dX5_handUp_40 ?_
      refine lv_lload_n hx hb dX5_handUp_43 rfl (lv_at hl 0 rfl) ?_
      obtain ⟨r9, h10, hm⟩ := ob hm
      refine k_wVv S hK hw cal_X1_put gX5_handUp_X1_put (c_X1_put l D cC cI cJ a_un a_un_held un_size 8 un_held r4 N (aw _) (hw.own [12, 13] (by decide) rfl) r9 h10) ⟨⟨rfl, rfl⟩, Nat.le_of_ble_eq_true rfl, Nat.le_of_ble_eq_true rfl⟩ [12, 13] rfl 12 rfl rfl rfl hl.1 rfl (Nat.le_of_ble_eq_true rfl) dX5_handUp_44 ⟨Nat.zero_le _, Nat.zero_le _⟩ (fun H locs hJ hB => ?_)
      have hw := hJ _ hB rfl
      replace hw : Wd D A _ (wd_14 cC cI cJ a_x g_x_text x_letters a_mo g_x_spare a_no g_x_trial a_un g_x_kept g_x_seen g_x_unseen g_x_search a_mo mo_tasks mo_helpers mo_askedFirst mo_crumbsFirst mo_lastDay a_mo_kinds a_mo_days a_mo_rideDays a_mo_helpKinds a_mo_nexts a_mo_helperKinds a_mo_prices a_mo_helpersOfKind a_mo_numbers a_mo_kinds mo_kinds a_mo_days mo_days a_mo_rideDays mo_rideDays a_mo_helpKinds mo_helpKinds a_mo_nexts mo_nexts a_mo_helperKinds mo_helperKinds a_mo_prices mo_prices a_mo_helpersOfKind mo_helpersOfKind a_mo_numbers mo_numbers a_no no_asked r6.2.1 no_friends no_used no_crumbs r6.2.2 a_un r9.1 a_un_held a_un_held r9.2) H locs := hw
      refine lv_aload_n hx hb dX5_handUp_47 rfl (lv_at hl 1 rfl) ?_
      refine f_get S hK hw.1 in_X5_handUp_X5 0 rfl rfl 4 (by decide) (List.mem_of_getElem? (i := 2) rfl) rfl rfl dX5_handUp_48 ?_
      refine f_get S hK hw.1 in_X5_handUp_X4 11 rfl rfl 5 (by decide) (List.mem_of_getElem? (i := 4) rfl) rfl rfl dX5_handUp_51 ?_
      obtain rfl := Option.some.inj hm
      exact e_WI S hr hlk hw rfl hw.1 dX5_handUp_54
    · replace hm := ipos hm c8
      refine lv_bipush (v := (-2)) hx hb dX5_handUp_36 (by decide) ?_
      obtain rfl := Option.some.inj hm
      exact e_WI S hr hlk hw rfl hw.1 dX5_handUp_38
  · replace hm := ipos hm c3
    refine lv_iconst (v := (-1)) hx hb dX5_handUp_11 (by decide) ?_
    obtain rfl := Option.some.inj hm
    exact e_WI S hr hlk hw rfl hw.1 dX5_handUp_12

abbrev rX5_help : Room := { frames := 2, cells := 0, slots := 0, locals := 48 }
theorem cal_X5_help : Cal yX5_help wsX5_help cX5_help 2 (some .int) RX5 1 := ⟨⟨_, rfl⟩, rfl, by decide +kernel, by decide +kernel, by decide +kernel⟩
theorem in_X5_help_X5 : ∀ w ∈ wsX50, w ∈ wsX5_help := fun _ h => (List.mem_cons_of_mem _ (List.mem_append_left _ (List.mem_append_left _ (List.mem_append_right _ h))))
set_option maxHeartbeats 4000000 in
set_option maxRecDepth 100000 in
theorem c_X5_help (l : Launch) (D : va_G) (cC cI cJ : ClassId) (a_x : Nat) (g_x_text : Nat) (a_mo : Nat) (g_x_spare : Nat) (a_no : Nat) (g_x_trial : Nat) (g_x_undoable : Nat) (g_x_kept : Nat) (g_x_seen : Nat) (g_x_unseen : Nat) (g_x_search : Nat) (a_mo_kinds : Nat) (a_mo_days : Nat) (a_mo_rideDays : Nat) (a_mo_helpKinds : Nat) (a_mo_nexts : Nat) (a_mo_helperKinds : Nat) (a_mo_prices : Nat) (a_mo_helpersOfKind : Nat) (a_mo_numbers : Nat) (x_letters : Int32) (mo_tasks : Int32) (mo_helpers : Int32) (mo_askedFirst : Int32) (mo_crumbsFirst : Int32) (mo_lastDay : Int32) (mo_kinds : (Nat → Int32)) (mo_days : (Nat → Int32)) (mo_rideDays : (Nat → Int32)) (mo_helpKinds : (Nat → Int32)) (mo_nexts : (Nat → Int32)) (mo_helperKinds : (Nat → Int32)) (mo_prices : (Nat → Int32)) (mo_helpersOfKind : (Nat → Int32)) (mo_numbers : (Nat → Int32)) (no_asked : Int32) (no_brought : Int32) (no_friends : Int32) (no_used : Int32) (no_crumbs : Int32) (no_day : Int32) (p0 : Int32) (out : Int32) (hm : m_X5_help mo_tasks mo_lastDay mo_kinds mo_helpKinds mo_helpersOfKind no_asked no_brought no_friends no_used no_day p0 = some out) : RdI l yX5_help wsX5_help rX5_help D (tyK cC cI cJ) [.ref a_x, .int p0] (wd_19 cC cI cJ a_x g_x_text x_letters a_mo g_x_spare a_no g_x_trial g_x_undoable g_x_kept g_x_seen g_x_unseen g_x_search a_mo mo_tasks mo_helpers mo_askedFirst mo_crumbsFirst mo_lastDay a_mo_kinds a_mo_days a_mo_rideDays a_mo_helpKinds a_mo_nexts a_mo_helperKinds a_mo_prices a_mo_helpersOfKind a_mo_numbers a_mo_kinds mo_kinds a_mo_days mo_days a_mo_rideDays mo_rideDays a_mo_helpKinds mo_helpKinds a_mo_nexts mo_nexts a_mo_helperKinds mo_helperKinds a_mo_prices mo_prices a_mo_helpersOfKind mo_helpersOfKind a_mo_numbers mo_numbers a_no no_asked no_brought no_friends no_used no_crumbs no_day) out := by
  unfold m_X5_help at hm
  refine enter (cc := cX5_help) (maxL := 2) (ret := (some .int)) (lv := [(0, .ref a_x), (1, .int p0)]) (by decide) rfl (Nat.le_of_ble_eq_true rfl) rfl ?_
  intro p e s m args below meth c S hr hlk hK hP ls hl
  replace S : CallFix p m c cX5_help 2 s args wsX5_help RX5 := S
  have hx := S.1
  have hb := S.2.1
  refine lv_aload_n hx hb dX5_help_0 rfl (lv_at hl 0 rfl) ?_
  refine f_get S hK hP in_X5_help_X5 0 rfl rfl 2 (by decide) (List.mem_of_getElem? (i := 1) rfl) rfl rfl dX5_help_1 ?_
  refine lv_iload_n hx hb dX5_help_4 rfl (lv_at hl 1 rfl) ?_
  obtain ⟨r1, h2, hm⟩ := ob hm
  refine k_rVi S hK hP cal_X0_hasTask gX5_help_X0_hasTask (c_X0_hasTask l D cC cI cJ a_mo a_mo_kinds a_mo_days a_mo_rideDays a_mo_helpKinds a_mo_nexts a_mo_helperKinds a_mo_prices a_mo_helpersOfKind a_mo_numbers mo_tasks mo_helpers mo_askedFirst mo_crumbsFirst mo_lastDay mo_kinds mo_days mo_rideDays mo_helpKinds mo_nexts mo_helperKinds mo_prices mo_helpersOfKind mo_numbers p0 r1 h2) ⟨⟨rfl, rfl⟩, Nat.le_of_ble_eq_true rfl, Nat.le_of_ble_eq_true rfl⟩ [1, 2, 3, 4, 5, 6, 7, 8, 9, 10] rfl 1 rfl rfl rfl hl.1 rfl (Nat.le_of_ble_eq_true rfl) dX5_help_5 ⟨Nat.zero_le _, Nat.zero_le _⟩ ?_
  refine lv_if_ne (tgt := 13) hx hb dX5_help_8 (by decide) (fun c3 => ?_) (fun c3 => ?_)
  · replace hm := ineg hm c3
    refine lv_aload_n hx hb dX5_help_13 rfl (lv_at hl 0 rfl) ?_
    refine f_get S hK hP in_X5_help_X5 0 rfl rfl 4 (by decide) (List.mem_of_getElem? (i := 2) rfl) rfl rfl dX5_help_14 ?_
    refine lv_aload_n hx hb dX5_help_17 rfl (lv_at hl 0 rfl) ?_
    refine f_get S hK hP in_X5_help_X5 0 rfl rfl 2 (by decide) (List.mem_of_getElem? (i := 1) rfl) rfl rfl dX5_help_18 ?_
    refine lv_iload_n hx hb dX5_help_21 rfl (lv_at hl 1 rfl) ?_
    obtain ⟨r4, h5, hm⟩ := ob hm
    refine k_rVi S hK hP cal_X4_helpersFor gX5_help_X4_helpersFor (c_X4_helpersFor l D cC cI cJ a_no a_mo a_mo_kinds a_mo_days a_mo_rideDays a_mo_helpKinds a_mo_nexts a_mo_helperKinds a_mo_prices a_mo_helpersOfKind a_mo_numbers no_asked no_brought no_friends no_used no_crumbs no_day mo_tasks mo_helpers mo_askedFirst mo_crumbsFirst mo_lastDay mo_kinds mo_days mo_rideDays mo_helpKinds mo_nexts mo_helperKinds mo_prices mo_helpersOfKind mo_numbers p0 r4 h5) ⟨⟨rfl, rfl⟩, Nat.le_of_ble_eq_true rfl, Nat.le_of_ble_eq_true rfl⟩ [11, 1, 2, 3, 4, 5, 6, 7, 8, 9, 10] rfl 11 rfl rfl rfl hl.1 rfl (Nat.le_of_ble_eq_true rfl) dX5_help_22 ⟨Nat.zero_le _, Nat.zero_le _⟩ ?_
    exact e_RI S hr hlk (Option.some.inj hm) dX5_help_25
  · replace hm := ipos hm c3
    refine lv_iconst (v := (-1)) hx hb dX5_help_11 (by decide) ?_
    exact e_RI S hr hlk (Option.some.inj hm) dX5_help_12

abbrev rX5_helper : Room := { frames := 1, cells := 0, slots := 0, locals := 21 }
theorem cal_X5_helper : Cal yX5_helper wsX5_helper cX5_helper 3 (some .int) RX5 2 := ⟨⟨_, rfl⟩, rfl, by decide +kernel, by decide +kernel, by decide +kernel⟩
theorem in_X5_helper_X4 : ∀ w ∈ wsX40, w ∈ wsX5_helper := fun _ h => (List.mem_cons_of_mem _ (List.mem_append_left _ (List.mem_append_right _ h)))
theorem in_X5_helper_X5 : ∀ w ∈ wsX50, w ∈ wsX5_helper := fun _ h => (List.mem_cons_of_mem _ (List.mem_append_left _ (List.mem_append_left _ (List.mem_append_right _ h))))
set_option maxHeartbeats 4000000 in
set_option maxRecDepth 100000 in
theorem c_X5_helper (l : Launch) (D : va_G) (cC cI cJ : ClassId) (a_x : Nat) (g_x_text : Nat) (a_mo : Nat) (g_x_spare : Nat) (a_no : Nat) (g_x_trial : Nat) (g_x_undoable : Nat) (g_x_kept : Nat) (g_x_seen : Nat) (g_x_unseen : Nat) (g_x_search : Nat) (a_mo_kinds : Nat) (a_mo_days : Nat) (a_mo_rideDays : Nat) (a_mo_helpKinds : Nat) (a_mo_nexts : Nat) (a_mo_helperKinds : Nat) (a_mo_prices : Nat) (a_mo_helpersOfKind : Nat) (a_mo_numbers : Nat) (x_letters : Int32) (mo_tasks : Int32) (mo_helpers : Int32) (mo_askedFirst : Int32) (mo_crumbsFirst : Int32) (mo_lastDay : Int32) (mo_kinds : (Nat → Int32)) (mo_days : (Nat → Int32)) (mo_rideDays : (Nat → Int32)) (mo_helpKinds : (Nat → Int32)) (mo_nexts : (Nat → Int32)) (mo_helperKinds : (Nat → Int32)) (mo_prices : (Nat → Int32)) (mo_helpersOfKind : (Nat → Int32)) (mo_numbers : (Nat → Int32)) (no_asked : Int32) (no_brought : Int32) (no_friends : Int32) (no_used : Int32) (no_crumbs : Int32) (no_day : Int32) (p0 : Int32) (p1 : Int32) (out : Int32) (hm : m_X5_helper mo_helpers mo_helperKinds mo_prices no_friends no_used p0 p1 = some out) : RdI l yX5_helper wsX5_helper rX5_helper D (tyK cC cI cJ) [.ref a_x, .int p0, .int p1] (wd_19 cC cI cJ a_x g_x_text x_letters a_mo g_x_spare a_no g_x_trial g_x_undoable g_x_kept g_x_seen g_x_unseen g_x_search a_mo mo_tasks mo_helpers mo_askedFirst mo_crumbsFirst mo_lastDay a_mo_kinds a_mo_days a_mo_rideDays a_mo_helpKinds a_mo_nexts a_mo_helperKinds a_mo_prices a_mo_helpersOfKind a_mo_numbers a_mo_kinds mo_kinds a_mo_days mo_days a_mo_rideDays mo_rideDays a_mo_helpKinds mo_helpKinds a_mo_nexts mo_nexts a_mo_helperKinds mo_helperKinds a_mo_prices mo_prices a_mo_helpersOfKind mo_helpersOfKind a_mo_numbers mo_numbers a_no no_asked no_brought no_friends no_used no_crumbs no_day) out := by
  unfold m_X5_helper at hm
  refine enter (cc := cX5_helper) (maxL := 3) (ret := (some .int)) (lv := [(0, .ref a_x), (1, .int p0), (2, .int p1)]) (by decide) rfl (Nat.le_of_ble_eq_true rfl) rfl ?_
  intro p e s m args below meth c S hr hlk hK hP ls hl
  replace S : CallFix p m c cX5_helper 3 s args wsX5_helper RX5 := S
  have hx := S.1
  have hb := S.2.1
  refine lv_aload_n hx hb dX5_helper_0 rfl (lv_at hl 0 rfl) ?_
  refine f_get S hK hP in_X5_helper_X5 0 rfl rfl 2 (by decide) (List.mem_of_getElem? (i := 1) rfl) rfl rfl dX5_helper_1 ?_
  refine lv_iload_n hx hb dX5_helper_4 rfl (lv_at hl 1 rfl) ?_
  obtain ⟨r1, h2, hm⟩ := ob hm
  refine k_rVi S hK hP cal_X0_hasHelper gX5_helper_X0_hasHelper (c_X0_hasHelper l D cC cI cJ a_mo a_mo_kinds a_mo_days a_mo_rideDays a_mo_helpKinds a_mo_nexts a_mo_helperKinds a_mo_prices a_mo_helpersOfKind a_mo_numbers mo_tasks mo_helpers mo_askedFirst mo_crumbsFirst mo_lastDay mo_kinds mo_days mo_rideDays mo_helpKinds mo_nexts mo_helperKinds mo_prices mo_helpersOfKind mo_numbers p0 r1 h2) ⟨⟨rfl, rfl⟩, Nat.le_of_ble_eq_true rfl, Nat.le_of_ble_eq_true rfl⟩ [1, 2, 3, 4, 5, 6, 7, 8, 9, 10] rfl 1 rfl rfl rfl hl.1 rfl (Nat.le_of_ble_eq_true rfl) dX5_helper_5 ⟨Nat.zero_le _, Nat.zero_le _⟩ ?_
  refine lv_if_ne (tgt := 13) hx hb dX5_helper_8 (by decide) (fun c3 => ?_) (fun c3 => ?_)
  · replace hm := ineg hm c3
    refine lv_iload_n hx hb dX5_helper_13 rfl (lv_at hl 2 rfl) ?_
    by_cases c4 : p1 = (0 : Int32)
    · replace hm := ipos hm c4
      refine f_tabIn S c4 dX5_helper_14 (off := 30) (by decide) (by decide) (by decide) (tgt := 44) (by decide) ?_
      refine lv_aload_n hx hb dX5_helper_44 rfl (lv_at hl 0 rfl) ?_
      refine f_get S hK hP in_X5_helper_X5 0 rfl rfl 2 (by decide) (List.mem_of_getElem? (i := 1) rfl) rfl rfl dX5_helper_45 ?_
      refine lv_iload_n hx hb dX5_helper_48 rfl (lv_at hl 1 rfl) ?_
      obtain ⟨r5, h6, hm⟩ := ob hm
      refine k_rVi S hK hP cal_X0_helperKindOf gX5_helper_X0_helperKindOf (c_X0_helperKindOf l D cC cI cJ a_mo a_mo_kinds a_mo_days a_mo_rideDays a_mo_helpKinds a_mo_nexts a_mo_helperKinds a_mo_prices a_mo_helpersOfKind a_mo_numbers mo_tasks mo_helpers mo_askedFirst mo_crumbsFirst mo_lastDay mo_kinds mo_days mo_rideDays mo_helpKinds mo_nexts mo_helperKinds mo_prices mo_helpersOfKind mo_numbers p0 r5 h6) ⟨⟨rfl, rfl⟩, Nat.le_of_ble_eq_true rfl, Nat.le_of_ble_eq_true rfl⟩ [1, 2, 3, 4, 5, 6, 7, 8, 9, 10] rfl 1 rfl rfl rfl hl.1 rfl (Nat.le_of_ble_eq_true rfl) dX5_helper_49 ⟨Nat.zero_le _, Nat.zero_le _⟩ ?_
      exact e_RI S hr hlk (Option.some.inj hm) dX5_helper_52
    replace hm := ineg hm c4
    by_cases c7 : p1 = (1 : Int32)
    · replace hm := ipos hm c7
      refine f_tabIn S c7 dX5_helper_14 (off := 39) (by decide) (by decide) (by decide) (tgt := 53) (by decide) ?_
      refine lv_aload_n hx hb dX5_helper_53 rfl (lv_at hl 0 rfl) ?_
      refine f_get S hK hP in_X5_helper_X5 0 rfl rfl 2 (by decide) (List.mem_of_getElem? (i := 1) rfl) rfl rfl dX5_helper_54 ?_
      refine lv_iload_n hx hb dX5_helper_57 rfl (lv_at hl 1 rfl) ?_
      obtain ⟨r8, h9, hm⟩ := ob hm
      refine k_rVi S hK hP cal_X0_priceOf gX5_helper_X0_priceOf (c_X0_priceOf l D cC cI cJ a_mo a_mo_kinds a_mo_days a_mo_rideDays a_mo_helpKinds a_mo_nexts a_mo_helperKinds a_mo_prices a_mo_helpersOfKind a_mo_numbers mo_tasks mo_helpers mo_askedFirst mo_crumbsFirst mo_lastDay mo_kinds mo_days mo_rideDays mo_helpKinds mo_nexts mo_helperKinds mo_prices mo_helpersOfKind mo_numbers p0 r8 h9) ⟨⟨rfl, rfl⟩, Nat.le_of_ble_eq_true rfl, Nat.le_of_ble_eq_true rfl⟩ [1, 2, 3, 4, 5, 6, 7, 8, 9, 10] rfl 1 rfl rfl rfl hl.1 rfl (Nat.le_of_ble_eq_true rfl) dX5_helper_58 ⟨Nat.zero_le _, Nat.zero_le _⟩ ?_
      exact e_RI S hr hlk (Option.some.inj hm) dX5_helper_61
    replace hm := ineg hm c7
    by_cases c10 : p1 = (2 : Int32)
    · replace hm := ipos hm c10
      refine f_tabIn S c10 dX5_helper_14 (off := 48) (by decide) (by decide) (by decide) (tgt := 62) (by decide) ?_
      refine lv_aload_n hx hb dX5_helper_62 rfl (lv_at hl 0 rfl) ?_
      refine f_get S hK hP in_X5_helper_X5 0 rfl rfl 4 (by decide) (List.mem_of_getElem? (i := 2) rfl) rfl rfl dX5_helper_63 ?_
      refine f_get S hK hP in_X5_helper_X4 11 rfl rfl 2 (by decide) (List.mem_of_getElem? (i := 3) rfl) rfl rfl dX5_helper_66 ?_
      refine lv_iload_n hx hb dX5_helper_69 rfl (lv_at hl 1 rfl) ?_
      obtain ⟨r11, h12, hm⟩ := ob hm
      refine k_rSi S hK hP cal_X5_bit gX5_helper_X5_bit (c_X5_bit l D cC cI cJ p0 r11 h12) ⟨⟨rfl, rfl⟩, Nat.le_of_ble_eq_true rfl, Nat.le_of_ble_eq_true rfl⟩ [] rfl rfl hl.1 rfl (Nat.le_of_ble_eq_true rfl) dX5_helper_70 ⟨Nat.zero_le _, Nat.zero_le _⟩ ?_
      refine lv_iand hx hb dX5_helper_73 ?_
      refine lv_if_eq (tgt := 81) hx hb dX5_helper_74 (by decide) (fun c13 => ?_) (fun c13 => ?_)
      · replace hm := ipos hm c13
        refine lv_iconst (v := 0) hx hb dX5_helper_81 (by decide) ?_
        obtain ⟨r14, h15, hm⟩ := ob hm
        refine k_rSi S hK hP cal_X5_oneIf gX5_helper_X5_oneIf (c_X5_oneIf l D cC cI cJ (0 : Int32) r14 h15) ⟨⟨rfl, rfl⟩, Nat.le_of_ble_eq_true rfl, Nat.le_of_ble_eq_true rfl⟩ [] rfl rfl hl.1 rfl (Nat.le_of_ble_eq_true rfl) dX5_helper_82 ⟨Nat.zero_le _, Nat.zero_le _⟩ ?_
        exact e_RI S hr hlk (Option.some.inj hm) dX5_helper_85
      · replace hm := ineg hm c13
        refine lv_iconst (v := 1) hx hb dX5_helper_77 (by decide) ?_
        refine lv_goto (tgt := 82) hx hb dX5_helper_78 (by decide) ?_
        obtain ⟨r16, h17, hm⟩ := ob hm
        refine k_rSi S hK hP cal_X5_oneIf gX5_helper_X5_oneIf (c_X5_oneIf l D cC cI cJ (1 : Int32) r16 h17) ⟨⟨rfl, rfl⟩, Nat.le_of_ble_eq_true rfl, Nat.le_of_ble_eq_true rfl⟩ [] rfl rfl hl.1 rfl (Nat.le_of_ble_eq_true rfl) dX5_helper_82 ⟨Nat.zero_le _, Nat.zero_le _⟩ ?_
        exact e_RI S hr hlk (Option.some.inj hm) dX5_helper_85
    replace hm := ineg hm c10
    by_cases c18 : p1 = (3 : Int32)
    · replace hm := ipos hm c18
      refine f_tabIn S c18 dX5_helper_14 (off := 72) (by decide) (by decide) (by decide) (tgt := 86) (by decide) ?_
      refine lv_aload_n hx hb dX5_helper_86 rfl (lv_at hl 0 rfl) ?_
      refine f_get S hK hP in_X5_helper_X5 0 rfl rfl 4 (by decide) (List.mem_of_getElem? (i := 2) rfl) rfl rfl dX5_helper_87 ?_
      refine f_get S hK hP in_X5_helper_X4 11 rfl rfl 3 (by decide) (List.mem_of_getElem? (i := 4) rfl) rfl rfl dX5_helper_90 ?_
      refine lv_iload_n hx hb dX5_helper_93 rfl (lv_at hl 1 rfl) ?_
      obtain ⟨r19, h20, hm⟩ := ob hm
      refine k_rSi S hK hP cal_X5_bit gX5_helper_X5_bit (c_X5_bit l D cC cI cJ p0 r19 h20) ⟨⟨rfl, rfl⟩, Nat.le_of_ble_eq_true rfl, Nat.le_of_ble_eq_true rfl⟩ [] rfl rfl hl.1 rfl (Nat.le_of_ble_eq_true rfl) dX5_helper_94 ⟨Nat.zero_le _, Nat.zero_le _⟩ ?_
      refine lv_iand hx hb dX5_helper_97 ?_
      refine lv_if_eq (tgt := 105) hx hb dX5_helper_98 (by decide) (fun c21 => ?_) (fun c21 => ?_)
      · replace hm := ipos hm c21
        refine lv_iconst (v := 0) hx hb dX5_helper_105 (by decide) ?_
        obtain ⟨r22, h23, hm⟩ := ob hm
        refine k_rSi S hK hP cal_X5_oneIf gX5_helper_X5_oneIf (c_X5_oneIf l D cC cI cJ (0 : Int32) r22 h23) ⟨⟨rfl, rfl⟩, Nat.le_of_ble_eq_true rfl, Nat.le_of_ble_eq_true rfl⟩ [] rfl rfl hl.1 rfl (Nat.le_of_ble_eq_true rfl) dX5_helper_106 ⟨Nat.zero_le _, Nat.zero_le _⟩ ?_
        exact e_RI S hr hlk (Option.some.inj hm) dX5_helper_109
      · replace hm := ineg hm c21
        refine lv_iconst (v := 1) hx hb dX5_helper_101 (by decide) ?_
        refine lv_goto (tgt := 106) hx hb dX5_helper_102 (by decide) ?_
        obtain ⟨r24, h25, hm⟩ := ob hm
        refine k_rSi S hK hP cal_X5_oneIf gX5_helper_X5_oneIf (c_X5_oneIf l D cC cI cJ (1 : Int32) r24 h25) ⟨⟨rfl, rfl⟩, Nat.le_of_ble_eq_true rfl, Nat.le_of_ble_eq_true rfl⟩ [] rfl rfl hl.1 rfl (Nat.le_of_ble_eq_true rfl) dX5_helper_106 ⟨Nat.zero_le _, Nat.zero_le _⟩ ?_
        exact e_RI S hr hlk (Option.some.inj hm) dX5_helper_109
    replace hm := ineg hm c18
    have nc4 := toInt_ne c4 (n := 0) (by decide)
    have nc7 := toInt_ne c7 (n := 1) (by decide)
    have nc10 := toInt_ne c10 (n := 2) (by decide)
    have nc18 := toInt_ne c18 (n := 3) (by decide)
    refine f_tabOut S dX5_helper_14 (by omega) (tgt := 110) (by decide) ?_
    refine lv_iconst (v := (-1)) hx hb dX5_helper_110 (by decide) ?_
    exact e_RI S hr hlk (Option.some.inj hm) dX5_helper_111
  · replace hm := ipos hm c3
    refine lv_iconst (v := (-1)) hx hb dX5_helper_11 (by decide) ?_
    exact e_RI S hr hlk (Option.some.inj hm) dX5_helper_12

abbrev rX5_keep : Room := { frames := 2, cells := 0, slots := 0, locals := 43 }
theorem cal_X5_keep : Cal yX5_keep wsX5_keep cX5_keep 1 (some .int) RX5 0 := ⟨⟨_, rfl⟩, rfl, by decide +kernel, by decide +kernel, by decide +kernel⟩
theorem in_X5_keep_X1 : ∀ w ∈ wsX10, w ∈ wsX5_keep := fun _ h => (List.mem_cons_of_mem _ (List.mem_append_left _ (List.mem_append_right _ h)))
theorem in_X5_keep_X5 : ∀ w ∈ wsX50, w ∈ wsX5_keep := fun _ h => (List.mem_cons_of_mem _ (List.mem_append_left _ (List.mem_append_left _ (List.mem_append_right _ h))))
set_option maxHeartbeats 4000000 in
set_option maxRecDepth 100000 in
theorem c_X5_keep (l : Launch) (D : va_G) (cC cI cJ : ClassId) (a_x : Nat) (g_x_text : Nat) (g_x_months : Nat) (g_x_spare : Nat) (a_no : Nat) (g_x_trial : Nat) (g_x_undoable : Nat) (a_ke : Nat) (g_x_seen : Nat) (g_x_unseen : Nat) (g_x_search : Nat) (a_ke_held : Nat) (x_letters : Int32) (no_asked : Int32) (no_brought : Int32) (no_friends : Int32) (no_used : Int32) (no_crumbs : Int32) (no_day : Int32) (ke_size : Int32) (ke_held : (Nat → Int64)) (N : Nat) (A : Nat → Prop) (hD : va_D A (wd_21 cC cI cJ a_x g_x_text x_letters g_x_months g_x_spare a_no g_x_trial g_x_undoable a_ke g_x_seen g_x_unseen g_x_search a_no no_asked no_brought no_friends no_used no_crumbs no_day a_ke ke_size a_ke_held a_ke_held ke_held)) (out : (Int32 × Int32 × (Nat → Int64))) (hm : m_X5_keep N no_asked no_brought no_friends no_used no_crumbs no_day ke_size ke_held = some out) : WrI l yX5_keep wsX5_keep rX5_keep D (tyK cC cI cJ) [.ref a_x] A (wd_21 cC cI cJ a_x g_x_text x_letters g_x_months g_x_spare a_no g_x_trial g_x_undoable a_ke g_x_seen g_x_unseen g_x_search a_no no_asked no_brought no_friends no_used no_crumbs no_day a_ke ke_size a_ke_held a_ke_held ke_held) (Bw0 D (wd_21 cC cI cJ a_x g_x_text x_letters g_x_months g_x_spare a_no g_x_trial g_x_undoable a_ke g_x_seen g_x_unseen g_x_search a_no no_asked no_brought no_friends no_used no_crumbs no_day a_ke out.2.1 a_ke_held a_ke_held out.2.2)) out.1 := by
  unfold m_X5_keep at hm
  refine enter (cc := cX5_keep) (maxL := 1) (ret := (some .int)) (lv := [(0, .ref a_x)]) (by decide) rfl (Nat.le_of_ble_eq_true rfl) rfl ?_
  intro p e s m args below meth c S hr hlk hK hP ls hl
  replace S : CallFix p m c cX5_keep 1 s args wsX5_keep RX5 := S
  have hx := S.1
  have hb := S.2.1
  have hw : Wd D A s.heap (wd_21 cC cI cJ a_x g_x_text x_letters g_x_months g_x_spare a_no g_x_trial g_x_undoable a_ke g_x_seen g_x_unseen g_x_search a_no no_asked no_brought no_friends no_used no_crumbs no_day a_ke ke_size a_ke_held a_ke_held ke_held) s.heap [] := ⟨hP, hD, va_S.rf⟩
  have hw0 := hw
  refine lv_aload_n hx hb dX5_keep_0 rfl (lv_at hl 0 rfl) ?_
  refine f_get S hK hw.1 in_X5_keep_X5 0 rfl rfl 7 (by decide) (List.mem_of_getElem? (i := 1) rfl) rfl rfl dX5_keep_1 ?_
  refine f_get S hK hw.1 in_X5_keep_X1 2 rfl rfl 0 (by decide) (List.mem_of_getElem? (i := 2) rfl) rfl rfl dX5_keep_4 ?_
  refine lv_iconst (v := 2) hx hb dX5_keep_7 (by decide) ?_
  refine lv_icmp_lt (tgt := 14) hx hb dX5_keep_8 (by decide) (fun c1 => ?_) (fun c1 => ?_)
  · replace hm := ipos hm c1
    refine lv_aload_n hx hb dX5_keep_14 rfl (lv_at hl 0 rfl) ?_
    refine f_get S hK hw.1 in_X5_keep_X5 0 rfl rfl 7 (by decide) (List.mem_of_getElem? (i := 1) rfl) rfl rfl dX5_keep_15 ?_
    refine lv_aload_n hx hb dX5_keep_18 rfl (lv_at hl 0 rfl) ?_
    refine f_get S hK hw.1 in_X5_keep_X5 0 rfl rfl 4 (by decide) (List.mem_of_getElem? (i := 3) rfl) rfl rfl dX5_keep_19 ?_
    obtain ⟨r2, h3, hm⟩ := ob hm
    refine k_rVl S hK hw.1 cal_X4_packed gX5_keep_X4_packed (c_X4_packed l D cC cI cJ a_no no_asked no_brought no_friends no_used no_crumbs no_day r2 h3) ⟨⟨rfl, rfl⟩, Nat.le_of_ble_eq_true rfl, Nat.le_of_ble_eq_true rfl⟩ [1] rfl 1 rfl rfl rfl hl.1 rfl (Nat.le_of_ble_eq_true rfl) dX5_keep_22 ⟨Nat.zero_le _, Nat.zero_le _⟩ ?_
    obtain ⟨r4, h5, hm⟩ := ob hm
    refine k_wVv S hK hw cal_X1_put gX5_keep_X1_put (c_X1_put l D cC cI cJ a_ke a_ke_held ke_size 2 ke_held r2 N (aw _) (hw.own [2, 3] (by decide) rfl) r4 h5) ⟨⟨rfl, rfl⟩, Nat.le_of_ble_eq_true rfl, Nat.le_of_ble_eq_true rfl⟩ [2, 3] rfl 2 rfl rfl rfl hl.1 rfl (Nat.le_of_ble_eq_true rfl) dX5_keep_25 ⟨Nat.zero_le _, Nat.zero_le _⟩ (fun H locs hJ hB => ?_)
    have hw := hJ _ hB rfl
    replace hw : Wd D A _ (wd_21 cC cI cJ a_x g_x_text x_letters g_x_months g_x_spare a_no g_x_trial g_x_undoable a_ke g_x_seen g_x_unseen g_x_search a_no no_asked no_brought no_friends no_used no_crumbs no_day a_ke r4.1 a_ke_held a_ke_held r4.2) H locs := hw
    refine lv_aload_n hx hb dX5_keep_28 rfl (lv_at hl 0 rfl) ?_
    refine f_get S hK hw.1 in_X5_keep_X5 0 rfl rfl 7 (by decide) (List.mem_of_getElem? (i := 1) rfl) rfl rfl dX5_keep_29 ?_
    refine f_get S hK hw.1 in_X5_keep_X1 2 rfl rfl 0 (by decide) (List.mem_of_getElem? (i := 2) rfl) rfl rfl dX5_keep_32 ?_
    obtain rfl := Option.some.inj hm
    exact e_WI S hr hlk hw rfl hw.1 dX5_keep_35
  · replace hm := ineg hm c1
    refine lv_bipush (v := (-3)) hx hb dX5_keep_11 (by decide) ?_
    obtain rfl := Option.some.inj hm
    exact e_WI S hr hlk hw rfl hw.1 dX5_keep_13

abbrev rX5_kingGoesOn : Room := { frames := 3, cells := 0, slots := 0, locals := 71 }
theorem cal_X5_kingGoesOn : Cal yX5_kingGoesOn wsX5_kingGoesOn cX5_kingGoesOn 4 none RX5 2 := ⟨⟨_, rfl⟩, rfl, by decide +kernel, by decide +kernel, by decide +kernel⟩
theorem in_X5_kingGoesOn_X0 : ∀ w ∈ wsX00, w ∈ wsX5_kingGoesOn := fun _ h => (List.mem_cons_of_mem _ (List.mem_append_left _ (List.mem_append_right _ h)))
theorem in_X5_kingGoesOn_X5 : ∀ w ∈ wsX50, w ∈ wsX5_kingGoesOn := fun _ h => (List.mem_cons_of_mem _ (List.mem_append_left _ (List.mem_append_left _ (List.mem_append_right _ h))))
set_option maxHeartbeats 4000000 in
set_option maxRecDepth 100000 in
theorem c_X5_kingGoesOn (l : Launch) (D : va_G) (cC cI cJ : ClassId) (a_x : Nat) (g_x_text : Nat) (a_mo : Nat) (g_x_spare : Nat) (g_x_now : Nat) (g_x_trial : Nat) (g_x_undoable : Nat) (g_x_kept : Nat) (g_x_seen : Nat) (g_x_unseen : Nat) (g_x_search : Nat) (a_mo_kinds : Nat) (a_mo_days : Nat) (a_mo_rideDays : Nat) (a_mo_helpKinds : Nat) (a_mo_nexts : Nat) (a_mo_helperKinds : Nat) (a_mo_prices : Nat) (a_mo_helpersOfKind : Nat) (a_mo_numbers : Nat) (a_st : Nat) (x_letters : Int32) (mo_tasks : Int32) (mo_helpers : Int32) (mo_askedFirst : Int32) (mo_crumbsFirst : Int32) (mo_lastDay : Int32) (mo_kinds : (Nat → Int32)) (mo_days : (Nat → Int32)) (mo_rideDays : (Nat → Int32)) (mo_helpKinds : (Nat → Int32)) (mo_nexts : (Nat → Int32)) (mo_helperKinds : (Nat → Int32)) (mo_prices : (Nat → Int32)) (mo_helpersOfKind : (Nat → Int32)) (mo_numbers : (Nat → Int32)) (st_asked : Int32) (st_brought : Int32) (st_friends : Int32) (st_used : Int32) (st_crumbs : Int32) (st_day : Int32) (p1 : Int32) (A : Nat → Prop) (hD : va_D A (wd_19 cC cI cJ a_x g_x_text x_letters a_mo g_x_spare g_x_now g_x_trial g_x_undoable g_x_kept g_x_seen g_x_unseen g_x_search a_mo mo_tasks mo_helpers mo_askedFirst mo_crumbsFirst mo_lastDay a_mo_kinds a_mo_days a_mo_rideDays a_mo_helpKinds a_mo_nexts a_mo_helperKinds a_mo_prices a_mo_helpersOfKind a_mo_numbers a_mo_kinds mo_kinds a_mo_days mo_days a_mo_rideDays mo_rideDays a_mo_helpKinds mo_helpKinds a_mo_nexts mo_nexts a_mo_helperKinds mo_helperKinds a_mo_prices mo_prices a_mo_helpersOfKind mo_helpersOfKind a_mo_numbers mo_numbers a_st st_asked st_brought st_friends st_used st_crumbs st_day)) (out : (Int32 × Int32 × Int32 × Int32 × Int32 × Int32)) (hm : m_X5_kingGoesOn mo_tasks mo_helpers mo_lastDay mo_kinds mo_rideDays mo_helpKinds mo_nexts mo_prices mo_helpersOfKind st_asked st_brought st_friends st_used st_crumbs st_day p1 = some out) : WrV l yX5_kingGoesOn wsX5_kingGoesOn rX5_kingGoesOn D (tyK cC cI cJ) [.ref a_x, .ref a_st, .int p1] A (wd_19 cC cI cJ a_x g_x_text x_letters a_mo g_x_spare g_x_now g_x_trial g_x_undoable g_x_kept g_x_seen g_x_unseen g_x_search a_mo mo_tasks mo_helpers mo_askedFirst mo_crumbsFirst mo_lastDay a_mo_kinds a_mo_days a_mo_rideDays a_mo_helpKinds a_mo_nexts a_mo_helperKinds a_mo_prices a_mo_helpersOfKind a_mo_numbers a_mo_kinds mo_kinds a_mo_days mo_days a_mo_rideDays mo_rideDays a_mo_helpKinds mo_helpKinds a_mo_nexts mo_nexts a_mo_helperKinds mo_helperKinds a_mo_prices mo_prices a_mo_helpersOfKind mo_helpersOfKind a_mo_numbers mo_numbers a_st st_asked st_brought st_friends st_used st_crumbs st_day) (Bw0 D (wd_19 cC cI cJ a_x g_x_text x_letters a_mo g_x_spare g_x_now g_x_trial g_x_undoable g_x_kept g_x_seen g_x_unseen g_x_search a_mo mo_tasks mo_helpers mo_askedFirst mo_crumbsFirst mo_lastDay a_mo_kinds a_mo_days a_mo_rideDays a_mo_helpKinds a_mo_nexts a_mo_helperKinds a_mo_prices a_mo_helpersOfKind a_mo_numbers a_mo_kinds mo_kinds a_mo_days mo_days a_mo_rideDays mo_rideDays a_mo_helpKinds mo_helpKinds a_mo_nexts mo_nexts a_mo_helperKinds mo_helperKinds a_mo_prices mo_prices a_mo_helpersOfKind mo_helpersOfKind a_mo_numbers mo_numbers a_st out.1 out.2.1 out.2.2.1 out.2.2.2.1 out.2.2.2.2.1 out.2.2.2.2.2)) := by
  unfold m_X5_kingGoesOn at hm
  refine enter (cc := cX5_kingGoesOn) (maxL := 4) (ret := none) (lv := [(0, .ref a_x), (1, .ref a_st), (2, .int p1)]) (by decide) rfl (Nat.le_of_ble_eq_true rfl) rfl ?_
  intro p e s m args below meth c S hr hlk hK hP ls hl
  replace S : CallFix p m c cX5_kingGoesOn 4 s args wsX5_kingGoesOn RX5 := S
  have hx := S.1
  have hb := S.2.1
  have hw : Wd D A s.heap (wd_19 cC cI cJ a_x g_x_text x_letters a_mo g_x_spare g_x_now g_x_trial g_x_undoable g_x_kept g_x_seen g_x_unseen g_x_search a_mo mo_tasks mo_helpers mo_askedFirst mo_crumbsFirst mo_lastDay a_mo_kinds a_mo_days a_mo_rideDays a_mo_helpKinds a_mo_nexts a_mo_helperKinds a_mo_prices a_mo_helpersOfKind a_mo_numbers a_mo_kinds mo_kinds a_mo_days mo_days a_mo_rideDays mo_rideDays a_mo_helpKinds mo_helpKinds a_mo_nexts mo_nexts a_mo_helperKinds mo_helperKinds a_mo_prices mo_prices a_mo_helpersOfKind mo_helpersOfKind a_mo_numbers mo_numbers a_st st_asked st_brought st_friends st_used st_crumbs st_day) s.heap [] := ⟨hP, hD, va_S.rf⟩
  have hw0 := hw
  refine lv_aload_n hx hb dX5_kingGoesOn_0 rfl (lv_at hl 0 rfl) ?_
  refine f_get S hK hw.1 in_X5_kingGoesOn_X5 0 rfl rfl 2 (by decide) (List.mem_of_getElem? (i := 1) rfl) rfl rfl dX5_kingGoesOn_1 ?_
  refine f_get S hK hw.1 in_X5_kingGoesOn_X0 1 rfl rfl 0 (by decide) (List.mem_of_getElem? (i := 2) rfl) rfl rfl dX5_kingGoesOn_4 ?_
  refine lv_iconst (v := 1) hx hb dX5_kingGoesOn_7 (by decide) ?_
  refine lv_icmp_ge (tgt := 12) hx hb dX5_kingGoesOn_8 (by decide) (fun c1 => ?_) (fun c1 => ?_)
  · replace hm := ipos hm c1
    refine lv_iload_n hx hb dX5_kingGoesOn_12 rfl (lv_at hl 2 rfl) ?_
    refine lv_aload_n hx hb dX5_kingGoesOn_13 rfl (lv_at hl 0 rfl) ?_
    refine f_get S hK hw.1 in_X5_kingGoesOn_X5 0 rfl rfl 2 (by decide) (List.mem_of_getElem? (i := 1) rfl) rfl rfl dX5_kingGoesOn_14 ?_
    refine f_get S hK hw.1 in_X5_kingGoesOn_X0 1 rfl rfl 0 (by decide) (List.mem_of_getElem? (i := 2) rfl) rfl rfl dX5_kingGoesOn_17 ?_
    obtain ⟨g2, hm⟩ := gdo hm
    refine lv_irem hx hb dX5_kingGoesOn_20 g2 ?_
    obtain ⟨y3, e4, hm⟩ := ob hm
    refine f_name e4 ?_
    refine lv_istore_n (lv' := [(3, .int y3), (0, .ref a_x), (1, .ref a_st), (2, .int p1)]) hx hb dX5_kingGoesOn_21 rfl hl (by decide) rfl (fun ls hl => ?_)
    refine lv_aload_n hx hb dX5_kingGoesOn_22 rfl (lv_at hl 2 rfl) ?_
    refine lv_aload_n hx hb dX5_kingGoesOn_23 rfl (lv_at hl 1 rfl) ?_
    refine f_get S hK hw.1 in_X5_kingGoesOn_X5 0 rfl rfl 2 (by decide) (List.mem_of_getElem? (i := 1) rfl) rfl rfl dX5_kingGoesOn_24 ?_
    refine lv_iload_n hx hb dX5_kingGoesOn_27 rfl (lv_at hl 0 rfl) ?_
    obtain ⟨r5, h6, hm⟩ := ob hm
    refine k_wVi S hK hw cal_X4_tryRide gX5_kingGoesOn_X4_tryRide (c_X4_tryRide l D cC cI cJ a_st a_mo a_mo_kinds a_mo_days a_mo_rideDays a_mo_helpKinds a_mo_nexts a_mo_helperKinds a_mo_prices a_mo_helpersOfKind a_mo_numbers st_asked st_brought st_friends st_used st_crumbs st_day mo_tasks mo_helpers mo_askedFirst mo_crumbsFirst mo_lastDay mo_kinds mo_days mo_rideDays mo_helpKinds mo_nexts mo_helperKinds mo_prices mo_helpersOfKind mo_numbers y3 (aw _) (hw.own [11, 1, 2, 3, 4, 5, 6, 7, 8, 9, 10] (by decide) rfl) r5 h6) ⟨⟨rfl, rfl⟩, Nat.le_of_ble_eq_true rfl, Nat.le_of_ble_eq_true rfl⟩ [11, 1, 2, 3, 4, 5, 6, 7, 8, 9, 10] rfl 11 rfl rfl rfl hl.1 rfl (Nat.le_of_ble_eq_true rfl) dX5_kingGoesOn_28 ⟨Nat.zero_le _, Nat.zero_le _⟩ (fun H locs hJ hB => ?_)
    have hw := hJ _ hB rfl
    replace hw : Wd D A _ (wd_19 cC cI cJ a_x g_x_text x_letters a_mo g_x_spare g_x_now g_x_trial g_x_undoable g_x_kept g_x_seen g_x_unseen g_x_search a_mo mo_tasks mo_helpers mo_askedFirst mo_crumbsFirst mo_lastDay a_mo_kinds a_mo_days a_mo_rideDays a_mo_helpKinds a_mo_nexts a_mo_helperKinds a_mo_prices a_mo_helpersOfKind a_mo_numbers a_mo_kinds mo_kinds a_mo_days mo_days a_mo_rideDays mo_rideDays a_mo_helpKinds mo_helpKinds a_mo_nexts mo_nexts a_mo_helperKinds mo_helperKinds a_mo_prices mo_prices a_mo_helpersOfKind mo_helpersOfKind a_mo_numbers mo_numbers a_st r5.2.1 r5.2.2.1 st_friends r5.2.2.2.1 st_crumbs r5.2.2.2.2) H locs := hw
    refine lv_if_eq (tgt := 35) hx hb dX5_kingGoesOn_31 (by decide) (fun c7 => ?_) (fun c7 => ?_)
    · replace hm := ipos hm c7
      refine lv_aload_n hx hb dX5_kingGoesOn_35 rfl (lv_at hl 1 rfl) ?_
      refine f_get S hK hw.1 in_X5_kingGoesOn_X5 0 rfl rfl 2 (by decide) (List.mem_of_getElem? (i := 1) rfl) rfl rfl dX5_kingGoesOn_36 ?_
      refine f_get S hK hw.1 in_X5_kingGoesOn_X0 1 rfl rfl 1 (by decide) (List.mem_of_getElem? (i := 3) rfl) rfl rfl dX5_kingGoesOn_39 ?_
      refine lv_if_le (tgt := 69) hx hb dX5_kingGoesOn_42 (by decide) (fun c8 => ?_) (fun c8 => ?_)
      · replace hm := ipos hm c8
        refine lv_aload_n hx hb dX5_kingGoesOn_69 rfl (lv_at hl 2 rfl) ?_
        refine lv_aload_n hx hb dX5_kingGoesOn_70 rfl (lv_at hl 1 rfl) ?_
        refine f_get S hK hw.1 in_X5_kingGoesOn_X5 0 rfl rfl 2 (by decide) (List.mem_of_getElem? (i := 1) rfl) rfl rfl dX5_kingGoesOn_71 ?_
        refine lv_iload_n hx hb dX5_kingGoesOn_74 rfl (lv_at hl 0 rfl) ?_
        obtain ⟨r9, h10, hm⟩ := ob hm
        refine k_wVi S hK hw cal_X4_trySuggest gX5_kingGoesOn_X4_trySuggest (c_X4_trySuggest l D cC cI cJ a_st a_mo a_mo_kinds a_mo_days a_mo_rideDays a_mo_helpKinds a_mo_nexts a_mo_helperKinds a_mo_prices a_mo_helpersOfKind a_mo_numbers r5.2.1 r5.2.2.1 st_friends r5.2.2.2.1 st_crumbs r5.2.2.2.2 mo_tasks mo_helpers mo_askedFirst mo_crumbsFirst mo_lastDay mo_kinds mo_days mo_rideDays mo_helpKinds mo_nexts mo_helperKinds mo_prices mo_helpersOfKind mo_numbers y3 (aw _) (hw.own [11, 1, 2, 3, 4, 5, 6, 7, 8, 9, 10] (by decide) rfl) r9 h10) ⟨⟨rfl, rfl⟩, Nat.le_of_ble_eq_true rfl, Nat.le_of_ble_eq_true rfl⟩ [11, 1, 2, 3, 4, 5, 6, 7, 8, 9, 10] rfl 11 rfl rfl rfl hl.1 rfl (Nat.le_of_ble_eq_true rfl) dX5_kingGoesOn_75 ⟨Nat.zero_le _, Nat.zero_le _⟩ (fun H locs hJ hB => ?_)
        have hw := hJ _ hB rfl
        replace hw : Wd D A _ (wd_19 cC cI cJ a_x g_x_text x_letters a_mo g_x_spare g_x_now g_x_trial g_x_undoable g_x_kept g_x_seen g_x_unseen g_x_search a_mo mo_tasks mo_helpers mo_askedFirst mo_crumbsFirst mo_lastDay a_mo_kinds a_mo_days a_mo_rideDays a_mo_helpKinds a_mo_nexts a_mo_helperKinds a_mo_prices a_mo_helpersOfKind a_mo_numbers a_mo_kinds mo_kinds a_mo_days mo_days a_mo_rideDays mo_rideDays a_mo_helpKinds mo_helpKinds a_mo_nexts mo_nexts a_mo_helperKinds mo_helperKinds a_mo_prices mo_prices a_mo_helpersOfKind mo_helpersOfKind a_mo_numbers mo_numbers a_st r9.2 r5.2.2.1 st_friends r5.2.2.2.1 st_crumbs r5.2.2.2.2) H locs := hw
        refine lv_pop hx hb dX5_kingGoesOn_78 rfl ?_
        obtain rfl := Option.some.inj hm
        exact e_WV S hr hlk hw hw.1 dX5_kingGoesOn_79
      · replace hm := ineg hm c8
        refine lv_aload_n hx hb dX5_kingGoesOn_45 rfl (lv_at hl 2 rfl) ?_
        refine lv_aload_n hx hb dX5_kingGoesOn_46 rfl (lv_at hl 1 rfl) ?_
        refine f_get S hK hw.1 in_X5_kingGoesOn_X5 0 rfl rfl 2 (by decide) (List.mem_of_getElem? (i := 1) rfl) rfl rfl dX5_kingGoesOn_47 ?_
        refine lv_iload_n hx hb dX5_kingGoesOn_50 rfl (lv_at hl 3 rfl) ?_
        refine lv_bipush (v := 8) hx hb dX5_kingGoesOn_51 (by decide) ?_
        refine lv_idiv hx hb dX5_kingGoesOn_53 (by decide) ?_
        refine lv_aload_n hx hb dX5_kingGoesOn_54 rfl (lv_at hl 1 rfl) ?_
        refine f_get S hK hw.1 in_X5_kingGoesOn_X5 0 rfl rfl 2 (by decide) (List.mem_of_getElem? (i := 1) rfl) rfl rfl dX5_kingGoesOn_55 ?_
        refine f_get S hK hw.1 in_X5_kingGoesOn_X0 1 rfl rfl 1 (by decide) (List.mem_of_getElem? (i := 3) rfl) rfl rfl dX5_kingGoesOn_58 ?_
        obtain ⟨g12, hm⟩ := gdo hm
        refine lv_irem hx hb dX5_kingGoesOn_61 g12 ?_
        obtain ⟨r13, h14, hm⟩ := ob hm
        refine k_wVi S hK hw cal_X4_tryBefriend gX5_kingGoesOn_X4_tryBefriend (c_X4_tryBefriend l D cC cI cJ a_st a_mo a_mo_kinds a_mo_days a_mo_rideDays a_mo_helpKinds a_mo_nexts a_mo_helperKinds a_mo_prices a_mo_helpersOfKind a_mo_numbers r5.2.1 r5.2.2.1 st_friends r5.2.2.2.1 st_crumbs r5.2.2.2.2 mo_tasks mo_helpers mo_askedFirst mo_crumbsFirst mo_lastDay mo_kinds mo_days mo_rideDays mo_helpKinds mo_nexts mo_helperKinds mo_prices mo_helpersOfKind mo_numbers ((p1 / (8 : Int32)) - (p1 / (8 : Int32)) / mo_helpers * mo_helpers) (aw _) (hw.own [11, 1, 2, 3, 4, 5, 6, 7, 8, 9, 10] (by decide) rfl) r13 h14) ⟨⟨rfl, rfl⟩, Nat.le_of_ble_eq_true rfl, Nat.le_of_ble_eq_true rfl⟩ [11, 1, 2, 3, 4, 5, 6, 7, 8, 9, 10] rfl 11 rfl rfl rfl hl.1 rfl (Nat.le_of_ble_eq_true rfl) dX5_kingGoesOn_62 ⟨Nat.zero_le _, Nat.zero_le _⟩ (fun H locs hJ hB => ?_)
        have hw := hJ _ hB rfl
        replace hw : Wd D A _ (wd_19 cC cI cJ a_x g_x_text x_letters a_mo g_x_spare g_x_now g_x_trial g_x_undoable g_x_kept g_x_seen g_x_unseen g_x_search a_mo mo_tasks mo_helpers mo_askedFirst mo_crumbsFirst mo_lastDay a_mo_kinds a_mo_days a_mo_rideDays a_mo_helpKinds a_mo_nexts a_mo_helperKinds a_mo_prices a_mo_helpersOfKind a_mo_numbers a_mo_kinds mo_kinds a_mo_days mo_days a_mo_rideDays mo_rideDays a_mo_helpKinds mo_helpKinds a_mo_nexts mo_nexts a_mo_helperKinds mo_helperKinds a_mo_prices mo_prices a_mo_helpersOfKind mo_helpersOfKind a_mo_numbers mo_numbers a_st r5.2.1 r5.2.2.1 r13.2.1 r5.2.2.2.1 r13.2.2 r5.2.2.2.2) H locs := hw
        refine lv_if_eq (tgt := 69) hx hb dX5_kingGoesOn_65 (by decide) (fun c15 => ?_) (fun c15 => ?_)
        · replace hm := ipos hm c15
          refine lv_aload_n hx hb dX5_kingGoesOn_69 rfl (lv_at hl 2 rfl) ?_
          refine lv_aload_n hx hb dX5_kingGoesOn_70 rfl (lv_at hl 1 rfl) ?_
          refine f_get S hK hw.1 in_X5_kingGoesOn_X5 0 rfl rfl 2 (by decide) (List.mem_of_getElem? (i := 1) rfl) rfl rfl dX5_kingGoesOn_71 ?_
          refine lv_iload_n hx hb dX5_kingGoesOn_74 rfl (lv_at hl 0 rfl) ?_
          obtain ⟨r16, h17, hm⟩ := ob hm
          refine k_wVi S hK hw cal_X4_trySuggest gX5_kingGoesOn_X4_trySuggest (c_X4_trySuggest l D cC cI cJ a_st a_mo a_mo_kinds a_mo_days a_mo_rideDays a_mo_helpKinds a_mo_nexts a_mo_helperKinds a_mo_prices a_mo_helpersOfKind a_mo_numbers r5.2.1 r5.2.2.1 r13.2.1 r5.2.2.2.1 r13.2.2 r5.2.2.2.2 mo_tasks mo_helpers mo_askedFirst mo_crumbsFirst mo_lastDay mo_kinds mo_days mo_rideDays mo_helpKinds mo_nexts mo_helperKinds mo_prices mo_helpersOfKind mo_numbers y3 (aw _) (hw.own [11, 1, 2, 3, 4, 5, 6, 7, 8, 9, 10] (by decide) rfl) r16 h17) ⟨⟨rfl, rfl⟩, Nat.le_of_ble_eq_true rfl, Nat.le_of_ble_eq_true rfl⟩ [11, 1, 2, 3, 4, 5, 6, 7, 8, 9, 10] rfl 11 rfl rfl rfl hl.1 rfl (Nat.le_of_ble_eq_true rfl) dX5_kingGoesOn_75 ⟨Nat.zero_le _, Nat.zero_le _⟩ (fun H locs hJ hB => ?_)
          have hw := hJ _ hB rfl
          replace hw : Wd D A _ (wd_19 cC cI cJ a_x g_x_text x_letters a_mo g_x_spare g_x_now g_x_trial g_x_undoable g_x_kept g_x_seen g_x_unseen g_x_search a_mo mo_tasks mo_helpers mo_askedFirst mo_crumbsFirst mo_lastDay a_mo_kinds a_mo_days a_mo_rideDays a_mo_helpKinds a_mo_nexts a_mo_helperKinds a_mo_prices a_mo_helpersOfKind a_mo_numbers a_mo_kinds mo_kinds a_mo_days mo_days a_mo_rideDays mo_rideDays a_mo_helpKinds mo_helpKinds a_mo_nexts mo_nexts a_mo_helperKinds mo_helperKinds a_mo_prices mo_prices a_mo_helpersOfKind mo_helpersOfKind a_mo_numbers mo_numbers a_st r16.2 r5.2.2.1 r13.2.1 r5.2.2.2.1 r13.2.2 r5.2.2.2.2) H locs := hw
          refine lv_pop hx hb dX5_kingGoesOn_78 rfl ?_
          obtain rfl := Option.some.inj hm
          exact e_WV S hr hlk hw hw.1 dX5_kingGoesOn_79
        · replace hm := ineg hm c15
          obtain rfl := Option.some.inj hm
          exact e_WV S hr hlk hw hw.1 dX5_kingGoesOn_68
    · replace hm := ineg hm c7
      obtain rfl := Option.some.inj hm
      exact e_WV S hr hlk hw hw.1 dX5_kingGoesOn_34
  · replace hm := ineg hm c1
    obtain rfl := Option.some.inj hm
    exact e_WV S hr hlk hw hw.1 dX5_kingGoesOn_11

abbrev rX5_king : Room := { frames := 4, cells := 0, slots := 0, locals := 94 }
theorem cal_X5_king : Cal yX5_king wsX5_king cX5_king 5 (some .int) RX5 3 := ⟨⟨_, rfl⟩, rfl, by decide +kernel, by decide +kernel, by decide +kernel⟩
theorem in_X5_king_X4 : ∀ w ∈ wsX40, w ∈ wsX5_king := fun _ h => (List.mem_cons_of_mem _ (List.mem_append_left _ (List.mem_append_right _ h)))
theorem in_X5_king_X5 : ∀ w ∈ wsX50, w ∈ wsX5_king := fun _ h => (List.mem_cons_of_mem _ (List.mem_append_left _ (List.mem_append_left _ (List.mem_append_right _ h))))
set_option maxHeartbeats 4000000 in
set_option maxRecDepth 100000 in
theorem t_X5_king_50 {p : Program} {e : Env} {s : State} {m : MethodId} {args : Array Value} {below : List Frame} {meth : Method} {c : Code} {Q : State → Prop} (l : Launch) {D : va_G} {cC cI cJ : ClassId} {A : Nat → Prop} {H0 : Heap} (S : CallFix p m c cX5_king 5 s args wsX5_king RX5) (hK : KK D (tyK cC cI cJ) s) (a_x : Nat) (g_x_text : Nat) (a_mo : Nat) (g_x_spare : Nat) (a_no : Nat) (a_tr : Nat) (g_x_undoable : Nat) (g_x_kept : Nat) (g_x_seen : Nat) (g_x_unseen : Nat) (g_x_search : Nat) (a_mo_kinds : Nat) (a_mo_days : Nat) (a_mo_rideDays : Nat) (a_mo_helpKinds : Nat) (a_mo_nexts : Nat) (a_mo_helperKinds : Nat) (a_mo_prices : Nat) (a_mo_helpersOfKind : Nat) (a_mo_numbers : Nat) (v1 : Int32) (v2 : Int32) (v3 : Int32) (x_letters : Int32) (mo_tasks : Int32) (mo_helpers : Int32) (mo_askedFirst : Int32) (mo_crumbsFirst : Int32) (mo_lastDay : Int32) (mo_kinds : (Nat → Int32)) (mo_days : (Nat → Int32)) (mo_rideDays : (Nat → Int32)) (mo_helpKinds : (Nat → Int32)) (mo_nexts : (Nat → Int32)) (mo_helperKinds : (Nat → Int32)) (mo_prices : (Nat → Int32)) (mo_helpersOfKind : (Nat → Int32)) (mo_numbers : (Nat → Int32)) (no_asked : Int32) (no_brought : Int32) (no_friends : Int32) (no_used : Int32) (no_crumbs : Int32) (no_day : Int32) : ∀ (n : Nat) (v4 : Int32) (tr_asked : Int32) (tr_brought : Int32) (tr_friends : Int32) (tr_used : Int32) (tr_crumbs : Int32) (tr_day : Int32) (out : (Int32 × Int32 × Int32 × Int32 × Int32 × Int32)), lp_X5_king_50 v1 v2 mo_tasks mo_helpers mo_lastDay mo_kinds mo_rideDays mo_helpKinds mo_nexts mo_prices mo_helpersOfKind n v4 tr_asked tr_brought tr_friends tr_used tr_crumbs tr_day = some out → ∀ (H : Heap) (locs : List Loc) (ls : Array Slot), Wd D A H0 (wd_22 cC cI cJ a_x g_x_text x_letters a_mo g_x_spare a_no a_tr g_x_undoable g_x_kept g_x_seen g_x_unseen g_x_search a_mo mo_tasks mo_helpers mo_askedFirst mo_crumbsFirst mo_lastDay a_mo_kinds a_mo_days a_mo_rideDays a_mo_helpKinds a_mo_nexts a_mo_helperKinds a_mo_prices a_mo_helpersOfKind a_mo_numbers a_mo_kinds mo_kinds a_mo_days mo_days a_mo_rideDays mo_rideDays a_mo_helpKinds mo_helpKinds a_mo_nexts mo_nexts a_mo_helperKinds mo_helperKinds a_mo_prices mo_prices a_mo_helpersOfKind mo_helpersOfKind a_mo_numbers mo_numbers a_no no_asked no_brought no_friends no_used no_crumbs no_day a_tr tr_asked tr_brought tr_friends tr_used tr_crumbs tr_day) H locs → lv_has ls 5 [(0, .ref a_x), (1, .int v1), (2, .int v2), (3, .int v3), (4, .int v4)] → (∀ (H : Heap) (locs : List Loc) (ls : Array Slot), Wd D A H0 (wd_22 cC cI cJ a_x g_x_text x_letters a_mo g_x_spare a_no a_tr g_x_undoable g_x_kept g_x_seen g_x_unseen g_x_search a_mo mo_tasks mo_helpers mo_askedFirst mo_crumbsFirst mo_lastDay a_mo_kinds a_mo_days a_mo_rideDays a_mo_helpKinds a_mo_nexts a_mo_helperKinds a_mo_prices a_mo_helpersOfKind a_mo_numbers a_mo_kinds mo_kinds a_mo_days mo_days a_mo_rideDays mo_rideDays a_mo_helpKinds mo_helpKinds a_mo_nexts mo_nexts a_mo_helperKinds mo_helperKinds a_mo_prices mo_prices a_mo_helpersOfKind mo_helpersOfKind a_mo_numbers mo_numbers a_no no_asked no_brought no_friends no_used no_crumbs no_day a_tr out.1 out.2.1 out.2.2.1 out.2.2.2.1 out.2.2.2.2.1 out.2.2.2.2.2) H locs → lv_has ls 5 [(0, .ref a_x), (3, .int v3)] → W p l e rX5_king s m args below meth c H locs 0 0 Q (F0 m 76 ls [])) → W p l e rX5_king s m args below meth c H locs 0 0 Q (F0 m 50 ls []) := by
  have hx := S.1
  have hb := S.2.1
  intro n
  induction n with
  | zero => intro v4 tr_asked tr_brought tr_friends tr_used tr_crumbs tr_day out hm; cases (show (none : Option (Int32 × Int32 × Int32 × Int32 × Int32 × Int32)) = some out from hm)
  | succ n ih =>
    intro v4 tr_asked tr_brought tr_friends tr_used tr_crumbs tr_day out hm  H locs ls hw hl K0
    rw [lp_X5_king_50] at hm
    refine lv_iload hx hb dX5_king_50 (lv_at hl 4 rfl) ?_
    refine lv_iload_n hx hb dX5_king_52 rfl (lv_at hl 2 rfl) ?_
    refine lv_icmp_ge (tgt := 76) hx hb dX5_king_53 (by decide) (fun c11 => ?_) (fun c11 => ?_)
    · replace hm := ipos hm c11
      obtain rfl := Option.some.inj hm
      exact K0  _ _ ls hw (lv_sub hl [0, 3] rfl)
    · replace hm := ineg hm c11
      refine lv_aload_n hx hb dX5_king_56 rfl (lv_at hl 0 rfl) ?_
      refine lv_aload_n hx hb dX5_king_57 rfl (lv_at hl 0 rfl) ?_
      refine f_get S hK hw.1 in_X5_king_X5 0 rfl rfl 5 (by decide) (List.mem_of_getElem? (i := 1) rfl) rfl rfl dX5_king_58 ?_
      refine lv_iload_n hx hb dX5_king_61 rfl (lv_at hl 1 rfl) ?_
      refine lv_iload hx hb dX5_king_62 (lv_at hl 4 rfl) ?_
      obtain ⟨r12, h13, hm⟩ := ob hm
      refine k_rSi S hK hw.1 cal_X5_drawOf gX5_king_X5_drawOf (c_X5_drawOf l D cC cI cJ v1 v4 r12 h13) ⟨⟨rfl, rfl⟩, Nat.le_of_ble_eq_true rfl, Nat.le_of_ble_eq_true rfl⟩ [] rfl rfl hl.1 rfl (Nat.le_of_ble_eq_true rfl) dX5_king_64 ⟨Nat.zero_le _, Nat.zero_le _⟩ ?_
      obtain ⟨r14, h15, hm⟩ := ob hm
      refine k_wVv S hK hw cal_X5_kingGoesOn gX5_king_X5_kingGoesOn (c_X5_kingGoesOn l D cC cI cJ a_x g_x_text a_mo g_x_spare a_no a_tr g_x_undoable g_x_kept g_x_seen g_x_unseen g_x_search a_mo_kinds a_mo_days a_mo_rideDays a_mo_helpKinds a_mo_nexts a_mo_helperKinds a_mo_prices a_mo_helpersOfKind a_mo_numbers a_tr x_letters mo_tasks mo_helpers mo_askedFirst mo_crumbsFirst mo_lastDay mo_kinds mo_days mo_rideDays mo_helpKinds mo_nexts mo_helperKinds mo_prices mo_helpersOfKind mo_numbers tr_asked tr_brought tr_friends tr_used tr_crumbs tr_day r12 (aw _) (hw.own [0, 1, 2, 3, 4, 5, 6, 7, 8, 9, 10, 12] (by decide) rfl) r14 h15) ⟨⟨rfl, rfl⟩, Nat.le_of_ble_eq_true rfl, Nat.le_of_ble_eq_true rfl⟩ [0, 1, 2, 3, 4, 5, 6, 7, 8, 9, 10, 12] rfl 0 rfl rfl rfl hl.1 rfl (Nat.le_of_ble_eq_true rfl) dX5_king_67 ⟨Nat.zero_le _, Nat.zero_le _⟩ (fun H locs hJ hB => ?_)
      have hw := hJ _ hB rfl
      replace hw : Wd D A _ (wd_22 cC cI cJ a_x g_x_text x_letters a_mo g_x_spare a_no a_tr g_x_undoable g_x_kept g_x_seen g_x_unseen g_x_search a_mo mo_tasks mo_helpers mo_askedFirst mo_crumbsFirst mo_lastDay a_mo_kinds a_mo_days a_mo_rideDays a_mo_helpKinds a_mo_nexts a_mo_helperKinds a_mo_prices a_mo_helpersOfKind a_mo_numbers a_mo_kinds mo_kinds a_mo_days mo_days a_mo_rideDays mo_rideDays a_mo_helpKinds mo_helpKinds a_mo_nexts mo_nexts a_mo_helperKinds mo_helperKinds a_mo_prices mo_prices a_mo_helpersOfKind mo_helpersOfKind a_mo_numbers mo_numbers a_no no_asked no_brought no_friends no_used no_crumbs no_day a_tr r14.1 r14.2.1 r14.2.2.1 r14.2.2.2.1 r14.2.2.2.2.1 r14.2.2.2.2.2) H locs := hw
      refine lv_iinc (v := (v4 + 1)) (lv' := [(4, .int (v4 + 1)), (0, .ref a_x), (1, .int v1), (2, .int v2), (3, .int v3)]) hx hb dX5_king_70 hl (k := 4) rfl (by rw [ofi_1]) (by decide) rfl (fun ls hl => ?_)
      refine lv_goto (tgt := 50) hx hb dX5_king_73 (by decide) ?_
      exact ih (v4 + 1) r14.1 r14.2.1 r14.2.2.1 r14.2.2.2.1 r14.2.2.2.2.1 r14.2.2.2.2.2 _ hm  _ _ ls hw (lv_sub hl [1, 2, 3, 4, 0] rfl) K0
set_option maxHeartbeats 4000000 in
set_option maxRecDepth 100000 in
theorem c_X5_king (l : Launch) (D : va_G) (cC cI cJ : ClassId) (a_x : Nat) (g_x_text : Nat) (a_mo : Nat) (g_x_spare : Nat) (a_no : Nat) (a_tr : Nat) (g_x_undoable : Nat) (g_x_kept : Nat) (g_x_seen : Nat) (g_x_unseen : Nat) (g_x_search : Nat) (a_mo_kinds : Nat) (a_mo_days : Nat) (a_mo_rideDays : Nat) (a_mo_helpKinds : Nat) (a_mo_nexts : Nat) (a_mo_helperKinds : Nat) (a_mo_prices : Nat) (a_mo_helpersOfKind : Nat) (a_mo_numbers : Nat) (x_letters : Int32) (mo_tasks : Int32) (mo_helpers : Int32) (mo_askedFirst : Int32) (mo_crumbsFirst : Int32) (mo_lastDay : Int32) (mo_kinds : (Nat → Int32)) (mo_days : (Nat → Int32)) (mo_rideDays : (Nat → Int32)) (mo_helpKinds : (Nat → Int32)) (mo_nexts : (Nat → Int32)) (mo_helperKinds : (Nat → Int32)) (mo_prices : (Nat → Int32)) (mo_helpersOfKind : (Nat → Int32)) (mo_numbers : (Nat → Int32)) (no_asked : Int32) (no_brought : Int32) (no_friends : Int32) (no_used : Int32) (no_crumbs : Int32) (no_day : Int32) (tr_asked : Int32) (tr_brought : Int32) (tr_friends : Int32) (tr_used : Int32) (tr_crumbs : Int32) (tr_day : Int32) (p0 : Int32) (p1 : Int32) (p2 : Int32) (N : Nat) (A : Nat → Prop) (hD : va_D A (wd_22 cC cI cJ a_x g_x_text x_letters a_mo g_x_spare a_no a_tr g_x_undoable g_x_kept g_x_seen g_x_unseen g_x_search a_mo mo_tasks mo_helpers mo_askedFirst mo_crumbsFirst mo_lastDay a_mo_kinds a_mo_days a_mo_rideDays a_mo_helpKinds a_mo_nexts a_mo_helperKinds a_mo_prices a_mo_helpersOfKind a_mo_numbers a_mo_kinds mo_kinds a_mo_days mo_days a_mo_rideDays mo_rideDays a_mo_helpKinds mo_helpKinds a_mo_nexts mo_nexts a_mo_helperKinds mo_helperKinds a_mo_prices mo_prices a_mo_helpersOfKind mo_helpersOfKind a_mo_numbers mo_numbers a_no no_asked no_brought no_friends no_used no_crumbs no_day a_tr tr_asked tr_brought tr_friends tr_used tr_crumbs tr_day)) (out : (Int32 × Int32 × Int32 × Int32 × Int32 × Int32 × Int32)) (hm : m_X5_king N mo_tasks mo_helpers mo_lastDay mo_kinds mo_rideDays mo_helpKinds mo_nexts mo_prices mo_helpersOfKind no_asked no_brought no_friends no_used no_crumbs no_day tr_asked tr_brought tr_friends tr_used tr_crumbs tr_day p0 p1 p2 = some out) : WrI l yX5_king wsX5_king rX5_king D (tyK cC cI cJ) [.ref a_x, .int p0, .int p1, .int p2] A (wd_22 cC cI cJ a_x g_x_text x_letters a_mo g_x_spare a_no a_tr g_x_undoable g_x_kept g_x_seen g_x_unseen g_x_search a_mo mo_tasks mo_helpers mo_askedFirst mo_crumbsFirst mo_lastDay a_mo_kinds a_mo_days a_mo_rideDays a_mo_helpKinds a_mo_nexts a_mo_helperKinds a_mo_prices a_mo_helpersOfKind a_mo_numbers a_mo_kinds mo_kinds a_mo_days mo_days a_mo_rideDays mo_rideDays a_mo_helpKinds mo_helpKinds a_mo_nexts mo_nexts a_mo_helperKinds mo_helperKinds a_mo_prices mo_prices a_mo_helpersOfKind mo_helpersOfKind a_mo_numbers mo_numbers a_no no_asked no_brought no_friends no_used no_crumbs no_day a_tr tr_asked tr_brought tr_friends tr_used tr_crumbs tr_day) (Bw0 D (wd_22 cC cI cJ a_x g_x_text x_letters a_mo g_x_spare a_no a_tr g_x_undoable g_x_kept g_x_seen g_x_unseen g_x_search a_mo mo_tasks mo_helpers mo_askedFirst mo_crumbsFirst mo_lastDay a_mo_kinds a_mo_days a_mo_rideDays a_mo_helpKinds a_mo_nexts a_mo_helperKinds a_mo_prices a_mo_helpersOfKind a_mo_numbers a_mo_kinds mo_kinds a_mo_days mo_days a_mo_rideDays mo_rideDays a_mo_helpKinds mo_helpKinds a_mo_nexts mo_nexts a_mo_helperKinds mo_helperKinds a_mo_prices mo_prices a_mo_helpersOfKind mo_helpersOfKind a_mo_numbers mo_numbers a_no no_asked no_brought no_friends no_used no_crumbs no_day a_tr out.2.1 out.2.2.1 out.2.2.2.1 out.2.2.2.2.1 out.2.2.2.2.2.1 out.2.2.2.2.2.2)) out.1 := by
  unfold m_X5_king at hm
  refine enter (cc := cX5_king) (maxL := 5) (ret := (some .int)) (lv := [(0, .ref a_x), (1, .int p0), (2, .int p1), (3, .int p2)]) (by decide) rfl (Nat.le_of_ble_eq_true rfl) rfl ?_
  intro p e s m args below meth c S hr hlk hK hP ls hl
  replace S : CallFix p m c cX5_king 5 s args wsX5_king RX5 := S
  have hx := S.1
  have hb := S.2.1
  have hw : Wd D A s.heap (wd_22 cC cI cJ a_x g_x_text x_letters a_mo g_x_spare a_no a_tr g_x_undoable g_x_kept g_x_seen g_x_unseen g_x_search a_mo mo_tasks mo_helpers mo_askedFirst mo_crumbsFirst mo_lastDay a_mo_kinds a_mo_days a_mo_rideDays a_mo_helpKinds a_mo_nexts a_mo_helperKinds a_mo_prices a_mo_helpersOfKind a_mo_numbers a_mo_kinds mo_kinds a_mo_days mo_days a_mo_rideDays mo_rideDays a_mo_helpKinds mo_helpKinds a_mo_nexts mo_nexts a_mo_helperKinds mo_helperKinds a_mo_prices mo_prices a_mo_helpersOfKind mo_helpersOfKind a_mo_numbers mo_numbers a_no no_asked no_brought no_friends no_used no_crumbs no_day a_tr tr_asked tr_brought tr_friends tr_used tr_crumbs tr_day) s.heap [] := ⟨hP, hD, va_S.rf⟩
  have hw0 := hw
  refine lv_iload_n hx hb dX5_king_0 rfl (lv_at hl 1 rfl) ?_
  refine lv_if_lt (tgt := 31) hx hb dX5_king_1 (by decide) (fun c1 => ?_) (fun c1 => ?_)
  · replace hm := ipos hm c1
    refine lv_iconst (v := (-1)) hx hb dX5_king_31 (by decide) ?_
    obtain rfl := Option.some.inj hm
    exact e_WI S hr hlk hw rfl hw.1 dX5_king_32
  · replace hm := ineg hm c1
    refine lv_iload_n hx hb dX5_king_4 rfl (lv_at hl 1 rfl) ?_
    refine lv_sipush (v := 9999) hx hb dX5_king_5 (by decide) ?_
    refine lv_icmp_gt (tgt := 31) hx hb dX5_king_8 (by decide) (fun c2 => ?_) (fun c2 => ?_)
    · replace hm := ipos hm c2
      refine lv_iconst (v := (-1)) hx hb dX5_king_31 (by decide) ?_
      obtain rfl := Option.some.inj hm
      exact e_WI S hr hlk hw rfl hw.1 dX5_king_32
    · replace hm := ineg hm c2
      refine lv_iload_n hx hb dX5_king_11 rfl (lv_at hl 2 rfl) ?_
      refine lv_iconst (v := 1) hx hb dX5_king_12 (by decide) ?_
      refine lv_icmp_lt (tgt := 31) hx hb dX5_king_13 (by decide) (fun c3 => ?_) (fun c3 => ?_)
      · replace hm := ipos hm c3
        refine lv_iconst (v := (-1)) hx hb dX5_king_31 (by decide) ?_
        obtain rfl := Option.some.inj hm
        exact e_WI S hr hlk hw rfl hw.1 dX5_king_32
      · replace hm := ineg hm c3
        refine lv_iload_n hx hb dX5_king_16 rfl (lv_at hl 2 rfl) ?_
        refine lv_bipush (v := 40) hx hb dX5_king_17 (by decide) ?_
        refine lv_icmp_gt (tgt := 31) hx hb dX5_king_19 (by decide) (fun c4 => ?_) (fun c4 => ?_)
        · replace hm := ipos hm c4
          refine lv_iconst (v := (-1)) hx hb dX5_king_31 (by decide) ?_
          obtain rfl := Option.some.inj hm
          exact e_WI S hr hlk hw rfl hw.1 dX5_king_32
        · replace hm := ineg hm c4
          refine lv_iload_n hx hb dX5_king_22 rfl (lv_at hl 3 rfl) ?_
          refine lv_if_lt (tgt := 31) hx hb dX5_king_23 (by decide) (fun c5 => ?_) (fun c5 => ?_)
          · replace hm := ipos hm c5
            refine lv_iconst (v := (-1)) hx hb dX5_king_31 (by decide) ?_
            obtain rfl := Option.some.inj hm
            exact e_WI S hr hlk hw rfl hw.1 dX5_king_32
          · replace hm := ineg hm c5
            refine lv_iload_n hx hb dX5_king_26 rfl (lv_at hl 3 rfl) ?_
            refine lv_iconst (v := 2) hx hb dX5_king_27 (by decide) ?_
            refine lv_icmp_le (tgt := 33) hx hb dX5_king_28 (by decide) (fun c6 => ?_) (fun c6 => ?_)
            · replace hm := ipos hm c6
              refine lv_aload_n hx hb dX5_king_33 rfl (lv_at hl 0 rfl) ?_
              refine f_get S hK hw.1 in_X5_king_X5 0 rfl rfl 5 (by decide) (List.mem_of_getElem? (i := 1) rfl) rfl rfl dX5_king_34 ?_
              refine lv_aload_n hx hb dX5_king_37 rfl (lv_at hl 0 rfl) ?_
              refine f_get S hK hw.1 in_X5_king_X5 0 rfl rfl 4 (by decide) (List.mem_of_getElem? (i := 2) rfl) rfl rfl dX5_king_38 ?_
              obtain ⟨r7, h8, hm⟩ := ob hm
              refine k_rVl S hK hw.1 cal_X4_packed gX5_king_X4_packed (c_X4_packed l D cC cI cJ a_no no_asked no_brought no_friends no_used no_crumbs no_day r7 h8) ⟨⟨rfl, rfl⟩, Nat.le_of_ble_eq_true rfl, Nat.le_of_ble_eq_true rfl⟩ [11] rfl 11 rfl rfl rfl hl.1 rfl (Nat.le_of_ble_eq_true rfl) dX5_king_41 ⟨Nat.zero_le _, Nat.zero_le _⟩ ?_
              obtain ⟨r9, h10, hm⟩ := ob hm
              refine k_wVv S hK hw cal_X4_unpack gX5_king_X4_unpack (c_X4_unpack l D cC cI cJ a_tr tr_asked tr_brought tr_friends tr_used tr_crumbs tr_day r7 (aw _) (hw.own [12] (by decide) rfl) r9 h10) ⟨⟨rfl, rfl⟩, Nat.le_of_ble_eq_true rfl, Nat.le_of_ble_eq_true rfl⟩ [12] rfl 12 rfl rfl rfl hl.1 rfl (Nat.le_of_ble_eq_true rfl) dX5_king_44 ⟨Nat.zero_le _, Nat.zero_le _⟩ (fun H locs hJ hB => ?_)
              have hw := hJ _ hB rfl
              replace hw : Wd D A _ (wd_22 cC cI cJ a_x g_x_text x_letters a_mo g_x_spare a_no a_tr g_x_undoable g_x_kept g_x_seen g_x_unseen g_x_search a_mo mo_tasks mo_helpers mo_askedFirst mo_crumbsFirst mo_lastDay a_mo_kinds a_mo_days a_mo_rideDays a_mo_helpKinds a_mo_nexts a_mo_helperKinds a_mo_prices a_mo_helpersOfKind a_mo_numbers a_mo_kinds mo_kinds a_mo_days mo_days a_mo_rideDays mo_rideDays a_mo_helpKinds mo_helpKinds a_mo_nexts mo_nexts a_mo_helperKinds mo_helperKinds a_mo_prices mo_prices a_mo_helpersOfKind mo_helpersOfKind a_mo_numbers mo_numbers a_no no_asked no_brought no_friends no_used no_crumbs no_day a_tr r9.1 r9.2.1 r9.2.2.1 r9.2.2.2.1 r9.2.2.2.2.1 r9.2.2.2.2.2) H locs := hw
              refine lv_iconst (v := 0) hx hb dX5_king_47 (by decide) ?_
              refine lv_istore (lv' := [(4, .int (0 : Int32)), (0, .ref a_x), (1, .int p0), (2, .int p1), (3, .int p2)]) hx hb dX5_king_48 hl (by decide) rfl (fun ls hl => ?_)
              obtain ⟨r16, h17, hm⟩ := ob hm
              refine t_X5_king_50 l S hK a_x g_x_text a_mo g_x_spare a_no a_tr g_x_undoable g_x_kept g_x_seen g_x_unseen g_x_search a_mo_kinds a_mo_days a_mo_rideDays a_mo_helpKinds a_mo_nexts a_mo_helperKinds a_mo_prices a_mo_helpersOfKind a_mo_numbers p0 p1 p2 x_letters mo_tasks mo_helpers mo_askedFirst mo_crumbsFirst mo_lastDay mo_kinds mo_days mo_rideDays mo_helpKinds mo_nexts mo_helperKinds mo_prices mo_helpersOfKind mo_numbers no_asked no_brought no_friends no_used no_crumbs no_day N (0 : Int32) r9.1 r9.2.1 r9.2.2.1 r9.2.2.2.1 r9.2.2.2.2.1 r9.2.2.2.2.2 r16 h17  _ _ ls hw (lv_sub hl [1, 2, 3, 4, 0] rfl) (fun H locs ls hw hl => ?_)
              refine lv_iload_n hx hb dX5_king_76 rfl (lv_at hl 1 rfl) ?_
              refine lv_if_ne (tgt := 91) hx hb dX5_king_77 (by decide) (fun c18 => ?_) (fun c18 => ?_)
              · replace hm := ineg hm c18
                refine lv_iload_n hx hb dX5_king_91 rfl (lv_at hl 1 rfl) ?_
                refine lv_iconst (v := 1) hx hb dX5_king_92 (by decide) ?_
                refine lv_icmp_ne (tgt := 106) hx hb dX5_king_93 (by decide) (fun c19 => ?_) (fun c19 => ?_)
                · replace hm := ineg hm c19
                  refine lv_aload_n hx hb dX5_king_106 rfl (lv_at hl 0 rfl) ?_
                  refine f_get S hK hw.1 in_X5_king_X5 0 rfl rfl 5 (by decide) (List.mem_of_getElem? (i := 1) rfl) rfl rfl dX5_king_107 ?_
                  refine lv_aload_n hx hb dX5_king_110 rfl (lv_at hl 0 rfl) ?_
                  refine f_get S hK hw.1 in_X5_king_X5 0 rfl rfl 2 (by decide) (List.mem_of_getElem? (i := 5) rfl) rfl rfl dX5_king_111 ?_
                  obtain ⟨r20, h21, hm⟩ := ob hm
                  refine k_rVi S hK hw.1 cal_X4_isLost gX5_king_X4_isLost (c_X4_isLost l D cC cI cJ a_tr a_mo a_mo_kinds a_mo_days a_mo_rideDays a_mo_helpKinds a_mo_nexts a_mo_helperKinds a_mo_prices a_mo_helpersOfKind a_mo_numbers r16.1 r16.2.1 r16.2.2.1 r16.2.2.2.1 r16.2.2.2.2.1 r16.2.2.2.2.2 mo_tasks mo_helpers mo_askedFirst mo_crumbsFirst mo_lastDay mo_kinds mo_days mo_rideDays mo_helpKinds mo_nexts mo_helperKinds mo_prices mo_helpersOfKind mo_numbers r20 h21) ⟨⟨rfl, rfl⟩, Nat.le_of_ble_eq_true rfl, Nat.le_of_ble_eq_true rfl⟩ [12, 1, 2, 3, 4, 5, 6, 7, 8, 9, 10] rfl 12 rfl rfl rfl hl.1 rfl (Nat.le_of_ble_eq_true rfl) dX5_king_114 ⟨Nat.zero_le _, Nat.zero_le _⟩ ?_
                  obtain ⟨r22, h23, hm⟩ := ob hm
                  refine k_rSi S hK hw.1 cal_X5_oneIf gX5_king_X5_oneIf (c_X5_oneIf l D cC cI cJ r20 r22 h23) ⟨⟨rfl, rfl⟩, Nat.le_of_ble_eq_true rfl, Nat.le_of_ble_eq_true rfl⟩ [] rfl rfl hl.1 rfl (Nat.le_of_ble_eq_true rfl) dX5_king_117 ⟨Nat.zero_le _, Nat.zero_le _⟩ ?_
                  obtain rfl := Option.some.inj hm
                  exact e_WI S hr hlk hw rfl hw.1 dX5_king_120
                · replace hm := ipos hm c19
                  refine lv_aload_n hx hb dX5_king_96 rfl (lv_at hl 0 rfl) ?_
                  refine f_get S hK hw.1 in_X5_king_X5 0 rfl rfl 5 (by decide) (List.mem_of_getElem? (i := 1) rfl) rfl rfl dX5_king_97 ?_
                  refine f_get S hK hw.1 in_X5_king_X4 12 rfl rfl 5 (by decide) (List.mem_of_getElem? (i := 4) rfl) rfl rfl dX5_king_100 ?_
                  refine lv_goto (tgt := 120) hx hb dX5_king_103 (by decide) ?_
                  obtain rfl := Option.some.inj hm
                  exact e_WI S hr hlk hw rfl hw.1 dX5_king_120
              · replace hm := ipos hm c18
                refine lv_aload_n hx hb dX5_king_80 rfl (lv_at hl 0 rfl) ?_
                refine f_get S hK hw.1 in_X5_king_X5 0 rfl rfl 5 (by decide) (List.mem_of_getElem? (i := 1) rfl) rfl rfl dX5_king_81 ?_
                refine f_get S hK hw.1 in_X5_king_X4 12 rfl rfl 1 (by decide) (List.mem_of_getElem? (i := 3) rfl) rfl rfl dX5_king_84 ?_
                obtain ⟨r24, h25, hm⟩ := ob hm
                refine k_rSi S hK hw.1 cal_J6_bitCount_0f7a4 gX5_king_J6_bitCount_0f7a4 (c_J6_bitCount_0f7a4 l D cC cI cJ r16.2.1 r24 h25) ⟨⟨rfl, rfl⟩, Nat.le_of_ble_eq_true rfl, Nat.le_of_ble_eq_true rfl⟩ [] rfl rfl hl.1 rfl (Nat.le_of_ble_eq_true rfl) dX5_king_87 ⟨Nat.zero_le _, Nat.zero_le _⟩ ?_
                obtain rfl := Option.some.inj hm
                exact e_WI S hr hlk hw rfl hw.1 dX5_king_90
            · replace hm := ineg hm c6
              refine lv_iconst (v := (-1)) hx hb dX5_king_31 (by decide) ?_
              obtain rfl := Option.some.inj hm
              exact e_WI S hr hlk hw rfl hw.1 dX5_king_32

abbrev rX5_lay : Room := { frames := 5, cells := 0, slots := 0, locals := 120 }
theorem cal_X5_lay : Cal yX5_lay wsX5_lay cX5_lay 2 (some .int) RX5 0 := ⟨⟨_, rfl⟩, rfl, by decide +kernel, by decide +kernel, by decide +kernel⟩
theorem in_X5_lay_X0 : ∀ w ∈ wsX00, w ∈ wsX5_lay := fun _ h => (List.mem_cons_of_mem _ (List.mem_append_left _ (List.mem_append_left _ (List.mem_append_left _ (List.mem_append_right _ h)))))
theorem in_X5_lay_X5 : ∀ w ∈ wsX50, w ∈ wsX5_lay := fun _ h => (List.mem_cons_of_mem _ (List.mem_append_left _ (List.mem_append_left _ (List.mem_append_left _ (List.mem_append_left _ (List.mem_append_right _ h))))))
set_option maxHeartbeats 4000000 in
set_option maxRecDepth 100000 in
theorem c_X5_lay (l : Launch) (D : va_G) (cC cI cJ : ClassId) (a_x : Nat) (a_x_text : Nat) (a_mo : Nat) (a_sp : Nat) (a_no : Nat) (g_x_trial : Nat) (a_un : Nat) (a_ke : Nat) (a_se : Nat) (g_x_unseen : Nat) (g_x_search : Nat) (a_mo_kinds : Nat) (a_mo_days : Nat) (a_mo_rideDays : Nat) (a_mo_helpKinds : Nat) (a_mo_nexts : Nat) (a_mo_helperKinds : Nat) (a_mo_prices : Nat) (a_mo_helpersOfKind : Nat) (a_mo_numbers : Nat) (a_sp_kinds : Nat) (a_sp_days : Nat) (a_sp_rideDays : Nat) (a_sp_helpKinds : Nat) (a_sp_nexts : Nat) (a_sp_helperKinds : Nat) (a_sp_prices : Nat) (a_sp_helpersOfKind : Nat) (a_sp_numbers : Nat) (a_un_held : Nat) (a_ke_held : Nat) (a_se_left : Nat) (x_letters : Int32) (x_text : (Nat → Int32)) (mo_tasks : Int32) (mo_helpers : Int32) (mo_askedFirst : Int32) (mo_crumbsFirst : Int32) (mo_lastDay : Int32) (mo_kinds : (Nat → Int32)) (mo_days : (Nat → Int32)) (mo_rideDays : (Nat → Int32)) (mo_helpKinds : (Nat → Int32)) (mo_nexts : (Nat → Int32)) (mo_helperKinds : (Nat → Int32)) (mo_prices : (Nat → Int32)) (mo_helpersOfKind : (Nat → Int32)) (mo_numbers : (Nat → Int32)) (sp_tasks : Int32) (sp_helpers : Int32) (sp_askedFirst : Int32) (sp_crumbsFirst : Int32) (sp_lastDay : Int32) (sp_kinds : (Nat → Int32)) (sp_days : (Nat → Int32)) (sp_rideDays : (Nat → Int32)) (sp_helpKinds : (Nat → Int32)) (sp_nexts : (Nat → Int32)) (sp_helperKinds : (Nat → Int32)) (sp_prices : (Nat → Int32)) (sp_helpersOfKind : (Nat → Int32)) (sp_numbers : (Nat → Int32)) (no_asked : Int32) (no_brought : Int32) (no_friends : Int32) (no_used : Int32) (no_crumbs : Int32) (no_day : Int32) (un_size : Int32) (un_held : (Nat → Int64)) (ke_size : Int32) (ke_held : (Nat → Int64)) (se_size : Int32) (se_lastPlace : Int32) (se_left : (Nat → Int32)) (N : Nat) (A : Nat → Prop) (hD : va_D A (wd_23 cC cI cJ a_x a_x_text x_letters a_mo a_sp a_no g_x_trial a_un a_ke a_se g_x_unseen g_x_search a_x_text x_text a_mo mo_tasks mo_helpers mo_askedFirst mo_crumbsFirst mo_lastDay a_mo_kinds a_mo_days a_mo_rideDays a_mo_helpKinds a_mo_nexts a_mo_helperKinds a_mo_prices a_mo_helpersOfKind a_mo_numbers a_mo_kinds mo_kinds a_mo_days mo_days a_mo_rideDays mo_rideDays a_mo_helpKinds mo_helpKinds a_mo_nexts mo_nexts a_mo_helperKinds mo_helperKinds a_mo_prices mo_prices a_mo_helpersOfKind mo_helpersOfKind a_mo_numbers mo_numbers a_sp sp_tasks sp_helpers sp_askedFirst sp_crumbsFirst sp_lastDay a_sp_kinds a_sp_days a_sp_rideDays a_sp_helpKinds a_sp_nexts a_sp_helperKinds a_sp_prices a_sp_helpersOfKind a_sp_numbers a_sp_kinds sp_kinds a_sp_days sp_days a_sp_rideDays sp_rideDays a_sp_helpKinds sp_helpKinds a_sp_nexts sp_nexts a_sp_helperKinds sp_helperKinds a_sp_prices sp_prices a_sp_helpersOfKind sp_helpersOfKind a_sp_numbers sp_numbers a_no no_asked no_brought no_friends no_used no_crumbs no_day a_un un_size a_un_held a_un_held un_held a_ke ke_size a_ke_held a_ke_held ke_held a_se se_size se_lastPlace a_se_left a_se_left se_left)) (out : (Int32 × Int32 × Int32 × Int32 × Int32 × Int32 × (Nat → Int32) × (Nat → Int32) × (Nat → Int32) × (Nat → Int32) × (Nat → Int32) × (Nat → Int32) × (Nat → Int32) × (Nat → Int32) × (Nat → Int32) × Int32 × Int32 × Int32 × Int32 × Int32 × Int32 × Int32 × Int32 × Int32 × Int32 × (Nat → Int32))) (hm : m_X5_lay N x_letters x_text sp_kinds sp_days sp_rideDays sp_helpKinds sp_nexts sp_helperKinds sp_prices sp_helpersOfKind sp_numbers no_asked no_brought no_friends no_used no_crumbs no_day un_size ke_size se_size se_lastPlace se_left = some out) : WrI l yX5_lay wsX5_lay rX5_lay D (tyK cC cI cJ) [.ref a_x] A (wd_23 cC cI cJ a_x a_x_text x_letters a_mo a_sp a_no g_x_trial a_un a_ke a_se g_x_unseen g_x_search a_x_text x_text a_mo mo_tasks mo_helpers mo_askedFirst mo_crumbsFirst mo_lastDay a_mo_kinds a_mo_days a_mo_rideDays a_mo_helpKinds a_mo_nexts a_mo_helperKinds a_mo_prices a_mo_helpersOfKind a_mo_numbers a_mo_kinds mo_kinds a_mo_days mo_days a_mo_rideDays mo_rideDays a_mo_helpKinds mo_helpKinds a_mo_nexts mo_nexts a_mo_helperKinds mo_helperKinds a_mo_prices mo_prices a_mo_helpersOfKind mo_helpersOfKind a_mo_numbers mo_numbers a_sp sp_tasks sp_helpers sp_askedFirst sp_crumbsFirst sp_lastDay a_sp_kinds a_sp_days a_sp_rideDays a_sp_helpKinds a_sp_nexts a_sp_helperKinds a_sp_prices a_sp_helpersOfKind a_sp_numbers a_sp_kinds sp_kinds a_sp_days sp_days a_sp_rideDays sp_rideDays a_sp_helpKinds sp_helpKinds a_sp_nexts sp_nexts a_sp_helperKinds sp_helperKinds a_sp_prices sp_prices a_sp_helpersOfKind sp_helpersOfKind a_sp_numbers sp_numbers a_no no_asked no_brought no_friends no_used no_crumbs no_day a_un un_size a_un_held a_un_held un_held a_ke ke_size a_ke_held a_ke_held ke_held a_se se_size se_lastPlace a_se_left a_se_left se_left) (Bw2 D (fun z_0_2 z_0_3 => (wd_23 cC cI cJ a_x a_x_text x_letters z_0_2 z_0_3 a_no g_x_trial a_un a_ke a_se g_x_unseen g_x_search a_x_text x_text a_mo mo_tasks mo_helpers mo_askedFirst mo_crumbsFirst mo_lastDay a_mo_kinds a_mo_days a_mo_rideDays a_mo_helpKinds a_mo_nexts a_mo_helperKinds a_mo_prices a_mo_helpersOfKind a_mo_numbers a_mo_kinds mo_kinds a_mo_days mo_days a_mo_rideDays mo_rideDays a_mo_helpKinds mo_helpKinds a_mo_nexts mo_nexts a_mo_helperKinds mo_helperKinds a_mo_prices mo_prices a_mo_helpersOfKind mo_helpersOfKind a_mo_numbers mo_numbers a_sp out.2.1 out.2.2.1 out.2.2.2.1 out.2.2.2.2.1 out.2.2.2.2.2.1 a_sp_kinds a_sp_days a_sp_rideDays a_sp_helpKinds a_sp_nexts a_sp_helperKinds a_sp_prices a_sp_helpersOfKind a_sp_numbers a_sp_kinds out.2.2.2.2.2.2.1 a_sp_days out.2.2.2.2.2.2.2.1 a_sp_rideDays out.2.2.2.2.2.2.2.2.1 a_sp_helpKinds out.2.2.2.2.2.2.2.2.2.1 a_sp_nexts out.2.2.2.2.2.2.2.2.2.2.1 a_sp_helperKinds out.2.2.2.2.2.2.2.2.2.2.2.1 a_sp_prices out.2.2.2.2.2.2.2.2.2.2.2.2.1 a_sp_helpersOfKind out.2.2.2.2.2.2.2.2.2.2.2.2.2.1 a_sp_numbers out.2.2.2.2.2.2.2.2.2.2.2.2.2.2.1 a_no out.2.2.2.2.2.2.2.2.2.2.2.2.2.2.2.1 out.2.2.2.2.2.2.2.2.2.2.2.2.2.2.2.2.1 out.2.2.2.2.2.2.2.2.2.2.2.2.2.2.2.2.2.1 out.2.2.2.2.2.2.2.2.2.2.2.2.2.2.2.2.2.2.1 out.2.2.2.2.2.2.2.2.2.2.2.2.2.2.2.2.2.2.2.1 out.2.2.2.2.2.2.2.2.2.2.2.2.2.2.2.2.2.2.2.2.1 a_un out.2.2.2.2.2.2.2.2.2.2.2.2.2.2.2.2.2.2.2.2.2.1 a_un_held a_un_held un_held a_ke out.2.2.2.2.2.2.2.2.2.2.2.2.2.2.2.2.2.2.2.2.2.2.1 a_ke_held a_ke_held ke_held a_se out.2.2.2.2.2.2.2.2.2.2.2.2.2.2.2.2.2.2.2.2.2.2.2.1 out.2.2.2.2.2.2.2.2.2.2.2.2.2.2.2.2.2.2.2.2.2.2.2.2.1 a_se_left a_se_left out.2.2.2.2.2.2.2.2.2.2.2.2.2.2.2.2.2.2.2.2.2.2.2.2.2))) out.1 := by
  unfold m_X5_lay at hm
  refine enter (cc := cX5_lay) (maxL := 2) (ret := (some .int)) (lv := [(0, .ref a_x)]) (by decide) rfl (Nat.le_of_ble_eq_true rfl) rfl ?_
  intro p e s m args below meth c S hr hlk hK hP ls hl
  replace S : CallFix p m c cX5_lay 2 s args wsX5_lay RX5 := S
  have hx := S.1
  have hb := S.2.1
  have hw : Wd D A s.heap (wd_23 cC cI cJ a_x a_x_text x_letters a_mo a_sp a_no g_x_trial a_un a_ke a_se g_x_unseen g_x_search a_x_text x_text a_mo mo_tasks mo_helpers mo_askedFirst mo_crumbsFirst mo_lastDay a_mo_kinds a_mo_days a_mo_rideDays a_mo_helpKinds a_mo_nexts a_mo_helperKinds a_mo_prices a_mo_helpersOfKind a_mo_numbers a_mo_kinds mo_kinds a_mo_days mo_days a_mo_rideDays mo_rideDays a_mo_helpKinds mo_helpKinds a_mo_nexts mo_nexts a_mo_helperKinds mo_helperKinds a_mo_prices mo_prices a_mo_helpersOfKind mo_helpersOfKind a_mo_numbers mo_numbers a_sp sp_tasks sp_helpers sp_askedFirst sp_crumbsFirst sp_lastDay a_sp_kinds a_sp_days a_sp_rideDays a_sp_helpKinds a_sp_nexts a_sp_helperKinds a_sp_prices a_sp_helpersOfKind a_sp_numbers a_sp_kinds sp_kinds a_sp_days sp_days a_sp_rideDays sp_rideDays a_sp_helpKinds sp_helpKinds a_sp_nexts sp_nexts a_sp_helperKinds sp_helperKinds a_sp_prices sp_prices a_sp_helpersOfKind sp_helpersOfKind a_sp_numbers sp_numbers a_no no_asked no_brought no_friends no_used no_crumbs no_day a_un un_size a_un_held a_un_held un_held a_ke ke_size a_ke_held a_ke_held ke_held a_se se_size se_lastPlace a_se_left a_se_left se_left) s.heap [] := ⟨hP, hD, va_S.rf⟩
  have hw0 := hw
  refine lv_aload_n hx hb dX5_lay_0 rfl (lv_at hl 0 rfl) ?_
  refine f_get S hK hw.1 in_X5_lay_X5 0 rfl rfl 3 (by decide) (List.mem_of_getElem? (i := 1) rfl) rfl rfl dX5_lay_1 ?_
  refine lv_aload_n hx hb dX5_lay_4 rfl (lv_at hl 0 rfl) ?_
  refine f_get S hK hw.1 in_X5_lay_X5 0 rfl rfl 0 (by decide) (List.mem_of_getElem? (i := 2) rfl) rfl rfl dX5_lay_5 ?_
  refine lv_aload_n hx hb dX5_lay_8 rfl (lv_at hl 0 rfl) ?_
  refine f_get S hK hw.1 in_X5_lay_X5 0 rfl rfl 1 (by decide) (List.mem_of_getElem? (i := 3) rfl) rfl rfl dX5_lay_9 ?_
  obtain ⟨r1, h2, hm⟩ := ob hm
  refine k_wVi S hK hw cal_X0_readFrom gX5_lay_X0_readFrom (c_X0_readFrom l D cC cI cJ a_sp a_sp_kinds a_sp_days a_sp_rideDays a_sp_helpKinds a_sp_nexts a_sp_helperKinds a_sp_prices a_sp_helpersOfKind a_sp_numbers a_x_text sp_tasks sp_helpers sp_askedFirst sp_crumbsFirst sp_lastDay sp_kinds sp_days sp_rideDays sp_helpKinds sp_nexts sp_helperKinds sp_prices sp_helpersOfKind sp_numbers 200 x_text x_letters N (aw _) (hw.own [12, 13, 14, 15, 16, 17, 18, 19, 20, 21, 1] (by decide) rfl) r1 h2) ⟨⟨rfl, rfl⟩, Nat.le_of_ble_eq_true rfl, Nat.le_of_ble_eq_true rfl⟩ [12, 13, 14, 15, 16, 17, 18, 19, 20, 21, 1] rfl 12 rfl rfl rfl hl.1 rfl (Nat.le_of_ble_eq_true rfl) dX5_lay_12 ⟨Nat.zero_le _, Nat.zero_le _⟩ (fun H locs hJ hB => ?_)
  have hw := hJ _ hB rfl
  replace hw : Wd D A _ (wd_23 cC cI cJ a_x a_x_text x_letters a_mo a_sp a_no g_x_trial a_un a_ke a_se g_x_unseen g_x_search a_x_text x_text a_mo mo_tasks mo_helpers mo_askedFirst mo_crumbsFirst mo_lastDay a_mo_kinds a_mo_days a_mo_rideDays a_mo_helpKinds a_mo_nexts a_mo_helperKinds a_mo_prices a_mo_helpersOfKind a_mo_numbers a_mo_kinds mo_kinds a_mo_days mo_days a_mo_rideDays mo_rideDays a_mo_helpKinds mo_helpKinds a_mo_nexts mo_nexts a_mo_helperKinds mo_helperKinds a_mo_prices mo_prices a_mo_helpersOfKind mo_helpersOfKind a_mo_numbers mo_numbers a_sp r1.2.1 r1.2.2.1 r1.2.2.2.1 r1.2.2.2.2.1 r1.2.2.2.2.2.1 a_sp_kinds a_sp_days a_sp_rideDays a_sp_helpKinds a_sp_nexts a_sp_helperKinds a_sp_prices a_sp_helpersOfKind a_sp_numbers a_sp_kinds r1.2.2.2.2.2.2.1 a_sp_days r1.2.2.2.2.2.2.2.1 a_sp_rideDays r1.2.2.2.2.2.2.2.2.1 a_sp_helpKinds r1.2.2.2.2.2.2.2.2.2.1 a_sp_nexts r1.2.2.2.2.2.2.2.2.2.2.1 a_sp_helperKinds r1.2.2.2.2.2.2.2.2.2.2.2.1 a_sp_prices r1.2.2.2.2.2.2.2.2.2.2.2.2.1 a_sp_helpersOfKind r1.2.2.2.2.2.2.2.2.2.2.2.2.2.1 a_sp_numbers r1.2.2.2.2.2.2.2.2.2.2.2.2.2.2 a_no no_asked no_brought no_friends no_used no_crumbs no_day a_un un_size a_un_held a_un_held un_held a_ke ke_size a_ke_held a_ke_held ke_held a_se se_size se_lastPlace a_se_left a_se_left se_left) H locs := hw
  refine lv_bipush (v := (-4)) hx hb dX5_lay_15 (by decide) ?_
  refine lv_icmp_ne (tgt := 30) hx hb dX5_lay_17 (by decide) (fun c3 => ?_) (fun c3 => ?_)
  · replace hm := ineg hm c3
    refine lv_bipush (v := (-2)) hx hb dX5_lay_30 (by decide) ?_
    obtain rfl := Option.some.inj hm
    exact e_WI S hr hlk hw rfl ⟨a_mo, a_sp, hw.1⟩ dX5_lay_32
  · replace hm := ipos hm c3
    refine lv_aload_n hx hb dX5_lay_20 rfl (lv_at hl 0 rfl) ?_
    refine f_get S hK hw.1 in_X5_lay_X5 0 rfl rfl 3 (by decide) (List.mem_of_getElem? (i := 1) rfl) rfl rfl dX5_lay_21 ?_
    obtain ⟨r4, h5, hm⟩ := ob hm
    refine k_rVi S hK hw.1 cal_X0_canBeLaid gX5_lay_X0_canBeLaid (c_X0_canBeLaid l D cC cI cJ a_sp a_sp_kinds a_sp_days a_sp_rideDays a_sp_helpKinds a_sp_nexts a_sp_helperKinds a_sp_prices a_sp_helpersOfKind a_sp_numbers r1.2.1 r1.2.2.1 r1.2.2.2.1 r1.2.2.2.2.1 r1.2.2.2.2.2.1 r1.2.2.2.2.2.2.1 r1.2.2.2.2.2.2.2.1 r1.2.2.2.2.2.2.2.2.1 r1.2.2.2.2.2.2.2.2.2.1 r1.2.2.2.2.2.2.2.2.2.2.1 r1.2.2.2.2.2.2.2.2.2.2.2.1 r1.2.2.2.2.2.2.2.2.2.2.2.2.1 r1.2.2.2.2.2.2.2.2.2.2.2.2.2.1 r1.2.2.2.2.2.2.2.2.2.2.2.2.2.2 N r4 h5) ⟨⟨rfl, rfl⟩, Nat.le_of_ble_eq_true rfl, Nat.le_of_ble_eq_true rfl⟩ [12, 13, 14, 15, 16, 17, 18, 19, 20, 21] rfl 12 rfl rfl rfl hl.1 rfl (Nat.le_of_ble_eq_true rfl) dX5_lay_24 ⟨Nat.zero_le _, Nat.zero_le _⟩ ?_
    refine lv_if_ne (tgt := 33) hx hb dX5_lay_27 (by decide) (fun c6 => ?_) (fun c6 => ?_)
    · replace hm := ineg hm c6
      refine lv_aload_n hx hb dX5_lay_33 rfl (lv_at hl 0 rfl) ?_
      refine f_get S hK hw.1 in_X5_lay_X5 0 rfl rfl 3 (by decide) (List.mem_of_getElem? (i := 1) rfl) rfl rfl dX5_lay_34 ?_
      refine lv_astore_n (lv' := [(1, .ref a_sp), (0, .ref a_x)]) hx hb dX5_lay_37 rfl hl (by decide) rfl (fun ls hl => ?_)
      refine lv_aload_n hx hb dX5_lay_38 rfl (lv_at hl 1 rfl) ?_
      refine lv_aload_n hx hb dX5_lay_39 rfl (lv_at hl 1 rfl) ?_
      refine f_get S hK hw.1 in_X5_lay_X5 0 rfl rfl 2 (by decide) (List.mem_of_getElem? (i := 4) rfl) rfl rfl dX5_lay_40 ?_
      refine f_put S hK hw in_X5_lay_X5 tyX5_ok nmX5 0 rfl rfl 3 (by decide) (List.mem_of_getElem? (i := 1) rfl) rfl rfl rfl rfl (Nat.le_of_ble_eq_true rfl) (ws1 := (wd_23 cC cI cJ a_x a_x_text x_letters a_mo a_mo a_no g_x_trial a_un a_ke a_se g_x_unseen g_x_search a_x_text x_text a_mo mo_tasks mo_helpers mo_askedFirst mo_crumbsFirst mo_lastDay a_mo_kinds a_mo_days a_mo_rideDays a_mo_helpKinds a_mo_nexts a_mo_helperKinds a_mo_prices a_mo_helpersOfKind a_mo_numbers a_mo_kinds mo_kinds a_mo_days mo_days a_mo_rideDays mo_rideDays a_mo_helpKinds mo_helpKinds a_mo_nexts mo_nexts a_mo_helperKinds mo_helperKinds a_mo_prices mo_prices a_mo_helpersOfKind mo_helpersOfKind a_mo_numbers mo_numbers a_sp r1.2.1 r1.2.2.1 r1.2.2.2.1 r1.2.2.2.2.1 r1.2.2.2.2.2.1 a_sp_kinds a_sp_days a_sp_rideDays a_sp_helpKinds a_sp_nexts a_sp_helperKinds a_sp_prices a_sp_helpersOfKind a_sp_numbers a_sp_kinds r1.2.2.2.2.2.2.1 a_sp_days r1.2.2.2.2.2.2.2.1 a_sp_rideDays r1.2.2.2.2.2.2.2.2.1 a_sp_helpKinds r1.2.2.2.2.2.2.2.2.2.1 a_sp_nexts r1.2.2.2.2.2.2.2.2.2.2.1 a_sp_helperKinds r1.2.2.2.2.2.2.2.2.2.2.2.1 a_sp_prices r1.2.2.2.2.2.2.2.2.2.2.2.2.1 a_sp_helpersOfKind r1.2.2.2.2.2.2.2.2.2.2.2.2.2.1 a_sp_numbers r1.2.2.2.2.2.2.2.2.2.2.2.2.2.2 a_no no_asked no_brought no_friends no_used no_crumbs no_day a_un un_size a_un_held a_un_held un_held a_ke ke_size a_ke_held a_ke_held ke_held a_se se_size se_lastPlace a_se_left a_se_left se_left)) rfl dX5_lay_43 (fun H locs hw => ?_)
      refine lv_aload_n hx hb dX5_lay_46 rfl (lv_at hl 1 rfl) ?_
      refine lv_aload_n hx hb dX5_lay_47 rfl (lv_at hl 0 rfl) ?_
      refine f_put S hK hw in_X5_lay_X5 tyX5_ok nmX5 0 rfl rfl 2 (by decide) (List.mem_of_getElem? (i := 4) rfl) rfl rfl rfl rfl (Nat.le_of_ble_eq_true rfl) (ws1 := (wd_23 cC cI cJ a_x a_x_text x_letters a_sp a_mo a_no g_x_trial a_un a_ke a_se g_x_unseen g_x_search a_x_text x_text a_mo mo_tasks mo_helpers mo_askedFirst mo_crumbsFirst mo_lastDay a_mo_kinds a_mo_days a_mo_rideDays a_mo_helpKinds a_mo_nexts a_mo_helperKinds a_mo_prices a_mo_helpersOfKind a_mo_numbers a_mo_kinds mo_kinds a_mo_days mo_days a_mo_rideDays mo_rideDays a_mo_helpKinds mo_helpKinds a_mo_nexts mo_nexts a_mo_helperKinds mo_helperKinds a_mo_prices mo_prices a_mo_helpersOfKind mo_helpersOfKind a_mo_numbers mo_numbers a_sp r1.2.1 r1.2.2.1 r1.2.2.2.1 r1.2.2.2.2.1 r1.2.2.2.2.2.1 a_sp_kinds a_sp_days a_sp_rideDays a_sp_helpKinds a_sp_nexts a_sp_helperKinds a_sp_prices a_sp_helpersOfKind a_sp_numbers a_sp_kinds r1.2.2.2.2.2.2.1 a_sp_days r1.2.2.2.2.2.2.2.1 a_sp_rideDays r1.2.2.2.2.2.2.2.2.1 a_sp_helpKinds r1.2.2.2.2.2.2.2.2.2.1 a_sp_nexts r1.2.2.2.2.2.2.2.2.2.2.1 a_sp_helperKinds r1.2.2.2.2.2.2.2.2.2.2.2.1 a_sp_prices r1.2.2.2.2.2.2.2.2.2.2.2.2.1 a_sp_helpersOfKind r1.2.2.2.2.2.2.2.2.2.2.2.2.2.1 a_sp_numbers r1.2.2.2.2.2.2.2.2.2.2.2.2.2.2 a_no no_asked no_brought no_friends no_used no_crumbs no_day a_un un_size a_un_held a_un_held un_held a_ke ke_size a_ke_held a_ke_held ke_held a_se se_size se_lastPlace a_se_left a_se_left se_left)) rfl dX5_lay_48 (fun H locs hw => ?_)
      refine lv_aload_n hx hb dX5_lay_51 rfl (lv_at hl 1 rfl) ?_
      refine f_get S hK hw.1 in_X5_lay_X5 0 rfl rfl 4 (by decide) (List.mem_of_getElem? (i := 5) rfl) rfl rfl dX5_lay_52 ?_
      refine lv_aload_n hx hb dX5_lay_55 rfl (lv_at hl 1 rfl) ?_
      refine f_get S hK hw.1 in_X5_lay_X5 0 rfl rfl 2 (by decide) (List.mem_of_getElem? (i := 4) rfl) rfl rfl dX5_lay_56 ?_
      obtain ⟨r7, h8, hm⟩ := ob hm
      refine k_wVv S hK hw cal_X4_begin gX5_lay_X4_begin (c_X4_begin l D cC cI cJ a_no a_sp a_sp_kinds a_sp_days a_sp_rideDays a_sp_helpKinds a_sp_nexts a_sp_helperKinds a_sp_prices a_sp_helpersOfKind a_sp_numbers no_asked no_brought no_friends no_used no_crumbs no_day r1.2.1 r1.2.2.1 r1.2.2.2.1 r1.2.2.2.2.1 r1.2.2.2.2.2.1 r1.2.2.2.2.2.2.1 r1.2.2.2.2.2.2.2.1 r1.2.2.2.2.2.2.2.2.1 r1.2.2.2.2.2.2.2.2.2.1 r1.2.2.2.2.2.2.2.2.2.2.1 r1.2.2.2.2.2.2.2.2.2.2.2.1 r1.2.2.2.2.2.2.2.2.2.2.2.2.1 r1.2.2.2.2.2.2.2.2.2.2.2.2.2.1 r1.2.2.2.2.2.2.2.2.2.2.2.2.2.2 (aw _) (hw.own [22, 12, 13, 14, 15, 16, 17, 18, 19, 20, 21] (by decide) rfl) r7 h8) ⟨⟨rfl, rfl⟩, Nat.le_of_ble_eq_true rfl, Nat.le_of_ble_eq_true rfl⟩ [22, 12, 13, 14, 15, 16, 17, 18, 19, 20, 21] rfl 22 rfl rfl rfl hl.1 rfl (Nat.le_of_ble_eq_true rfl) dX5_lay_59 ⟨Nat.zero_le _, Nat.zero_le _⟩ (fun H locs hJ hB => ?_)
      have hw := hJ _ hB rfl
      replace hw : Wd D A _ (wd_23 cC cI cJ a_x a_x_text x_letters a_sp a_mo a_no g_x_trial a_un a_ke a_se g_x_unseen g_x_search a_x_text x_text a_mo mo_tasks mo_helpers mo_askedFirst mo_crumbsFirst mo_lastDay a_mo_kinds a_mo_days a_mo_rideDays a_mo_helpKinds a_mo_nexts a_mo_helperKinds a_mo_prices a_mo_helpersOfKind a_mo_numbers a_mo_kinds mo_kinds a_mo_days mo_days a_mo_rideDays mo_rideDays a_mo_helpKinds mo_helpKinds a_mo_nexts mo_nexts a_mo_helperKinds mo_helperKinds a_mo_prices mo_prices a_mo_helpersOfKind mo_helpersOfKind a_mo_numbers mo_numbers a_sp r1.2.1 r1.2.2.1 r1.2.2.2.1 r1.2.2.2.2.1 r1.2.2.2.2.2.1 a_sp_kinds a_sp_days a_sp_rideDays a_sp_helpKinds a_sp_nexts a_sp_helperKinds a_sp_prices a_sp_helpersOfKind a_sp_numbers a_sp_kinds r1.2.2.2.2.2.2.1 a_sp_days r1.2.2.2.2.2.2.2.1 a_sp_rideDays r1.2.2.2.2.2.2.2.2.1 a_sp_helpKinds r1.2.2.2.2.2.2.2.2.2.1 a_sp_nexts r1.2.2.2.2.2.2.2.2.2.2.1 a_sp_helperKinds r1.2.2.2.2.2.2.2.2.2.2.2.1 a_sp_prices r1.2.2.2.2.2.2.2.2.2.2.2.2.1 a_sp_helpersOfKind r1.2.2.2.2.2.2.2.2.2.2.2.2.2.1 a_sp_numbers r1.2.2.2.2.2.2.2.2.2.2.2.2.2.2 a_no r7.1 r7.2.1 r7.2.2.1 r7.2.2.2.1 r7.2.2.2.2.1 r7.2.2.2.2.2 a_un un_size a_un_held a_un_held un_held a_ke ke_size a_ke_held a_ke_held ke_held a_se se_size se_lastPlace a_se_left a_se_left se_left) H locs := hw
      refine lv_aload_n hx hb dX5_lay_62 rfl (lv_at hl 1 rfl) ?_
      refine f_get S hK hw.1 in_X5_lay_X5 0 rfl rfl 6 (by decide) (List.mem_of_getElem? (i := 6) rfl) rfl rfl dX5_lay_63 ?_
      obtain ⟨r9, h10, hm⟩ := ob hm
      refine k_wVv S hK hw cal_X1_clear gX5_lay_X1_clear (c_X1_clear l D cC cI cJ a_un a_un_held un_size 8 un_held (aw _) (hw.own [23, 24] (by decide) rfl) r9 h10) ⟨⟨rfl, rfl⟩, Nat.le_of_ble_eq_true rfl, Nat.le_of_ble_eq_true rfl⟩ [23, 24] rfl 23 rfl rfl rfl hl.1 rfl (Nat.le_of_ble_eq_true rfl) dX5_lay_66 ⟨Nat.zero_le _, Nat.zero_le _⟩ (fun H locs hJ hB => ?_)
      have hw := hJ _ hB rfl
      replace hw : Wd D A _ (wd_23 cC cI cJ a_x a_x_text x_letters a_sp a_mo a_no g_x_trial a_un a_ke a_se g_x_unseen g_x_search a_x_text x_text a_mo mo_tasks mo_helpers mo_askedFirst mo_crumbsFirst mo_lastDay a_mo_kinds a_mo_days a_mo_rideDays a_mo_helpKinds a_mo_nexts a_mo_helperKinds a_mo_prices a_mo_helpersOfKind a_mo_numbers a_mo_kinds mo_kinds a_mo_days mo_days a_mo_rideDays mo_rideDays a_mo_helpKinds mo_helpKinds a_mo_nexts mo_nexts a_mo_helperKinds mo_helperKinds a_mo_prices mo_prices a_mo_helpersOfKind mo_helpersOfKind a_mo_numbers mo_numbers a_sp r1.2.1 r1.2.2.1 r1.2.2.2.1 r1.2.2.2.2.1 r1.2.2.2.2.2.1 a_sp_kinds a_sp_days a_sp_rideDays a_sp_helpKinds a_sp_nexts a_sp_helperKinds a_sp_prices a_sp_helpersOfKind a_sp_numbers a_sp_kinds r1.2.2.2.2.2.2.1 a_sp_days r1.2.2.2.2.2.2.2.1 a_sp_rideDays r1.2.2.2.2.2.2.2.2.1 a_sp_helpKinds r1.2.2.2.2.2.2.2.2.2.1 a_sp_nexts r1.2.2.2.2.2.2.2.2.2.2.1 a_sp_helperKinds r1.2.2.2.2.2.2.2.2.2.2.2.1 a_sp_prices r1.2.2.2.2.2.2.2.2.2.2.2.2.1 a_sp_helpersOfKind r1.2.2.2.2.2.2.2.2.2.2.2.2.2.1 a_sp_numbers r1.2.2.2.2.2.2.2.2.2.2.2.2.2.2 a_no r7.1 r7.2.1 r7.2.2.1 r7.2.2.2.1 r7.2.2.2.2.1 r7.2.2.2.2.2 a_un r9 a_un_held a_un_held un_held a_ke ke_size a_ke_held a_ke_held ke_held a_se se_size se_lastPlace a_se_left a_se_left se_left) H locs := hw
      refine lv_aload_n hx hb dX5_lay_69 rfl (lv_at hl 1 rfl) ?_
      refine f_get S hK hw.1 in_X5_lay_X5 0 rfl rfl 7 (by decide) (List.mem_of_getElem? (i := 7) rfl) rfl rfl dX5_lay_70 ?_
      obtain ⟨r11, h12, hm⟩ := ob hm
      refine k_wVv S hK hw cal_X1_clear gX5_lay_X1_clear (c_X1_clear l D cC cI cJ a_ke a_ke_held ke_size 2 ke_held (aw _) (hw.own [25, 26] (by decide) rfl) r11 h12) ⟨⟨rfl, rfl⟩, Nat.le_of_ble_eq_true rfl, Nat.le_of_ble_eq_true rfl⟩ [25, 26] rfl 25 rfl rfl rfl hl.1 rfl (Nat.le_of_ble_eq_true rfl) dX5_lay_73 ⟨Nat.zero_le _, Nat.zero_le _⟩ (fun H locs hJ hB => ?_)
      have hw := hJ _ hB rfl
      replace hw : Wd D A _ (wd_23 cC cI cJ a_x a_x_text x_letters a_sp a_mo a_no g_x_trial a_un a_ke a_se g_x_unseen g_x_search a_x_text x_text a_mo mo_tasks mo_helpers mo_askedFirst mo_crumbsFirst mo_lastDay a_mo_kinds a_mo_days a_mo_rideDays a_mo_helpKinds a_mo_nexts a_mo_helperKinds a_mo_prices a_mo_helpersOfKind a_mo_numbers a_mo_kinds mo_kinds a_mo_days mo_days a_mo_rideDays mo_rideDays a_mo_helpKinds mo_helpKinds a_mo_nexts mo_nexts a_mo_helperKinds mo_helperKinds a_mo_prices mo_prices a_mo_helpersOfKind mo_helpersOfKind a_mo_numbers mo_numbers a_sp r1.2.1 r1.2.2.1 r1.2.2.2.1 r1.2.2.2.2.1 r1.2.2.2.2.2.1 a_sp_kinds a_sp_days a_sp_rideDays a_sp_helpKinds a_sp_nexts a_sp_helperKinds a_sp_prices a_sp_helpersOfKind a_sp_numbers a_sp_kinds r1.2.2.2.2.2.2.1 a_sp_days r1.2.2.2.2.2.2.2.1 a_sp_rideDays r1.2.2.2.2.2.2.2.2.1 a_sp_helpKinds r1.2.2.2.2.2.2.2.2.2.1 a_sp_nexts r1.2.2.2.2.2.2.2.2.2.2.1 a_sp_helperKinds r1.2.2.2.2.2.2.2.2.2.2.2.1 a_sp_prices r1.2.2.2.2.2.2.2.2.2.2.2.2.1 a_sp_helpersOfKind r1.2.2.2.2.2.2.2.2.2.2.2.2.2.1 a_sp_numbers r1.2.2.2.2.2.2.2.2.2.2.2.2.2.2 a_no r7.1 r7.2.1 r7.2.2.1 r7.2.2.2.1 r7.2.2.2.2.1 r7.2.2.2.2.2 a_un r9 a_un_held a_un_held un_held a_ke r11 a_ke_held a_ke_held ke_held a_se se_size se_lastPlace a_se_left a_se_left se_left) H locs := hw
      refine lv_aload_n hx hb dX5_lay_76 rfl (lv_at hl 1 rfl) ?_
      refine f_get S hK hw.1 in_X5_lay_X5 0 rfl rfl 8 (by decide) (List.mem_of_getElem? (i := 8) rfl) rfl rfl dX5_lay_77 ?_
      obtain ⟨r13, h14, hm⟩ := ob hm
      refine k_wVv S hK hw cal_X3_clear gX5_lay_X3_clear (c_X3_clear l D cC cI cJ a_se a_se_left se_size se_lastPlace se_left N (aw _) (hw.own [27, 28] (by decide) rfl) r13 h14) ⟨⟨rfl, rfl⟩, Nat.le_of_ble_eq_true rfl, Nat.le_of_ble_eq_true rfl⟩ [27, 28] rfl 27 rfl rfl rfl hl.1 rfl (Nat.le_of_ble_eq_true rfl) dX5_lay_80 ⟨Nat.zero_le _, Nat.zero_le _⟩ (fun H locs hJ hB => ?_)
      have hw := hJ _ hB rfl
      replace hw : Wd D A _ (wd_23 cC cI cJ a_x a_x_text x_letters a_sp a_mo a_no g_x_trial a_un a_ke a_se g_x_unseen g_x_search a_x_text x_text a_mo mo_tasks mo_helpers mo_askedFirst mo_crumbsFirst mo_lastDay a_mo_kinds a_mo_days a_mo_rideDays a_mo_helpKinds a_mo_nexts a_mo_helperKinds a_mo_prices a_mo_helpersOfKind a_mo_numbers a_mo_kinds mo_kinds a_mo_days mo_days a_mo_rideDays mo_rideDays a_mo_helpKinds mo_helpKinds a_mo_nexts mo_nexts a_mo_helperKinds mo_helperKinds a_mo_prices mo_prices a_mo_helpersOfKind mo_helpersOfKind a_mo_numbers mo_numbers a_sp r1.2.1 r1.2.2.1 r1.2.2.2.1 r1.2.2.2.2.1 r1.2.2.2.2.2.1 a_sp_kinds a_sp_days a_sp_rideDays a_sp_helpKinds a_sp_nexts a_sp_helperKinds a_sp_prices a_sp_helpersOfKind a_sp_numbers a_sp_kinds r1.2.2.2.2.2.2.1 a_sp_days r1.2.2.2.2.2.2.2.1 a_sp_rideDays r1.2.2.2.2.2.2.2.2.1 a_sp_helpKinds r1.2.2.2.2.2.2.2.2.2.1 a_sp_nexts r1.2.2.2.2.2.2.2.2.2.2.1 a_sp_helperKinds r1.2.2.2.2.2.2.2.2.2.2.2.1 a_sp_prices r1.2.2.2.2.2.2.2.2.2.2.2.2.1 a_sp_helpersOfKind r1.2.2.2.2.2.2.2.2.2.2.2.2.2.1 a_sp_numbers r1.2.2.2.2.2.2.2.2.2.2.2.2.2.2 a_no r7.1 r7.2.1 r7.2.2.1 r7.2.2.2.1 r7.2.2.2.2.1 r7.2.2.2.2.2 a_un r9 a_un_held a_un_held un_held a_ke r11 a_ke_held a_ke_held ke_held a_se r13.1 r13.2.1 a_se_left a_se_left r13.2.2) H locs := hw
      refine lv_aload_n hx hb dX5_lay_83 rfl (lv_at hl 1 rfl) ?_
      refine f_get S hK hw.1 in_X5_lay_X5 0 rfl rfl 2 (by decide) (List.mem_of_getElem? (i := 4) rfl) rfl rfl dX5_lay_84 ?_
      refine f_get S hK hw.1 in_X5_lay_X0 12 rfl rfl 0 (by decide) (List.mem_of_getElem? (i := 9) rfl) rfl rfl dX5_lay_87 ?_
      obtain rfl := Option.some.inj hm
      exact e_WI S hr hlk hw rfl ⟨a_sp, a_mo, hw.1⟩ dX5_lay_90
    · replace hm := ipos hm c6
      refine lv_bipush (v := (-2)) hx hb dX5_lay_30 (by decide) ?_
      obtain rfl := Option.some.inj hm
      exact e_WI S hr hlk hw rfl ⟨a_mo, a_sp, hw.1⟩ dX5_lay_32

abbrev rX5_mayCome : Room := { frames := 2, cells := 0, slots := 0, locals := 45 }
theorem cal_X5_mayCome : Cal yX5_mayCome wsX5_mayCome cX5_mayCome 1 (some .int) RX5 0 := ⟨⟨_, rfl⟩, rfl, by decide +kernel, by decide +kernel, by decide +kernel⟩
theorem in_X5_mayCome_X5 : ∀ w ∈ wsX50, w ∈ wsX5_mayCome := fun _ h => (List.mem_cons_of_mem _ (List.mem_append_left _ (List.mem_append_left _ (List.mem_append_right _ h))))
set_option maxHeartbeats 4000000 in
set_option maxRecDepth 100000 in
theorem c_X5_mayCome (l : Launch) (D : va_G) (cC cI cJ : ClassId) (a_x : Nat) (g_x_text : Nat) (a_mo : Nat) (g_x_spare : Nat) (a_no : Nat) (g_x_trial : Nat) (g_x_undoable : Nat) (g_x_kept : Nat) (g_x_seen : Nat) (g_x_unseen : Nat) (g_x_search : Nat) (a_mo_kinds : Nat) (a_mo_days : Nat) (a_mo_rideDays : Nat) (a_mo_helpKinds : Nat) (a_mo_nexts : Nat) (a_mo_helperKinds : Nat) (a_mo_prices : Nat) (a_mo_helpersOfKind : Nat) (a_mo_numbers : Nat) (x_letters : Int32) (mo_tasks : Int32) (mo_helpers : Int32) (mo_askedFirst : Int32) (mo_crumbsFirst : Int32) (mo_lastDay : Int32) (mo_kinds : (Nat → Int32)) (mo_days : (Nat → Int32)) (mo_rideDays : (Nat → Int32)) (mo_helpKinds : (Nat → Int32)) (mo_nexts : (Nat → Int32)) (mo_helperKinds : (Nat → Int32)) (mo_prices : (Nat → Int32)) (mo_helpersOfKind : (Nat → Int32)) (mo_numbers : (Nat → Int32)) (no_asked : Int32) (no_brought : Int32) (no_friends : Int32) (no_used : Int32) (no_crumbs : Int32) (no_day : Int32) (N : Nat) (out : Int32) (hm : m_X5_mayCome N mo_tasks mo_nexts no_asked no_brought = some out) : RdI l yX5_mayCome wsX5_mayCome rX5_mayCome D (tyK cC cI cJ) [.ref a_x] (wd_19 cC cI cJ a_x g_x_text x_letters a_mo g_x_spare a_no g_x_trial g_x_undoable g_x_kept g_x_seen g_x_unseen g_x_search a_mo mo_tasks mo_helpers mo_askedFirst mo_crumbsFirst mo_lastDay a_mo_kinds a_mo_days a_mo_rideDays a_mo_helpKinds a_mo_nexts a_mo_helperKinds a_mo_prices a_mo_helpersOfKind a_mo_numbers a_mo_kinds mo_kinds a_mo_days mo_days a_mo_rideDays mo_rideDays a_mo_helpKinds mo_helpKinds a_mo_nexts mo_nexts a_mo_helperKinds mo_helperKinds a_mo_prices mo_prices a_mo_helpersOfKind mo_helpersOfKind a_mo_numbers mo_numbers a_no no_asked no_brought no_friends no_used no_crumbs no_day) out := by
  unfold m_X5_mayCome at hm
  refine enter (cc := cX5_mayCome) (maxL := 1) (ret := (some .int)) (lv := [(0, .ref a_x)]) (by decide) rfl (Nat.le_of_ble_eq_true rfl) rfl ?_
  intro p e s m args below meth c S hr hlk hK hP ls hl
  replace S : CallFix p m c cX5_mayCome 1 s args wsX5_mayCome RX5 := S
  have hx := S.1
  have hb := S.2.1
  refine lv_aload_n hx hb dX5_mayCome_0 rfl (lv_at hl 0 rfl) ?_
  refine f_get S hK hP in_X5_mayCome_X5 0 rfl rfl 4 (by decide) (List.mem_of_getElem? (i := 1) rfl) rfl rfl dX5_mayCome_1 ?_
  refine lv_aload_n hx hb dX5_mayCome_4 rfl (lv_at hl 0 rfl) ?_
  refine f_get S hK hP in_X5_mayCome_X5 0 rfl rfl 2 (by decide) (List.mem_of_getElem? (i := 2) rfl) rfl rfl dX5_mayCome_5 ?_
  obtain ⟨r1, h2, hm⟩ := ob hm
  refine k_rVi S hK hP cal_X4_tasksToCome gX5_mayCome_X4_tasksToCome (c_X4_tasksToCome l D cC cI cJ a_no a_mo a_mo_kinds a_mo_days a_mo_rideDays a_mo_helpKinds a_mo_nexts a_mo_helperKinds a_mo_prices a_mo_helpersOfKind a_mo_numbers no_asked no_brought no_friends no_used no_crumbs no_day mo_tasks mo_helpers mo_askedFirst mo_crumbsFirst mo_lastDay mo_kinds mo_days mo_rideDays mo_helpKinds mo_nexts mo_helperKinds mo_prices mo_helpersOfKind mo_numbers N r1 h2) ⟨⟨rfl, rfl⟩, Nat.le_of_ble_eq_true rfl, Nat.le_of_ble_eq_true rfl⟩ [11, 1, 2, 3, 4, 5, 6, 7, 8, 9, 10] rfl 11 rfl rfl rfl hl.1 rfl (Nat.le_of_ble_eq_true rfl) dX5_mayCome_8 ⟨Nat.zero_le _, Nat.zero_le _⟩ ?_
  exact e_RI S hr hlk (Option.some.inj hm) dX5_mayCome_11
