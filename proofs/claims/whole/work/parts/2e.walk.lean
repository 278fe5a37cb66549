/-! walks: X2_rideFirst X2_placeInFirst X2_waysOf X4_begin X4_tasksToSuggest X4_tryBefriend X4_tryHandUp X4_trySuggest X5_back X5_befriend J6_bitCount_0f7a4 X5_power X5_chancesOfSet -/
abbrev rX2_rideFirst : Room := { frames := 14, cells := 0, slots := 0, locals := 379 }
theorem cal_X2_rideFirst : Cal yX2_rideFirst wsX2_rideFirst cX2_rideFirst 5 (some .int) RX2 1 := ⟨⟨_, rfl⟩, rfl, by decide +kernel, by decide +kernel, by decide +kernel⟩
theorem in_X2_rideFirst_X2 : ∀ w ∈ wsX20, w ∈ wsX2_rideFirst := fun _ h => (List.mem_cons_of_mem _ (List.mem_append_left _ (List.mem_append_left _ (List.mem_append_left _ (List.mem_append_right _ h)))))
set_option maxHeartbeats 4000000 in
set_option maxRecDepth 100000 in
theorem t_X2_rideFirst_11 {p : Program} {e : Env} {s : State} {m : MethodId} {args : Array Value} {below : List Frame} {meth : Method} {c : Code} {Q : State → Prop} (l : Launch) {D : va_G} {cC cI cJ : ClassId} {A : Nat → Prop} {H0 : Heap} (S : CallFix p m c cX2_rideFirst 5 s args wsX2_rideFirst RX2) (hK : KK D (tyK cC cI cJ) s) (a_sr : Nat) (a_sr_known : Nat) (a_ro : Nat) (g_sr_unseen : Nat) (a_mo : Nat) (a_se : Nat) (a_mo_kinds : Nat) (a_mo_days : Nat) (a_mo_rideDays : Nat) (a_mo_helpKinds : Nat) (a_mo_nexts : Nat) (a_mo_helperKinds : Nat) (a_mo_prices : Nat) (a_mo_helpersOfKind : Nat) (a_mo_numbers : Nat) (a_se_left : Nat) (N : Nat) (v1 : Int32) (v2 : Int64) (sr_number : Int64) (sr_enough : Int64) (sr_tooLong : Int32) (mo_tasks : Int32) (mo_helpers : Int32) (mo_askedFirst : Int32) (mo_crumbsFirst : Int32) (mo_lastDay : Int32) (mo_kinds : (Nat → Int32)) (mo_days : (Nat → Int32)) (mo_rideDays : (Nat → Int32)) (mo_helpKinds : (Nat → Int32)) (mo_nexts : (Nat → Int32)) (mo_helperKinds : (Nat → Int32)) (mo_prices : (Nat → Int32)) (mo_helpersOfKind : (Nat → Int32)) (mo_numbers : (Nat → Int32)) (se_size : Int32) (se_lastPlace : Int32) (se_left : (Nat → Int32)) : ∀ (n : Nat) (v4 : Int32) (sr_known : (Nat → Int64)) (ro_asked : Int32) (ro_brought : Int32) (ro_friends : Int32) (ro_used : Int32) (ro_crumbs : Int32) (ro_day : Int32) (out : (((Nat → Int64) × Int32 × Int32 × Int32 × Int32 × Int32 × Int32) ⊕ (Int32 × (Nat → Int64) × Int32 × Int32 × Int32 × Int32 × Int32 × Int32))), lp_X2_rideFirst_11 N v1 v2 sr_number sr_enough sr_tooLong mo_lastDay mo_kinds mo_rideDays mo_helpKinds mo_nexts mo_helpersOfKind se_lastPlace se_left n v4 sr_known ro_asked ro_brought ro_friends ro_used ro_crumbs ro_day = some out → ∀ (H : Heap) (locs : List Loc) (ls : Array Slot), Wd D A H0 (wd_11 cC cI cJ a_sr a_sr_known a_ro g_sr_unseen sr_number sr_enough sr_tooLong a_mo a_se a_sr_known sr_known a_ro ro_asked ro_brought ro_friends ro_used ro_crumbs ro_day a_mo mo_tasks mo_helpers mo_askedFirst mo_crumbsFirst mo_lastDay a_mo_kinds a_mo_days a_mo_rideDays a_mo_helpKinds a_mo_nexts a_mo_helperKinds a_mo_prices a_mo_helpersOfKind a_mo_numbers a_mo_kinds mo_kinds a_mo_days mo_days a_mo_rideDays mo_rideDays a_mo_helpKinds mo_helpKinds a_mo_nexts mo_nexts a_mo_helperKinds mo_helperKinds a_mo_prices mo_prices a_mo_helpersOfKind mo_helpersOfKind a_mo_numbers mo_numbers a_se se_size se_lastPlace a_se_left a_se_left se_left) H locs → lv_has ls 5 [(0, .ref a_sr), (1, .int v1), (2, .long v2), (4, .int v4)] → (∀ (u : ((Nat → Int64) × Int32 × Int32 × Int32 × Int32 × Int32 × Int32)), out = (Sum.inl u) → ∀ (H : Heap) (locs : List Loc) (ls : Array Slot), Wd D A H0 (wd_11 cC cI cJ a_sr a_sr_known a_ro g_sr_unseen sr_number sr_enough sr_tooLong a_mo a_se a_sr_known u.1 a_ro u.2.1 u.2.2.1 u.2.2.2.1 u.2.2.2.2.1 u.2.2.2.2.2.1 u.2.2.2.2.2.2 a_mo mo_tasks mo_helpers mo_askedFirst mo_crumbsFirst mo_lastDay a_mo_kinds a_mo_days a_mo_rideDays a_mo_helpKinds a_mo_nexts a_mo_helperKinds a_mo_prices a_mo_helpersOfKind a_mo_numbers a_mo_kinds mo_kinds a_mo_days mo_days a_mo_rideDays mo_rideDays a_mo_helpKinds mo_helpKinds a_mo_nexts mo_nexts a_mo_helperKinds mo_helperKinds a_mo_prices mo_prices a_mo_helpersOfKind mo_helpersOfKind a_mo_numbers mo_numbers a_se se_size se_lastPlace a_se_left a_se_left se_left) H locs → lv_has ls 5 [] → W p l e rX2_rideFirst s m args below meth c H locs 0 0 Q (F0 m 78 ls [])) → (∀ (u : (Int32 × (Nat → Int64) × Int32 × Int32 × Int32 × Int32 × Int32 × Int32)), out = (Sum.inr u) → ∀ (H : Heap) (locs : List Loc) (ls : Array Slot), Wd D A H0 (wd_11 cC cI cJ a_sr a_sr_known a_ro g_sr_unseen sr_number sr_enough sr_tooLong a_mo a_se a_sr_known u.2.1 a_ro u.2.2.1 u.2.2.2.1 u.2.2.2.2.1 u.2.2.2.2.2.1 u.2.2.2.2.2.2.1 u.2.2.2.2.2.2.2 a_mo mo_tasks mo_helpers mo_askedFirst mo_crumbsFirst mo_lastDay a_mo_kinds a_mo_days a_mo_rideDays a_mo_helpKinds a_mo_nexts a_mo_helperKinds a_mo_prices a_mo_helpersOfKind a_mo_numbers a_mo_kinds mo_kinds a_mo_days mo_days a_mo_rideDays mo_rideDays a_mo_helpKinds mo_helpKinds a_mo_nexts mo_nexts a_mo_helperKinds mo_helperKinds a_mo_prices mo_prices a_mo_helpersOfKind mo_helpersOfKind a_mo_numbers mo_numbers a_se se_size se_lastPlace a_se_left a_se_left se_left) H locs → lv_has ls 5 [(4, .int u.1)] → W p l e rX2_rideFirst s m args below meth c H locs 0 0 Q (F0 m 61 ls [])) → W p l e rX2_rideFirst s m args below meth c H locs 0 0 Q (F0 m 11 ls []) := by
  have hx := S.1
  have hb := S.2.1
  intro n
  induction n with
  | zero => intro v4 sr_known ro_asked ro_brought ro_friends ro_used ro_crumbs ro_day out hm; cases (show (none : Option (((Nat → Int64) × Int32 × Int32 × Int32 × Int32 × Int32 × Int32) ⊕ (Int32 × (Nat → Int64) × Int32 × Int32 × Int32 × Int32 × Int32 × Int32))) = some out from hm)
  | succ n ih =>
    intro v4 sr_known ro_asked ro_brought ro_friends ro_used ro_crumbs ro_day out hm  H locs ls hw hl K0 K1
    rw [lp_X2_rideFirst_11] at hm
    refine lv_iload hx hb dX2_rideFirst_11 (lv_at hl 3 rfl) ?_
    refine lv_bipush (v := 8) hx hb dX2_rideFirst_13 (by decide) ?_
    refine lv_icmp_ge (tgt := 78) hx hb dX2_rideFirst_15 (by decide) (fun c3 => ?_) (fun c3 => ?_)
    · replace hm := ipos hm c3
      obtain rfl := Option.some.inj hm
      exact K0 _ rfl  _ _ ls hw (lv_sub hl [] rfl)
    · replace hm := ineg hm c3
      refine lv_aload_n hx hb dX2_rideFirst_18 rfl (lv_at hl 0 rfl) ?_
      refine f_get S hK hw.1 in_X2_rideFirst_X2 0 rfl rfl 7 (by decide) (List.mem_of_getElem? (i := 2) rfl) rfl rfl dX2_rideFirst_19 ?_
      refine lv_iload hx hb dX2_rideFirst_22 (lv_at hl 3 rfl) ?_
      refine lv_iload_n hx hb dX2_rideFirst_24 rfl (lv_at hl 1 rfl) ?_
      refine lv_iconst (v := 1) hx hb dX2_rideFirst_25 (by decide) ?_
      refine lv_iadd hx hb dX2_rideFirst_26 ?_
      obtain ⟨r4, h5, hm⟩ := ob hm
      refine k_rVi S hK hw.1 cal_X3_leaves gX2_rideFirst_X3_leaves (c_X3_leaves l D cC cI cJ a_se a_se_left se_size se_lastPlace se_left v4 (v1 + (1 : Int32)) r4 h5) ⟨⟨rfl, rfl⟩, Nat.le_of_ble_eq_true rfl, Nat.le_of_ble_eq_true rfl⟩ [13, 14] rfl 13 rfl rfl rfl hl.1 rfl (Nat.le_of_ble_eq_true rfl) dX2_rideFirst_27 ⟨Nat.zero_le _, Nat.zero_le _⟩ ?_
      refine lv_if_eq (tgt := 72) hx hb dX2_rideFirst_30 (by decide) (fun c6 => ?_) (fun c6 => ?_)
      · replace hm := ipos hm c6
        refine lv_iinc (v := (v4 + 1)) (lv' := [(4, .int (v4 + 1)), (0, .ref a_sr), (1, .int v1), (2, .long v2)]) hx hb dX2_rideFirst_72 hl (k := 3) rfl (by rw [ofi_1]) (by decide) rfl (fun ls hl => ?_)
        refine lv_goto (tgt := 11) hx hb dX2_rideFirst_75 (by decide) ?_
        exact ih (v4 + 1) sr_known ro_asked ro_brought ro_friends ro_used ro_crumbs ro_day _ hm  _ _ ls hw (lv_sub hl [1, 2, 3, 0] rfl) K0 K1
      · replace hm := ineg hm c6
        refine lv_aload_n hx hb dX2_rideFirst_33 rfl (lv_at hl 0 rfl) ?_
        refine f_get S hK hw.1 in_X2_rideFirst_X2 0 rfl rfl 1 (by decide) (List.mem_of_getElem? (i := 1) rfl) rfl rfl dX2_rideFirst_34 ?_
        refine lv_aload_n hx hb dX2_rideFirst_37 rfl (lv_at hl 0 rfl) ?_
        refine f_get S hK hw.1 in_X2_rideFirst_X2 0 rfl rfl 6 (by decide) (List.mem_of_getElem? (i := 3) rfl) rfl rfl dX2_rideFirst_38 ?_
        refine lv_iload hx hb dX2_rideFirst_41 (lv_at hl 3 rfl) ?_
        obtain ⟨r7, h8, hm⟩ := ob hm
        refine k_wVi S hK hw cal_X4_tryRide gX2_rideFirst_X4_tryRide (c_X4_tryRide l D cC cI cJ a_ro a_mo a_mo_kinds a_mo_days a_mo_rideDays a_mo_helpKinds a_mo_nexts a_mo_helperKinds a_mo_prices a_mo_helpersOfKind a_mo_numbers ro_asked ro_brought ro_friends ro_used ro_crumbs ro_day mo_tasks mo_helpers mo_askedFirst mo_crumbsFirst mo_lastDay mo_kinds mo_days mo_rideDays mo_helpKinds mo_nexts mo_helperKinds mo_prices mo_helpersOfKind mo_numbers v4 (aw _) (hw.own [2, 3, 4, 5, 6, 7, 8, 9, 10, 11, 12] (by decide) rfl) r7 h8) ⟨⟨rfl, rfl⟩, Nat.le_of_ble_eq_true rfl, Nat.le_of_ble_eq_true rfl⟩ [2, 3, 4, 5, 6, 7, 8, 9, 10, 11, 12] rfl 2 rfl rfl rfl hl.1 rfl (Nat.le_of_ble_eq_true rfl) dX2_rideFirst_43 ⟨Nat.zero_le _, Nat.zero_le _⟩ (fun H locs hJ hB => ?_)
        have hw := hJ _ hB rfl
        replace hw : Wd D A _ (wd_11 cC cI cJ a_sr a_sr_known a_ro g_sr_unseen sr_number sr_enough sr_tooLong a_mo a_se a_sr_known sr_known a_ro r7.2.1 r7.2.2.1 ro_friends r7.2.2.2.1 ro_crumbs r7.2.2.2.2 a_mo mo_tasks mo_helpers mo_askedFirst mo_crumbsFirst mo_lastDay a_mo_kinds a_mo_days a_mo_rideDays a_mo_helpKinds a_mo_nexts a_mo_helperKinds a_mo_prices a_mo_helpersOfKind a_mo_numbers a_mo_kinds mo_kinds a_mo_days mo_days a_mo_rideDays mo_rideDays a_mo_helpKinds mo_helpKinds a_mo_nexts mo_nexts a_mo_helperKinds mo_helperKinds a_mo_prices mo_prices a_mo_helpersOfKind mo_helpersOfKind a_mo_numbers mo_numbers a_se se_size se_lastPlace a_se_left a_se_left se_left) H locs := hw
        refine lv_if_eq (tgt := 72) hx hb dX2_rideFirst_46 (by decide) (fun c9 => ?_) (fun c9 => ?_)
        · replace hm := ipos hm c9
          refine lv_iinc (v := (v4 + 1)) (lv' := [(4, .int (v4 + 1)), (0, .ref a_sr), (1, .int v1), (2, .long v2)]) hx hb dX2_rideFirst_72 hl (k := 3) rfl (by rw [ofi_1]) (by decide) rfl (fun ls hl => ?_)
          refine lv_goto (tgt := 11) hx hb dX2_rideFirst_75 (by decide) ?_
          exact ih (v4 + 1) sr_known r7.2.1 r7.2.2.1 ro_friends r7.2.2.2.1 ro_crumbs r7.2.2.2.2 _ hm  _ _ ls hw (lv_sub hl [1, 2, 3, 0] rfl) K0 K1
        · replace hm := ineg hm c9
          refine lv_aload_n hx hb dX2_rideFirst_49 rfl (lv_at hl 0 rfl) ?_
          refine lv_iload_n hx hb dX2_rideFirst_50 rfl (lv_at hl 1 rfl) ?_
          refine lv_iconst (v := 1) hx hb dX2_rideFirst_51 (by decide) ?_
          refine lv_iadd hx hb dX2_rideFirst_52 ?_
          obtain ⟨r10, h11, hm⟩ := ob hm
          refine k_wSl S hK hw cal_X2_waysOn gX2_rideFirst_X2_waysOn (c_X2_waysOn l D cC cI cJ a_sr a_sr_known a_ro g_sr_unseen a_mo a_se a_mo_kinds a_mo_days a_mo_rideDays a_mo_helpKinds a_mo_nexts a_mo_helperKinds a_mo_prices a_mo_helpersOfKind a_mo_numbers a_se_left sr_number sr_enough sr_tooLong sr_known r7.2.1 r7.2.2.1 ro_friends r7.2.2.2.1 ro_crumbs r7.2.2.2.2 mo_tasks mo_helpers mo_askedFirst mo_crumbsFirst mo_lastDay mo_kinds mo_days mo_rideDays mo_helpKinds mo_nexts mo_helperKinds mo_prices mo_helpersOfKind mo_numbers se_size se_lastPlace se_left (v1 + (1 : Int32)) N 10 (aw _) (hw.own [0, 1, 2, 3, 4, 5, 6, 7, 8, 9, 10, 11, 12, 13, 14] (by decide) rfl) r10 h11) ⟨⟨rfl, rfl⟩, Nat.le_of_ble_eq_true rfl, Nat.le_of_ble_eq_true rfl⟩ [0, 1, 2, 3, 4, 5, 6, 7, 8, 9, 10, 11, 12, 13, 14] rfl rfl hl.1 rfl (Nat.le_of_ble_eq_true rfl) dX2_rideFirst_53 ⟨Nat.zero_le _, Nat.zero_le _⟩ (fun H locs hJ hB => ?_)
          have hw := hJ _ hB rfl
          replace hw : Wd D A _ (wd_11 cC cI cJ a_sr a_sr_known a_ro g_sr_unseen sr_number sr_enough sr_tooLong a_mo a_se a_sr_known r10.2.1 a_ro r10.2.2.1 r10.2.2.2.1 r10.2.2.2.2.1 r10.2.2.2.2.2.1 r10.2.2.2.2.2.2.1 r10.2.2.2.2.2.2.2 a_mo mo_tasks mo_helpers mo_askedFirst mo_crumbsFirst mo_lastDay a_mo_kinds a_mo_days a_mo_rideDays a_mo_helpKinds a_mo_nexts a_mo_helperKinds a_mo_prices a_mo_helpersOfKind a_mo_numbers a_mo_kinds mo_kinds a_mo_days mo_days a_mo_rideDays mo_rideDays a_mo_helpKinds mo_helpKinds a_mo_nexts mo_nexts a_mo_helperKinds mo_helperKinds a_mo_prices mo_prices a_mo_helpersOfKind mo_helpersOfKind a_mo_numbers mo_numbers a_se se_size se_lastPlace a_se_left a_se_left se_left) H locs := hw
          refine lv_lconst (v := 0) hx hb dX2_rideFirst_56 (by decide) ?_
          refine W.lcmp hx hb dX2_rideFirst_57 ?_
          refine lv_if_le (tgt := 64) hx hb dX2_rideFirst_58 (by decide) (fun c12 => ?_) (fun c12 => ?_)
          · replace hm := ipos hm c12
            refine lv_aload_n hx hb dX2_rideFirst_64 rfl (lv_at hl 0 rfl) ?_
            refine f_get S hK hw.1 in_X2_rideFirst_X2 0 rfl rfl 1 (by decide) (List.mem_of_getElem? (i := 1) rfl) rfl rfl dX2_rideFirst_65 ?_
            refine lv_lload_n hx hb dX2_rideFirst_68 rfl (lv_at hl 2 rfl) ?_
            obtain ⟨r13, h14, hm⟩ := ob hm
            refine k_wVv S hK hw cal_X4_unpack gX2_rideFirst_X4_unpack (c_X4_unpack l D cC cI cJ a_ro r10.2.2.1 r10.2.2.2.1 r10.2.2.2.2.1 r10.2.2.2.2.2.1 r10.2.2.2.2.2.2.1 r10.2.2.2.2.2.2.2 v2 (aw _) (hw.own [2] (by decide) rfl) r13 h14) ⟨⟨rfl, rfl⟩, Nat.le_of_ble_eq_true rfl, Nat.le_of_ble_eq_true rfl⟩ [2] rfl 2 rfl rfl rfl hl.1 rfl (Nat.le_of_ble_eq_true rfl) dX2_rideFirst_69 ⟨Nat.zero_le _, Nat.zero_le _⟩ (fun H locs hJ hB => ?_)
            have hw := hJ _ hB rfl
            replace hw : Wd D A _ (wd_11 cC cI cJ a_sr a_sr_known a_ro g_sr_unseen sr_number sr_enough sr_tooLong a_mo a_se a_sr_known r10.2.1 a_ro r13.1 r13.2.1 r13.2.2.1 r13.2.2.2.1 r13.2.2.2.2.1 r13.2.2.2.2.2 a_mo mo_tasks mo_helpers mo_askedFirst mo_crumbsFirst mo_lastDay a_mo_kinds a_mo_days a_mo_rideDays a_mo_helpKinds a_mo_nexts a_mo_helperKinds a_mo_prices a_mo_helpersOfKind a_mo_numbers a_mo_kinds mo_kinds a_mo_days mo_days a_mo_rideDays mo_rideDays a_mo_helpKinds mo_helpKinds a_mo_nexts mo_nexts a_mo_helperKinds mo_helperKinds a_mo_prices mo_prices a_mo_helpersOfKind mo_helpersOfKind a_mo_numbers mo_numbers a_se se_size se_lastPlace a_se_left a_se_left se_left) H locs := hw
            refine lv_iinc (v := (v4 + 1)) (lv' := [(4, .int (v4 + 1)), (0, .ref a_sr), (1, .int v1), (2, .long v2)]) hx hb dX2_rideFirst_72 hl (k := 3) rfl (by rw [ofi_1]) (by decide) rfl (fun ls hl => ?_)
            refine lv_goto (tgt := 11) hx hb dX2_rideFirst_75 (by decide) ?_
            exact ih (v4 + 1) r10.2.1 r13.1 r13.2.1 r13.2.2.1 r13.2.2.2.1 r13.2.2.2.2.1 r13.2.2.2.2.2 _ hm  _ _ ls hw (lv_sub hl [1, 2, 3, 0] rfl) K0 K1
          · replace hm := ineg hm c12
            obtain rfl := Option.some.inj hm
            exact K1 _ rfl  _ _ ls hw (lv_sub hl [3] rfl)
set_option maxHeartbeats 4000000 in
set_option maxRecDepth 100000 in
theorem c_X2_rideFirst (l : Launch) (D : va_G) (cC cI cJ : ClassId) (a_sr : Nat) (a_sr_known : Nat) (a_ro : Nat) (g_sr_unseen : Nat) (a_mo : Nat) (a_se : Nat) (a_mo_kinds : Nat) (a_mo_days : Nat) (a_mo_rideDays : Nat) (a_mo_helpKinds : Nat) (a_mo_nexts : Nat) (a_mo_helperKinds : Nat) (a_mo_prices : Nat) (a_mo_helpersOfKind : Nat) (a_mo_numbers : Nat) (a_se_left : Nat) (sr_number : Int64) (sr_enough : Int64) (sr_tooLong : Int32) (sr_known : (Nat → Int64)) (ro_asked : Int32) (ro_brought : Int32) (ro_friends : Int32) (ro_used : Int32) (ro_crumbs : Int32) (ro_day : Int32) (mo_tasks : Int32) (mo_helpers : Int32) (mo_askedFirst : Int32) (mo_crumbsFirst : Int32) (mo_lastDay : Int32) (mo_kinds : (Nat → Int32)) (mo_days : (Nat → Int32)) (mo_rideDays : (Nat → Int32)) (mo_helpKinds : (Nat → Int32)) (mo_nexts : (Nat → Int32)) (mo_helperKinds : (Nat → Int32)) (mo_prices : (Nat → Int32)) (mo_helpersOfKind : (Nat → Int32)) (mo_numbers : (Nat → Int32)) (se_size : Int32) (se_lastPlace : Int32) (se_left : (Nat → Int32)) (p0 : Int32) (N : Nat) (A : Nat → Prop) (hD : va_D A (wd_11 cC cI cJ a_sr a_sr_known a_ro g_sr_unseen sr_number sr_enough sr_tooLong a_mo a_se a_sr_known sr_known a_ro ro_asked ro_brought ro_friends ro_used ro_crumbs ro_day a_mo mo_tasks mo_helpers mo_askedFirst mo_crumbsFirst mo_lastDay a_mo_kinds a_mo_days a_mo_rideDays a_mo_helpKinds a_mo_nexts a_mo_helperKinds a_mo_prices a_mo_helpersOfKind a_mo_numbers a_mo_kinds mo_kinds a_mo_days mo_days a_mo_rideDays mo_rideDays a_mo_helpKinds mo_helpKinds a_mo_nexts mo_nexts a_mo_helperKinds mo_helperKinds a_mo_prices mo_prices a_mo_helpersOfKind mo_helpersOfKind a_mo_numbers mo_numbers a_se se_size se_lastPlace a_se_left a_se_left se_left)) (out : (Int32 × (Nat → Int64) × Int32 × Int32 × Int32 × Int32 × Int32 × Int32)) (hm : m_X2_rideFirst N sr_number sr_enough sr_tooLong sr_known ro_asked ro_brought ro_friends ro_used ro_crumbs ro_day mo_lastDay mo_kinds mo_rideDays mo_helpKinds mo_nexts mo_helpersOfKind se_lastPlace se_left p0 = some out) : WrI l yX2_rideFirst wsX2_rideFirst rX2_rideFirst D (tyK cC cI cJ) [.ref a_sr, .int p0] A (wd_11 cC cI cJ a_sr a_sr_known a_ro g_sr_unseen sr_number sr_enough sr_tooLong a_mo a_se a_sr_known sr_known a_ro ro_asked ro_brought ro_friends ro_used ro_crumbs ro_day a_mo mo_tasks mo_helpers mo_askedFirst mo_crumbsFirst mo_lastDay a_mo_kinds a_mo_days a_mo_rideDays a_mo_helpKinds a_mo_nexts a_mo_helperKinds a_mo_prices a_mo_helpersOfKind a_mo_numbers a_mo_kinds mo_kinds a_mo_days mo_days a_mo_rideDays mo_rideDays a_mo_helpKinds mo_helpKinds a_mo_nexts mo_nexts a_mo_helperKinds mo_helperKinds a_mo_prices mo_prices a_mo_helpersOfKind mo_helpersOfKind a_mo_numbers mo_numbers a_se se_size se_lastPlace a_se_left a_se_left se_left) (Bw0 D (wd_11 cC cI cJ a_sr a_sr_known a_ro g_sr_unseen sr_number sr_enough sr_tooLong a_mo a_se a_sr_known out.2.1 a_ro out.2.2.1 out.2.2.2.1 out.2.2.2.2.1 out.2.2.2.2.2.1 out.2.2.2.2.2.2.1 out.2.2.2.2.2.2.2 a_mo mo_tasks mo_helpers mo_askedFirst mo_crumbsFirst mo_lastDay a_mo_kinds a_mo_days a_mo_rideDays a_mo_helpKinds a_mo_nexts a_mo_helperKinds a_mo_prices a_mo_helpersOfKind a_mo_numbers a_mo_kinds mo_kinds a_mo_days mo_days a_mo_rideDays mo_rideDays a_mo_helpKinds mo_helpKinds a_mo_nexts mo_nexts a_mo_helperKinds mo_helperKinds a_mo_prices mo_prices a_mo_helpersOfKind mo_helpersOfKind a_mo_numbers mo_numbers a_se se_size se_lastPlace a_se_left a_se_left se_left)) out.1 := by
  unfold m_X2_rideFirst at hm
  refine enter (cc := cX2_rideFirst) (maxL := 5) (ret := (some .int)) (lv := [(0, .ref a_sr), (1, .int p0)]) (by decide) rfl (Nat.le_of_ble_eq_true rfl) rfl ?_
  intro p e s m args below meth c S hr hlk hK hP ls hl
  replace S : CallFix p m c cX2_rideFirst 5 s args wsX2_rideFirst RX2 := S
  have hx := S.1
  have hb := S.2.1
  have hw : Wd D A s.heap (wd_11 cC cI cJ a_sr a_sr_known a_ro g_sr_unseen sr_number sr_enough sr_tooLong a_mo a_se a_sr_known sr_known a_ro ro_asked ro_brought ro_friends ro_used ro_crumbs ro_day a_mo mo_tasks mo_helpers mo_askedFirst mo_crumbsFirst mo_lastDay a_mo_kinds a_mo_days a_mo_rideDays a_mo_helpKinds a_mo_nexts a_mo_helperKinds a_mo_prices a_mo_helpersOfKind a_mo_numbers a_mo_kinds mo_kinds a_mo_days mo_days a_mo_rideDays mo_rideDays a_mo_helpKinds mo_helpKinds a_mo_nexts mo_nexts a_mo_helperKinds mo_helperKinds a_mo_prices mo_prices a_mo_helpersOfKind mo_helpersOfKind a_mo_numbers mo_numbers a_se se_size se_lastPlace a_se_left a_se_left se_left) s.heap [] := ⟨hP, hD, va_S.rf⟩
  have hw0 := hw
  refine lv_aload_n hx hb dX2_rideFirst_0 rfl (lv_at hl 0 rfl) ?_
  refine f_get S hK hw.1 in_X2_rideFirst_X2 0 rfl rfl 1 (by decide) (List.mem_of_getElem? (i := 1) rfl) rfl rfl dX2_rideFirst_1 ?_
  obtain ⟨r1, h2, hm⟩ := ob hm
  refine k_rVl S hK hw.1 cal_X4_packed gX2_rideFirst_X4_packed (c_X4_packed l D cC cI cJ a_ro ro_asked ro_brought ro_friends ro_used ro_crumbs ro_day r1 h2) ⟨⟨rfl, rfl⟩, Nat.le_of_ble_eq_true rfl, Nat.le_of_ble_eq_true rfl⟩ [2] rfl 2 rfl rfl rfl hl.1 rfl (Nat.le_of_ble_eq_true rfl) dX2_rideFirst_4 ⟨Nat.zero_le _, Nat.zero_le _⟩ ?_
  refine lv_lstore_n (lv' := [(2, .long r1), (0, .ref a_sr), (1, .int p0)]) hx hb dX2_rideFirst_7 rfl hl (by decide) rfl (fun ls hl => ?_)
  refine lv_iconst (v := 0) hx hb dX2_rideFirst_8 (by decide) ?_
  refine lv_istore (lv' := [(4, .int (0 : Int32)), (2, .long r1), (0, .ref a_sr), (1, .int p0)]) hx hb dX2_rideFirst_9 hl (by decide) rfl (fun ls hl => ?_)
  obtain ⟨r15, h16, hm⟩ := ob hm
  refine t_X2_rideFirst_11 l S hK a_sr a_sr_known a_ro g_sr_unseen a_mo a_se a_mo_kinds a_mo_days a_mo_rideDays a_mo_helpKinds a_mo_nexts a_mo_helperKinds a_mo_prices a_mo_helpersOfKind a_mo_numbers a_se_left N p0 r1 sr_number sr_enough sr_tooLong mo_tasks mo_helpers mo_askedFirst mo_crumbsFirst mo_lastDay mo_kinds mo_days mo_rideDays mo_helpKinds mo_nexts mo_helperKinds mo_prices mo_helpersOfKind mo_numbers se_size se_lastPlace se_left N (0 : Int32) sr_known ro_asked ro_brought ro_friends ro_used ro_crumbs ro_day r15 h16  _ _ ls hw (lv_sub hl [2, 3, 1, 0] rfl) (fun u17 hu H locs ls hw hl => ?_) (fun u18 hu H locs ls hw hl => ?_)
  · subst hu
    replace hm := seL hm
    refine lv_bipush (v := (-4)) hx hb dX2_rideFirst_78 (by decide) ?_
    obtain rfl := Option.some.inj hm
    exact e_WI S hr hlk hw rfl hw.1 dX2_rideFirst_80
  · subst hu
    replace hm := seR hm
    refine lv_iload hx hb dX2_rideFirst_61 (lv_at hl 0 rfl) ?_
    obtain rfl := Option.some.inj hm
    exact e_WI S hr hlk hw rfl hw.1 dX2_rideFirst_63

abbrev rX2_placeInFirst : Room := { frames := 15, cells := 0, slots := 0, locals := 403 }
theorem cal_X2_placeInFirst : Cal yX2_placeInFirst wsX2_placeInFirst cX2_placeInFirst 7 (some .int) RX2 4 := ⟨⟨_, rfl⟩, rfl, by decide +kernel, by decide +kernel, by decide +kernel⟩
set_option maxHeartbeats 4000000 in
set_option maxRecDepth 100000 in
theorem t_X2_placeInFirst_15 {p : Program} {e : Env} {s : State} {m : MethodId} {args : Array Value} {below : List Frame} {meth : Method} {c : Code} {Q : State → Prop} (l : Launch) {D : va_G} {cC cI cJ : ClassId} {A : Nat → Prop} {H0 : Heap} (S : CallFix p m c cX2_placeInFirst 7 s args wsX2_placeInFirst RX2) (hK : KK D (tyK cC cI cJ) s) (a_sr : Nat) (a_sr_known : Nat) (a_ro : Nat) (g_sr_unseen : Nat) (g_sr_months : Nat) (g_sr_heeded : Nat) (a_mo : Nat) (a_mo_kinds : Nat) (a_mo_days : Nat) (a_mo_rideDays : Nat) (a_mo_helpKinds : Nat) (a_mo_nexts : Nat) (a_mo_helperKinds : Nat) (a_mo_prices : Nat) (a_mo_helpersOfKind : Nat) (a_mo_numbers : Nat) (a_fr : Nat) (a_se : Nat) (a_se_left : Nat) (N : Nat) (v4 : Int32) (sr_number : Int64) (sr_enough : Int64) (sr_tooLong : Int32) (mo_tasks : Int32) (mo_helpers : Int32) (mo_askedFirst : Int32) (mo_crumbsFirst : Int32) (mo_lastDay : Int32) (mo_kinds : (Nat → Int32)) (mo_days : (Nat → Int32)) (mo_rideDays : (Nat → Int32)) (mo_helpKinds : (Nat → Int32)) (mo_nexts : (Nat → Int32)) (mo_helperKinds : (Nat → Int32)) (mo_prices : (Nat → Int32)) (mo_helpersOfKind : (Nat → Int32)) (mo_numbers : (Nat → Int32)) (fr_asked : Int32) (fr_brought : Int32) (fr_friends : Int32) (fr_used : Int32) (fr_crumbs : Int32) (fr_day : Int32) (se_size : Int32) (se_lastPlace : Int32) (se_left : (Nat → Int32)) : ∀ (n : Nat) (v5 : Int32) (v6 : Int32) (sr_known : (Nat → Int64)) (ro_asked : Int32) (ro_brought : Int32) (ro_friends : Int32) (ro_used : Int32) (ro_crumbs : Int32) (ro_day : Int32) (out : ((Int32 × (Nat → Int64) × Int32 × Int32 × Int32 × Int32 × Int32 × Int32) ⊕ ((Nat → Int64) × Int32 × Int32 × Int32 × Int32 × Int32 × Int32))), lp_X2_placeInFirst_15 N v4 sr_number sr_enough sr_tooLong mo_lastDay mo_kinds mo_rideDays mo_helpKinds mo_nexts mo_helpersOfKind se_lastPlace se_left n v5 v6 sr_known ro_asked ro_brought ro_friends ro_used ro_crumbs ro_day = some out → ∀ (H : Heap) (locs : List Loc) (ls : Array Slot), Wd D A H0 (wd_12 cC cI cJ a_sr a_sr_known a_ro g_sr_unseen sr_number sr_enough sr_tooLong a_mo a_se a_sr_known sr_known a_ro ro_asked ro_brought ro_friends ro_used ro_crumbs ro_day a_mo mo_tasks mo_helpers mo_askedFirst mo_crumbsFirst mo_lastDay a_mo_kinds a_mo_days a_mo_rideDays a_mo_helpKinds a_mo_nexts a_mo_helperKinds a_mo_prices a_mo_helpersOfKind a_mo_numbers a_mo_kinds mo_kinds a_mo_days mo_days a_mo_rideDays mo_rideDays a_mo_helpKinds mo_helpKinds a_mo_nexts mo_nexts a_mo_helperKinds mo_helperKinds a_mo_prices mo_prices a_mo_helpersOfKind mo_helpersOfKind a_mo_numbers mo_numbers a_fr fr_asked fr_brought fr_friends fr_used fr_crumbs fr_day a_se se_size se_lastPlace a_se_left a_se_left se_left) H locs → lv_has ls 7 [(0, .ref a_sr), (4, .int v4), (5, .int v5), (6, .int v6)] → (∀ (u : (Int32 × (Nat → Int64) × Int32 × Int32 × Int32 × Int32 × Int32 × Int32)), out = (Sum.inl u) → ∀ (H : Heap) (locs : List Loc) (ls : Array Slot), Wd D A H0 (wd_12 cC cI cJ a_sr a_sr_known a_ro g_sr_unseen sr_number sr_enough sr_tooLong a_mo a_se a_sr_known u.2.1 a_ro u.2.2.1 u.2.2.2.1 u.2.2.2.2.1 u.2.2.2.2.2.1 u.2.2.2.2.2.2.1 u.2.2.2.2.2.2.2 a_mo mo_tasks mo_helpers mo_askedFirst mo_crumbsFirst mo_lastDay a_mo_kinds a_mo_days a_mo_rideDays a_mo_helpKinds a_mo_nexts a_mo_helperKinds a_mo_prices a_mo_helpersOfKind a_mo_numbers a_mo_kinds mo_kinds a_mo_days mo_days a_mo_rideDays mo_rideDays a_mo_helpKinds mo_helpKinds a_mo_nexts mo_nexts a_mo_helperKinds mo_helperKinds a_mo_prices mo_prices a_mo_helpersOfKind mo_helpersOfKind a_mo_numbers mo_numbers a_fr fr_asked fr_brought fr_friends fr_used fr_crumbs fr_day a_se se_size se_lastPlace a_se_left a_se_left se_left) H locs → lv_has ls 7 [(5, .int u.1)] → W p l e rX2_placeInFirst s m args below meth c H locs 0 0 Q (F0 m 44 ls [])) → (∀ (u : ((Nat → Int64) × Int32 × Int32 × Int32 × Int32 × Int32 × Int32)), out = (Sum.inr u) → ∀ (H : Heap) (locs : List Loc) (ls : Array Slot), Wd D A H0 (wd_12 cC cI cJ a_sr a_sr_known a_ro g_sr_unseen sr_number sr_enough sr_tooLong a_mo a_se a_sr_known u.1 a_ro u.2.1 u.2.2.1 u.2.2.2.1 u.2.2.2.2.1 u.2.2.2.2.2.1 u.2.2.2.2.2.2 a_mo mo_tasks mo_helpers mo_askedFirst mo_crumbsFirst mo_lastDay a_mo_kinds a_mo_days a_mo_rideDays a_mo_helpKinds a_mo_nexts a_mo_helperKinds a_mo_prices a_mo_helpersOfKind a_mo_numbers a_mo_kinds mo_kinds a_mo_days mo_days a_mo_rideDays mo_rideDays a_mo_helpKinds mo_helpKinds a_mo_nexts mo_nexts a_mo_helperKinds mo_helperKinds a_mo_prices mo_prices a_mo_helpersOfKind mo_helpersOfKind a_mo_numbers mo_numbers a_fr fr_asked fr_brought fr_friends fr_used fr_crumbs fr_day a_se se_size se_lastPlace a_se_left a_se_left se_left) H locs → lv_has ls 7 [] → W p l e rX2_placeInFirst s m args below meth c H locs 0 0 Q (F0 m 35 ls [])) → W p l e rX2_placeInFirst s m args below meth c H locs 0 0 Q (F0 m 15 ls []) := by
  have hx := S.1
  have hb := S.2.1
  intro n
  induction n with
  | zero => intro v5 v6 sr_known ro_asked ro_brought ro_friends ro_used ro_crumbs ro_day out hm; cases (show (none : Option ((Int32 × (Nat → Int64) × Int32 × Int32 × Int32 × Int32 × Int32 × Int32) ⊕ ((Nat → Int64) × Int32 × Int32 × Int32 × Int32 × Int32 × Int32))) = some out from hm)
  | succ n ih =>
    intro v5 v6 sr_known ro_asked ro_brought ro_friends ro_used ro_crumbs ro_day out hm  H locs ls hw hl K0 K1
    rw [lp_X2_placeInFirst_15] at hm
    refine lv_iload hx hb dX2_placeInFirst_15 (lv_at hl 3 rfl) ?_
    refine lv_iload hx hb dX2_placeInFirst_17 (lv_at hl 1 rfl) ?_
    refine lv_icmp_ge (tgt := 44) hx hb dX2_placeInFirst_19 (by decide) (fun c3 => ?_) (fun c3 => ?_)
    · replace hm := ipos hm c3
      obtain rfl := Option.some.inj hm
      exact K0 _ rfl  _ _ ls hw (lv_sub hl [2] rfl)
    · replace hm := ineg hm c3
      refine lv_aload_n hx hb dX2_placeInFirst_22 rfl (lv_at hl 0 rfl) ?_
      refine lv_iload hx hb dX2_placeInFirst_23 (lv_at hl 3 rfl) ?_
      obtain ⟨r4, h5, hm⟩ := ob hm
      refine k_wVi S hK hw cal_X2_rideFirst gX2_placeInFirst_X2_rideFirst (c_X2_rideFirst l D cC cI cJ a_sr a_sr_known a_ro g_sr_unseen a_mo a_se a_mo_kinds a_mo_days a_mo_rideDays a_mo_helpKinds a_mo_nexts a_mo_helperKinds a_mo_prices a_mo_helpersOfKind a_mo_numbers a_se_left sr_number sr_enough sr_tooLong sr_known ro_asked ro_brought ro_friends ro_used ro_crumbs ro_day mo_tasks mo_helpers mo_askedFirst mo_crumbsFirst mo_lastDay mo_kinds mo_days mo_rideDays mo_helpKinds mo_nexts mo_helperKinds mo_prices mo_helpersOfKind mo_numbers se_size se_lastPlace se_left v6 N (aw _) (hw.own [0, 1, 2, 3, 4, 5, 6, 7, 8, 9, 10, 11, 12, 14, 15] (by decide) rfl) r4 h5) ⟨⟨rfl, rfl⟩, Nat.le_of_ble_eq_true rfl, Nat.le_of_ble_eq_true rfl⟩ [0, 1, 2, 3, 4, 5, 6, 7, 8, 9, 10, 11, 12, 14, 15] rfl 0 rfl rfl rfl hl.1 rfl (Nat.le_of_ble_eq_true rfl) dX2_placeInFirst_25 ⟨Nat.zero_le _, Nat.zero_le _⟩ (fun H locs hJ hB => ?_)
      have hw := hJ _ hB rfl
      replace hw : Wd D A _ (wd_12 cC cI cJ a_sr a_sr_known a_ro g_sr_unseen sr_number sr_enough sr_tooLong a_mo a_se a_sr_known r4.2.1 a_ro r4.2.2.1 r4.2.2.2.1 r4.2.2.2.2.1 r4.2.2.2.2.2.1 r4.2.2.2.2.2.2.1 r4.2.2.2.2.2.2.2 a_mo mo_tasks mo_helpers mo_askedFirst mo_crumbsFirst mo_lastDay a_mo_kinds a_mo_days a_mo_rideDays a_mo_helpKinds a_mo_nexts a_mo_helperKinds a_mo_prices a_mo_helpersOfKind a_mo_numbers a_mo_kinds mo_kinds a_mo_days mo_days a_mo_rideDays mo_rideDays a_mo_helpKinds mo_helpKinds a_mo_nexts mo_nexts a_mo_helperKinds mo_helperKinds a_mo_prices mo_prices a_mo_helpersOfKind mo_helpersOfKind a_mo_numbers mo_numbers a_fr fr_asked fr_brought fr_friends fr_used fr_crumbs fr_day a_se se_size se_lastPlace a_se_left a_se_left se_left) H locs := hw
      refine lv_istore (lv' := [(5, .int r4.1), (0, .ref a_sr), (4, .int v4), (6, .int v6)]) hx hb dX2_placeInFirst_28 hl (by decide) rfl (fun ls hl => ?_)
      refine lv_iload hx hb dX2_placeInFirst_30 (lv_at hl 0 rfl) ?_
      refine lv_if_ge (tgt := 38) hx hb dX2_placeInFirst_32 (by decide) (fun c6 => ?_) (fun c6 => ?_)
      · replace hm := ipos hm c6
        refine lv_iinc (v := (v6 + 1)) (lv' := [(6, .int (v6 + 1)), (5, .int r4.1), (0, .ref a_sr), (4, .int v4)]) hx hb dX2_placeInFirst_38 hl (k := 3) rfl (by rw [ofi_1]) (by decide) rfl (fun ls hl => ?_)
        refine lv_goto (tgt := 15) hx hb dX2_placeInFirst_41 (by decide) ?_
        exact ih r4.1 (v6 + 1) r4.2.1 r4.2.2.1 r4.2.2.2.1 r4.2.2.2.2.1 r4.2.2.2.2.2.1 r4.2.2.2.2.2.2.1 r4.2.2.2.2.2.2.2 _ hm  _ _ ls hw (lv_sub hl [2, 3, 1, 0] rfl) K0 K1
      · replace hm := ineg hm c6
        obtain rfl := Option.some.inj hm
        exact K1 _ rfl  _ _ ls hw (lv_sub hl [] rfl)
set_option maxHeartbeats 4000000 in
set_option maxRecDepth 100000 in
theorem c_X2_placeInFirst (l : Launch) (D : va_G) (cC cI cJ : ClassId) (a_sr : Nat) (a_sr_known : Nat) (a_ro : Nat) (g_sr_unseen : Nat) (g_sr_months : Nat) (g_sr_heeded : Nat) (a_mo : Nat) (a_mo_kinds : Nat) (a_mo_days : Nat) (a_mo_rideDays : Nat) (a_mo_helpKinds : Nat) (a_mo_nexts : Nat) (a_mo_helperKinds : Nat) (a_mo_prices : Nat) (a_mo_helpersOfKind : Nat) (a_mo_numbers : Nat) (a_fr : Nat) (a_se : Nat) (a_se_left : Nat) (sr_number : Int64) (sr_enough : Int64) (sr_tooLong : Int32) (sr_known : (Nat → Int64)) (ro_asked : Int32) (ro_brought : Int32) (ro_friends : Int32) (ro_used : Int32) (ro_crumbs : Int32) (ro_day : Int32) (mo_tasks : Int32) (mo_helpers : Int32) (mo_askedFirst : Int32) (mo_crumbsFirst : Int32) (mo_lastDay : Int32) (mo_kinds : (Nat → Int32)) (mo_days : (Nat → Int32)) (mo_rideDays : (Nat → Int32)) (mo_helpKinds : (Nat → Int32)) (mo_nexts : (Nat → Int32)) (mo_helperKinds : (Nat → Int32)) (mo_prices : (Nat → Int32)) (mo_helpersOfKind : (Nat → Int32)) (mo_numbers : (Nat → Int32)) (fr_asked : Int32) (fr_brought : Int32) (fr_friends : Int32) (fr_used : Int32) (fr_crumbs : Int32) (fr_day : Int32) (se_size : Int32) (se_lastPlace : Int32) (se_left : (Nat → Int32)) (p3 : Int32) (N : Nat) (A : Nat → Prop) (hD : va_D A (wd_12 cC cI cJ a_sr a_sr_known a_ro g_sr_unseen sr_number sr_enough sr_tooLong g_sr_months g_sr_heeded a_sr_known sr_known a_ro ro_asked ro_brought ro_friends ro_used ro_crumbs ro_day a_mo mo_tasks mo_helpers mo_askedFirst mo_crumbsFirst mo_lastDay a_mo_kinds a_mo_days a_mo_rideDays a_mo_helpKinds a_mo_nexts a_mo_helperKinds a_mo_prices a_mo_helpersOfKind a_mo_numbers a_mo_kinds mo_kinds a_mo_days mo_days a_mo_rideDays mo_rideDays a_mo_helpKinds mo_helpKinds a_mo_nexts mo_nexts a_mo_helperKinds mo_helperKinds a_mo_prices mo_prices a_mo_helpersOfKind mo_helpersOfKind a_mo_numbers mo_numbers a_fr fr_asked fr_brought fr_friends fr_used fr_crumbs fr_day a_se se_size se_lastPlace a_se_left a_se_left se_left)) (out : (Int32 × Int64 × Int64 × Int32 × (Nat → Int64) × Int32 × Int32 × Int32 × Int32 × Int32 × Int32)) (hm : m_X2_placeInFirst N sr_number sr_known mo_tasks mo_lastDay mo_kinds mo_rideDays mo_helpKinds mo_nexts mo_helpersOfKind fr_asked fr_brought fr_friends fr_used fr_crumbs fr_day se_lastPlace se_left p3 = some out) : WrI l yX2_placeInFirst wsX2_placeInFirst rX2_placeInFirst D (tyK cC cI cJ) [.ref a_sr, .ref a_mo, .ref a_fr, .ref a_se, .int p3] A (wd_12 cC cI cJ a_sr a_sr_known a_ro g_sr_unseen sr_number sr_enough sr_tooLong g_sr_months g_sr_heeded a_sr_known sr_known a_ro ro_asked ro_brought ro_friends ro_used ro_crumbs ro_day a_mo mo_tasks mo_helpers mo_askedFirst mo_crumbsFirst mo_lastDay a_mo_kinds a_mo_days a_mo_rideDays a_mo_helpKinds a_mo_nexts a_mo_helperKinds a_mo_prices a_mo_helpersOfKind a_mo_numbers a_mo_kinds mo_kinds a_mo_days mo_days a_mo_rideDays mo_rideDays a_mo_helpKinds mo_helpKinds a_mo_nexts mo_nexts a_mo_helperKinds mo_helperKinds a_mo_prices mo_prices a_mo_helpersOfKind mo_helpersOfKind a_mo_numbers mo_numbers a_fr fr_asked fr_brought fr_friends fr_used fr_crumbs fr_day a_se se_size se_lastPlace a_se_left a_se_left se_left) (Bw0 D (wd_12 cC cI cJ a_sr a_sr_known a_ro g_sr_unseen out.2.1 out.2.2.1 out.2.2.2.1 a_mo a_se a_sr_known out.2.2.2.2.1 a_ro out.2.2.2.2.2.1 out.2.2.2.2.2.2.1 out.2.2.2.2.2.2.2.1 out.2.2.2.2.2.2.2.2.1 out.2.2.2.2.2.2.2.2.2.1 out.2.2.2.2.2.2.2.2.2.2 a_mo mo_tasks mo_helpers mo_askedFirst mo_crumbsFirst mo_lastDay a_mo_kinds a_mo_days a_mo_rideDays a_mo_helpKinds a_mo_nexts a_mo_helperKinds a_mo_prices a_mo_helpersOfKind a_mo_numbers a_mo_kinds mo_kinds a_mo_days mo_days a_mo_rideDays mo_rideDays a_mo_helpKinds mo_helpKinds a_mo_nexts mo_nexts a_mo_helperKinds mo_helperKinds a_mo_prices mo_prices a_mo_helpersOfKind mo_helpersOfKind a_mo_numbers mo_numbers a_fr fr_asked fr_brought fr_friends fr_used fr_crumbs fr_day a_se se_size se_lastPlace a_se_left a_se_left se_left)) out.1 := by
  unfold m_X2_placeInFirst at hm
  refine enter (cc := cX2_placeInFirst) (maxL := 7) (ret := (some .int)) (lv := [(0, .ref a_sr), (1, .ref a_mo), (2, .ref a_fr), (3, .ref a_se), (4, .int p3)]) (by decide) rfl (Nat.le_of_ble_eq_true rfl) rfl ?_
  intro p e s m args below meth c S hr hlk hK hP ls hl
  replace S : CallFix p m c cX2_placeInFirst 7 s args wsX2_placeInFirst RX2 := S
  have hx := S.1
  have hb := S.2.1
  have hw : Wd D A s.heap (wd_12 cC cI cJ a_sr a_sr_known a_ro g_sr_unseen sr_number sr_enough sr_tooLong g_sr_months g_sr_heeded a_sr_known sr_known a_ro ro_asked ro_brought ro_friends ro_used ro_crumbs ro_day a_mo mo_tasks mo_helpers mo_askedFirst mo_crumbsFirst mo_lastDay a_mo_kinds a_mo_days a_mo_rideDays a_mo_helpKinds a_mo_nexts a_mo_helperKinds a_mo_prices a_mo_helpersOfKind a_mo_numbers a_mo_kinds mo_kinds a_mo_days mo_days a_mo_rideDays mo_rideDays a_mo_helpKinds mo_helpKinds a_mo_nexts mo_nexts a_mo_helperKinds mo_helperKinds a_mo_prices mo_prices a_mo_helpersOfKind mo_helpersOfKind a_mo_numbers mo_numbers a_fr fr_asked fr_brought fr_friends fr_used fr_crumbs fr_day a_se se_size se_lastPlace a_se_left a_se_left se_left) s.heap [] := ⟨hP, hD, va_S.rf⟩
  have hw0 := hw
  refine lv_aload_n hx hb dX2_placeInFirst_0 rfl (lv_at hl 0 rfl) ?_
  refine lv_aload_n hx hb dX2_placeInFirst_1 rfl (lv_at hl 1 rfl) ?_
  refine lv_aload_n hx hb dX2_placeInFirst_2 rfl (lv_at hl 2 rfl) ?_
  refine lv_aload_n hx hb dX2_placeInFirst_3 rfl (lv_at hl 3 rfl) ?_
  refine lv_lconst (v := 1) hx hb dX2_placeInFirst_4 (by decide) ?_
  obtain ⟨r1, h2, hm⟩ := ob hm
  refine k_wVv S hK hw cal_X2_begin gX2_placeInFirst_X2_begin (c_X2_begin l D cC cI cJ a_sr a_sr_known a_ro g_sr_unseen g_sr_months g_sr_heeded a_mo a_mo_kinds a_mo_days a_mo_rideDays a_mo_helpKinds a_mo_nexts a_mo_helperKinds a_mo_prices a_mo_helpersOfKind a_mo_numbers a_fr a_se sr_number sr_enough sr_tooLong sr_known ro_asked ro_brought ro_friends ro_used ro_crumbs ro_day mo_tasks mo_helpers mo_askedFirst mo_crumbsFirst mo_lastDay mo_kinds mo_days mo_rideDays mo_helpKinds mo_nexts mo_helperKinds mo_prices mo_helpersOfKind mo_numbers fr_asked fr_brought fr_friends fr_used fr_crumbs fr_day (1 : Int64) N (aw _) (hw.own [0, 1, 2, 3, 4, 5, 6, 7, 8, 9, 10, 11, 12, 13] (by decide) rfl) r1 h2) ⟨⟨rfl, rfl⟩, Nat.le_of_ble_eq_true rfl, Nat.le_of_ble_eq_true rfl⟩ [0, 1, 2, 3, 4, 5, 6, 7, 8, 9, 10, 11, 12, 13] rfl 0 rfl rfl rfl hl.1 rfl (Nat.le_of_ble_eq_true rfl) dX2_placeInFirst_5 ⟨Nat.zero_le _, Nat.zero_le _⟩ (fun H locs hJ hB => ?_)
  have hw := hJ _ hB rfl
  replace hw : Wd D A _ (wd_12 cC cI cJ a_sr a_sr_known a_ro g_sr_unseen r1.1 r1.2.1 r1.2.2.1 a_mo a_se a_sr_known sr_known a_ro r1.2.2.2.1 r1.2.2.2.2.1 r1.2.2.2.2.2.1 r1.2.2.2.2.2.2.1 r1.2.2.2.2.2.2.2.1 r1.2.2.2.2.2.2.2.2 a_mo mo_tasks mo_helpers mo_askedFirst mo_crumbsFirst mo_lastDay a_mo_kinds a_mo_days a_mo_rideDays a_mo_helpKinds a_mo_nexts a_mo_helperKinds a_mo_prices a_mo_helpersOfKind a_mo_numbers a_mo_kinds mo_kinds a_mo_days mo_days a_mo_rideDays mo_rideDays a_mo_helpKinds mo_helpKinds a_mo_nexts mo_nexts a_mo_helperKinds mo_helperKinds a_mo_prices mo_prices a_mo_helpersOfKind mo_helpersOfKind a_mo_numbers mo_numbers a_fr fr_asked fr_brought fr_friends fr_used fr_crumbs fr_day a_se se_size se_lastPlace a_se_left a_se_left se_left) H locs := hw
  refine lv_bipush (v := (-4)) hx hb dX2_placeInFirst_8 (by decide) ?_
  refine lv_istore (lv' := [(5, .int (-4 : Int32)), (0, .ref a_sr), (1, .ref a_mo), (2, .ref a_fr), (3, .ref a_se), (4, .int p3)]) hx hb dX2_placeInFirst_10 hl (by decide) rfl (fun ls hl => ?_)
  refine lv_iconst (v := 0) hx hb dX2_placeInFirst_12 (by decide) ?_
  refine lv_istore (lv' := [(6, .int (0 : Int32)), (5, .int (-4 : Int32)), (0, .ref a_sr), (1, .ref a_mo), (2, .ref a_fr), (3, .ref a_se), (4, .int p3)]) hx hb dX2_placeInFirst_13 hl (by decide) rfl (fun ls hl => ?_)
  obtain ⟨r7, h8, hm⟩ := ob hm
  refine t_X2_placeInFirst_15 l S hK a_sr a_sr_known a_ro g_sr_unseen g_sr_months g_sr_heeded a_mo a_mo_kinds a_mo_days a_mo_rideDays a_mo_helpKinds a_mo_nexts a_mo_helperKinds a_mo_prices a_mo_helpersOfKind a_mo_numbers a_fr a_se a_se_left N p3 r1.1 r1.2.1 r1.2.2.1 mo_tasks mo_helpers mo_askedFirst mo_crumbsFirst mo_lastDay mo_kinds mo_days mo_rideDays mo_helpKinds mo_nexts mo_helperKinds mo_prices mo_helpersOfKind mo_numbers fr_asked fr_brought fr_friends fr_used fr_crumbs fr_day se_size se_lastPlace se_left N (-4 : Int32) (0 : Int32) sr_known r1.2.2.2.1 r1.2.2.2.2.1 r1.2.2.2.2.2.1 r1.2.2.2.2.2.2.1 r1.2.2.2.2.2.2.2.1 r1.2.2.2.2.2.2.2.2 r7 h8  _ _ ls hw (lv_sub hl [2, 6, 1, 0] rfl) (fun u9 hu H locs ls hw hl => ?_) (fun u10 hu H locs ls hw hl => ?_)
  · subst hu
    replace hm := seL hm
    refine lv_iload hx hb dX2_placeInFirst_44 (lv_at hl 0 rfl) ?_
    obtain rfl := Option.some.inj hm
    exact e_WI S hr hlk hw rfl hw.1 dX2_placeInFirst_46
  · subst hu
    replace hm := seR hm
    refine lv_bipush (v := (-4)) hx hb dX2_placeInFirst_35 (by decide) ?_
    obtain rfl := Option.some.inj hm
    exact e_WI S hr hlk hw rfl hw.1 dX2_placeInFirst_37

abbrev rX2_waysOf : Room := { frames := 14, cells := 0, slots := 0, locals := 379 }
theorem cal_X2_waysOf : Cal yX2_waysOf wsX2_waysOf cX2_waysOf 4 (some .int) RX2 3 := ⟨⟨_, rfl⟩, rfl, by decide +kernel, by decide +kernel, by decide +kernel⟩
set_option maxHeartbeats 4000000 in
set_option maxRecDepth 100000 in
theorem c_X2_waysOf (l : Launch) (D : va_G) (cC cI cJ : ClassId) (a_sr : Nat) (a_sr_known : Nat) (a_ro : Nat) (g_sr_unseen : Nat) (g_sr_months : Nat) (g_sr_heeded : Nat) (a_mo : Nat) (a_mo_kinds : Nat) (a_mo_days : Nat) (a_mo_rideDays : Nat) (a_mo_helpKinds : Nat) (a_mo_nexts : Nat) (a_mo_helperKinds : Nat) (a_mo_prices : Nat) (a_mo_helpersOfKind : Nat) (a_mo_numbers : Nat) (a_fr : Nat) (a_se : Nat) (a_se_left : Nat) (sr_number : Int64) (sr_enough : Int64) (sr_tooLong : Int32) (sr_known : (Nat → Int64)) (ro_asked : Int32) (ro_brought : Int32) (ro_friends : Int32) (ro_used : Int32) (ro_crumbs : Int32) (ro_day : Int32) (mo_tasks : Int32) (mo_helpers : Int32) (mo_askedFirst : Int32) (mo_crumbsFirst : Int32) (mo_lastDay : Int32) (mo_kinds : (Nat → Int32)) (mo_days : (Nat → Int32)) (mo_rideDays : (Nat → Int32)) (mo_helpKinds : (Nat → Int32)) (mo_nexts : (Nat → Int32)) (mo_helperKinds : (Nat → Int32)) (mo_prices : (Nat → Int32)) (mo_helpersOfKind : (Nat → Int32)) (mo_numbers : (Nat → Int32)) (fr_asked : Int32) (fr_brought : Int32) (fr_friends : Int32) (fr_used : Int32) (fr_crumbs : Int32) (fr_day : Int32) (se_size : Int32) (se_lastPlace : Int32) (se_left : (Nat → Int32)) (N : Nat) (A : Nat → Prop) (hD : va_D A (wd_12 cC cI cJ a_sr a_sr_known a_ro g_sr_unseen sr_number sr_enough sr_tooLong g_sr_months g_sr_heeded a_sr_known sr_known a_ro ro_asked ro_brought ro_friends ro_used ro_crumbs ro_day a_mo mo_tasks mo_helpers mo_askedFirst mo_crumbsFirst mo_lastDay a_mo_kinds a_mo_days a_mo_rideDays a_mo_helpKinds a_mo_nexts a_mo_helperKinds a_mo_prices a_mo_helpersOfKind a_mo_numbers a_mo_kinds mo_kinds a_mo_days mo_days a_mo_rideDays mo_rideDays a_mo_helpKinds mo_helpKinds a_mo_nexts mo_nexts a_mo_helperKinds mo_helperKinds a_mo_prices mo_prices a_mo_helpersOfKind mo_helpersOfKind a_mo_numbers mo_numbers a_fr fr_asked fr_brought fr_friends fr_used fr_crumbs fr_day a_se se_size se_lastPlace a_se_left a_se_left se_left)) (out : (Int32 × Int64 × Int64 × Int32 × (Nat → Int64) × Int32 × Int32 × Int32 × Int32 × Int32 × Int32)) (hm : m_X2_waysOf N sr_number sr_known mo_tasks mo_lastDay mo_kinds mo_rideDays mo_helpKinds mo_nexts mo_helpersOfKind fr_asked fr_brought fr_friends fr_used fr_crumbs fr_day se_lastPlace se_left = some out) : WrI l yX2_waysOf wsX2_waysOf rX2_waysOf D (tyK cC cI cJ) [.ref a_sr, .ref a_mo, .ref a_fr, .ref a_se] A (wd_12 cC cI cJ a_sr a_sr_known a_ro g_sr_unseen sr_number sr_enough sr_tooLong g_sr_months g_sr_heeded a_sr_known sr_known a_ro ro_asked ro_brought ro_friends ro_used ro_crumbs ro_day a_mo mo_tasks mo_helpers mo_askedFirst mo_crumbsFirst mo_lastDay a_mo_kinds a_mo_days a_mo_rideDays a_mo_helpKinds a_mo_nexts a_mo_helperKinds a_mo_prices a_mo_helpersOfKind a_mo_numbers a_mo_kinds mo_kinds a_mo_days mo_days a_mo_rideDays mo_rideDays a_mo_helpKinds mo_helpKinds a_mo_nexts mo_nexts a_mo_helperKinds mo_helperKinds a_mo_prices mo_prices a_mo_helpersOfKind mo_helpersOfKind a_mo_numbers mo_numbers a_fr fr_asked fr_brought fr_friends fr_used fr_crumbs fr_day a_se se_size se_lastPlace a_se_left a_se_left se_left) (Bw0 D (wd_12 cC cI cJ a_sr a_sr_known a_ro g_sr_unseen out.2.1 out.2.2.1 out.2.2.2.1 a_mo a_se a_sr_known out.2.2.2.2.1 a_ro out.2.2.2.2.2.1 out.2.2.2.2.2.2.1 out.2.2.2.2.2.2.2.1 out.2.2.2.2.2.2.2.2.1 out.2.2.2.2.2.2.2.2.2.1 out.2.2.2.2.2.2.2.2.2.2 a_mo mo_tasks mo_helpers mo_askedFirst mo_crumbsFirst mo_lastDay a_mo_kinds a_mo_days a_mo_rideDays a_mo_helpKinds a_mo_nexts a_mo_helperKinds a_mo_prices a_mo_helpersOfKind a_mo_numbers a_mo_kinds mo_kinds a_mo_days mo_days a_mo_rideDays mo_rideDays a_mo_helpKinds mo_helpKinds a_mo_nexts mo_nexts a_mo_helperKinds mo_helperKinds a_mo_prices mo_prices a_mo_helpersOfKind mo_helpersOfKind a_mo_numbers mo_numbers a_fr fr_asked fr_brought fr_friends fr_used fr_crumbs fr_day a_se se_size se_lastPlace a_se_left a_se_left se_left)) out.1 := by
  unfold m_X2_waysOf at hm
  refine enter (cc := cX2_waysOf) (maxL := 4) (ret := (some .int)) (lv := [(0, .ref a_sr), (1, .ref a_mo), (2, .ref a_fr), (3, .ref a_se)]) (by decide) rfl (Nat.le_of_ble_eq_true rfl) rfl ?_
  intro p e s m args below meth c S hr hlk hK hP ls hl
  replace S : CallFix p m c cX2_waysOf 4 s args wsX2_waysOf RX2 := S
  have hx := S.1
  have hb := S.2.1
  have hw : Wd D A s.heap (wd_12 cC cI cJ a_sr a_sr_known a_ro g_sr_unseen sr_number sr_enough sr_tooLong g_sr_months g_sr_heeded a_sr_known sr_known a_ro ro_asked ro_brought ro_friends ro_used ro_crumbs ro_day a_mo mo_tasks mo_helpers mo_askedFirst mo_crumbsFirst mo_lastDay a_mo_kinds a_mo_days a_mo_rideDays a_mo_helpKinds a_mo_nexts a_mo_helperKinds a_mo_prices a_mo_helpersOfKind a_mo_numbers a_mo_kinds mo_kinds a_mo_days mo_days a_mo_rideDays mo_rideDays a_mo_helpKinds mo_helpKinds a_mo_nexts mo_nexts a_mo_helperKinds mo_helperKinds a_mo_prices mo_prices a_mo_helpersOfKind mo_helpersOfKind a_mo_numbers mo_numbers a_fr fr_asked fr_brought fr_friends fr_used fr_crumbs fr_day a_se se_size se_lastPlace a_se_left a_se_left se_left) s.heap [] := ⟨hP, hD, va_S.rf⟩
  have hw0 := hw
  refine lv_aload_n hx hb dX2_waysOf_0 rfl (lv_at hl 0 rfl) ?_
  refine lv_aload_n hx hb dX2_waysOf_1 rfl (lv_at hl 1 rfl) ?_
  refine lv_aload_n hx hb dX2_waysOf_2 rfl (lv_at hl 2 rfl) ?_
  refine lv_aload_n hx hb dX2_waysOf_3 rfl (lv_at hl 3 rfl) ?_
  refine lv_ldc2 hx hb S.2.2.2.1 (S.2.2.2.2 (.constantLong RX2 34 (65536)) (List.mem_of_getElem? (i := 1) rfl)) dX2_waysOf_4 ?_
  obtain ⟨r1, h2, hm⟩ := ob hm
  refine k_wVv S hK hw cal_X2_begin gX2_waysOf_X2_begin (c_X2_begin l D cC cI cJ a_sr a_sr_known a_ro g_sr_unseen g_sr_months g_sr_heeded a_mo a_mo_kinds a_mo_days a_mo_rideDays a_mo_helpKinds a_mo_nexts a_mo_helperKinds a_mo_prices a_mo_helpersOfKind a_mo_numbers a_fr a_se sr_number sr_enough sr_tooLong sr_known ro_asked ro_brought ro_friends ro_used ro_crumbs ro_day mo_tasks mo_helpers mo_askedFirst mo_crumbsFirst mo_lastDay mo_kinds mo_days mo_rideDays mo_helpKinds mo_nexts mo_helperKinds mo_prices mo_helpersOfKind mo_numbers fr_asked fr_brought fr_friends fr_used fr_crumbs fr_day (65536 : Int64) N (aw _) (hw.own [0, 1, 2, 3, 4, 5, 6, 7, 8, 9, 10, 11, 12, 13] (by decide) rfl) r1 h2) ⟨⟨rfl, rfl⟩, Nat.le_of_ble_eq_true rfl, Nat.le_of_ble_eq_true rfl⟩ [0, 1, 2, 3, 4, 5, 6, 7, 8, 9, 10, 11, 12, 13] rfl 0 rfl rfl rfl hl.1 rfl (Nat.le_of_ble_eq_true rfl) dX2_waysOf_7 ⟨Nat.zero_le _, Nat.zero_le _⟩ (fun H locs hJ hB => ?_)
  have hw := hJ _ hB rfl
  replace hw : Wd D A _ (wd_12 cC cI cJ a_sr a_sr_known a_ro g_sr_unseen r1.1 r1.2.1 r1.2.2.1 a_mo a_se a_sr_known sr_known a_ro r1.2.2.2.1 r1.2.2.2.2.1 r1.2.2.2.2.2.1 r1.2.2.2.2.2.2.1 r1.2.2.2.2.2.2.2.1 r1.2.2.2.2.2.2.2.2 a_mo mo_tasks mo_helpers mo_askedFirst mo_crumbsFirst mo_lastDay a_mo_kinds a_mo_days a_mo_rideDays a_mo_helpKinds a_mo_nexts a_mo_helperKinds a_mo_prices a_mo_helpersOfKind a_mo_numbers a_mo_kinds mo_kinds a_mo_days mo_days a_mo_rideDays mo_rideDays a_mo_helpKinds mo_helpKinds a_mo_nexts mo_nexts a_mo_helperKinds mo_helperKinds a_mo_prices mo_prices a_mo_helpersOfKind mo_helpersOfKind a_mo_numbers mo_numbers a_fr fr_asked fr_brought fr_friends fr_used fr_crumbs fr_day a_se se_size se_lastPlace a_se_left a_se_left se_left) H locs := hw
  refine lv_aload_n hx hb dX2_waysOf_10 rfl (lv_at hl 0 rfl) ?_
  refine lv_iconst (v := 0) hx hb dX2_waysOf_11 (by decide) ?_
  obtain ⟨r3, h4, hm⟩ := ob hm
  refine k_wSl S hK hw cal_X2_waysOn gX2_waysOf_X2_waysOn (c_X2_waysOn l D cC cI cJ a_sr a_sr_known a_ro g_sr_unseen a_mo a_se a_mo_kinds a_mo_days a_mo_rideDays a_mo_helpKinds a_mo_nexts a_mo_helperKinds a_mo_prices a_mo_helpersOfKind a_mo_numbers a_se_left r1.1 r1.2.1 r1.2.2.1 sr_known r1.2.2.2.1 r1.2.2.2.2.1 r1.2.2.2.2.2.1 r1.2.2.2.2.2.2.1 r1.2.2.2.2.2.2.2.1 r1.2.2.2.2.2.2.2.2 mo_tasks mo_helpers mo_askedFirst mo_crumbsFirst mo_lastDay mo_kinds mo_days mo_rideDays mo_helpKinds mo_nexts mo_helperKinds mo_prices mo_helpersOfKind mo_numbers se_size se_lastPlace se_left (0 : Int32) N 10 (aw _) (hw.own [0, 1, 2, 3, 4, 5, 6, 7, 8, 9, 10, 11, 12, 14, 15] (by decide) rfl) r3 h4) ⟨⟨rfl, rfl⟩, Nat.le_of_ble_eq_true rfl, Nat.le_of_ble_eq_true rfl⟩ [0, 1, 2, 3, 4, 5, 6, 7, 8, 9, 10, 11, 12, 14, 15] rfl rfl hl.1 rfl (Nat.le_of_ble_eq_true rfl) dX2_waysOf_12 ⟨Nat.zero_le _, Nat.zero_le _⟩ (fun H locs hJ hB => ?_)
  have hw := hJ _ hB rfl
  replace hw : Wd D A _ (wd_12 cC cI cJ a_sr a_sr_known a_ro g_sr_unseen r1.1 r1.2.1 r1.2.2.1 a_mo a_se a_sr_known r3.2.1 a_ro r3.2.2.1 r3.2.2.2.1 r3.2.2.2.2.1 r3.2.2.2.2.2.1 r3.2.2.2.2.2.2.1 r3.2.2.2.2.2.2.2 a_mo mo_tasks mo_helpers mo_askedFirst mo_crumbsFirst mo_lastDay a_mo_kinds a_mo_days a_mo_rideDays a_mo_helpKinds a_mo_nexts a_mo_helperKinds a_mo_prices a_mo_helpersOfKind a_mo_numbers a_mo_kinds mo_kinds a_mo_days mo_days a_mo_rideDays mo_rideDays a_mo_helpKinds mo_helpKinds a_mo_nexts mo_nexts a_mo_helperKinds mo_helperKinds a_mo_prices mo_prices a_mo_helpersOfKind mo_helpersOfKind a_mo_numbers mo_numbers a_fr fr_asked fr_brought fr_friends fr_used fr_crumbs fr_day a_se se_size se_lastPlace a_se_left a_se_left se_left) H locs := hw
  refine lv_l2i (v := (r3.1).toInt32) hx hb dX2_waysOf_15 rfl ?_
  obtain rfl := Option.some.inj hm
  exact e_WI S hr hlk hw rfl hw.1 dX2_waysOf_16

abbrev rX4_begin : Room := { frames := 0, cells := 0, slots := 0, locals := 0 }
theorem cal_X4_begin : Cal yX4_begin wsX4_begin cX4_begin 2 none RX4 1 := ⟨⟨_, rfl⟩, rfl, by decide +kernel, by decide +kernel, by decide +kernel⟩
theorem in_X4_begin_X0 : ∀ w ∈ wsX00, w ∈ wsX4_begin := fun _ h => (List.mem_cons_of_mem _ (List.mem_append_left _ (List.mem_append_right _ h)))
theorem in_X4_begin_X4 : ∀ w ∈ wsX40, w ∈ wsX4_begin := fun _ h => (List.mem_cons_of_mem _ (List.mem_append_right _ h))
set_option maxHeartbeats 4000000 in
set_option maxRecDepth 100000 in
theorem c_X4_begin (l : Launch) (D : va_G) (cC cI cJ : ClassId) (a_st : Nat) (a_mo : Nat) (a_mo_kinds : Nat) (a_mo_days : Nat) (a_mo_rideDays : Nat) (a_mo_helpKinds : Nat) (a_mo_nexts : Nat) (a_mo_helperKinds : Nat) (a_mo_prices : Nat) (a_mo_helpersOfKind : Nat) (a_mo_numbers : Nat) (st_asked : Int32) (st_brought : Int32) (st_friends : Int32) (st_used : Int32) (st_crumbs : Int32) (st_day : Int32) (mo_tasks : Int32) (mo_helpers : Int32) (mo_askedFirst : Int32) (mo_crumbsFirst : Int32) (mo_lastDay : Int32) (mo_kinds : (Nat → Int32)) (mo_days : (Nat → Int32)) (mo_rideDays : (Nat → Int32)) (mo_helpKinds : (Nat → Int32)) (mo_nexts : (Nat → Int32)) (mo_helperKinds : (Nat → Int32)) (mo_prices : (Nat → Int32)) (mo_helpersOfKind : (Nat → Int32)) (mo_numbers : (Nat → Int32)) (A : Nat → Prop) (hD : va_D A (wd_8 cC cI cJ a_st st_asked st_brought st_friends st_used st_crumbs st_day a_mo mo_tasks mo_helpers mo_askedFirst mo_crumbsFirst mo_lastDay a_mo_kinds a_mo_days a_mo_rideDays a_mo_helpKinds a_mo_nexts a_mo_helperKinds a_mo_prices a_mo_helpersOfKind a_mo_numbers a_mo_kinds mo_kinds a_mo_days mo_days a_mo_rideDays mo_rideDays a_mo_helpKinds mo_helpKinds a_mo_nexts mo_nexts a_mo_helperKinds mo_helperKinds a_mo_prices mo_prices a_mo_helpersOfKind mo_helpersOfKind a_mo_numbers mo_numbers)) (out : (Int32 × Int32 × Int32 × Int32 × Int32 × Int32)) (hm : m_X4_begin mo_askedFirst mo_crumbsFirst = some out) : WrV l yX4_begin wsX4_begin rX4_begin D (tyK cC cI cJ) [.ref a_st, .ref a_mo] A (wd_8 cC cI cJ a_st st_asked st_brought st_friends st_used st_crumbs st_day a_mo mo_tasks mo_helpers mo_askedFirst mo_crumbsFirst mo_lastDay a_mo_kinds a_mo_days a_mo_rideDays a_mo_helpKinds a_mo_nexts a_mo_helperKinds a_mo_prices a_mo_helpersOfKind a_mo_numbers a_mo_kinds mo_kinds a_mo_days mo_days a_mo_rideDays mo_rideDays a_mo_helpKinds mo_helpKinds a_mo_nexts mo_nexts a_mo_helperKinds mo_helperKinds a_mo_prices mo_prices a_mo_helpersOfKind mo_helpersOfKind a_mo_numbers mo_numbers) (Bw0 D (wd_8 cC cI cJ a_st out.1 out.2.1 out.2.2.1 out.2.2.2.1 out.2.2.2.2.1 out.2.2.2.2.2 a_mo mo_tasks mo_helpers mo_askedFirst mo_crumbsFirst mo_lastDay a_mo_kinds a_mo_days a_mo_rideDays a_mo_helpKinds a_mo_nexts a_mo_helperKinds a_mo_prices a_mo_helpersOfKind a_mo_numbers a_mo_kinds mo_kinds a_mo_days mo_days a_mo_rideDays mo_rideDays a_mo_helpKinds mo_helpKinds a_mo_nexts mo_nexts a_mo_helperKinds mo_helperKinds a_mo_prices mo_prices a_mo_helpersOfKind mo_helpersOfKind a_mo_numbers mo_numbers)) := by
  unfold m_X4_begin at hm
  refine enter (cc := cX4_begin) (maxL := 2) (ret := none) (lv := [(0, .ref a_st), (1, .ref a_mo)]) (by decide) rfl (Nat.le_of_ble_eq_true rfl) rfl ?_
  intro p e s m args below meth c S hr hlk hK hP ls hl
  replace S : CallFix p m c cX4_begin 2 s args wsX4_begin RX4 := S
  have hx := S.1
  have hb := S.2.1
  have hw : Wd D A s.heap (wd_8 cC cI cJ a_st st_asked st_brought st_friends st_used st_crumbs st_day a_mo mo_tasks mo_helpers mo_askedFirst mo_crumbsFirst mo_lastDay a_mo_kinds a_mo_days a_mo_rideDays a_mo_helpKinds a_mo_nexts a_mo_helperKinds a_mo_prices a_mo_helpersOfKind a_mo_numbers a_mo_kinds mo_kinds a_mo_days mo_days a_mo_rideDays mo_rideDays a_mo_helpKinds mo_helpKinds a_mo_nexts mo_nexts a_mo_helperKinds mo_helperKinds a_mo_prices mo_prices a_mo_helpersOfKind mo_helpersOfKind a_mo_numbers mo_numbers) s.heap [] := ⟨hP, hD, va_S.rf⟩
  have hw0 := hw
  refine lv_aload_n hx hb dX4_begin_0 rfl (lv_at hl 0 rfl) ?_
  refine lv_aload_n hx hb dX4_begin_1 rfl (lv_at hl 1 rfl) ?_
  refine f_get S hK hw.1 in_X4_begin_X0 1 rfl rfl 2 (by decide) (List.mem_of_getElem? (i := 1) rfl) rfl rfl dX4_begin_2 ?_
  refine f_put S hK hw in_X4_begin_X4 tyX4_ok nmX4 0 rfl rfl 0 (by decide) (List.mem_of_getElem? (i := 2) rfl) rfl rfl rfl rfl (Nat.le_of_ble_eq_true rfl) (ws1 := (wd_8 cC cI cJ a_st mo_askedFirst st_brought st_friends st_used st_crumbs st_day a_mo mo_tasks mo_helpers mo_askedFirst mo_crumbsFirst mo_lastDay a_mo_kinds a_mo_days a_mo_rideDays a_mo_helpKinds a_mo_nexts a_mo_helperKinds a_mo_prices a_mo_helpersOfKind a_mo_numbers a_mo_kinds mo_kinds a_mo_days mo_days a_mo_rideDays mo_rideDays a_mo_helpKinds mo_helpKinds a_mo_nexts mo_nexts a_mo_helperKinds mo_helperKinds a_mo_prices mo_prices a_mo_helpersOfKind mo_helpersOfKind a_mo_numbers mo_numbers)) rfl dX4_begin_5 (fun H locs hw => ?_)
  refine lv_aload_n hx hb dX4_begin_8 rfl (lv_at hl 0 rfl) ?_
  refine lv_iconst (v := 0) hx hb dX4_begin_9 (by decide) ?_
  refine f_put S hK hw in_X4_begin_X4 tyX4_ok nmX4 0 rfl rfl 1 (by decide) (List.mem_of_getElem? (i := 3) rfl) rfl rfl rfl rfl (Nat.le_of_ble_eq_true rfl) (ws1 := (wd_8 cC cI cJ a_st mo_askedFirst (0 : Int32) st_friends st_used st_crumbs st_day a_mo mo_tasks mo_helpers mo_askedFirst mo_crumbsFirst mo_lastDay a_mo_kinds a_mo_days a_mo_rideDays a_mo_helpKinds a_mo_nexts a_mo_helperKinds a_mo_prices a_mo_helpersOfKind a_mo_numbers a_mo_kinds mo_kinds a_mo_days mo_days a_mo_rideDays mo_rideDays a_mo_helpKinds mo_helpKinds a_mo_nexts mo_nexts a_mo_helperKinds mo_helperKinds a_mo_prices mo_prices a_mo_helpersOfKind mo_helpersOfKind a_mo_numbers mo_numbers)) rfl dX4_begin_10 (fun H locs hw => ?_)
  refine lv_aload_n hx hb dX4_begin_13 rfl (lv_at hl 0 rfl) ?_
  refine lv_iconst (v := 0) hx hb dX4_begin_14 (by decide) ?_
  refine f_put S hK hw in_X4_begin_X4 tyX4_ok nmX4 0 rfl rfl 2 (by decide) (List.mem_of_getElem? (i := 4) rfl) rfl rfl rfl rfl (Nat.le_of_ble_eq_true rfl) (ws1 := (wd_8 cC cI cJ a_st mo_askedFirst (0 : Int32) (0 : Int32) st_used st_crumbs st_day a_mo mo_tasks mo_helpers mo_askedFirst mo_crumbsFirst mo_lastDay a_mo_kinds a_mo_days a_mo_rideDays a_mo_helpKinds a_mo_nexts a_mo_helperKinds a_mo_prices a_mo_helpersOfKind a_mo_numbers a_mo_kinds mo_kinds a_mo_days mo_days a_mo_rideDays mo_rideDays a_mo_helpKinds mo_helpKinds a_mo_nexts mo_nexts a_mo_helperKinds mo_helperKinds a_mo_prices mo_prices a_mo_helpersOfKind mo_helpersOfKind a_mo_numbers mo_numbers)) rfl dX4_begin_15 (fun H locs hw => ?_)
  refine lv_aload_n hx hb dX4_begin_18 rfl (lv_at hl 0 rfl) ?_
  refine lv_iconst (v := 0) hx hb dX4_begin_19 (by decide) ?_
  refine f_put S hK hw in_X4_begin_X4 tyX4_ok nmX4 0 rfl rfl 3 (by decide) (List.mem_of_getElem? (i := 5) rfl) rfl rfl rfl rfl (Nat.le_of_ble_eq_true rfl) (ws1 := (wd_8 cC cI cJ a_st mo_askedFirst (0 : Int32) (0 : Int32) (0 : Int32) st_crumbs st_day a_mo mo_tasks mo_helpers mo_askedFirst mo_crumbsFirst mo_lastDay a_mo_kinds a_mo_days a_mo_rideDays a_mo_helpKinds a_mo_nexts a_mo_helperKinds a_mo_prices a_mo_helpersOfKind a_mo_numbers a_mo_kinds mo_kinds a_mo_days mo_days a_mo_rideDays mo_rideDays a_mo_helpKinds mo_helpKinds a_mo_nexts mo_nexts a_mo_helperKinds mo_helperKinds a_mo_prices mo_prices a_mo_helpersOfKind mo_helpersOfKind a_mo_numbers mo_numbers)) rfl dX4_begin_20 (fun H locs hw => ?_)
  refine lv_aload_n hx hb dX4_begin_23 rfl (lv_at hl 0 rfl) ?_
  refine lv_aload_n hx hb dX4_begin_24 rfl (lv_at hl 1 rfl) ?_
  refine f_get S hK hw.1 in_X4_begin_X0 1 rfl rfl 3 (by decide) (List.mem_of_getElem? (i := 6) rfl) rfl rfl dX4_begin_25 ?_
  refine f_put S hK hw in_X4_begin_X4 tyX4_ok nmX4 0 rfl rfl 4 (by decide) (List.mem_of_getElem? (i := 7) rfl) rfl rfl rfl rfl (Nat.le_of_ble_eq_true rfl) (ws1 := (wd_8 cC cI cJ a_st mo_askedFirst (0 : Int32) (0 : Int32) (0 : Int32) mo_crumbsFirst st_day a_mo mo_tasks mo_helpers mo_askedFirst mo_crumbsFirst mo_lastDay a_mo_kinds a_mo_days a_mo_rideDays a_mo_helpKinds a_mo_nexts a_mo_helperKinds a_mo_prices a_mo_helpersOfKind a_mo_numbers a_mo_kinds mo_kinds a_mo_days mo_days a_mo_rideDays mo_rideDays a_mo_helpKinds mo_helpKinds a_mo_nexts mo_nexts a_mo_helperKinds mo_helperKinds a_mo_prices mo_prices a_mo_helpersOfKind mo_helpersOfKind a_mo_numbers mo_numbers)) rfl dX4_begin_28 (fun H locs hw => ?_)
  refine lv_aload_n hx hb dX4_begin_31 rfl (lv_at hl 0 rfl) ?_
  refine lv_iconst (v := 0) hx hb dX4_begin_32 (by decide) ?_
  refine f_put S hK hw in_X4_begin_X4 tyX4_ok nmX4 0 rfl rfl 5 (by decide) (List.mem_of_getElem? (i := 8) rfl) rfl rfl rfl rfl (Nat.le_of_ble_eq_true rfl) (ws1 := (wd_8 cC cI cJ a_st mo_askedFirst (0 : Int32) (0 : Int32) (0 : Int32) mo_crumbsFirst (0 : Int32) a_mo mo_tasks mo_helpers mo_askedFirst mo_crumbsFirst mo_lastDay a_mo_kinds a_mo_days a_mo_rideDays a_mo_helpKinds a_mo_nexts a_mo_helperKinds a_mo_prices a_mo_helpersOfKind a_mo_numbers a_mo_kinds mo_kinds a_mo_days mo_days a_mo_rideDays mo_rideDays a_mo_helpKinds mo_helpKinds a_mo_nexts mo_nexts a_mo_helperKinds mo_helperKinds a_mo_prices mo_prices a_mo_helpersOfKind mo_helpersOfKind a_mo_numbers mo_numbers)) rfl dX4_begin_33 (fun H locs hw => ?_)
  obtain rfl := Option.some.inj hm
  exact e_WV S hr hlk hw hw.1 dX4_begin_36

abbrev rX4_tasksToSuggest : Room := { frames := 1, cells := 0, slots := 0, locals := 21 }
theorem cal_X4_tasksToSuggest : Cal yX4_tasksToSuggest wsX4_tasksToSuggest cX4_tasksToSuggest 2 (some .int) RX4 1 := ⟨⟨_, rfl⟩, rfl, by decide +kernel, by decide +kernel, by decide +kernel⟩
theorem in_X4_tasksToSuggest_X0 : ∀ w ∈ wsX00, w ∈ wsX4_tasksToSuggest := fun _ h => (List.mem_cons_of_mem _ (List.mem_append_left _ (List.mem_append_right _ h)))
theorem in_X4_tasksToSuggest_X4 : ∀ w ∈ wsX40, w ∈ wsX4_tasksToSuggest := fun _ h => (List.mem_cons_of_mem _ (List.mem_append_right _ h))
set_option maxHeartbeats 4000000 in
set_option maxRecDepth 100000 in
theorem c_X4_tasksToSuggest (l : Launch) (D : va_G) (cC cI cJ : ClassId) (a_st : Nat) (a_mo : Nat) (a_mo_kinds : Nat) (a_mo_days : Nat) (a_mo_rideDays : Nat) (a_mo_helpKinds : Nat) (a_mo_nexts : Nat) (a_mo_helperKinds : Nat) (a_mo_prices : Nat) (a_mo_helpersOfKind : Nat) (a_mo_numbers : Nat) (st_asked : Int32) (st_brought : Int32) (st_friends : Int32) (st_used : Int32) (st_crumbs : Int32) (st_day : Int32) (mo_tasks : Int32) (mo_helpers : Int32) (mo_askedFirst : Int32) (mo_crumbsFirst : Int32) (mo_lastDay : Int32) (mo_kinds : (Nat → Int32)) (mo_days : (Nat → Int32)) (mo_rideDays : (Nat → Int32)) (mo_helpKinds : (Nat → Int32)) (mo_nexts : (Nat → Int32)) (mo_helperKinds : (Nat → Int32)) (mo_prices : (Nat → Int32)) (mo_helpersOfKind : (Nat → Int32)) (mo_numbers : (Nat → Int32)) (out : Int32) (hm : m_X4_tasksToSuggest st_asked st_day mo_tasks mo_lastDay = some out) : RdI l yX4_tasksToSuggest wsX4_tasksToSuggest rX4_tasksToSuggest D (tyK cC cI cJ) [.ref a_st, .ref a_mo] (wd_8 cC cI cJ a_st st_asked st_brought st_friends st_used st_crumbs st_day a_mo mo_tasks mo_helpers mo_askedFirst mo_crumbsFirst mo_lastDay a_mo_kinds a_mo_days a_mo_rideDays a_mo_helpKinds a_mo_nexts a_mo_helperKinds a_mo_prices a_mo_helpersOfKind a_mo_numbers a_mo_kinds mo_kinds a_mo_days mo_days a_mo_rideDays mo_rideDays a_mo_helpKinds mo_helpKinds a_mo_nexts mo_nexts a_mo_helperKinds mo_helperKinds a_mo_prices mo_prices a_mo_helpersOfKind mo_helpersOfKind a_mo_numbers mo_numbers) out := by
  unfold m_X4_tasksToSuggest at hm
  refine enter (cc := cX4_tasksToSuggest) (maxL := 2) (ret := (some .int)) (lv := [(0, .ref a_st), (1, .ref a_mo)]) (by decide) rfl (Nat.le_of_ble_eq_true rfl) rfl ?_
  intro p e s m args below meth c S hr hlk hK hP ls hl
  replace S : CallFix p m c cX4_tasksToSuggest 2 s args wsX4_tasksToSuggest RX4 := S
  have hx := S.1
  have hb := S.2.1
  refine lv_aload_n hx hb dX4_tasksToSuggest_0 rfl (lv_at hl 0 rfl) ?_
  refine lv_aload_n hx hb dX4_tasksToSuggest_1 rfl (lv_at hl 1 rfl) ?_
  obtain ⟨r1, h2, hm⟩ := ob hm
  refine k_rVi S hK hP cal_X4_isLost gX4_tasksToSuggest_X4_isLost (c_X4_isLost l D cC cI cJ a_st a_mo a_mo_kinds a_mo_days a_mo_rideDays a_mo_helpKinds a_mo_nexts a_mo_helperKinds a_mo_prices a_mo_helpersOfKind a_mo_numbers st_asked st_brought st_friends st_used st_crumbs st_day mo_tasks mo_helpers mo_askedFirst mo_crumbsFirst mo_lastDay mo_kinds mo_days mo_rideDays mo_helpKinds mo_nexts mo_helperKinds mo_prices mo_helpersOfKind mo_numbers r1 h2) ⟨⟨rfl, rfl⟩, Nat.le_of_ble_eq_true rfl, Nat.le_of_ble_eq_true rfl⟩ [0, 1, 2, 3, 4, 5, 6, 7, 8, 9, 10] rfl 0 rfl rfl rfl hl.1 rfl (Nat.le_of_ble_eq_true rfl) dX4_tasksToSuggest_2 ⟨Nat.zero_le _, Nat.zero_le _⟩ ?_
  refine lv_if_eq (tgt := 12) hx hb dX4_tasksToSuggest_5 (by decide) (fun c3 => ?_) (fun c3 => ?_)
  · replace hm := ipos hm c3
    refine lv_aload_n hx hb dX4_tasksToSuggest_12 rfl (lv_at hl 1 rfl) ?_
    refine f_get S hK hP in_X4_tasksToSuggest_X0 1 rfl rfl 0 (by decide) (List.mem_of_getElem? (i := 1) rfl) rfl rfl dX4_tasksToSuggest_13 ?_
    obtain ⟨r4, h5, hm⟩ := ob hm
    refine k_rNi S hK hP cal_X5_bit gX4_tasksToSuggest_X5_bit_n49 (List.mem_of_getElem? (i := 4) rfl) (List.mem_of_getElem? (i := 11) rfl) (List.mem_of_getElem? (i := 10) rfl) (c_X5_bit l D cC cI cJ mo_tasks r4 h5) ⟨⟨rfl, rfl⟩, Nat.le_of_ble_eq_true rfl, Nat.le_of_ble_eq_true rfl⟩ [] rfl rfl hl.1 rfl (Nat.le_of_ble_eq_true rfl) dX4_tasksToSuggest_16 ⟨Nat.zero_le _, Nat.zero_le _⟩ ?_
    refine lv_iconst (v := 1) hx hb dX4_tasksToSuggest_19 (by decide) ?_
    refine lv_isub hx hb dX4_tasksToSuggest_20 ?_
    refine lv_aload_n hx hb dX4_tasksToSuggest_21 rfl (lv_at hl 0 rfl) ?_
    refine f_get S hK hP in_X4_tasksToSuggest_X4 0 rfl rfl 0 (by decide) (List.mem_of_getElem? (i := 2) rfl) rfl rfl dX4_tasksToSuggest_22 ?_
    refine lv_iconst (v := (-1)) hx hb dX4_tasksToSuggest_25 (by decide) ?_
    refine lv_ixor hx hb dX4_tasksToSuggest_26 ?_
    refine lv_iand hx hb dX4_tasksToSuggest_27 ?_
    exact e_RI S hr hlk (Option.some.inj hm) dX4_tasksToSuggest_28
  · replace hm := ineg hm c3
    refine lv_iconst (v := 0) hx hb dX4_tasksToSuggest_8 (by decide) ?_
    refine lv_goto (tgt := 28) hx hb dX4_tasksToSuggest_9 (by decide) ?_
    exact e_RI S hr hlk (Option.some.inj hm) dX4_tasksToSuggest_28

abbrev rX4_tryBefriend : Room := { frames := 1, cells := 0, slots := 0, locals := 21 }
theorem cal_X4_tryBefriend : Cal yX4_tryBefriend wsX4_tryBefriend cX4_tryBefriend 4 (some .boolean) RX4 2 := ⟨⟨_, rfl⟩, rfl, by decide +kernel, by decide +kernel, by decide +kernel⟩
theorem in_X4_tryBefriend_X4 : ∀ w ∈ wsX40, w ∈ wsX4_tryBefriend := fun _ h => (List.mem_cons_of_mem _ (List.mem_append_left _ (List.mem_append_right _ h)))
set_option maxHeartbeats 4000000 in
set_option maxRecDepth 100000 in
theorem c_X4_tryBefriend (l : Launch) (D : va_G) (cC cI cJ : ClassId) (a_st : Nat) (a_mo : Nat) (a_mo_kinds : Nat) (a_mo_days : Nat) (a_mo_rideDays : Nat) (a_mo_helpKinds : Nat) (a_mo_nexts : Nat) (a_mo_helperKinds : Nat) (a_mo_prices : Nat) (a_mo_helpersOfKind : Nat) (a_mo_numbers : Nat) (st_asked : Int32) (st_brought : Int32) (st_friends : Int32) (st_used : Int32) (st_crumbs : Int32) (st_day : Int32) (mo_tasks : Int32) (mo_helpers : Int32) (mo_askedFirst : Int32) (mo_crumbsFirst : Int32) (mo_lastDay : Int32) (mo_kinds : (Nat → Int32)) (mo_days : (Nat → Int32)) (mo_rideDays : (Nat → Int32)) (mo_helpKinds : (Nat → Int32)) (mo_nexts : (Nat → Int32)) (mo_helperKinds : (Nat → Int32)) (mo_prices : (Nat → Int32)) (mo_helpersOfKind : (Nat → Int32)) (mo_numbers : (Nat → Int32)) (p1 : Int32) (A : Nat → Prop) (hD : va_D A (wd_8 cC cI cJ a_st st_asked st_brought st_friends st_used st_crumbs st_day a_mo mo_tasks mo_helpers mo_askedFirst mo_crumbsFirst mo_lastDay a_mo_kinds a_mo_days a_mo_rideDays a_mo_helpKinds a_mo_nexts a_mo_helperKinds a_mo_prices a_mo_helpersOfKind a_mo_numbers a_mo_kinds mo_kinds a_mo_days mo_days a_mo_rideDays mo_rideDays a_mo_helpKinds mo_helpKinds a_mo_nexts mo_nexts a_mo_helperKinds mo_helperKinds a_mo_prices mo_prices a_mo_helpersOfKind mo_helpersOfKind a_mo_numbers mo_numbers)) (out : (Int32 × Int32 × Int32)) (hm : m_X4_tryBefriend st_friends st_crumbs mo_prices p1 = some out) : WrI l yX4_tryBefriend wsX4_tryBefriend rX4_tryBefriend D (tyK cC cI cJ) [.ref a_st, .ref a_mo, .int p1] A (wd_8 cC cI cJ a_st st_asked st_brought st_friends st_used st_crumbs st_day a_mo mo_tasks mo_helpers mo_askedFirst mo_crumbsFirst mo_lastDay a_mo_kinds a_mo_days a_mo_rideDays a_mo_helpKinds a_mo_nexts a_mo_helperKinds a_mo_prices a_mo_helpersOfKind a_mo_numbers a_mo_kinds mo_kinds a_mo_days mo_days a_mo_rideDays mo_rideDays a_mo_helpKinds mo_helpKinds a_mo_nexts mo_nexts a_mo_helperKinds mo_helperKinds a_mo_prices mo_prices a_mo_helpersOfKind mo_helpersOfKind a_mo_numbers mo_numbers) (Bw0 D (wd_8 cC cI cJ a_st st_asked st_brought out.2.1 st_used out.2.2 st_day a_mo mo_tasks mo_helpers mo_askedFirst mo_crumbsFirst mo_lastDay a_mo_kinds a_mo_days a_mo_rideDays a_mo_helpKinds a_mo_nexts a_mo_helperKinds a_mo_prices a_mo_helpersOfKind a_mo_numbers a_mo_kinds mo_kinds a_mo_days mo_days a_mo_rideDays mo_rideDays a_mo_helpKinds mo_helpKinds a_mo_nexts mo_nexts a_mo_helperKinds mo_helperKinds a_mo_prices mo_prices a_mo_helpersOfKind mo_helpersOfKind a_mo_numbers mo_numbers)) out.1 := by
  unfold m_X4_tryBefriend at hm
  refine enter (cc := cX4_tryBefriend) (maxL := 4) (ret := (some .boolean)) (lv := [(0, .ref a_st), (1, .ref a_mo), (2, .int p1)]) (by decide) rfl (Nat.le_of_ble_eq_true rfl) rfl ?_
  intro p e s m args below meth c S hr hlk hK hP ls hl
  replace S : CallFix p m c cX4_tryBefriend 4 s args wsX4_tryBefriend RX4 := S
  have hx := S.1
  have hb := S.2.1
  have hw : Wd D A s.heap (wd_8 cC cI cJ a_st st_asked st_brought st_friends st_used st_crumbs st_day a_mo mo_tasks mo_helpers mo_askedFirst mo_crumbsFirst mo_lastDay a_mo_kinds a_mo_days a_mo_rideDays a_mo_helpKinds a_mo_nexts a_mo_helperKinds a_mo_prices a_mo_helpersOfKind a_mo_numbers a_mo_kinds mo_kinds a_mo_days mo_days a_mo_rideDays mo_rideDays a_mo_helpKinds mo_helpKinds a_mo_nexts mo_nexts a_mo_helperKinds mo_helperKinds a_mo_prices mo_prices a_mo_helpersOfKind mo_helpersOfKind a_mo_numbers mo_numbers) s.heap [] := ⟨hP, hD, va_S.rf⟩
  have hw0 := hw
  refine lv_aload_n hx hb dX4_tryBefriend_0 rfl (lv_at hl 1 rfl) ?_
  refine lv_iload_n hx hb dX4_tryBefriend_1 rfl (lv_at hl 2 rfl) ?_
  obtain ⟨r1, h2, hm⟩ := ob hm
  refine k_rVi S hK hw.1 cal_X0_priceOf gX4_tryBefriend_X0_priceOf (c_X0_priceOf l D cC cI cJ a_mo a_mo_kinds a_mo_days a_mo_rideDays a_mo_helpKinds a_mo_nexts a_mo_helperKinds a_mo_prices a_mo_helpersOfKind a_mo_numbers mo_tasks mo_helpers mo_askedFirst mo_crumbsFirst mo_lastDay mo_kinds mo_days mo_rideDays mo_helpKinds mo_nexts mo_helperKinds mo_prices mo_helpersOfKind mo_numbers p1 r1 h2) ⟨⟨rfl, rfl⟩, Nat.le_of_ble_eq_true rfl, Nat.le_of_ble_eq_true rfl⟩ [1, 2, 3, 4, 5, 6, 7, 8, 9, 10] rfl 1 rfl rfl rfl hl.1 rfl (Nat.le_of_ble_eq_true rfl) dX4_tryBefriend_2 ⟨Nat.zero_le _, Nat.zero_le _⟩ ?_
  refine lv_istore_n (lv' := [(3, .int r1), (0, .ref a_st), (1, .ref a_mo), (2, .int p1)]) hx hb dX4_tryBefriend_5 rfl hl (by decide) rfl (fun ls hl => ?_)
  refine lv_aload_n hx hb dX4_tryBefriend_6 rfl (lv_at hl 1 rfl) ?_
  refine f_get S hK hw.1 in_X4_tryBefriend_X4 0 rfl rfl 2 (by decide) (List.mem_of_getElem? (i := 1) rfl) rfl rfl dX4_tryBefriend_7 ?_
  refine lv_iload_n hx hb dX4_tryBefriend_10 rfl (lv_at hl 3 rfl) ?_
  obtain ⟨r3, h4, hm⟩ := ob hm
  refine k_rNi S hK hw.1 cal_X5_bit gX4_tryBefriend_X5_bit_n49 (List.mem_of_getElem? (i := 4) rfl) (List.mem_of_getElem? (i := 10) rfl) (List.mem_of_getElem? (i := 9) rfl) (c_X5_bit l D cC cI cJ p1 r3 h4) ⟨⟨rfl, rfl⟩, Nat.le_of_ble_eq_true rfl, Nat.le_of_ble_eq_true rfl⟩ [] rfl rfl hl.1 rfl (Nat.le_of_ble_eq_true rfl) dX4_tryBefriend_11 ⟨Nat.zero_le _, Nat.zero_le _⟩ ?_
  refine lv_iand hx hb dX4_tryBefriend_14 ?_
  refine lv_if_ne (tgt := 26) hx hb dX4_tryBefriend_15 (by decide) (fun c5 => ?_) (fun c5 => ?_)
  · replace hm := ineg hm c5
    refine lv_iconst (v := 0) hx hb dX4_tryBefriend_26 (by decide) ?_
    obtain rfl := Option.some.inj hm
    exact e_WZ S hr hlk hw (Or.inl rfl) rfl hw.1 dX4_tryBefriend_27
  · replace hm := ipos hm c5
    refine lv_iload_n hx hb dX4_tryBefriend_18 rfl (lv_at hl 0 rfl) ?_
    refine lv_aload_n hx hb dX4_tryBefriend_19 rfl (lv_at hl 1 rfl) ?_
    refine f_get S hK hw.1 in_X4_tryBefriend_X4 0 rfl rfl 4 (by decide) (List.mem_of_getElem? (i := 2) rfl) rfl rfl dX4_tryBefriend_20 ?_
    refine lv_icmp_le (tgt := 28) hx hb dX4_tryBefriend_23 (by decide) (fun c6 => ?_) (fun c6 => ?_)
    · replace hm := ipos hm c6
      refine lv_aload_n hx hb dX4_tryBefriend_28 rfl (lv_at hl 1 rfl) ?_
      refine lv_dup hx hb dX4_tryBefriend_29 rfl ?_
      refine f_get S hK hw.1 in_X4_tryBefriend_X4 0 rfl rfl 2 (by decide) (List.mem_of_getElem? (i := 1) rfl) rfl rfl dX4_tryBefriend_30 ?_
      refine lv_iload_n hx hb dX4_tryBefriend_33 rfl (lv_at hl 3 rfl) ?_
      obtain ⟨r7, h8, hm⟩ := ob hm
      refine k_rNi S hK hw.1 cal_X5_bit gX4_tryBefriend_X5_bit_n49 (List.mem_of_getElem? (i := 4) rfl) (List.mem_of_getElem? (i := 10) rfl) (List.mem_of_getElem? (i := 9) rfl) (c_X5_bit l D cC cI cJ p1 r7 h8) ⟨⟨rfl, rfl⟩, Nat.le_of_ble_eq_true rfl, Nat.le_of_ble_eq_true rfl⟩ [] rfl rfl hl.1 rfl (Nat.le_of_ble_eq_true rfl) dX4_tryBefriend_34 ⟨Nat.zero_le _, Nat.zero_le _⟩ ?_
      refine lv_ior hx hb dX4_tryBefriend_37 ?_
      refine f_put S hK hw in_X4_tryBefriend_X4 tyX4_ok nmX4 0 rfl rfl 2 (by decide) (List.mem_of_getElem? (i := 1) rfl) rfl rfl rfl rfl (Nat.le_of_ble_eq_true rfl) (ws1 := (wd_8 cC cI cJ a_st st_asked st_brought (st_friends ||| r7) st_used st_crumbs st_day a_mo mo_tasks mo_helpers mo_askedFirst mo_crumbsFirst mo_lastDay a_mo_kinds a_mo_days a_mo_rideDays a_mo_helpKinds a_mo_nexts a_mo_helperKinds a_mo_prices a_mo_helpersOfKind a_mo_numbers a_mo_kinds mo_kinds a_mo_days mo_days a_mo_rideDays mo_rideDays a_mo_helpKinds mo_helpKinds a_mo_nexts mo_nexts a_mo_helperKinds mo_helperKinds a_mo_prices mo_prices a_mo_helpersOfKind mo_helpersOfKind a_mo_numbers mo_numbers)) rfl dX4_tryBefriend_38 (fun H locs hw => ?_)
      refine lv_aload_n hx hb dX4_tryBefriend_41 rfl (lv_at hl 1 rfl) ?_
      refine lv_dup hx hb dX4_tryBefriend_42 rfl ?_
      refine f_get S hK hw.1 in_X4_tryBefriend_X4 0 rfl rfl 4 (by decide) (List.mem_of_getElem? (i := 2) rfl) rfl rfl dX4_tryBefriend_43 ?_
      refine lv_iload_n hx hb dX4_tryBefriend_46 rfl (lv_at hl 0 rfl) ?_
      refine lv_isub hx hb dX4_tryBefriend_47 ?_
      refine f_put S hK hw in_X4_tryBefriend_X4 tyX4_ok nmX4 0 rfl rfl 4 (by decide) (List.mem_of_getElem? (i := 2) rfl) rfl rfl rfl rfl (Nat.le_of_ble_eq_true rfl) (ws1 := (wd_8 cC cI cJ a_st st_asked st_brought (st_friends ||| r7) st_used (st_crumbs - r1) st_day a_mo mo_tasks mo_helpers mo_askedFirst mo_crumbsFirst mo_lastDay a_mo_kinds a_mo_days a_mo_rideDays a_mo_helpKinds a_mo_nexts a_mo_helperKinds a_mo_prices a_mo_helpersOfKind a_mo_numbers a_mo_kinds mo_kinds a_mo_days mo_days a_mo_rideDays mo_rideDays a_mo_helpKinds mo_helpKinds a_mo_nexts mo_nexts a_mo_helperKinds mo_helperKinds a_mo_prices mo_prices a_mo_helpersOfKind mo_helpersOfKind a_mo_numbers mo_numbers)) rfl dX4_tryBefriend_48 (fun H locs hw => ?_)
      refine lv_iconst (v := 1) hx hb dX4_tryBefriend_51 (by decide) ?_
      obtain rfl := Option.some.inj hm
      exact e_WZ S hr hlk hw (Or.inr rfl) rfl hw.1 dX4_tryBefriend_52
    · replace hm := ineg hm c6
      refine lv_iconst (v := 0) hx hb dX4_tryBefriend_26 (by decide) ?_
      obtain rfl := Option.some.inj hm
      exact e_WZ S hr hlk hw (Or.inl rfl) rfl hw.1 dX4_tryBefriend_27

abbrev rX4_tryHandUp : Room := { frames := 1, cells := 0, slots := 0, locals := 21 }
theorem cal_X4_tryHandUp : Cal yX4_tryHandUp wsX4_tryHandUp cX4_tryHandUp 3 (some .boolean) RX4 2 := ⟨⟨_, rfl⟩, rfl, by decide +kernel, by decide +kernel, by decide +kernel⟩
theorem in_X4_tryHandUp_X4 : ∀ w ∈ wsX40, w ∈ wsX4_tryHandUp := fun _ h => (List.mem_cons_of_mem _ (List.mem_append_left _ (List.mem_append_right _ h)))
set_option maxHeartbeats 4000000 in
set_option maxRecDepth 100000 in
theorem c_X4_tryHandUp (l : Launch) (D : va_G) (cC cI cJ : ClassId) (a_st : Nat) (a_mo : Nat) (a_mo_kinds : Nat) (a_mo_days : Nat) (a_mo_rideDays : Nat) (a_mo_helpKinds : Nat) (a_mo_nexts : Nat) (a_mo_helperKinds : Nat) (a_mo_prices : Nat) (a_mo_helpersOfKind : Nat) (a_mo_numbers : Nat) (st_asked : Int32) (st_brought : Int32) (st_friends : Int32) (st_used : Int32) (st_crumbs : Int32) (st_day : Int32) (mo_tasks : Int32) (mo_helpers : Int32) (mo_askedFirst : Int32) (mo_crumbsFirst : Int32) (mo_lastDay : Int32) (mo_kinds : (Nat → Int32)) (mo_days : (Nat → Int32)) (mo_rideDays : (Nat → Int32)) (mo_helpKinds : (Nat → Int32)) (mo_nexts : (Nat → Int32)) (mo_helperKinds : (Nat → Int32)) (mo_prices : (Nat → Int32)) (mo_helpersOfKind : (Nat → Int32)) (mo_numbers : (Nat → Int32)) (p1 : Int32) (A : Nat → Prop) (hD : va_D A (wd_8 cC cI cJ a_st st_asked st_brought st_friends st_used st_crumbs st_day a_mo mo_tasks mo_helpers mo_askedFirst mo_crumbsFirst mo_lastDay a_mo_kinds a_mo_days a_mo_rideDays a_mo_helpKinds a_mo_nexts a_mo_helperKinds a_mo_prices a_mo_helpersOfKind a_mo_numbers a_mo_kinds mo_kinds a_mo_days mo_days a_mo_rideDays mo_rideDays a_mo_helpKinds mo_helpKinds a_mo_nexts mo_nexts a_mo_helperKinds mo_helperKinds a_mo_prices mo_prices a_mo_helpersOfKind mo_helpersOfKind a_mo_numbers mo_numbers)) (out : (Int32 × Int32 × Int32)) (hm : m_X4_tryHandUp st_asked st_brought st_day mo_lastDay mo_days p1 = some out) : WrI l yX4_tryHandUp wsX4_tryHandUp rX4_tryHandUp D (tyK cC cI cJ) [.ref a_st, .ref a_mo, .int p1] A (wd_8 cC cI cJ a_st st_asked st_brought st_friends st_used st_crumbs st_day a_mo mo_tasks mo_helpers mo_askedFirst mo_crumbsFirst mo_lastDay a_mo_kinds a_mo_days a_mo_rideDays a_mo_helpKinds a_mo_nexts a_mo_helperKinds a_mo_prices a_mo_helpersOfKind a_mo_numbers a_mo_kinds mo_kinds a_mo_days mo_days a_mo_rideDays mo_rideDays a_mo_helpKinds mo_helpKinds a_mo_nexts mo_nexts a_mo_helperKinds mo_helperKinds a_mo_prices mo_prices a_mo_helpersOfKind mo_helpersOfKind a_mo_numbers mo_numbers) (Bw0 D (wd_8 cC cI cJ a_st st_asked out.2.1 st_friends st_used st_crumbs out.2.2 a_mo mo_tasks mo_helpers mo_askedFirst mo_crumbsFirst mo_lastDay a_mo_kinds a_mo_days a_mo_rideDays a_mo_helpKinds a_mo_nexts a_mo_helperKinds a_mo_prices a_mo_helpersOfKind a_mo_numbers a_mo_kinds mo_kinds a_mo_days mo_days a_mo_rideDays mo_rideDays a_mo_helpKinds mo_helpKinds a_mo_nexts mo_nexts a_mo_helperKinds mo_helperKinds a_mo_prices mo_prices a_mo_helpersOfKind mo_helpersOfKind a_mo_numbers mo_numbers)) out.1 := by
  unfold m_X4_tryHandUp at hm
  refine enter (cc := cX4_tryHandUp) (maxL := 3) (ret := (some .boolean)) (lv := [(0, .ref a_st), (1, .ref a_mo), (2, .int p1)]) (by decide) rfl (Nat.le_of_ble_eq_true rfl) rfl ?_
  intro p e s m args below meth c S hr hlk hK hP ls hl
  replace S : CallFix p m c cX4_tryHandUp 3 s args wsX4_tryHandUp RX4 := S
  have hx := S.1
  have hb := S.2.1
  have hw : Wd D A s.heap (wd_8 cC cI cJ a_st st_asked st_brought st_friends st_used st_crumbs st_day a_mo mo_tasks mo_helpers mo_askedFirst mo_crumbsFirst mo_lastDay a_mo_kinds a_mo_days a_mo_rideDays a_mo_helpKinds a_mo_nexts a_mo_helperKinds a_mo_prices a_mo_helpersOfKind a_mo_numbers a_mo_kinds mo_kinds a_mo_days mo_days a_mo_rideDays mo_rideDays a_mo_helpKinds mo_helpKinds a_mo_nexts mo_nexts a_mo_helperKinds mo_helperKinds a_mo_prices mo_prices a_mo_helpersOfKind mo_helpersOfKind a_mo_numbers mo_numbers) s.heap [] := ⟨hP, hD, va_S.rf⟩
  have hw0 := hw
  refine lv_aload_n hx hb dX4_tryHandUp_0 rfl (lv_at hl 0 rfl) ?_
  refine lv_aload_n hx hb dX4_tryHandUp_1 rfl (lv_at hl 1 rfl) ?_
  obtain ⟨r1, h2, hm⟩ := ob hm
  refine k_rVi S hK hw.1 cal_X4_isLost gX4_tryHandUp_X4_isLost (c_X4_isLost l D cC cI cJ a_st a_mo a_mo_kinds a_mo_days a_mo_rideDays a_mo_helpKinds a_mo_nexts a_mo_helperKinds a_mo_prices a_mo_helpersOfKind a_mo_numbers st_asked st_brought st_friends st_used st_crumbs st_day mo_tasks mo_helpers mo_askedFirst mo_crumbsFirst mo_lastDay mo_kinds mo_days mo_rideDays mo_helpKinds mo_nexts mo_helperKinds mo_prices mo_helpersOfKind mo_numbers r1 h2) ⟨⟨rfl, rfl⟩, Nat.le_of_ble_eq_true rfl, Nat.le_of_ble_eq_true rfl⟩ [0, 1, 2, 3, 4, 5, 6, 7, 8, 9, 10] rfl 0 rfl rfl rfl hl.1 rfl (Nat.le_of_ble_eq_true rfl) dX4_tryHandUp_2 ⟨Nat.zero_le _, Nat.zero_le _⟩ ?_
  refine lv_if_ne (tgt := 20) hx hb dX4_tryHandUp_5 (by decide) (fun c3 => ?_) (fun c3 => ?_)
  · replace hm := ineg hm c3
    refine lv_iconst (v := 0) hx hb dX4_tryHandUp_20 (by decide) ?_
    obtain rfl := Option.some.inj hm
    exact e_WZ S hr hlk hw (Or.inl rfl) rfl hw.1 dX4_tryHandUp_21
  · replace hm := ipos hm c3
    refine lv_aload_n hx hb dX4_tryHandUp_8 rfl (lv_at hl 0 rfl) ?_
    obtain ⟨r4, h5, hm⟩ := ob hm
    refine k_rVi S hK hw.1 cal_X4_openTasks gX4_tryHandUp_X4_openTasks (c_X4_openTasks l D cC cI cJ a_st st_asked st_brought st_friends st_used st_crumbs st_day r4 h5) ⟨⟨rfl, rfl⟩, Nat.le_of_ble_eq_true rfl, Nat.le_of_ble_eq_true rfl⟩ [0] rfl 0 rfl rfl rfl hl.1 rfl (Nat.le_of_ble_eq_true rfl) dX4_tryHandUp_9 ⟨Nat.zero_le _, Nat.zero_le _⟩ ?_
    refine lv_iload_n hx hb dX4_tryHandUp_12 rfl (lv_at hl 2 rfl) ?_
    obtain ⟨r6, h7, hm⟩ := ob hm
    refine k_rNi S hK hw.1 cal_X5_bit gX4_tryHandUp_X5_bit_n49 (List.mem_of_getElem? (i := 4) rfl) (List.mem_of_getElem? (i := 15) rfl) (List.mem_of_getElem? (i := 14) rfl) (c_X5_bit l D cC cI cJ p1 r6 h7) ⟨⟨rfl, rfl⟩, Nat.le_of_ble_eq_true rfl, Nat.le_of_ble_eq_true rfl⟩ [] rfl rfl hl.1 rfl (Nat.le_of_ble_eq_true rfl) dX4_tryHandUp_13 ⟨Nat.zero_le _, Nat.zero_le _⟩ ?_
    refine lv_iand hx hb dX4_tryHandUp_16 ?_
    refine lv_if_ne (tgt := 22) hx hb dX4_tryHandUp_17 (by decide) (fun c8 => ?_) (fun c8 => ?_)
    · replace hm := ineg hm c8
      refine lv_aload_n hx hb dX4_tryHandUp_22 rfl (lv_at hl 0 rfl) ?_
      refine lv_dup hx hb dX4_tryHandUp_23 rfl ?_
      refine f_get S hK hw.1 in_X4_tryHandUp_X4 0 rfl rfl 5 (by decide) (List.mem_of_getElem? (i := 1) rfl) rfl rfl dX4_tryHandUp_24 ?_
      refine lv_iconst (v := 2) hx hb dX4_tryHandUp_27 (by decide) ?_
      refine lv_aload_n hx hb dX4_tryHandUp_28 rfl (lv_at hl 1 rfl) ?_
      refine lv_iload_n hx hb dX4_tryHandUp_29 rfl (lv_at hl 2 rfl) ?_
      obtain ⟨r9, h10, hm⟩ := ob hm
      refine k_rVi S hK hw.1 cal_X0_daysOf gX4_tryHandUp_X0_daysOf (c_X0_daysOf l D cC cI cJ a_mo a_mo_kinds a_mo_days a_mo_rideDays a_mo_helpKinds a_mo_nexts a_mo_helperKinds a_mo_prices a_mo_helpersOfKind a_mo_numbers mo_tasks mo_helpers mo_askedFirst mo_crumbsFirst mo_lastDay mo_kinds mo_days mo_rideDays mo_helpKinds mo_nexts mo_helperKinds mo_prices mo_helpersOfKind mo_numbers p1 r9 h10) ⟨⟨rfl, rfl⟩, Nat.le_of_ble_eq_true rfl, Nat.le_of_ble_eq_true rfl⟩ [1, 2, 3, 4, 5, 6, 7, 8, 9, 10] rfl 1 rfl rfl rfl hl.1 rfl (Nat.le_of_ble_eq_true rfl) dX4_tryHandUp_30 ⟨Nat.zero_le _, Nat.zero_le _⟩ ?_
      refine lv_imul hx hb dX4_tryHandUp_33 ?_
      refine lv_iconst (v := 1) hx hb dX4_tryHandUp_34 (by decide) ?_
      refine lv_iadd hx hb dX4_tryHandUp_35 ?_
      refine lv_iadd hx hb dX4_tryHandUp_36 ?_
      obtain ⟨y11, e12, hm⟩ := ob hm
      refine f_name e12 ?_
      refine f_put S hK hw in_X4_tryHandUp_X4 tyX4_ok nmX4 0 rfl rfl 5 (by decide) (List.mem_of_getElem? (i := 1) rfl) rfl rfl rfl rfl (Nat.le_of_ble_eq_true rfl) (ws1 := (wd_8 cC cI cJ a_st st_asked st_brought st_friends st_used st_crumbs y11 a_mo mo_tasks mo_helpers mo_askedFirst mo_crumbsFirst mo_lastDay a_mo_kinds a_mo_days a_mo_rideDays a_mo_helpKinds a_mo_nexts a_mo_helperKinds a_mo_prices a_mo_helpersOfKind a_mo_numbers a_mo_kinds mo_kinds a_mo_days mo_days a_mo_rideDays mo_rideDays a_mo_helpKinds mo_helpKinds a_mo_nexts mo_nexts a_mo_helperKinds mo_helperKinds a_mo_prices mo_prices a_mo_helpersOfKind mo_helpersOfKind a_mo_numbers mo_numbers)) rfl dX4_tryHandUp_37 (fun H locs hw => ?_)
      refine lv_aload_n hx hb dX4_tryHandUp_40 rfl (lv_at hl 0 rfl) ?_
      refine lv_dup hx hb dX4_tryHandUp_41 rfl ?_
      refine f_get S hK hw.1 in_X4_tryHandUp_X4 0 rfl rfl 1 (by decide) (List.mem_of_getElem? (i := 2) rfl) rfl rfl dX4_tryHandUp_42 ?_
      refine lv_iload_n hx hb dX4_tryHandUp_45 rfl (lv_at hl 2 rfl) ?_
      obtain ⟨r13, h14, hm⟩ := ob hm
      refine k_rNi S hK hw.1 cal_X5_bit gX4_tryHandUp_X5_bit_n49 (List.mem_of_getElem? (i := 4) rfl) (List.mem_of_getElem? (i := 15) rfl) (List.mem_of_getElem? (i := 14) rfl) (c_X5_bit l D cC cI cJ p1 r13 h14) ⟨⟨rfl, rfl⟩, Nat.le_of_ble_eq_true rfl, Nat.le_of_ble_eq_true rfl⟩ [] rfl rfl hl.1 rfl (Nat.le_of_ble_eq_true rfl) dX4_tryHandUp_46 ⟨Nat.zero_le _, Nat.zero_le _⟩ ?_
      refine lv_ior hx hb dX4_tryHandUp_49 ?_
      refine f_put S hK hw in_X4_tryHandUp_X4 tyX4_ok nmX4 0 rfl rfl 1 (by decide) (List.mem_of_getElem? (i := 2) rfl) rfl rfl rfl rfl (Nat.le_of_ble_eq_true rfl) (ws1 := (wd_8 cC cI cJ a_st st_asked (st_brought ||| r13) st_friends st_used st_crumbs y11 a_mo mo_tasks mo_helpers mo_askedFirst mo_crumbsFirst mo_lastDay a_mo_kinds a_mo_days a_mo_rideDays a_mo_helpKinds a_mo_nexts a_mo_helperKinds a_mo_prices a_mo_helpersOfKind a_mo_numbers a_mo_kinds mo_kinds a_mo_days mo_days a_mo_rideDays mo_rideDays a_mo_helpKinds mo_helpKinds a_mo_nexts mo_nexts a_mo_helperKinds mo_helperKinds a_mo_prices mo_prices a_mo_helpersOfKind mo_helpersOfKind a_mo_numbers mo_numbers)) rfl dX4_tryHandUp_50 (fun H locs hw => ?_)
      refine lv_iconst (v := 1) hx hb dX4_tryHandUp_53 (by decide) ?_
      obtain rfl := Option.some.inj hm
      exact e_WZ S hr hlk hw (Or.inr rfl) rfl hw.1 dX4_tryHandUp_54
    · replace hm := ipos hm c8
      refine lv_iconst (v := 0) hx hb dX4_tryHandUp_20 (by decide) ?_
      obtain rfl := Option.some.inj hm
      exact e_WZ S hr hlk hw (Or.inl rfl) rfl hw.1 dX4_tryHandUp_21

abbrev rX4_trySuggest : Room := { frames := 2, cells := 0, slots := 0, locals := 42 }
theorem cal_X4_trySuggest : Cal yX4_trySuggest wsX4_trySuggest cX4_trySuggest 3 (some .boolean) RX4 2 := ⟨⟨_, rfl⟩, rfl, by decide +kernel, by decide +kernel, by decide +kernel⟩
theorem in_X4_trySuggest_X4 : ∀ w ∈ wsX40, w ∈ wsX4_trySuggest := fun _ h => (List.mem_cons_of_mem _ (List.mem_append_left _ (List.mem_append_right _ h)))
set_option maxHeartbeats 4000000 in
set_option maxRecDepth 100000 in
theorem c_X4_trySuggest (l : Launch) (D : va_G) (cC cI cJ : ClassId) (a_st : Nat) (a_mo : Nat) (a_mo_kinds : Nat) (a_mo_days : Nat) (a_mo_rideDays : Nat) (a_mo_helpKinds : Nat) (a_mo_nexts : Nat) (a_mo_helperKinds : Nat) (a_mo_prices : Nat) (a_mo_helpersOfKind : Nat) (a_mo_numbers : Nat) (st_asked : Int32) (st_brought : Int32) (st_friends : Int32) (st_used : Int32) (st_crumbs : Int32) (st_day : Int32) (mo_tasks : Int32) (mo_helpers : Int32) (mo_askedFirst : Int32) (mo_crumbsFirst : Int32) (mo_lastDay : Int32) (mo_kinds : (Nat → Int32)) (mo_days : (Nat → Int32)) (mo_rideDays : (Nat → Int32)) (mo_helpKinds : (Nat → Int32)) (mo_nexts : (Nat → Int32)) (mo_helperKinds : (Nat → Int32)) (mo_prices : (Nat → Int32)) (mo_helpersOfKind : (Nat → Int32)) (mo_numbers : (Nat → Int32)) (p1 : Int32) (A : Nat → Prop) (hD : va_D A (wd_8 cC cI cJ a_st st_asked st_brought st_friends st_used st_crumbs st_day a_mo mo_tasks mo_helpers mo_askedFirst mo_crumbsFirst mo_lastDay a_mo_kinds a_mo_days a_mo_rideDays a_mo_helpKinds a_mo_nexts a_mo_helperKinds a_mo_prices a_mo_helpersOfKind a_mo_numbers a_mo_kinds mo_kinds a_mo_days mo_days a_mo_rideDays mo_rideDays a_mo_helpKinds mo_helpKinds a_mo_nexts mo_nexts a_mo_helperKinds mo_helperKinds a_mo_prices mo_prices a_mo_helpersOfKind mo_helpersOfKind a_mo_numbers mo_numbers)) (out : (Int32 × Int32)) (hm : m_X4_trySuggest st_asked st_day mo_tasks mo_lastDay p1 = some out) : WrI l yX4_trySuggest wsX4_trySuggest rX4_trySuggest D (tyK cC cI cJ) [.ref a_st, .ref a_mo, .int p1] A (wd_8 cC cI cJ a_st st_asked st_brought st_friends st_used st_crumbs st_day a_mo mo_tasks mo_helpers mo_askedFirst mo_crumbsFirst mo_lastDay a_mo_kinds a_mo_days a_mo_rideDays a_mo_helpKinds a_mo_nexts a_mo_helperKinds a_mo_prices a_mo_helpersOfKind a_mo_numbers a_mo_kinds mo_kinds a_mo_days mo_days a_mo_rideDays mo_rideDays a_mo_helpKinds mo_helpKinds a_mo_nexts mo_nexts a_mo_helperKinds mo_helperKinds a_mo_prices mo_prices a_mo_helpersOfKind mo_helpersOfKind a_mo_numbers mo_numbers) (Bw0 D (wd_8 cC cI cJ a_st out.2 st_brought st_friends st_used st_crumbs st_day a_mo mo_tasks mo_helpers mo_askedFirst mo_crumbsFirst mo_lastDay a_mo_kinds a_mo_days a_mo_rideDays a_mo_helpKinds a_mo_nexts a_mo_helperKinds a_mo_prices a_mo_helpersOfKind a_mo_numbers a_mo_kinds mo_kinds a_mo_days mo_days a_mo_rideDays mo_rideDays a_mo_helpKinds mo_helpKinds a_mo_nexts mo_nexts a_mo_helperKinds mo_helperKinds a_mo_prices mo_prices a_mo_helpersOfKind mo_helpersOfKind a_mo_numbers mo_numbers)) out.1 := by
  unfold m_X4_trySuggest at hm
  refine enter (cc := cX4_trySuggest) (maxL := 3) (ret := (some .boolean)) (lv := [(0, .ref a_st), (1, .ref a_mo), (2, .int p1)]) (by decide) rfl (Nat.le_of_ble_eq_true rfl) rfl ?_
  intro p e s m args below meth c S hr hlk hK hP ls hl
  replace S : CallFix p m c cX4_trySuggest 3 s args wsX4_trySuggest RX4 := S
  have hx := S.1
  have hb := S.2.1
  have hw : Wd D A s.heap (wd_8 cC cI cJ a_st st_asked st_brought st_friends st_used st_crumbs st_day a_mo mo_tasks mo_helpers mo_askedFirst mo_crumbsFirst mo_lastDay a_mo_kinds a_mo_days a_mo_rideDays a_mo_helpKinds a_mo_nexts a_mo_helperKinds a_mo_prices a_mo_helpersOfKind a_mo_numbers a_mo_kinds mo_kinds a_mo_days mo_days a_mo_rideDays mo_rideDays a_mo_helpKinds mo_helpKinds a_mo_nexts mo_nexts a_mo_helperKinds mo_helperKinds a_mo_prices mo_prices a_mo_helpersOfKind mo_helpersOfKind a_mo_numbers mo_numbers) s.heap [] := ⟨hP, hD, va_S.rf⟩
  have hw0 := hw
  refine lv_aload_n hx hb dX4_trySuggest_0 rfl (lv_at hl 0 rfl) ?_
  refine lv_aload_n hx hb dX4_trySuggest_1 rfl (lv_at hl 1 rfl) ?_
  obtain ⟨r1, h2, hm⟩ := ob hm
  refine k_rVi S hK hw.1 cal_X4_tasksToSuggest gX4_trySuggest_X4_tasksToSuggest (c_X4_tasksToSuggest l D cC cI cJ a_st a_mo a_mo_kinds a_mo_days a_mo_rideDays a_mo_helpKinds a_mo_nexts a_mo_helperKinds a_mo_prices a_mo_helpersOfKind a_mo_numbers st_asked st_brought st_friends st_used st_crumbs st_day mo_tasks mo_helpers mo_askedFirst mo_crumbsFirst mo_lastDay mo_kinds mo_days mo_rideDays mo_helpKinds mo_nexts mo_helperKinds mo_prices mo_helpersOfKind mo_numbers r1 h2) ⟨⟨rfl, rfl⟩, Nat.le_of_ble_eq_true rfl, Nat.le_of_ble_eq_true rfl⟩ [0, 1, 2, 3, 4, 5, 6, 7, 8, 9, 10] rfl 0 rfl rfl rfl hl.1 rfl (Nat.le_of_ble_eq_true rfl) dX4_trySuggest_2 ⟨Nat.zero_le _, Nat.zero_le _⟩ ?_
  refine lv_iload_n hx hb dX4_trySuggest_5 rfl (lv_at hl 2 rfl) ?_
  obtain ⟨r3, h4, hm⟩ := ob hm
  refine k_rNi S hK hw.1 cal_X5_bit gX4_trySuggest_X5_bit_n49 (List.mem_of_getElem? (i := 4) rfl) (List.mem_of_getElem? (i := 15) rfl) (List.mem_of_getElem? (i := 14) rfl) (c_X5_bit l D cC cI cJ p1 r3 h4) ⟨⟨rfl, rfl⟩, Nat.le_of_ble_eq_true rfl, Nat.le_of_ble_eq_true rfl⟩ [] rfl rfl hl.1 rfl (Nat.le_of_ble_eq_true rfl) dX4_trySuggest_6 ⟨Nat.zero_le _, Nat.zero_le _⟩ ?_
  refine lv_iand hx hb dX4_trySuggest_9 ?_
  refine lv_if_ne (tgt := 15) hx hb dX4_trySuggest_10 (by decide) (fun c5 => ?_) (fun c5 => ?_)
  · replace hm := ineg hm c5
    refine lv_aload_n hx hb dX4_trySuggest_15 rfl (lv_at hl 0 rfl) ?_
    refine lv_dup hx hb dX4_trySuggest_16 rfl ?_
    refine f_get S hK hw.1 in_X4_trySuggest_X4 0 rfl rfl 0 (by decide) (List.mem_of_getElem? (i := 1) rfl) rfl rfl dX4_trySuggest_17 ?_
    refine lv_iload_n hx hb dX4_trySuggest_20 rfl (lv_at hl 2 rfl) ?_
    obtain ⟨r6, h7, hm⟩ := ob hm
    refine k_rNi S hK hw.1 cal_X5_bit gX4_trySuggest_X5_bit_n49 (List.mem_of_getElem? (i := 4) rfl) (List.mem_of_getElem? (i := 15) rfl) (List.mem_of_getElem? (i := 14) rfl) (c_X5_bit l D cC cI cJ p1 r6 h7) ⟨⟨rfl, rfl⟩, Nat.le_of_ble_eq_true rfl, Nat.le_of_ble_eq_true rfl⟩ [] rfl rfl hl.1 rfl (Nat.le_of_ble_eq_true rfl) dX4_trySuggest_21 ⟨Nat.zero_le _, Nat.zero_le _⟩ ?_
    refine lv_ior hx hb dX4_trySuggest_24 ?_
    refine f_put S hK hw in_X4_trySuggest_X4 tyX4_ok nmX4 0 rfl rfl 0 (by decide) (List.mem_of_getElem? (i := 1) rfl) rfl rfl rfl rfl (Nat.le_of_ble_eq_true rfl) (ws1 := (wd_8 cC cI cJ a_st (st_asked ||| r6) st_brought st_friends st_used st_crumbs st_day a_mo mo_tasks mo_helpers mo_askedFirst mo_crumbsFirst mo_lastDay a_mo_kinds a_mo_days a_mo_rideDays a_mo_helpKinds a_mo_nexts a_mo_helperKinds a_mo_prices a_mo_helpersOfKind a_mo_numbers a_mo_kinds mo_kinds a_mo_days mo_days a_mo_rideDays mo_rideDays a_mo_helpKinds mo_helpKinds a_mo_nexts mo_nexts a_mo_helperKinds mo_helperKinds a_mo_prices mo_prices a_mo_helpersOfKind mo_helpersOfKind a_mo_numbers mo_numbers)) rfl dX4_trySuggest_25 (fun H locs hw => ?_)
    refine lv_iconst (v := 1) hx hb dX4_trySuggest_28 (by decide) ?_
    obtain rfl := Option.some.inj hm
    exact e_WZ S hr hlk hw (Or.inr rfl) rfl hw.1 dX4_trySuggest_29
  · replace hm := ipos hm c5
    refine lv_iconst (v := 0) hx hb dX4_trySuggest_13 (by decide) ?_
    obtain rfl := Option.some.inj hm
    exact e_WZ S hr hlk hw (Or.inl rfl) rfl hw.1 dX4_trySuggest_14

abbrev rX5_back : Room := { frames := 1, cells := 0, slots := 0, locals := 22 }
theorem cal_X5_back : Cal yX5_back wsX5_back cX5_back 1 (some .int) RX5 0 := ⟨⟨_, rfl⟩, rfl, by decide +kernel, by decide +kernel, by decide +kernel⟩
theorem in_X5_back_X1 : ∀ w ∈ wsX10, w ∈ wsX5_back := fun _ h => (List.mem_cons_of_mem _ (List.mem_append_left _ (List.mem_append_right _ h)))
theorem in_X5_back_X5 : ∀ w ∈ wsX50, w ∈ wsX5_back := fun _ h => (List.mem_cons_of_mem _ (List.mem_append_left _ (List.mem_append_left _ (List.mem_append_right _ h))))
set_option maxHeartbeats 4000000 in
set_option maxRecDepth 100000 in
theorem c_X5_back (l : Launch) (D : va_G) (cC cI cJ : ClassId) (a_x : Nat) (g_x_text : Nat) (g_x_months : Nat) (g_x_spare : Nat) (a_no : Nat) (g_x_trial : Nat) (a_un : Nat) (a_ke : Nat) (g_x_seen : Nat) (g_x_unseen : Nat) (g_x_search : Nat) (a_un_held : Nat) (a_ke_held : Nat) (x_letters : Int32) (no_asked : Int32) (no_brought : Int32) (no_friends : Int32) (no_used : Int32) (no_crumbs : Int32) (no_day : Int32) (un_size : Int32) (un_held : (Nat → Int64)) (ke_size : Int32) (ke_held : (Nat → Int64)) (A : Nat → Prop) (hD : va_D A (wd_13 cC cI cJ a_x g_x_text x_letters g_x_months g_x_spare a_no g_x_trial a_un a_ke g_x_seen g_x_unseen g_x_search a_no no_asked no_brought no_friends no_used no_crumbs no_day a_un un_size a_un_held a_un_held un_held a_ke ke_size a_ke_held a_ke_held ke_held)) (out : (Int32 × Int32 × Int32 × Int32 × Int32 × Int32 × Int32 × Int32 × Int32)) (hm : m_X5_back no_asked no_brought no_friends no_used no_crumbs no_day un_size ke_size ke_held = some out) : WrI l yX5_back wsX5_back rX5_back D (tyK cC cI cJ) [.ref a_x] A (wd_13 cC cI cJ a_x g_x_text x_letters g_x_months g_x_spare a_no g_x_trial a_un a_ke g_x_seen g_x_unseen g_x_search a_no no_asked no_brought no_friends no_used no_crumbs no_day a_un un_size a_un_held a_un_held un_held a_ke ke_size a_ke_held a_ke_held ke_held) (Bw0 D (wd_13 cC cI cJ a_x g_x_text x_letters g_x_months g_x_spare a_no g_x_trial a_un a_ke g_x_seen g_x_unseen g_x_search a_no out.2.1 out.2.2.1 out.2.2.2.1 out.2.2.2.2.1 out.2.2.2.2.2.1 out.2.2.2.2.2.2.1 a_un out.2.2.2.2.2.2.2.1 a_un_held a_un_held un_held a_ke out.2.2.2.2.2.2.2.2 a_ke_held a_ke_held ke_held)) out.1 := by
  unfold m_X5_back at hm
  refine enter (cc := cX5_back) (maxL := 1) (ret := (some .int)) (lv := [(0, .ref a_x)]) (by decide) rfl (Nat.le_of_ble_eq_true rfl) rfl ?_
  intro p e s m args below meth c S hr hlk hK hP ls hl
  replace S : CallFix p m c cX5_back 1 s args wsX5_back RX5 := S
  have hx := S.1
  have hb := S.2.1
  have hw : Wd D A s.heap (wd_13 cC cI cJ a_x g_x_text x_letters g_x_months g_x_spare a_no g_x_trial a_un a_ke g_x_seen g_x_unseen g_x_search a_no no_asked no_brought no_friends no_used no_crumbs no_day a_un un_size a_un_held a_un_held un_held a_ke ke_size a_ke_held a_ke_held ke_held) s.heap [] := ⟨hP, hD, va_S.rf⟩
  have hw0 := hw
  refine lv_aload_n hx hb dX5_back_0 rfl (lv_at hl 0 rfl) ?_
  refine f_get S hK hw.1 in_X5_back_X5 0 rfl rfl 7 (by decide) (List.mem_of_getElem? (i := 1) rfl) rfl rfl dX5_back_1 ?_
  refine f_get S hK hw.1 in_X5_back_X1 4 rfl rfl 0 (by decide) (List.mem_of_getElem? (i := 2) rfl) rfl rfl dX5_back_4 ?_
  refine lv_iconst (v := 1) hx hb dX5_back_7 (by decide) ?_
  refine lv_icmp_ge (tgt := 14) hx hb dX5_back_8 (by decide) (fun c1 => ?_) (fun c1 => ?_)
  · replace hm := ipos hm c1
    refine lv_aload_n hx hb dX5_back_14 rfl (lv_at hl 0 rfl) ?_
    refine f_get S hK hw.1 in_X5_back_X5 0 rfl rfl 4 (by decide) (List.mem_of_getElem? (i := 3) rfl) rfl rfl dX5_back_15 ?_
    refine lv_aload_n hx hb dX5_back_18 rfl (lv_at hl 0 rfl) ?_
    refine f_get S hK hw.1 in_X5_back_X5 0 rfl rfl 7 (by decide) (List.mem_of_getElem? (i := 1) rfl) rfl rfl dX5_back_19 ?_
    obtain ⟨r2, h3, hm⟩ := ob hm
    refine k_wVl S hK hw cal_X1_takeLatest gX5_back_X1_takeLatest (c_X1_takeLatest l D cC cI cJ a_ke a_ke_held ke_size 2 ke_held (aw _) (hw.own [4, 5] (by decide) rfl) r2 h3) ⟨⟨rfl, rfl⟩, Nat.le_of_ble_eq_true rfl, Nat.le_of_ble_eq_true rfl⟩ [4, 5] rfl 4 rfl rfl rfl hl.1 rfl (Nat.le_of_ble_eq_true rfl) dX5_back_22 ⟨Nat.zero_le _, Nat.zero_le _⟩ (fun H locs hJ hB => ?_)
    have hw := hJ _ hB rfl
    replace hw : Wd D A _ (wd_13 cC cI cJ a_x g_x_text x_letters g_x_months g_x_spare a_no g_x_trial a_un a_ke g_x_seen g_x_unseen g_x_search a_no no_asked no_brought no_friends no_used no_crumbs no_day a_un un_size a_un_held a_un_held un_held a_ke r2.2 a_ke_held a_ke_held ke_held) H locs := hw
    obtain ⟨r4, h5, hm⟩ := ob hm
    refine k_wVv S hK hw cal_X4_unpack gX5_back_X4_unpack (c_X4_unpack l D cC cI cJ a_no no_asked no_brought no_friends no_used no_crumbs no_day r2.1 (aw _) (hw.own [1] (by decide) rfl) r4 h5) ⟨⟨rfl, rfl⟩, Nat.le_of_ble_eq_true rfl, Nat.le_of_ble_eq_true rfl⟩ [1] rfl 1 rfl rfl rfl hl.1 rfl (Nat.le_of_ble_eq_true rfl) dX5_back_25 ⟨Nat.zero_le _, Nat.zero_le _⟩ (fun H locs hJ hB => ?_)
    have hw := hJ _ hB rfl
    replace hw : Wd D A _ (wd_13 cC cI cJ a_x g_x_text x_letters g_x_months g_x_spare a_no g_x_trial a_un a_ke g_x_seen g_x_unseen g_x_search a_no r4.1 r4.2.1 r4.2.2.1 r4.2.2.2.1 r4.2.2.2.2.1 r4.2.2.2.2.2 a_un un_size a_un_held a_un_held un_held a_ke r2.2 a_ke_held a_ke_held ke_held) H locs := hw
    refine lv_aload_n hx hb dX5_back_28 rfl (lv_at hl 0 rfl) ?_
    refine f_get S hK hw.1 in_X5_back_X5 0 rfl rfl 6 (by decide) (List.mem_of_getElem? (i := 4) rfl) rfl rfl dX5_back_29 ?_
    obtain ⟨r6, h7, hm⟩ := ob hm
    refine k_wVv S hK hw cal_X1_clear gX5_back_X1_clear (c_X1_clear l D cC cI cJ a_un a_un_held un_size 8 un_held (aw _) (hw.own [2, 3] (by decide) rfl) r6 h7) ⟨⟨rfl, rfl⟩, Nat.le_of_ble_eq_true rfl, Nat.le_of_ble_eq_true rfl⟩ [2, 3] rfl 2 rfl rfl rfl hl.1 rfl (Nat.le_of_ble_eq_true rfl) dX5_back_32 ⟨Nat.zero_le _, Nat.zero_le _⟩ (fun H locs hJ hB => ?_)
    have hw := hJ _ hB rfl
    replace hw : Wd D A _ (wd_13 cC cI cJ a_x g_x_text x_letters g_x_months g_x_spare a_no g_x_trial a_un a_ke g_x_seen g_x_unseen g_x_search a_no r4.1 r4.2.1 r4.2.2.1 r4.2.2.2.1 r4.2.2.2.2.1 r4.2.2.2.2.2 a_un r6 a_un_held a_un_held un_held a_ke r2.2 a_ke_held a_ke_held ke_held) H locs := hw
    refine lv_aload_n hx hb dX5_back_35 rfl (lv_at hl 0 rfl) ?_
    refine f_get S hK hw.1 in_X5_back_X5 0 rfl rfl 7 (by decide) (List.mem_of_getElem? (i := 1) rfl) rfl rfl dX5_back_36 ?_
    refine f_get S hK hw.1 in_X5_back_X1 4 rfl rfl 0 (by decide) (List.mem_of_getElem? (i := 2) rfl) rfl rfl dX5_back_39 ?_
    obtain rfl := Option.some.inj hm
    exact e_WI S hr hlk hw rfl hw.1 dX5_back_42
  · replace hm := ineg hm c1
    refine lv_bipush (v := (-2)) hx hb dX5_back_11 (by decide) ?_
    obtain rfl := Option.some.inj hm
    exact e_WI S hr hlk hw rfl hw.1 dX5_back_13

abbrev rX5_befriend : Room := { frames := 2, cells := 0, slots := 0, locals := 44 }
theorem cal_X5_befriend : Cal yX5_befriend wsX5_befriend cX5_befriend 4 (some .int) RX5 1 := ⟨⟨_, rfl⟩, rfl, by decide +kernel, by decide +kernel, by decide +kernel⟩
theorem in_X5_befriend_X4 : ∀ w ∈ wsX40, w ∈ wsX5_befriend := fun _ h => (List.mem_cons_of_mem _ (List.mem_append_left _ (List.mem_append_left _ (List.mem_append_right _ h))))
theorem in_X5_befriend_X5 : ∀ w ∈ wsX50, w ∈ wsX5_befriend := fun _ h => (List.mem_cons_of_mem _ (List.mem_append_left _ (List.mem_append_left _ (List.mem_append_left _ (List.mem_append_right _ h)))))
set_option maxHeartbeats 4000000 in
set_option maxRecDepth 100000 in
theorem c_X5_befriend (l : Launch) (D : va_G) (cC cI cJ : ClassId) (a_x : Nat) (g_x_text : Nat) (a_mo : Nat) (g_x_spare : Nat) (a_no : Nat) (g_x_trial : Nat) (a_un : Nat) (g_x_kept : Nat) (g_x_seen : Nat) (g_x_unseen : Nat) (g_x_search : Nat) (a_mo_kinds : Nat) (a_mo_days : Nat) (a_mo_rideDays : Nat) (a_mo_helpKinds : Nat) (a_mo_nexts : Nat) (a_mo_helperKinds : Nat) (a_mo_prices : Nat) (a_mo_helpersOfKind : Nat) (a_mo_numbers : Nat) (a_un_held : Nat) (x_letters : Int32) (mo_tasks : Int32) (mo_helpers : Int32) (mo_askedFirst : Int32) (mo_crumbsFirst : Int32) (mo_lastDay : Int32) (mo_kinds : (Nat → Int32)) (mo_days : (Nat → Int32)) (mo_rideDays : (Nat → Int32)) (mo_helpKinds : (Nat → Int32)) (mo_nexts : (Nat → Int32)) (mo_helperKinds : (Nat → Int32)) (mo_prices : (Nat → Int32)) (mo_helpersOfKind : (Nat → Int32)) (mo_numbers : (Nat → Int32)) (no_asked : Int32) (no_brought : Int32) (no_friends : Int32) (no_used : Int32) (no_crumbs : Int32) (no_day : Int32) (un_size : Int32) (un_held : (Nat → Int64)) (p0 : Int32) (N : Nat) (A : Nat → Prop) (hD : va_D A (wd_14 cC cI cJ a_x g_x_text x_letters a_mo g_x_spare a_no g_x_trial a_un g_x_kept g_x_seen g_x_unseen g_x_search a_mo mo_tasks mo_helpers mo_askedFirst mo_crumbsFirst mo_lastDay a_mo_kinds a_mo_days a_mo_rideDays a_mo_helpKinds a_mo_nexts a_mo_helperKinds a_mo_prices a_mo_helpersOfKind a_mo_numbers a_mo_kinds mo_kinds a_mo_days mo_days a_mo_rideDays mo_rideDays a_mo_helpKinds mo_helpKinds a_mo_nexts mo_nexts a_mo_helperKinds mo_helperKinds a_mo_prices mo_prices a_mo_helpersOfKind mo_helpersOfKind a_mo_numbers mo_numbers a_no no_asked no_brought no_friends no_used no_crumbs no_day a_un un_size a_un_held a_un_held un_held)) (out : (Int32 × Int32 × Int32 × Int32 × (Nat → Int64))) (hm : m_X5_befriend N mo_helpers mo_prices no_asked no_brought no_friends no_used no_crumbs no_day un_size un_held p0 = some out) : WrI l yX5_befriend wsX5_befriend rX5_befriend D (tyK cC cI cJ) [.ref a_x, .int p0] A (wd_14 cC cI cJ a_x g_x_text x_letters a_mo g_x_spare a_no g_x_trial a_un g_x_kept g_x_seen g_x_unseen g_x_search a_mo mo_tasks mo_helpers mo_askedFirst mo_crumbsFirst mo_lastDay a_mo_kinds a_mo_days a_mo_rideDays a_mo_helpKinds a_mo_nexts a_mo_helperKinds a_mo_prices a_mo_helpersOfKind a_mo_numbers a_mo_kinds mo_kinds a_mo_days mo_days a_mo_rideDays mo_rideDays a_mo_helpKinds mo_helpKinds a_mo_nexts mo_nexts a_mo_helperKinds mo_helperKinds a_mo_prices mo_prices a_mo_helpersOfKind mo_helpersOfKind a_mo_numbers mo_numbers a_no no_asked no_brought no_friends no_used no_crumbs no_day a_un un_size a_un_held a_un_held un_held) (Bw0 D (wd_14 cC cI cJ a_x g_x_text x_letters a_mo g_x_spare a_no g_x_trial a_un g_x_kept g_x_seen g_x_unseen g_x_search a_mo mo_tasks mo_helpers mo_askedFirst mo_crumbsFirst mo_lastDay a_mo_kinds a_mo_days a_mo_rideDays a_mo_helpKinds a_mo_nexts a_mo_helperKinds a_mo_prices a_mo_helpersOfKind a_mo_numbers a_mo_kinds mo_kinds a_mo_days mo_days a_mo_rideDays mo_rideDays a_mo_helpKinds mo_helpKinds a_mo_nexts mo_nexts a_mo_helperKinds mo_helperKinds a_mo_prices mo_prices a_mo_helpersOfKind mo_helpersOfKind a_mo_numbers mo_numbers a_no no_asked no_brought out.2.1 no_used out.2.2.1 no_day a_un out.2.2.2.1 a_un_held a_un_held out.2.2.2.2)) out.1 := by
  unfold m_X5_befriend at hm
  refine enter (cc := cX5_befriend) (maxL := 4) (ret := (some .int)) (lv := [(0, .ref a_x), (1, .int p0)]) (by decide) rfl (Nat.le_of_ble_eq_true rfl) rfl ?_
  intro p e s m args below meth c S hr hlk hK hP ls hl
  replace S : CallFix p m c cX5_befriend 4 s args wsX5_befriend RX5 := S
  have hx := S.1
  have hb := S.2.1
  have hw : Wd D A s.heap (wd_14 cC cI cJ a_x g_x_text x_letters a_mo g_x_spare a_no g_x_trial a_un g_x_kept g_x_seen g_x_unseen g_x_search a_mo mo_tasks mo_helpers mo_askedFirst mo_crumbsFirst mo_lastDay a_mo_kinds a_mo_days a_mo_rideDays a_mo_helpKinds a_mo_nexts a_mo_helperKinds a_mo_prices a_mo_helpersOfKind a_mo_numbers a_mo_kinds mo_kinds a_mo_days mo_days a_mo_rideDays mo_rideDays a_mo_helpKinds mo_helpKinds a_mo_nexts mo_nexts a_mo_helperKinds mo_helperKinds a_mo_prices mo_prices a_mo_helpersOfKind mo_helpersOfKind a_mo_numbers mo_numbers a_no no_asked no_brought no_friends no_used no_crumbs no_day a_un un_size a_un_held a_un_held un_held) s.heap [] := ⟨hP, hD, va_S.rf⟩
  have hw0 := hw
  refine lv_aload_n hx hb dX5_befriend_0 rfl (lv_at hl 0 rfl) ?_
  refine f_get S hK hw.1 in_X5_befriend_X5 0 rfl rfl 2 (by decide) (List.mem_of_getElem? (i := 1) rfl) rfl rfl dX5_befriend_1 ?_
  refine lv_iload_n hx hb dX5_befriend_4 rfl (lv_at hl 1 rfl) ?_
  obtain ⟨r1, h2, hm⟩ := ob hm
  refine k_rVi S hK hw.1 cal_X0_hasHelper gX5_befriend_X0_hasHelper (c_X0_hasHelper l D cC cI cJ a_mo a_mo_kinds a_mo_days a_mo_rideDays a_mo_helpKinds a_mo_nexts a_mo_helperKinds a_mo_prices a_mo_helpersOfKind a_mo_numbers mo_tasks mo_helpers mo_askedFirst mo_crumbsFirst mo_lastDay mo_kinds mo_days mo_rideDays mo_helpKinds mo_nexts mo_helperKinds mo_prices mo_helpersOfKind mo_numbers p0 r1 h2) ⟨⟨rfl, rfl⟩, Nat.le_of_ble_eq_true rfl, Nat.le_of_ble_eq_true rfl⟩ [1, 2, 3, 4, 5, 6, 7, 8, 9, 10] rfl 1 rfl rfl rfl hl.1 rfl (Nat.le_of_ble_eq_true rfl) dX5_befriend_5 ⟨Nat.zero_le _, Nat.zero_le _⟩ ?_
  refine lv_if_ne (tgt := 13) hx hb dX5_befriend_8 (by decide) (fun c3 => ?_) (fun c3 => ?_)
  · replace hm := ineg hm c3
    refine lv_aload_n hx hb dX5_befriend_13 rfl (lv_at hl 0 rfl) ?_
    refine f_get S hK hw.1 in_X5_befriend_X5 0 rfl rfl 4 (by decide) (List.mem_of_getElem? (i := 2) rfl) rfl rfl dX5_befriend_14 ?_
    obtain ⟨r4, h5, hm⟩ := ob hm
    refine k_rVl S hK hw.1 cal_X4_packed gX5_befriend_X4_packed (c_X4_packed l D cC cI cJ a_no no_asked no_brought no_friends no_used no_crumbs no_day r4 h5) ⟨⟨rfl, rfl⟩, Nat.le_of_ble_eq_true rfl, Nat.le_of_ble_eq_true rfl⟩ [11] rfl 11 rfl rfl rfl hl.1 rfl (Nat.le_of_ble_eq_true rfl) dX5_befriend_17 ⟨Nat.zero_le _, Nat.zero_le _⟩ ?_
    refine lv_lstore_n (lv' := [(2, .long r4), (0, .ref a_x), (1, .int p0)]) hx hb dX5_befriend_20 rfl hl (by decide) rfl (fun ls hl => ?_)
    refine lv_aload_n hx hb dX5_befriend_21 rfl (lv_at hl 1 rfl) ?_
    refine f_get S hK hw.1 in_X5_befriend_X5 0 rfl rfl 4 (by decide) (List.mem_of_getElem? (i := 2) rfl) rfl rfl dX5_befriend_22 ?_
    refine lv_aload_n hx hb dX5_befriend_25 rfl (lv_at hl 1 rfl) ?_
    refine f_get S hK hw.1 in_X5_befriend_X5 0 rfl rfl 2 (by decide) (List.mem_of_getElem? (i := 1) rfl) rfl rfl dX5_befriend_26 ?_
    refine lv_iload_n hx hb dX5_befriend_29 rfl (lv_at hl 2 rfl) ?_
    obtain ⟨r6, h7, hm⟩ := ob hm
    refine k_wVi S hK hw cal_X4_tryBefriend gX5_befriend_X4_tryBefriend (c_X4_tryBefriend l D cC cI cJ a_no a_mo a_mo_kinds a_mo_days a_mo_rideDays a_mo_helpKinds a_mo_nexts a_mo_helperKinds a_mo_prices a_mo_helpersOfKind a_mo_numbers no_asked no_brought no_friends no_used no_crumbs no_day mo_tasks mo_helpers mo_askedFirst mo_crumbsFirst mo_lastDay mo_kinds mo_days mo_rideDays mo_helpKinds mo_nexts mo_helperKinds mo_prices mo_helpersOfKind mo_numbers p0 (aw _) (hw.own [11, 1, 2, 3, 4, 5, 6, 7, 8, 9, 10] (by decide) rfl) r6 h7) ⟨⟨rfl, rfl⟩, Nat.le_of_ble_eq_true rfl, Nat.le_of_ble_eq_true rfl⟩ [11, 1, 2, 3, 4, 5, 6, 7, 8, 9, 10] rfl 11 rfl rfl rfl hl.1 rfl (Nat.le_of_ble_eq_true rfl) dX5_befriend_30 ⟨Nat.zero_le _, Nat.zero_le _⟩ (fun H locs hJ hB => ?_)
    have hw := hJ _ hB rfl
    replace hw : Wd D A _ (wd_14 cC cI cJ a_x g_x_text x_letters a_mo g_x_spare a_no g_x_trial a_un g_x_kept g_x_seen g_x_unseen g_x_search a_mo mo_tasks mo_helpers mo_askedFirst mo_crumbsFirst mo_lastDay a_mo_kinds a_mo_days a_mo_rideDays a_mo_helpKinds a_mo_nexts a_mo_helperKinds a_mo_prices a_mo_helpersOfKind a_mo_numbers a_mo_kinds mo_kinds a_mo_days mo_days a_mo_rideDays mo_rideDays a_mo_helpKinds mo_helpKinds a_mo_nexts mo_nexts a_mo_helperKinds mo_helperKinds a_mo_prices mo_prices a_mo_helpersOfKind mo_helpersOfKind a_mo_numbers mo_numbers a_no no_asked no_brought r6.2.1 no_used r6.2.2 no_day a_un un_size a_un_held a_un_held un_held) H locs := hw
    refine lv_if_ne (tgt := 39) hx hb dX5_befriend_33 (by decide) (fun c8 => ?_) (fun c8 => ?_)
    · replace hm := ineg hm c8
      refine lv_aload_n hx hb dX5_befriend_39 rfl (lv_at hl 1 rfl) ?_
      refine f_get S hK hw.1 in_X5_befriend_X5 0 rfl rfl 6 (by decide) (List.mem_of_getElem? (i := 3) rfl) rfl rfl dX5_befriend_40 ?_
      refine lv_lload_n hx hb dX5_befriend_43 rfl (lv_at hl 0 rfl) ?_
      obtain ⟨r9, h10, hm⟩ := ob hm
      refine k_wVv S hK hw cal_X1_put gX5_befriend_X1_put (c_X1_put l D cC cI cJ a_un a_un_held un_size 8 un_held r4 N (aw _) (hw.own [12, 13] (by decide) rfl) r9 h10) ⟨⟨rfl, rfl⟩, Nat.le_of_ble_eq_true rfl, Nat.le_of_ble_eq_true rfl⟩ [12, 13] rfl 12 rfl rfl rfl hl.1 rfl (Nat.le_of_ble_eq_true rfl) dX5_befriend_44 ⟨Nat.zero_le _, Nat.zero_le _⟩ (fun H locs hJ hB => ?_)
      have hw := hJ _ hB rfl
      replace hw : Wd D A _ (wd_14 cC cI cJ a_x g_x_text x_letters a_mo g_x_spare a_no g_x_trial a_un g_x_kept g_x_seen g_x_unseen g_x_search a_mo mo_tasks mo_helpers mo_askedFirst mo_crumbsFirst mo_lastDay a_mo_kinds a_mo_days a_mo_rideDays a_mo_helpKinds a_mo_nexts a_mo_helperKinds a_mo_prices a_mo_helpersOfKind a_mo_numbers a_mo_kinds mo_kinds a_mo_days mo_days a_mo_rideDays mo_rideDays a_mo_helpKinds mo_helpKinds a_mo_nexts mo_nexts a_mo_helperKinds mo_helperKinds a_mo_prices mo_prices a_mo_helpersOfKind mo_helpersOfKind a_mo_numbers mo_numbers a_no no_asked no_brought r6.2.1 no_used r6.2.2 no_day a_un r9.1 a_un_held a_un_held r9.2) H locs := hw
      refine lv_aload_n hx hb dX5_befriend_47 rfl (lv_at hl 1 rfl) ?_
      refine f_get S hK hw.1 in_X5_befriend_X5 0 rfl rfl 4 (by decide) (List.mem_of_getElem? (i := 2) rfl) rfl rfl dX5_befriend_48 ?_
      refine f_get S hK hw.1 in_X5_befriend_X4 11 rfl rfl 4 (by decide) (List.mem_of_getElem? (i := 4) rfl) rfl rfl dX5_befriend_51 ?_
      obtain rfl := Option.some.inj hm
      exact e_WI S hr hlk hw rfl hw.1 dX5_befriend_54
    · replace hm := ipos hm c8
      refine lv_bipush (v := (-2)) hx hb dX5_befriend_36 (by decide) ?_
      obtain rfl := Option.some.inj hm
      exact e_WI S hr hlk hw rfl hw.1 dX5_befriend_38
  · replace hm := ipos hm c3
    refine lv_iconst (v := (-1)) hx hb dX5_befriend_11 (by decide) ?_
    obtain rfl := Option.some.inj hm
    exact e_WI S hr hlk hw rfl hw.1 dX5_befriend_12

abbrev rJ6_bitCount_0f7a4 : Room := { frames := 0, cells := 0, slots := 0, locals := 0 }
theorem cal_J6_bitCount_0f7a4 : Cal yJ6_bitCount_0f7a4 wsJ6_bitCount_0f7a4 cJ6_bitCount_0f7a4 1 (some .int) RJ6 1 := ⟨⟨_, rfl⟩, rfl, by decide +kernel, by decide +kernel, by decide +kernel⟩
set_option maxHeartbeats 4000000 in
set_option maxRecDepth 100000 in
theorem c_J6_bitCount_0f7a4 (l : Launch) (D : va_G) (cC cI cJ : ClassId)  (p0 : Int32) (out : Int32) (hm : m_J6_bitCount_0f7a4 p0 = some out) : RdI l yJ6_bitCount_0f7a4 wsJ6_bitCount_0f7a4 rJ6_bitCount_0f7a4 D (tyK cC cI cJ) [.int p0] [] out := by
  unfold m_J6_bitCount_0f7a4 at hm
  refine enter (cc := cJ6_bitCount_0f7a4) (maxL := 1) (ret := (some .int)) (lv := [(0, .int p0)]) (by decide) rfl (Nat.le_of_ble_eq_true rfl) rfl ?_
  intro p e s m args below meth c S hr hlk hK hP ls hl
  replace S : CallFix p m c cJ6_bitCount_0f7a4 1 s args wsJ6_bitCount_0f7a4 RJ6 := S
  have hx := S.1
  have hb := S.2.1
  refine lv_iload_n hx hb dJ6_bitCount_0f7a4_0 rfl (lv_at hl 0 rfl) ?_
  refine lv_iload_n hx hb dJ6_bitCount_0f7a4_1 rfl (lv_at hl 0 rfl) ?_
  refine lv_iconst (v := 1) hx hb dJ6_bitCount_0f7a4_2 (by decide) ?_
  refine lv_iushr (v := ((p0).toUInt32 >>> (((1 : Int32)).toUInt32 &&& Int32.toUInt32 31)).toInt32) hx hb dJ6_bitCount_0f7a4_3 rfl ?_
  refine lv_ldcw hx hb S.2.2.2.1 (S.2.2.2.2 (.constant RJ6 265 (1431655765)) (List.mem_of_getElem? (i := 1) rfl)) dJ6_bitCount_0f7a4_4 ?_
  refine lv_iand hx hb dJ6_bitCount_0f7a4_7 ?_
  refine lv_isub hx hb dJ6_bitCount_0f7a4_8 ?_
  obtain ⟨y1, e2, hm⟩ := ob hm
  refine f_name e2 ?_
  refine lv_istore_n (lv' := [(0, .int y1)]) hx hb dJ6_bitCount_0f7a4_9 rfl hl (by decide) rfl (fun ls hl => ?_)
  refine lv_iload_n hx hb dJ6_bitCount_0f7a4_10 rfl (lv_at hl 0 rfl) ?_
  refine lv_ldcw hx hb S.2.2.2.1 (S.2.2.2.2 (.constant RJ6 266 (858993459)) (List.mem_of_getElem? (i := 2) rfl)) dJ6_bitCount_0f7a4_11 ?_
  refine lv_iand hx hb dJ6_bitCount_0f7a4_14 ?_
  refine lv_iload_n hx hb dJ6_bitCount_0f7a4_15 rfl (lv_at hl 0 rfl) ?_
  refine lv_iconst (v := 2) hx hb dJ6_bitCount_0f7a4_16 (by decide) ?_
  refine lv_iushr (v := ((y1).toUInt32 >>> (((2 : Int32)).toUInt32 &&& Int32.toUInt32 31)).toInt32) hx hb dJ6_bitCount_0f7a4_17 rfl ?_
  refine lv_ldcw hx hb S.2.2.2.1 (S.2.2.2.2 (.constant RJ6 266 (858993459)) (List.mem_of_getElem? (i := 2) rfl)) dJ6_bitCount_0f7a4_18 ?_
  refine lv_iand hx hb dJ6_bitCount_0f7a4_21 ?_
  refine lv_iadd hx hb dJ6_bitCount_0f7a4_22 ?_
  obtain ⟨y3, e4, hm⟩ := ob hm
  refine f_name e4 ?_
  refine lv_istore_n (lv' := [(0, .int y3)]) hx hb dJ6_bitCount_0f7a4_23 rfl hl (by decide) rfl (fun ls hl => ?_)
  refine lv_iload_n hx hb dJ6_bitCount_0f7a4_24 rfl (lv_at hl 0 rfl) ?_
  refine lv_iload_n hx hb dJ6_bitCount_0f7a4_25 rfl (lv_at hl 0 rfl) ?_
  refine lv_iconst (v := 4) hx hb dJ6_bitCount_0f7a4_26 (by decide) ?_
  refine lv_iushr (v := ((y3).toUInt32 >>> (((4 : Int32)).toUInt32 &&& Int32.toUInt32 31)).toInt32) hx hb dJ6_bitCount_0f7a4_27 rfl ?_
  refine lv_iadd hx hb dJ6_bitCount_0f7a4_28 ?_
  refine lv_ldcw hx hb S.2.2.2.1 (S.2.2.2.2 (.constant RJ6 267 (252645135)) (List.mem_of_getElem? (i := 3) rfl)) dJ6_bitCount_0f7a4_29 ?_
  refine lv_iand hx hb dJ6_bitCount_0f7a4_32 ?_
  obtain ⟨y5, e6, hm⟩ := ob hm
  refine f_name e6 ?_
  refine lv_istore_n (lv' := [(0, .int y5)]) hx hb dJ6_bitCount_0f7a4_33 rfl hl (by decide) rfl (fun ls hl => ?_)
  refine lv_iload_n hx hb dJ6_bitCount_0f7a4_34 rfl (lv_at hl 0 rfl) ?_
  refine lv_iload_n hx hb dJ6_bitCount_0f7a4_35 rfl (lv_at hl 0 rfl) ?_
  refine lv_bipush (v := 8) hx hb dJ6_bitCount_0f7a4_36 (by decide) ?_
  refine lv_iushr (v := ((y5).toUInt32 >>> (((8 : Int32)).toUInt32 &&& Int32.toUInt32 31)).toInt32) hx hb dJ6_bitCount_0f7a4_38 rfl ?_
  refine lv_iadd hx hb dJ6_bitCount_0f7a4_39 ?_
  obtain ⟨y7, e8, hm⟩ := ob hm
  refine f_name e8 ?_
  refine lv_istore_n (lv' := [(0, .int y7)]) hx hb dJ6_bitCount_0f7a4_40 rfl hl (by decide) rfl (fun ls hl => ?_)
  refine lv_iload_n hx hb dJ6_bitCount_0f7a4_41 rfl (lv_at hl 0 rfl) ?_
  refine lv_iload_n hx hb dJ6_bitCount_0f7a4_42 rfl (lv_at hl 0 rfl) ?_
  refine lv_bipush (v := 16) hx hb dJ6_bitCount_0f7a4_43 (by decide) ?_
  refine lv_iushr (v := ((y7).toUInt32 >>> (((16 : Int32)).toUInt32 &&& Int32.toUInt32 31)).toInt32) hx hb dJ6_bitCount_0f7a4_45 rfl ?_
  refine lv_iadd hx hb dJ6_bitCount_0f7a4_46 ?_
  obtain ⟨y9, e10, hm⟩ := ob hm
  refine f_name e10 ?_
  refine lv_istore_n (lv' := [(0, .int y9)]) hx hb dJ6_bitCount_0f7a4_47 rfl hl (by decide) rfl (fun ls hl => ?_)
  refine lv_iload_n hx hb dJ6_bitCount_0f7a4_48 rfl (lv_at hl 0 rfl) ?_
  refine lv_bipush (v := 63) hx hb dJ6_bitCount_0f7a4_49 (by decide) ?_
  refine lv_iand hx hb dJ6_bitCount_0f7a4_51 ?_
  exact e_RI S hr hlk (Option.some.inj hm) dJ6_bitCount_0f7a4_52

abbrev rX5_power : Room := { frames := 0, cells := 0, slots := 0, locals := 0 }
theorem cal_X5_power : Cal yX5_power wsX5_power cX5_power 4 (some .int) RX5 2 := ⟨⟨_, rfl⟩, rfl, by decide +kernel, by decide +kernel, by decide +kernel⟩
set_option maxHeartbeats 4000000 in
set_option maxRecDepth 100000 in
theorem t_X5_power_4 {p : Program} {e : Env} {s : State} {m : MethodId} {args : Array Value} {below : List Frame} {meth : Method} {c : Code} {Q : State → Prop} {H : Heap} {locs : List Loc} (l : Launch) {D : va_G} {cC cI cJ : ClassId} (S : CallFix p m c cX5_power 4 s args wsX5_power RX5) (hK : KK D (tyK cC cI cJ) s)  (v0 : Int32) (v1 : Int32) (hP : va_P D vwCl [] H) : ∀ (n : Nat) (v2 : Int32) (v3 : Int32) (out : Int32), lp_X5_power_4 v0 v1 n v2 v3 = some out → ∀ (ls : Array Slot), lv_has ls 4 [(0, .int v0), (1, .int v1), (2, .int v2), (3, .int v3)] → (∀ (ls : Array Slot), lv_has ls 4 [(2, .int out)] → W p l e rX5_power s m args below meth c H locs 0 0 Q (F0 m 19 ls [])) → W p l e rX5_power s m args below meth c H locs 0 0 Q (F0 m 4 ls []) := by
  have hx := S.1
  have hb := S.2.1
  intro n
  induction n with
  | zero => intro v2 v3 out hm; cases (show (none : Option Int32) = some out from hm)
  | succ n ih =>
    intro v2 v3 out hm  ls hl K0
    rw [lp_X5_power_4] at hm
    refine lv_iload_n hx hb dX5_power_4 rfl (lv_at hl 3 rfl) ?_
    refine lv_iload_n hx hb dX5_power_5 rfl (lv_at hl 1 rfl) ?_
    refine lv_icmp_ge (tgt := 19) hx hb dX5_power_6 (by decide) (fun c1 => ?_) (fun c1 => ?_)
    · replace hm := ipos hm c1
      obtain rfl := Option.some.inj hm
      exact K0  ls (lv_sub hl [2] rfl)
    · replace hm := ineg hm c1
      refine lv_iload_n hx hb dX5_power_9 rfl (lv_at hl 2 rfl) ?_
      refine lv_iload_n hx hb dX5_power_10 rfl (lv_at hl 0 rfl) ?_
      refine lv_imul hx hb dX5_power_11 ?_
      refine lv_istore_n (lv' := [(2, .int (v2 * v0)), (0, .int v0), (1, .int v1), (3, .int v3)]) hx hb dX5_power_12 rfl hl (by decide) rfl (fun ls hl => ?_)
      refine lv_iinc (v := (v3 + 1)) (lv' := [(3, .int (v3 + 1)), (2, .int (v2 * v0)), (0, .int v0), (1, .int v1)]) hx hb dX5_power_13 hl (k := 3) rfl (by rw [ofi_1]) (by decide) rfl (fun ls hl => ?_)
      refine lv_goto (tgt := 4) hx hb dX5_power_16 (by decide) ?_
      exact ih (v2 * v0) (v3 + 1) _ hm  ls (lv_sub hl [2, 3, 1, 0] rfl) K0
set_option maxHeartbeats 4000000 in
set_option maxRecDepth 100000 in
theorem c_X5_power (l : Launch) (D : va_G) (cC cI cJ : ClassId)  (p0 : Int32) (p1 : Int32) (N : Nat) (out : Int32) (hm : m_X5_power N p0 p1 = some out) : RdI l yX5_power wsX5_power rX5_power D (tyK cC cI cJ) [.int p0, .int p1] [] out := by
  unfold m_X5_power at hm
  refine enter (cc := cX5_power) (maxL := 4) (ret := (some .int)) (lv := [(0, .int p0), (1, .int p1)]) (by decide) rfl (Nat.le_of_ble_eq_true rfl) rfl ?_
  intro p e s m args below meth c S hr hlk hK hP ls hl
  replace S : CallFix p m c cX5_power 4 s args wsX5_power RX5 := S
  have hx := S.1
  have hb := S.2.1
  refine lv_iconst (v := 1) hx hb dX5_power_0 (by decide) ?_
  refine lv_istore_n (lv' := [(2, .int (1 : Int32)), (0, .int p0), (1, .int p1)]) hx hb dX5_power_1 rfl hl (by decide) rfl (fun ls hl => ?_)
  refine lv_iconst (v := 0) hx hb dX5_power_2 (by decide) ?_
  refine lv_istore_n (lv' := [(3, .int (0 : Int32)), (2, .int (1 : Int32)), (0, .int p0), (1, .int p1)]) hx hb dX5_power_3 rfl hl (by decide) rfl (fun ls hl => ?_)
  obtain ⟨r2, h3, hm⟩ := ob hm
  refine t_X5_power_4 l S hK  p0 p1 hP N (1 : Int32) (0 : Int32) r2 h3  ls (lv_sub hl [2, 3, 1, 0] rfl) (fun ls hl => ?_)
  refine lv_iload_n hx hb dX5_power_19 rfl (lv_at hl 0 rfl) ?_
  exact e_RI S hr hlk (Option.some.inj hm) dX5_power_20

abbrev rX5_chancesOfSet : Room := { frames := 1, cells := 0, slots := 0, locals := 23 }
theorem cal_X5_chancesOfSet : Cal yX5_chancesOfSet wsX5_chancesOfSet cX5_chancesOfSet 4 (some .int) RX5 3 := ⟨⟨_, rfl⟩, rfl, by decide +kernel, by decide +kernel, by decide +kernel⟩
set_option maxHeartbeats 4000000 in
set_option maxRecDepth 100000 in
theorem c_X5_chancesOfSet (l : Launch) (D : va_G) (cC cI cJ : ClassId)  (p0 : Int32) (p1 : Int32) (p2 : Int32) (N : Nat) (out : Int32) (hm : m_X5_chancesOfSet N p0 p1 p2 = some out) : RdI l yX5_chancesOfSet wsX5_chancesOfSet rX5_chancesOfSet D (tyK cC cI cJ) [.int p0, .int p1, .int p2] [] out := by
  unfold m_X5_chancesOfSet at hm
  refine enter (cc := cX5_chancesOfSet) (maxL := 4) (ret := (some .int)) (lv := [(0, .int p0), (1, .int p1), (2, .int p2)]) (by decide) rfl (Nat.le_of_ble_eq_true rfl) rfl ?_
  intro p e s m args below meth c S hr hlk hK hP ls hl
  replace S : CallFix p m c cX5_chancesOfSet 4 s args wsX5_chancesOfSet RX5 := S
  have hx := S.1
  have hb := S.2.1
  refine lv_iload_n hx hb dX5_chancesOfSet_0 rfl (lv_at hl 1 rfl) ?_
  obtain ⟨r1, h2, hm⟩ := ob hm
  refine k_rSi S hK hP cal_J6_bitCount_0f7a4 gX5_chancesOfSet_J6_bitCount_0f7a4 (c_J6_bitCount_0f7a4 l D cC cI cJ p1 r1 h2) ⟨⟨rfl, rfl⟩, Nat.le_of_ble_eq_true rfl, Nat.le_of_ble_eq_true rfl⟩ [] rfl rfl hl.1 rfl (Nat.le_of_ble_eq_true rfl) dX5_chancesOfSet_1 ⟨Nat.zero_le _, Nat.zero_le _⟩ ?_
  refine lv_istore_n (lv' := [(3, .int r1), (0, .int p0), (1, .int p1), (2, .int p2)]) hx hb dX5_chancesOfSet_4 rfl hl (by decide) rfl (fun ls hl => ?_)
  refine lv_iload_n hx hb dX5_chancesOfSet_5 rfl (lv_at hl 3 rfl) ?_
  refine lv_iload_n hx hb dX5_chancesOfSet_6 rfl (lv_at hl 0 rfl) ?_
  obtain ⟨r3, h4, hm⟩ := ob hm
  refine k_rSi S hK hP cal_X5_power gX5_chancesOfSet_X5_power (c_X5_power l D cC cI cJ p2 r1 N r3 h4) ⟨⟨rfl, rfl⟩, Nat.le_of_ble_eq_true rfl, Nat.le_of_ble_eq_true rfl⟩ [] rfl rfl hl.1 rfl (Nat.le_of_ble_eq_true rfl) dX5_chancesOfSet_7 ⟨Nat.zero_le _, Nat.zero_le _⟩ ?_
  refine lv_bipush (v := 10) hx hb dX5_chancesOfSet_10 (by decide) ?_
  refine lv_iload_n hx hb dX5_chancesOfSet_12 rfl (lv_at hl 3 rfl) ?_
  refine lv_isub hx hb dX5_chancesOfSet_13 ?_
  refine lv_iload_n hx hb dX5_chancesOfSet_14 rfl (lv_at hl 1 rfl) ?_
  obtain ⟨r5, h6, hm⟩ := ob hm
  refine k_rSi S hK hP cal_J6_bitCount_0f7a4 gX5_chancesOfSet_J6_bitCount_0f7a4 (c_J6_bitCount_0f7a4 l D cC cI cJ p0 r5 h6) ⟨⟨rfl, rfl⟩, Nat.le_of_ble_eq_true rfl, Nat.le_of_ble_eq_true rfl⟩ [] rfl rfl hl.1 rfl (Nat.le_of_ble_eq_true rfl) dX5_chancesOfSet_15 ⟨Nat.zero_le _, Nat.zero_le _⟩ ?_
  refine lv_iload_n hx hb dX5_chancesOfSet_18 rfl (lv_at hl 0 rfl) ?_
  refine lv_isub hx hb dX5_chancesOfSet_19 ?_
  obtain ⟨r7, h8, hm⟩ := ob hm
  refine k_rSi S hK hP cal_X5_power gX5_chancesOfSet_X5_power (c_X5_power l D cC cI cJ ((10 : Int32) - p2) (r5 - r1) N r7 h8) ⟨⟨rfl, rfl⟩, Nat.le_of_ble_eq_true rfl, Nat.le_of_ble_eq_true rfl⟩ [] rfl rfl hl.1 rfl (Nat.le_of_ble_eq_true rfl) dX5_chancesOfSet_20 ⟨Nat.zero_le _, Nat.zero_le _⟩ ?_
  refine lv_imul hx hb dX5_chancesOfSet_23 ?_
  exact e_RI S hr hlk (Option.some.inj hm) dX5_chancesOfSet_24
