/-! walks: X4_packed X4_unpack X4_openTasks X4_tasksToCome X4_freeFriends X2_begin X2_cellOf X2_recall X4_isLost X4_lowestOf X4_withOneMore X4_helpersFor X4_tryRide -/
abbrev rX4_packed : Room := { frames := 0, cells := 0, slots := 0, locals := 0 }
theorem cal_X4_packed : Cal yX4_packed wsX4_packed cX4_packed 5 (some .long) RX4 0 := ⟨⟨_, rfl⟩, rfl, by decide +kernel, by decide +kernel, by decide +kernel⟩
theorem in_X4_packed_X4 : ∀ w ∈ wsX40, w ∈ wsX4_packed := fun _ h => (List.mem_cons_of_mem _ (List.mem_append_right _ h))
set_option maxHeartbeats 4000000 in
set_option maxRecDepth 100000 in
theorem c_X4_packed (l : Launch) (D : va_G) (cC cI cJ : ClassId) (a_st : Nat) (st_asked : Int32) (st_brought : Int32) (st_friends : Int32) (st_used : Int32) (st_crumbs : Int32) (st_day : Int32) (out : Int64) (hm : m_X4_packed st_asked st_brought st_friends st_used st_crumbs st_day = some out) : RdL l yX4_packed wsX4_packed rX4_packed D (tyK cC cI cJ) [.ref a_st] (wd_7 cC cI cJ a_st st_asked st_brought st_friends st_used st_crumbs st_day) out := by
  unfold m_X4_packed at hm
  refine enter (cc := cX4_packed) (maxL := 5) (ret := (some .long)) (lv := [(0, .ref a_st)]) (by decide) rfl (Nat.le_of_ble_eq_true rfl) rfl ?_
  intro p e s m args below meth c S hr hlk hK hP ls hl
  replace S : CallFix p m c cX4_packed 5 s args wsX4_packed RX4 := S
  have hx := S.1
  have hb := S.2.1
  refine lv_aload_n hx hb dX4_packed_0 rfl (lv_at hl 0 rfl) ?_
  refine f_get S hK hP in_X4_packed_X4 0 rfl rfl 0 (by decide) (List.mem_of_getElem? (i := 1) rfl) rfl rfl dX4_packed_1 ?_
  refine lv_aload_n hx hb dX4_packed_4 rfl (lv_at hl 0 rfl) ?_
  refine f_get S hK hP in_X4_packed_X4 0 rfl rfl 1 (by decide) (List.mem_of_getElem? (i := 2) rfl) rfl rfl dX4_packed_5 ?_
  refine lv_bipush (v := 8) hx hb dX4_packed_8 (by decide) ?_
  refine lv_ishl hx hb dX4_packed_10 ?_
  refine lv_ior hx hb dX4_packed_11 ?_
  refine lv_i2l (v := ((st_asked ||| (st_brought <<< ((8 : Int32) &&& 31)))).toInt64) hx hb dX4_packed_12 rfl ?_
  obtain ⟨y1, e2, hm⟩ := ob hm
  refine f_nameL e2 ?_
  refine lv_lstore_n (lv' := [(1, .long y1), (0, .ref a_st)]) hx hb dX4_packed_13 rfl hl (by decide) rfl (fun ls hl => ?_)
  refine lv_aload_n hx hb dX4_packed_14 rfl (lv_at hl 1 rfl) ?_
  refine f_get S hK hP in_X4_packed_X4 0 rfl rfl 2 (by decide) (List.mem_of_getElem? (i := 3) rfl) rfl rfl dX4_packed_15 ?_
  refine lv_aload_n hx hb dX4_packed_18 rfl (lv_at hl 1 rfl) ?_
  refine f_get S hK hP in_X4_packed_X4 0 rfl rfl 3 (by decide) (List.mem_of_getElem? (i := 4) rfl) rfl rfl dX4_packed_19 ?_
  refine lv_bipush (v := 7) hx hb dX4_packed_22 (by decide) ?_
  refine lv_ishl hx hb dX4_packed_24 ?_
  refine lv_ior hx hb dX4_packed_25 ?_
  refine lv_i2l (v := ((st_friends ||| (st_used <<< ((7 : Int32) &&& 31)))).toInt64) hx hb dX4_packed_26 rfl ?_
  obtain ⟨y3, e4, hm⟩ := ob hm
  refine f_nameL e4 ?_
  refine lv_lstore_n (lv' := [(3, .long y3), (1, .long y1), (0, .ref a_st)]) hx hb dX4_packed_27 rfl hl (by decide) rfl (fun ls hl => ?_)
  refine lv_lload_n hx hb dX4_packed_28 rfl (lv_at hl 1 rfl) ?_
  refine lv_lload_n hx hb dX4_packed_29 rfl (lv_at hl 0 rfl) ?_
  refine lv_bipush (v := 16) hx hb dX4_packed_30 (by decide) ?_
  refine lv_lshl (v := (y3 <<< (((16 : Int32)).toInt64 &&& 63))) hx hb dX4_packed_32 rfl ?_
  refine lv_lor hx hb dX4_packed_33 ?_
  refine lv_aload_n hx hb dX4_packed_34 rfl (lv_at hl 2 rfl) ?_
  refine f_get S hK hP in_X4_packed_X4 0 rfl rfl 4 (by decide) (List.mem_of_getElem? (i := 5) rfl) rfl rfl dX4_packed_35 ?_
  refine lv_i2l (v := (st_crumbs).toInt64) hx hb dX4_packed_38 rfl ?_
  refine lv_bipush (v := 30) hx hb dX4_packed_39 (by decide) ?_
  refine lv_lshl (v := (((st_crumbs).toInt64) <<< (((30 : Int32)).toInt64 &&& 63))) hx hb dX4_packed_41 rfl ?_
  refine lv_lor hx hb dX4_packed_42 ?_
  refine lv_aload_n hx hb dX4_packed_43 rfl (lv_at hl 2 rfl) ?_
  refine f_get S hK hP in_X4_packed_X4 0 rfl rfl 5 (by decide) (List.mem_of_getElem? (i := 6) rfl) rfl rfl dX4_packed_44 ?_
  refine lv_i2l (v := (st_day).toInt64) hx hb dX4_packed_47 rfl ?_
  refine lv_bipush (v := 37) hx hb dX4_packed_48 (by decide) ?_
  refine lv_lshl (v := (((st_day).toInt64) <<< (((37 : Int32)).toInt64 &&& 63))) hx hb dX4_packed_50 rfl ?_
  refine lv_lor hx hb dX4_packed_51 ?_
  exact e_RL S hr hlk (Option.some.inj hm) dX4_packed_52

abbrev rX4_unpack : Room := { frames := 0, cells := 0, slots := 0, locals := 0 }
theorem cal_X4_unpack : Cal yX4_unpack wsX4_unpack cX4_unpack 3 none RX4 1 := ⟨⟨_, rfl⟩, rfl, by decide +kernel, by decide +kernel, by decide +kernel⟩
theorem in_X4_unpack_X4 : ∀ w ∈ wsX40, w ∈ wsX4_unpack := fun _ h => (List.mem_cons_of_mem _ (List.mem_append_right _ h))
set_option maxHeartbeats 4000000 in
set_option maxRecDepth 100000 in
theorem c_X4_unpack (l : Launch) (D : va_G) (cC cI cJ : ClassId) (a_st : Nat) (st_asked : Int32) (st_brought : Int32) (st_friends : Int32) (st_used : Int32) (st_crumbs : Int32) (st_day : Int32) (p0 : Int64) (A : Nat → Prop) (hD : va_D A (wd_7 cC cI cJ a_st st_asked st_brought st_friends st_used st_crumbs st_day)) (out : (Int32 × Int32 × Int32 × Int32 × Int32 × Int32)) (hm : m_X4_unpack p0 = some out) : WrV l yX4_unpack wsX4_unpack rX4_unpack D (tyK cC cI cJ) [.ref a_st, .long p0] A (wd_7 cC cI cJ a_st st_asked st_brought st_friends st_used st_crumbs st_day) (Bw0 D (wd_7 cC cI cJ a_st out.1 out.2.1 out.2.2.1 out.2.2.2.1 out.2.2.2.2.1 out.2.2.2.2.2)) := by
  unfold m_X4_unpack at hm
  refine enter (cc := cX4_unpack) (maxL := 3) (ret := none) (lv := [(0, .ref a_st), (1, .long p0)]) (by decide) rfl (Nat.le_of_ble_eq_true rfl) rfl ?_
  intro p e s m args below meth c S hr hlk hK hP ls hl
  replace S : CallFix p m c cX4_unpack 3 s args wsX4_unpack RX4 := S
  have hx := S.1
  have hb := S.2.1
  have hw : Wd D A s.heap (wd_7 cC cI cJ a_st st_asked st_brought st_friends st_used st_crumbs st_day) s.heap [] := ⟨hP, hD, va_S.rf⟩
  have hw0 := hw
  refine lv_aload_n hx hb dX4_unpack_0 rfl (lv_at hl 0 rfl) ?_
  refine lv_lload_n hx hb dX4_unpack_1 rfl (lv_at hl 1 rfl) ?_
  refine lv_l2i (v := (p0).toInt32) hx hb dX4_unpack_2 rfl ?_
  refine lv_sipush (v := 255) hx hb dX4_unpack_3 (by decide) ?_
  refine lv_iand hx hb dX4_unpack_6 ?_
  obtain ⟨y1, e2, hm⟩ := ob hm
  refine f_name e2 ?_
  refine f_put S hK hw in_X4_unpack_X4 tyX4_ok nmX4 0 rfl rfl 0 (by decide) (List.mem_of_getElem? (i := 1) rfl) rfl rfl rfl rfl (Nat.le_of_ble_eq_true rfl) (ws1 := (wd_7 cC cI cJ a_st y1 st_brought st_friends st_used st_crumbs st_day)) rfl dX4_unpack_7 (fun H locs hw => ?_)
  refine lv_aload_n hx hb dX4_unpack_10 rfl (lv_at hl 0 rfl) ?_
  refine lv_lload_n hx hb dX4_unpack_11 rfl (lv_at hl 1 rfl) ?_
  refine lv_bipush (v := 8) hx hb dX4_unpack_12 (by decide) ?_
  refine lv_lshr (v := (p0 >>> (((8 : Int32)).toInt64 &&& 63))) hx hb dX4_unpack_14 rfl ?_
  refine lv_l2i (v := ((p0 >>> (((8 : Int32)).toInt64 &&& 63))).toInt32) hx hb dX4_unpack_15 rfl ?_
  refine lv_sipush (v := 255) hx hb dX4_unpack_16 (by decide) ?_
  refine lv_iand hx hb dX4_unpack_19 ?_
  obtain ⟨y3, e4, hm⟩ := ob hm
  refine f_name e4 ?_
  refine f_put S hK hw in_X4_unpack_X4 tyX4_ok nmX4 0 rfl rfl 1 (by decide) (List.mem_of_getElem? (i := 2) rfl) rfl rfl rfl rfl (Nat.le_of_ble_eq_true rfl) (ws1 := (wd_7 cC cI cJ a_st y1 y3 st_friends st_used st_crumbs st_day)) rfl dX4_unpack_20 (fun H locs hw => ?_)
  refine lv_aload_n hx hb dX4_unpack_23 rfl (lv_at hl 0 rfl) ?_
  refine lv_lload_n hx hb dX4_unpack_24 rfl (lv_at hl 1 rfl) ?_
  refine lv_bipush (v := 16) hx hb dX4_unpack_25 (by decide) ?_
  refine lv_lshr (v := (p0 >>> (((16 : Int32)).toInt64 &&& 63))) hx hb dX4_unpack_27 rfl ?_
  refine lv_l2i (v := ((p0 >>> (((16 : Int32)).toInt64 &&& 63))).toInt32) hx hb dX4_unpack_28 rfl ?_
  refine lv_bipush (v := 127) hx hb dX4_unpack_29 (by decide) ?_
  refine lv_iand hx hb dX4_unpack_31 ?_
  obtain ⟨y5, e6, hm⟩ := ob hm
  refine f_name e6 ?_
  refine f_put S hK hw in_X4_unpack_X4 tyX4_ok nmX4 0 rfl rfl 2 (by decide) (List.mem_of_getElem? (i := 3) rfl) rfl rfl rfl rfl (Nat.le_of_ble_eq_true rfl) (ws1 := (wd_7 cC cI cJ a_st y1 y3 y5 st_used st_crumbs st_day)) rfl dX4_unpack_32 (fun H locs hw => ?_)
  refine lv_aload_n hx hb dX4_unpack_35 rfl (lv_at hl 0 rfl) ?_
  refine lv_lload_n hx hb dX4_unpack_36 rfl (lv_at hl 1 rfl) ?_
  refine lv_bipush (v := 23) hx hb dX4_unpack_37 (by decide) ?_
  refine lv_lshr (v := (p0 >>> (((23 : Int32)).toInt64 &&& 63))) hx hb dX4_unpack_39 rfl ?_
  refine lv_l2i (v := ((p0 >>> (((23 : Int32)).toInt64 &&& 63))).toInt32) hx hb dX4_unpack_40 rfl ?_
  refine lv_bipush (v := 127) hx hb dX4_unpack_41 (by decide) ?_
  refine lv_iand hx hb dX4_unpack_43 ?_
  obtain ⟨y7, e8, hm⟩ := ob hm
  refine f_name e8 ?_
  refine f_put S hK hw in_X4_unpack_X4 tyX4_ok nmX4 0 rfl rfl 3 (by decide) (List.mem_of_getElem? (i := 4) rfl) rfl rfl rfl rfl (Nat.le_of_ble_eq_true rfl) (ws1 := (wd_7 cC cI cJ a_st y1 y3 y5 y7 st_crumbs st_day)) rfl dX4_unpack_44 (fun H locs hw => ?_)
  refine lv_aload_n hx hb dX4_unpack_47 rfl (lv_at hl 0 rfl) ?_
  refine lv_lload_n hx hb dX4_unpack_48 rfl (lv_at hl 1 rfl) ?_
  refine lv_bipush (v := 30) hx hb dX4_unpack_49 (by decide) ?_
  refine lv_lshr (v := (p0 >>> (((30 : Int32)).toInt64 &&& 63))) hx hb dX4_unpack_51 rfl ?_
  refine lv_l2i (v := ((p0 >>> (((30 : Int32)).toInt64 &&& 63))).toInt32) hx hb dX4_unpack_52 rfl ?_
  refine lv_bipush (v := 127) hx hb dX4_unpack_53 (by decide) ?_
  refine lv_iand hx hb dX4_unpack_55 ?_
  obtain ⟨y9, e10, hm⟩ := ob hm
  refine f_name e10 ?_
  refine f_put S hK hw in_X4_unpack_X4 tyX4_ok nmX4 0 rfl rfl 4 (by decide) (List.mem_of_getElem? (i := 5) rfl) rfl rfl rfl rfl (Nat.le_of_ble_eq_true rfl) (ws1 := (wd_7 cC cI cJ a_st y1 y3 y5 y7 y9 st_day)) rfl dX4_unpack_56 (fun H locs hw => ?_)
  refine lv_aload_n hx hb dX4_unpack_59 rfl (lv_at hl 0 rfl) ?_
  refine lv_lload_n hx hb dX4_unpack_60 rfl (lv_at hl 1 rfl) ?_
  refine lv_bipush (v := 37) hx hb dX4_unpack_61 (by decide) ?_
  refine lv_lshr (v := (p0 >>> (((37 : Int32)).toInt64 &&& 63))) hx hb dX4_unpack_63 rfl ?_
  refine lv_l2i (v := ((p0 >>> (((37 : Int32)).toInt64 &&& 63))).toInt32) hx hb dX4_unpack_64 rfl ?_
  refine lv_bipush (v := 127) hx hb dX4_unpack_65 (by decide) ?_
  refine lv_iand hx hb dX4_unpack_67 ?_
  obtain ⟨y11, e12, hm⟩ := ob hm
  refine f_name e12 ?_
  refine f_put S hK hw in_X4_unpack_X4 tyX4_ok nmX4 0 rfl rfl 5 (by decide) (List.mem_of_getElem? (i := 6) rfl) rfl rfl rfl rfl (Nat.le_of_ble_eq_true rfl) (ws1 := (wd_7 cC cI cJ a_st y1 y3 y5 y7 y9 y11)) rfl dX4_unpack_68 (fun H locs hw => ?_)
  obtain rfl := Option.some.inj hm
  exact e_WV S hr hlk hw hw.1 dX4_unpack_71

abbrev rX4_openTasks : Room := { frames := 0, cells := 0, slots := 0, locals := 0 }
theorem cal_X4_openTasks : Cal yX4_openTasks wsX4_openTasks cX4_openTasks 1 (some .int) RX4 0 := ⟨⟨_, rfl⟩, rfl, by decide +kernel, by decide +kernel, by decide +kernel⟩
theorem in_X4_openTasks_X4 : ∀ w ∈ wsX40, w ∈ wsX4_openTasks := fun _ h => (List.mem_cons_of_mem _ (List.mem_append_right _ h))
set_option maxHeartbeats 4000000 in
set_option maxRecDepth 100000 in
theorem c_X4_openTasks (l : Launch) (D : va_G) (cC cI cJ : ClassId) (a_st : Nat) (st_asked : Int32) (st_brought : Int32) (st_friends : Int32) (st_used : Int32) (st_crumbs : Int32) (st_day : Int32) (out : Int32) (hm : m_X4_openTasks st_asked st_brought = some out) : RdI l yX4_openTasks wsX4_openTasks rX4_openTasks D (tyK cC cI cJ) [.ref a_st] (wd_7 cC cI cJ a_st st_asked st_brought st_friends st_used st_crumbs st_day) out := by
  unfold m_X4_openTasks at hm
  refine enter (cc := cX4_openTasks) (maxL := 1) (ret := (some .int)) (lv := [(0, .ref a_st)]) (by decide) rfl (Nat.le_of_ble_eq_true rfl) rfl ?_
  intro p e s m args below meth c S hr hlk hK hP ls hl
  replace S : CallFix p m c cX4_openTasks 1 s args wsX4_openTasks RX4 := S
  have hx := S.1
  have hb := S.2.1
  refine lv_aload_n hx hb dX4_openTasks_0 rfl (lv_at hl 0 rfl) ?_
  refine f_get S hK hP in_X4_openTasks_X4 0 rfl rfl 0 (by decide) (List.mem_of_getElem? (i := 1) rfl) rfl rfl dX4_openTasks_1 ?_
  refine lv_aload_n hx hb dX4_openTasks_4 rfl (lv_at hl 0 rfl) ?_
  refine f_get S hK hP in_X4_openTasks_X4 0 rfl rfl 1 (by decide) (List.mem_of_getElem? (i := 2) rfl) rfl rfl dX4_openTasks_5 ?_
  refine lv_iconst (v := (-1)) hx hb dX4_openTasks_8 (by decide) ?_
  refine lv_ixor hx hb dX4_openTasks_9 ?_
  refine lv_iand hx hb dX4_openTasks_10 ?_
  exact e_RI S hr hlk (Option.some.inj hm) dX4_openTasks_11

abbrev rX4_tasksToCome : Room := { frames := 1, cells := 0, slots := 0, locals := 21 }
theorem cal_X4_tasksToCome : Cal yX4_tasksToCome wsX4_tasksToCome cX4_tasksToCome 5 (some .int) RX4 1 := ⟨⟨_, rfl⟩, rfl, by decide +kernel, by decide +kernel, by decide +kernel⟩
theorem in_X4_tasksToCome_X0 : ∀ w ∈ wsX00, w ∈ wsX4_tasksToCome := fun _ h => (List.mem_cons_of_mem _ (List.mem_append_left _ (List.mem_append_right _ h)))
theorem in_X4_tasksToCome_X4 : ∀ w ∈ wsX40, w ∈ wsX4_tasksToCome := fun _ h => (List.mem_cons_of_mem _ (List.mem_append_right _ h))
set_option maxHeartbeats 4000000 in
set_option maxRecDepth 100000 in
theorem t_X4_tasksToCome_16 {p : Program} {e : Env} {s : State} {m : MethodId} {args : Array Value} {below : List Frame} {meth : Method} {c : Code} {Q : State → Prop} {H : Heap} {locs : List Loc} (l : Launch) {D : va_G} {cC cI cJ : ClassId} (S : CallFix p m c cX4_tasksToCome 5 s args wsX4_tasksToCome RX4) (hK : KK D (tyK cC cI cJ) s) (a_st : Nat) (a_mo : Nat) (a_mo_kinds : Nat) (a_mo_days : Nat) (a_mo_rideDays : Nat) (a_mo_helpKinds : Nat) (a_mo_nexts : Nat) (a_mo_helperKinds : Nat) (a_mo_prices : Nat) (a_mo_helpersOfKind : Nat) (a_mo_numbers : Nat) (v3 : Int32) (st_asked : Int32) (st_brought : Int32) (st_friends : Int32) (st_used : Int32) (st_crumbs : Int32) (st_day : Int32) (mo_tasks : Int32) (mo_helpers : Int32) (mo_askedFirst : Int32) (mo_crumbsFirst : Int32) (mo_lastDay : Int32) (mo_kinds : (Nat → Int32)) (mo_days : (Nat → Int32)) (mo_rideDays : (Nat → Int32)) (mo_helpKinds : (Nat → Int32)) (mo_nexts : (Nat → Int32)) (mo_helperKinds : (Nat → Int32)) (mo_prices : (Nat → Int32)) (mo_helpersOfKind : (Nat → Int32)) (mo_numbers : (Nat → Int32)) (hP : va_P D vwCl (wd_8 cC cI cJ a_st st_asked st_brought st_friends st_used st_crumbs st_day a_mo mo_tasks mo_helpers mo_askedFirst mo_crumbsFirst mo_lastDay a_mo_kinds a_mo_days a_mo_rideDays a_mo_helpKinds a_mo_nexts a_mo_helperKinds a_mo_prices a_mo_helpersOfKind a_mo_numbers a_mo_kinds mo_kinds a_mo_days mo_days a_mo_rideDays mo_rideDays a_mo_helpKinds mo_helpKinds a_mo_nexts mo_nexts a_mo_helperKinds mo_helperKinds a_mo_prices mo_prices a_mo_helpersOfKind mo_helpersOfKind a_mo_numbers mo_numbers) H) : ∀ (n : Nat) (v2 : Int32) (v4 : Int32) (out : Int32), lp_X4_tasksToCome_16 st_brought mo_tasks mo_nexts n v2 v4 = some out → ∀ (ls : Array Slot), lv_has ls 5 [(0, .ref a_st), (1, .ref a_mo), (2, .int v2), (3, .int v3), (4, .int v4)] → (∀ (ls : Array Slot), lv_has ls 5 [(0, .ref a_st), (1, .ref a_mo), (2, .int out), (3, .int v3)] → W p l e rX4_tasksToCome s m args below meth c H locs 0 0 Q (F0 m 60 ls [])) → W p l e rX4_tasksToCome s m args below meth c H locs 0 0 Q (F0 m 16 ls []) := by
  have hx := S.1
  have hb := S.2.1
  intro n
  induction n with
  | zero => intro v2 v4 out hm; cases (show (none : Option Int32) = some out from hm)
  | succ n ih =>
    intro v2 v4 out hm  ls hl K0
    rw [lp_X4_tasksToCome_16] at hm
    refine lv_iload hx hb dX4_tasksToCome_16 (lv_at hl 4 rfl) ?_
    refine lv_aload_n hx hb dX4_tasksToCome_18 rfl (lv_at hl 1 rfl) ?_
    refine f_get S hK hP in_X4_tasksToCome_X0 1 rfl rfl 0 (by decide) (List.mem_of_getElem? (i := 1) rfl) rfl rfl dX4_tasksToCome_19 ?_
    refine lv_icmp_ge (tgt := 60) hx hb dX4_tasksToCome_22 (by decide) (fun c4 => ?_) (fun c4 => ?_)
    · replace hm := ipos hm c4
      obtain rfl := Option.some.inj hm
      exact K0  ls (lv_sub hl [0, 1, 2, 3] rfl)
    · replace hm := ineg hm c4
      refine lv_iload_n hx hb dX4_tasksToCome_25 rfl (lv_at hl 2 rfl) ?_
      refine lv_iload hx hb dX4_tasksToCome_26 (lv_at hl 4 rfl) ?_
      obtain ⟨r5, h6, hm⟩ := ob hm
      refine k_rNi S hK hP cal_X5_bit gX4_tasksToCome_X5_bit_n49 (List.mem_of_getElem? (i := 4) rfl) (List.mem_of_getElem? (i := 10) rfl) (List.mem_of_getElem? (i := 9) rfl) (c_X5_bit l D cC cI cJ v4 r5 h6) ⟨⟨rfl, rfl⟩, Nat.le_of_ble_eq_true rfl, Nat.le_of_ble_eq_true rfl⟩ [] rfl rfl hl.1 rfl (Nat.le_of_ble_eq_true rfl) dX4_tasksToCome_28 ⟨Nat.zero_le _, Nat.zero_le _⟩ ?_
      refine lv_iand hx hb dX4_tasksToCome_31 ?_
      refine lv_if_eq (tgt := 54) hx hb dX4_tasksToCome_32 (by decide) (fun c7 => ?_) (fun c7 => ?_)
      · replace hm := ipos hm c7
        refine lv_iinc (v := (v4 + 1)) (lv' := [(4, .int (v4 + 1)), (0, .ref a_st), (1, .ref a_mo), (2, .int v2), (3, .int v3)]) hx hb dX4_tasksToCome_54 hl (k := 4) rfl (by rw [ofi_1]) (by decide) rfl (fun ls hl => ?_)
        refine lv_goto (tgt := 16) hx hb dX4_tasksToCome_57 (by decide) ?_
        exact ih v2 (v4 + 1) _ hm  ls (lv_sub hl [1, 2, 3, 4, 0] rfl) K0
      · replace hm := ineg hm c7
        refine lv_iload_n hx hb dX4_tasksToCome_35 rfl (lv_at hl 2 rfl) ?_
        refine lv_aload_n hx hb dX4_tasksToCome_36 rfl (lv_at hl 1 rfl) ?_
        refine lv_iload hx hb dX4_tasksToCome_37 (lv_at hl 4 rfl) ?_
        obtain ⟨r8, h9, hm⟩ := ob hm
        refine k_rVi S hK hP cal_X0_nextOf gX4_tasksToCome_X0_nextOf (c_X0_nextOf l D cC cI cJ a_mo a_mo_kinds a_mo_days a_mo_rideDays a_mo_helpKinds a_mo_nexts a_mo_helperKinds a_mo_prices a_mo_helpersOfKind a_mo_numbers mo_tasks mo_helpers mo_askedFirst mo_crumbsFirst mo_lastDay mo_kinds mo_days mo_rideDays mo_helpKinds mo_nexts mo_helperKinds mo_prices mo_helpersOfKind mo_numbers v4 r8 h9) ⟨⟨rfl, rfl⟩, Nat.le_of_ble_eq_true rfl, Nat.le_of_ble_eq_true rfl⟩ [1, 2, 3, 4, 5, 6, 7, 8, 9, 10] rfl 1 rfl rfl rfl hl.1 rfl (Nat.le_of_ble_eq_true rfl) dX4_tasksToCome_39 ⟨Nat.zero_le _, Nat.zero_le _⟩ ?_
        obtain ⟨r10, h11, hm⟩ := ob hm
        refine k_rNi S hK hP cal_X5_bit gX4_tasksToCome_X5_bit_n49 (List.mem_of_getElem? (i := 4) rfl) (List.mem_of_getElem? (i := 10) rfl) (List.mem_of_getElem? (i := 9) rfl) (c_X5_bit l D cC cI cJ r8 r10 h11) ⟨⟨rfl, rfl⟩, Nat.le_of_ble_eq_true rfl, Nat.le_of_ble_eq_true rfl⟩ [] rfl rfl hl.1 rfl (Nat.le_of_ble_eq_true rfl) dX4_tasksToCome_42 ⟨Nat.zero_le _, Nat.zero_le _⟩ ?_
        refine lv_aload_n hx hb dX4_tasksToCome_45 rfl (lv_at hl 0 rfl) ?_
        refine f_get S hK hP in_X4_tasksToCome_X4 0 rfl rfl 1 (by decide) (List.mem_of_getElem? (i := 2) rfl) rfl rfl dX4_tasksToCome_46 ?_
        refine lv_iconst (v := (-1)) hx hb dX4_tasksToCome_49 (by decide) ?_
        refine lv_ixor hx hb dX4_tasksToCome_50 ?_
        refine lv_iand hx hb dX4_tasksToCome_51 ?_
        refine lv_ior hx hb dX4_tasksToCome_52 ?_
        obtain ⟨y12, e13, hm⟩ := ob hm
        refine f_name e13 ?_
        refine lv_istore_n (lv' := [(2, .int y12), (0, .ref a_st), (1, .ref a_mo), (3, .int v3), (4, .int v4)]) hx hb dX4_tasksToCome_53 rfl hl (by decide) rfl (fun ls hl => ?_)
        refine lv_iinc (v := (v4 + 1)) (lv' := [(4, .int (v4 + 1)), (2, .int y12), (0, .ref a_st), (1, .ref a_mo), (3, .int v3)]) hx hb dX4_tasksToCome_54 hl (k := 4) rfl (by rw [ofi_1]) (by decide) rfl (fun ls hl => ?_)
        refine lv_goto (tgt := 16) hx hb dX4_tasksToCome_57 (by decide) ?_
        exact ih y12 (v4 + 1) _ hm  ls (lv_sub hl [2, 3, 1, 4, 0] rfl) K0
set_option maxHeartbeats 4000000 in
set_option maxRecDepth 100000 in
theorem t_X4_tasksToCome_7 {p : Program} {e : Env} {s : State} {m : MethodId} {args : Array Value} {below : List Frame} {meth : Method} {c : Code} {Q : State → Prop} {H : Heap} {locs : List Loc} (l : Launch) {D : va_G} {cC cI cJ : ClassId} (S : CallFix p m c cX4_tasksToCome 5 s args wsX4_tasksToCome RX4) (hK : KK D (tyK cC cI cJ) s) (a_st : Nat) (a_mo : Nat) (a_mo_kinds : Nat) (a_mo_days : Nat) (a_mo_rideDays : Nat) (a_mo_helpKinds : Nat) (a_mo_nexts : Nat) (a_mo_helperKinds : Nat) (a_mo_prices : Nat) (a_mo_helpersOfKind : Nat) (a_mo_numbers : Nat) (N : Nat) (st_asked : Int32) (st_brought : Int32) (st_friends : Int32) (st_used : Int32) (st_crumbs : Int32) (st_day : Int32) (mo_tasks : Int32) (mo_helpers : Int32) (mo_askedFirst : Int32) (mo_crumbsFirst : Int32) (mo_lastDay : Int32) (mo_kinds : (Nat → Int32)) (mo_days : (Nat → Int32)) (mo_rideDays : (Nat → Int32)) (mo_helpKinds : (Nat → Int32)) (mo_nexts : (Nat → Int32)) (mo_helperKinds : (Nat → Int32)) (mo_prices : (Nat → Int32)) (mo_helpersOfKind : (Nat → Int32)) (mo_numbers : (Nat → Int32)) (hP : va_P D vwCl (wd_8 cC cI cJ a_st st_asked st_brought st_friends st_used st_crumbs st_day a_mo mo_tasks mo_helpers mo_askedFirst mo_crumbsFirst mo_lastDay a_mo_kinds a_mo_days a_mo_rideDays a_mo_helpKinds a_mo_nexts a_mo_helperKinds a_mo_prices a_mo_helpersOfKind a_mo_numbers a_mo_kinds mo_kinds a_mo_days mo_days a_mo_rideDays mo_rideDays a_mo_helpKinds mo_helpKinds a_mo_nexts mo_nexts a_mo_helperKinds mo_helperKinds a_mo_prices mo_prices a_mo_helpersOfKind mo_helpersOfKind a_mo_numbers mo_numbers) H) : ∀ (n : Nat) (v2 : Int32) (v3 : Int32) (out : Int32), lp_X4_tasksToCome_7 N st_brought mo_tasks mo_nexts n v2 v3 = some out → ∀ (ls : Array Slot), lv_has ls 5 [(0, .ref a_st), (1, .ref a_mo), (2, .int v2), (3, .int v3)] → (∀ (ls : Array Slot), lv_has ls 5 [(2, .int out)] → W p l e rX4_tasksToCome s m args below meth c H locs 0 0 Q (F0 m 66 ls [])) → W p l e rX4_tasksToCome s m args below meth c H locs 0 0 Q (F0 m 7 ls []) := by
  have hx := S.1
  have hb := S.2.1
  intro n
  induction n with
  | zero => intro v2 v3 out hm; cases (show (none : Option Int32) = some out from hm)
  | succ n ih =>
    intro v2 v3 out hm  ls hl K0
    rw [lp_X4_tasksToCome_7] at hm
    refine lv_iload_n hx hb dX4_tasksToCome_7 rfl (lv_at hl 3 rfl) ?_
    refine lv_bipush (v := 8) hx hb dX4_tasksToCome_8 (by decide) ?_
    refine lv_icmp_ge (tgt := 66) hx hb dX4_tasksToCome_10 (by decide) (fun c3 => ?_) (fun c3 => ?_)
    · replace hm := ipos hm c3
      obtain rfl := Option.some.inj hm
      exact K0  ls (lv_sub hl [2] rfl)
    · replace hm := ineg hm c3
      refine lv_iconst (v := 0) hx hb dX4_tasksToCome_13 (by decide) ?_
      refine lv_istore (lv' := [(4, .int (0 : Int32)), (0, .ref a_st), (1, .ref a_mo), (2, .int v2), (3, .int v3)]) hx hb dX4_tasksToCome_14 hl (by decide) rfl (fun ls hl => ?_)
      obtain ⟨r14, h15, hm⟩ := ob hm
      refine t_X4_tasksToCome_16 l S hK a_st a_mo a_mo_kinds a_mo_days a_mo_rideDays a_mo_helpKinds a_mo_nexts a_mo_helperKinds a_mo_prices a_mo_helpersOfKind a_mo_numbers v3 st_asked st_brought st_friends st_used st_crumbs st_day mo_tasks mo_helpers mo_askedFirst mo_crumbsFirst mo_lastDay mo_kinds mo_days mo_rideDays mo_helpKinds mo_nexts mo_helperKinds mo_prices mo_helpersOfKind mo_numbers hP N v2 (0 : Int32) r14 h15  ls (lv_sub hl [1, 2, 3, 4, 0] rfl) (fun ls hl => ?_)
      refine lv_iinc (v := (v3 + 1)) (lv' := [(3, .int (v3 + 1)), (0, .ref a_st), (1, .ref a_mo), (2, .int r14)]) hx hb dX4_tasksToCome_60 hl (k := 3) rfl (by rw [ofi_1]) (by decide) rfl (fun ls hl => ?_)
      refine lv_goto (tgt := 7) hx hb dX4_tasksToCome_63 (by decide) ?_
      exact ih r14 (v3 + 1) _ hm  ls (lv_sub hl [1, 2, 3, 0] rfl) K0
set_option maxHeartbeats 4000000 in
set_option maxRecDepth 100000 in
theorem c_X4_tasksToCome (l : Launch) (D : va_G) (cC cI cJ : ClassId) (a_st : Nat) (a_mo : Nat) (a_mo_kinds : Nat) (a_mo_days : Nat) (a_mo_rideDays : Nat) (a_mo_helpKinds : Nat) (a_mo_nexts : Nat) (a_mo_helperKinds : Nat) (a_mo_prices : Nat) (a_mo_helpersOfKind : Nat) (a_mo_numbers : Nat) (st_asked : Int32) (st_brought : Int32) (st_friends : Int32) (st_used : Int32) (st_crumbs : Int32) (st_day : Int32) (mo_tasks : Int32) (mo_helpers : Int32) (mo_askedFirst : Int32) (mo_crumbsFirst : Int32) (mo_lastDay : Int32) (mo_kinds : (Nat → Int32)) (mo_days : (Nat → Int32)) (mo_rideDays : (Nat → Int32)) (mo_helpKinds : (Nat → Int32)) (mo_nexts : (Nat → Int32)) (mo_helperKinds : (Nat → Int32)) (mo_prices : (Nat → Int32)) (mo_helpersOfKind : (Nat → Int32)) (mo_numbers : (Nat → Int32)) (N : Nat) (out : Int32) (hm : m_X4_tasksToCome N st_asked st_brought mo_tasks mo_nexts = some out) : RdI l yX4_tasksToCome wsX4_tasksToCome rX4_tasksToCome D (tyK cC cI cJ) [.ref a_st, .ref a_mo] (wd_8 cC cI cJ a_st st_asked st_brought st_friends st_used st_crumbs st_day a_mo mo_tasks mo_helpers mo_askedFirst mo_crumbsFirst mo_lastDay a_mo_kinds a_mo_days a_mo_rideDays a_mo_helpKinds a_mo_nexts a_mo_helperKinds a_mo_prices a_mo_helpersOfKind a_mo_numbers a_mo_kinds mo_kinds a_mo_days mo_days a_mo_rideDays mo_rideDays a_mo_helpKinds mo_helpKinds a_mo_nexts mo_nexts a_mo_helperKinds mo_helperKinds a_mo_prices mo_prices a_mo_helpersOfKind mo_helpersOfKind a_mo_numbers mo_numbers) out := by
  unfold m_X4_tasksToCome at hm
  refine enter (cc := cX4_tasksToCome) (maxL := 5) (ret := (some .int)) (lv := [(0, .ref a_st), (1, .ref a_mo)]) (by decide) rfl (Nat.le_of_ble_eq_true rfl) rfl ?_
  intro p e s m args below meth c S hr hlk hK hP ls hl
  replace S : CallFix p m c cX4_tasksToCome 5 s args wsX4_tasksToCome RX4 := S
  have hx := S.1
  have hb := S.2.1
  refine lv_aload_n hx hb dX4_tasksToCome_0 rfl (lv_at hl 0 rfl) ?_
  obtain ⟨r1, h2, hm⟩ := ob hm
  refine k_rVi S hK hP cal_X4_openTasks gX4_tasksToCome_X4_openTasks (c_X4_openTasks l D cC cI cJ a_st st_asked st_brought st_friends st_used st_crumbs st_day r1 h2) ⟨⟨rfl, rfl⟩, Nat.le_of_ble_eq_true rfl, Nat.le_of_ble_eq_true rfl⟩ [0] rfl 0 rfl rfl rfl hl.1 rfl (Nat.le_of_ble_eq_true rfl) dX4_tasksToCome_1 ⟨Nat.zero_le _, Nat.zero_le _⟩ ?_
  refine lv_istore_n (lv' := [(2, .int r1), (0, .ref a_st), (1, .ref a_mo)]) hx hb dX4_tasksToCome_4 rfl hl (by decide) rfl (fun ls hl => ?_)
  refine lv_iconst (v := 0) hx hb dX4_tasksToCome_5 (by decide) ?_
  refine lv_istore_n (lv' := [(3, .int (0 : Int32)), (2, .int r1), (0, .ref a_st), (1, .ref a_mo)]) hx hb dX4_tasksToCome_6 rfl hl (by decide) rfl (fun ls hl => ?_)
  obtain ⟨r16, h17, hm⟩ := ob hm
  refine t_X4_tasksToCome_7 l S hK a_st a_mo a_mo_kinds a_mo_days a_mo_rideDays a_mo_helpKinds a_mo_nexts a_mo_helperKinds a_mo_prices a_mo_helpersOfKind a_mo_numbers N st_asked st_brought st_friends st_used st_crumbs st_day mo_tasks mo_helpers mo_askedFirst mo_crumbsFirst mo_lastDay mo_kinds mo_days mo_rideDays mo_helpKinds mo_nexts mo_helperKinds mo_prices mo_helpersOfKind mo_numbers hP N r1 (0 : Int32) r16 h17  ls (lv_sub hl [2, 3, 1, 0] rfl) (fun ls hl => ?_)
  refine lv_iload_n hx hb dX4_tasksToCome_66 rfl (lv_at hl 0 rfl) ?_
  exact e_RI S hr hlk (Option.some.inj hm) dX4_tasksToCome_67

abbrev rX4_freeFriends : Room := { frames := 0, cells := 0, slots := 0, locals := 0 }
theorem cal_X4_freeFriends : Cal yX4_freeFriends wsX4_freeFriends cX4_freeFriends 1 (some .int) RX4 0 := ⟨⟨_, rfl⟩, rfl, by decide +kernel, by decide +kernel, by decide +kernel⟩
theorem in_X4_freeFriends_X4 : ∀ w ∈ wsX40, w ∈ wsX4_freeFriends := fun _ h => (List.mem_cons_of_mem _ (List.mem_append_right _ h))
set_option maxHeartbeats 4000000 in
set_option maxRecDepth 100000 in
theorem c_X4_freeFriends (l : Launch) (D : va_G) (cC cI cJ : ClassId) (a_st : Nat) (st_asked : Int32) (st_brought : Int32) (st_friends : Int32) (st_used : Int32) (st_crumbs : Int32) (st_day : Int32) (out : Int32) (hm : m_X4_freeFriends st_friends st_used = some out) : RdI l yX4_freeFriends wsX4_freeFriends rX4_freeFriends D (tyK cC cI cJ) [.ref a_st] (wd_7 cC cI cJ a_st st_asked st_brought st_friends st_used st_crumbs st_day) out := by
  unfold m_X4_freeFriends at hm
  refine enter (cc := cX4_freeFriends) (maxL := 1) (ret := (some .int)) (lv := [(0, .ref a_st)]) (by decide) rfl (Nat.le_of_ble_eq_true rfl) rfl ?_
  intro p e s m args below meth c S hr hlk hK hP ls hl
  replace S : CallFix p m c cX4_freeFriends 1 s args wsX4_freeFriends RX4 := S
  have hx := S.1
  have hb := S.2.1
  refine lv_aload_n hx hb dX4_freeFriends_0 rfl (lv_at hl 0 rfl) ?_
  refine f_get S hK hP in_X4_freeFriends_X4 0 rfl rfl 2 (by decide) (List.mem_of_getElem? (i := 1) rfl) rfl rfl dX4_freeFriends_1 ?_
  refine lv_aload_n hx hb dX4_freeFriends_4 rfl (lv_at hl 0 rfl) ?_
  refine f_get S hK hP in_X4_freeFriends_X4 0 rfl rfl 3 (by decide) (List.mem_of_getElem? (i := 2) rfl) rfl rfl dX4_freeFriends_5 ?_
  refine lv_iconst (v := (-1)) hx hb dX4_freeFriends_8 (by decide) ?_
  refine lv_ixor hx hb dX4_freeFriends_9 ?_
  refine lv_iand hx hb dX4_freeFriends_10 ?_
  exact e_RI S hr hlk (Option.some.inj hm) dX4_freeFriends_11

abbrev rX2_begin : Room := { frames := 3, cells := 0, slots := 0, locals := 70 }
theorem cal_X2_begin : Cal yX2_begin wsX2_begin cX2_begin 8 none RX2 5 := ⟨⟨_, rfl⟩, rfl, by decide +kernel, by decide +kernel, by decide +kernel⟩
theorem in_X2_begin_X0 : ∀ w ∈ wsX00, w ∈ wsX2_begin := fun _ h => (List.mem_cons_of_mem _ (List.mem_append_right _ h))
theorem in_X2_begin_X2 : ∀ w ∈ wsX20, w ∈ wsX2_begin := fun _ h => (List.mem_cons_of_mem _ (List.mem_append_left _ (List.mem_append_left _ (List.mem_append_right _ h))))
theorem in_X2_begin_X4 : ∀ w ∈ wsX40, w ∈ wsX2_begin := fun _ h => (List.mem_cons_of_mem _ (List.mem_append_left _ (List.mem_append_right _ h)))
set_option maxHeartbeats 4000000 in
set_option maxRecDepth 100000 in
theorem c_X2_begin (l : Launch) (D : va_G) (cC cI cJ : ClassId) (a_sr : Nat) (a_sr_known : Nat) (a_ro : Nat) (g_sr_unseen : Nat) (g_sr_months : Nat) (g_sr_heeded : Nat) (a_mo : Nat) (a_mo_kinds : Nat) (a_mo_days : Nat) (a_mo_rideDays : Nat) (a_mo_helpKinds : Nat) (a_mo_nexts : Nat) (a_mo_helperKinds : Nat) (a_mo_prices : Nat) (a_mo_helpersOfKind : Nat) (a_mo_numbers : Nat) (a_fr : Nat) (a_se : Nat) (sr_number : Int64) (sr_enough : Int64) (sr_hopeless : Int32) (sr_known : (Nat → Int64)) (ro_asked : Int32) (ro_brought : Int32) (ro_friends : Int32) (ro_used : Int32) (ro_crumbs : Int32) (ro_day : Int32) (mo_tasks : Int32) (mo_helpers : Int32) (mo_askedFirst : Int32) (mo_crumbsFirst : Int32) (mo_lastDay : Int32) (mo_kinds : (Nat → Int32)) (mo_days : (Nat → Int32)) (mo_rideDays : (Nat → Int32)) (mo_helpKinds : (Nat → Int32)) (mo_nexts : (Nat → Int32)) (mo_helperKinds : (Nat → Int32)) (mo_prices : (Nat → Int32)) (mo_helpersOfKind : (Nat → Int32)) (mo_numbers : (Nat → Int32)) (fr_asked : Int32) (fr_brought : Int32) (fr_friends : Int32) (fr_used : Int32) (fr_crumbs : Int32) (fr_day : Int32) (p2 : Int32) (p4 : Int64) (N : Nat) (A : Nat → Prop) (hD : va_D A (wd_6 cC cI cJ a_sr a_sr_known a_ro g_sr_unseen sr_number sr_enough sr_hopeless g_sr_months g_sr_heeded a_sr_known sr_known a_ro ro_asked ro_brought ro_friends ro_used ro_crumbs ro_day a_mo mo_tasks mo_helpers mo_askedFirst mo_crumbsFirst mo_lastDay a_mo_kinds a_mo_days a_mo_rideDays a_mo_helpKinds a_mo_nexts a_mo_helperKinds a_mo_prices a_mo_helpersOfKind a_mo_numbers a_mo_kinds mo_kinds a_mo_days mo_days a_mo_rideDays mo_rideDays a_mo_helpKinds mo_helpKinds a_mo_nexts mo_nexts a_mo_helperKinds mo_helperKinds a_mo_prices mo_prices a_mo_helpersOfKind mo_helpersOfKind a_mo_numbers mo_numbers a_fr fr_asked fr_brought fr_friends fr_used fr_crumbs fr_day)) (out : (Int64 × Int64 × Int32 × Int32 × Int32 × Int32 × Int32 × Int32 × Int32)) (hm : m_X2_begin N sr_number mo_tasks mo_lastDay mo_kinds mo_rideDays mo_helpKinds mo_nexts mo_helpersOfKind fr_asked fr_brought fr_friends fr_used fr_crumbs fr_day p2 p4 = some out) : WrV l yX2_begin wsX2_begin rX2_begin D (tyK cC cI cJ) [.ref a_sr, .ref a_mo, .ref a_fr, .int p2, .ref a_se, .long p4] A (wd_6 cC cI cJ a_sr a_sr_known a_ro g_sr_unseen sr_number sr_enough sr_hopeless g_sr_months g_sr_heeded a_sr_known sr_known a_ro ro_asked ro_brought ro_friends ro_used ro_crumbs ro_day a_mo mo_tasks mo_helpers mo_askedFirst mo_crumbsFirst mo_lastDay a_mo_kinds a_mo_days a_mo_rideDays a_mo_helpKinds a_mo_nexts a_mo_helperKinds a_mo_prices a_mo_helpersOfKind a_mo_numbers a_mo_kinds mo_kinds a_mo_days mo_days a_mo_rideDays mo_rideDays a_mo_helpKinds mo_helpKinds a_mo_nexts mo_nexts a_mo_helperKinds mo_helperKinds a_mo_prices mo_prices a_mo_helpersOfKind mo_helpersOfKind a_mo_numbers mo_numbers a_fr fr_asked fr_brought fr_friends fr_used fr_crumbs fr_day) (Bw0 D (wd_6 cC cI cJ a_sr a_sr_known a_ro g_sr_unseen out.1 out.2.1 out.2.2.1 a_mo a_se a_sr_known sr_known a_ro out.2.2.2.1 out.2.2.2.2.1 out.2.2.2.2.2.1 out.2.2.2.2.2.2.1 out.2.2.2.2.2.2.2.1 out.2.2.2.2.2.2.2.2 a_mo mo_tasks mo_helpers mo_askedFirst mo_crumbsFirst mo_lastDay a_mo_kinds a_mo_days a_mo_rideDays a_mo_helpKinds a_mo_nexts a_mo_helperKinds a_mo_prices a_mo_helpersOfKind a_mo_numbers a_mo_kinds mo_kinds a_mo_days mo_days a_mo_rideDays mo_rideDays a_mo_helpKinds mo_helpKinds a_mo_nexts mo_nexts a_mo_helperKinds mo_helperKinds a_mo_prices mo_prices a_mo_helpersOfKind mo_helpersOfKind a_mo_numbers mo_numbers a_fr fr_asked fr_brought fr_friends fr_used fr_crumbs fr_day)) := by
  unfold m_X2_begin at hm
  refine enter (cc := cX2_begin) (maxL := 8) (ret := none) (lv := [(0, .ref a_sr), (1, .ref a_mo), (2, .ref a_fr), (3, .int p2), (4, .ref a_se), (5, .long p4)]) (by decide) rfl (Nat.le_of_ble_eq_true rfl) rfl ?_
  intro p e s m args below meth c S hr hlk hK hP ls hl
  replace S : CallFix p m c cX2_begin 8 s args wsX2_begin RX2 := S
  have hx := S.1
  have hb := S.2.1
  have hw : Wd D A s.heap (wd_6 cC cI cJ a_sr a_sr_known a_ro g_sr_unseen sr_number sr_enough sr_hopeless g_sr_months g_sr_heeded a_sr_known sr_known a_ro ro_asked ro_brought ro_friends ro_used ro_crumbs ro_day a_mo mo_tasks mo_helpers mo_askedFirst mo_crumbsFirst mo_lastDay a_mo_kinds a_mo_days a_mo_rideDays a_mo_helpKinds a_mo_nexts a_mo_helperKinds a_mo_prices a_mo_helpersOfKind a_mo_numbers a_mo_kinds mo_kinds a_mo_days mo_days a_mo_rideDays mo_rideDays a_mo_helpKinds mo_helpKinds a_mo_nexts mo_nexts a_mo_helperKinds mo_helperKinds a_mo_prices mo_prices a_mo_helpersOfKind mo_helpersOfKind a_mo_numbers mo_numbers a_fr fr_asked fr_brought fr_friends fr_used fr_crumbs fr_day) s.heap [] := ⟨hP, hD, va_S.rf⟩
  have hw0 := hw
  refine lv_aload_n hx hb dX2_begin_0 rfl (lv_at hl 0 rfl) ?_
  refine lv_aload_n hx hb dX2_begin_1 rfl (lv_at hl 1 rfl) ?_
  refine f_put S hK hw in_X2_begin_X2 tyX2_ok nmX2 0 rfl rfl 6 (by decide) (List.mem_of_getElem? (i := 1) rfl) rfl rfl rfl rfl (Nat.le_of_ble_eq_true rfl) (ws1 := (wd_6 cC cI cJ a_sr a_sr_known a_ro g_sr_unseen sr_number sr_enough sr_hopeless a_mo g_sr_heeded a_sr_known sr_known a_ro ro_asked ro_brought ro_friends ro_used ro_crumbs ro_day a_mo mo_tasks mo_helpers mo_askedFirst mo_crumbsFirst mo_lastDay a_mo_kinds a_mo_days a_mo_rideDays a_mo_helpKinds a_mo_nexts a_mo_helperKinds a_mo_prices a_mo_helpersOfKind a_mo_numbers a_mo_kinds mo_kinds a_mo_days mo_days a_mo_rideDays mo_rideDays a_mo_helpKinds mo_helpKinds a_mo_nexts mo_nexts a_mo_helperKinds mo_helperKinds a_mo_prices mo_prices a_mo_helpersOfKind mo_helpersOfKind a_mo_numbers mo_numbers a_fr fr_asked fr_brought fr_friends fr_used fr_crumbs fr_day)) rfl dX2_begin_2 (fun H locs hw => ?_)
  refine lv_aload_n hx hb dX2_begin_5 rfl (lv_at hl 0 rfl) ?_
  refine lv_aload hx hb dX2_begin_6 (lv_at hl 4 rfl) ?_
  refine f_put S hK hw in_X2_begin_X2 tyX2_ok nmX2 0 rfl rfl 7 (by decide) (List.mem_of_getElem? (i := 2) rfl) rfl rfl rfl rfl (Nat.le_of_ble_eq_true rfl) (ws1 := (wd_6 cC cI cJ a_sr a_sr_known a_ro g_sr_unseen sr_number sr_enough sr_hopeless a_mo a_se a_sr_known sr_known a_ro ro_asked ro_brought ro_friends ro_used ro_crumbs ro_day a_mo mo_tasks mo_helpers mo_askedFirst mo_crumbsFirst mo_lastDay a_mo_kinds a_mo_days a_mo_rideDays a_mo_helpKinds a_mo_nexts a_mo_helperKinds a_mo_prices a_mo_helpersOfKind a_mo_numbers a_mo_kinds mo_kinds a_mo_days mo_days a_mo_rideDays mo_rideDays a_mo_helpKinds mo_helpKinds a_mo_nexts mo_nexts a_mo_helperKinds mo_helperKinds a_mo_prices mo_prices a_mo_helpersOfKind mo_helpersOfKind a_mo_numbers mo_numbers a_fr fr_asked fr_brought fr_friends fr_used fr_crumbs fr_day)) rfl dX2_begin_8 (fun H locs hw => ?_)
  refine lv_aload_n hx hb dX2_begin_11 rfl (lv_at hl 0 rfl) ?_
  refine lv_lload hx hb dX2_begin_12 (lv_at hl 5 rfl) ?_
  refine f_put S hK hw in_X2_begin_X2 tyX2_ok nmX2 0 rfl rfl 4 (by decide) (List.mem_of_getElem? (i := 3) rfl) rfl rfl rfl rfl (Nat.le_of_ble_eq_true rfl) (ws1 := (wd_6 cC cI cJ a_sr a_sr_known a_ro g_sr_unseen sr_number p4 sr_hopeless a_mo a_se a_sr_known sr_known a_ro ro_asked ro_brought ro_friends ro_used ro_crumbs ro_day a_mo mo_tasks mo_helpers mo_askedFirst mo_crumbsFirst mo_lastDay a_mo_kinds a_mo_days a_mo_rideDays a_mo_helpKinds a_mo_nexts a_mo_helperKinds a_mo_prices a_mo_helpersOfKind a_mo_numbers a_mo_kinds mo_kinds a_mo_days mo_days a_mo_rideDays mo_rideDays a_mo_helpKinds mo_helpKinds a_mo_nexts mo_nexts a_mo_helperKinds mo_helperKinds a_mo_prices mo_prices a_mo_helpersOfKind mo_helpersOfKind a_mo_numbers mo_numbers a_fr fr_asked fr_brought fr_friends fr_used fr_crumbs fr_day)) rfl dX2_begin_14 (fun H locs hw => ?_)
  refine lv_aload_n hx hb dX2_begin_17 rfl (lv_at hl 0 rfl) ?_
  refine lv_dup hx hb dX2_begin_18 rfl ?_
  refine f_get S hK hw.1 in_X2_begin_X2 0 rfl rfl 3 (by decide) (List.mem_of_getElem? (i := 4) rfl) rfl rfl dX2_begin_19 ?_
  refine lv_lconst (v := 1) hx hb dX2_begin_22 (by decide) ?_
  refine lv_ladd hx hb dX2_begin_23 ?_
  refine f_put S hK hw in_X2_begin_X2 tyX2_ok nmX2 0 rfl rfl 3 (by decide) (List.mem_of_getElem? (i := 4) rfl) rfl rfl rfl rfl (Nat.le_of_ble_eq_true rfl) (ws1 := (wd_6 cC cI cJ a_sr a_sr_known a_ro g_sr_unseen (sr_number + (1 : Int64)) p4 sr_hopeless a_mo a_se a_sr_known sr_known a_ro ro_asked ro_brought ro_friends ro_used ro_crumbs ro_day a_mo mo_tasks mo_helpers mo_askedFirst mo_crumbsFirst mo_lastDay a_mo_kinds a_mo_days a_mo_rideDays a_mo_helpKinds a_mo_nexts a_mo_helperKinds a_mo_prices a_mo_helpersOfKind a_mo_numbers a_mo_kinds mo_kinds a_mo_days mo_days a_mo_rideDays mo_rideDays a_mo_helpKinds mo_helpKinds a_mo_nexts mo_nexts a_mo_helperKinds mo_helperKinds a_mo_prices mo_prices a_mo_helpersOfKind mo_helpersOfKind a_mo_numbers mo_numbers a_fr fr_asked fr_brought fr_friends fr_used fr_crumbs fr_day)) rfl dX2_begin_24 (fun H locs hw => ?_)
  refine lv_aload_n hx hb dX2_begin_27 rfl (lv_at hl 0 rfl) ?_
  refine f_get S hK hw.1 in_X2_begin_X2 0 rfl rfl 1 (by decide) (List.mem_of_getElem? (i := 5) rfl) rfl rfl dX2_begin_28 ?_
  refine lv_aload_n hx hb dX2_begin_31 rfl (lv_at hl 2 rfl) ?_
  obtain ⟨r1, h2, hm⟩ := ob hm
  refine k_rVl S hK hw.1 cal_X4_packed gX2_begin_X4_packed (c_X4_packed l D cC cI cJ a_fr fr_asked fr_brought fr_friends fr_used fr_crumbs fr_day r1 h2) ⟨⟨rfl, rfl⟩, Nat.le_of_ble_eq_true rfl, Nat.le_of_ble_eq_true rfl⟩ [13] rfl 13 rfl rfl rfl hl.1 rfl (Nat.le_of_ble_eq_true rfl) dX2_begin_32 ⟨Nat.zero_le _, Nat.zero_le _⟩ ?_
  obtain ⟨r3, h4, hm⟩ := ob hm
  refine k_wVv S hK hw cal_X4_unpack gX2_begin_X4_unpack (c_X4_unpack l D cC cI cJ a_ro ro_asked ro_brought ro_friends ro_used ro_crumbs ro_day r1 (aw _) (hw.own [2] (by decide) rfl) r3 h4) ⟨⟨rfl, rfl⟩, Nat.le_of_ble_eq_true rfl, Nat.le_of_ble_eq_true rfl⟩ [2] rfl 2 rfl rfl rfl hl.1 rfl (Nat.le_of_ble_eq_true rfl) dX2_begin_35 ⟨Nat.zero_le _, Nat.zero_le _⟩ (fun H locs hJ hB => ?_)
  have hw := hJ _ hB rfl
  replace hw : Wd D A _ (wd_6 cC cI cJ a_sr a_sr_known a_ro g_sr_unseen (sr_number + (1 : Int64)) p4 sr_hopeless a_mo a_se a_sr_known sr_known a_ro r3.1 r3.2.1 r3.2.2.1 r3.2.2.2.1 r3.2.2.2.2.1 r3.2.2.2.2.2 a_mo mo_tasks mo_helpers mo_askedFirst mo_crumbsFirst mo_lastDay a_mo_kinds a_mo_days a_mo_rideDays a_mo_helpKinds a_mo_nexts a_mo_helperKinds a_mo_prices a_mo_helpersOfKind a_mo_numbers a_mo_kinds mo_kinds a_mo_days mo_days a_mo_rideDays mo_rideDays a_mo_helpKinds mo_helpKinds a_mo_nexts mo_nexts a_mo_helperKinds mo_helperKinds a_mo_prices mo_prices a_mo_helpersOfKind mo_helpersOfKind a_mo_numbers mo_numbers a_fr fr_asked fr_brought fr_friends fr_used fr_crumbs fr_day) H locs := hw
  refine lv_aload_n hx hb dX2_begin_38 rfl (lv_at hl 0 rfl) ?_
  refine f_get S hK hw.1 in_X2_begin_X2 0 rfl rfl 1 (by decide) (List.mem_of_getElem? (i := 5) rfl) rfl rfl dX2_begin_39 ?_
  refine lv_dup hx hb dX2_begin_42 rfl ?_
  refine f_get S hK hw.1 in_X2_begin_X4 2 rfl rfl 2 (by decide) (List.mem_of_getElem? (i := 6) rfl) rfl rfl dX2_begin_43 ?_
  refine lv_iload_n hx hb dX2_begin_46 rfl (lv_at hl 3 rfl) ?_
  refine lv_ior hx hb dX2_begin_47 ?_
  refine f_put S hK hw in_X2_begin_X4 tyX4_ok nmX4 2 rfl rfl 2 (by decide) (List.mem_of_getElem? (i := 6) rfl) rfl rfl rfl rfl (Nat.le_of_ble_eq_true rfl) (ws1 := (wd_6 cC cI cJ a_sr a_sr_known a_ro g_sr_unseen (sr_number + (1 : Int64)) p4 sr_hopeless a_mo a_se a_sr_known sr_known a_ro r3.1 r3.2.1 (r3.2.2.1 ||| p2) r3.2.2.2.1 r3.2.2.2.2.1 r3.2.2.2.2.2 a_mo mo_tasks mo_helpers mo_askedFirst mo_crumbsFirst mo_lastDay a_mo_kinds a_mo_days a_mo_rideDays a_mo_helpKinds a_mo_nexts a_mo_helperKinds a_mo_prices a_mo_helpersOfKind a_mo_numbers a_mo_kinds mo_kinds a_mo_days mo_days a_mo_rideDays mo_rideDays a_mo_helpKinds mo_helpKinds a_mo_nexts mo_nexts a_mo_helperKinds mo_helperKinds a_mo_prices mo_prices a_mo_helpersOfKind mo_helpersOfKind a_mo_numbers mo_numbers a_fr fr_asked fr_brought fr_friends fr_used fr_crumbs fr_day)) rfl dX2_begin_48 (fun H locs hw => ?_)
  refine lv_aload_n hx hb dX2_begin_51 rfl (lv_at hl 0 rfl) ?_
  refine f_get S hK hw.1 in_X2_begin_X2 0 rfl rfl 1 (by decide) (List.mem_of_getElem? (i := 5) rfl) rfl rfl dX2_begin_52 ?_
  refine lv_aload_n hx hb dX2_begin_55 rfl (lv_at hl 1 rfl) ?_
  obtain ⟨r5, h6, hm⟩ := ob hm
  refine k_rVi S hK hw.1 cal_X4_tasksToCome gX2_begin_X4_tasksToCome (c_X4_tasksToCome l D cC cI cJ a_ro a_mo a_mo_kinds a_mo_days a_mo_rideDays a_mo_helpKinds a_mo_nexts a_mo_helperKinds a_mo_prices a_mo_helpersOfKind a_mo_numbers r3.1 r3.2.1 (r3.2.2.1 ||| p2) r3.2.2.2.1 r3.2.2.2.2.1 r3.2.2.2.2.2 mo_tasks mo_helpers mo_askedFirst mo_crumbsFirst mo_lastDay mo_kinds mo_days mo_rideDays mo_helpKinds mo_nexts mo_helperKinds mo_prices mo_helpersOfKind mo_numbers N r5 h6) ⟨⟨rfl, rfl⟩, Nat.le_of_ble_eq_true rfl, Nat.le_of_ble_eq_true rfl⟩ [2, 3, 4, 5, 6, 7, 8, 9, 10, 11, 12] rfl 2 rfl rfl rfl hl.1 rfl (Nat.le_of_ble_eq_true rfl) dX2_begin_56 ⟨Nat.zero_le _, Nat.zero_le _⟩ ?_
  refine lv_istore (lv' := [(7, .int r5), (0, .ref a_sr), (1, .ref a_mo), (2, .ref a_fr), (3, .int p2), (4, .ref a_se), (5, .long p4)]) hx hb dX2_begin_59 hl (by decide) rfl (fun ls hl => ?_)
  refine lv_aload_n hx hb dX2_begin_61 rfl (lv_at hl 1 rfl) ?_
  refine lv_aload_n hx hb dX2_begin_62 rfl (lv_at hl 1 rfl) ?_
  refine f_get S hK hw.1 in_X2_begin_X2 0 rfl rfl 1 (by decide) (List.mem_of_getElem? (i := 5) rfl) rfl rfl dX2_begin_63 ?_
  refine f_get S hK hw.1 in_X2_begin_X4 2 rfl rfl 5 (by decide) (List.mem_of_getElem? (i := 7) rfl) rfl rfl dX2_begin_66 ?_
  refine lv_aload_n hx hb dX2_begin_69 rfl (lv_at hl 2 rfl) ?_
  refine lv_iload hx hb dX2_begin_70 (lv_at hl 0 rfl) ?_
  obtain ⟨r7, h8, hm⟩ := ob hm
  refine k_rVi S hK hw.1 cal_X0_rideDaysOfSet gX2_begin_X0_rideDaysOfSet (c_X0_rideDaysOfSet l D cC cI cJ a_mo a_mo_kinds a_mo_days a_mo_rideDays a_mo_helpKinds a_mo_nexts a_mo_helperKinds a_mo_prices a_mo_helpersOfKind a_mo_numbers mo_tasks mo_helpers mo_askedFirst mo_crumbsFirst mo_lastDay mo_kinds mo_days mo_rideDays mo_helpKinds mo_nexts mo_helperKinds mo_prices mo_helpersOfKind mo_numbers r5 N r7 h8) ⟨⟨rfl, rfl⟩, Nat.le_of_ble_eq_true rfl, Nat.le_of_ble_eq_true rfl⟩ [3, 4, 5, 6, 7, 8, 9, 10, 11, 12] rfl 3 rfl rfl rfl hl.1 rfl (Nat.le_of_ble_eq_true rfl) dX2_begin_72 ⟨Nat.zero_le _, Nat.zero_le _⟩ ?_
  refine lv_iadd hx hb dX2_begin_75 ?_
  refine lv_aload_n hx hb dX2_begin_76 rfl (lv_at hl 2 rfl) ?_
  refine f_get S hK hw.1 in_X2_begin_X0 3 rfl rfl 4 (by decide) (List.mem_of_getElem? (i := 8) rfl) rfl rfl dX2_begin_77 ?_
  refine lv_icmp_gt (tgt := 99) hx hb dX2_begin_80 (by decide) (fun c9 => ?_) (fun c9 => ?_)
  · replace hm := ipos hm c9
    refine lv_iconst (v := 1) hx hb dX2_begin_99 (by decide) ?_
    refine lv_goto (tgt := 104) hx hb dX2_begin_100 (by decide) ?_
    refine f_put S hK hw in_X2_begin_X2 tyX2_ok nmX2 0 rfl rfl 5 (by decide) (List.mem_of_getElem? (i := 9) rfl) rfl rfl (isB.nar (Or.inr rfl)) (isB.fit (Or.inr rfl)) (Nat.le_of_ble_eq_true rfl) (ws1 := (wd_6 cC cI cJ a_sr a_sr_known a_ro g_sr_unseen (sr_number + (1 : Int64)) p4 (1 : Int32) a_mo a_se a_sr_known sr_known a_ro r3.1 r3.2.1 (r3.2.2.1 ||| p2) r3.2.2.2.1 r3.2.2.2.2.1 r3.2.2.2.2.2 a_mo mo_tasks mo_helpers mo_askedFirst mo_crumbsFirst mo_lastDay a_mo_kinds a_mo_days a_mo_rideDays a_mo_helpKinds a_mo_nexts a_mo_helperKinds a_mo_prices a_mo_helpersOfKind a_mo_numbers a_mo_kinds mo_kinds a_mo_days mo_days a_mo_rideDays mo_rideDays a_mo_helpKinds mo_helpKinds a_mo_nexts mo_nexts a_mo_helperKinds mo_helperKinds a_mo_prices mo_prices a_mo_helpersOfKind mo_helpersOfKind a_mo_numbers mo_numbers a_fr fr_asked fr_brought fr_friends fr_used fr_crumbs fr_day)) rfl dX2_begin_104 (fun H locs hw => ?_)
    obtain rfl := Option.some.inj hm
    exact e_WV S hr hlk hw hw.1 dX2_begin_107
  · replace hm := ineg hm c9
    refine lv_aload_n hx hb dX2_begin_83 rfl (lv_at hl 2 rfl) ?_
    refine lv_iload hx hb dX2_begin_84 (lv_at hl 0 rfl) ?_
    refine lv_aload_n hx hb dX2_begin_86 rfl (lv_at hl 1 rfl) ?_
    refine f_get S hK hw.1 in_X2_begin_X2 0 rfl rfl 1 (by decide) (List.mem_of_getElem? (i := 5) rfl) rfl rfl dX2_begin_87 ?_
    obtain ⟨r10, h11, hm⟩ := ob hm
    refine k_rVi S hK hw.1 cal_X4_freeFriends gX2_begin_X4_freeFriends (c_X4_freeFriends l D cC cI cJ a_ro r3.1 r3.2.1 (r3.2.2.1 ||| p2) r3.2.2.2.1 r3.2.2.2.2.1 r3.2.2.2.2.2 r10 h11) ⟨⟨rfl, rfl⟩, Nat.le_of_ble_eq_true rfl, Nat.le_of_ble_eq_true rfl⟩ [2] rfl 2 rfl rfl rfl hl.1 rfl (Nat.le_of_ble_eq_true rfl) dX2_begin_90 ⟨Nat.zero_le _, Nat.zero_le _⟩ ?_
    obtain ⟨r12, h13, hm⟩ := ob hm
    refine k_rVi S hK hw.1 cal_X0_isHelpEnough gX2_begin_X0_isHelpEnough (c_X0_isHelpEnough l D cC cI cJ a_mo a_mo_kinds a_mo_days a_mo_rideDays a_mo_helpKinds a_mo_nexts a_mo_helperKinds a_mo_prices a_mo_helpersOfKind a_mo_numbers mo_tasks mo_helpers mo_askedFirst mo_crumbsFirst mo_lastDay mo_kinds mo_days mo_rideDays mo_helpKinds mo_nexts mo_helperKinds mo_prices mo_helpersOfKind mo_numbers r5 r10 N r12 h13) ⟨⟨rfl, rfl⟩, Nat.le_of_ble_eq_true rfl, Nat.le_of_ble_eq_true rfl⟩ [3, 4, 5, 6, 7, 8, 9, 10, 11, 12] rfl 3 rfl rfl rfl hl.1 rfl (Nat.le_of_ble_eq_true rfl) dX2_begin_93 ⟨Nat.zero_le _, Nat.zero_le _⟩ ?_
    refine lv_if_ne (tgt := 103) hx hb dX2_begin_96 (by decide) (fun c14 => ?_) (fun c14 => ?_)
    · replace hm := ineg hm c14
      refine lv_iconst (v := 0) hx hb dX2_begin_103 (by decide) ?_
      refine f_put S hK hw in_X2_begin_X2 tyX2_ok nmX2 0 rfl rfl 5 (by decide) (List.mem_of_getElem? (i := 9) rfl) rfl rfl (isB.nar (Or.inl rfl)) (isB.fit (Or.inl rfl)) (Nat.le_of_ble_eq_true rfl) (ws1 := (wd_6 cC cI cJ a_sr a_sr_known a_ro g_sr_unseen (sr_number + (1 : Int64)) p4 (0 : Int32) a_mo a_se a_sr_known sr_known a_ro r3.1 r3.2.1 (r3.2.2.1 ||| p2) r3.2.2.2.1 r3.2.2.2.2.1 r3.2.2.2.2.2 a_mo mo_tasks mo_helpers mo_askedFirst mo_crumbsFirst mo_lastDay a_mo_kinds a_mo_days a_mo_rideDays a_mo_helpKinds a_mo_nexts a_mo_helperKinds a_mo_prices a_mo_helpersOfKind a_mo_numbers a_mo_kinds mo_kinds a_mo_days mo_days a_mo_rideDays mo_rideDays a_mo_helpKinds mo_helpKinds a_mo_nexts mo_nexts a_mo_helperKinds mo_helperKinds a_mo_prices mo_prices a_mo_helpersOfKind mo_helpersOfKind a_mo_numbers mo_numbers a_fr fr_asked fr_brought fr_friends fr_used fr_crumbs fr_day)) rfl dX2_begin_104 (fun H locs hw => ?_)
      obtain rfl := Option.some.inj hm
      exact e_WV S hr hlk hw hw.1 dX2_begin_107
    · replace hm := ipos hm c14
      refine lv_iconst (v := 1) hx hb dX2_begin_99 (by decide) ?_
      refine lv_goto (tgt := 104) hx hb dX2_begin_100 (by decide) ?_
      refine f_put S hK hw in_X2_begin_X2 tyX2_ok nmX2 0 rfl rfl 5 (by decide) (List.mem_of_getElem? (i := 9) rfl) rfl rfl (isB.nar (Or.inr rfl)) (isB.fit (Or.inr rfl)) (Nat.le_of_ble_eq_true rfl) (ws1 := (wd_6 cC cI cJ a_sr a_sr_known a_ro g_sr_unseen (sr_number + (1 : Int64)) p4 (1 : Int32) a_mo a_se a_sr_known sr_known a_ro r3.1 r3.2.1 (r3.2.2.1 ||| p2) r3.2.2.2.1 r3.2.2.2.2.1 r3.2.2.2.2.2 a_mo mo_tasks mo_helpers mo_askedFirst mo_crumbsFirst mo_lastDay a_mo_kinds a_mo_days a_mo_rideDays a_mo_helpKinds a_mo_nexts a_mo_helperKinds a_mo_prices a_mo_helpersOfKind a_mo_numbers a_mo_kinds mo_kinds a_mo_days mo_days a_mo_rideDays mo_rideDays a_mo_helpKinds mo_helpKinds a_mo_nexts mo_nexts a_mo_helperKinds mo_helperKinds a_mo_prices mo_prices a_mo_helpersOfKind mo_helpersOfKind a_mo_numbers mo_numbers a_fr fr_asked fr_brought fr_friends fr_used fr_crumbs fr_day)) rfl dX2_begin_104 (fun H locs hw => ?_)
      obtain rfl := Option.some.inj hm
      exact e_WV S hr hlk hw hw.1 dX2_begin_107

abbrev rX2_cellOf : Room := { frames := 0, cells := 0, slots := 0, locals := 0 }
theorem cal_X2_cellOf : Cal yX2_cellOf wsX2_cellOf cX2_cellOf 1 (some .int) RX2 1 := ⟨⟨_, rfl⟩, rfl, by decide +kernel, by decide +kernel, by decide +kernel⟩
set_option maxHeartbeats 4000000 in
set_option maxRecDepth 100000 in
theorem c_X2_cellOf (l : Launch) (D : va_G) (cC cI cJ : ClassId)  (p0 : Int32) (out : Int32) (hm : m_X2_cellOf p0 = some out) : RdI l yX2_cellOf wsX2_cellOf rX2_cellOf D (tyK cC cI cJ) [.int p0] [] out := by
  unfold m_X2_cellOf at hm
  refine enter (cc := cX2_cellOf) (maxL := 1) (ret := (some .int)) (lv := [(0, .int p0)]) (by decide) rfl (Nat.le_of_ble_eq_true rfl) rfl ?_
  intro p e s m args below meth c S hr hlk hK hP ls hl
  replace S : CallFix p m c cX2_cellOf 1 s args wsX2_cellOf RX2 := S
  have hx := S.1
  have hb := S.2.1
  refine lv_iload_n hx hb dX2_cellOf_0 rfl (lv_at hl 0 rfl) ?_
  refine lv_ldc hx hb S.2.2.2.1 (S.2.2.2.2 (.constant RX2 146 (40503)) (List.mem_of_getElem? (i := 1) rfl)) dX2_cellOf_1 ?_
  refine lv_imul hx hb dX2_cellOf_3 ?_
  refine lv_iconst (v := 4) hx hb dX2_cellOf_4 (by decide) ?_
  refine lv_ishr hx hb dX2_cellOf_5 ?_
  refine lv_sipush (v := 4095) hx hb dX2_cellOf_6 (by decide) ?_
  refine lv_iand hx hb dX2_cellOf_9 ?_
  exact e_RI S hr hlk (Option.some.inj hm) dX2_cellOf_10

abbrev rX2_recall : Room := { frames := 1, cells := 0, slots := 0, locals := 20 }
theorem cal_X2_recall : Cal yX2_recall wsX2_recall cX2_recall 3 (some .long) RX2 1 := ⟨⟨_, rfl⟩, rfl, by decide +kernel, by decide +kernel, by decide +kernel⟩
theorem in_X2_recall_X2 : ∀ w ∈ wsX20, w ∈ wsX2_recall := fun _ h => (List.mem_cons_of_mem _ (List.mem_append_right _ h))
set_option maxHeartbeats 4000000 in
set_option maxRecDepth 100000 in
theorem c_X2_recall (l : Launch) (D : va_G) (cC cI cJ : ClassId) (a_sr : Nat) (a_sr_known : Nat) (g_sr_road : Nat) (g_sr_unseen : Nat) (g_sr_months : Nat) (g_sr_heeded : Nat) (sr_number : Int64) (sr_enough : Int64) (sr_hopeless : Int32) (sr_known : (Nat → Int64)) (p0 : Int32) (out : Int64) (hm : m_X2_recall sr_number sr_known p0 = some out) : RdL l yX2_recall wsX2_recall rX2_recall D (tyK cC cI cJ) [.ref a_sr, .int p0] (wd_10 cC cI cJ a_sr a_sr_known g_sr_road g_sr_unseen sr_number sr_enough sr_hopeless g_sr_months g_sr_heeded a_sr_known sr_known) out := by
  unfold m_X2_recall at hm
  refine enter (cc := cX2_recall) (maxL := 3) (ret := (some .long)) (lv := [(0, .ref a_sr), (1, .int p0)]) (by decide) rfl (Nat.le_of_ble_eq_true rfl) rfl ?_
  intro p e s m args below meth c S hr hlk hK hP ls hl
  replace S : CallFix p m c cX2_recall 3 s args wsX2_recall RX2 := S
  have hx := S.1
  have hb := S.2.1
  refine lv_iload_n hx hb dX2_recall_0 rfl (lv_at hl 1 rfl) ?_
  obtain ⟨r1, h2, hm⟩ := ob hm
  refine k_rSi S hK hP cal_X2_cellOf gX2_recall_X2_cellOf (c_X2_cellOf l D cC cI cJ p0 r1 h2) ⟨⟨rfl, rfl⟩, Nat.le_of_ble_eq_true rfl, Nat.le_of_ble_eq_true rfl⟩ [] rfl rfl hl.1 rfl (Nat.le_of_ble_eq_true rfl) dX2_recall_1 ⟨Nat.zero_le _, Nat.zero_le _⟩ ?_
  refine lv_istore_n (lv' := [(2, .int r1), (0, .ref a_sr), (1, .int p0)]) hx hb dX2_recall_4 rfl hl (by decide) rfl (fun ls hl => ?_)
  refine lv_iload_n hx hb dX2_recall_5 rfl (lv_at hl 0 rfl) ?_
  refine lv_if_lt (tgt := 41) hx hb dX2_recall_6 (by decide) (fun c3 => ?_) (fun c3 => ?_)
  · replace hm := ipos hm c3
    refine lv_ldc2 hx hb S.2.2.2.1 (S.2.2.2.2 (.constantLong RX2 142 (-4)) (List.mem_of_getElem? (i := 3) rfl)) dX2_recall_41 ?_
    exact e_RL S hr hlk (Option.some.inj hm) dX2_recall_44
  · replace hm := ineg hm c3
    refine lv_iload_n hx hb dX2_recall_9 rfl (lv_at hl 0 rfl) ?_
    refine lv_aload_n hx hb dX2_recall_10 rfl (lv_at hl 1 rfl) ?_
    refine f_get S hK hP in_X2_recall_X2 0 rfl rfl 0 (by decide) (List.mem_of_getElem? (i := 1) rfl) rfl rfl dX2_recall_11 ?_
    refine f_alen S hK hP 1 2 rfl rfl (v := (4096 : Int32)) rfl dX2_recall_14 ?_
    refine lv_icmp_ge (tgt := 41) hx hb dX2_recall_15 (by decide) (fun c4 => ?_) (fun c4 => ?_)
    · replace hm := ipos hm c4
      refine lv_ldc2 hx hb S.2.2.2.1 (S.2.2.2.2 (.constantLong RX2 142 (-4)) (List.mem_of_getElem? (i := 3) rfl)) dX2_recall_41 ?_
      exact e_RL S hr hlk (Option.some.inj hm) dX2_recall_44
    · replace hm := ineg hm c4
      refine lv_aload_n hx hb dX2_recall_18 rfl (lv_at hl 1 rfl) ?_
      refine f_get S hK hP in_X2_recall_X2 0 rfl rfl 0 (by decide) (List.mem_of_getElem? (i := 1) rfl) rfl rfl dX2_recall_19 ?_
      refine lv_iload_n hx hb dX2_recall_22 rfl (lv_at hl 0 rfl) ?_
      obtain ⟨g5, hm⟩ := gdo hm
      refine f_lald S hK hP 1 2 rfl rfl g5 dX2_recall_23 ?_
      refine lv_bipush (v := 16) hx hb dX2_recall_24 (by decide) ?_
      refine lv_lshr (v := ((sr_known (r1).toNatClampNeg) >>> (((16 : Int32)).toInt64 &&& 63))) hx hb dX2_recall_26 rfl ?_
      refine lv_aload_n hx hb dX2_recall_27 rfl (lv_at hl 1 rfl) ?_
      refine f_get S hK hP in_X2_recall_X2 0 rfl rfl 3 (by decide) (List.mem_of_getElem? (i := 2) rfl) rfl rfl dX2_recall_28 ?_
      refine lv_bipush (v := 15) hx hb dX2_recall_31 (by decide) ?_
      refine lv_lshl (v := (sr_number <<< (((15 : Int32)).toInt64 &&& 63))) hx hb dX2_recall_33 rfl ?_
      refine lv_iload_n hx hb dX2_recall_34 rfl (lv_at hl 2 rfl) ?_
      refine lv_i2l (v := (p0).toInt64) hx hb dX2_recall_35 rfl ?_
      refine lv_lor hx hb dX2_recall_36 ?_
      refine W.lcmp hx hb dX2_recall_37 ?_
      refine lv_if_eq (tgt := 45) hx hb dX2_recall_38 (by decide) (fun c6 => ?_) (fun c6 => ?_)
      · replace hm := ipos hm c6
        refine lv_aload_n hx hb dX2_recall_45 rfl (lv_at hl 1 rfl) ?_
        refine f_get S hK hP in_X2_recall_X2 0 rfl rfl 0 (by decide) (List.mem_of_getElem? (i := 1) rfl) rfl rfl dX2_recall_46 ?_
        refine lv_iload_n hx hb dX2_recall_49 rfl (lv_at hl 0 rfl) ?_
        refine f_lald S hK hP 1 2 rfl rfl g5 dX2_recall_50 ?_
        refine lv_ldc2 hx hb S.2.2.2.1 (S.2.2.2.2 (.constantLong RX2 144 (65535)) (List.mem_of_getElem? (i := 4) rfl)) dX2_recall_51 ?_
        refine lv_land hx hb dX2_recall_54 ?_
        exact e_RL S hr hlk (Option.some.inj hm) dX2_recall_55
      · replace hm := ineg hm c6
        refine lv_ldc2 hx hb S.2.2.2.1 (S.2.2.2.2 (.constantLong RX2 142 (-4)) (List.mem_of_getElem? (i := 3) rfl)) dX2_recall_41 ?_
        exact e_RL S hr hlk (Option.some.inj hm) dX2_recall_44

abbrev rX4_isLost : Room := { frames := 0, cells := 0, slots := 0, locals := 0 }
theorem cal_X4_isLost : Cal yX4_isLost wsX4_isLost cX4_isLost 2 (some .boolean) RX4 1 := ⟨⟨_, rfl⟩, rfl, by decide +kernel, by decide +kernel, by decide +kernel⟩
theorem in_X4_isLost_X0 : ∀ w ∈ wsX00, w ∈ wsX4_isLost := fun _ h => (List.mem_cons_of_mem _ (List.mem_append_right _ h))
theorem in_X4_isLost_X4 : ∀ w ∈ wsX40, w ∈ wsX4_isLost := fun _ h => (List.mem_cons_of_mem _ (List.mem_append_left _ (List.mem_append_right _ h)))
set_option maxHeartbeats 4000000 in
set_option maxRecDepth 100000 in
theorem c_X4_isLost (l : Launch) (D : va_G) (cC cI cJ : ClassId) (a_st : Nat) (a_mo : Nat) (a_mo_kinds : Nat) (a_mo_days : Nat) (a_mo_rideDays : Nat) (a_mo_helpKinds : Nat) (a_mo_nexts : Nat) (a_mo_helperKinds : Nat) (a_mo_prices : Nat) (a_mo_helpersOfKind : Nat) (a_mo_numbers : Nat) (st_asked : Int32) (st_brought : Int32) (st_friends : Int32) (st_used : Int32) (st_crumbs : Int32) (st_day : Int32) (mo_tasks : Int32) (mo_helpers : Int32) (mo_askedFirst : Int32) (mo_crumbsFirst : Int32) (mo_lastDay : Int32) (mo_kinds : (Nat → Int32)) (mo_days : (Nat → Int32)) (mo_rideDays : (Nat → Int32)) (mo_helpKinds : (Nat → Int32)) (mo_nexts : (Nat → Int32)) (mo_helperKinds : (Nat → Int32)) (mo_prices : (Nat → Int32)) (mo_helpersOfKind : (Nat → Int32)) (mo_numbers : (Nat → Int32)) (out : Int32) (hm : m_X4_isLost st_day mo_lastDay = some out) : RdI l yX4_isLost wsX4_isLost rX4_isLost D (tyK cC cI cJ) [.ref a_st, .ref a_mo] (wd_8 cC cI cJ a_st st_asked st_brought st_friends st_used st_crumbs st_day a_mo mo_tasks mo_helpers mo_askedFirst mo_crumbsFirst mo_lastDay a_mo_kinds a_mo_days a_mo_rideDays a_mo_helpKinds a_mo_nexts a_mo_helperKinds a_mo_prices a_mo_helpersOfKind a_mo_numbers a_mo_kinds mo_kinds a_mo_days mo_days a_mo_rideDays mo_rideDays a_mo_helpKinds mo_helpKinds a_mo_nexts mo_nexts a_mo_helperKinds mo_helperKinds a_mo_prices mo_prices a_mo_helpersOfKind mo_helpersOfKind a_mo_numbers mo_numbers) out := by
  unfold m_X4_isLost at hm
  refine enter (cc := cX4_isLost) (maxL := 2) (ret := (some .boolean)) (lv := [(0, .ref a_st), (1, .ref a_mo)]) (by decide) rfl (Nat.le_of_ble_eq_true rfl) rfl ?_
  intro p e s m args below meth c S hr hlk hK hP ls hl
  replace S : CallFix p m c cX4_isLost 2 s args wsX4_isLost RX4 := S
  have hx := S.1
  have hb := S.2.1
  refine lv_aload_n hx hb dX4_isLost_0 rfl (lv_at hl 0 rfl) ?_
  refine f_get S hK hP in_X4_isLost_X4 0 rfl rfl 5 (by decide) (List.mem_of_getElem? (i := 1) rfl) rfl rfl dX4_isLost_1 ?_
  refine lv_aload_n hx hb dX4_isLost_4 rfl (lv_at hl 1 rfl) ?_
  refine f_get S hK hP in_X4_isLost_X0 1 rfl rfl 4 (by decide) (List.mem_of_getElem? (i := 2) rfl) rfl rfl dX4_isLost_5 ?_
  refine lv_icmp_le (tgt := 15) hx hb dX4_isLost_8 (by decide) (fun c1 => ?_) (fun c1 => ?_)
  · replace hm := ipos hm c1
    refine lv_iconst (v := 0) hx hb dX4_isLost_15 (by decide) ?_
    exact e_RZ S hr hlk (Or.inl rfl) (Option.some.inj hm) dX4_isLost_16
  · replace hm := ineg hm c1
    refine lv_iconst (v := 1) hx hb dX4_isLost_11 (by decide) ?_
    refine lv_goto (tgt := 16) hx hb dX4_isLost_12 (by decide) ?_
    exact e_RZ S hr hlk (Or.inr rfl) (Option.some.inj hm) dX4_isLost_16

abbrev rX4_lowestOf : Room := { frames := 0, cells := 0, slots := 0, locals := 0 }
theorem cal_X4_lowestOf : Cal yX4_lowestOf wsX4_lowestOf cX4_lowestOf 1 (some .int) RX4 1 := ⟨⟨_, rfl⟩, rfl, by decide +kernel, by decide +kernel, by decide +kernel⟩
set_option maxHeartbeats 4000000 in
set_option maxRecDepth 100000 in
theorem c_X4_lowestOf (l : Launch) (D : va_G) (cC cI cJ : ClassId)  (p0 : Int32) (out : Int32) (hm : m_X4_lowestOf p0 = some out) : RdI l yX4_lowestOf wsX4_lowestOf rX4_lowestOf D (tyK cC cI cJ) [.int p0] [] out := by
  unfold m_X4_lowestOf at hm
  refine enter (cc := cX4_lowestOf) (maxL := 1) (ret := (some .int)) (lv := [(0, .int p0)]) (by decide) rfl (Nat.le_of_ble_eq_true rfl) rfl ?_
  intro p e s m args below meth c S hr hlk hK hP ls hl
  replace S : CallFix p m c cX4_lowestOf 1 s args wsX4_lowestOf RX4 := S
  have hx := S.1
  have hb := S.2.1
  refine lv_iload_n hx hb dX4_lowestOf_0 rfl (lv_at hl 0 rfl) ?_
  refine lv_if_ne (tgt := 9) hx hb dX4_lowestOf_1 (by decide) (fun c1 => ?_) (fun c1 => ?_)
  · replace hm := ineg hm c1
    refine lv_iload_n hx hb dX4_lowestOf_9 rfl (lv_at hl 0 rfl) ?_
    refine lv_iload_n hx hb dX4_lowestOf_10 rfl (lv_at hl 0 rfl) ?_
    refine lv_ineg hx hb dX4_lowestOf_11 ?_
    refine lv_iand hx hb dX4_lowestOf_12 ?_
    exact e_RI S hr hlk (Option.some.inj hm) dX4_lowestOf_13
  · replace hm := ipos hm c1
    refine lv_bipush (v := (-2)) hx hb dX4_lowestOf_4 (by decide) ?_
    refine lv_goto (tgt := 13) hx hb dX4_lowestOf_6 (by decide) ?_
    exact e_RI S hr hlk (Option.some.inj hm) dX4_lowestOf_13

abbrev rX4_withOneMore : Room := { frames := 0, cells := 0, slots := 0, locals := 0 }
theorem cal_X4_withOneMore : Cal yX4_withOneMore wsX4_withOneMore cX4_withOneMore 3 (some .int) RX4 2 := ⟨⟨_, rfl⟩, rfl, by decide +kernel, by decide +kernel, by decide +kernel⟩
set_option maxHeartbeats 4000000 in
set_option maxRecDepth 100000 in
theorem c_X4_withOneMore (l : Launch) (D : va_G) (cC cI cJ : ClassId)  (p0 : Int32) (p1 : Int32) (out : Int32) (hm : m_X4_withOneMore p0 p1 = some out) : RdI l yX4_withOneMore wsX4_withOneMore rX4_withOneMore D (tyK cC cI cJ) [.int p0, .int p1] [] out := by
  unfold m_X4_withOneMore at hm
  refine enter (cc := cX4_withOneMore) (maxL := 3) (ret := (some .int)) (lv := [(0, .int p0), (1, .int p1)]) (by decide) rfl (Nat.le_of_ble_eq_true rfl) rfl ?_
  intro p e s m args below meth c S hr hlk hK hP ls hl
  replace S : CallFix p m c cX4_withOneMore 3 s args wsX4_withOneMore RX4 := S
  have hx := S.1
  have hb := S.2.1
  refine lv_iload_n hx hb dX4_withOneMore_0 rfl (lv_at hl 0 rfl) ?_
  refine lv_if_ge (tgt := 8) hx hb dX4_withOneMore_1 (by decide) (fun c1 => ?_) (fun c1 => ?_)
  · replace hm := ipos hm c1
    refine lv_iload_n hx hb dX4_withOneMore_8 rfl (lv_at hl 1 rfl) ?_
    refine lv_iload_n hx hb dX4_withOneMore_9 rfl (lv_at hl 0 rfl) ?_
    refine lv_iconst (v := (-1)) hx hb dX4_withOneMore_10 (by decide) ?_
    refine lv_ixor hx hb dX4_withOneMore_11 ?_
    refine lv_iand hx hb dX4_withOneMore_12 ?_
    refine lv_istore_n (lv' := [(2, .int (p1 &&& (p0 ^^^ (-1 : Int32)))), (0, .int p0), (1, .int p1)]) hx hb dX4_withOneMore_13 rfl hl (by decide) rfl (fun ls hl => ?_)
    refine lv_iload_n hx hb dX4_withOneMore_14 rfl (lv_at hl 0 rfl) ?_
    refine lv_if_ne (tgt := 23) hx hb dX4_withOneMore_15 (by decide) (fun c2 => ?_) (fun c2 => ?_)
    · replace hm := ineg hm c2
      refine lv_iload_n hx hb dX4_withOneMore_23 rfl (lv_at hl 1 rfl) ?_
      refine lv_iload_n hx hb dX4_withOneMore_24 rfl (lv_at hl 0 rfl) ?_
      refine lv_iload_n hx hb dX4_withOneMore_25 rfl (lv_at hl 0 rfl) ?_
      refine lv_ineg hx hb dX4_withOneMore_26 ?_
      refine lv_iand hx hb dX4_withOneMore_27 ?_
      refine lv_ior hx hb dX4_withOneMore_28 ?_
      exact e_RI S hr hlk (Option.some.inj hm) dX4_withOneMore_29
    · replace hm := ipos hm c2
      refine lv_bipush (v := (-2)) hx hb dX4_withOneMore_18 (by decide) ?_
      refine lv_goto (tgt := 29) hx hb dX4_withOneMore_20 (by decide) ?_
      exact e_RI S hr hlk (Option.some.inj hm) dX4_withOneMore_29
  · replace hm := ineg hm c1
    refine lv_iconst (v := 0) hx hb dX4_withOneMore_4 (by decide) ?_
    refine lv_goto (tgt := 13) hx hb dX4_withOneMore_5 (by decide) ?_
    refine lv_istore_n (lv' := [(2, .int (0 : Int32)), (0, .int p0), (1, .int p1)]) hx hb dX4_withOneMore_13 rfl hl (by decide) rfl (fun ls hl => ?_)
    refine lv_iload_n hx hb dX4_withOneMore_14 rfl (lv_at hl 0 rfl) ?_
    refine lv_if_ne (tgt := 23) hx hb dX4_withOneMore_15 (by decide) (fun c3 => ?_) (fun c3 => ?_)
    · exact absurd (by decide) c3
    · skip
      refine lv_bipush (v := (-2)) hx hb dX4_withOneMore_18 (by decide) ?_
      refine lv_goto (tgt := 29) hx hb dX4_withOneMore_20 (by decide) ?_
      exact e_RI S hr hlk (Option.some.inj hm) dX4_withOneMore_29

abbrev rX4_helpersFor : Room := { frames := 1, cells := 0, slots := 0, locals := 22 }
theorem cal_X4_helpersFor : Cal yX4_helpersFor wsX4_helpersFor cX4_helpersFor 7 (some .int) RX4 2 := ⟨⟨_, rfl⟩, rfl, by decide +kernel, by decide +kernel, by decide +kernel⟩
theorem in_X4_helpersFor_X4 : ∀ w ∈ wsX40, w ∈ wsX4_helpersFor := fun _ h => (List.mem_cons_of_mem _ (List.mem_append_left _ (List.mem_append_right _ h)))
set_option maxHeartbeats 4000000 in
set_option maxRecDepth 100000 in
theorem c_X4_helpersFor (l : Launch) (D : va_G) (cC cI cJ : ClassId) (a_st : Nat) (a_mo : Nat) (a_mo_kinds : Nat) (a_mo_days : Nat) (a_mo_rideDays : Nat) (a_mo_helpKinds : Nat) (a_mo_nexts : Nat) (a_mo_helperKinds : Nat) (a_mo_prices : Nat) (a_mo_helpersOfKind : Nat) (a_mo_numbers : Nat) (st_asked : Int32) (st_brought : Int32) (st_friends : Int32) (st_used : Int32) (st_crumbs : Int32) (st_day : Int32) (mo_tasks : Int32) (mo_helpers : Int32) (mo_askedFirst : Int32) (mo_crumbsFirst : Int32) (mo_lastDay : Int32) (mo_kinds : (Nat → Int32)) (mo_days : (Nat → Int32)) (mo_rideDays : (Nat → Int32)) (mo_helpKinds : (Nat → Int32)) (mo_nexts : (Nat → Int32)) (mo_helperKinds : (Nat → Int32)) (mo_prices : (Nat → Int32)) (mo_helpersOfKind : (Nat → Int32)) (mo_numbers : (Nat → Int32)) (p1 : Int32) (out : Int32) (hm : m_X4_helpersFor st_asked st_brought st_friends st_used st_day mo_lastDay mo_kinds mo_helpKinds mo_helpersOfKind p1 = some out) : RdI l yX4_helpersFor wsX4_helpersFor rX4_helpersFor D (tyK cC cI cJ) [.ref a_st, .ref a_mo, .int p1] (wd_8 cC cI cJ a_st st_asked st_brought st_friends st_used st_crumbs st_day a_mo mo_tasks mo_helpers mo_askedFirst mo_crumbsFirst mo_lastDay a_mo_kinds a_mo_days a_mo_rideDays a_mo_helpKinds a_mo_nexts a_mo_helperKinds a_mo_prices a_mo_helpersOfKind a_mo_numbers a_mo_kinds mo_kinds a_mo_days mo_days a_mo_rideDays mo_rideDays a_mo_helpKinds mo_helpKinds a_mo_nexts mo_nexts a_mo_helperKinds mo_helperKinds a_mo_prices mo_prices a_mo_helpersOfKind mo_helpersOfKind a_mo_numbers mo_numbers) out := by
  unfold m_X4_helpersFor at hm
  refine enter (cc := cX4_helpersFor) (maxL := 7) (ret := (some .int)) (lv := [(0, .ref a_st), (1, .ref a_mo), (2, .int p1)]) (by decide) rfl (Nat.le_of_ble_eq_true rfl) rfl ?_
  intro p e s m args below meth c S hr hlk hK hP ls hl
  replace S : CallFix p m c cX4_helpersFor 7 s args wsX4_helpersFor RX4 := S
  have hx := S.1
  have hb := S.2.1
  refine lv_aload_n hx hb dX4_helpersFor_0 rfl (lv_at hl 0 rfl) ?_
  refine lv_aload_n hx hb dX4_helpersFor_1 rfl (lv_at hl 1 rfl) ?_
  obtain ⟨r1, h2, hm⟩ := ob hm
  refine k_rVi S hK hP cal_X4_isLost gX4_helpersFor_X4_isLost (c_X4_isLost l D cC cI cJ a_st a_mo a_mo_kinds a_mo_days a_mo_rideDays a_mo_helpKinds a_mo_nexts a_mo_helperKinds a_mo_prices a_mo_helpersOfKind a_mo_numbers st_asked st_brought st_friends st_used st_crumbs st_day mo_tasks mo_helpers mo_askedFirst mo_crumbsFirst mo_lastDay mo_kinds mo_days mo_rideDays mo_helpKinds mo_nexts mo_helperKinds mo_prices mo_helpersOfKind mo_numbers r1 h2) ⟨⟨rfl, rfl⟩, Nat.le_of_ble_eq_true rfl, Nat.le_of_ble_eq_true rfl⟩ [0, 1, 2, 3, 4, 5, 6, 7, 8, 9, 10] rfl 0 rfl rfl rfl hl.1 rfl (Nat.le_of_ble_eq_true rfl) dX4_helpersFor_2 ⟨Nat.zero_le _, Nat.zero_le _⟩ ?_
  refine lv_if_ne (tgt := 20) hx hb dX4_helpersFor_5 (by decide) (fun c3 => ?_) (fun c3 => ?_)
  · replace hm := ineg hm c3
    refine lv_bipush (v := (-2)) hx hb dX4_helpersFor_20 (by decide) ?_
    exact e_RI S hr hlk (Option.some.inj hm) dX4_helpersFor_22
  · replace hm := ipos hm c3
    refine lv_aload_n hx hb dX4_helpersFor_8 rfl (lv_at hl 0 rfl) ?_
    obtain ⟨r4, h5, hm⟩ := ob hm
    refine k_rVi S hK hP cal_X4_openTasks gX4_helpersFor_X4_openTasks (c_X4_openTasks l D cC cI cJ a_st st_asked st_brought st_friends st_used st_crumbs st_day r4 h5) ⟨⟨rfl, rfl⟩, Nat.le_of_ble_eq_true rfl, Nat.le_of_ble_eq_true rfl⟩ [0] rfl 0 rfl rfl rfl hl.1 rfl (Nat.le_of_ble_eq_true rfl) dX4_helpersFor_9 ⟨Nat.zero_le _, Nat.zero_le _⟩ ?_
    refine lv_iload_n hx hb dX4_helpersFor_12 rfl (lv_at hl 2 rfl) ?_
    obtain ⟨r6, h7, hm⟩ := ob hm
    refine k_rNi S hK hP cal_X5_bit gX4_helpersFor_X5_bit_n49 (List.mem_of_getElem? (i := 4) rfl) (List.mem_of_getElem? (i := 15) rfl) (List.mem_of_getElem? (i := 14) rfl) (c_X5_bit l D cC cI cJ p1 r6 h7) ⟨⟨rfl, rfl⟩, Nat.le_of_ble_eq_true rfl, Nat.le_of_ble_eq_true rfl⟩ [] rfl rfl hl.1 rfl (Nat.le_of_ble_eq_true rfl) dX4_helpersFor_13 ⟨Nat.zero_le _, Nat.zero_le _⟩ ?_
    refine lv_iand hx hb dX4_helpersFor_16 ?_
    refine lv_if_ne (tgt := 23) hx hb dX4_helpersFor_17 (by decide) (fun c8 => ?_) (fun c8 => ?_)
    · replace hm := ineg hm c8
      refine lv_aload_n hx hb dX4_helpersFor_23 rfl (lv_at hl 1 rfl) ?_
      refine lv_iload_n hx hb dX4_helpersFor_24 rfl (lv_at hl 2 rfl) ?_
      obtain ⟨r9, h10, hm⟩ := ob hm
      refine k_rVi S hK hP cal_X0_helpKindOf gX4_helpersFor_X0_helpKindOf (c_X0_helpKindOf l D cC cI cJ a_mo a_mo_kinds a_mo_days a_mo_rideDays a_mo_helpKinds a_mo_nexts a_mo_helperKinds a_mo_prices a_mo_helpersOfKind a_mo_numbers mo_tasks mo_helpers mo_askedFirst mo_crumbsFirst mo_lastDay mo_kinds mo_days mo_rideDays mo_helpKinds mo_nexts mo_helperKinds mo_prices mo_helpersOfKind mo_numbers p1 r9 h10) ⟨⟨rfl, rfl⟩, Nat.le_of_ble_eq_true rfl, Nat.le_of_ble_eq_true rfl⟩ [1, 2, 3, 4, 5, 6, 7, 8, 9, 10] rfl 1 rfl rfl rfl hl.1 rfl (Nat.le_of_ble_eq_true rfl) dX4_helpersFor_25 ⟨Nat.zero_le _, Nat.zero_le _⟩ ?_
      refine lv_istore_n (lv' := [(3, .int r9), (0, .ref a_st), (1, .ref a_mo), (2, .int p1)]) hx hb dX4_helpersFor_28 rfl hl (by decide) rfl (fun ls hl => ?_)
      refine lv_aload_n hx hb dX4_helpersFor_29 rfl (lv_at hl 1 rfl) ?_
      obtain ⟨r11, h12, hm⟩ := ob hm
      refine k_rVi S hK hP cal_X4_freeFriends gX4_helpersFor_X4_freeFriends (c_X4_freeFriends l D cC cI cJ a_st st_asked st_brought st_friends st_used st_crumbs st_day r11 h12) ⟨⟨rfl, rfl⟩, Nat.le_of_ble_eq_true rfl, Nat.le_of_ble_eq_true rfl⟩ [0] rfl 0 rfl rfl rfl hl.1 rfl (Nat.le_of_ble_eq_true rfl) dX4_helpersFor_30 ⟨Nat.zero_le _, Nat.zero_le _⟩ ?_
      refine lv_istore (lv' := [(4, .int r11), (3, .int r9), (0, .ref a_st), (1, .ref a_mo), (2, .int p1)]) hx hb dX4_helpersFor_33 hl (by decide) rfl (fun ls hl => ?_)
      refine lv_iload hx hb dX4_helpersFor_35 (lv_at hl 0 rfl) ?_
      refine lv_aload_n hx hb dX4_helpersFor_37 rfl (lv_at hl 3 rfl) ?_
      refine lv_iload_n hx hb dX4_helpersFor_38 rfl (lv_at hl 1 rfl) ?_
      obtain ⟨r13, h14, hm⟩ := ob hm
      refine k_rVi S hK hP cal_X0_helpersOf gX4_helpersFor_X0_helpersOf (c_X0_helpersOf l D cC cI cJ a_mo a_mo_kinds a_mo_days a_mo_rideDays a_mo_helpKinds a_mo_nexts a_mo_helperKinds a_mo_prices a_mo_helpersOfKind a_mo_numbers mo_tasks mo_helpers mo_askedFirst mo_crumbsFirst mo_lastDay mo_kinds mo_days mo_rideDays mo_helpKinds mo_nexts mo_helperKinds mo_prices mo_helpersOfKind mo_numbers r9 r13 h14) ⟨⟨rfl, rfl⟩, Nat.le_of_ble_eq_true rfl, Nat.le_of_ble_eq_true rfl⟩ [1, 2, 3, 4, 5, 6, 7, 8, 9, 10] rfl 1 rfl rfl rfl hl.1 rfl (Nat.le_of_ble_eq_true rfl) dX4_helpersFor_39 ⟨Nat.zero_le _, Nat.zero_le _⟩ ?_
      refine lv_iand hx hb dX4_helpersFor_42 ?_
      refine lv_istore (lv' := [(5, .int (r11 &&& r13)), (4, .int r11), (3, .int r9), (0, .ref a_st), (1, .ref a_mo), (2, .int p1)]) hx hb dX4_helpersFor_43 hl (by decide) rfl (fun ls hl => ?_)
      refine lv_iload_n hx hb dX4_helpersFor_45 rfl (lv_at hl 2 rfl) ?_
      refine lv_iconst (v := 5) hx hb dX4_helpersFor_46 (by decide) ?_
      refine lv_icmp_ne (tgt := 54) hx hb dX4_helpersFor_47 (by decide) (fun c15 => ?_) (fun c15 => ?_)
      · replace hm := ineg hm c15
        refine lv_iload hx hb dX4_helpersFor_54 (lv_at hl 0 rfl) ?_
        obtain ⟨r16, h17, hm⟩ := ob hm
        refine k_rSi S hK hP cal_X4_lowestOf gX4_helpersFor_X4_lowestOf (c_X4_lowestOf l D cC cI cJ (r11 &&& r13) r16 h17) ⟨⟨rfl, rfl⟩, Nat.le_of_ble_eq_true rfl, Nat.le_of_ble_eq_true rfl⟩ [] rfl rfl hl.1 rfl (Nat.le_of_ble_eq_true rfl) dX4_helpersFor_56 ⟨Nat.zero_le _, Nat.zero_le _⟩ ?_
        refine lv_istore (lv' := [(6, .int r16), (5, .int (r11 &&& r13)), (4, .int r11), (3, .int r9), (0, .ref a_st), (1, .ref a_mo), (2, .int p1)]) hx hb dX4_helpersFor_59 hl (by decide) rfl (fun ls hl => ?_)
        refine lv_aload_n hx hb dX4_helpersFor_61 rfl (lv_at hl 5 rfl) ?_
        refine lv_iload_n hx hb dX4_helpersFor_62 rfl (lv_at hl 6 rfl) ?_
        obtain ⟨r18, h19, hm⟩ := ob hm
        refine k_rVi S hK hP cal_X0_kindOf gX4_helpersFor_X0_kindOf (c_X0_kindOf l D cC cI cJ a_mo a_mo_kinds a_mo_days a_mo_rideDays a_mo_helpKinds a_mo_nexts a_mo_helperKinds a_mo_prices a_mo_helpersOfKind a_mo_numbers mo_tasks mo_helpers mo_askedFirst mo_crumbsFirst mo_lastDay mo_kinds mo_days mo_rideDays mo_helpKinds mo_nexts mo_helperKinds mo_prices mo_helpersOfKind mo_numbers p1 r18 h19) ⟨⟨rfl, rfl⟩, Nat.le_of_ble_eq_true rfl, Nat.le_of_ble_eq_true rfl⟩ [1, 2, 3, 4, 5, 6, 7, 8, 9, 10] rfl 1 rfl rfl rfl hl.1 rfl (Nat.le_of_ble_eq_true rfl) dX4_helpersFor_63 ⟨Nat.zero_le _, Nat.zero_le _⟩ ?_
        by_cases c20 : r18 = (0 : Int32)
        · replace hm := ipos hm c20
          refine f_tabIn S c20 dX4_helpersFor_66 (off := 34) (by decide) (by decide) (by decide) (tgt := 100) (by decide) ?_
          refine lv_iload hx hb dX4_helpersFor_100 (lv_at hl 0 rfl) ?_
          exact e_RI S hr hlk (Option.some.inj hm) dX4_helpersFor_102
        replace hm := ineg hm c20
        by_cases c21 : r18 = (1 : Int32)
        · replace hm := ipos hm c21
          refine f_tabIn S c21 dX4_helpersFor_66 (off := 37) (by decide) (by decide) (by decide) (tgt := 103) (by decide) ?_
          refine lv_iload_n hx hb dX4_helpersFor_103 rfl (lv_at hl 3 rfl) ?_
          refine lv_iconst (v := 5) hx hb dX4_helpersFor_104 (by decide) ?_
          refine lv_icmp_ne (tgt := 112) hx hb dX4_helpersFor_105 (by decide) (fun c22 => ?_) (fun c22 => ?_)
          · skip
            refine lv_iload hx hb dX4_helpersFor_112 (lv_at hl 0 rfl) ?_
            refine lv_iload hx hb dX4_helpersFor_114 (lv_at hl 1 rfl) ?_
            obtain ⟨r23, h24, hm⟩ := ob hm
            refine k_rSi S hK hP cal_X4_withOneMore gX4_helpersFor_X4_withOneMore (c_X4_withOneMore l D cC cI cJ r16 (r11 &&& r13) r23 h24) ⟨⟨rfl, rfl⟩, Nat.le_of_ble_eq_true rfl, Nat.le_of_ble_eq_true rfl⟩ [] rfl rfl hl.1 rfl (Nat.le_of_ble_eq_true rfl) dX4_helpersFor_116 ⟨Nat.zero_le _, Nat.zero_le _⟩ ?_
            exact e_RI S hr hlk (Option.some.inj hm) dX4_helpersFor_119
          · exact absurd c22 c15
        replace hm := ineg hm c21
        by_cases c25 : r18 = (2 : Int32)
        · replace hm := ipos hm c25
          refine f_tabIn S c25 dX4_helpersFor_66 (off := 54) (by decide) (by decide) (by decide) (tgt := 120) (by decide) ?_
          refine lv_iconst (v := 0) hx hb dX4_helpersFor_120 (by decide) ?_
          exact e_RI S hr hlk (Option.some.inj hm) dX4_helpersFor_121
        replace hm := ineg hm c25
        by_cases c26 : r18 = (3 : Int32)
        · replace hm := ipos hm c26
          refine f_tabIn S c26 dX4_helpersFor_66 (off := 56) (by decide) (by decide) (by decide) (tgt := 122) (by decide) ?_
          refine lv_iload hx hb dX4_helpersFor_122 (lv_at hl 0 rfl) ?_
          refine lv_iload hx hb dX4_helpersFor_124 (lv_at hl 2 rfl) ?_
          obtain ⟨r27, h28, hm⟩ := ob hm
          refine k_rSi S hK hP cal_X4_withOneMore gX4_helpersFor_X4_withOneMore (c_X4_withOneMore l D cC cI cJ r16 r11 r27 h28) ⟨⟨rfl, rfl⟩, Nat.le_of_ble_eq_true rfl, Nat.le_of_ble_eq_true rfl⟩ [] rfl rfl hl.1 rfl (Nat.le_of_ble_eq_true rfl) dX4_helpersFor_126 ⟨Nat.zero_le _, Nat.zero_le _⟩ ?_
          exact e_RI S hr hlk (Option.some.inj hm) dX4_helpersFor_129
        replace hm := ineg hm c26
        by_cases c29 : r18 = (4 : Int32)
        · replace hm := ipos hm c29
          refine f_tabIn S c29 dX4_helpersFor_66 (off := 64) (by decide) (by decide) (by decide) (tgt := 130) (by decide) ?_
          refine lv_aload_n hx hb dX4_helpersFor_130 rfl (lv_at hl 4 rfl) ?_
          refine f_get S hK hP in_X4_helpersFor_X4 0 rfl rfl 5 (by decide) (List.mem_of_getElem? (i := 1) rfl) rfl rfl dX4_helpersFor_131 ?_
          refine lv_bipush (v := 10) hx hb dX4_helpersFor_134 (by decide) ?_
          refine lv_icmp_le (tgt := 144) hx hb dX4_helpersFor_136 (by decide) (fun c30 => ?_) (fun c30 => ?_)
          · replace hm := ipos hm c30
            refine lv_iload hx hb dX4_helpersFor_144 (lv_at hl 0 rfl) ?_
            exact e_RI S hr hlk (Option.some.inj hm) dX4_helpersFor_146
          · replace hm := ineg hm c30
            refine lv_bipush (v := (-2)) hx hb dX4_helpersFor_139 (by decide) ?_
            refine lv_goto (tgt := 146) hx hb dX4_helpersFor_141 (by decide) ?_
            exact e_RI S hr hlk (Option.some.inj hm) dX4_helpersFor_146
        replace hm := ineg hm c29
        have nc20 := toInt_ne c20 (n := 0) (by decide)
        have nc21 := toInt_ne c21 (n := 1) (by decide)
        have nc25 := toInt_ne c25 (n := 2) (by decide)
        have nc26 := toInt_ne c26 (n := 3) (by decide)
        have nc29 := toInt_ne c29 (n := 4) (by decide)
        refine f_tabOut S dX4_helpersFor_66 (by omega) (tgt := 147) (by decide) ?_
        refine lv_bipush (v := (-2)) hx hb dX4_helpersFor_147 (by decide) ?_
        exact e_RI S hr hlk (Option.some.inj hm) dX4_helpersFor_149
      · replace hm := ipos hm c15
        refine lv_iconst (v := 0) hx hb dX4_helpersFor_50 (by decide) ?_
        refine lv_goto (tgt := 59) hx hb dX4_helpersFor_51 (by decide) ?_
        refine lv_istore (lv' := [(6, .int (0 : Int32)), (5, .int (r11 &&& r13)), (4, .int r11), (3, .int r9), (0, .ref a_st), (1, .ref a_mo), (2, .int p1)]) hx hb dX4_helpersFor_59 hl (by decide) rfl (fun ls hl => ?_)
        refine lv_aload_n hx hb dX4_helpersFor_61 rfl (lv_at hl 5 rfl) ?_
        refine lv_iload_n hx hb dX4_helpersFor_62 rfl (lv_at hl 6 rfl) ?_
        obtain ⟨r31, h32, hm⟩ := ob hm
        refine k_rVi S hK hP cal_X0_kindOf gX4_helpersFor_X0_kindOf (c_X0_kindOf l D cC cI cJ a_mo a_mo_kinds a_mo_days a_mo_rideDays a_mo_helpKinds a_mo_nexts a_mo_helperKinds a_mo_prices a_mo_helpersOfKind a_mo_numbers mo_tasks mo_helpers mo_askedFirst mo_crumbsFirst mo_lastDay mo_kinds mo_days mo_rideDays mo_helpKinds mo_nexts mo_helperKinds mo_prices mo_helpersOfKind mo_numbers p1 r31 h32) ⟨⟨rfl, rfl⟩, Nat.le_of_ble_eq_true rfl, Nat.le_of_ble_eq_true rfl⟩ [1, 2, 3, 4, 5, 6, 7, 8, 9, 10] rfl 1 rfl rfl rfl hl.1 rfl (Nat.le_of_ble_eq_true rfl) dX4_helpersFor_63 ⟨Nat.zero_le _, Nat.zero_le _⟩ ?_
        by_cases c33 : r31 = (0 : Int32)
        · replace hm := ipos hm c33
          refine f_tabIn S c33 dX4_helpersFor_66 (off := 34) (by decide) (by decide) (by decide) (tgt := 100) (by decide) ?_
          refine lv_iload hx hb dX4_helpersFor_100 (lv_at hl 0 rfl) ?_
          exact e_RI S hr hlk (Option.some.inj hm) dX4_helpersFor_102
        replace hm := ineg hm c33
        by_cases c34 : r31 = (1 : Int32)
        · replace hm := ipos hm c34
          refine f_tabIn S c34 dX4_helpersFor_66 (off := 37) (by decide) (by decide) (by decide) (tgt := 103) (by decide) ?_
          refine lv_iload_n hx hb dX4_helpersFor_103 rfl (lv_at hl 3 rfl) ?_
          refine lv_iconst (v := 5) hx hb dX4_helpersFor_104 (by decide) ?_
          refine lv_icmp_ne (tgt := 112) hx hb dX4_helpersFor_105 (by decide) (fun c35 => ?_) (fun c35 => ?_)
          · exact absurd c15 c35
          · skip
            refine lv_iconst (v := 0) hx hb dX4_helpersFor_108 (by decide) ?_
            refine lv_goto (tgt := 119) hx hb dX4_helpersFor_109 (by decide) ?_
            exact e_RI S hr hlk (Option.some.inj hm) dX4_helpersFor_119
        replace hm := ineg hm c34
        by_cases c36 : r31 = (2 : Int32)
        · replace hm := ipos hm c36
          refine f_tabIn S c36 dX4_helpersFor_66 (off := 54) (by decide) (by decide) (by decide) (tgt := 120) (by decide) ?_
          refine lv_iconst (v := 0) hx hb dX4_helpersFor_120 (by decide) ?_
          exact e_RI S hr hlk (Option.some.inj hm) dX4_helpersFor_121
        replace hm := ineg hm c36
        by_cases c37 : r31 = (3 : Int32)
        · replace hm := ipos hm c37
          refine f_tabIn S c37 dX4_helpersFor_66 (off := 56) (by decide) (by decide) (by decide) (tgt := 122) (by decide) ?_
          refine lv_iload hx hb dX4_helpersFor_122 (lv_at hl 0 rfl) ?_
          refine lv_iload hx hb dX4_helpersFor_124 (lv_at hl 2 rfl) ?_
          obtain ⟨r38, h39, hm⟩ := ob hm
          refine k_rSi S hK hP cal_X4_withOneMore gX4_helpersFor_X4_withOneMore (c_X4_withOneMore l D cC cI cJ (0 : Int32) r11 r38 h39) ⟨⟨rfl, rfl⟩, Nat.le_of_ble_eq_true rfl, Nat.le_of_ble_eq_true rfl⟩ [] rfl rfl hl.1 rfl (Nat.le_of_ble_eq_true rfl) dX4_helpersFor_126 ⟨Nat.zero_le _, Nat.zero_le _⟩ ?_
          exact e_RI S hr hlk (Option.some.inj hm) dX4_helpersFor_129
        replace hm := ineg hm c37
        by_cases c40 : r31 = (4 : Int32)
        · replace hm := ipos hm c40
          refine f_tabIn S c40 dX4_helpersFor_66 (off := 64) (by decide) (by decide) (by decide) (tgt := 130) (by decide) ?_
          refine lv_aload_n hx hb dX4_helpersFor_130 rfl (lv_at hl 4 rfl) ?_
          refine f_get S hK hP in_X4_helpersFor_X4 0 rfl rfl 5 (by decide) (List.mem_of_getElem? (i := 1) rfl) rfl rfl dX4_helpersFor_131 ?_
          refine lv_bipush (v := 10) hx hb dX4_helpersFor_134 (by decide) ?_
          refine lv_icmp_le (tgt := 144) hx hb dX4_helpersFor_136 (by decide) (fun c41 => ?_) (fun c41 => ?_)
          · replace hm := ipos hm c41
            refine lv_iload hx hb dX4_helpersFor_144 (lv_at hl 0 rfl) ?_
            exact e_RI S hr hlk (Option.some.inj hm) dX4_helpersFor_146
          · replace hm := ineg hm c41
            refine lv_bipush (v := (-2)) hx hb dX4_helpersFor_139 (by decide) ?_
            refine lv_goto (tgt := 146) hx hb dX4_helpersFor_141 (by decide) ?_
            exact e_RI S hr hlk (Option.some.inj hm) dX4_helpersFor_146
        replace hm := ineg hm c40
        have nc33 := toInt_ne c33 (n := 0) (by decide)
        have nc34 := toInt_ne c34 (n := 1) (by decide)
        have nc36 := toInt_ne c36 (n := 2) (by decide)
        have nc37 := toInt_ne c37 (n := 3) (by decide)
        have nc40 := toInt_ne c40 (n := 4) (by decide)
        refine f_tabOut S dX4_helpersFor_66 (by omega) (tgt := 147) (by decide) ?_
        refine lv_bipush (v := (-2)) hx hb dX4_helpersFor_147 (by decide) ?_
        exact e_RI S hr hlk (Option.some.inj hm) dX4_helpersFor_149
    · replace hm := ipos hm c8
      refine lv_bipush (v := (-2)) hx hb dX4_helpersFor_20 (by decide) ?_
      exact e_RI S hr hlk (Option.some.inj hm) dX4_helpersFor_22

abbrev rX4_tryRide : Room := { frames := 2, cells := 0, slots := 0, locals := 48 }
theorem cal_X4_tryRide : Cal yX4_tryRide wsX4_tryRide cX4_tryRide 4 (some .boolean) RX4 2 := ⟨⟨_, rfl⟩, rfl, by decide +kernel, by decide +kernel, by decide +kernel⟩
theorem in_X4_tryRide_X4 : ∀ w ∈ wsX40, w ∈ wsX4_tryRide := fun _ h => (List.mem_cons_of_mem _ (List.mem_append_left _ (List.mem_append_right _ h)))
set_option maxHeartbeats 4000000 in
set_option maxRecDepth 100000 in
theorem c_X4_tryRide (l : Launch) (D : va_G) (cC cI cJ : ClassId) (a_st : Nat) (a_mo : Nat) (a_mo_kinds : Nat) (a_mo_days : Nat) (a_mo_rideDays : Nat) (a_mo_helpKinds : Nat) (a_mo_nexts : Nat) (a_mo_helperKinds : Nat) (a_mo_prices : Nat) (a_mo_helpersOfKind : Nat) (a_mo_numbers : Nat) (st_asked : Int32) (st_brought : Int32) (st_friends : Int32) (st_used : Int32) (st_crumbs : Int32) (st_day : Int32) (mo_tasks : Int32) (mo_helpers : Int32) (mo_askedFirst : Int32) (mo_crumbsFirst : Int32) (mo_lastDay : Int32) (mo_kinds : (Nat → Int32)) (mo_days : (Nat → Int32)) (mo_rideDays : (Nat → Int32)) (mo_helpKinds : (Nat → Int32)) (mo_nexts : (Nat → Int32)) (mo_helperKinds : (Nat → Int32)) (mo_prices : (Nat → Int32)) (mo_helpersOfKind : (Nat → Int32)) (mo_numbers : (Nat → Int32)) (p1 : Int32) (A : Nat → Prop) (hD : va_D A (wd_8 cC cI cJ a_st st_asked st_brought st_friends st_used st_crumbs st_day a_mo mo_tasks mo_helpers mo_askedFirst mo_crumbsFirst mo_lastDay a_mo_kinds a_mo_days a_mo_rideDays a_mo_helpKinds a_mo_nexts a_mo_helperKinds a_mo_prices a_mo_helpersOfKind a_mo_numbers a_mo_kinds mo_kinds a_mo_days mo_days a_mo_rideDays mo_rideDays a_mo_helpKinds mo_helpKinds a_mo_nexts mo_nexts a_mo_helperKinds mo_helperKinds a_mo_prices mo_prices a_mo_helpersOfKind mo_helpersOfKind a_mo_numbers mo_numbers)) (out : (Int32 × Int32 × Int32 × Int32 × Int32)) (hm : m_X4_tryRide st_asked st_brought st_friends st_used st_day mo_lastDay mo_kinds mo_rideDays mo_helpKinds mo_nexts mo_helpersOfKind p1 = some out) : WrI l yX4_tryRide wsX4_tryRide rX4_tryRide D (tyK cC cI cJ) [.ref a_st, .ref a_mo, .int p1] A (wd_8 cC cI cJ a_st st_asked st_brought st_friends st_used st_crumbs st_day a_mo mo_tasks mo_helpers mo_askedFirst mo_crumbsFirst mo_lastDay a_mo_kinds a_mo_days a_mo_rideDays a_mo_helpKinds a_mo_nexts a_mo_helperKinds a_mo_prices a_mo_helpersOfKind a_mo_numbers a_mo_kinds mo_kinds a_mo_days mo_days a_mo_rideDays mo_rideDays a_mo_helpKinds mo_helpKinds a_mo_nexts mo_nexts a_mo_helperKinds mo_helperKinds a_mo_prices mo_prices a_mo_helpersOfKind mo_helpersOfKind a_mo_numbers mo_numbers) (Bw0 D (wd_8 cC cI cJ a_st out.2.1 out.2.2.1 st_friends out.2.2.2.1 st_crumbs out.2.2.2.2 a_mo mo_tasks mo_helpers mo_askedFirst mo_crumbsFirst mo_lastDay a_mo_kinds a_mo_days a_mo_rideDays a_mo_helpKinds a_mo_nexts a_mo_helperKinds a_mo_prices a_mo_helpersOfKind a_mo_numbers a_mo_kinds mo_kinds a_mo_days mo_days a_mo_rideDays mo_rideDays a_mo_helpKinds mo_helpKinds a_mo_nexts mo_nexts a_mo_helperKinds mo_helperKinds a_mo_prices mo_prices a_mo_helpersOfKind mo_helpersOfKind a_mo_numbers mo_numbers)) out.1 := by
  unfold m_X4_tryRide at hm
  refine enter (cc := cX4_tryRide) (maxL := 4) (ret := (some .boolean)) (lv := [(0, .ref a_st), (1, .ref a_mo), (2, .int p1)]) (by decide) rfl (Nat.le_of_ble_eq_true rfl) rfl ?_
  intro p e s m args below meth c S hr hlk hK hP ls hl
  replace S : CallFix p m c cX4_tryRide 4 s args wsX4_tryRide RX4 := S
  have hx := S.1
  have hb := S.2.1
  have hw : Wd D A s.heap (wd_8 cC cI cJ a_st st_asked st_brought st_friends st_used st_crumbs st_day a_mo mo_tasks mo_helpers mo_askedFirst mo_crumbsFirst mo_lastDay a_mo_kinds a_mo_days a_mo_rideDays a_mo_helpKinds a_mo_nexts a_mo_helperKinds a_mo_prices a_mo_helpersOfKind a_mo_numbers a_mo_kinds mo_kinds a_mo_days mo_days a_mo_rideDays mo_rideDays a_mo_helpKinds mo_helpKinds a_mo_nexts mo_nexts a_mo_helperKinds mo_helperKinds a_mo_prices mo_prices a_mo_helpersOfKind mo_helpersOfKind a_mo_numbers mo_numbers) s.heap [] := ⟨hP, hD, va_S.rf⟩
  have hw0 := hw
  refine lv_aload_n hx hb dX4_tryRide_0 rfl (lv_at hl 0 rfl) ?_
  refine lv_aload_n hx hb dX4_tryRide_1 rfl (lv_at hl 1 rfl) ?_
  refine lv_iload_n hx hb dX4_tryRide_2 rfl (lv_at hl 2 rfl) ?_
  obtain ⟨r1, h2, hm⟩ := ob hm
  refine k_rVi S hK hw.1 cal_X4_helpersFor gX4_tryRide_X4_helpersFor (c_X4_helpersFor l D cC cI cJ a_st a_mo a_mo_kinds a_mo_days a_mo_rideDays a_mo_helpKinds a_mo_nexts a_mo_helperKinds a_mo_prices a_mo_helpersOfKind a_mo_numbers st_asked st_brought st_friends st_used st_crumbs st_day mo_tasks mo_helpers mo_askedFirst mo_crumbsFirst mo_lastDay mo_kinds mo_days mo_rideDays mo_helpKinds mo_nexts mo_helperKinds mo_prices mo_helpersOfKind mo_numbers p1 r1 h2) ⟨⟨rfl, rfl⟩, Nat.le_of_ble_eq_true rfl, Nat.le_of_ble_eq_true rfl⟩ [0, 1, 2, 3, 4, 5, 6, 7, 8, 9, 10] rfl 0 rfl rfl rfl hl.1 rfl (Nat.le_of_ble_eq_true rfl) dX4_tryRide_3 ⟨Nat.zero_le _, Nat.zero_le _⟩ ?_
  refine lv_istore_n (lv' := [(3, .int r1), (0, .ref a_st), (1, .ref a_mo), (2, .int p1)]) hx hb dX4_tryRide_6 rfl hl (by decide) rfl (fun ls hl => ?_)
  refine lv_iload_n hx hb dX4_tryRide_7 rfl (lv_at hl 0 rfl) ?_
  refine lv_if_ge (tgt := 13) hx hb dX4_tryRide_8 (by decide) (fun c3 => ?_) (fun c3 => ?_)
  · replace hm := ipos hm c3
    refine lv_aload_n hx hb dX4_tryRide_13 rfl (lv_at hl 1 rfl) ?_
    refine lv_dup hx hb dX4_tryRide_14 rfl ?_
    refine f_get S hK hw.1 in_X4_tryRide_X4 0 rfl rfl 3 (by decide) (List.mem_of_getElem? (i := 1) rfl) rfl rfl dX4_tryRide_15 ?_
    refine lv_iload_n hx hb dX4_tryRide_18 rfl (lv_at hl 0 rfl) ?_
    refine lv_ior hx hb dX4_tryRide_19 ?_
    refine f_put S hK hw in_X4_tryRide_X4 tyX4_ok nmX4 0 rfl rfl 3 (by decide) (List.mem_of_getElem? (i := 1) rfl) rfl rfl rfl rfl (Nat.le_of_ble_eq_true rfl) (ws1 := (wd_8 cC cI cJ a_st st_asked st_brought st_friends (st_used ||| r1) st_crumbs st_day a_mo mo_tasks mo_helpers mo_askedFirst mo_crumbsFirst mo_lastDay a_mo_kinds a_mo_days a_mo_rideDays a_mo_helpKinds a_mo_nexts a_mo_helperKinds a_mo_prices a_mo_helpersOfKind a_mo_numbers a_mo_kinds mo_kinds a_mo_days mo_days a_mo_rideDays mo_rideDays a_mo_helpKinds mo_helpKinds a_mo_nexts mo_nexts a_mo_helperKinds mo_helperKinds a_mo_prices mo_prices a_mo_helpersOfKind mo_helpersOfKind a_mo_numbers mo_numbers)) rfl dX4_tryRide_20 (fun H locs hw => ?_)
    refine lv_aload_n hx hb dX4_tryRide_23 rfl (lv_at hl 1 rfl) ?_
    refine lv_dup hx hb dX4_tryRide_24 rfl ?_
    refine f_get S hK hw.1 in_X4_tryRide_X4 0 rfl rfl 5 (by decide) (List.mem_of_getElem? (i := 2) rfl) rfl rfl dX4_tryRide_25 ?_
    refine lv_aload_n hx hb dX4_tryRide_28 rfl (lv_at hl 2 rfl) ?_
    refine lv_iload_n hx hb dX4_tryRide_29 rfl (lv_at hl 3 rfl) ?_
    obtain ⟨r4, h5, hm⟩ := ob hm
    refine k_rVi S hK hw.1 cal_X0_rideDaysOf gX4_tryRide_X0_rideDaysOf (c_X0_rideDaysOf l D cC cI cJ a_mo a_mo_kinds a_mo_days a_mo_rideDays a_mo_helpKinds a_mo_nexts a_mo_helperKinds a_mo_prices a_mo_helpersOfKind a_mo_numbers mo_tasks mo_helpers mo_askedFirst mo_crumbsFirst mo_lastDay mo_kinds mo_days mo_rideDays mo_helpKinds mo_nexts mo_helperKinds mo_prices mo_helpersOfKind mo_numbers p1 r4 h5) ⟨⟨rfl, rfl⟩, Nat.le_of_ble_eq_true rfl, Nat.le_of_ble_eq_true rfl⟩ [1, 2, 3, 4, 5, 6, 7, 8, 9, 10] rfl 1 rfl rfl rfl hl.1 rfl (Nat.le_of_ble_eq_true rfl) dX4_tryRide_30 ⟨Nat.zero_le _, Nat.zero_le _⟩ ?_
    refine lv_iadd hx hb dX4_tryRide_33 ?_
    refine f_put S hK hw in_X4_tryRide_X4 tyX4_ok nmX4 0 rfl rfl 5 (by decide) (List.mem_of_getElem? (i := 2) rfl) rfl rfl rfl rfl (Nat.le_of_ble_eq_true rfl) (ws1 := (wd_8 cC cI cJ a_st st_asked st_brought st_friends (st_used ||| r1) st_crumbs (st_day + r4) a_mo mo_tasks mo_helpers mo_askedFirst mo_crumbsFirst mo_lastDay a_mo_kinds a_mo_days a_mo_rideDays a_mo_helpKinds a_mo_nexts a_mo_helperKinds a_mo_prices a_mo_helpersOfKind a_mo_numbers a_mo_kinds mo_kinds a_mo_days mo_days a_mo_rideDays mo_rideDays a_mo_helpKinds mo_helpKinds a_mo_nexts mo_nexts a_mo_helperKinds mo_helperKinds a_mo_prices mo_prices a_mo_helpersOfKind mo_helpersOfKind a_mo_numbers mo_numbers)) rfl dX4_tryRide_34 (fun H locs hw => ?_)
    refine lv_aload_n hx hb dX4_tryRide_37 rfl (lv_at hl 1 rfl) ?_
    refine lv_dup hx hb dX4_tryRide_38 rfl ?_
    refine f_get S hK hw.1 in_X4_tryRide_X4 0 rfl rfl 1 (by decide) (List.mem_of_getElem? (i := 3) rfl) rfl rfl dX4_tryRide_39 ?_
    refine lv_iload_n hx hb dX4_tryRide_42 rfl (lv_at hl 3 rfl) ?_
    obtain ⟨r6, h7, hm⟩ := ob hm
    refine k_rNi S hK hw.1 cal_X5_bit gX4_tryRide_X5_bit_n49 (List.mem_of_getElem? (i := 4) rfl) (List.mem_of_getElem? (i := 20) rfl) (List.mem_of_getElem? (i := 19) rfl) (c_X5_bit l D cC cI cJ p1 r6 h7) ⟨⟨rfl, rfl⟩, Nat.le_of_ble_eq_true rfl, Nat.le_of_ble_eq_true rfl⟩ [] rfl rfl hl.1 rfl (Nat.le_of_ble_eq_true rfl) dX4_tryRide_43 ⟨Nat.zero_le _, Nat.zero_le _⟩ ?_
    refine lv_ior hx hb dX4_tryRide_46 ?_
    refine f_put S hK hw in_X4_tryRide_X4 tyX4_ok nmX4 0 rfl rfl 1 (by decide) (List.mem_of_getElem? (i := 3) rfl) rfl rfl rfl rfl (Nat.le_of_ble_eq_true rfl) (ws1 := (wd_8 cC cI cJ a_st st_asked (st_brought ||| r6) st_friends (st_used ||| r1) st_crumbs (st_day + r4) a_mo mo_tasks mo_helpers mo_askedFirst mo_crumbsFirst mo_lastDay a_mo_kinds a_mo_days a_mo_rideDays a_mo_helpKinds a_mo_nexts a_mo_helperKinds a_mo_prices a_mo_helpersOfKind a_mo_numbers a_mo_kinds mo_kinds a_mo_days mo_days a_mo_rideDays mo_rideDays a_mo_helpKinds mo_helpKinds a_mo_nexts mo_nexts a_mo_helperKinds mo_helperKinds a_mo_prices mo_prices a_mo_helpersOfKind mo_helpersOfKind a_mo_numbers mo_numbers)) rfl dX4_tryRide_47 (fun H locs hw => ?_)
    refine lv_aload_n hx hb dX4_tryRide_50 rfl (lv_at hl 1 rfl) ?_
    refine lv_dup hx hb dX4_tryRide_51 rfl ?_
    refine f_get S hK hw.1 in_X4_tryRide_X4 0 rfl rfl 0 (by decide) (List.mem_of_getElem? (i := 4) rfl) rfl rfl dX4_tryRide_52 ?_
    refine lv_aload_n hx hb dX4_tryRide_55 rfl (lv_at hl 2 rfl) ?_
    refine lv_iload_n hx hb dX4_tryRide_56 rfl (lv_at hl 3 rfl) ?_
    obtain ⟨r8, h9, hm⟩ := ob hm
    refine k_rVi S hK hw.1 cal_X0_nextOf gX4_tryRide_X0_nextOf (c_X0_nextOf l D cC cI cJ a_mo a_mo_kinds a_mo_days a_mo_rideDays a_mo_helpKinds a_mo_nexts a_mo_helperKinds a_mo_prices a_mo_helpersOfKind a_mo_numbers mo_tasks mo_helpers mo_askedFirst mo_crumbsFirst mo_lastDay mo_kinds mo_days mo_rideDays mo_helpKinds mo_nexts mo_helperKinds mo_prices mo_helpersOfKind mo_numbers p1 r8 h9) ⟨⟨rfl, rfl⟩, Nat.le_of_ble_eq_true rfl, Nat.le_of_ble_eq_true rfl⟩ [1, 2, 3, 4, 5, 6, 7, 8, 9, 10] rfl 1 rfl rfl rfl hl.1 rfl (Nat.le_of_ble_eq_true rfl) dX4_tryRide_57 ⟨Nat.zero_le _, Nat.zero_le _⟩ ?_
    obtain ⟨r10, h11, hm⟩ := ob hm
    refine k_rNi S hK hw.1 cal_X5_bit gX4_tryRide_X5_bit_n49 (List.mem_of_getElem? (i := 4) rfl) (List.mem_of_getElem? (i := 20) rfl) (List.mem_of_getElem? (i := 19) rfl) (c_X5_bit l D cC cI cJ r8 r10 h11) ⟨⟨rfl, rfl⟩, Nat.le_of_ble_eq_true rfl, Nat.le_of_ble_eq_true rfl⟩ [] rfl rfl hl.1 rfl (Nat.le_of_ble_eq_true rfl) dX4_tryRide_60 ⟨Nat.zero_le _, Nat.zero_le _⟩ ?_
    refine lv_ior hx hb dX4_tryRide_63 ?_
    refine f_put S hK hw in_X4_tryRide_X4 tyX4_ok nmX4 0 rfl rfl 0 (by decide) (List.mem_of_getElem? (i := 4) rfl) rfl rfl rfl rfl (Nat.le_of_ble_eq_true rfl) (ws1 := (wd_8 cC cI cJ a_st (st_asked ||| r10) (st_brought ||| r6) st_friends (st_used ||| r1) st_crumbs (st_day + r4) a_mo mo_tasks mo_helpers mo_askedFirst mo_crumbsFirst mo_lastDay a_mo_kinds a_mo_days a_mo_rideDays a_mo_helpKinds a_mo_nexts a_mo_helperKinds a_mo_prices a_mo_helpersOfKind a_mo_numbers a_mo_kinds mo_kinds a_mo_days mo_days a_mo_rideDays mo_rideDays a_mo_helpKinds mo_helpKinds a_mo_nexts mo_nexts a_mo_helperKinds mo_helperKinds a_mo_prices mo_prices a_mo_helpersOfKind mo_helpersOfKind a_mo_numbers mo_numbers)) rfl dX4_tryRide_64 (fun H locs hw => ?_)
    refine lv_iconst (v := 1) hx hb dX4_tryRide_67 (by decide) ?_
    obtain rfl := Option.some.inj hm
    exact e_WZ S hr hlk hw (Or.inr rfl) rfl hw.1 dX4_tryRide_68
  · replace hm := ineg hm c3
    refine lv_iconst (v := 0) hx hb dX4_tryRide_11 (by decide) ?_
    obtain rfl := Option.some.inj hm
    exact e_WZ S hr hlk hw (Or.inl rfl) rfl hw.1 dX4_tryRide_12
