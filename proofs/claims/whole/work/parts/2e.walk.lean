/-! walks: X2_remember X2_waysOn X2_endsWellWith X2_fewestSet X2_rideFirst X2_placeInFirst X2_waysOf X4_begin X4_tasksToSuggest X4_tryBefriend -/
abbrev rX2_remember : Room := { frames := 1, cells := 0, slots := 0, locals := 20 }
theorem cal_X2_remember : Cal yX2_remember wsX2_remember cX2_remember 5 none RX2 2 := ⟨⟨_, rfl⟩, rfl, by decide +kernel, by decide +kernel, by decide +kernel⟩
theorem in_X2_remember_X2 : ∀ w ∈ wsX20, w ∈ wsX2_remember := fun _ h => (List.mem_cons_of_mem _ (List.mem_append_right _ h))
set_option maxHeartbeats 4000000 in
set_option maxRecDepth 100000 in
theorem c_X2_remember (l : Launch) (D : va_G) (cC cI cJ : ClassId) (a_sr : Nat) (a_sr_known : Nat) (g_sr_road : Nat) (g_sr_unseen : Nat) (g_sr_months : Nat) (g_sr_heeded : Nat) (sr_number : Int64) (sr_enough : Int64) (sr_hopeless : Int32) (sr_known : (Nat → Int64)) (p0 : Int32) (p1 : Int64) (A : Nat → Prop) (hD : va_D A (wd_10 cC cI cJ a_sr a_sr_known g_sr_road g_sr_unseen sr_number sr_enough sr_hopeless g_sr_months g_sr_heeded a_sr_known sr_known)) (out : (Nat → Int64)) (hm : m_X2_remember sr_number sr_known p0 p1 = some out) : WrV l yX2_remember wsX2_remember rX2_remember D (tyK cC cI cJ) [.ref a_sr, .int p0, .long p1] A (wd_10 cC cI cJ a_sr a_sr_known g_sr_road g_sr_unseen sr_number sr_enough sr_hopeless g_sr_months g_sr_heeded a_sr_known sr_known) (Bw0 D (wd_10 cC cI cJ a_sr a_sr_known g_sr_road g_sr_unseen sr_number sr_enough sr_hopeless g_sr_months g_sr_heeded a_sr_known out)) := by
  unfold m_X2_remember at hm
  refine enter (cc := cX2_remember) (maxL := 5) (ret := none) (lv := [(0, .ref a_sr), (1, .int p0), (2, .long p1)]) (by decide) rfl (Nat.le_of_ble_eq_true rfl) rfl ?_
  intro p e s m args below meth c S hr hlk hK hP ls hl
  replace S : CallFix p m c cX2_remember 5 s args wsX2_remember RX2 := S
  have hx := S.1
  have hb := S.2.1
  have hw : Wd D A s.heap (wd_10 cC cI cJ a_sr a_sr_known g_sr_road g_sr_unseen sr_number sr_enough sr_hopeless g_sr_months g_sr_heeded a_sr_known sr_known) s.heap [] := ⟨hP, hD, va_S.rf⟩
  have hw0 := hw
  refine lv_iload_n hx hb dX2_remember_0 rfl (lv_at hl 1 rfl) ?_
  obtain ⟨r1, h2, hm⟩ := ob hm
  refine k_rSi S hK hw.1 cal_X2_cellOf gX2_remember_X2_cellOf (c_X2_cellOf l D cC cI cJ p0 r1 h2) ⟨⟨rfl, rfl⟩, Nat.le_of_ble_eq_true rfl, Nat.le_of_ble_eq_true rfl⟩ [] rfl rfl hl.1 rfl (Nat.le_of_ble_eq_true rfl) dX2_remember_1 ⟨Nat.zero_le _, Nat.zero_le _⟩ ?_
  refine lv_istore (lv' := [(4, .int r1), (0, .ref a_sr), (1, .int p0), (2, .long p1)]) hx hb dX2_remember_4 hl (by decide) rfl (fun ls hl => ?_)
  refine lv_iload hx hb dX2_remember_6 (lv_at hl 0 rfl) ?_
  refine lv_if_lt (tgt := 43) hx hb dX2_remember_8 (by decide) (fun c3 => ?_) (fun c3 => ?_)
  · replace hm := ipos hm c3
    obtain rfl := Option.some.inj hm
    exact e_WV S hr hlk hw hw.1 dX2_remember_43
  · replace hm := ineg hm c3
    refine lv_iload hx hb dX2_remember_11 (lv_at hl 0 rfl) ?_
    refine lv_aload_n hx hb dX2_remember_13 rfl (lv_at hl 1 rfl) ?_
    refine f_get S hK hw.1 in_X2_remember_X2 0 rfl rfl 0 (by decide) (List.mem_of_getElem? (i := 1) rfl) rfl rfl dX2_remember_14 ?_
    refine f_alen S hK hw.1 1 2 rfl rfl (v := (4096 : Int32)) rfl dX2_remember_17 ?_
    refine lv_icmp_ge (tgt := 43) hx hb dX2_remember_18 (by decide) (fun c4 => ?_) (fun c4 => ?_)
    · replace hm := ipos hm c4
      obtain rfl := Option.some.inj hm
      exact e_WV S hr hlk hw hw.1 dX2_remember_43
    · replace hm := ineg hm c4
      refine lv_aload_n hx hb dX2_remember_21 rfl (lv_at hl 1 rfl) ?_
      refine f_get S hK hw.1 in_X2_remember_X2 0 rfl rfl 0 (by decide) (List.mem_of_getElem? (i := 1) rfl) rfl rfl dX2_remember_22 ?_
      refine lv_iload hx hb dX2_remember_25 (lv_at hl 0 rfl) ?_
      refine lv_aload_n hx hb dX2_remember_27 rfl (lv_at hl 1 rfl) ?_
      refine f_get S hK hw.1 in_X2_remember_X2 0 rfl rfl 3 (by decide) (List.mem_of_getElem? (i := 2) rfl) rfl rfl dX2_remember_28 ?_
      refine lv_bipush (v := 15) hx hb dX2_remember_31 (by decide) ?_
      refine lv_lshl (v := (sr_number <<< (((15 : Int32)).toInt64 &&& 63))) hx hb dX2_remember_33 rfl ?_
      refine lv_iload_n hx hb dX2_remember_34 rfl (lv_at hl 2 rfl) ?_
      refine lv_i2l (v := (p0).toInt64) hx hb dX2_remember_35 rfl ?_
      refine lv_lor hx hb dX2_remember_36 ?_
      refine lv_bipush (v := 16) hx hb dX2_remember_37 (by decide) ?_
      refine lv_lshl (v := (((sr_number <<< (((15 : Int32)).toInt64 &&& 63)) ||| ((p0).toInt64)) <<< (((16 : Int32)).toInt64 &&& 63))) hx hb dX2_remember_39 rfl ?_
      refine lv_lload_n hx hb dX2_remember_40 rfl (lv_at hl 3 rfl) ?_
      refine lv_lor hx hb dX2_remember_41 ?_
      obtain ⟨y6, e7, hm⟩ := ob hm
      refine f_nameL e7 ?_
      obtain ⟨g5, hm⟩ := gdo hm
      refine f_last S hK hw 1 2 rfl rfl g5 (ws1 := (wd_10 cC cI cJ a_sr a_sr_known g_sr_road g_sr_unseen sr_number sr_enough sr_hopeless g_sr_months g_sr_heeded a_sr_known (vp_updL sr_known (r1).toNatClampNeg y6))) rfl dX2_remember_42 (fun H locs hw => ?_)
      obtain rfl := Option.some.inj hm
      exact e_WV S hr hlk hw hw.1 dX2_remember_43

abbrev rX2_waysOn_0 : Room := { frames := 3, cells := 0, slots := 0, locals := 71 }
def rX2_waysOn (n : Nat) : Room := { frames := 3 + n, cells := 0, slots := 0, locals := 71 + 28 * n }
theorem rX2_waysOn_up {rm : Room} {mL : Nat} (n : Nat) (h : rmIn rm rX2_waysOn_0 mL) : rmIn rm (rX2_waysOn n) mL := ⟨h.1, Nat.le_trans h.2.1 (by show 3 ≤ 3 + n; omega), Nat.le_trans h.2.2 (by show 71 ≤ 71 + 28 * n; omega)⟩
theorem rX2_waysOn_in (n : Nat) : rmIn (rX2_waysOn n) (rX2_waysOn (n + 1)) 9 := ⟨⟨rfl, rfl⟩, by show 3 + n + 1 ≤ 3 + (n + 1); omega, by show 8 + (9 + 11) + (71 + 28 * n) ≤ 71 + 28 * (n + 1); omega⟩
theorem cal_X2_waysOn : Cal yX2_waysOn wsX2_waysOn cX2_waysOn 9 (some .long) RX2 2 := ⟨⟨_, rfl⟩, rfl, by decide +kernel, by decide +kernel, by decide +kernel⟩
theorem in_X2_waysOn_X2 : ∀ w ∈ wsX20, w ∈ wsX2_waysOn := fun _ h => (List.mem_cons_of_mem _ (List.mem_append_left _ (List.mem_append_left _ (List.mem_append_left _ (List.mem_append_right _ h)))))
theorem in_X2_waysOn_X4 : ∀ w ∈ wsX40, w ∈ wsX2_waysOn := fun _ h => (List.mem_cons_of_mem _ (List.mem_append_left _ (List.mem_append_left _ (List.mem_append_right _ h))))
set_option maxHeartbeats 4000000 in
set_option maxRecDepth 100000 in
theorem t_X2_waysOn_89 {p : Program} {e : Env} {s : State} {m : MethodId} {args : Array Value} {below : List Frame} {meth : Method} {c : Code} {Q : State → Prop} {nr : Nat} (l : Launch) {D : va_G} {cC cI cJ : ClassId} {A : Nat → Prop} {H0 : Heap} (S : CallFix p m c cX2_waysOn 9 s args wsX2_waysOn RX2) (hK : KK D (tyK cC cI cJ) s) (a_sr : Nat) (a_sr_known : Nat) (a_ro : Nat) (g_sr_unseen : Nat) (a_mo : Nat) (a_se : Nat) (a_mo_kinds : Nat) (a_mo_days : Nat) (a_mo_rideDays : Nat) (a_mo_helpKinds : Nat) (a_mo_nexts : Nat) (a_mo_helperKinds : Nat) (a_mo_prices : Nat) (a_mo_helpersOfKind : Nat) (a_mo_numbers : Nat) (a_se_left : Nat) (self : Int64 → Int64 → Int32 → (Nat → Int64) → Int32 → Int32 → Int32 → Int32 → Int32 → Int32 → Int32 → (Nat → Int32) → (Nat → Int32) → (Nat → Int32) → (Nat → Int32) → (Nat → Int32) → Int32 → (Nat → Int32) → Int32 → Option (Int64 × (Nat → Int64) × Int32 × Int32 × Int32 × Int32 × Int32 × Int32)) (v1 : Int32) (v3 : Int32) (v6 : Int64) (sr_number : Int64) (sr_enough : Int64) (sr_hopeless : Int32) (mo_tasks : Int32) (mo_helpers : Int32) (mo_askedFirst : Int32) (mo_crumbsFirst : Int32) (mo_lastDay : Int32) (mo_kinds : (Nat → Int32)) (mo_days : (Nat → Int32)) (mo_rideDays : (Nat → Int32)) (mo_helpKinds : (Nat → Int32)) (mo_nexts : (Nat → Int32)) (mo_helperKinds : (Nat → Int32)) (mo_prices : (Nat → Int32)) (mo_helpersOfKind : (Nat → Int32)) (mo_numbers : (Nat → Int32)) (se_size : Int32) (se_lastPlace : Int32) (se_left : (Nat → Int32)) (hself : ∀ (sr_number : Int64) (sr_enough : Int64) (sr_hopeless : Int32) (sr_known : (Nat → Int64)) (ro_asked : Int32) (ro_brought : Int32) (ro_friends : Int32) (ro_used : Int32) (ro_crumbs : Int32) (ro_day : Int32) (mo_tasks : Int32) (mo_helpers : Int32) (mo_askedFirst : Int32) (mo_crumbsFirst : Int32) (mo_lastDay : Int32) (mo_kinds : (Nat → Int32)) (mo_days : (Nat → Int32)) (mo_rideDays : (Nat → Int32)) (mo_helpKinds : (Nat → Int32)) (mo_nexts : (Nat → Int32)) (mo_helperKinds : (Nat → Int32)) (mo_prices : (Nat → Int32)) (mo_helpersOfKind : (Nat → Int32)) (mo_numbers : (Nat → Int32)) (se_size : Int32) (se_lastPlace : Int32) (se_left : (Nat → Int32)) (p1 : Int32) (A : Nat → Prop), va_D A (wd_11 cC cI cJ a_sr a_sr_known a_ro g_sr_unseen sr_number sr_enough sr_hopeless a_mo a_se a_sr_known sr_known a_ro ro_asked ro_brought ro_friends ro_used ro_crumbs ro_day a_mo mo_tasks mo_helpers mo_askedFirst mo_crumbsFirst mo_lastDay a_mo_kinds a_mo_days a_mo_rideDays a_mo_helpKinds a_mo_nexts a_mo_helperKinds a_mo_prices a_mo_helpersOfKind a_mo_numbers a_mo_kinds mo_kinds a_mo_days mo_days a_mo_rideDays mo_rideDays a_mo_helpKinds mo_helpKinds a_mo_nexts mo_nexts a_mo_helperKinds mo_helperKinds a_mo_prices mo_prices a_mo_helpersOfKind mo_helpersOfKind a_mo_numbers mo_numbers a_se se_size se_lastPlace a_se_left a_se_left se_left) → ∀ (out : (Int64 × (Nat → Int64) × Int32 × Int32 × Int32 × Int32 × Int32 × Int32)), self sr_number sr_enough sr_hopeless sr_known ro_asked ro_brought ro_friends ro_used ro_crumbs ro_day mo_lastDay mo_kinds mo_rideDays mo_helpKinds mo_nexts mo_helpersOfKind se_lastPlace se_left p1 = some out → WrL l yX2_waysOn wsX2_waysOn (rX2_waysOn nr) D (tyK cC cI cJ) [.ref a_sr, .int p1] A (wd_11 cC cI cJ a_sr a_sr_known a_ro g_sr_unseen sr_number sr_enough sr_hopeless a_mo a_se a_sr_known sr_known a_ro ro_asked ro_brought ro_friends ro_used ro_crumbs ro_day a_mo mo_tasks mo_helpers mo_askedFirst mo_crumbsFirst mo_lastDay a_mo_kinds a_mo_days a_mo_rideDays a_mo_helpKinds a_mo_nexts a_mo_helperKinds a_mo_prices a_mo_helpersOfKind a_mo_numbers a_mo_kinds mo_kinds a_mo_days mo_days a_mo_rideDays mo_rideDays a_mo_helpKinds mo_helpKinds a_mo_nexts mo_nexts a_mo_helperKinds mo_helperKinds a_mo_prices mo_prices a_mo_helpersOfKind mo_helpersOfKind a_mo_numbers mo_numbers a_se se_size se_lastPlace a_se_left a_se_left se_left) (Bw0 D (wd_11 cC cI cJ a_sr a_sr_known a_ro g_sr_unseen sr_number sr_enough sr_hopeless a_mo a_se a_sr_known out.2.1 a_ro out.2.2.1 out.2.2.2.1 out.2.2.2.2.1 out.2.2.2.2.2.1 out.2.2.2.2.2.2.1 out.2.2.2.2.2.2.2 a_mo mo_tasks mo_helpers mo_askedFirst mo_crumbsFirst mo_lastDay a_mo_kinds a_mo_days a_mo_rideDays a_mo_helpKinds a_mo_nexts a_mo_helperKinds a_mo_prices a_mo_helpersOfKind a_mo_numbers a_mo_kinds mo_kinds a_mo_days mo_days a_mo_rideDays mo_rideDays a_mo_helpKinds mo_helpKinds a_mo_nexts mo_nexts a_mo_helperKinds mo_helperKinds a_mo_prices mo_prices a_mo_helpersOfKind mo_helpersOfKind a_mo_numbers mo_numbers a_se se_size se_lastPlace a_se_left a_se_left se_left)) out.1) : ∀ (n : Nat) (v4 : Int64) (v8 : Int32) (sr_known : (Nat → Int64)) (ro_asked : Int32) (ro_brought : Int32) (ro_friends : Int32) (ro_used : Int32) (ro_crumbs : Int32) (ro_day : Int32) (out : (Int64 × (Nat → Int64) × Int32 × Int32 × Int32 × Int32 × Int32 × Int32)), lp_X2_waysOn_89 self v1 v6 sr_number sr_enough sr_hopeless mo_lastDay mo_kinds mo_rideDays mo_helpKinds mo_nexts mo_helpersOfKind se_lastPlace se_left n v4 v8 sr_known ro_asked ro_brought ro_friends ro_used ro_crumbs ro_day = some out → ∀ (H : Heap) (locs : List Loc) (ls : Array Slot), Wd D A H0 (wd_11 cC cI cJ a_sr a_sr_known a_ro g_sr_unseen sr_number sr_enough sr_hopeless a_mo a_se a_sr_known sr_known a_ro ro_asked ro_brought ro_friends ro_used ro_crumbs ro_day a_mo mo_tasks mo_helpers mo_askedFirst mo_crumbsFirst mo_lastDay a_mo_kinds a_mo_days a_mo_rideDays a_mo_helpKinds a_mo_nexts a_mo_helperKinds a_mo_prices a_mo_helpersOfKind a_mo_numbers a_mo_kinds mo_kinds a_mo_days mo_days a_mo_rideDays mo_rideDays a_mo_helpKinds mo_helpKinds a_mo_nexts mo_nexts a_mo_helperKinds mo_helperKinds a_mo_prices mo_prices a_mo_helpersOfKind mo_helpersOfKind a_mo_numbers mo_numbers a_se se_size se_lastPlace a_se_left a_se_left se_left) H locs → lv_has ls 9 [(0, .ref a_sr), (1, .int v1), (2, .ref a_ro), (3, .int v3), (4, .long v4), (6, .long v6), (8, .int v8)] → (∀ (H : Heap) (locs : List Loc) (ls : Array Slot), Wd D A H0 (wd_11 cC cI cJ a_sr a_sr_known a_ro g_sr_unseen sr_number sr_enough sr_hopeless a_mo a_se a_sr_known out.2.1 a_ro out.2.2.1 out.2.2.2.1 out.2.2.2.2.1 out.2.2.2.2.2.1 out.2.2.2.2.2.2.1 out.2.2.2.2.2.2.2 a_mo mo_tasks mo_helpers mo_askedFirst mo_crumbsFirst mo_lastDay a_mo_kinds a_mo_days a_mo_rideDays a_mo_helpKinds a_mo_nexts a_mo_helperKinds a_mo_prices a_mo_helpersOfKind a_mo_numbers a_mo_kinds mo_kinds a_mo_days mo_days a_mo_rideDays mo_rideDays a_mo_helpKinds mo_helpKinds a_mo_nexts mo_nexts a_mo_helperKinds mo_helperKinds a_mo_prices mo_prices a_mo_helpersOfKind mo_helpersOfKind a_mo_numbers mo_numbers a_se se_size se_lastPlace a_se_left a_se_left se_left) H locs → lv_has ls 9 [(0, .ref a_sr), (3, .int v3), (4, .long out.1)] → W p l e (rX2_waysOn (nr + 1)) s m args below meth c H locs 0 0 Q (F0 m 158 ls [])) → W p l e (rX2_waysOn (nr + 1)) s m args below meth c H locs 0 0 Q (F0 m 89 ls []) := by
  have hx := S.1
  have hb := S.2.1
  intro n
  induction n with
  | zero => intro v4 v8 sr_known ro_asked ro_brought ro_friends ro_used ro_crumbs ro_day out hm; cases (show (none : Option (Int64 × (Nat → Int64) × Int32 × Int32 × Int32 × Int32 × Int32 × Int32)) = some out from hm)
  | succ n ih =>
    intro v4 v8 sr_known ro_asked ro_brought ro_friends ro_used ro_crumbs ro_day out hm  H locs ls hw hl K0
    rw [lp_X2_waysOn_89] at hm
    refine lv_iload hx hb dX2_waysOn_89 (lv_at hl 6 rfl) ?_
    refine lv_bipush (v := 8) hx hb dX2_waysOn_91 (by decide) ?_
    refine lv_icmp_ge (tgt := 158) hx hb dX2_waysOn_93 (by decide) (fun c13 => ?_) (fun c13 => ?_)
    · replace hm := ipos hm c13
      obtain rfl := Option.some.inj hm
      exact K0  _ _ ls hw (lv_sub hl [0, 3, 4] rfl)
    · replace hm := ineg hm c13
      refine lv_lload hx hb dX2_waysOn_96 (lv_at hl 4 rfl) ?_
      refine lv_aload_n hx hb dX2_waysOn_98 rfl (lv_at hl 0 rfl) ?_
      refine f_get S hK hw.1 in_X2_waysOn_X2 0 rfl rfl 4 (by decide) (List.mem_of_getElem? (i := 6) rfl) rfl rfl dX2_waysOn_99 ?_
      refine W.lcmp hx hb dX2_waysOn_102 ?_
      refine lv_if_ge (tgt := 158) hx hb dX2_waysOn_103 (by decide) (fun c14 => ?_) (fun c14 => ?_)
      · replace hm := ipos hm c14
        obtain rfl := Option.some.inj hm
        exact K0  _ _ ls hw (lv_sub hl [0, 3, 4] rfl)
      · replace hm := ineg hm c14
        refine lv_aload_n hx hb dX2_waysOn_106 rfl (lv_at hl 0 rfl) ?_
        refine f_get S hK hw.1 in_X2_waysOn_X2 0 rfl rfl 7 (by decide) (List.mem_of_getElem? (i := 3) rfl) rfl rfl dX2_waysOn_107 ?_
        refine lv_iload hx hb dX2_waysOn_110 (lv_at hl 6 rfl) ?_
        refine lv_iload_n hx hb dX2_waysOn_112 rfl (lv_at hl 1 rfl) ?_
        refine lv_iconst (v := 1) hx hb dX2_waysOn_113 (by decide) ?_
        refine lv_iadd hx hb dX2_waysOn_114 ?_
        obtain ⟨r15, h16, hm⟩ := ob hm
        refine k_rVi S hK hw.1 cal_X3_leaves gX2_waysOn_X3_leaves (c_X3_leaves l D cC cI cJ a_se a_se_left se_size se_lastPlace se_left v8 (v1 + (1 : Int32)) r15 h16) (rX2_waysOn_up _ ⟨⟨rfl, rfl⟩, Nat.le_of_ble_eq_true rfl, Nat.le_of_ble_eq_true rfl⟩) [13, 14] rfl 13 rfl rfl rfl hl.1 rfl (Nat.le_of_ble_eq_true rfl) dX2_waysOn_115 ⟨Nat.zero_le _, Nat.zero_le _⟩ ?_
        refine lv_if_eq (tgt := 152) hx hb dX2_waysOn_118 (by decide) (fun c17 => ?_) (fun c17 => ?_)
        · replace hm := ipos hm c17
          refine lv_iinc (v := (v8 + 1)) (lv' := [(8, .int (v8 + 1)), (0, .ref a_sr), (1, .int v1), (2, .ref a_ro), (3, .int v3), (4, .long v4), (6, .long v6)]) hx hb dX2_waysOn_152 hl (k := 6) rfl (by rw [ofi_1]) (by decide) rfl (fun ls hl => ?_)
          refine lv_goto (tgt := 89) hx hb dX2_waysOn_155 (by decide) ?_
          exact ih v4 (v8 + 1) sr_known ro_asked ro_brought ro_friends ro_used ro_crumbs ro_day _ hm  _ _ ls hw (lv_sub hl [1, 2, 3, 4, 5, 6, 0] rfl) K0
        · replace hm := ineg hm c17
          refine lv_aload_n hx hb dX2_waysOn_121 rfl (lv_at hl 2 rfl) ?_
          refine lv_aload_n hx hb dX2_waysOn_122 rfl (lv_at hl 0 rfl) ?_
          refine f_get S hK hw.1 in_X2_waysOn_X2 0 rfl rfl 6 (by decide) (List.mem_of_getElem? (i := 7) rfl) rfl rfl dX2_waysOn_123 ?_
          refine lv_iload hx hb dX2_waysOn_126 (lv_at hl 6 rfl) ?_
          obtain ⟨r18, h19, hm⟩ := ob hm
          refine k_wVi S hK hw cal_X4_tryRide gX2_waysOn_X4_tryRide (c_X4_tryRide l D cC cI cJ a_ro a_mo a_mo_kinds a_mo_days a_mo_rideDays a_mo_helpKinds a_mo_nexts a_mo_helperKinds a_mo_prices a_mo_helpersOfKind a_mo_numbers ro_asked ro_brought ro_friends ro_used ro_crumbs ro_day mo_tasks mo_helpers mo_askedFirst mo_crumbsFirst mo_lastDay mo_kinds mo_days mo_rideDays mo_helpKinds mo_nexts mo_helperKinds mo_prices mo_helpersOfKind mo_numbers v8 (aw _) (hw.own [2, 3, 4, 5, 6, 7, 8, 9, 10, 11, 12] (by decide) rfl) r18 h19) (rX2_waysOn_up _ ⟨⟨rfl, rfl⟩, Nat.le_of_ble_eq_true rfl, Nat.le_of_ble_eq_true rfl⟩) [2, 3, 4, 5, 6, 7, 8, 9, 10, 11, 12] rfl 2 rfl rfl rfl hl.1 rfl (Nat.le_of_ble_eq_true rfl) dX2_waysOn_128 ⟨Nat.zero_le _, Nat.zero_le _⟩ (fun H locs hJ hB => ?_)
          have hw := hJ _ hB rfl
          replace hw : Wd D A _ (wd_11 cC cI cJ a_sr a_sr_known a_ro g_sr_unseen sr_number sr_enough sr_hopeless a_mo a_se a_sr_known sr_known a_ro r18.2.1 r18.2.2.1 ro_friends r18.2.2.2.1 ro_crumbs r18.2.2.2.2 a_mo mo_tasks mo_helpers mo_askedFirst mo_crumbsFirst mo_lastDay a_mo_kinds a_mo_days a_mo_rideDays a_mo_helpKinds a_mo_nexts a_mo_helperKinds a_mo_prices a_mo_helpersOfKind a_mo_numbers a_mo_kinds mo_kinds a_mo_days mo_days a_mo_rideDays mo_rideDays a_mo_helpKinds mo_helpKinds a_mo_nexts mo_nexts a_mo_helperKinds mo_helperKinds a_mo_prices mo_prices a_mo_helpersOfKind mo_helpersOfKind a_mo_numbers mo_numbers a_se se_size se_lastPlace a_se_left a_se_left se_left) H locs := hw
          refine lv_if_eq (tgt := 152) hx hb dX2_waysOn_131 (by decide) (fun c20 => ?_) (fun c20 => ?_)
          · replace hm := ipos hm c20
            refine lv_iinc (v := (v8 + 1)) (lv' := [(8, .int (v8 + 1)), (0, .ref a_sr), (1, .int v1), (2, .ref a_ro), (3, .int v3), (4, .long v4), (6, .long v6)]) hx hb dX2_waysOn_152 hl (k := 6) rfl (by rw [ofi_1]) (by decide) rfl (fun ls hl => ?_)
            refine lv_goto (tgt := 89) hx hb dX2_waysOn_155 (by decide) ?_
            exact ih v4 (v8 + 1) sr_known r18.2.1 r18.2.2.1 ro_friends r18.2.2.2.1 ro_crumbs r18.2.2.2.2 _ hm  _ _ ls hw (lv_sub hl [1, 2, 3, 4, 5, 6, 0] rfl) K0
          · replace hm := ineg hm c20
            refine lv_lload hx hb dX2_waysOn_134 (lv_at hl 4 rfl) ?_
            refine lv_aload_n hx hb dX2_waysOn_136 rfl (lv_at hl 0 rfl) ?_
            refine lv_iload_n hx hb dX2_waysOn_137 rfl (lv_at hl 1 rfl) ?_
            refine lv_iconst (v := 1) hx hb dX2_waysOn_138 (by decide) ?_
            refine lv_iadd hx hb dX2_waysOn_139 ?_
            obtain ⟨r21, h22, hm⟩ := ob hm
            refine k_wSl S hK hw cal_X2_waysOn gX2_waysOn_X2_waysOn (hself sr_number sr_enough sr_hopeless sr_known r18.2.1 r18.2.2.1 ro_friends r18.2.2.2.1 ro_crumbs r18.2.2.2.2 mo_tasks mo_helpers mo_askedFirst mo_crumbsFirst mo_lastDay mo_kinds mo_days mo_rideDays mo_helpKinds mo_nexts mo_helperKinds mo_prices mo_helpersOfKind mo_numbers se_size se_lastPlace se_left (v1 + (1 : Int32)) (aw _) (hw.own [0, 1, 2, 3, 4, 5, 6, 7, 8, 9, 10, 11, 12, 13, 14] (by decide) rfl) r21 h22) (rX2_waysOn_in _) [0, 1, 2, 3, 4, 5, 6, 7, 8, 9, 10, 11, 12, 13, 14] rfl rfl hl.1 rfl (Nat.le_of_ble_eq_true rfl) dX2_waysOn_140 ⟨Nat.zero_le _, Nat.zero_le _⟩ (fun H locs hJ hB => ?_)
            have hw := hJ _ hB rfl
            replace hw : Wd D A _ (wd_11 cC cI cJ a_sr a_sr_known a_ro g_sr_unseen sr_number sr_enough sr_hopeless a_mo a_se a_sr_known r21.2.1 a_ro r21.2.2.1 r21.2.2.2.1 r21.2.2.2.2.1 r21.2.2.2.2.2.1 r21.2.2.2.2.2.2.1 r21.2.2.2.2.2.2.2 a_mo mo_tasks mo_helpers mo_askedFirst mo_crumbsFirst mo_lastDay a_mo_kinds a_mo_days a_mo_rideDays a_mo_helpKinds a_mo_nexts a_mo_helperKinds a_mo_prices a_mo_helpersOfKind a_mo_numbers a_mo_kinds mo_kinds a_mo_days mo_days a_mo_rideDays mo_rideDays a_mo_helpKinds mo_helpKinds a_mo_nexts mo_nexts a_mo_helperKinds mo_helperKinds a_mo_prices mo_prices a_mo_helpersOfKind mo_helpersOfKind a_mo_numbers mo_numbers a_se se_size se_lastPlace a_se_left a_se_left se_left) H locs := hw
            refine lv_ladd hx hb dX2_waysOn_143 ?_
            refine lv_lstore (lv' := [(4, .long (v4 + r21.1)), (0, .ref a_sr), (1, .int v1), (2, .ref a_ro), (3, .int v3), (6, .long v6), (8, .int v8)]) hx hb dX2_waysOn_144 hl (by decide) rfl (fun ls hl => ?_)
            refine lv_aload_n hx hb dX2_waysOn_146 rfl (lv_at hl 3 rfl) ?_
            refine lv_lload hx hb dX2_waysOn_147 (lv_at hl 5 rfl) ?_
            obtain ⟨r23, h24, hm⟩ := ob hm
            refine k_wVv S hK hw cal_X4_unpack gX2_waysOn_X4_unpack (c_X4_unpack l D cC cI cJ a_ro r21.2.2.1 r21.2.2.2.1 r21.2.2.2.2.1 r21.2.2.2.2.2.1 r21.2.2.2.2.2.2.1 r21.2.2.2.2.2.2.2 v6 (aw _) (hw.own [2] (by decide) rfl) r23 h24) (rX2_waysOn_up _ ⟨⟨rfl, rfl⟩, Nat.le_of_ble_eq_true rfl, Nat.le_of_ble_eq_true rfl⟩) [2] rfl 2 rfl rfl rfl hl.1 rfl (Nat.le_of_ble_eq_true rfl) dX2_waysOn_149 ⟨Nat.zero_le _, Nat.zero_le _⟩ (fun H locs hJ hB => ?_)
            have hw := hJ _ hB rfl
            replace hw : Wd D A _ (wd_11 cC cI cJ a_sr a_sr_known a_ro g_sr_unseen sr_number sr_enough sr_hopeless a_mo a_se a_sr_known r21.2.1 a_ro r23.1 r23.2.1 r23.2.2.1 r23.2.2.2.1 r23.2.2.2.2.1 r23.2.2.2.2.2 a_mo mo_tasks mo_helpers mo_askedFirst mo_crumbsFirst mo_lastDay a_mo_kinds a_mo_days a_mo_rideDays a_mo_helpKinds a_mo_nexts a_mo_helperKinds a_mo_prices a_mo_helpersOfKind a_mo_numbers a_mo_kinds mo_kinds a_mo_days mo_days a_mo_rideDays mo_rideDays a_mo_helpKinds mo_helpKinds a_mo_nexts mo_nexts a_mo_helperKinds mo_helperKinds a_mo_prices mo_prices a_mo_helpersOfKind mo_helpersOfKind a_mo_numbers mo_numbers a_se se_size se_lastPlace a_se_left a_se_left se_left) H locs := hw
            refine lv_iinc (v := (v8 + 1)) (lv' := [(8, .int (v8 + 1)), (4, .long (v4 + r21.1)), (0, .ref a_sr), (1, .int v1), (2, .ref a_ro), (3, .int v3), (6, .long v6)]) hx hb dX2_waysOn_152 hl (k := 6) rfl (by rw [ofi_1]) (by decide) rfl (fun ls hl => ?_)
            refine lv_goto (tgt := 89) hx hb dX2_waysOn_155 (by decide) ?_
            exact ih (v4 + r21.1) (v8 + 1) r21.2.1 r23.1 r23.2.1 r23.2.2.1 r23.2.2.2.1 r23.2.2.2.2.1 r23.2.2.2.2.2 _ hm  _ _ ls hw (lv_sub hl [2, 3, 4, 5, 1, 6, 0] rfl) K0
set_option maxHeartbeats 4000000 in
set_option maxRecDepth 100000 in
theorem c_X2_waysOn_n (l : Launch) (D : va_G) (cC cI cJ : ClassId) (a_sr : Nat) (a_sr_known : Nat) (a_ro : Nat) (g_sr_unseen : Nat) (a_mo : Nat) (a_se : Nat) (a_mo_kinds : Nat) (a_mo_days : Nat) (a_mo_rideDays : Nat) (a_mo_helpKinds : Nat) (a_mo_nexts : Nat) (a_mo_helperKinds : Nat) (a_mo_prices : Nat) (a_mo_helpersOfKind : Nat) (a_mo_numbers : Nat) (a_se_left : Nat) (N : Nat) : ∀ (nr : Nat) (sr_number : Int64) (sr_enough : Int64) (sr_hopeless : Int32) (sr_known : (Nat → Int64)) (ro_asked : Int32) (ro_brought : Int32) (ro_friends : Int32) (ro_used : Int32) (ro_crumbs : Int32) (ro_day : Int32) (mo_tasks : Int32) (mo_helpers : Int32) (mo_askedFirst : Int32) (mo_crumbsFirst : Int32) (mo_lastDay : Int32) (mo_kinds : (Nat → Int32)) (mo_days : (Nat → Int32)) (mo_rideDays : (Nat → Int32)) (mo_helpKinds : (Nat → Int32)) (mo_nexts : (Nat → Int32)) (mo_helperKinds : (Nat → Int32)) (mo_prices : (Nat → Int32)) (mo_helpersOfKind : (Nat → Int32)) (mo_numbers : (Nat → Int32)) (se_size : Int32) (se_lastPlace : Int32) (se_left : (Nat → Int32)) (p1 : Int32) (A : Nat → Prop) (hD : va_D A (wd_11 cC cI cJ a_sr a_sr_known a_ro g_sr_unseen sr_number sr_enough sr_hopeless a_mo a_se a_sr_known sr_known a_ro ro_asked ro_brought ro_friends ro_used ro_crumbs ro_day a_mo mo_tasks mo_helpers mo_askedFirst mo_crumbsFirst mo_lastDay a_mo_kinds a_mo_days a_mo_rideDays a_mo_helpKinds a_mo_nexts a_mo_helperKinds a_mo_prices a_mo_helpersOfKind a_mo_numbers a_mo_kinds mo_kinds a_mo_days mo_days a_mo_rideDays mo_rideDays a_mo_helpKinds mo_helpKinds a_mo_nexts mo_nexts a_mo_helperKinds mo_helperKinds a_mo_prices mo_prices a_mo_helpersOfKind mo_helpersOfKind a_mo_numbers mo_numbers a_se se_size se_lastPlace a_se_left a_se_left se_left)) (out : (Int64 × (Nat → Int64) × Int32 × Int32 × Int32 × Int32 × Int32 × Int32)) (hm : m_X2_waysOn N nr sr_number sr_enough sr_hopeless sr_known ro_asked ro_brought ro_friends ro_used ro_crumbs ro_day mo_lastDay mo_kinds mo_rideDays mo_helpKinds mo_nexts mo_helpersOfKind se_lastPlace se_left p1 = some out), WrL l yX2_waysOn wsX2_waysOn (rX2_waysOn nr) D (tyK cC cI cJ) [.ref a_sr, .int p1] A (wd_11 cC cI cJ a_sr a_sr_known a_ro g_sr_unseen sr_number sr_enough sr_hopeless a_mo a_se a_sr_known sr_known a_ro ro_asked ro_brought ro_friends ro_used ro_crumbs ro_day a_mo mo_tasks mo_helpers mo_askedFirst mo_crumbsFirst mo_lastDay a_mo_kinds a_mo_days a_mo_rideDays a_mo_helpKinds a_mo_nexts a_mo_helperKinds a_mo_prices a_mo_helpersOfKind a_mo_numbers a_mo_kinds mo_kinds a_mo_days mo_days a_mo_rideDays mo_rideDays a_mo_helpKinds mo_helpKinds a_mo_nexts mo_nexts a_mo_helperKinds mo_helperKinds a_mo_prices mo_prices a_mo_helpersOfKind mo_helpersOfKind a_mo_numbers mo_numbers a_se se_size se_lastPlace a_se_left a_se_left se_left) (Bw0 D (wd_11 cC cI cJ a_sr a_sr_known a_ro g_sr_unseen sr_number sr_enough sr_hopeless a_mo a_se a_sr_known out.2.1 a_ro out.2.2.1 out.2.2.2.1 out.2.2.2.2.1 out.2.2.2.2.2.1 out.2.2.2.2.2.2.1 out.2.2.2.2.2.2.2 a_mo mo_tasks mo_helpers mo_askedFirst mo_crumbsFirst mo_lastDay a_mo_kinds a_mo_days a_mo_rideDays a_mo_helpKinds a_mo_nexts a_mo_helperKinds a_mo_prices a_mo_helpersOfKind a_mo_numbers a_mo_kinds mo_kinds a_mo_days mo_days a_mo_rideDays mo_rideDays a_mo_helpKinds mo_helpKinds a_mo_nexts mo_nexts a_mo_helperKinds mo_helperKinds a_mo_prices mo_prices a_mo_helpersOfKind mo_helpersOfKind a_mo_numbers mo_numbers a_se se_size se_lastPlace a_se_left a_se_left se_left)) out.1 := by
  intro nr
  induction nr with
  | zero => intro sr_number sr_enough sr_hopeless sr_known ro_asked ro_brought ro_friends ro_used ro_crumbs ro_day mo_tasks mo_helpers mo_askedFirst mo_crumbsFirst mo_lastDay mo_kinds mo_days mo_rideDays mo_helpKinds mo_nexts mo_helperKinds mo_prices mo_helpersOfKind mo_numbers se_size se_lastPlace se_left p1 A hD out hm; cases (show (none : Option (Int64 × (Nat → Int64) × Int32 × Int32 × Int32 × Int32 × Int32 × Int32)) = some out from hm)
  | succ nr hself =>
    intro sr_number sr_enough sr_hopeless sr_known ro_asked ro_brought ro_friends ro_used ro_crumbs ro_day mo_tasks mo_helpers mo_askedFirst mo_crumbsFirst mo_lastDay mo_kinds mo_days mo_rideDays mo_helpKinds mo_nexts mo_helperKinds mo_prices mo_helpersOfKind mo_numbers se_size se_lastPlace se_left p1 A hD out hm
    rw [m_X2_waysOn] at hm
    refine enter (cc := cX2_waysOn) (maxL := 9) (ret := (some .long)) (lv := [(0, .ref a_sr), (1, .int p1)]) (by decide) rfl (Nat.le_of_ble_eq_true rfl) rfl ?_
    intro p e s m args below meth c S hr hlk hK hP ls hl
    replace S : CallFix p m c cX2_waysOn 9 s args wsX2_waysOn RX2 := S
    have hx := S.1
    have hb := S.2.1
    have hw : Wd D A s.heap (wd_11 cC cI cJ a_sr a_sr_known a_ro g_sr_unseen sr_number sr_enough sr_hopeless a_mo a_se a_sr_known sr_known a_ro ro_asked ro_brought ro_friends ro_used ro_crumbs ro_day a_mo mo_tasks mo_helpers mo_askedFirst mo_crumbsFirst mo_lastDay a_mo_kinds a_mo_days a_mo_rideDays a_mo_helpKinds a_mo_nexts a_mo_helperKinds a_mo_prices a_mo_helpersOfKind a_mo_numbers a_mo_kinds mo_kinds a_mo_days mo_days a_mo_rideDays mo_rideDays a_mo_helpKinds mo_helpKinds a_mo_nexts mo_nexts a_mo_helperKinds mo_helperKinds a_mo_prices mo_prices a_mo_helpersOfKind mo_helpersOfKind a_mo_numbers mo_numbers a_se se_size se_lastPlace a_se_left a_se_left se_left) s.heap [] := ⟨hP, hD, va_S.rf⟩
    have hw0 := hw
    refine lv_aload_n hx hb dX2_waysOn_0 rfl (lv_at hl 0 rfl) ?_
    refine f_get S hK hw.1 in_X2_waysOn_X2 0 rfl rfl 1 (by decide) (List.mem_of_getElem? (i := 1) rfl) rfl rfl dX2_waysOn_1 ?_
    refine lv_astore_n (lv' := [(2, .ref a_ro), (0, .ref a_sr), (1, .int p1)]) hx hb dX2_waysOn_4 rfl hl (by decide) rfl (fun ls hl => ?_)
    refine lv_aload_n hx hb dX2_waysOn_5 rfl (lv_at hl 1 rfl) ?_
    refine f_get S hK hw.1 in_X2_waysOn_X2 0 rfl rfl 5 (by decide) (List.mem_of_getElem? (i := 2) rfl) rfl rfl dX2_waysOn_6 ?_
    refine lv_if_eq (tgt := 14) hx hb dX2_waysOn_9 (by decide) (fun c1 => ?_) (fun c1 => ?_)
    · replace hm := ipos hm c1
      refine lv_aload_n hx hb dX2_waysOn_14 rfl (lv_at hl 0 rfl) ?_
      obtain ⟨r2, h3, hm⟩ := ob hm
      refine k_rVi S hK hw.1 cal_X4_openTasks gX2_waysOn_X4_openTasks (c_X4_openTasks l D cC cI cJ a_ro ro_asked ro_brought ro_friends ro_used ro_crumbs ro_day r2 h3) (rX2_waysOn_up _ ⟨⟨rfl, rfl⟩, Nat.le_of_ble_eq_true rfl, Nat.le_of_ble_eq_true rfl⟩) [2] rfl 2 rfl rfl rfl hl.1 rfl (Nat.le_of_ble_eq_true rfl) dX2_waysOn_15 ⟨Nat.zero_le _, Nat.zero_le _⟩ ?_
      refine lv_if_ne (tgt := 38) hx hb dX2_waysOn_18 (by decide) (fun c4 => ?_) (fun c4 => ?_)
      · replace hm := ineg hm c4
        refine lv_iload_n hx hb dX2_waysOn_38 rfl (lv_at hl 2 rfl) ?_
        refine lv_bipush (v := 8) hx hb dX2_waysOn_39 (by decide) ?_
        refine lv_icmp_lt (tgt := 46) hx hb dX2_waysOn_41 (by decide) (fun c5 => ?_) (fun c5 => ?_)
        · replace hm := ipos hm c5
          refine lv_aload_n hx hb dX2_waysOn_46 rfl (lv_at hl 0 rfl) ?_
          refine f_get S hK hw.1 in_X2_waysOn_X4 2 rfl rfl 1 (by decide) (List.mem_of_getElem? (i := 4) rfl) rfl rfl dX2_waysOn_47 ?_
          refine lv_sipush (v := 128) hx hb dX2_waysOn_50 (by decide) ?_
          refine lv_imul hx hb dX2_waysOn_53 ?_
          refine lv_aload_n hx hb dX2_waysOn_54 rfl (lv_at hl 0 rfl) ?_
          refine f_get S hK hw.1 in_X2_waysOn_X4 2 rfl rfl 3 (by decide) (List.mem_of_getElem? (i := 5) rfl) rfl rfl dX2_waysOn_55 ?_
          refine lv_iadd hx hb dX2_waysOn_58 ?_
          obtain ⟨y6, e7, hm⟩ := ob hm
          refine f_name e7 ?_
          refine lv_istore_n (lv' := [(3, .int y6), (2, .ref a_ro), (0, .ref a_sr), (1, .int p1)]) hx hb dX2_waysOn_59 rfl hl (by decide) rfl (fun ls hl => ?_)
          refine lv_aload_n hx hb dX2_waysOn_60 rfl (lv_at hl 2 rfl) ?_
          refine lv_iload_n hx hb dX2_waysOn_61 rfl (lv_at hl 0 rfl) ?_
          obtain ⟨r8, h9, hm⟩ := ob hm
          refine k_rVl S hK hw.1 cal_X2_recall gX2_waysOn_X2_recall (c_X2_recall l D cC cI cJ a_sr a_sr_known a_ro g_sr_unseen a_mo a_se sr_number sr_enough sr_hopeless sr_known y6 r8 h9) (rX2_waysOn_up _ ⟨⟨rfl, rfl⟩, Nat.le_of_ble_eq_true rfl, Nat.le_of_ble_eq_true rfl⟩) [0, 1] rfl 0 rfl rfl rfl hl.1 rfl (Nat.le_of_ble_eq_true rfl) dX2_waysOn_62 ⟨Nat.zero_le _, Nat.zero_le _⟩ ?_
          refine lv_lstore (lv' := [(4, .long r8), (3, .int y6), (2, .ref a_ro), (0, .ref a_sr), (1, .int p1)]) hx hb dX2_waysOn_65 hl (by decide) rfl (fun ls hl => ?_)
          refine lv_lload hx hb dX2_waysOn_67 (lv_at hl 0 rfl) ?_
          refine lv_lconst (v := 0) hx hb dX2_waysOn_69 (by decide) ?_
          refine W.lcmp hx hb dX2_waysOn_70 ?_
          refine lv_if_lt (tgt := 77) hx hb dX2_waysOn_71 (by decide) (fun c10 => ?_) (fun c10 => ?_)
          · replace hm := ipos hm c10
            refine lv_lconst (v := 0) hx hb dX2_waysOn_77 (by decide) ?_
            refine lv_lstore (lv' := [(4, .long (0 : Int64)), (3, .int y6), (2, .ref a_ro), (0, .ref a_sr), (1, .int p1)]) hx hb dX2_waysOn_78 hl (by decide) rfl (fun ls hl => ?_)
            refine lv_aload_n hx hb dX2_waysOn_80 rfl (lv_at hl 2 rfl) ?_
            obtain ⟨r11, h12, hm⟩ := ob hm
            refine k_rVl S hK hw.1 cal_X4_packed gX2_waysOn_X4_packed (c_X4_packed l D cC cI cJ a_ro ro_asked ro_brought ro_friends ro_used ro_crumbs ro_day r11 h12) (rX2_waysOn_up _ ⟨⟨rfl, rfl⟩, Nat.le_of_ble_eq_true rfl, Nat.le_of_ble_eq_true rfl⟩) [2] rfl 2 rfl rfl rfl hl.1 rfl (Nat.le_of_ble_eq_true rfl) dX2_waysOn_81 ⟨Nat.zero_le _, Nat.zero_le _⟩ ?_
            refine lv_lstore (lv' := [(6, .long r11), (4, .long (0 : Int64)), (3, .int y6), (2, .ref a_ro), (0, .ref a_sr), (1, .int p1)]) hx hb dX2_waysOn_84 hl (by decide) rfl (fun ls hl => ?_)
            refine lv_iconst (v := 0) hx hb dX2_waysOn_86 (by decide) ?_
            refine lv_istore (lv' := [(8, .int (0 : Int32)), (6, .long r11), (4, .long (0 : Int64)), (3, .int y6), (2, .ref a_ro), (0, .ref a_sr), (1, .int p1)]) hx hb dX2_waysOn_87 hl (by decide) rfl (fun ls hl => ?_)
            obtain ⟨r25, h26, hm⟩ := ob hm
            refine t_X2_waysOn_89 l S hK a_sr a_sr_known a_ro g_sr_unseen a_mo a_se a_mo_kinds a_mo_days a_mo_rideDays a_mo_helpKinds a_mo_nexts a_mo_helperKinds a_mo_prices a_mo_helpersOfKind a_mo_numbers a_se_left (m_X2_waysOn N nr) p1 y6 r11 sr_number sr_enough sr_hopeless mo_tasks mo_helpers mo_askedFirst mo_crumbsFirst mo_lastDay mo_kinds mo_days mo_rideDays mo_helpKinds mo_nexts mo_helperKinds mo_prices mo_helpersOfKind mo_numbers se_size se_lastPlace se_left hself N (0 : Int64) (0 : Int32) sr_known ro_asked ro_brought ro_friends ro_used ro_crumbs ro_day r25 h26  _ _ ls hw (lv_sub hl [5, 6, 4, 3, 2, 1, 0] rfl) (fun H locs ls hw hl => ?_)
            refine lv_aload_n hx hb dX2_waysOn_158 rfl (lv_at hl 0 rfl) ?_
            refine lv_iload_n hx hb dX2_waysOn_159 rfl (lv_at hl 1 rfl) ?_
            refine lv_lload hx hb dX2_waysOn_160 (lv_at hl 2 rfl) ?_
            obtain ⟨r27, h28, hm⟩ := ob hm
            refine k_wVv S hK hw cal_X2_remember gX2_waysOn_X2_remember (c_X2_remember l D cC cI cJ a_sr a_sr_known a_ro g_sr_unseen a_mo a_se sr_number sr_enough sr_hopeless r25.2.1 y6 r25.1 (aw _) (hw.own [0, 1] (by decide) rfl) r27 h28) (rX2_waysOn_up _ ⟨⟨rfl, rfl⟩, Nat.le_of_ble_eq_true rfl, Nat.le_of_ble_eq_true rfl⟩) [0, 1] rfl 0 rfl rfl rfl hl.1 rfl (Nat.le_of_ble_eq_true rfl) dX2_waysOn_162 ⟨Nat.zero_le _, Nat.zero_le _⟩ (fun H locs hJ hB => ?_)
            have hw := hJ _ hB rfl
            replace hw : Wd D A _ (wd_11 cC cI cJ a_sr a_sr_known a_ro g_sr_unseen sr_number sr_enough sr_hopeless a_mo a_se a_sr_known r27 a_ro r25.2.2.1 r25.2.2.2.1 r25.2.2.2.2.1 r25.2.2.2.2.2.1 r25.2.2.2.2.2.2.1 r25.2.2.2.2.2.2.2 a_mo mo_tasks mo_helpers mo_askedFirst mo_crumbsFirst mo_lastDay a_mo_kinds a_mo_days a_mo_rideDays a_mo_helpKinds a_mo_nexts a_mo_helperKinds a_mo_prices a_mo_helpersOfKind a_mo_numbers a_mo_kinds mo_kinds a_mo_days mo_days a_mo_rideDays mo_rideDays a_mo_helpKinds mo_helpKinds a_mo_nexts mo_nexts a_mo_helperKinds mo_helperKinds a_mo_prices mo_prices a_mo_helpersOfKind mo_helpersOfKind a_mo_numbers mo_numbers a_se se_size se_lastPlace a_se_left a_se_left se_left) H locs := hw
            refine lv_lload hx hb dX2_waysOn_165 (lv_at hl 2 rfl) ?_
            obtain rfl := Option.some.inj hm
            exact e_WL S hr hlk hw rfl hw.1 dX2_waysOn_167
          · replace hm := ineg hm c10
            refine lv_lload hx hb dX2_waysOn_74 (lv_at hl 0 rfl) ?_
            obtain rfl := Option.some.inj hm
            exact e_WL S hr hlk hw rfl hw.1 dX2_waysOn_76
        · replace hm := ineg hm c5
          refine lv_lconst (v := 0) hx hb dX2_waysOn_44 (by decide) ?_
          obtain rfl := Option.some.inj hm
          exact e_WL S hr hlk hw rfl hw.1 dX2_waysOn_45
      · replace hm := ipos hm c4
        refine lv_aload_n hx hb dX2_waysOn_21 rfl (lv_at hl 1 rfl) ?_
        refine f_get S hK hw.1 in_X2_waysOn_X2 0 rfl rfl 7 (by decide) (List.mem_of_getElem? (i := 3) rfl) rfl rfl dX2_waysOn_22 ?_
        refine lv_iload_n hx hb dX2_waysOn_25 rfl (lv_at hl 2 rfl) ?_
        obtain ⟨r29, h30, hm⟩ := ob hm
        refine k_rVi S hK hw.1 cal_X3_isWithin gX2_waysOn_X3_isWithin (c_X3_isWithin l D cC cI cJ a_se a_se_left se_size se_lastPlace se_left p1 r29 h30) (rX2_waysOn_up _ ⟨⟨rfl, rfl⟩, Nat.le_of_ble_eq_true rfl, Nat.le_of_ble_eq_true rfl⟩) [13, 14] rfl 13 rfl rfl rfl hl.1 rfl (Nat.le_of_ble_eq_true rfl) dX2_waysOn_26 ⟨Nat.zero_le _, Nat.zero_le _⟩ ?_
        refine lv_if_eq (tgt := 36) hx hb dX2_waysOn_29 (by decide) (fun c31 => ?_) (fun c31 => ?_)
        · replace hm := ipos hm c31
          refine lv_lconst (v := 0) hx hb dX2_waysOn_36 (by decide) ?_
          obtain rfl := Option.some.inj hm
          exact e_WL S hr hlk hw rfl hw.1 dX2_waysOn_37
        · replace hm := ineg hm c31
          refine lv_lconst (v := 1) hx hb dX2_waysOn_32 (by decide) ?_
          refine lv_goto (tgt := 37) hx hb dX2_waysOn_33 (by decide) ?_
          obtain rfl := Option.some.inj hm
          exact e_WL S hr hlk hw rfl hw.1 dX2_waysOn_37
    · replace hm := ineg hm c1
      refine lv_lconst (v := 0) hx hb dX2_waysOn_12 (by decide) ?_
      obtain rfl := Option.some.inj hm
      exact e_WL S hr hlk hw rfl hw.1 dX2_waysOn_13
theorem c_X2_waysOn (l : Launch) (D : va_G) (cC cI cJ : ClassId) (a_sr : Nat) (a_sr_known : Nat) (a_ro : Nat) (g_sr_unseen : Nat) (a_mo : Nat) (a_se : Nat) (a_mo_kinds : Nat) (a_mo_days : Nat) (a_mo_rideDays : Nat) (a_mo_helpKinds : Nat) (a_mo_nexts : Nat) (a_mo_helperKinds : Nat) (a_mo_prices : Nat) (a_mo_helpersOfKind : Nat) (a_mo_numbers : Nat) (a_se_left : Nat) (sr_number : Int64) (sr_enough : Int64) (sr_hopeless : Int32) (sr_known : (Nat → Int64)) (ro_asked : Int32) (ro_brought : Int32) (ro_friends : Int32) (ro_used : Int32) (ro_crumbs : Int32) (ro_day : Int32) (mo_tasks : Int32) (mo_helpers : Int32) (mo_askedFirst : Int32) (mo_crumbsFirst : Int32) (mo_lastDay : Int32) (mo_kinds : (Nat → Int32)) (mo_days : (Nat → Int32)) (mo_rideDays : (Nat → Int32)) (mo_helpKinds : (Nat → Int32)) (mo_nexts : (Nat → Int32)) (mo_helperKinds : (Nat → Int32)) (mo_prices : (Nat → Int32)) (mo_helpersOfKind : (Nat → Int32)) (mo_numbers : (Nat → Int32)) (se_size : Int32) (se_lastPlace : Int32) (se_left : (Nat → Int32)) (p1 : Int32) (N : Nat) (nr : Nat) (A : Nat → Prop) (hD : va_D A (wd_11 cC cI cJ a_sr a_sr_known a_ro g_sr_unseen sr_number sr_enough sr_hopeless a_mo a_se a_sr_known sr_known a_ro ro_asked ro_brought ro_friends ro_used ro_crumbs ro_day a_mo mo_tasks mo_helpers mo_askedFirst mo_crumbsFirst mo_lastDay a_mo_kinds a_mo_days a_mo_rideDays a_mo_helpKinds a_mo_nexts a_mo_helperKinds a_mo_prices a_mo_helpersOfKind a_mo_numbers a_mo_kinds mo_kinds a_mo_days mo_days a_mo_rideDays mo_rideDays a_mo_helpKinds mo_helpKinds a_mo_nexts mo_nexts a_mo_helperKinds mo_helperKinds a_mo_prices mo_prices a_mo_helpersOfKind mo_helpersOfKind a_mo_numbers mo_numbers a_se se_size se_lastPlace a_se_left a_se_left se_left)) (out : (Int64 × (Nat → Int64) × Int32 × Int32 × Int32 × Int32 × Int32 × Int32)) (hm : m_X2_waysOn N nr sr_number sr_enough sr_hopeless sr_known ro_asked ro_brought ro_friends ro_used ro_crumbs ro_day mo_lastDay mo_kinds mo_rideDays mo_helpKinds mo_nexts mo_helpersOfKind se_lastPlace se_left p1 = some out) : WrL l yX2_waysOn wsX2_waysOn (rX2_waysOn nr) D (tyK cC cI cJ) [.ref a_sr, .int p1] A (wd_11 cC cI cJ a_sr a_sr_known a_ro g_sr_unseen sr_number sr_enough sr_hopeless a_mo a_se a_sr_known sr_known a_ro ro_asked ro_brought ro_friends ro_used ro_crumbs ro_day a_mo mo_tasks mo_helpers mo_askedFirst mo_crumbsFirst mo_lastDay a_mo_kinds a_mo_days a_mo_rideDays a_mo_helpKinds a_mo_nexts a_mo_helperKinds a_mo_prices a_mo_helpersOfKind a_mo_numbers a_mo_kinds mo_kinds a_mo_days mo_days a_mo_rideDays mo_rideDays a_mo_helpKinds mo_helpKinds a_mo_nexts mo_nexts a_mo_helperKinds mo_helperKinds a_mo_prices mo_prices a_mo_helpersOfKind mo_helpersOfKind a_mo_numbers mo_numbers a_se se_size se_lastPlace a_se_left a_se_left se_left) (Bw0 D (wd_11 cC cI cJ a_sr a_sr_known a_ro g_sr_unseen sr_number sr_enough sr_hopeless a_mo a_se a_sr_known out.2.1 a_ro out.2.2.1 out.2.2.2.1 out.2.2.2.2.1 out.2.2.2.2.2.1 out.2.2.2.2.2.2.1 out.2.2.2.2.2.2.2 a_mo mo_tasks mo_helpers mo_askedFirst mo_crumbsFirst mo_lastDay a_mo_kinds a_mo_days a_mo_rideDays a_mo_helpKinds a_mo_nexts a_mo_helperKinds a_mo_prices a_mo_helpersOfKind a_mo_numbers a_mo_kinds mo_kinds a_mo_days mo_days a_mo_rideDays mo_rideDays a_mo_helpKinds mo_helpKinds a_mo_nexts mo_nexts a_mo_helperKinds mo_helperKinds a_mo_prices mo_prices a_mo_helpersOfKind mo_helpersOfKind a_mo_numbers mo_numbers a_se se_size se_lastPlace a_se_left a_se_left se_left)) out.1 := c_X2_waysOn_n l D cC cI cJ a_sr a_sr_known a_ro g_sr_unseen a_mo a_se a_mo_kinds a_mo_days a_mo_rideDays a_mo_helpKinds a_mo_nexts a_mo_helperKinds a_mo_prices a_mo_helpersOfKind a_mo_numbers a_se_left N nr sr_number sr_enough sr_hopeless sr_known ro_asked ro_brought ro_friends ro_used ro_crumbs ro_day mo_tasks mo_helpers mo_askedFirst mo_crumbsFirst mo_lastDay mo_kinds mo_days mo_rideDays mo_helpKinds mo_nexts mo_helperKinds mo_prices mo_helpersOfKind mo_numbers se_size se_lastPlace se_left p1 A hD out hm

abbrev rX2_endsWellWith : Room := { frames := 14, cells := 0, slots := 0, locals := 379 }
theorem cal_X2_endsWellWith : Cal yX2_endsWellWith wsX2_endsWellWith cX2_endsWellWith 4 (some .boolean) RX2 3 := ⟨⟨_, rfl⟩, rfl, by decide +kernel, by decide +kernel, by decide +kernel⟩
theorem in_X2_endsWellWith_X2 : ∀ w ∈ wsX20, w ∈ wsX2_endsWellWith := fun _ h => (List.mem_cons_of_mem _ (List.mem_append_left _ (List.mem_append_left _ (List.mem_append_left _ (List.mem_append_right _ h)))))
set_option maxHeartbeats 4000000 in
set_option maxRecDepth 100000 in
theorem c_X2_endsWellWith (l : Launch) (D : va_G) (cC cI cJ : ClassId) (a_sr : Nat) (a_sr_known : Nat) (a_ro : Nat) (a_us : Nat) (g_sr_months : Nat) (g_sr_heeded : Nat) (a_us_left : Nat) (a_mo : Nat) (a_mo_kinds : Nat) (a_mo_days : Nat) (a_mo_rideDays : Nat) (a_mo_helpKinds : Nat) (a_mo_nexts : Nat) (a_mo_helperKinds : Nat) (a_mo_prices : Nat) (a_mo_helpersOfKind : Nat) (a_mo_numbers : Nat) (a_fr : Nat) (sr_number : Int64) (sr_enough : Int64) (sr_hopeless : Int32) (sr_known : (Nat → Int64)) (ro_asked : Int32) (ro_brought : Int32) (ro_friends : Int32) (ro_used : Int32) (ro_crumbs : Int32) (ro_day : Int32) (us_size : Int32) (us_lastPlace : Int32) (us_left : (Nat → Int32)) (mo_tasks : Int32) (mo_helpers : Int32) (mo_askedFirst : Int32) (mo_crumbsFirst : Int32) (mo_lastDay : Int32) (mo_kinds : (Nat → Int32)) (mo_days : (Nat → Int32)) (mo_rideDays : (Nat → Int32)) (mo_helpKinds : (Nat → Int32)) (mo_nexts : (Nat → Int32)) (mo_helperKinds : (Nat → Int32)) (mo_prices : (Nat → Int32)) (mo_helpersOfKind : (Nat → Int32)) (mo_numbers : (Nat → Int32)) (fr_asked : Int32) (fr_brought : Int32) (fr_friends : Int32) (fr_used : Int32) (fr_crumbs : Int32) (fr_day : Int32) (p2 : Int32) (N : Nat) (A : Nat → Prop) (hD : va_D A (wd_9 cC cI cJ a_sr a_sr_known a_ro a_us sr_number sr_enough sr_hopeless g_sr_months g_sr_heeded a_sr_known sr_known a_ro ro_asked ro_brought ro_friends ro_used ro_crumbs ro_day a_us us_size us_lastPlace a_us_left a_us_left us_left a_mo mo_tasks mo_helpers mo_askedFirst mo_crumbsFirst mo_lastDay a_mo_kinds a_mo_days a_mo_rideDays a_mo_helpKinds a_mo_nexts a_mo_helperKinds a_mo_prices a_mo_helpersOfKind a_mo_numbers a_mo_kinds mo_kinds a_mo_days mo_days a_mo_rideDays mo_rideDays a_mo_helpKinds mo_helpKinds a_mo_nexts mo_nexts a_mo_helperKinds mo_helperKinds a_mo_prices mo_prices a_mo_helpersOfKind mo_helpersOfKind a_mo_numbers mo_numbers a_fr fr_asked fr_brought fr_friends fr_used fr_crumbs fr_day)) (out : (Int32 × Int64 × Int64 × Int32 × (Nat → Int64) × Int32 × Int32 × Int32 × Int32 × Int32 × Int32)) (hm : m_X2_endsWellWith N sr_number sr_known us_lastPlace us_left mo_tasks mo_lastDay mo_kinds mo_rideDays mo_helpKinds mo_nexts mo_helpersOfKind fr_asked fr_brought fr_friends fr_used fr_crumbs fr_day p2 = some out) : WrI l yX2_endsWellWith wsX2_endsWellWith rX2_endsWellWith D (tyK cC cI cJ) [.ref a_sr, .ref a_mo, .ref a_fr, .int p2] A (wd_9 cC cI cJ a_sr a_sr_known a_ro a_us sr_number sr_enough sr_hopeless g_sr_months g_sr_heeded a_sr_known sr_known a_ro ro_asked ro_brought ro_friends ro_used ro_crumbs ro_day a_us us_size us_lastPlace a_us_left a_us_left us_left a_mo mo_tasks mo_helpers mo_askedFirst mo_crumbsFirst mo_lastDay a_mo_kinds a_mo_days a_mo_rideDays a_mo_helpKinds a_mo_nexts a_mo_helperKinds a_mo_prices a_mo_helpersOfKind a_mo_numbers a_mo_kinds mo_kinds a_mo_days mo_days a_mo_rideDays mo_rideDays a_mo_helpKinds mo_helpKinds a_mo_nexts mo_nexts a_mo_helperKinds mo_helperKinds a_mo_prices mo_prices a_mo_helpersOfKind mo_helpersOfKind a_mo_numbers mo_numbers a_fr fr_asked fr_brought fr_friends fr_used fr_crumbs fr_day) (Bw0 D (wd_9 cC cI cJ a_sr a_sr_known a_ro a_us out.2.1 out.2.2.1 out.2.2.2.1 a_mo a_us a_sr_known out.2.2.2.2.1 a_ro out.2.2.2.2.2.1 out.2.2.2.2.2.2.1 out.2.2.2.2.2.2.2.1 out.2.2.2.2.2.2.2.2.1 out.2.2.2.2.2.2.2.2.2.1 out.2.2.2.2.2.2.2.2.2.2 a_us us_size us_lastPlace a_us_left a_us_left us_left a_mo mo_tasks mo_helpers mo_askedFirst mo_crumbsFirst mo_lastDay a_mo_kinds a_mo_days a_mo_rideDays a_mo_helpKinds a_mo_nexts a_mo_helperKinds a_mo_prices a_mo_helpersOfKind a_mo_numbers a_mo_kinds mo_kinds a_mo_days mo_days a_mo_rideDays mo_rideDays a_mo_helpKinds mo_helpKinds a_mo_nexts mo_nexts a_mo_helperKinds mo_helperKinds a_mo_prices mo_prices a_mo_helpersOfKind mo_helpersOfKind a_mo_numbers mo_numbers a_fr fr_asked fr_brought fr_friends fr_used fr_crumbs fr_day)) out.1 := by
  unfold m_X2_endsWellWith at hm
  refine enter (cc := cX2_endsWellWith) (maxL := 4) (ret := (some .boolean)) (lv := [(0, .ref a_sr), (1, .ref a_mo), (2, .ref a_fr), (3, .int p2)]) (by decide) rfl (Nat.le_of_ble_eq_true rfl) rfl ?_
  intro p e s m args below meth c S hr hlk hK hP ls hl
  replace S : CallFix p m c cX2_endsWellWith 4 s args wsX2_endsWellWith RX2 := S
  have hx := S.1
  have hb := S.2.1
  have hw : Wd D A s.heap (wd_9 cC cI cJ a_sr a_sr_known a_ro a_us sr_number sr_enough sr_hopeless g_sr_months g_sr_heeded a_sr_known sr_known a_ro ro_asked ro_brought ro_friends ro_used ro_crumbs ro_day a_us us_size us_lastPlace a_us_left a_us_left us_left a_mo mo_tasks mo_helpers mo_askedFirst mo_crumbsFirst mo_lastDay a_mo_kinds a_mo_days a_mo_rideDays a_mo_helpKinds a_mo_nexts a_mo_helperKinds a_mo_prices a_mo_helpersOfKind a_mo_numbers a_mo_kinds mo_kinds a_mo_days mo_days a_mo_rideDays mo_rideDays a_mo_helpKinds mo_helpKinds a_mo_nexts mo_nexts a_mo_helperKinds mo_helperKinds a_mo_prices mo_prices a_mo_helpersOfKind mo_helpersOfKind a_mo_numbers mo_numbers a_fr fr_asked fr_brought fr_friends fr_used fr_crumbs fr_day) s.heap [] := ⟨hP, hD, va_S.rf⟩
  have hw0 := hw
  refine lv_aload_n hx hb dX2_endsWellWith_0 rfl (lv_at hl 0 rfl) ?_
  refine lv_aload_n hx hb dX2_endsWellWith_1 rfl (lv_at hl 1 rfl) ?_
  refine lv_aload_n hx hb dX2_endsWellWith_2 rfl (lv_at hl 2 rfl) ?_
  refine lv_iload_n hx hb dX2_endsWellWith_3 rfl (lv_at hl 3 rfl) ?_
  refine lv_aload_n hx hb dX2_endsWellWith_4 rfl (lv_at hl 0 rfl) ?_
  refine f_get S hK hw.1 in_X2_endsWellWith_X2 0 rfl rfl 2 (by decide) (List.mem_of_getElem? (i := 1) rfl) rfl rfl dX2_endsWellWith_5 ?_
  refine lv_lconst (v := 1) hx hb dX2_endsWellWith_8 (by decide) ?_
  obtain ⟨r1, h2, hm⟩ := ob hm
  refine k_wVv S hK hw cal_X2_begin gX2_endsWellWith_X2_begin (c_X2_begin l D cC cI cJ a_sr a_sr_known a_ro a_us g_sr_months g_sr_heeded a_mo a_mo_kinds a_mo_days a_mo_rideDays a_mo_helpKinds a_mo_nexts a_mo_helperKinds a_mo_prices a_mo_helpersOfKind a_mo_numbers a_fr a_us sr_number sr_enough sr_hopeless sr_known ro_asked ro_brought ro_friends ro_used ro_crumbs ro_day mo_tasks mo_helpers mo_askedFirst mo_crumbsFirst mo_lastDay mo_kinds mo_days mo_rideDays mo_helpKinds mo_nexts mo_helperKinds mo_prices mo_helpersOfKind mo_numbers fr_asked fr_brought fr_friends fr_used fr_crumbs fr_day p2 (1 : Int64) N (aw _) (hw.own [0, 1, 2, 5, 6, 7, 8, 9, 10, 11, 12, 13, 14, 15] (by decide) rfl) r1 h2) ⟨⟨rfl, rfl⟩, Nat.le_of_ble_eq_true rfl, Nat.le_of_ble_eq_true rfl⟩ [0, 1, 2, 5, 6, 7, 8, 9, 10, 11, 12, 13, 14, 15] rfl 0 rfl rfl rfl hl.1 rfl (Nat.le_of_ble_eq_true rfl) dX2_endsWellWith_9 ⟨Nat.zero_le _, Nat.zero_le _⟩ (fun H locs hJ hB => ?_)
  have hw := hJ _ hB rfl
  replace hw : Wd D A _ (wd_9 cC cI cJ a_sr a_sr_known a_ro a_us r1.1 r1.2.1 r1.2.2.1 a_mo a_us a_sr_known sr_known a_ro r1.2.2.2.1 r1.2.2.2.2.1 r1.2.2.2.2.2.1 r1.2.2.2.2.2.2.1 r1.2.2.2.2.2.2.2.1 r1.2.2.2.2.2.2.2.2 a_us us_size us_lastPlace a_us_left a_us_left us_left a_mo mo_tasks mo_helpers mo_askedFirst mo_crumbsFirst mo_lastDay a_mo_kinds a_mo_days a_mo_rideDays a_mo_helpKinds a_mo_nexts a_mo_helperKinds a_mo_prices a_mo_helpersOfKind a_mo_numbers a_mo_kinds mo_kinds a_mo_days mo_days a_mo_rideDays mo_rideDays a_mo_helpKinds mo_helpKinds a_mo_nexts mo_nexts a_mo_helperKinds mo_helperKinds a_mo_prices mo_prices a_mo_helpersOfKind mo_helpersOfKind a_mo_numbers mo_numbers a_fr fr_asked fr_brought fr_friends fr_used fr_crumbs fr_day) H locs := hw
  refine lv_aload_n hx hb dX2_endsWellWith_12 rfl (lv_at hl 0 rfl) ?_
  refine lv_iconst (v := 0) hx hb dX2_endsWellWith_13 (by decide) ?_
  obtain ⟨r3, h4, hm⟩ := ob hm
  refine k_wSl S hK hw cal_X2_waysOn gX2_endsWellWith_X2_waysOn (c_X2_waysOn l D cC cI cJ a_sr a_sr_known a_ro a_us a_mo a_us a_mo_kinds a_mo_days a_mo_rideDays a_mo_helpKinds a_mo_nexts a_mo_helperKinds a_mo_prices a_mo_helpersOfKind a_mo_numbers a_us_left r1.1 r1.2.1 r1.2.2.1 sr_known r1.2.2.2.1 r1.2.2.2.2.1 r1.2.2.2.2.2.1 r1.2.2.2.2.2.2.1 r1.2.2.2.2.2.2.2.1 r1.2.2.2.2.2.2.2.2 mo_tasks mo_helpers mo_askedFirst mo_crumbsFirst mo_lastDay mo_kinds mo_days mo_rideDays mo_helpKinds mo_nexts mo_helperKinds mo_prices mo_helpersOfKind mo_numbers us_size us_lastPlace us_left (0 : Int32) N 10 (aw _) (hw.own [0, 1, 2, 5, 6, 7, 8, 9, 10, 11, 12, 13, 14, 3, 4] (by decide) rfl) r3 h4) ⟨⟨rfl, rfl⟩, Nat.le_of_ble_eq_true rfl, Nat.le_of_ble_eq_true rfl⟩ [0, 1, 2, 5, 6, 7, 8, 9, 10, 11, 12, 13, 14, 3, 4] rfl rfl hl.1 rfl (Nat.le_of_ble_eq_true rfl) dX2_endsWellWith_14 ⟨Nat.zero_le _, Nat.zero_le _⟩ (fun H locs hJ hB => ?_)
  have hw := hJ _ hB rfl
  replace hw : Wd D A _ (wd_9 cC cI cJ a_sr a_sr_known a_ro a_us r1.1 r1.2.1 r1.2.2.1 a_mo a_us a_sr_known r3.2.1 a_ro r3.2.2.1 r3.2.2.2.1 r3.2.2.2.2.1 r3.2.2.2.2.2.1 r3.2.2.2.2.2.2.1 r3.2.2.2.2.2.2.2 a_us us_size us_lastPlace a_us_left a_us_left us_left a_mo mo_tasks mo_helpers mo_askedFirst mo_crumbsFirst mo_lastDay a_mo_kinds a_mo_days a_mo_rideDays a_mo_helpKinds a_mo_nexts a_mo_helperKinds a_mo_prices a_mo_helpersOfKind a_mo_numbers a_mo_kinds mo_kinds a_mo_days mo_days a_mo_rideDays mo_rideDays a_mo_helpKinds mo_helpKinds a_mo_nexts mo_nexts a_mo_helperKinds mo_helperKinds a_mo_prices mo_prices a_mo_helpersOfKind mo_helpersOfKind a_mo_numbers mo_numbers a_fr fr_asked fr_brought fr_friends fr_used fr_crumbs fr_day) H locs := hw
  refine lv_lconst (v := 0) hx hb dX2_endsWellWith_17 (by decide) ?_
  refine W.lcmp hx hb dX2_endsWellWith_18 ?_
  refine lv_if_le (tgt := 26) hx hb dX2_endsWellWith_19 (by decide) (fun c5 => ?_) (fun c5 => ?_)
  · replace hm := ipos hm c5
    refine lv_iconst (v := 0) hx hb dX2_endsWellWith_26 (by decide) ?_
    obtain rfl := Option.some.inj hm
    exact e_WZ S hr hlk hw (Or.inl rfl) rfl hw.1 dX2_endsWellWith_27
  · replace hm := ineg hm c5
    refine lv_iconst (v := 1) hx hb dX2_endsWellWith_22 (by decide) ?_
    refine lv_goto (tgt := 27) hx hb dX2_endsWellWith_23 (by decide) ?_
    obtain rfl := Option.some.inj hm
    exact e_WZ S hr hlk hw (Or.inr rfl) rfl hw.1 dX2_endsWellWith_27

abbrev rX2_fewestSet : Room := { frames := 15, cells := 0, slots := 0, locals := 402 }
theorem cal_X2_fewestSet : Cal yX2_fewestSet wsX2_fewestSet cX2_fewestSet 8 (some .int) RX2 2 := ⟨⟨_, rfl⟩, rfl, by decide +kernel, by decide +kernel, by decide +kernel⟩
theorem in_X2_fewestSet_X0 : ∀ w ∈ wsX00, w ∈ wsX2_fewestSet := fun _ h => (List.mem_cons_of_mem _ (List.mem_append_left _ (List.mem_append_left _ (List.mem_append_right _ h))))
theorem in_X2_fewestSet_X4 : ∀ w ∈ wsX40, w ∈ wsX2_fewestSet := fun _ h => (List.mem_cons_of_mem _ (List.mem_append_left _ (List.mem_append_left _ (List.mem_append_left _ (List.mem_append_right _ h)))))
set_option maxHeartbeats 4000000 in
set_option maxRecDepth 100000 in
theorem t_X2_fewestSet_46 {p : Program} {e : Env} {s : State} {m : MethodId} {args : Array Value} {below : List Frame} {meth : Method} {c : Code} {Q : State → Prop} (l : Launch) {D : va_G} {cC cI cJ : ClassId} {A : Nat → Prop} {H0 : Heap} (S : CallFix p m c cX2_fewestSet 8 s args wsX2_fewestSet RX2) (hK : KK D (tyK cC cI cJ) s) (a_sr : Nat) (a_sr_known : Nat) (a_ro : Nat) (a_us : Nat) (g_sr_months : Nat) (g_sr_heeded : Nat) (a_us_left : Nat) (a_mo : Nat) (a_mo_kinds : Nat) (a_mo_days : Nat) (a_mo_rideDays : Nat) (a_mo_helpKinds : Nat) (a_mo_nexts : Nat) (a_mo_helperKinds : Nat) (a_mo_prices : Nat) (a_mo_helpersOfKind : Nat) (a_mo_numbers : Nat) (a_fr : Nat) (N : Nat) (v5 : Int32) (us_size : Int32) (us_lastPlace : Int32) (us_left : (Nat → Int32)) (mo_tasks : Int32) (mo_helpers : Int32) (mo_askedFirst : Int32) (mo_crumbsFirst : Int32) (mo_lastDay : Int32) (mo_kinds : (Nat → Int32)) (mo_days : (Nat → Int32)) (mo_rideDays : (Nat → Int32)) (mo_helpKinds : (Nat → Int32)) (mo_nexts : (Nat → Int32)) (mo_helperKinds : (Nat → Int32)) (mo_prices : (Nat → Int32)) (mo_helpersOfKind : (Nat → Int32)) (mo_numbers : (Nat → Int32)) (fr_asked : Int32) (fr_brought : Int32) (fr_friends : Int32) (fr_used : Int32) (fr_crumbs : Int32) (fr_day : Int32) : ∀ (n : Nat) (v3 : Int32) (v4 : Int32) (v6 : Int32) (sr_number : Int64) (sr_enough : Int64) (sr_hopeless : Int32) (sr_known : (Nat → Int64)) (ro_asked : Int32) (ro_brought : Int32) (ro_friends : Int32) (ro_used : Int32) (ro_crumbs : Int32) (ro_day : Int32) (out : (Int32 × Int64 × Int64 × Int32 × (Nat → Int64) × Int32 × Int32 × Int32 × Int32 × Int32 × Int32)), lp_X2_fewestSet_46 N v5 us_lastPlace us_left mo_tasks mo_helpers mo_lastDay mo_kinds mo_rideDays mo_helpKinds mo_nexts mo_prices mo_helpersOfKind fr_asked fr_brought fr_friends fr_used fr_crumbs fr_day n v3 v4 v6 sr_number sr_enough sr_hopeless sr_known ro_asked ro_brought ro_friends ro_used ro_crumbs ro_day = some out → ∀ (H : Heap) (locs : List Loc) (ls : Array Slot), Wd D A H0 (wd_9 cC cI cJ a_sr a_sr_known a_ro a_us sr_number sr_enough sr_hopeless a_mo a_us a_sr_known sr_known a_ro ro_asked ro_brought ro_friends ro_used ro_crumbs ro_day a_us us_size us_lastPlace a_us_left a_us_left us_left a_mo mo_tasks mo_helpers mo_askedFirst mo_crumbsFirst mo_lastDay a_mo_kinds a_mo_days a_mo_rideDays a_mo_helpKinds a_mo_nexts a_mo_helperKinds a_mo_prices a_mo_helpersOfKind a_mo_numbers a_mo_kinds mo_kinds a_mo_days mo_days a_mo_rideDays mo_rideDays a_mo_helpKinds mo_helpKinds a_mo_nexts mo_nexts a_mo_helperKinds mo_helperKinds a_mo_prices mo_prices a_mo_helpersOfKind mo_helpersOfKind a_mo_numbers mo_numbers a_fr fr_asked fr_brought fr_friends fr_used fr_crumbs fr_day) H locs → lv_has ls 8 [(0, .ref a_sr), (1, .ref a_mo), (2, .ref a_fr), (3, .int v3), (4, .int v4), (5, .int v5), (6, .int v6)] → (∀ (H : Heap) (locs : List Loc) (ls : Array Slot), Wd D A H0 (wd_9 cC cI cJ a_sr a_sr_known a_ro a_us out.2.1 out.2.2.1 out.2.2.2.1 a_mo a_us a_sr_known out.2.2.2.2.1 a_ro out.2.2.2.2.2.1 out.2.2.2.2.2.2.1 out.2.2.2.2.2.2.2.1 out.2.2.2.2.2.2.2.2.1 out.2.2.2.2.2.2.2.2.2.1 out.2.2.2.2.2.2.2.2.2.2 a_us us_size us_lastPlace a_us_left a_us_left us_left a_mo mo_tasks mo_helpers mo_askedFirst mo_crumbsFirst mo_lastDay a_mo_kinds a_mo_days a_mo_rideDays a_mo_helpKinds a_mo_nexts a_mo_helperKinds a_mo_prices a_mo_helpersOfKind a_mo_numbers a_mo_kinds mo_kinds a_mo_days mo_days a_mo_rideDays mo_rideDays a_mo_helpKinds mo_helpKinds a_mo_nexts mo_nexts a_mo_helperKinds mo_helperKinds a_mo_prices mo_prices a_mo_helpersOfKind mo_helpersOfKind a_mo_numbers mo_numbers a_fr fr_asked fr_brought fr_friends fr_used fr_crumbs fr_day) H locs → lv_has ls 8 [(3, .int out.1)] → W p l e rX2_fewestSet s m args below meth c H locs 0 0 Q (F0 m 103 ls [])) → W p l e rX2_fewestSet s m args below meth c H locs 0 0 Q (F0 m 46 ls []) := by
  have hx := S.1
  have hb := S.2.1
  intro n
  induction n with
  | zero => intro v3 v4 v6 sr_number sr_enough sr_hopeless sr_known ro_asked ro_brought ro_friends ro_used ro_crumbs ro_day out hm; cases (show (none : Option (Int32 × Int64 × Int64 × Int32 × (Nat → Int64) × Int32 × Int32 × Int32 × Int32 × Int32 × Int32)) = some out from hm)
  | succ n ih =>
    intro v3 v4 v6 sr_number sr_enough sr_hopeless sr_known ro_asked ro_brought ro_friends ro_used ro_crumbs ro_day out hm  H locs ls hw hl K0
    rw [lp_X2_fewestSet_46] at hm
    refine lv_iload hx hb dX2_fewestSet_46 (lv_at hl 6 rfl) ?_
    refine lv_sipush (v := 128) hx hb dX2_fewestSet_48 (by decide) ?_
    refine lv_icmp_ge (tgt := 103) hx hb dX2_fewestSet_51 (by decide) (fun c8 => ?_) (fun c8 => ?_)
    · replace hm := ipos hm c8
      obtain rfl := Option.some.inj hm
      exact K0  _ _ ls hw (lv_sub hl [3] rfl)
    · replace hm := ineg hm c8
      refine lv_aload_n hx hb dX2_fewestSet_54 rfl (lv_at hl 1 rfl) ?_
      refine lv_iload hx hb dX2_fewestSet_55 (lv_at hl 6 rfl) ?_
      obtain ⟨r9, h10, hm⟩ := ob hm
      refine k_rVi S hK hw.1 cal_X0_priceOfSet gX2_fewestSet_X0_priceOfSet (c_X0_priceOfSet l D cC cI cJ a_mo a_mo_kinds a_mo_days a_mo_rideDays a_mo_helpKinds a_mo_nexts a_mo_helperKinds a_mo_prices a_mo_helpersOfKind a_mo_numbers mo_tasks mo_helpers mo_askedFirst mo_crumbsFirst mo_lastDay mo_kinds mo_days mo_rideDays mo_helpKinds mo_nexts mo_helperKinds mo_prices mo_helpersOfKind mo_numbers v6 N r9 h10) ⟨⟨rfl, rfl⟩, Nat.le_of_ble_eq_true rfl, Nat.le_of_ble_eq_true rfl⟩ [5, 6, 7, 8, 9, 10, 11, 12, 13, 14] rfl 5 rfl rfl rfl hl.1 rfl (Nat.le_of_ble_eq_true rfl) dX2_fewestSet_57 ⟨Nat.zero_le _, Nat.zero_le _⟩ ?_
      refine lv_istore (lv' := [(7, .int r9), (0, .ref a_sr), (1, .ref a_mo), (2, .ref a_fr), (3, .int v3), (4, .int v4), (5, .int v5), (6, .int v6)]) hx hb dX2_fewestSet_60 hl (by decide) rfl (fun ls hl => ?_)
      refine lv_iload hx hb dX2_fewestSet_62 (lv_at hl 7 rfl) ?_
      refine lv_iload hx hb dX2_fewestSet_64 (lv_at hl 6 rfl) ?_
      refine lv_iconst (v := (-1)) hx hb dX2_fewestSet_66 (by decide) ?_
      refine lv_ixor hx hb dX2_fewestSet_67 ?_
      refine lv_iand hx hb dX2_fewestSet_68 ?_
      refine lv_if_ne (tgt := 97) hx hb dX2_fewestSet_69 (by decide) (fun c11 => ?_) (fun c11 => ?_)
      · replace hm := ineg hm c11
        refine lv_iinc (v := (v6 + 1)) (lv' := [(6, .int (v6 + 1)), (7, .int r9), (0, .ref a_sr), (1, .ref a_mo), (2, .ref a_fr), (3, .int v3), (4, .int v4), (5, .int v5)]) hx hb dX2_fewestSet_97 hl (k := 7) rfl (by rw [ofi_1]) (by decide) rfl (fun ls hl => ?_)
        refine lv_goto (tgt := 46) hx hb dX2_fewestSet_100 (by decide) ?_
        exact ih v3 v4 (v6 + 1) sr_number sr_enough sr_hopeless sr_known ro_asked ro_brought ro_friends ro_used ro_crumbs ro_day _ hm  _ _ ls hw (lv_sub hl [2, 3, 4, 5, 6, 7, 0] rfl) K0
      · replace hm := ipos hm c11
        refine lv_iload hx hb dX2_fewestSet_72 (lv_at hl 0 rfl) ?_
        refine lv_iload hx hb dX2_fewestSet_74 (lv_at hl 5 rfl) ?_
        refine lv_icmp_ge (tgt := 97) hx hb dX2_fewestSet_76 (by decide) (fun c12 => ?_) (fun c12 => ?_)
        · replace hm := ipos hm c12
          refine lv_iinc (v := (v6 + 1)) (lv' := [(6, .int (v6 + 1)), (7, .int r9), (0, .ref a_sr), (1, .ref a_mo), (2, .ref a_fr), (3, .int v3), (4, .int v4), (5, .int v5)]) hx hb dX2_fewestSet_97 hl (k := 7) rfl (by rw [ofi_1]) (by decide) rfl (fun ls hl => ?_)
          refine lv_goto (tgt := 46) hx hb dX2_fewestSet_100 (by decide) ?_
          exact ih v3 v4 (v6 + 1) sr_number sr_enough sr_hopeless sr_known ro_asked ro_brought ro_friends ro_used ro_crumbs ro_day _ hm  _ _ ls hw (lv_sub hl [2, 3, 4, 5, 6, 7, 0] rfl) K0
        · replace hm := ineg hm c12
          refine lv_aload_n hx hb dX2_fewestSet_79 rfl (lv_at hl 1 rfl) ?_
          refine lv_aload_n hx hb dX2_fewestSet_80 rfl (lv_at hl 2 rfl) ?_
          refine lv_aload_n hx hb dX2_fewestSet_81 rfl (lv_at hl 3 rfl) ?_
          refine lv_iload hx hb dX2_fewestSet_82 (lv_at hl 7 rfl) ?_
          obtain ⟨r13, h14, hm⟩ := ob hm
          refine k_wVi S hK hw cal_X2_endsWellWith gX2_fewestSet_X2_endsWellWith (c_X2_endsWellWith l D cC cI cJ a_sr a_sr_known a_ro a_us a_mo a_us a_us_left a_mo a_mo_kinds a_mo_days a_mo_rideDays a_mo_helpKinds a_mo_nexts a_mo_helperKinds a_mo_prices a_mo_helpersOfKind a_mo_numbers a_fr sr_number sr_enough sr_hopeless sr_known ro_asked ro_brought ro_friends ro_used ro_crumbs ro_day us_size us_lastPlace us_left mo_tasks mo_helpers mo_askedFirst mo_crumbsFirst mo_lastDay mo_kinds mo_days mo_rideDays mo_helpKinds mo_nexts mo_helperKinds mo_prices mo_helpersOfKind mo_numbers fr_asked fr_brought fr_friends fr_used fr_crumbs fr_day v6 N (aw _) (hw.own [0, 1, 2, 3, 4, 5, 6, 7, 8, 9, 10, 11, 12, 13, 14, 15] (by decide) rfl) r13 h14) ⟨⟨rfl, rfl⟩, Nat.le_of_ble_eq_true rfl, Nat.le_of_ble_eq_true rfl⟩ [0, 1, 2, 3, 4, 5, 6, 7, 8, 9, 10, 11, 12, 13, 14, 15] rfl 0 rfl rfl rfl hl.1 rfl (Nat.le_of_ble_eq_true rfl) dX2_fewestSet_84 ⟨Nat.zero_le _, Nat.zero_le _⟩ (fun H locs hJ hB => ?_)
          have hw := hJ _ hB rfl
          replace hw : Wd D A _ (wd_9 cC cI cJ a_sr a_sr_known a_ro a_us r13.2.1 r13.2.2.1 r13.2.2.2.1 a_mo a_us a_sr_known r13.2.2.2.2.1 a_ro r13.2.2.2.2.2.1 r13.2.2.2.2.2.2.1 r13.2.2.2.2.2.2.2.1 r13.2.2.2.2.2.2.2.2.1 r13.2.2.2.2.2.2.2.2.2.1 r13.2.2.2.2.2.2.2.2.2.2 a_us us_size us_lastPlace a_us_left a_us_left us_left a_mo mo_tasks mo_helpers mo_askedFirst mo_crumbsFirst mo_lastDay a_mo_kinds a_mo_days a_mo_rideDays a_mo_helpKinds a_mo_nexts a_mo_helperKinds a_mo_prices a_mo_helpersOfKind a_mo_numbers a_mo_kinds mo_kinds a_mo_days mo_days a_mo_rideDays mo_rideDays a_mo_helpKinds mo_helpKinds a_mo_nexts mo_nexts a_mo_helperKinds mo_helperKinds a_mo_prices mo_prices a_mo_helpersOfKind mo_helpersOfKind a_mo_numbers mo_numbers a_fr fr_asked fr_brought fr_friends fr_used fr_crumbs fr_day) H locs := hw
          refine lv_if_eq (tgt := 97) hx hb dX2_fewestSet_87 (by decide) (fun c15 => ?_) (fun c15 => ?_)
          · replace hm := ipos hm c15
            refine lv_iinc (v := (v6 + 1)) (lv' := [(6, .int (v6 + 1)), (7, .int r9), (0, .ref a_sr), (1, .ref a_mo), (2, .ref a_fr), (3, .int v3), (4, .int v4), (5, .int v5)]) hx hb dX2_fewestSet_97 hl (k := 7) rfl (by rw [ofi_1]) (by decide) rfl (fun ls hl => ?_)
            refine lv_goto (tgt := 46) hx hb dX2_fewestSet_100 (by decide) ?_
            exact ih v3 v4 (v6 + 1) r13.2.1 r13.2.2.1 r13.2.2.2.1 r13.2.2.2.2.1 r13.2.2.2.2.2.1 r13.2.2.2.2.2.2.1 r13.2.2.2.2.2.2.2.1 r13.2.2.2.2.2.2.2.2.1 r13.2.2.2.2.2.2.2.2.2.1 r13.2.2.2.2.2.2.2.2.2.2 _ hm  _ _ ls hw (lv_sub hl [2, 3, 4, 5, 6, 7, 0] rfl) K0
          · replace hm := ineg hm c15
            refine lv_iload hx hb dX2_fewestSet_90 (lv_at hl 7 rfl) ?_
            refine lv_istore_n (lv' := [(3, .int v6), (7, .int r9), (0, .ref a_sr), (1, .ref a_mo), (2, .ref a_fr), (4, .int v4), (5, .int v5), (6, .int v6)]) hx hb dX2_fewestSet_92 rfl hl (by decide) rfl (fun ls hl => ?_)
            refine lv_iload hx hb dX2_fewestSet_93 (lv_at hl 1 rfl) ?_
            refine lv_istore (lv' := [(4, .int r9), (3, .int v6), (7, .int r9), (0, .ref a_sr), (1, .ref a_mo), (2, .ref a_fr), (5, .int v5), (6, .int v6)]) hx hb dX2_fewestSet_95 hl (by decide) rfl (fun ls hl => ?_)
            refine lv_iinc (v := (v6 + 1)) (lv' := [(6, .int (v6 + 1)), (4, .int r9), (3, .int v6), (7, .int r9), (0, .ref a_sr), (1, .ref a_mo), (2, .ref a_fr), (5, .int v5)]) hx hb dX2_fewestSet_97 hl (k := 7) rfl (by rw [ofi_1]) (by decide) rfl (fun ls hl => ?_)
            refine lv_goto (tgt := 46) hx hb dX2_fewestSet_100 (by decide) ?_
            exact ih v6 r9 (v6 + 1) r13.2.1 r13.2.2.1 r13.2.2.2.1 r13.2.2.2.2.1 r13.2.2.2.2.2.1 r13.2.2.2.2.2.2.1 r13.2.2.2.2.2.2.2.1 r13.2.2.2.2.2.2.2.2.1 r13.2.2.2.2.2.2.2.2.2.1 r13.2.2.2.2.2.2.2.2.2.2 _ hm  _ _ ls hw (lv_sub hl [4, 5, 6, 2, 1, 7, 0] rfl) K0
set_option maxHeartbeats 4000000 in
set_option maxRecDepth 100000 in
theorem c_X2_fewestSet (l : Launch) (D : va_G) (cC cI cJ : ClassId) (a_sr : Nat) (a_sr_known : Nat) (a_ro : Nat) (a_us : Nat) (g_sr_months : Nat) (g_sr_heeded : Nat) (a_us_left : Nat) (a_mo : Nat) (a_mo_kinds : Nat) (a_mo_days : Nat) (a_mo_rideDays : Nat) (a_mo_helpKinds : Nat) (a_mo_nexts : Nat) (a_mo_helperKinds : Nat) (a_mo_prices : Nat) (a_mo_helpersOfKind : Nat) (a_mo_numbers : Nat) (a_fr : Nat) (sr_number : Int64) (sr_enough : Int64) (sr_hopeless : Int32) (sr_known : (Nat → Int64)) (ro_asked : Int32) (ro_brought : Int32) (ro_friends : Int32) (ro_used : Int32) (ro_crumbs : Int32) (ro_day : Int32) (us_size : Int32) (us_lastPlace : Int32) (us_left : (Nat → Int32)) (mo_tasks : Int32) (mo_helpers : Int32) (mo_askedFirst : Int32) (mo_crumbsFirst : Int32) (mo_lastDay : Int32) (mo_kinds : (Nat → Int32)) (mo_days : (Nat → Int32)) (mo_rideDays : (Nat → Int32)) (mo_helpKinds : (Nat → Int32)) (mo_nexts : (Nat → Int32)) (mo_helperKinds : (Nat → Int32)) (mo_prices : (Nat → Int32)) (mo_helpersOfKind : (Nat → Int32)) (mo_numbers : (Nat → Int32)) (fr_asked : Int32) (fr_brought : Int32) (fr_friends : Int32) (fr_used : Int32) (fr_crumbs : Int32) (fr_day : Int32) (N : Nat) (A : Nat → Prop) (hD : va_D A (wd_9 cC cI cJ a_sr a_sr_known a_ro a_us sr_number sr_enough sr_hopeless g_sr_months g_sr_heeded a_sr_known sr_known a_ro ro_asked ro_brought ro_friends ro_used ro_crumbs ro_day a_us us_size us_lastPlace a_us_left a_us_left us_left a_mo mo_tasks mo_helpers mo_askedFirst mo_crumbsFirst mo_lastDay a_mo_kinds a_mo_days a_mo_rideDays a_mo_helpKinds a_mo_nexts a_mo_helperKinds a_mo_prices a_mo_helpersOfKind a_mo_numbers a_mo_kinds mo_kinds a_mo_days mo_days a_mo_rideDays mo_rideDays a_mo_helpKinds mo_helpKinds a_mo_nexts mo_nexts a_mo_helperKinds mo_helperKinds a_mo_prices mo_prices a_mo_helpersOfKind mo_helpersOfKind a_mo_numbers mo_numbers a_fr fr_asked fr_brought fr_friends fr_used fr_crumbs fr_day)) (out : (Int32 × Int64 × Int64 × Int32 × (Nat → Int64) × Int32 × Int32 × Int32 × Int32 × Int32 × Int32)) (hm : m_X2_fewestSet N sr_number sr_known us_lastPlace us_left mo_tasks mo_helpers mo_lastDay mo_kinds mo_rideDays mo_helpKinds mo_nexts mo_prices mo_helpersOfKind fr_asked fr_brought fr_friends fr_used fr_crumbs fr_day = some out) : WrI l yX2_fewestSet wsX2_fewestSet rX2_fewestSet D (tyK cC cI cJ) [.ref a_sr, .ref a_mo, .ref a_fr] A (wd_9 cC cI cJ a_sr a_sr_known a_ro a_us sr_number sr_enough sr_hopeless g_sr_months g_sr_heeded a_sr_known sr_known a_ro ro_asked ro_brought ro_friends ro_used ro_crumbs ro_day a_us us_size us_lastPlace a_us_left a_us_left us_left a_mo mo_tasks mo_helpers mo_askedFirst mo_crumbsFirst mo_lastDay a_mo_kinds a_mo_days a_mo_rideDays a_mo_helpKinds a_mo_nexts a_mo_helperKinds a_mo_prices a_mo_helpersOfKind a_mo_numbers a_mo_kinds mo_kinds a_mo_days mo_days a_mo_rideDays mo_rideDays a_mo_helpKinds mo_helpKinds a_mo_nexts mo_nexts a_mo_helperKinds mo_helperKinds a_mo_prices mo_prices a_mo_helpersOfKind mo_helpersOfKind a_mo_numbers mo_numbers a_fr fr_asked fr_brought fr_friends fr_used fr_crumbs fr_day) (Bw0 D (wd_9 cC cI cJ a_sr a_sr_known a_ro a_us out.2.1 out.2.2.1 out.2.2.2.1 a_mo a_us a_sr_known out.2.2.2.2.1 a_ro out.2.2.2.2.2.1 out.2.2.2.2.2.2.1 out.2.2.2.2.2.2.2.1 out.2.2.2.2.2.2.2.2.1 out.2.2.2.2.2.2.2.2.2.1 out.2.2.2.2.2.2.2.2.2.2 a_us us_size us_lastPlace a_us_left a_us_left us_left a_mo mo_tasks mo_helpers mo_askedFirst mo_crumbsFirst mo_lastDay a_mo_kinds a_mo_days a_mo_rideDays a_mo_helpKinds a_mo_nexts a_mo_helperKinds a_mo_prices a_mo_helpersOfKind a_mo_numbers a_mo_kinds mo_kinds a_mo_days mo_days a_mo_rideDays mo_rideDays a_mo_helpKinds mo_helpKinds a_mo_nexts mo_nexts a_mo_helperKinds mo_helperKinds a_mo_prices mo_prices a_mo_helpersOfKind mo_helpersOfKind a_mo_numbers mo_numbers a_fr fr_asked fr_brought fr_friends fr_used fr_crumbs fr_day)) out.1 := by
  unfold m_X2_fewestSet at hm
  refine enter (cc := cX2_fewestSet) (maxL := 8) (ret := (some .int)) (lv := [(0, .ref a_sr), (1, .ref a_mo), (2, .ref a_fr)]) (by decide) rfl (Nat.le_of_ble_eq_true rfl) rfl ?_
  intro p e s m args below meth c S hr hlk hK hP ls hl
  replace S : CallFix p m c cX2_fewestSet 8 s args wsX2_fewestSet RX2 := S
  have hx := S.1
  have hb := S.2.1
  have hw : Wd D A s.heap (wd_9 cC cI cJ a_sr a_sr_known a_ro a_us sr_number sr_enough sr_hopeless g_sr_months g_sr_heeded a_sr_known sr_known a_ro ro_asked ro_brought ro_friends ro_used ro_crumbs ro_day a_us us_size us_lastPlace a_us_left a_us_left us_left a_mo mo_tasks mo_helpers mo_askedFirst mo_crumbsFirst mo_lastDay a_mo_kinds a_mo_days a_mo_rideDays a_mo_helpKinds a_mo_nexts a_mo_helperKinds a_mo_prices a_mo_helpersOfKind a_mo_numbers a_mo_kinds mo_kinds a_mo_days mo_days a_mo_rideDays mo_rideDays a_mo_helpKinds mo_helpKinds a_mo_nexts mo_nexts a_mo_helperKinds mo_helperKinds a_mo_prices mo_prices a_mo_helpersOfKind mo_helpersOfKind a_mo_numbers mo_numbers a_fr fr_asked fr_brought fr_friends fr_used fr_crumbs fr_day) s.heap [] := ⟨hP, hD, va_S.rf⟩
  have hw0 := hw
  refine lv_bipush (v := (-4)) hx hb dX2_fewestSet_0 (by decide) ?_
  refine lv_istore_n (lv' := [(3, .int (-4 : Int32)), (0, .ref a_sr), (1, .ref a_mo), (2, .ref a_fr)]) hx hb dX2_fewestSet_2 rfl hl (by decide) rfl (fun ls hl => ?_)
  refine lv_aload_n hx hb dX2_fewestSet_3 rfl (lv_at hl 3 rfl) ?_
  refine f_get S hK hw.1 in_X2_fewestSet_X4 15 rfl rfl 4 (by decide) (List.mem_of_getElem? (i := 1) rfl) rfl rfl dX2_fewestSet_4 ?_
  refine lv_iconst (v := 1) hx hb dX2_fewestSet_7 (by decide) ?_
  refine lv_iadd hx hb dX2_fewestSet_8 ?_
  refine lv_istore (lv' := [(4, .int (fr_crumbs + (1 : Int32))), (3, .int (-4 : Int32)), (0, .ref a_sr), (1, .ref a_mo), (2, .ref a_fr)]) hx hb dX2_fewestSet_9 hl (by decide) rfl (fun ls hl => ?_)
  refine lv_aload_n hx hb dX2_fewestSet_11 rfl (lv_at hl 3 rfl) ?_
  refine f_get S hK hw.1 in_X2_fewestSet_X0 5 rfl rfl 1 (by decide) (List.mem_of_getElem? (i := 2) rfl) rfl rfl dX2_fewestSet_12 ?_
  obtain ⟨r1, h2, hm⟩ := ob hm
  refine k_rNi S hK hw.1 cal_X5_bit gX2_fewestSet_X5_bit_n56 (List.mem_of_getElem? (i := 7) rfl) (List.mem_of_getElem? (i := 5) rfl) (List.mem_of_getElem? (i := 4) rfl) (c_X5_bit l D cC cI cJ mo_helpers r1 h2) ⟨⟨rfl, rfl⟩, Nat.le_of_ble_eq_true rfl, Nat.le_of_ble_eq_true rfl⟩ [] rfl rfl hl.1 rfl (Nat.le_of_ble_eq_true rfl) dX2_fewestSet_15 ⟨Nat.zero_le _, Nat.zero_le _⟩ ?_
  refine lv_iconst (v := 1) hx hb dX2_fewestSet_18 (by decide) ?_
  refine lv_isub hx hb dX2_fewestSet_19 ?_
  refine lv_aload_n hx hb dX2_fewestSet_20 rfl (lv_at hl 4 rfl) ?_
  refine f_get S hK hw.1 in_X2_fewestSet_X4 15 rfl rfl 2 (by decide) (List.mem_of_getElem? (i := 3) rfl) rfl rfl dX2_fewestSet_21 ?_
  refine lv_iconst (v := (-1)) hx hb dX2_fewestSet_24 (by decide) ?_
  refine lv_ixor hx hb dX2_fewestSet_25 ?_
  refine lv_iand hx hb dX2_fewestSet_26 ?_
  obtain ⟨y3, e4, hm⟩ := ob hm
  refine f_name e4 ?_
  refine lv_istore (lv' := [(5, .int y3), (4, .int (fr_crumbs + (1 : Int32))), (3, .int (-4 : Int32)), (0, .ref a_sr), (1, .ref a_mo), (2, .ref a_fr)]) hx hb dX2_fewestSet_27 hl (by decide) rfl (fun ls hl => ?_)
  refine lv_aload_n hx hb dX2_fewestSet_29 rfl (lv_at hl 3 rfl) ?_
  refine lv_aload_n hx hb dX2_fewestSet_30 rfl (lv_at hl 4 rfl) ?_
  refine lv_aload_n hx hb dX2_fewestSet_31 rfl (lv_at hl 5 rfl) ?_
  refine lv_iload hx hb dX2_fewestSet_32 (lv_at hl 0 rfl) ?_
  obtain ⟨r5, h6, hm⟩ := ob hm
  refine k_wVi S hK hw cal_X2_endsWellWith gX2_fewestSet_X2_endsWellWith (c_X2_endsWellWith l D cC cI cJ a_sr a_sr_known a_ro a_us g_sr_months g_sr_heeded a_us_left a_mo a_mo_kinds a_mo_days a_mo_rideDays a_mo_helpKinds a_mo_nexts a_mo_helperKinds a_mo_prices a_mo_helpersOfKind a_mo_numbers a_fr sr_number sr_enough sr_hopeless sr_known ro_asked ro_brought ro_friends ro_used ro_crumbs ro_day us_size us_lastPlace us_left mo_tasks mo_helpers mo_askedFirst mo_crumbsFirst mo_lastDay mo_kinds mo_days mo_rideDays mo_helpKinds mo_nexts mo_helperKinds mo_prices mo_helpersOfKind mo_numbers fr_asked fr_brought fr_friends fr_used fr_crumbs fr_day y3 N (aw _) (hw.own [0, 1, 2, 3, 4, 5, 6, 7, 8, 9, 10, 11, 12, 13, 14, 15] (by decide) rfl) r5 h6) ⟨⟨rfl, rfl⟩, Nat.le_of_ble_eq_true rfl, Nat.le_of_ble_eq_true rfl⟩ [0, 1, 2, 3, 4, 5, 6, 7, 8, 9, 10, 11, 12, 13, 14, 15] rfl 0 rfl rfl rfl hl.1 rfl (Nat.le_of_ble_eq_true rfl) dX2_fewestSet_34 ⟨Nat.zero_le _, Nat.zero_le _⟩ (fun H locs hJ hB => ?_)
  have hw := hJ _ hB rfl
  replace hw : Wd D A _ (wd_9 cC cI cJ a_sr a_sr_known a_ro a_us r5.2.1 r5.2.2.1 r5.2.2.2.1 a_mo a_us a_sr_known r5.2.2.2.2.1 a_ro r5.2.2.2.2.2.1 r5.2.2.2.2.2.2.1 r5.2.2.2.2.2.2.2.1 r5.2.2.2.2.2.2.2.2.1 r5.2.2.2.2.2.2.2.2.2.1 r5.2.2.2.2.2.2.2.2.2.2 a_us us_size us_lastPlace a_us_left a_us_left us_left a_mo mo_tasks mo_helpers mo_askedFirst mo_crumbsFirst mo_lastDay a_mo_kinds a_mo_days a_mo_rideDays a_mo_helpKinds a_mo_nexts a_mo_helperKinds a_mo_prices a_mo_helpersOfKind a_mo_numbers a_mo_kinds mo_kinds a_mo_days mo_days a_mo_rideDays mo_rideDays a_mo_helpKinds mo_helpKinds a_mo_nexts mo_nexts a_mo_helperKinds mo_helperKinds a_mo_prices mo_prices a_mo_helpersOfKind mo_helpersOfKind a_mo_numbers mo_numbers a_fr fr_asked fr_brought fr_friends fr_used fr_crumbs fr_day) H locs := hw
  refine lv_if_ne (tgt := 43) hx hb dX2_fewestSet_37 (by decide) (fun c7 => ?_) (fun c7 => ?_)
  · replace hm := ineg hm c7
    refine lv_iconst (v := 0) hx hb dX2_fewestSet_43 (by decide) ?_
    refine lv_istore (lv' := [(6, .int (0 : Int32)), (5, .int y3), (4, .int (fr_crumbs + (1 : Int32))), (3, .int (-4 : Int32)), (0, .ref a_sr), (1, .ref a_mo), (2, .ref a_fr)]) hx hb dX2_fewestSet_44 hl (by decide) rfl (fun ls hl => ?_)
    obtain ⟨r16, h17, hm⟩ := ob hm
    refine t_X2_fewestSet_46 l S hK a_sr a_sr_known a_ro a_us g_sr_months g_sr_heeded a_us_left a_mo a_mo_kinds a_mo_days a_mo_rideDays a_mo_helpKinds a_mo_nexts a_mo_helperKinds a_mo_prices a_mo_helpersOfKind a_mo_numbers a_fr N y3 us_size us_lastPlace us_left mo_tasks mo_helpers mo_askedFirst mo_crumbsFirst mo_lastDay mo_kinds mo_days mo_rideDays mo_helpKinds mo_nexts mo_helperKinds mo_prices mo_helpersOfKind mo_numbers fr_asked fr_brought fr_friends fr_used fr_crumbs fr_day N (-4 : Int32) (fr_crumbs + (1 : Int32)) (0 : Int32) r5.2.1 r5.2.2.1 r5.2.2.2.1 r5.2.2.2.2.1 r5.2.2.2.2.2.1 r5.2.2.2.2.2.2.1 r5.2.2.2.2.2.2.2.1 r5.2.2.2.2.2.2.2.2.1 r5.2.2.2.2.2.2.2.2.2.1 r5.2.2.2.2.2.2.2.2.2.2 r16 h17  _ _ ls hw (lv_sub hl [4, 5, 6, 3, 2, 1, 0] rfl) (fun H locs ls hw hl => ?_)
    refine lv_iload_n hx hb dX2_fewestSet_103 rfl (lv_at hl 0 rfl) ?_
    obtain rfl := Option.some.inj hm
    exact e_WI S hr hlk hw rfl hw.1 dX2_fewestSet_104
  · replace hm := ipos hm c7
    refine lv_bipush (v := (-4)) hx hb dX2_fewestSet_40 (by decide) ?_
    obtain rfl := Option.some.inj hm
    exact e_WI S hr hlk hw rfl hw.1 dX2_fewestSet_42

abbrev rX2_rideFirst : Room := { frames := 14, cells := 0, slots := 0, locals := 379 }
theorem cal_X2_rideFirst : Cal yX2_rideFirst wsX2_rideFirst cX2_rideFirst 5 (some .int) RX2 1 := ⟨⟨_, rfl⟩, rfl, by decide +kernel, by decide +kernel, by decide +kernel⟩
theorem in_X2_rideFirst_X2 : ∀ w ∈ wsX20, w ∈ wsX2_rideFirst := fun _ h => (List.mem_cons_of_mem _ (List.mem_append_left _ (List.mem_append_left _ (List.mem_append_left _ (List.mem_append_right _ h)))))
set_option maxHeartbeats 4000000 in
set_option maxRecDepth 100000 in
theorem t_X2_rideFirst_11 {p : Program} {e : Env} {s : State} {m : MethodId} {args : Array Value} {below : List Frame} {meth : Method} {c : Code} {Q : State → Prop} (l : Launch) {D : va_G} {cC cI cJ : ClassId} {A : Nat → Prop} {H0 : Heap} (S : CallFix p m c cX2_rideFirst 5 s args wsX2_rideFirst RX2) (hK : KK D (tyK cC cI cJ) s) (a_sr : Nat) (a_sr_known : Nat) (a_ro : Nat) (g_sr_unseen : Nat) (a_mo : Nat) (a_se : Nat) (a_mo_kinds : Nat) (a_mo_days : Nat) (a_mo_rideDays : Nat) (a_mo_helpKinds : Nat) (a_mo_nexts : Nat) (a_mo_helperKinds : Nat) (a_mo_prices : Nat) (a_mo_helpersOfKind : Nat) (a_mo_numbers : Nat) (a_se_left : Nat) (N : Nat) (v1 : Int32) (v2 : Int64) (sr_number : Int64) (sr_enough : Int64) (sr_hopeless : Int32) (mo_tasks : Int32) (mo_helpers : Int32) (mo_askedFirst : Int32) (mo_crumbsFirst : Int32) (mo_lastDay : Int32) (mo_kinds : (Nat → Int32)) (mo_days : (Nat → Int32)) (mo_rideDays : (Nat → Int32)) (mo_helpKinds : (Nat → Int32)) (mo_nexts : (Nat → Int32)) (mo_helperKinds : (Nat → Int32)) (mo_prices : (Nat → Int32)) (mo_helpersOfKind : (Nat → Int32)) (mo_numbers : (Nat → Int32)) (se_size : Int32) (se_lastPlace : Int32) (se_left : (Nat → Int32)) : ∀ (n : Nat) (v4 : Int32) (sr_known : (Nat → Int64)) (ro_asked : Int32) (ro_brought : Int32) (ro_friends : Int32) (ro_used : Int32) (ro_crumbs : Int32) (ro_day : Int32) (out : (((Nat → Int64) × Int32 × Int32 × Int32 × Int32 × Int32 × Int32) ⊕ (Int32 × (Nat → Int64) × Int32 × Int32 × Int32 × Int32 × Int32 × Int32))), lp_X2_rideFirst_11 N v1 v2 sr_number sr_enough sr_hopeless mo_lastDay mo_kinds mo_rideDays mo_helpKinds mo_nexts mo_helpersOfKind se_lastPlace se_left n v4 sr_known ro_asked ro_brought ro_friends ro_used ro_crumbs ro_day = some out → ∀ (H : Heap) (locs : List Loc) (ls : Array Slot), Wd D A H0 (wd_11 cC cI cJ a_sr a_sr_known a_ro g_sr_unseen sr_number sr_enough sr_hopeless a_mo a_se a_sr_known sr_known a_ro ro_asked ro_brought ro_friends ro_used ro_crumbs ro_day a_mo mo_tasks mo_helpers mo_askedFirst mo_crumbsFirst mo_lastDay a_mo_kinds a_mo_days a_mo_rideDays a_mo_helpKinds a_mo_nexts a_mo_helperKinds a_mo_prices a_mo_helpersOfKind a_mo_numbers a_mo_kinds mo_kinds a_mo_days mo_days a_mo_rideDays mo_rideDays a_mo_helpKinds mo_helpKinds a_mo_nexts mo_nexts a_mo_helperKinds mo_helperKinds a_mo_prices mo_prices a_mo_helpersOfKind mo_helpersOfKind a_mo_numbers mo_numbers a_se se_size se_lastPlace a_se_left a_se_left se_left) H locs → lv_has ls 5 [(0, .ref a_sr), (1, .int v1), (2, .long v2), (4, .int v4)] → (∀ (u : ((Nat → Int64) × Int32 × Int32 × Int32 × Int32 × Int32 × Int32)), out = (Sum.inl u) → ∀ (H : Heap) (locs : List Loc) (ls : Array Slot), Wd D A H0 (wd_11 cC cI cJ a_sr a_sr_known a_ro g_sr_unseen sr_number sr_enough sr_hopeless a_mo a_se a_sr_known u.1 a_ro u.2.1 u.2.2.1 u.2.2.2.1 u.2.2.2.2.1 u.2.2.2.2.2.1 u.2.2.2.2.2.2 a_mo mo_tasks mo_helpers mo_askedFirst mo_crumbsFirst mo_lastDay a_mo_kinds a_mo_days a_mo_rideDays a_mo_helpKinds a_mo_nexts a_mo_helperKinds a_mo_prices a_mo_helpersOfKind a_mo_numbers a_mo_kinds mo_kinds a_mo_days mo_days a_mo_rideDays mo_rideDays a_mo_helpKinds mo_helpKinds a_mo_nexts mo_nexts a_mo_helperKinds mo_helperKinds a_mo_prices mo_prices a_mo_helpersOfKind mo_helpersOfKind a_mo_numbers mo_numbers a_se se_size se_lastPlace a_se_left a_se_left se_left) H locs → lv_has ls 5 [] → W p l e rX2_rideFirst s m args below meth c H locs 0 0 Q (F0 m 78 ls [])) → (∀ (u : (Int32 × (Nat → Int64) × Int32 × Int32 × Int32 × Int32 × Int32 × Int32)), out = (Sum.inr u) → ∀ (H : Heap) (locs : List Loc) (ls : Array Slot), Wd D A H0 (wd_11 cC cI cJ a_sr a_sr_known a_ro g_sr_unseen sr_number sr_enough sr_hopeless a_mo a_se a_sr_known u.2.1 a_ro u.2.2.1 u.2.2.2.1 u.2.2.2.2.1 u.2.2.2.2.2.1 u.2.2.2.2.2.2.1 u.2.2.2.2.2.2.2 a_mo mo_tasks mo_helpers mo_askedFirst mo_crumbsFirst mo_lastDay a_mo_kinds a_mo_days a_mo_rideDays a_mo_helpKinds a_mo_nexts a_mo_helperKinds a_mo_prices a_mo_helpersOfKind a_mo_numbers a_mo_kinds mo_kinds a_mo_days mo_days a_mo_rideDays mo_rideDays a_mo_helpKinds mo_helpKinds a_mo_nexts mo_nexts a_mo_helperKinds mo_helperKinds a_mo_prices mo_prices a_mo_helpersOfKind mo_helpersOfKind a_mo_numbers mo_numbers a_se se_size se_lastPlace a_se_left a_se_left se_left) H locs → lv_has ls 5 [(4, .int u.1)] → W p l e rX2_rideFirst s m args below meth c H locs 0 0 Q (F0 m 61 ls [])) → W p l e rX2_rideFirst s m args below meth c H locs 0 0 Q (F0 m 11 ls []) := by
  have hx := S.1
  have hb := S.2.1
  intro n
  induction n with
  | zero => intro v4 sr_known ro_asked ro_brought ro_friends ro_used ro_crumbs ro_day out hm; cases (show (none : Option (((Nat → Int64) × Int32 × Int32 × Int32 × Int32 × Int32 × Int32) ⊕ (Int32 × (Nat → Int64) × Int32 × Int32 × Int32 × Int32 × Int32 × Int32))) = some out from hm)
  | succ n ih =>
    intro v4 sr_known ro_asked ro_brought ro_friends ro_used ro_crumbs ro_day out hm  H locs ls hw hl K0 K1
    rw [lp_X2_rideFirst_11] at hm
    refine lv_iload hx hb dX2_rideFirst_11 (lv_at hl 3 rfl) ?_
    refine lv_bipush (v := 8) hx hb dX2_rideFirst_13 (by decide) ?_
    refine lv_icmp_ge (tgt := 78) hx hb dX2_rideFirst_15 (by decide) (fun c3 => ?_) (fun c3 => ?_)
    · replace hm := ipos hm c3
      obtain rfl := Option.some.inj hm
      exact K0 _ rfl  _ _ ls hw (lv_sub hl [] rfl)
    · replace hm := ineg hm c3
      refine lv_aload_n hx hb dX2_rideFirst_18 rfl (lv_at hl 0 rfl) ?_
      refine f_get S hK hw.1 in_X2_rideFirst_X2 0 rfl rfl 7 (by decide) (List.mem_of_getElem? (i := 2) rfl) rfl rfl dX2_rideFirst_19 ?_
      refine lv_iload hx hb dX2_rideFirst_22 (lv_at hl 3 rfl) ?_
      refine lv_iload_n hx hb dX2_rideFirst_24 rfl (lv_at hl 1 rfl) ?_
      refine lv_iconst (v := 1) hx hb dX2_rideFirst_25 (by decide) ?_
      refine lv_iadd hx hb dX2_rideFirst_26 ?_
      obtain ⟨r4, h5, hm⟩ := ob hm
      refine k_rVi S hK hw.1 cal_X3_leaves gX2_rideFirst_X3_leaves (c_X3_leaves l D cC cI cJ a_se a_se_left se_size se_lastPlace se_left v4 (v1 + (1 : Int32)) r4 h5) ⟨⟨rfl, rfl⟩, Nat.le_of_ble_eq_true rfl, Nat.le_of_ble_eq_true rfl⟩ [13, 14] rfl 13 rfl rfl rfl hl.1 rfl (Nat.le_of_ble_eq_true rfl) dX2_rideFirst_27 ⟨Nat.zero_le _, Nat.zero_le _⟩ ?_
      refine lv_if_eq (tgt := 72) hx hb dX2_rideFirst_30 (by decide) (fun c6 => ?_) (fun c6 => ?_)
      · replace hm := ipos hm c6
        refine lv_iinc (v := (v4 + 1)) (lv' := [(4, .int (v4 + 1)), (0, .ref a_sr), (1, .int v1), (2, .long v2)]) hx hb dX2_rideFirst_72 hl (k := 3) rfl (by rw [ofi_1]) (by decide) rfl (fun ls hl => ?_)
        refine lv_goto (tgt := 11) hx hb dX2_rideFirst_75 (by decide) ?_
        exact ih (v4 + 1) sr_known ro_asked ro_brought ro_friends ro_used ro_crumbs ro_day _ hm  _ _ ls hw (lv_sub hl [1, 2, 3, 0] rfl) K0 K1
      · replace hm := ineg hm c6
        refine lv_aload_n hx hb dX2_rideFirst_33 rfl (lv_at hl 0 rfl) ?_
        refine f_get S hK hw.1 in_X2_rideFirst_X2 0 rfl rfl 1 (by decide) (List.mem_of_getElem? (i := 1) rfl) rfl rfl dX2_rideFirst_34 ?_
        refine lv_aload_n hx hb dX2_rideFirst_37 rfl (lv_at hl 0 rfl) ?_
        refine f_get S hK hw.1 in_X2_rideFirst_X2 0 rfl rfl 6 (by decide) (List.mem_of_getElem? (i := 3) rfl) rfl rfl dX2_rideFirst_38 ?_
        refine lv_iload hx hb dX2_rideFirst_41 (lv_at hl 3 rfl) ?_
        obtain ⟨r7, h8, hm⟩ := ob hm
        refine k_wVi S hK hw cal_X4_tryRide gX2_rideFirst_X4_tryRide (c_X4_tryRide l D cC cI cJ a_ro a_mo a_mo_kinds a_mo_days a_mo_rideDays a_mo_helpKinds a_mo_nexts a_mo_helperKinds a_mo_prices a_mo_helpersOfKind a_mo_numbers ro_asked ro_brought ro_friends ro_used ro_crumbs ro_day mo_tasks mo_helpers mo_askedFirst mo_crumbsFirst mo_lastDay mo_kinds mo_days mo_rideDays mo_helpKinds mo_nexts mo_helperKinds mo_prices mo_helpersOfKind mo_numbers v4 (aw _) (hw.own [2, 3, 4, 5, 6, 7, 8, 9, 10, 11, 12] (by decide) rfl) r7 h8) ⟨⟨rfl, rfl⟩, Nat.le_of_ble_eq_true rfl, Nat.le_of_ble_eq_true rfl⟩ [2, 3, 4, 5, 6, 7, 8, 9, 10, 11, 12] rfl 2 rfl rfl rfl hl.1 rfl (Nat.le_of_ble_eq_true rfl) dX2_rideFirst_43 ⟨Nat.zero_le _, Nat.zero_le _⟩ (fun H locs hJ hB => ?_)
        have hw := hJ _ hB rfl
        replace hw : Wd D A _ (wd_11 cC cI cJ a_sr a_sr_known a_ro g_sr_unseen sr_number sr_enough sr_hopeless a_mo a_se a_sr_known sr_known a_ro r7.2.1 r7.2.2.1 ro_friends r7.2.2.2.1 ro_crumbs r7.2.2.2.2 a_mo mo_tasks mo_helpers mo_askedFirst mo_crumbsFirst mo_lastDay a_mo_kinds a_mo_days a_mo_rideDays a_mo_helpKinds a_mo_nexts a_mo_helperKinds a_mo_prices a_mo_helpersOfKind a_mo_numbers a_mo_kinds mo_kinds a_mo_days mo_days a_mo_rideDays mo_rideDays a_mo_helpKinds mo_helpKinds a_mo_nexts mo_nexts a_mo_helperKinds mo_helperKinds a_mo_prices mo_prices a_mo_helpersOfKind mo_helpersOfKind a_mo_numbers mo_numbers a_se se_size se_lastPlace a_se_left a_se_left se_left) H locs := hw
        refine lv_if_eq (tgt := 72) hx hb dX2_rideFirst_46 (by decide) (fun c9 => ?_) (fun c9 => ?_)
        · replace hm := ipos hm c9
          refine lv_iinc (v := (v4 + 1)) (lv' := [(4, .int (v4 + 1)), (0, .ref a_sr), (1, .int v1), (2, .long v2)]) hx hb dX2_rideFirst_72 hl (k := 3) rfl (by rw [ofi_1]) (by decide) rfl (fun ls hl => ?_)
          refine lv_goto (tgt := 11) hx hb dX2_rideFirst_75 (by decide) ?_
          exact ih (v4 + 1) sr_known r7.2.1 r7.2.2.1 ro_friends r7.2.2.2.1 ro_crumbs r7.2.2.2.2 _ hm  _ _ ls hw (lv_sub hl [1, 2, 3, 0] rfl) K0 K1
        · replace hm := ineg hm c9
          refine lv_aload_n hx hb dX2_rideFirst_49 rfl (lv_at hl 0 rfl) ?_
          refine lv_iload_n hx hb dX2_rideFirst_50 rfl (lv_at hl 1 rfl) ?_
          refine lv_iconst (v := 1) hx hb dX2_rideFirst_51 (by decide) ?_
          refine lv_iadd hx hb dX2_rideFirst_52 ?_
          obtain ⟨r10, h11, hm⟩ := ob hm
          refine k_wSl S hK hw cal_X2_waysOn gX2_rideFirst_X2_waysOn (c_X2_waysOn l D cC cI cJ a_sr a_sr_known a_ro g_sr_unseen a_mo a_se a_mo_kinds a_mo_days a_mo_rideDays a_mo_helpKinds a_mo_nexts a_mo_helperKinds a_mo_prices a_mo_helpersOfKind a_mo_numbers a_se_left sr_number sr_enough sr_hopeless sr_known r7.2.1 r7.2.2.1 ro_friends r7.2.2.2.1 ro_crumbs r7.2.2.2.2 mo_tasks mo_helpers mo_askedFirst mo_crumbsFirst mo_lastDay mo_kinds mo_days mo_rideDays mo_helpKinds mo_nexts mo_helperKinds mo_prices mo_helpersOfKind mo_numbers se_size se_lastPlace se_left (v1 + (1 : Int32)) N 10 (aw _) (hw.own [0, 1, 2, 3, 4, 5, 6, 7, 8, 9, 10, 11, 12, 13, 14] (by decide) rfl) r10 h11) ⟨⟨rfl, rfl⟩, Nat.le_of_ble_eq_true rfl, Nat.le_of_ble_eq_true rfl⟩ [0, 1, 2, 3, 4, 5, 6, 7, 8, 9, 10, 11, 12, 13, 14] rfl rfl hl.1 rfl (Nat.le_of_ble_eq_true rfl) dX2_rideFirst_53 ⟨Nat.zero_le _, Nat.zero_le _⟩ (fun H locs hJ hB => ?_)
          have hw := hJ _ hB rfl
          replace hw : Wd D A _ (wd_11 cC cI cJ a_sr a_sr_known a_ro g_sr_unseen sr_number sr_enough sr_hopeless a_mo a_se a_sr_known r10.2.1 a_ro r10.2.2.1 r10.2.2.2.1 r10.2.2.2.2.1 r10.2.2.2.2.2.1 r10.2.2.2.2.2.2.1 r10.2.2.2.2.2.2.2 a_mo mo_tasks mo_helpers mo_askedFirst mo_crumbsFirst mo_lastDay a_mo_kinds a_mo_days a_mo_rideDays a_mo_helpKinds a_mo_nexts a_mo_helperKinds a_mo_prices a_mo_helpersOfKind a_mo_numbers a_mo_kinds mo_kinds a_mo_days mo_days a_mo_rideDays mo_rideDays a_mo_helpKinds mo_helpKinds a_mo_nexts mo_nexts a_mo_helperKinds mo_helperKinds a_mo_prices mo_prices a_mo_helpersOfKind mo_helpersOfKind a_mo_numbers mo_numbers a_se se_size se_lastPlace a_se_left a_se_left se_left) H locs := hw
          refine lv_lconst (v := 0) hx hb dX2_rideFirst_56 (by decide) ?_
          refine W.lcmp hx hb dX2_rideFirst_57 ?_
          refine lv_if_le (tgt := 64) hx hb dX2_rideFirst_58 (by decide) (fun c12 => ?_) (fun c12 => ?_)
          · replace hm := ipos hm c12
            refine lv_aload_n hx hb dX2_rideFirst_64 rfl (lv_at hl 0 rfl) ?_
            refine f_get S hK hw.1 in_X2_rideFirst_X2 0 rfl rfl 1 (by decide) (List.mem_of_getElem? (i := 1) rfl) rfl rfl dX2_rideFirst_65 ?_
            refine lv_lload_n hx hb dX2_rideFirst_68 rfl (lv_at hl 2 rfl) ?_
            obtain ⟨r13, h14, hm⟩ := ob hm
            refine k_wVv S hK hw cal_X4_unpack gX2_rideFirst_X4_unpack (c_X4_unpack l D cC cI cJ a_ro r10.2.2.1 r10.2.2.2.1 r10.2.2.2.2.1 r10.2.2.2.2.2.1 r10.2.2.2.2.2.2.1 r10.2.2.2.2.2.2.2 v2 (aw _) (hw.own [2] (by decide) rfl) r13 h14) ⟨⟨rfl, rfl⟩, Nat.le_of_ble_eq_true rfl, Nat.le_of_ble_eq_true rfl⟩ [2] rfl 2 rfl rfl rfl hl.1 rfl (Nat.le_of_ble_eq_true rfl) dX2_rideFirst_69 ⟨Nat.zero_le _, Nat.zero_le _⟩ (fun H locs hJ hB => ?_)
            have hw := hJ _ hB rfl
            replace hw : Wd D A _ (wd_11 cC cI cJ a_sr a_sr_known a_ro g_sr_unseen sr_number sr_enough sr_hopeless a_mo a_se a_sr_known r10.2.1 a_ro r13.1 r13.2.1 r13.2.2.1 r13.2.2.2.1 r13.2.2.2.2.1 r13.2.2.2.2.2 a_mo mo_tasks mo_helpers mo_askedFirst mo_crumbsFirst mo_lastDay a_mo_kinds a_mo_days a_mo_rideDays a_mo_helpKinds a_mo_nexts a_mo_helperKinds a_mo_prices a_mo_helpersOfKind a_mo_numbers a_mo_kinds mo_kinds a_mo_days mo_days a_mo_rideDays mo_rideDays a_mo_helpKinds mo_helpKinds a_mo_nexts mo_nexts a_mo_helperKinds mo_helperKinds a_mo_prices mo_prices a_mo_helpersOfKind mo_helpersOfKind a_mo_numbers mo_numbers a_se se_size se_lastPlace a_se_left a_se_left se_left) H locs := hw
            refine lv_iinc (v := (v4 + 1)) (lv' := [(4, .int (v4 + 1)), (0, .ref a_sr), (1, .int v1), (2, .long v2)]) hx hb dX2_rideFirst_72 hl (k := 3) rfl (by rw [ofi_1]) (by decide) rfl (fun ls hl => ?_)
            refine lv_goto (tgt := 11) hx hb dX2_rideFirst_75 (by decide) ?_
            exact ih (v4 + 1) r10.2.1 r13.1 r13.2.1 r13.2.2.1 r13.2.2.2.1 r13.2.2.2.2.1 r13.2.2.2.2.2 _ hm  _ _ ls hw (lv_sub hl [1, 2, 3, 0] rfl) K0 K1
          · replace hm := ineg hm c12
            obtain rfl := Option.some.inj hm
            exact K1 _ rfl  _ _ ls hw (lv_sub hl [3] rfl)
set_option maxHeartbeats 4000000 in
set_option maxRecDepth 100000 in
theorem c_X2_rideFirst (l : Launch) (D : va_G) (cC cI cJ : ClassId) (a_sr : Nat) (a_sr_known : Nat) (a_ro : Nat) (g_sr_unseen : Nat) (a_mo : Nat) (a_se : Nat) (a_mo_kinds : Nat) (a_mo_days : Nat) (a_mo_rideDays : Nat) (a_mo_helpKinds : Nat) (a_mo_nexts : Nat) (a_mo_helperKinds : Nat) (a_mo_prices : Nat) (a_mo_helpersOfKind : Nat) (a_mo_numbers : Nat) (a_se_left : Nat) (sr_number : Int64) (sr_enough : Int64) (sr_hopeless : Int32) (sr_known : (Nat → Int64)) (ro_asked : Int32) (ro_brought : Int32) (ro_friends : Int32) (ro_used : Int32) (ro_crumbs : Int32) (ro_day : Int32) (mo_tasks : Int32) (mo_helpers : Int32) (mo_askedFirst : Int32) (mo_crumbsFirst : Int32) (mo_lastDay : Int32) (mo_kinds : (Nat → Int32)) (mo_days : (Nat → Int32)) (mo_rideDays : (Nat → Int32)) (mo_helpKinds : (Nat → Int32)) (mo_nexts : (Nat → Int32)) (mo_helperKinds : (Nat → Int32)) (mo_prices : (Nat → Int32)) (mo_helpersOfKind : (Nat → Int32)) (mo_numbers : (Nat → Int32)) (se_size : Int32) (se_lastPlace : Int32) (se_left : (Nat → Int32)) (p0 : Int32) (N : Nat) (A : Nat → Prop) (hD : va_D A (wd_11 cC cI cJ a_sr a_sr_known a_ro g_sr_unseen sr_number sr_enough sr_hopeless a_mo a_se a_sr_known sr_known a_ro ro_asked ro_brought ro_friends ro_used ro_crumbs ro_day a_mo mo_tasks mo_helpers mo_askedFirst mo_crumbsFirst mo_lastDay a_mo_kinds a_mo_days a_mo_rideDays a_mo_helpKinds a_mo_nexts a_mo_helperKinds a_mo_prices a_mo_helpersOfKind a_mo_numbers a_mo_kinds mo_kinds a_mo_days mo_days a_mo_rideDays mo_rideDays a_mo_helpKinds mo_helpKinds a_mo_nexts mo_nexts a_mo_helperKinds mo_helperKinds a_mo_prices mo_prices a_mo_helpersOfKind mo_helpersOfKind a_mo_numbers mo_numbers a_se se_size se_lastPlace a_se_left a_se_left se_left)) (out : (Int32 × (Nat → Int64) × Int32 × Int32 × Int32 × Int32 × Int32 × Int32)) (hm : m_X2_rideFirst N sr_number sr_enough sr_hopeless sr_known ro_asked ro_brought ro_friends ro_used ro_crumbs ro_day mo_lastDay mo_kinds mo_rideDays mo_helpKinds mo_nexts mo_helpersOfKind se_lastPlace se_left p0 = some out) : WrI l yX2_rideFirst wsX2_rideFirst rX2_rideFirst D (tyK cC cI cJ) [.ref a_sr, .int p0] A (wd_11 cC cI cJ a_sr a_sr_known a_ro g_sr_unseen sr_number sr_enough sr_hopeless a_mo a_se a_sr_known sr_known a_ro ro_asked ro_brought ro_friends ro_used ro_crumbs ro_day a_mo mo_tasks mo_helpers mo_askedFirst mo_crumbsFirst mo_lastDay a_mo_kinds a_mo_days a_mo_rideDays a_mo_helpKinds a_mo_nexts a_mo_helperKinds a_mo_prices a_mo_helpersOfKind a_mo_numbers a_mo_kinds mo_kinds a_mo_days mo_days a_mo_rideDays mo_rideDays a_mo_helpKinds mo_helpKinds a_mo_nexts mo_nexts a_mo_helperKinds mo_helperKinds a_mo_prices mo_prices a_mo_helpersOfKind mo_helpersOfKind a_mo_numbers mo_numbers a_se se_size se_lastPlace a_se_left a_se_left se_left) (Bw0 D (wd_11 cC cI cJ a_sr a_sr_known a_ro g_sr_unseen sr_number sr_enough sr_hopeless a_mo a_se a_sr_known out.2.1 a_ro out.2.2.1 out.2.2.2.1 out.2.2.2.2.1 out.2.2.2.2.2.1 out.2.2.2.2.2.2.1 out.2.2.2.2.2.2.2 a_mo mo_tasks mo_helpers mo_askedFirst mo_crumbsFirst mo_lastDay a_mo_kinds a_mo_days a_mo_rideDays a_mo_helpKinds a_mo_nexts a_mo_helperKinds a_mo_prices a_mo_helpersOfKind a_mo_numbers a_mo_kinds mo_kinds a_mo_days mo_days a_mo_rideDays mo_rideDays a_mo_helpKinds mo_helpKinds a_mo_nexts mo_nexts a_mo_helperKinds mo_helperKinds a_mo_prices mo_prices a_mo_helpersOfKind mo_helpersOfKind a_mo_numbers mo_numbers a_se se_size se_lastPlace a_se_left a_se_left se_left)) out.1 := by
  unfold m_X2_rideFirst at hm
  refine enter (cc := cX2_rideFirst) (maxL := 5) (ret := (some .int)) (lv := [(0, .ref a_sr), (1, .int p0)]) (by decide) rfl (Nat.le_of_ble_eq_true rfl) rfl ?_
  intro p e s m args below meth c S hr hlk hK hP ls hl
  replace S : CallFix p m c cX2_rideFirst 5 s args wsX2_rideFirst RX2 := S
  have hx := S.1
  have hb := S.2.1
  have hw : Wd D A s.heap (wd_11 cC cI cJ a_sr a_sr_known a_ro g_sr_unseen sr_number sr_enough sr_hopeless a_mo a_se a_sr_known sr_known a_ro ro_asked ro_brought ro_friends ro_used ro_crumbs ro_day a_mo mo_tasks mo_helpers mo_askedFirst mo_crumbsFirst mo_lastDay a_mo_kinds a_mo_days a_mo_rideDays a_mo_helpKinds a_mo_nexts a_mo_helperKinds a_mo_prices a_mo_helpersOfKind a_mo_numbers a_mo_kinds mo_kinds a_mo_days mo_days a_mo_rideDays mo_rideDays a_mo_helpKinds mo_helpKinds a_mo_nexts mo_nexts a_mo_helperKinds mo_helperKinds a_mo_prices mo_prices a_mo_helpersOfKind mo_helpersOfKind a_mo_numbers mo_numbers a_se se_size se_lastPlace a_se_left a_se_left se_left) s.heap [] := ⟨hP, hD, va_S.rf⟩
  have hw0 := hw
  refine lv_aload_n hx hb dX2_rideFirst_0 rfl (lv_at hl 0 rfl) ?_
  refine f_get S hK hw.1 in_X2_rideFirst_X2 0 rfl rfl 1 (by decide) (List.mem_of_getElem? (i := 1) rfl) rfl rfl dX2_rideFirst_1 ?_
  obtain ⟨r1, h2, hm⟩ := ob hm
  refine k_rVl S hK hw.1 cal_X4_packed gX2_rideFirst_X4_packed (c_X4_packed l D cC cI cJ a_ro ro_asked ro_brought ro_friends ro_used ro_crumbs ro_day r1 h2) ⟨⟨rfl, rfl⟩, Nat.le_of_ble_eq_true rfl, Nat.le_of_ble_eq_true rfl⟩ [2] rfl 2 rfl rfl rfl hl.1 rfl (Nat.le_of_ble_eq_true rfl) dX2_rideFirst_4 ⟨Nat.zero_le _, Nat.zero_le _⟩ ?_
  refine lv_lstore_n (lv' := [(2, .long r1), (0, .ref a_sr), (1, .int p0)]) hx hb dX2_rideFirst_7 rfl hl (by decide) rfl (fun ls hl => ?_)
  refine lv_iconst (v := 0) hx hb dX2_rideFirst_8 (by decide) ?_
  refine lv_istore (lv' := [(4, .int (0 : Int32)), (2, .long r1), (0, .ref a_sr), (1, .int p0)]) hx hb dX2_rideFirst_9 hl (by decide) rfl (fun ls hl => ?_)
  obtain ⟨r15, h16, hm⟩ := ob hm
  refine t_X2_rideFirst_11 l S hK a_sr a_sr_known a_ro g_sr_unseen a_mo a_se a_mo_kinds a_mo_days a_mo_rideDays a_mo_helpKinds a_mo_nexts a_mo_helperKinds a_mo_prices a_mo_helpersOfKind a_mo_numbers a_se_left N p0 r1 sr_number sr_enough sr_hopeless mo_tasks mo_helpers mo_askedFirst mo_crumbsFirst mo_lastDay mo_kinds mo_days mo_rideDays mo_helpKinds mo_nexts mo_helperKinds mo_prices mo_helpersOfKind mo_numbers se_size se_lastPlace se_left N (0 : Int32) sr_known ro_asked ro_brought ro_friends ro_used ro_crumbs ro_day r15 h16  _ _ ls hw (lv_sub hl [2, 3, 1, 0] rfl) (fun u17 hu H locs ls hw hl => ?_) (fun u18 hu H locs ls hw hl => ?_)
  · subst hu
    replace hm := seL hm
    refine lv_bipush (v := (-4)) hx hb dX2_rideFirst_78 (by decide) ?_
    obtain rfl := Option.some.inj hm
    exact e_WI S hr hlk hw rfl hw.1 dX2_rideFirst_80
  · subst hu
    replace hm := seR hm
    refine lv_iload hx hb dX2_rideFirst_61 (lv_at hl 0 rfl) ?_
    obtain rfl := Option.some.inj hm
    exact e_WI S hr hlk hw rfl hw.1 dX2_rideFirst_63

abbrev rX2_placeInFirst : Room := { frames := 15, cells := 0, slots := 0, locals := 403 }
theorem cal_X2_placeInFirst : Cal yX2_placeInFirst wsX2_placeInFirst cX2_placeInFirst 7 (some .int) RX2 4 := ⟨⟨_, rfl⟩, rfl, by decide +kernel, by decide +kernel, by decide +kernel⟩
set_option maxHeartbeats 4000000 in
set_option maxRecDepth 100000 in
theorem t_X2_placeInFirst_16 {p : Program} {e : Env} {s : State} {m : MethodId} {args : Array Value} {below : List Frame} {meth : Method} {c : Code} {Q : State → Prop} (l : Launch) {D : va_G} {cC cI cJ : ClassId} {A : Nat → Prop} {H0 : Heap} (S : CallFix p m c cX2_placeInFirst 7 s args wsX2_placeInFirst RX2) (hK : KK D (tyK cC cI cJ) s) (a_sr : Nat) (a_sr_known : Nat) (a_ro : Nat) (g_sr_unseen : Nat) (g_sr_months : Nat) (g_sr_heeded : Nat) (a_mo : Nat) (a_mo_kinds : Nat) (a_mo_days : Nat) (a_mo_rideDays : Nat) (a_mo_helpKinds : Nat) (a_mo_nexts : Nat) (a_mo_helperKinds : Nat) (a_mo_prices : Nat) (a_mo_helpersOfKind : Nat) (a_mo_numbers : Nat) (a_fr : Nat) (a_se : Nat) (a_se_left : Nat) (N : Nat) (v4 : Int32) (sr_number : Int64) (sr_enough : Int64) (sr_hopeless : Int32) (mo_tasks : Int32) (mo_helpers : Int32) (mo_askedFirst : Int32) (mo_crumbsFirst : Int32) (mo_lastDay : Int32) (mo_kinds : (Nat → Int32)) (mo_days : (Nat → Int32)) (mo_rideDays : (Nat → Int32)) (mo_helpKinds : (Nat → Int32)) (mo_nexts : (Nat → Int32)) (mo_helperKinds : (Nat → Int32)) (mo_prices : (Nat → Int32)) (mo_helpersOfKind : (Nat → Int32)) (mo_numbers : (Nat → Int32)) (fr_asked : Int32) (fr_brought : Int32) (fr_friends : Int32) (fr_used : Int32) (fr_crumbs : Int32) (fr_day : Int32) (se_size : Int32) (se_lastPlace : Int32) (se_left : (Nat → Int32)) : ∀ (n : Nat) (v5 : Int32) (v6 : Int32) (sr_known : (Nat → Int64)) (ro_asked : Int32) (ro_brought : Int32) (ro_friends : Int32) (ro_used : Int32) (ro_crumbs : Int32) (ro_day : Int32) (out : ((Int32 × (Nat → Int64) × Int32 × Int32 × Int32 × Int32 × Int32 × Int32) ⊕ ((Nat → Int64) × Int32 × Int32 × Int32 × Int32 × Int32 × Int32))), lp_X2_placeInFirst_16 N v4 sr_number sr_enough sr_hopeless mo_lastDay mo_kinds mo_rideDays mo_helpKinds mo_nexts mo_helpersOfKind se_lastPlace se_left n v5 v6 sr_known ro_asked ro_brought ro_friends ro_used ro_crumbs ro_day = some out → ∀ (H : Heap) (locs : List Loc) (ls : Array Slot), Wd D A H0 (wd_12 cC cI cJ a_sr a_sr_known a_ro g_sr_unseen sr_number sr_enough sr_hopeless a_mo a_se a_sr_known sr_known a_ro ro_asked ro_brought ro_friends ro_used ro_crumbs ro_day a_mo mo_tasks mo_helpers mo_askedFirst mo_crumbsFirst mo_lastDay a_mo_kinds a_mo_days a_mo_rideDays a_mo_helpKinds a_mo_nexts a_mo_helperKinds a_mo_prices a_mo_helpersOfKind a_mo_numbers a_mo_kinds mo_kinds a_mo_days mo_days a_mo_rideDays mo_rideDays a_mo_helpKinds mo_helpKinds a_mo_nexts mo_nexts a_mo_helperKinds mo_helperKinds a_mo_prices mo_prices a_mo_helpersOfKind mo_helpersOfKind a_mo_numbers mo_numbers a_fr fr_asked fr_brought fr_friends fr_used fr_crumbs fr_day a_se se_size se_lastPlace a_se_left a_se_left se_left) H locs → lv_has ls 7 [(0, .ref a_sr), (4, .int v4), (5, .int v5), (6, .int v6)] → (∀ (u : (Int32 × (Nat → Int64) × Int32 × Int32 × Int32 × Int32 × Int32 × Int32)), out = (Sum.inl u) → ∀ (H : Heap) (locs : List Loc) (ls : Array Slot), Wd D A H0 (wd_12 cC cI cJ a_sr a_sr_known a_ro g_sr_unseen sr_number sr_enough sr_hopeless a_mo a_se a_sr_known u.2.1 a_ro u.2.2.1 u.2.2.2.1 u.2.2.2.2.1 u.2.2.2.2.2.1 u.2.2.2.2.2.2.1 u.2.2.2.2.2.2.2 a_mo mo_tasks mo_helpers mo_askedFirst mo_crumbsFirst mo_lastDay a_mo_kinds a_mo_days a_mo_rideDays a_mo_helpKinds a_mo_nexts a_mo_helperKinds a_mo_prices a_mo_helpersOfKind a_mo_numbers a_mo_kinds mo_kinds a_mo_days mo_days a_mo_rideDays mo_rideDays a_mo_helpKinds mo_helpKinds a_mo_nexts mo_nexts a_mo_helperKinds mo_helperKinds a_mo_prices mo_prices a_mo_helpersOfKind mo_helpersOfKind a_mo_numbers mo_numbers a_fr fr_asked fr_brought fr_friends fr_used fr_crumbs fr_day a_se se_size se_lastPlace a_se_left a_se_left se_left) H locs → lv_has ls 7 [(5, .int u.1)] → W p l e rX2_placeInFirst s m args below meth c H locs 0 0 Q (F0 m 45 ls [])) → (∀ (u : ((Nat → Int64) × Int32 × Int32 × Int32 × Int32 × Int32 × Int32)), out = (Sum.inr u) → ∀ (H : Heap) (locs : List Loc) (ls : Array Slot), Wd D A H0 (wd_12 cC cI cJ a_sr a_sr_known a_ro g_sr_unseen sr_number sr_enough sr_hopeless a_mo a_se a_sr_known u.1 a_ro u.2.1 u.2.2.1 u.2.2.2.1 u.2.2.2.2.1 u.2.2.2.2.2.1 u.2.2.2.2.2.2 a_mo mo_tasks mo_helpers mo_askedFirst mo_crumbsFirst mo_lastDay a_mo_kinds a_mo_days a_mo_rideDays a_mo_helpKinds a_mo_nexts a_mo_helperKinds a_mo_prices a_mo_helpersOfKind a_mo_numbers a_mo_kinds mo_kinds a_mo_days mo_days a_mo_rideDays mo_rideDays a_mo_helpKinds mo_helpKinds a_mo_nexts mo_nexts a_mo_helperKinds mo_helperKinds a_mo_prices mo_prices a_mo_helpersOfKind mo_helpersOfKind a_mo_numbers mo_numbers a_fr fr_asked fr_brought fr_friends fr_used fr_crumbs fr_day a_se se_size se_lastPlace a_se_left a_se_left se_left) H locs → lv_has ls 7 [] → W p l e rX2_placeInFirst s m args below meth c H locs 0 0 Q (F0 m 36 ls [])) → W p l e rX2_placeInFirst s m args below meth c H locs 0 0 Q (F0 m 16 ls []) := by
  have hx := S.1
  have hb := S.2.1
  intro n
  induction n with
  | zero => intro v5 v6 sr_known ro_asked ro_brought ro_friends ro_used ro_crumbs ro_day out hm; cases (show (none : Option ((Int32 × (Nat → Int64) × Int32 × Int32 × Int32 × Int32 × Int32 × Int32) ⊕ ((Nat → Int64) × Int32 × Int32 × Int32 × Int32 × Int32 × Int32))) = some out from hm)
  | succ n ih =>
    intro v5 v6 sr_known ro_asked ro_brought ro_friends ro_used ro_crumbs ro_day out hm  H locs ls hw hl K0 K1
    rw [lp_X2_placeInFirst_16] at hm
    refine lv_iload hx hb dX2_placeInFirst_16 (lv_at hl 3 rfl) ?_
    refine lv_iload hx hb dX2_placeInFirst_18 (lv_at hl 1 rfl) ?_
    refine lv_icmp_ge (tgt := 45) hx hb dX2_placeInFirst_20 (by decide) (fun c3 => ?_) (fun c3 => ?_)
    · replace hm := ipos hm c3
      obtain rfl := Option.some.inj hm
      exact K0 _ rfl  _ _ ls hw (lv_sub hl [2] rfl)
    · replace hm := ineg hm c3
      refine lv_aload_n hx hb dX2_placeInFirst_23 rfl (lv_at hl 0 rfl) ?_
      refine lv_iload hx hb dX2_placeInFirst_24 (lv_at hl 3 rfl) ?_
      obtain ⟨r4, h5, hm⟩ := ob hm
      refine k_wVi S hK hw cal_X2_rideFirst gX2_placeInFirst_X2_rideFirst (c_X2_rideFirst l D cC cI cJ a_sr a_sr_known a_ro g_sr_unseen a_mo a_se a_mo_kinds a_mo_days a_mo_rideDays a_mo_helpKinds a_mo_nexts a_mo_helperKinds a_mo_prices a_mo_helpersOfKind a_mo_numbers a_se_left sr_number sr_enough sr_hopeless sr_known ro_asked ro_brought ro_friends ro_used ro_crumbs ro_day mo_tasks mo_helpers mo_askedFirst mo_crumbsFirst mo_lastDay mo_kinds mo_days mo_rideDays mo_helpKinds mo_nexts mo_helperKinds mo_prices mo_helpersOfKind mo_numbers se_size se_lastPlace se_left v6 N (aw _) (hw.own [0, 1, 2, 3, 4, 5, 6, 7, 8, 9, 10, 11, 12, 14, 15] (by decide) rfl) r4 h5) ⟨⟨rfl, rfl⟩, Nat.le_of_ble_eq_true rfl, Nat.le_of_ble_eq_true rfl⟩ [0, 1, 2, 3, 4, 5, 6, 7, 8, 9, 10, 11, 12, 14, 15] rfl 0 rfl rfl rfl hl.1 rfl (Nat.le_of_ble_eq_true rfl) dX2_placeInFirst_26 ⟨Nat.zero_le _, Nat.zero_le _⟩ (fun H locs hJ hB => ?_)
      have hw := hJ _ hB rfl
      replace hw : Wd D A _ (wd_12 cC cI cJ a_sr a_sr_known a_ro g_sr_unseen sr_number sr_enough sr_hopeless a_mo a_se a_sr_known r4.2.1 a_ro r4.2.2.1 r4.2.2.2.1 r4.2.2.2.2.1 r4.2.2.2.2.2.1 r4.2.2.2.2.2.2.1 r4.2.2.2.2.2.2.2 a_mo mo_tasks mo_helpers mo_askedFirst mo_crumbsFirst mo_lastDay a_mo_kinds a_mo_days a_mo_rideDays a_mo_helpKinds a_mo_nexts a_mo_helperKinds a_mo_prices a_mo_helpersOfKind a_mo_numbers a_mo_kinds mo_kinds a_mo_days mo_days a_mo_rideDays mo_rideDays a_mo_helpKinds mo_helpKinds a_mo_nexts mo_nexts a_mo_helperKinds mo_helperKinds a_mo_prices mo_prices a_mo_helpersOfKind mo_helpersOfKind a_mo_numbers mo_numbers a_fr fr_asked fr_brought fr_friends fr_used fr_crumbs fr_day a_se se_size se_lastPlace a_se_left a_se_left se_left) H locs := hw
      refine lv_istore (lv' := [(5, .int r4.1), (0, .ref a_sr), (4, .int v4), (6, .int v6)]) hx hb dX2_placeInFirst_29 hl (by decide) rfl (fun ls hl => ?_)
      refine lv_iload hx hb dX2_placeInFirst_31 (lv_at hl 0 rfl) ?_
      refine lv_if_ge (tgt := 39) hx hb dX2_placeInFirst_33 (by decide) (fun c6 => ?_) (fun c6 => ?_)
      · replace hm := ipos hm c6
        refine lv_iinc (v := (v6 + 1)) (lv' := [(6, .int (v6 + 1)), (5, .int r4.1), (0, .ref a_sr), (4, .int v4)]) hx hb dX2_placeInFirst_39 hl (k := 3) rfl (by rw [ofi_1]) (by decide) rfl (fun ls hl => ?_)
        refine lv_goto (tgt := 16) hx hb dX2_placeInFirst_42 (by decide) ?_
        exact ih r4.1 (v6 + 1) r4.2.1 r4.2.2.1 r4.2.2.2.1 r4.2.2.2.2.1 r4.2.2.2.2.2.1 r4.2.2.2.2.2.2.1 r4.2.2.2.2.2.2.2 _ hm  _ _ ls hw (lv_sub hl [2, 3, 1, 0] rfl) K0 K1
      · replace hm := ineg hm c6
        obtain rfl := Option.some.inj hm
        exact K1 _ rfl  _ _ ls hw (lv_sub hl [] rfl)
set_option maxHeartbeats 4000000 in
set_option maxRecDepth 100000 in
theorem c_X2_placeInFirst (l : Launch) (D : va_G) (cC cI cJ : ClassId) (a_sr : Nat) (a_sr_known : Nat) (a_ro : Nat) (g_sr_unseen : Nat) (g_sr_months : Nat) (g_sr_heeded : Nat) (a_mo : Nat) (a_mo_kinds : Nat) (a_mo_days : Nat) (a_mo_rideDays : Nat) (a_mo_helpKinds : Nat) (a_mo_nexts : Nat) (a_mo_helperKinds : Nat) (a_mo_prices : Nat) (a_mo_helpersOfKind : Nat) (a_mo_numbers : Nat) (a_fr : Nat) (a_se : Nat) (a_se_left : Nat) (sr_number : Int64) (sr_enough : Int64) (sr_hopeless : Int32) (sr_known : (Nat → Int64)) (ro_asked : Int32) (ro_brought : Int32) (ro_friends : Int32) (ro_used : Int32) (ro_crumbs : Int32) (ro_day : Int32) (mo_tasks : Int32) (mo_helpers : Int32) (mo_askedFirst : Int32) (mo_crumbsFirst : Int32) (mo_lastDay : Int32) (mo_kinds : (Nat → Int32)) (mo_days : (Nat → Int32)) (mo_rideDays : (Nat → Int32)) (mo_helpKinds : (Nat → Int32)) (mo_nexts : (Nat → Int32)) (mo_helperKinds : (Nat → Int32)) (mo_prices : (Nat → Int32)) (mo_helpersOfKind : (Nat → Int32)) (mo_numbers : (Nat → Int32)) (fr_asked : Int32) (fr_brought : Int32) (fr_friends : Int32) (fr_used : Int32) (fr_crumbs : Int32) (fr_day : Int32) (se_size : Int32) (se_lastPlace : Int32) (se_left : (Nat → Int32)) (p3 : Int32) (N : Nat) (A : Nat → Prop) (hD : va_D A (wd_12 cC cI cJ a_sr a_sr_known a_ro g_sr_unseen sr_number sr_enough sr_hopeless g_sr_months g_sr_heeded a_sr_known sr_known a_ro ro_asked ro_brought ro_friends ro_used ro_crumbs ro_day a_mo mo_tasks mo_helpers mo_askedFirst mo_crumbsFirst mo_lastDay a_mo_kinds a_mo_days a_mo_rideDays a_mo_helpKinds a_mo_nexts a_mo_helperKinds a_mo_prices a_mo_helpersOfKind a_mo_numbers a_mo_kinds mo_kinds a_mo_days mo_days a_mo_rideDays mo_rideDays a_mo_helpKinds mo_helpKinds a_mo_nexts mo_nexts a_mo_helperKinds mo_helperKinds a_mo_prices mo_prices a_mo_helpersOfKind mo_helpersOfKind a_mo_numbers mo_numbers a_fr fr_asked fr_brought fr_friends fr_used fr_crumbs fr_day a_se se_size se_lastPlace a_se_left a_se_left se_left)) (out : (Int32 × Int64 × Int64 × Int32 × (Nat → Int64) × Int32 × Int32 × Int32 × Int32 × Int32 × Int32)) (hm : m_X2_placeInFirst N sr_number sr_known mo_tasks mo_lastDay mo_kinds mo_rideDays mo_helpKinds mo_nexts mo_helpersOfKind fr_asked fr_brought fr_friends fr_used fr_crumbs fr_day se_lastPlace se_left p3 = some out) : WrI l yX2_placeInFirst wsX2_placeInFirst rX2_placeInFirst D (tyK cC cI cJ) [.ref a_sr, .ref a_mo, .ref a_fr, .ref a_se, .int p3] A (wd_12 cC cI cJ a_sr a_sr_known a_ro g_sr_unseen sr_number sr_enough sr_hopeless g_sr_months g_sr_heeded a_sr_known sr_known a_ro ro_asked ro_brought ro_friends ro_used ro_crumbs ro_day a_mo mo_tasks mo_helpers mo_askedFirst mo_crumbsFirst mo_lastDay a_mo_kinds a_mo_days a_mo_rideDays a_mo_helpKinds a_mo_nexts a_mo_helperKinds a_mo_prices a_mo_helpersOfKind a_mo_numbers a_mo_kinds mo_kinds a_mo_days mo_days a_mo_rideDays mo_rideDays a_mo_helpKinds mo_helpKinds a_mo_nexts mo_nexts a_mo_helperKinds mo_helperKinds a_mo_prices mo_prices a_mo_helpersOfKind mo_helpersOfKind a_mo_numbers mo_numbers a_fr fr_asked fr_brought fr_friends fr_used fr_crumbs fr_day a_se se_size se_lastPlace a_se_left a_se_left se_left) (Bw0 D (wd_12 cC cI cJ a_sr a_sr_known a_ro g_sr_unseen out.2.1 out.2.2.1 out.2.2.2.1 a_mo a_se a_sr_known out.2.2.2.2.1 a_ro out.2.2.2.2.2.1 out.2.2.2.2.2.2.1 out.2.2.2.2.2.2.2.1 out.2.2.2.2.2.2.2.2.1 out.2.2.2.2.2.2.2.2.2.1 out.2.2.2.2.2.2.2.2.2.2 a_mo mo_tasks mo_helpers mo_askedFirst mo_crumbsFirst mo_lastDay a_mo_kinds a_mo_days a_mo_rideDays a_mo_helpKinds a_mo_nexts a_mo_helperKinds a_mo_prices a_mo_helpersOfKind a_mo_numbers a_mo_kinds mo_kinds a_mo_days mo_days a_mo_rideDays mo_rideDays a_mo_helpKinds mo_helpKinds a_mo_nexts mo_nexts a_mo_helperKinds mo_helperKinds a_mo_prices mo_prices a_mo_helpersOfKind mo_helpersOfKind a_mo_numbers mo_numbers a_fr fr_asked fr_brought fr_friends fr_used fr_crumbs fr_day a_se se_size se_lastPlace a_se_left a_se_left se_left)) out.1 := by
  unfold m_X2_placeInFirst at hm
  refine enter (cc := cX2_placeInFirst) (maxL := 7) (ret := (some .int)) (lv := [(0, .ref a_sr), (1, .ref a_mo), (2, .ref a_fr), (3, .ref a_se), (4, .int p3)]) (by decide) rfl (Nat.le_of_ble_eq_true rfl) rfl ?_
  intro p e s m args below meth c S hr hlk hK hP ls hl
  replace S : CallFix p m c cX2_placeInFirst 7 s args wsX2_placeInFirst RX2 := S
  have hx := S.1
  have hb := S.2.1
  have hw : Wd D A s.heap (wd_12 cC cI cJ a_sr a_sr_known a_ro g_sr_unseen sr_number sr_enough sr_hopeless g_sr_months g_sr_heeded a_sr_known sr_known a_ro ro_asked ro_brought ro_friends ro_used ro_crumbs ro_day a_mo mo_tasks mo_helpers mo_askedFirst mo_crumbsFirst mo_lastDay a_mo_kinds a_mo_days a_mo_rideDays a_mo_helpKinds a_mo_nexts a_mo_helperKinds a_mo_prices a_mo_helpersOfKind a_mo_numbers a_mo_kinds mo_kinds a_mo_days mo_days a_mo_rideDays mo_rideDays a_mo_helpKinds mo_helpKinds a_mo_nexts mo_nexts a_mo_helperKinds mo_helperKinds a_mo_prices mo_prices a_mo_helpersOfKind mo_helpersOfKind a_mo_numbers mo_numbers a_fr fr_asked fr_brought fr_friends fr_used fr_crumbs fr_day a_se se_size se_lastPlace a_se_left a_se_left se_left) s.heap [] := ⟨hP, hD, va_S.rf⟩
  have hw0 := hw
  refine lv_aload_n hx hb dX2_placeInFirst_0 rfl (lv_at hl 0 rfl) ?_
  refine lv_aload_n hx hb dX2_placeInFirst_1 rfl (lv_at hl 1 rfl) ?_
  refine lv_aload_n hx hb dX2_placeInFirst_2 rfl (lv_at hl 2 rfl) ?_
  refine lv_iconst (v := 0) hx hb dX2_placeInFirst_3 (by decide) ?_
  refine lv_aload_n hx hb dX2_placeInFirst_4 rfl (lv_at hl 3 rfl) ?_
  refine lv_lconst (v := 1) hx hb dX2_placeInFirst_5 (by decide) ?_
  obtain ⟨r1, h2, hm⟩ := ob hm
  refine k_wVv S hK hw cal_X2_begin gX2_placeInFirst_X2_begin (c_X2_begin l D cC cI cJ a_sr a_sr_known a_ro g_sr_unseen g_sr_months g_sr_heeded a_mo a_mo_kinds a_mo_days a_mo_rideDays a_mo_helpKinds a_mo_nexts a_mo_helperKinds a_mo_prices a_mo_helpersOfKind a_mo_numbers a_fr a_se sr_number sr_enough sr_hopeless sr_known ro_asked ro_brought ro_friends ro_used ro_crumbs ro_day mo_tasks mo_helpers mo_askedFirst mo_crumbsFirst mo_lastDay mo_kinds mo_days mo_rideDays mo_helpKinds mo_nexts mo_helperKinds mo_prices mo_helpersOfKind mo_numbers fr_asked fr_brought fr_friends fr_used fr_crumbs fr_day (0 : Int32) (1 : Int64) N (aw _) (hw.own [0, 1, 2, 3, 4, 5, 6, 7, 8, 9, 10, 11, 12, 13] (by decide) rfl) r1 h2) ⟨⟨rfl, rfl⟩, Nat.le_of_ble_eq_true rfl, Nat.le_of_ble_eq_true rfl⟩ [0, 1, 2, 3, 4, 5, 6, 7, 8, 9, 10, 11, 12, 13] rfl 0 rfl rfl rfl hl.1 rfl (Nat.le_of_ble_eq_true rfl) dX2_placeInFirst_6 ⟨Nat.zero_le _, Nat.zero_le _⟩ (fun H locs hJ hB => ?_)
  have hw := hJ _ hB rfl
  replace hw : Wd D A _ (wd_12 cC cI cJ a_sr a_sr_known a_ro g_sr_unseen r1.1 r1.2.1 r1.2.2.1 a_mo a_se a_sr_known sr_known a_ro r1.2.2.2.1 r1.2.2.2.2.1 r1.2.2.2.2.2.1 r1.2.2.2.2.2.2.1 r1.2.2.2.2.2.2.2.1 r1.2.2.2.2.2.2.2.2 a_mo mo_tasks mo_helpers mo_askedFirst mo_crumbsFirst mo_lastDay a_mo_kinds a_mo_days a_mo_rideDays a_mo_helpKinds a_mo_nexts a_mo_helperKinds a_mo_prices a_mo_helpersOfKind a_mo_numbers a_mo_kinds mo_kinds a_mo_days mo_days a_mo_rideDays mo_rideDays a_mo_helpKinds mo_helpKinds a_mo_nexts mo_nexts a_mo_helperKinds mo_helperKinds a_mo_prices mo_prices a_mo_helpersOfKind mo_helpersOfKind a_mo_numbers mo_numbers a_fr fr_asked fr_brought fr_friends fr_used fr_crumbs fr_day a_se se_size se_lastPlace a_se_left a_se_left se_left) H locs := hw
  refine lv_bipush (v := (-4)) hx hb dX2_placeInFirst_9 (by decide) ?_
  refine lv_istore (lv' := [(5, .int (-4 : Int32)), (0, .ref a_sr), (1, .ref a_mo), (2, .ref a_fr), (3, .ref a_se), (4, .int p3)]) hx hb dX2_placeInFirst_11 hl (by decide) rfl (fun ls hl => ?_)
  refine lv_iconst (v := 0) hx hb dX2_placeInFirst_13 (by decide) ?_
  refine lv_istore (lv' := [(6, .int (0 : Int32)), (5, .int (-4 : Int32)), (0, .ref a_sr), (1, .ref a_mo), (2, .ref a_fr), (3, .ref a_se), (4, .int p3)]) hx hb dX2_placeInFirst_14 hl (by decide) rfl (fun ls hl => ?_)
  obtain ⟨r7, h8, hm⟩ := ob hm
  refine t_X2_placeInFirst_16 l S hK a_sr a_sr_known a_ro g_sr_unseen g_sr_months g_sr_heeded a_mo a_mo_kinds a_mo_days a_mo_rideDays a_mo_helpKinds a_mo_nexts a_mo_helperKinds a_mo_prices a_mo_helpersOfKind a_mo_numbers a_fr a_se a_se_left N p3 r1.1 r1.2.1 r1.2.2.1 mo_tasks mo_helpers mo_askedFirst mo_crumbsFirst mo_lastDay mo_kinds mo_days mo_rideDays mo_helpKinds mo_nexts mo_helperKinds mo_prices mo_helpersOfKind mo_numbers fr_asked fr_brought fr_friends fr_used fr_crumbs fr_day se_size se_lastPlace se_left N (-4 : Int32) (0 : Int32) sr_known r1.2.2.2.1 r1.2.2.2.2.1 r1.2.2.2.2.2.1 r1.2.2.2.2.2.2.1 r1.2.2.2.2.2.2.2.1 r1.2.2.2.2.2.2.2.2 r7 h8  _ _ ls hw (lv_sub hl [2, 6, 1, 0] rfl) (fun u9 hu H locs ls hw hl => ?_) (fun u10 hu H locs ls hw hl => ?_)
  · subst hu
    replace hm := seL hm
    refine lv_iload hx hb dX2_placeInFirst_45 (lv_at hl 0 rfl) ?_
    obtain rfl := Option.some.inj hm
    exact e_WI S hr hlk hw rfl hw.1 dX2_placeInFirst_47
  · subst hu
    replace hm := seR hm
    refine lv_bipush (v := (-4)) hx hb dX2_placeInFirst_36 (by decide) ?_
    obtain rfl := Option.some.inj hm
    exact e_WI S hr hlk hw rfl hw.1 dX2_placeInFirst_38

abbrev rX2_waysOf : Room := { frames := 14, cells := 0, slots := 0, locals := 379 }
theorem cal_X2_waysOf : Cal yX2_waysOf wsX2_waysOf cX2_waysOf 4 (some .int) RX2 3 := ⟨⟨_, rfl⟩, rfl, by decide +kernel, by decide +kernel, by decide +kernel⟩
set_option maxHeartbeats 4000000 in
set_option maxRecDepth 100000 in
theorem c_X2_waysOf (l : Launch) (D : va_G) (cC cI cJ : ClassId) (a_sr : Nat) (a_sr_known : Nat) (a_ro : Nat) (g_sr_unseen : Nat) (g_sr_months : Nat) (g_sr_heeded : Nat) (a_mo : Nat) (a_mo_kinds : Nat) (a_mo_days : Nat) (a_mo_rideDays : Nat) (a_mo_helpKinds : Nat) (a_mo_nexts : Nat) (a_mo_helperKinds : Nat) (a_mo_prices : Nat) (a_mo_helpersOfKind : Nat) (a_mo_numbers : Nat) (a_fr : Nat) (a_se : Nat) (a_se_left : Nat) (sr_number : Int64) (sr_enough : Int64) (sr_hopeless : Int32) (sr_known : (Nat → Int64)) (ro_asked : Int32) (ro_brought : Int32) (ro_friends : Int32) (ro_used : Int32) (ro_crumbs : Int32) (ro_day : Int32) (mo_tasks : Int32) (mo_helpers : Int32) (mo_askedFirst : Int32) (mo_crumbsFirst : Int32) (mo_lastDay : Int32) (mo_kinds : (Nat → Int32)) (mo_days : (Nat → Int32)) (mo_rideDays : (Nat → Int32)) (mo_helpKinds : (Nat → Int32)) (mo_nexts : (Nat → Int32)) (mo_helperKinds : (Nat → Int32)) (mo_prices : (Nat → Int32)) (mo_helpersOfKind : (Nat → Int32)) (mo_numbers : (Nat → Int32)) (fr_asked : Int32) (fr_brought : Int32) (fr_friends : Int32) (fr_used : Int32) (fr_crumbs : Int32) (fr_day : Int32) (se_size : Int32) (se_lastPlace : Int32) (se_left : (Nat → Int32)) (N : Nat) (A : Nat → Prop) (hD : va_D A (wd_12 cC cI cJ a_sr a_sr_known a_ro g_sr_unseen sr_number sr_enough sr_hopeless g_sr_months g_sr_heeded a_sr_known sr_known a_ro ro_asked ro_brought ro_friends ro_used ro_crumbs ro_day a_mo mo_tasks mo_helpers mo_askedFirst mo_crumbsFirst mo_lastDay a_mo_kinds a_mo_days a_mo_rideDays a_mo_helpKinds a_mo_nexts a_mo_helperKinds a_mo_prices a_mo_helpersOfKind a_mo_numbers a_mo_kinds mo_kinds a_mo_days mo_days a_mo_rideDays mo_rideDays a_mo_helpKinds mo_helpKinds a_mo_nexts mo_nexts a_mo_helperKinds mo_helperKinds a_mo_prices mo_prices a_mo_helpersOfKind mo_helpersOfKind a_mo_numbers mo_numbers a_fr fr_asked fr_brought fr_friends fr_used fr_crumbs fr_day a_se se_size se_lastPlace a_se_left a_se_left se_left)) (out : (Int32 × Int64 × Int64 × Int32 × (Nat → Int64) × Int32 × Int32 × Int32 × Int32 × Int32 × Int32)) (hm : m_X2_waysOf N sr_number sr_known mo_tasks mo_lastDay mo_kinds mo_rideDays mo_helpKinds mo_nexts mo_helpersOfKind fr_asked fr_brought fr_friends fr_used fr_crumbs fr_day se_lastPlace se_left = some out) : WrI l yX2_waysOf wsX2_waysOf rX2_waysOf D (tyK cC cI cJ) [.ref a_sr, .ref a_mo, .ref a_fr, .ref a_se] A (wd_12 cC cI cJ a_sr a_sr_known a_ro g_sr_unseen sr_number sr_enough sr_hopeless g_sr_months g_sr_heeded a_sr_known sr_known a_ro ro_asked ro_brought ro_friends ro_used ro_crumbs ro_day a_mo mo_tasks mo_helpers mo_askedFirst mo_crumbsFirst mo_lastDay a_mo_kinds a_mo_days a_mo_rideDays a_mo_helpKinds a_mo_nexts a_mo_helperKinds a_mo_prices a_mo_helpersOfKind a_mo_numbers a_mo_kinds mo_kinds a_mo_days mo_days a_mo_rideDays mo_rideDays a_mo_helpKinds mo_helpKinds a_mo_nexts mo_nexts a_mo_helperKinds mo_helperKinds a_mo_prices mo_prices a_mo_helpersOfKind mo_helpersOfKind a_mo_numbers mo_numbers a_fr fr_asked fr_brought fr_friends fr_used fr_crumbs fr_day a_se se_size se_lastPlace a_se_left a_se_left se_left) (Bw0 D (wd_12 cC cI cJ a_sr a_sr_known a_ro g_sr_unseen out.2.1 out.2.2.1 out.2.2.2.1 a_mo a_se a_sr_known out.2.2.2.2.1 a_ro out.2.2.2.2.2.1 out.2.2.2.2.2.2.1 out.2.2.2.2.2.2.2.1 out.2.2.2.2.2.2.2.2.1 out.2.2.2.2.2.2.2.2.2.1 out.2.2.2.2.2.2.2.2.2.2 a_mo mo_tasks mo_helpers mo_askedFirst mo_crumbsFirst mo_lastDay a_mo_kinds a_mo_days a_mo_rideDays a_mo_helpKinds a_mo_nexts a_mo_helperKinds a_mo_prices a_mo_helpersOfKind a_mo_numbers a_mo_kinds mo_kinds a_mo_days mo_days a_mo_rideDays mo_rideDays a_mo_helpKinds mo_helpKinds a_mo_nexts mo_nexts a_mo_helperKinds mo_helperKinds a_mo_prices mo_prices a_mo_helpersOfKind mo_helpersOfKind a_mo_numbers mo_numbers a_fr fr_asked fr_brought fr_friends fr_used fr_crumbs fr_day a_se se_size se_lastPlace a_se_left a_se_left se_left)) out.1 := by
  unfold m_X2_waysOf at hm
  refine enter (cc := cX2_waysOf) (maxL := 4) (ret := (some .int)) (lv := [(0, .ref a_sr), (1, .ref a_mo), (2, .ref a_fr), (3, .ref a_se)]) (by decide) rfl (Nat.le_of_ble_eq_true rfl) rfl ?_
  intro p e s m args below meth c S hr hlk hK hP ls hl
  replace S : CallFix p m c cX2_waysOf 4 s args wsX2_waysOf RX2 := S
  have hx := S.1
  have hb := S.2.1
  have hw : Wd D A s.heap (wd_12 cC cI cJ a_sr a_sr_known a_ro g_sr_unseen sr_number sr_enough sr_hopeless g_sr_months g_sr_heeded a_sr_known sr_known a_ro ro_asked ro_brought ro_friends ro_used ro_crumbs ro_day a_mo mo_tasks mo_helpers mo_askedFirst mo_crumbsFirst mo_lastDay a_mo_kinds a_mo_days a_mo_rideDays a_mo_helpKinds a_mo_nexts a_mo_helperKinds a_mo_prices a_mo_helpersOfKind a_mo_numbers a_mo_kinds mo_kinds a_mo_days mo_days a_mo_rideDays mo_rideDays a_mo_helpKinds mo_helpKinds a_mo_nexts mo_nexts a_mo_helperKinds mo_helperKinds a_mo_prices mo_prices a_mo_helpersOfKind mo_helpersOfKind a_mo_numbers mo_numbers a_fr fr_asked fr_brought fr_friends fr_used fr_crumbs fr_day a_se se_size se_lastPlace a_se_left a_se_left se_left) s.heap [] := ⟨hP, hD, va_S.rf⟩
  have hw0 := hw
  refine lv_aload_n hx hb dX2_waysOf_0 rfl (lv_at hl 0 rfl) ?_
  refine lv_aload_n hx hb dX2_waysOf_1 rfl (lv_at hl 1 rfl) ?_
  refine lv_aload_n hx hb dX2_waysOf_2 rfl (lv_at hl 2 rfl) ?_
  refine lv_iconst (v := 0) hx hb dX2_waysOf_3 (by decide) ?_
  refine lv_aload_n hx hb dX2_waysOf_4 rfl (lv_at hl 3 rfl) ?_
  refine lv_ldc2 hx hb S.2.2.2.1 (S.2.2.2.2 (.constantLong RX2 33 (65536)) (List.mem_of_getElem? (i := 1) rfl)) dX2_waysOf_5 ?_
  obtain ⟨r1, h2, hm⟩ := ob hm
  refine k_wVv S hK hw cal_X2_begin gX2_waysOf_X2_begin (c_X2_begin l D cC cI cJ a_sr a_sr_known a_ro g_sr_unseen g_sr_months g_sr_heeded a_mo a_mo_kinds a_mo_days a_mo_rideDays a_mo_helpKinds a_mo_nexts a_mo_helperKinds a_mo_prices a_mo_helpersOfKind a_mo_numbers a_fr a_se sr_number sr_enough sr_hopeless sr_known ro_asked ro_brought ro_friends ro_used ro_crumbs ro_day mo_tasks mo_helpers mo_askedFirst mo_crumbsFirst mo_lastDay mo_kinds mo_days mo_rideDays mo_helpKinds mo_nexts mo_helperKinds mo_prices mo_helpersOfKind mo_numbers fr_asked fr_brought fr_friends fr_used fr_crumbs fr_day (0 : Int32) (65536 : Int64) N (aw _) (hw.own [0, 1, 2, 3, 4, 5, 6, 7, 8, 9, 10, 11, 12, 13] (by decide) rfl) r1 h2) ⟨⟨rfl, rfl⟩, Nat.le_of_ble_eq_true rfl, Nat.le_of_ble_eq_true rfl⟩ [0, 1, 2, 3, 4, 5, 6, 7, 8, 9, 10, 11, 12, 13] rfl 0 rfl rfl rfl hl.1 rfl (Nat.le_of_ble_eq_true rfl) dX2_waysOf_8 ⟨Nat.zero_le _, Nat.zero_le _⟩ (fun H locs hJ hB => ?_)
  have hw := hJ _ hB rfl
  replace hw : Wd D A _ (wd_12 cC cI cJ a_sr a_sr_known a_ro g_sr_unseen r1.1 r1.2.1 r1.2.2.1 a_mo a_se a_sr_known sr_known a_ro r1.2.2.2.1 r1.2.2.2.2.1 r1.2.2.2.2.2.1 r1.2.2.2.2.2.2.1 r1.2.2.2.2.2.2.2.1 r1.2.2.2.2.2.2.2.2 a_mo mo_tasks mo_helpers mo_askedFirst mo_crumbsFirst mo_lastDay a_mo_kinds a_mo_days a_mo_rideDays a_mo_helpKinds a_mo_nexts a_mo_helperKinds a_mo_prices a_mo_helpersOfKind a_mo_numbers a_mo_kinds mo_kinds a_mo_days mo_days a_mo_rideDays mo_rideDays a_mo_helpKinds mo_helpKinds a_mo_nexts mo_nexts a_mo_helperKinds mo_helperKinds a_mo_prices mo_prices a_mo_helpersOfKind mo_helpersOfKind a_mo_numbers mo_numbers a_fr fr_asked fr_brought fr_friends fr_used fr_crumbs fr_day a_se se_size se_lastPlace a_se_left a_se_left se_left) H locs := hw
  refine lv_aload_n hx hb dX2_waysOf_11 rfl (lv_at hl 0 rfl) ?_
  refine lv_iconst (v := 0) hx hb dX2_waysOf_12 (by decide) ?_
  obtain ⟨r3, h4, hm⟩ := ob hm
  refine k_wSl S hK hw cal_X2_waysOn gX2_waysOf_X2_waysOn (c_X2_waysOn l D cC cI cJ a_sr a_sr_known a_ro g_sr_unseen a_mo a_se a_mo_kinds a_mo_days a_mo_rideDays a_mo_helpKinds a_mo_nexts a_mo_helperKinds a_mo_prices a_mo_helpersOfKind a_mo_numbers a_se_left r1.1 r1.2.1 r1.2.2.1 sr_known r1.2.2.2.1 r1.2.2.2.2.1 r1.2.2.2.2.2.1 r1.2.2.2.2.2.2.1 r1.2.2.2.2.2.2.2.1 r1.2.2.2.2.2.2.2.2 mo_tasks mo_helpers mo_askedFirst mo_crumbsFirst mo_lastDay mo_kinds mo_days mo_rideDays mo_helpKinds mo_nexts mo_helperKinds mo_prices mo_helpersOfKind mo_numbers se_size se_lastPlace se_left (0 : Int32) N 10 (aw _) (hw.own [0, 1, 2, 3, 4, 5, 6, 7, 8, 9, 10, 11, 12, 14, 15] (by decide) rfl) r3 h4) ⟨⟨rfl, rfl⟩, Nat.le_of_ble_eq_true rfl, Nat.le_of_ble_eq_true rfl⟩ [0, 1, 2, 3, 4, 5, 6, 7, 8, 9, 10, 11, 12, 14, 15] rfl rfl hl.1 rfl (Nat.le_of_ble_eq_true rfl) dX2_waysOf_13 ⟨Nat.zero_le _, Nat.zero_le _⟩ (fun H locs hJ hB => ?_)
  have hw := hJ _ hB rfl
  replace hw : Wd D A _ (wd_12 cC cI cJ a_sr a_sr_known a_ro g_sr_unseen r1.1 r1.2.1 r1.2.2.1 a_mo a_se a_sr_known r3.2.1 a_ro r3.2.2.1 r3.2.2.2.1 r3.2.2.2.2.1 r3.2.2.2.2.2.1 r3.2.2.2.2.2.2.1 r3.2.2.2.2.2.2.2 a_mo mo_tasks mo_helpers mo_askedFirst mo_crumbsFirst mo_lastDay a_mo_kinds a_mo_days a_mo_rideDays a_mo_helpKinds a_mo_nexts a_mo_helperKinds a_mo_prices a_mo_helpersOfKind a_mo_numbers a_mo_kinds mo_kinds a_mo_days mo_days a_mo_rideDays mo_rideDays a_mo_helpKinds mo_helpKinds a_mo_nexts mo_nexts a_mo_helperKinds mo_helperKinds a_mo_prices mo_prices a_mo_helpersOfKind mo_helpersOfKind a_mo_numbers mo_numbers a_fr fr_asked fr_brought fr_friends fr_used fr_crumbs fr_day a_se se_size se_lastPlace a_se_left a_se_left se_left) H locs := hw
  refine lv_l2i (v := (r3.1).toInt32) hx hb dX2_waysOf_16 rfl ?_
  obtain rfl := Option.some.inj hm
  exact e_WI S hr hlk hw rfl hw.1 dX2_waysOf_17

abbrev rX4_begin : Room := { frames := 0, cells := 0, slots := 0, locals := 0 }
theorem cal_X4_begin : Cal yX4_begin wsX4_begin cX4_begin 2 none RX4 1 := ⟨⟨_, rfl⟩, rfl, by decide +kernel, by decide +kernel, by decide +kernel⟩
theorem in_X4_begin_X0 : ∀ w ∈ wsX00, w ∈ wsX4_begin := fun _ h => (List.mem_cons_of_mem _ (List.mem_append_left _ (List.mem_append_right _ h)))
theorem in_X4_begin_X4 : ∀ w ∈ wsX40, w ∈ wsX4_begin := fun _ h => (List.mem_cons_of_mem _ (List.mem_append_right _ h))
set_option maxHeartbeats 4000000 in
set_option maxRecDepth 100000 in
theorem c_X4_begin (l : Launch) (D : va_G) (cC cI cJ : ClassId) (a_st : Nat) (a_mo : Nat) (a_mo_kinds : Nat) (a_mo_days : Nat) (a_mo_rideDays : Nat) (a_mo_helpKinds : Nat) (a_mo_nexts : Nat) (a_mo_helperKinds : Nat) (a_mo_prices : Nat) (a_mo_helpersOfKind : Nat) (a_mo_numbers : Nat) (st_asked : Int32) (st_brought : Int32) (st_friends : Int32) (st_used : Int32) (st_crumbs : Int32) (st_day : Int32) (mo_tasks : Int32) (mo_helpers : Int32) (mo_askedFirst : Int32) (mo_crumbsFirst : Int32) (mo_lastDay : Int32) (mo_kinds : (Nat → Int32)) (mo_days : (Nat → Int32)) (mo_rideDays : (Nat → Int32)) (mo_helpKinds : (Nat → Int32)) (mo_nexts : (Nat → Int32)) (mo_helperKinds : (Nat → Int32)) (mo_prices : (Nat → Int32)) (mo_helpersOfKind : (Nat → Int32)) (mo_numbers : (Nat → Int32)) (A : Nat → Prop) (hD : va_D A (wd_8 cC cI cJ a_st st_asked st_brought st_friends st_used st_crumbs st_day a_mo mo_tasks mo_helpers mo_askedFirst mo_crumbsFirst mo_lastDay a_mo_kinds a_mo_days a_mo_rideDays a_mo_helpKinds a_mo_nexts a_mo_helperKinds a_mo_prices a_mo_helpersOfKind a_mo_numbers a_mo_kinds mo_kinds a_mo_days mo_days a_mo_rideDays mo_rideDays a_mo_helpKinds mo_helpKinds a_mo_nexts mo_nexts a_mo_helperKinds mo_helperKinds a_mo_prices mo_prices a_mo_helpersOfKind mo_helpersOfKind a_mo_numbers mo_numbers)) (out : (Int32 × Int32 × Int32 × Int32 × Int32 × Int32)) (hm : m_X4_begin mo_askedFirst mo_crumbsFirst = some out) : WrV l yX4_begin wsX4_begin rX4_begin D (tyK cC cI cJ) [.ref a_st, .ref a_mo] A (wd_8 cC cI cJ a_st st_asked st_brought st_friends st_used st_crumbs st_day a_mo mo_tasks mo_helpers mo_askedFirst mo_crumbsFirst mo_lastDay a_mo_kinds a_mo_days a_mo_rideDays a_mo_helpKinds a_mo_nexts a_mo_helperKinds a_mo_prices a_mo_helpersOfKind a_mo_numbers a_mo_kinds mo_kinds a_mo_days mo_days a_mo_rideDays mo_rideDays a_mo_helpKinds mo_helpKinds a_mo_nexts mo_nexts a_mo_helperKinds mo_helperKinds a_mo_prices mo_prices a_mo_helpersOfKind mo_helpersOfKind a_mo_numbers mo_numbers) (Bw0 D (wd_8 cC cI cJ a_st out.1 out.2.1 out.2.2.1 out.2.2.2.1 out.2.2.2.2.1 out.2.2.2.2.2 a_mo mo_tasks mo_helpers mo_askedFirst mo_crumbsFirst mo_lastDay a_mo_kinds a_mo_days a_mo_rideDays a_mo_helpKinds a_mo_nexts a_mo_helperKinds a_mo_prices a_mo_helpersOfKind a_mo_numbers a_mo_kinds mo_kinds a_mo_days mo_days a_mo_rideDays mo_rideDays a_mo_helpKinds mo_helpKinds a_mo_nexts mo_nexts a_mo_helperKinds mo_helperKinds a_mo_prices mo_prices a_mo_helpersOfKind mo_helpersOfKind a_mo_numbers mo_numbers)) := by
  unfold m_X4_begin at hm
  refine enter (cc := cX4_begin) (maxL := 2) (ret := none) (lv := [(0, .ref a_st), (1, .ref a_mo)]) (by decide) rfl (Nat.le_of_ble_eq_true rfl) rfl ?_
  intro p e s m args below meth c S hr hlk hK hP ls hl
  replace S : CallFix p m c cX4_begin 2 s args wsX4_begin RX4 := S
  have hx := S.1
  have hb := S.2.1
  have hw : Wd D A s.heap (wd_8 cC cI cJ a_st st_asked st_brought st_friends st_used st_crumbs st_day a_mo mo_tasks mo_helpers mo_askedFirst mo_crumbsFirst mo_lastDay a_mo_kinds a_mo_days a_mo_rideDays a_mo_helpKinds a_mo_nexts a_mo_helperKinds a_mo_prices a_mo_helpersOfKind a_mo_numbers a_mo_kinds mo_kinds a_mo_days mo_days a_mo_rideDays mo_rideDays a_mo_helpKinds mo_helpKinds a_mo_nexts mo_nexts a_mo_helperKinds mo_helperKinds a_mo_prices mo_prices a_mo_helpersOfKind mo_helpersOfKind a_mo_numbers mo_numbers) s.heap [] := ⟨hP, hD, va_S.rf⟩
  have hw0 := hw
  refine lv_aload_n hx hb dX4_begin_0 rfl (lv_at hl 0 rfl) ?_
  refine lv_aload_n hx hb dX4_begin_1 rfl (lv_at hl 1 rfl) ?_
  refine f_get S hK hw.1 in_X4_begin_X0 1 rfl rfl 2 (by decide) (List.mem_of_getElem? (i := 1) rfl) rfl rfl dX4_begin_2 ?_
  refine f_put S hK hw in_X4_begin_X4 tyX4_ok nmX4 0 rfl rfl 0 (by decide) (List.mem_of_getElem? (i := 2) rfl) rfl rfl rfl rfl (Nat.le_of_ble_eq_true rfl) (ws1 := (wd_8 cC cI cJ a_st mo_askedFirst st_brought st_friends st_used st_crumbs st_day a_mo mo_tasks mo_helpers mo_askedFirst mo_crumbsFirst mo_lastDay a_mo_kinds a_mo_days a_mo_rideDays a_mo_helpKinds a_mo_nexts a_mo_helperKinds a_mo_prices a_mo_helpersOfKind a_mo_numbers a_mo_kinds mo_kinds a_mo_days mo_days a_mo_rideDays mo_rideDays a_mo_helpKinds mo_helpKinds a_mo_nexts mo_nexts a_mo_helperKinds mo_helperKinds a_mo_prices mo_prices a_mo_helpersOfKind mo_helpersOfKind a_mo_numbers mo_numbers)) rfl dX4_begin_5 (fun H locs hw => ?_)
  refine lv_aload_n hx hb dX4_begin_8 rfl (lv_at hl 0 rfl) ?_
  refine lv_iconst (v := 0) hx hb dX4_begin_9 (by decide) ?_
  refine f_put S hK hw in_X4_begin_X4 tyX4_ok nmX4 0 rfl rfl 1 (by decide) (List.mem_of_getElem? (i := 3) rfl) rfl rfl rfl rfl (Nat.le_of_ble_eq_true rfl) (ws1 := (wd_8 cC cI cJ a_st mo_askedFirst (0 : Int32) st_friends st_used st_crumbs st_day a_mo mo_tasks mo_helpers mo_askedFirst mo_crumbsFirst mo_lastDay a_mo_kinds a_mo_days a_mo_rideDays a_mo_helpKinds a_mo_nexts a_mo_helperKinds a_mo_prices a_mo_helpersOfKind a_mo_numbers a_mo_kinds mo_kinds a_mo_days mo_days a_mo_rideDays mo_rideDays a_mo_helpKinds mo_helpKinds a_mo_nexts mo_nexts a_mo_helperKinds mo_helperKinds a_mo_prices mo_prices a_mo_helpersOfKind mo_helpersOfKind a_mo_numbers mo_numbers)) rfl dX4_begin_10 (fun H locs hw => ?_)
  refine lv_aload_n hx hb dX4_begin_13 rfl (lv_at hl 0 rfl) ?_
  refine lv_iconst (v := 0) hx hb dX4_begin_14 (by decide) ?_
  refine f_put S hK hw in_X4_begin_X4 tyX4_ok nmX4 0 rfl rfl 2 (by decide) (List.mem_of_getElem? (i := 4) rfl) rfl rfl rfl rfl (Nat.le_of_ble_eq_true rfl) (ws1 := (wd_8 cC cI cJ a_st mo_askedFirst (0 : Int32) (0 : Int32) st_used st_crumbs st_day a_mo mo_tasks mo_helpers mo_askedFirst mo_crumbsFirst mo_lastDay a_mo_kinds a_mo_days a_mo_rideDays a_mo_helpKinds a_mo_nexts a_mo_helperKinds a_mo_prices a_mo_helpersOfKind a_mo_numbers a_mo_kinds mo_kinds a_mo_days mo_days a_mo_rideDays mo_rideDays a_mo_helpKinds mo_helpKinds a_mo_nexts mo_nexts a_mo_helperKinds mo_helperKinds a_mo_prices mo_prices a_mo_helpersOfKind mo_helpersOfKind a_mo_numbers mo_numbers)) rfl dX4_begin_15 (fun H locs hw => ?_)
  refine lv_aload_n hx hb dX4_begin_18 rfl (lv_at hl 0 rfl) ?_
  refine lv_iconst (v := 0) hx hb dX4_begin_19 (by decide) ?_
  refine f_put S hK hw in_X4_begin_X4 tyX4_ok nmX4 0 rfl rfl 3 (by decide) (List.mem_of_getElem? (i := 5) rfl) rfl rfl rfl rfl (Nat.le_of_ble_eq_true rfl) (ws1 := (wd_8 cC cI cJ a_st mo_askedFirst (0 : Int32) (0 : Int32) (0 : Int32) st_crumbs st_day a_mo mo_tasks mo_helpers mo_askedFirst mo_crumbsFirst mo_lastDay a_mo_kinds a_mo_days a_mo_rideDays a_mo_helpKinds a_mo_nexts a_mo_helperKinds a_mo_prices a_mo_helpersOfKind a_mo_numbers a_mo_kinds mo_kinds a_mo_days mo_days a_mo_rideDays mo_rideDays a_mo_helpKinds mo_helpKinds a_mo_nexts mo_nexts a_mo_helperKinds mo_helperKinds a_mo_prices mo_prices a_mo_helpersOfKind mo_helpersOfKind a_mo_numbers mo_numbers)) rfl dX4_begin_20 (fun H locs hw => ?_)
  refine lv_aload_n hx hb dX4_begin_23 rfl (lv_at hl 0 rfl) ?_
  refine lv_aload_n hx hb dX4_begin_24 rfl (lv_at hl 1 rfl) ?_
  refine f_get S hK hw.1 in_X4_begin_X0 1 rfl rfl 3 (by decide) (List.mem_of_getElem? (i := 6) rfl) rfl rfl dX4_begin_25 ?_
  refine f_put S hK hw in_X4_begin_X4 tyX4_ok nmX4 0 rfl rfl 4 (by decide) (List.mem_of_getElem? (i := 7) rfl) rfl rfl rfl rfl (Nat.le_of_ble_eq_true rfl) (ws1 := (wd_8 cC cI cJ a_st mo_askedFirst (0 : Int32) (0 : Int32) (0 : Int32) mo_crumbsFirst st_day a_mo mo_tasks mo_helpers mo_askedFirst mo_crumbsFirst mo_lastDay a_mo_kinds a_mo_days a_mo_rideDays a_mo_helpKinds a_mo_nexts a_mo_helperKinds a_mo_prices a_mo_helpersOfKind a_mo_numbers a_mo_kinds mo_kinds a_mo_days mo_days a_mo_rideDays mo_rideDays a_mo_helpKinds mo_helpKinds a_mo_nexts mo_nexts a_mo_helperKinds mo_helperKinds a_mo_prices mo_prices a_mo_helpersOfKind mo_helpersOfKind a_mo_numbers mo_numbers)) rfl dX4_begin_28 (fun H locs hw => ?_)
  refine lv_aload_n hx hb dX4_begin_31 rfl (lv_at hl 0 rfl) ?_
  refine lv_iconst (v := 0) hx hb dX4_begin_32 (by decide) ?_
  refine f_put S hK hw in_X4_begin_X4 tyX4_ok nmX4 0 rfl rfl 5 (by decide) (List.mem_of_getElem? (i := 8) rfl) rfl rfl rfl rfl (Nat.le_of_ble_eq_true rfl) (ws1 := (wd_8 cC cI cJ a_st mo_askedFirst (0 : Int32) (0 : Int32) (0 : Int32) mo_crumbsFirst (0 : Int32) a_mo mo_tasks mo_helpers mo_askedFirst mo_crumbsFirst mo_lastDay a_mo_kinds a_mo_days a_mo_rideDays a_mo_helpKinds a_mo_nexts a_mo_helperKinds a_mo_prices a_mo_helpersOfKind a_mo_numbers a_mo_kinds mo_kinds a_mo_days mo_days a_mo_rideDays mo_rideDays a_mo_helpKinds mo_helpKinds a_mo_nexts mo_nexts a_mo_helperKinds mo_helperKinds a_mo_prices mo_prices a_mo_helpersOfKind mo_helpersOfKind a_mo_numbers mo_numbers)) rfl dX4_begin_33 (fun H locs hw => ?_)
  obtain rfl := Option.some.inj hm
  exact e_WV S hr hlk hw hw.1 dX4_begin_36

abbrev rX4_tasksToSuggest : Room := { frames := 1, cells := 0, slots := 0, locals := 21 }
theorem cal_X4_tasksToSuggest : Cal yX4_tasksToSuggest wsX4_tasksToSuggest cX4_tasksToSuggest 2 (some .int) RX4 1 := ⟨⟨_, rfl⟩, rfl, by decide +kernel, by decide +kernel, by decide +kernel⟩
theorem in_X4_tasksToSuggest_X0 : ∀ w ∈ wsX00, w ∈ wsX4_tasksToSuggest := fun _ h => (List.mem_cons_of_mem _ (List.mem_append_left _ (List.mem_append_right _ h)))
theorem in_X4_tasksToSuggest_X4 : ∀ w ∈ wsX40, w ∈ wsX4_tasksToSuggest := fun _ h => (List.mem_cons_of_mem _ (List.mem_append_right _ h))
set_option maxHeartbeats 4000000 in
set_option maxRecDepth 100000 in
theorem c_X4_tasksToSuggest (l : Launch) (D : va_G) (cC cI cJ : ClassId) (a_st : Nat) (a_mo : Nat) (a_mo_kinds : Nat) (a_mo_days : Nat) (a_mo_rideDays : Nat) (a_mo_helpKinds : Nat) (a_mo_nexts : Nat) (a_mo_helperKinds : Nat) (a_mo_prices : Nat) (a_mo_helpersOfKind : Nat) (a_mo_numbers : Nat) (st_asked : Int32) (st_brought : Int32) (st_friends : Int32) (st_used : Int32) (st_crumbs : Int32) (st_day : Int32) (mo_tasks : Int32) (mo_helpers : Int32) (mo_askedFirst : Int32) (mo_crumbsFirst : Int32) (mo_lastDay : Int32) (mo_kinds : (Nat → Int32)) (mo_days : (Nat → Int32)) (mo_rideDays : (Nat → Int32)) (mo_helpKinds : (Nat → Int32)) (mo_nexts : (Nat → Int32)) (mo_helperKinds : (Nat → Int32)) (mo_prices : (Nat → Int32)) (mo_helpersOfKind : (Nat → Int32)) (mo_numbers : (Nat → Int32)) (out : Int32) (hm : m_X4_tasksToSuggest st_asked st_day mo_tasks mo_lastDay = some out) : RdI l yX4_tasksToSuggest wsX4_tasksToSuggest rX4_tasksToSuggest D (tyK cC cI cJ) [.ref a_st, .ref a_mo] (wd_8 cC cI cJ a_st st_asked st_brought st_friends st_used st_crumbs st_day a_mo mo_tasks mo_helpers mo_askedFirst mo_crumbsFirst mo_lastDay a_mo_kinds a_mo_days a_mo_rideDays a_mo_helpKinds a_mo_nexts a_mo_helperKinds a_mo_prices a_mo_helpersOfKind a_mo_numbers a_mo_kinds mo_kinds a_mo_days mo_days a_mo_rideDays mo_rideDays a_mo_helpKinds mo_helpKinds a_mo_nexts mo_nexts a_mo_helperKinds mo_helperKinds a_mo_prices mo_prices a_mo_helpersOfKind mo_helpersOfKind a_mo_numbers mo_numbers) out := by
  unfold m_X4_tasksToSuggest at hm
  refine enter (cc := cX4_tasksToSuggest) (maxL := 2) (ret := (some .int)) (lv := [(0, .ref a_st), (1, .ref a_mo)]) (by decide) rfl (Nat.le_of_ble_eq_true rfl) rfl ?_
  intro p e s m args below meth c S hr hlk hK hP ls hl
  replace S : CallFix p m c cX4_tasksToSuggest 2 s args wsX4_tasksToSuggest RX4 := S
  have hx := S.1
  have hb := S.2.1
  refine lv_aload_n hx hb dX4_tasksToSuggest_0 rfl (lv_at hl 0 rfl) ?_
  refine lv_aload_n hx hb dX4_tasksToSuggest_1 rfl (lv_at hl 1 rfl) ?_
  obtain ⟨r1, h2, hm⟩ := ob hm
  refine k_rVi S hK hP cal_X4_isLost gX4_tasksToSuggest_X4_isLost (c_X4_isLost l D cC cI cJ a_st a_mo a_mo_kinds a_mo_days a_mo_rideDays a_mo_helpKinds a_mo_nexts a_mo_helperKinds a_mo_prices a_mo_helpersOfKind a_mo_numbers st_asked st_brought st_friends st_used st_crumbs st_day mo_tasks mo_helpers mo_askedFirst mo_crumbsFirst mo_lastDay mo_kinds mo_days mo_rideDays mo_helpKinds mo_nexts mo_helperKinds mo_prices mo_helpersOfKind mo_numbers r1 h2) ⟨⟨rfl, rfl⟩, Nat.le_of_ble_eq_true rfl, Nat.le_of_ble_eq_true rfl⟩ [0, 1, 2, 3, 4, 5, 6, 7, 8, 9, 10] rfl 0 rfl rfl rfl hl.1 rfl (Nat.le_of_ble_eq_true rfl) dX4_tasksToSuggest_2 ⟨Nat.zero_le _, Nat.zero_le _⟩ ?_
  refine lv_if_eq (tgt := 12) hx hb dX4_tasksToSuggest_5 (by decide) (fun c3 => ?_) (fun c3 => ?_)
  · replace hm := ipos hm c3
    refine lv_aload_n hx hb dX4_tasksToSuggest_12 rfl (lv_at hl 1 rfl) ?_
    refine f_get S hK hP in_X4_tasksToSuggest_X0 1 rfl rfl 0 (by decide) (List.mem_of_getElem? (i := 1) rfl) rfl rfl dX4_tasksToSuggest_13 ?_
    obtain ⟨r4, h5, hm⟩ := ob hm
    refine k_rNi S hK hP cal_X5_bit gX4_tasksToSuggest_X5_bit_n49 (List.mem_of_getElem? (i := 4) rfl) (List.mem_of_getElem? (i := 11) rfl) (List.mem_of_getElem? (i := 10) rfl) (c_X5_bit l D cC cI cJ mo_tasks r4 h5) ⟨⟨rfl, rfl⟩, Nat.le_of_ble_eq_true rfl, Nat.le_of_ble_eq_true rfl⟩ [] rfl rfl hl.1 rfl (Nat.le_of_ble_eq_true rfl) dX4_tasksToSuggest_16 ⟨Nat.zero_le _, Nat.zero_le _⟩ ?_
    refine lv_iconst (v := 1) hx hb dX4_tasksToSuggest_19 (by decide) ?_
    refine lv_isub hx hb dX4_tasksToSuggest_20 ?_
    refine lv_aload_n hx hb dX4_tasksToSuggest_21 rfl (lv_at hl 0 rfl) ?_
    refine f_get S hK hP in_X4_tasksToSuggest_X4 0 rfl rfl 0 (by decide) (List.mem_of_getElem? (i := 2) rfl) rfl rfl dX4_tasksToSuggest_22 ?_
    refine lv_iconst (v := (-1)) hx hb dX4_tasksToSuggest_25 (by decide) ?_
    refine lv_ixor hx hb dX4_tasksToSuggest_26 ?_
    refine lv_iand hx hb dX4_tasksToSuggest_27 ?_
    exact e_RI S hr hlk (Option.some.inj hm) dX4_tasksToSuggest_28
  · replace hm := ineg hm c3
    refine lv_iconst (v := 0) hx hb dX4_tasksToSuggest_8 (by decide) ?_
    refine lv_goto (tgt := 28) hx hb dX4_tasksToSuggest_9 (by decide) ?_
    exact e_RI S hr hlk (Option.some.inj hm) dX4_tasksToSuggest_28

abbrev rX4_tryBefriend : Room := { frames := 1, cells := 0, slots := 0, locals := 21 }
theorem cal_X4_tryBefriend : Cal yX4_tryBefriend wsX4_tryBefriend cX4_tryBefriend 4 (some .boolean) RX4 2 := ⟨⟨_, rfl⟩, rfl, by decide +kernel, by decide +kernel, by decide +kernel⟩
theorem in_X4_tryBefriend_X4 : ∀ w ∈ wsX40, w ∈ wsX4_tryBefriend := fun _ h => (List.mem_cons_of_mem _ (List.mem_append_left _ (List.mem_append_right _ h)))
set_option maxHeartbeats 4000000 in
set_option maxRecDepth 100000 in
theorem c_X4_tryBefriend (l : Launch) (D : va_G) (cC cI cJ : ClassId) (a_st : Nat) (a_mo : Nat) (a_mo_kinds : Nat) (a_mo_days : Nat) (a_mo_rideDays : Nat) (a_mo_helpKinds : Nat) (a_mo_nexts : Nat) (a_mo_helperKinds : Nat) (a_mo_prices : Nat) (a_mo_helpersOfKind : Nat) (a_mo_numbers : Nat) (st_asked : Int32) (st_brought : Int32) (st_friends : Int32) (st_used : Int32) (st_crumbs : Int32) (st_day : Int32) (mo_tasks : Int32) (mo_helpers : Int32) (mo_askedFirst : Int32) (mo_crumbsFirst : Int32) (mo_lastDay : Int32) (mo_kinds : (Nat → Int32)) (mo_days : (Nat → Int32)) (mo_rideDays : (Nat → Int32)) (mo_helpKinds : (Nat → Int32)) (mo_nexts : (Nat → Int32)) (mo_helperKinds : (Nat → Int32)) (mo_prices : (Nat → Int32)) (mo_helpersOfKind : (Nat → Int32)) (mo_numbers : (Nat → Int32)) (p1 : Int32) (A : Nat → Prop) (hD : va_D A (wd_8 cC cI cJ a_st st_asked st_brought st_friends st_used st_crumbs st_day a_mo mo_tasks mo_helpers mo_askedFirst mo_crumbsFirst mo_lastDay a_mo_kinds a_mo_days a_mo_rideDays a_mo_helpKinds a_mo_nexts a_mo_helperKinds a_mo_prices a_mo_helpersOfKind a_mo_numbers a_mo_kinds mo_kinds a_mo_days mo_days a_mo_rideDays mo_rideDays a_mo_helpKinds mo_helpKinds a_mo_nexts mo_nexts a_mo_helperKinds mo_helperKinds a_mo_prices mo_prices a_mo_helpersOfKind mo_helpersOfKind a_mo_numbers mo_numbers)) (out : (Int32 × Int32 × Int32)) (hm : m_X4_tryBefriend st_friends st_crumbs mo_prices p1 = some out) : WrI l yX4_tryBefriend wsX4_tryBefriend rX4_tryBefriend D (tyK cC cI cJ) [.ref a_st, .ref a_mo, .int p1] A (wd_8 cC cI cJ a_st st_asked st_brought st_friends st_used st_crumbs st_day a_mo mo_tasks mo_helpers mo_askedFirst mo_crumbsFirst mo_lastDay a_mo_kinds a_mo_days a_mo_rideDays a_mo_helpKinds a_mo_nexts a_mo_helperKinds a_mo_prices a_mo_helpersOfKind a_mo_numbers a_mo_kinds mo_kinds a_mo_days mo_days a_mo_rideDays mo_rideDays a_mo_helpKinds mo_helpKinds a_mo_nexts mo_nexts a_mo_helperKinds mo_helperKinds a_mo_prices mo_prices a_mo_helpersOfKind mo_helpersOfKind a_mo_numbers mo_numbers) (Bw0 D (wd_8 cC cI cJ a_st st_asked st_brought out.2.1 st_used out.2.2 st_day a_mo mo_tasks mo_helpers mo_askedFirst mo_crumbsFirst mo_lastDay a_mo_kinds a_mo_days a_mo_rideDays a_mo_helpKinds a_mo_nexts a_mo_helperKinds a_mo_prices a_mo_helpersOfKind a_mo_numbers a_mo_kinds mo_kinds a_mo_days mo_days a_mo_rideDays mo_rideDays a_mo_helpKinds mo_helpKinds a_mo_nexts mo_nexts a_mo_helperKinds mo_helperKinds a_mo_prices mo_prices a_mo_helpersOfKind mo_helpersOfKind a_mo_numbers mo_numbers)) out.1 := by
  unfold m_X4_tryBefriend at hm
  refine enter (cc := cX4_tryBefriend) (maxL := 4) (ret := (some .boolean)) (lv := [(0, .ref a_st), (1, .ref a_mo), (2, .int p1)]) (by decide) rfl (Nat.le_of_ble_eq_true rfl) rfl ?_
  intro p e s m args below meth c S hr hlk hK hP ls hl
  replace S : CallFix p m c cX4_tryBefriend 4 s args wsX4_tryBefriend RX4 := S
  have hx := S.1
  have hb := S.2.1
  have hw : Wd D A s.heap (wd_8 cC cI cJ a_st st_asked st_brought st_friends st_used st_crumbs st_day a_mo mo_tasks mo_helpers mo_askedFirst mo_crumbsFirst mo_lastDay a_mo_kinds a_mo_days a_mo_rideDays a_mo_helpKinds a_mo_nexts a_mo_helperKinds a_mo_prices a_mo_helpersOfKind a_mo_numbers a_mo_kinds mo_kinds a_mo_days mo_days a_mo_rideDays mo_rideDays a_mo_helpKinds mo_helpKinds a_mo_nexts mo_nexts a_mo_helperKinds mo_helperKinds a_mo_prices mo_prices a_mo_helpersOfKind mo_helpersOfKind a_mo_numbers mo_numbers) s.heap [] := ⟨hP, hD, va_S.rf⟩
  have hw0 := hw
  refine lv_aload_n hx hb dX4_tryBefriend_0 rfl (lv_at hl 1 rfl) ?_
  refine lv_iload_n hx hb dX4_tryBefriend_1 rfl (lv_at hl 2 rfl) ?_
  obtain ⟨r1, h2, hm⟩ := ob hm
  refine k_rVi S hK hw.1 cal_X0_priceOf gX4_tryBefriend_X0_priceOf (c_X0_priceOf l D cC cI cJ a_mo a_mo_kinds a_mo_days a_mo_rideDays a_mo_helpKinds a_mo_nexts a_mo_helperKinds a_mo_prices a_mo_helpersOfKind a_mo_numbers mo_tasks mo_helpers mo_askedFirst mo_crumbsFirst mo_lastDay mo_kinds mo_days mo_rideDays mo_helpKinds mo_nexts mo_helperKinds mo_prices mo_helpersOfKind mo_numbers p1 r1 h2) ⟨⟨rfl, rfl⟩, Nat.le_of_ble_eq_true rfl, Nat.le_of_ble_eq_true rfl⟩ [1, 2, 3, 4, 5, 6, 7, 8, 9, 10] rfl 1 rfl rfl rfl hl.1 rfl (Nat.le_of_ble_eq_true rfl) dX4_tryBefriend_2 ⟨Nat.zero_le _, Nat.zero_le _⟩ ?_
  refine lv_istore_n (lv' := [(3, .int r1), (0, .ref a_st), (1, .ref a_mo), (2, .int p1)]) hx hb dX4_tryBefriend_5 rfl hl (by decide) rfl (fun ls hl => ?_)
  refine lv_aload_n hx hb dX4_tryBefriend_6 rfl (lv_at hl 1 rfl) ?_
  refine f_get S hK hw.1 in_X4_tryBefriend_X4 0 rfl rfl 2 (by decide) (List.mem_of_getElem? (i := 1) rfl) rfl rfl dX4_tryBefriend_7 ?_
  refine lv_iload_n hx hb dX4_tryBefriend_10 rfl (lv_at hl 3 rfl) ?_
  obtain ⟨r3, h4, hm⟩ := ob hm
  refine k_rNi S hK hw.1 cal_X5_bit gX4_tryBefriend_X5_bit_n49 (List.mem_of_getElem? (i := 4) rfl) (List.mem_of_getElem? (i := 10) rfl) (List.mem_of_getElem? (i := 9) rfl) (c_X5_bit l D cC cI cJ p1 r3 h4) ⟨⟨rfl, rfl⟩, Nat.le_of_ble_eq_true rfl, Nat.le_of_ble_eq_true rfl⟩ [] rfl rfl hl.1 rfl (Nat.le_of_ble_eq_true rfl) dX4_tryBefriend_11 ⟨Nat.zero_le _, Nat.zero_le _⟩ ?_
  refine lv_iand hx hb dX4_tryBefriend_14 ?_
  refine lv_if_ne (tgt := 26) hx hb dX4_tryBefriend_15 (by decide) (fun c5 => ?_) (fun c5 => ?_)
  · replace hm := ineg hm c5
    refine lv_iconst (v := 0) hx hb dX4_tryBefriend_26 (by decide) ?_
    obtain rfl := Option.some.inj hm
    exact e_WZ S hr hlk hw (Or.inl rfl) rfl hw.1 dX4_tryBefriend_27
  · replace hm := ipos hm c5
    refine lv_iload_n hx hb dX4_tryBefriend_18 rfl (lv_at hl 0 rfl) ?_
    refine lv_aload_n hx hb dX4_tryBefriend_19 rfl (lv_at hl 1 rfl) ?_
    refine f_get S hK hw.1 in_X4_tryBefriend_X4 0 rfl rfl 4 (by decide) (List.mem_of_getElem? (i := 2) rfl) rfl rfl dX4_tryBefriend_20 ?_
    refine lv_icmp_le (tgt := 28) hx hb dX4_tryBefriend_23 (by decide) (fun c6 => ?_) (fun c6 => ?_)
    · replace hm := ipos hm c6
      refine lv_aload_n hx hb dX4_tryBefriend_28 rfl (lv_at hl 1 rfl) ?_
      refine lv_dup hx hb dX4_tryBefriend_29 rfl ?_
      refine f_get S hK hw.1 in_X4_tryBefriend_X4 0 rfl rfl 2 (by decide) (List.mem_of_getElem? (i := 1) rfl) rfl rfl dX4_tryBefriend_30 ?_
      refine lv_iload_n hx hb dX4_tryBefriend_33 rfl (lv_at hl 3 rfl) ?_
      obtain ⟨r7, h8, hm⟩ := ob hm
      refine k_rNi S hK hw.1 cal_X5_bit gX4_tryBefriend_X5_bit_n49 (List.mem_of_getElem? (i := 4) rfl) (List.mem_of_getElem? (i := 10) rfl) (List.mem_of_getElem? (i := 9) rfl) (c_X5_bit l D cC cI cJ p1 r7 h8) ⟨⟨rfl, rfl⟩, Nat.le_of_ble_eq_true rfl, Nat.le_of_ble_eq_true rfl⟩ [] rfl rfl hl.1 rfl (Nat.le_of_ble_eq_true rfl) dX4_tryBefriend_34 ⟨Nat.zero_le _, Nat.zero_le _⟩ ?_
      refine lv_ior hx hb dX4_tryBefriend_37 ?_
      refine f_put S hK hw in_X4_tryBefriend_X4 tyX4_ok nmX4 0 rfl rfl 2 (by decide) (List.mem_of_getElem? (i := 1) rfl) rfl rfl rfl rfl (Nat.le_of_ble_eq_true rfl) (ws1 := (wd_8 cC cI cJ a_st st_asked st_brought (st_friends ||| r7) st_used st_crumbs st_day a_mo mo_tasks mo_helpers mo_askedFirst mo_crumbsFirst mo_lastDay a_mo_kinds a_mo_days a_mo_rideDays a_mo_helpKinds a_mo_nexts a_mo_helperKinds a_mo_prices a_mo_helpersOfKind a_mo_numbers a_mo_kinds mo_kinds a_mo_days mo_days a_mo_rideDays mo_rideDays a_mo_helpKinds mo_helpKinds a_mo_nexts mo_nexts a_mo_helperKinds mo_helperKinds a_mo_prices mo_prices a_mo_helpersOfKind mo_helpersOfKind a_mo_numbers mo_numbers)) rfl dX4_tryBefriend_38 (fun H locs hw => ?_)
      refine lv_aload_n hx hb dX4_tryBefriend_41 rfl (lv_at hl 1 rfl) ?_
      refine lv_dup hx hb dX4_tryBefriend_42 rfl ?_
      refine f_get S hK hw.1 in_X4_tryBefriend_X4 0 rfl rfl 4 (by decide) (List.mem_of_getElem? (i := 2) rfl) rfl rfl dX4_tryBefriend_43 ?_
      refine lv_iload_n hx hb dX4_tryBefriend_46 rfl (lv_at hl 0 rfl) ?_
      refine lv_isub hx hb dX4_tryBefriend_47 ?_
      refine f_put S hK hw in_X4_tryBefriend_X4 tyX4_ok nmX4 0 rfl rfl 4 (by decide) (List.mem_of_getElem? (i := 2) rfl) rfl rfl rfl rfl (Nat.le_of_ble_eq_true rfl) (ws1 := (wd_8 cC cI cJ a_st st_asked st_brought (st_friends ||| r7) st_used (st_crumbs - r1) st_day a_mo mo_tasks mo_helpers mo_askedFirst mo_crumbsFirst mo_lastDay a_mo_kinds a_mo_days a_mo_rideDays a_mo_helpKinds a_mo_nexts a_mo_helperKinds a_mo_prices a_mo_helpersOfKind a_mo_numbers a_mo_kinds mo_kinds a_mo_days mo_days a_mo_rideDays mo_rideDays a_mo_helpKinds mo_helpKinds a_mo_nexts mo_nexts a_mo_helperKinds mo_helperKinds a_mo_prices mo_prices a_mo_helpersOfKind mo_helpersOfKind a_mo_numbers mo_numbers)) rfl dX4_tryBefriend_48 (fun H locs hw => ?_)
      refine lv_iconst (v := 1) hx hb dX4_tryBefriend_51 (by decide) ?_
      obtain rfl := Option.some.inj hm
      exact e_WZ S hr hlk hw (Or.inr rfl) rfl hw.1 dX4_tryBefriend_52
    · replace hm := ineg hm c6
      refine lv_iconst (v := 0) hx hb dX4_tryBefriend_26 (by decide) ?_
      obtain rfl := Option.some.inj hm
      exact e_WZ S hr hlk hw (Or.inl rfl) rfl hw.1 dX4_tryBefriend_27
