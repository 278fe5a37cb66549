/-! walks: X0_nextOf X0_hasTask X0_canBeLaid X5_setNumber X0_clear X0_daysOf X0_letterAt X0_isFigure X0_figuresAt X0_hasHelper X0_helpKindOf X5_bit X0_kindOf X0_helpOfAny X0_helpOfKind X0_helperKindOf X0_helpersOf J6_bitCount_0f7a4 -/
abbrev rX0_nextOf : Room := { frames := 0, cells := 0, slots := 0, locals := 0 }
theorem cal_X0_nextOf : Cal yX0_nextOf wsX0_nextOf cX0_nextOf 2 (some .int) RX0 1 := ⟨⟨_, rfl⟩, rfl, by decide +kernel, by decide +kernel, by decide +kernel⟩
theorem in_X0_nextOf_X0 : ∀ w ∈ wsX00, w ∈ wsX0_nextOf := fun _ h => (List.mem_cons_of_mem _ (List.mem_append_right _ h))
set_option maxHeartbeats 4000000 in
set_option maxRecDepth 100000 in
theorem c_X0_nextOf (l : Launch) (D : va_G) (cC cI cJ : ClassId) (a_mo : Nat) (a_mo_kinds : Nat) (a_mo_days : Nat) (a_mo_rideDays : Nat) (a_mo_helpKinds : Nat) (a_mo_nexts : Nat) (a_mo_helperKinds : Nat) (a_mo_prices : Nat) (a_mo_helpersOfKind : Nat) (a_mo_numbers : Nat) (mo_tasks : Int32) (mo_helpers : Int32) (mo_askedFirst : Int32) (mo_crumbsFirst : Int32) (mo_lastDay : Int32) (mo_kinds : (Nat → Int32)) (mo_days : (Nat → Int32)) (mo_rideDays : (Nat → Int32)) (mo_helpKinds : (Nat → Int32)) (mo_nexts : (Nat → Int32)) (mo_helperKinds : (Nat → Int32)) (mo_prices : (Nat → Int32)) (mo_helpersOfKind : (Nat → Int32)) (mo_numbers : (Nat → Int32)) (p0 : Int32) (out : Int32) (hm : m_X0_nextOf mo_nexts p0 = some out) : RdI l yX0_nextOf wsX0_nextOf rX0_nextOf D (tyK cC cI cJ) [.ref a_mo, .int p0] (wd_0 cC cI cJ a_mo mo_tasks mo_helpers mo_askedFirst mo_crumbsFirst mo_lastDay a_mo_kinds a_mo_days a_mo_rideDays a_mo_helpKinds a_mo_nexts a_mo_helperKinds a_mo_prices a_mo_helpersOfKind a_mo_numbers a_mo_kinds mo_kinds a_mo_days mo_days a_mo_rideDays mo_rideDays a_mo_helpKinds mo_helpKinds a_mo_nexts mo_nexts a_mo_helperKinds mo_helperKinds a_mo_prices mo_prices a_mo_helpersOfKind mo_helpersOfKind a_mo_numbers mo_numbers) out := by
  unfold m_X0_nextOf at hm
  refine enter (cc := cX0_nextOf) (maxL := 2) (ret := (some .int)) (lv := [(0, .ref a_mo), (1, .int p0)]) (by decide) rfl (Nat.le_of_ble_eq_true rfl) rfl ?_
  intro p e s m args below meth c S hr hlk hK hP ls hl
  replace S : CallFix p m c cX0_nextOf 2 s args wsX0_nextOf RX0 := S
  have hx := S.1
  have hb := S.2.1
  refine lv_iload_n hx hb dX0_nextOf_0 rfl (lv_at hl 1 rfl) ?_
  refine lv_if_lt (tgt := 22) hx hb dX0_nextOf_1 (by decide) (fun c1 => ?_) (fun c1 => ?_)
  · replace hm := ipos hm c1
    refine lv_iconst (v := 0) hx hb dX0_nextOf_22 (by decide) ?_
    exact e_RI S hr hlk (Option.some.inj hm) dX0_nextOf_23
  · replace hm := ineg hm c1
    refine lv_iload_n hx hb dX0_nextOf_4 rfl (lv_at hl 1 rfl) ?_
    refine lv_aload_n hx hb dX0_nextOf_5 rfl (lv_at hl 0 rfl) ?_
    refine f_get S hK hP in_X0_nextOf_X0 0 rfl rfl 9 (by decide) (List.mem_of_getElem? (i := 1) rfl) rfl rfl dX0_nextOf_6 ?_
    refine f_alen S hK hP 5 1 rfl rfl (v := (8 : Int32)) rfl dX0_nextOf_9 ?_
    refine lv_icmp_ge (tgt := 22) hx hb dX0_nextOf_10 (by decide) (fun c2 => ?_) (fun c2 => ?_)
    · replace hm := ipos hm c2
      refine lv_iconst (v := 0) hx hb dX0_nextOf_22 (by decide) ?_
      exact e_RI S hr hlk (Option.some.inj hm) dX0_nextOf_23
    · replace hm := ineg hm c2
      refine lv_aload_n hx hb dX0_nextOf_13 rfl (lv_at hl 0 rfl) ?_
      refine f_get S hK hP in_X0_nextOf_X0 0 rfl rfl 9 (by decide) (List.mem_of_getElem? (i := 1) rfl) rfl rfl dX0_nextOf_14 ?_
      refine lv_iload_n hx hb dX0_nextOf_17 rfl (lv_at hl 1 rfl) ?_
      obtain ⟨g3, hm⟩ := gdo hm
      refine f_iald S hK hP 5 1 rfl rfl g3 dX0_nextOf_18 ?_
      refine lv_goto (tgt := 23) hx hb dX0_nextOf_19 (by decide) ?_
      exact e_RI S hr hlk (Option.some.inj hm) dX0_nextOf_23

abbrev rX0_hasTask : Room := { frames := 0, cells := 0, slots := 0, locals := 0 }
theorem cal_X0_hasTask : Cal yX0_hasTask wsX0_hasTask cX0_hasTask 2 (some .boolean) RX0 1 := ⟨⟨_, rfl⟩, rfl, by decide +kernel, by decide +kernel, by decide +kernel⟩
theorem in_X0_hasTask_X0 : ∀ w ∈ wsX00, w ∈ wsX0_hasTask := fun _ h => (List.mem_cons_of_mem _ (List.mem_append_right _ h))
set_option maxHeartbeats 4000000 in
set_option maxRecDepth 100000 in
theorem c_X0_hasTask (l : Launch) (D : va_G) (cC cI cJ : ClassId) (a_mo : Nat) (a_mo_kinds : Nat) (a_mo_days : Nat) (a_mo_rideDays : Nat) (a_mo_helpKinds : Nat) (a_mo_nexts : Nat) (a_mo_helperKinds : Nat) (a_mo_prices : Nat) (a_mo_helpersOfKind : Nat) (a_mo_numbers : Nat) (mo_tasks : Int32) (mo_helpers : Int32) (mo_askedFirst : Int32) (mo_crumbsFirst : Int32) (mo_lastDay : Int32) (mo_kinds : (Nat → Int32)) (mo_days : (Nat → Int32)) (mo_rideDays : (Nat → Int32)) (mo_helpKinds : (Nat → Int32)) (mo_nexts : (Nat → Int32)) (mo_helperKinds : (Nat → Int32)) (mo_prices : (Nat → Int32)) (mo_helpersOfKind : (Nat → Int32)) (mo_numbers : (Nat → Int32)) (p0 : Int32) (out : Int32) (hm : m_X0_hasTask mo_tasks p0 = some out) : RdI l yX0_hasTask wsX0_hasTask rX0_hasTask D (tyK cC cI cJ) [.ref a_mo, .int p0] (wd_0 cC cI cJ a_mo mo_tasks mo_helpers mo_askedFirst mo_crumbsFirst mo_lastDay a_mo_kinds a_mo_days a_mo_rideDays a_mo_helpKinds a_mo_nexts a_mo_helperKinds a_mo_prices a_mo_helpersOfKind a_mo_numbers a_mo_kinds mo_kinds a_mo_days mo_days a_mo_rideDays mo_rideDays a_mo_helpKinds mo_helpKinds a_mo_nexts mo_nexts a_mo_helperKinds mo_helperKinds a_mo_prices mo_prices a_mo_helpersOfKind mo_helpersOfKind a_mo_numbers mo_numbers) out := by
  unfold m_X0_hasTask at hm
  refine enter (cc := cX0_hasTask) (maxL := 2) (ret := (some .boolean)) (lv := [(0, .ref a_mo), (1, .int p0)]) (by decide) rfl (Nat.le_of_ble_eq_true rfl) rfl ?_
  intro p e s m args below meth c S hr hlk hK hP ls hl
  replace S : CallFix p m c cX0_hasTask 2 s args wsX0_hasTask RX0 := S
  have hx := S.1
  have hb := S.2.1
  refine lv_iload_n hx hb dX0_hasTask_0 rfl (lv_at hl 1 rfl) ?_
  refine lv_if_lt (tgt := 16) hx hb dX0_hasTask_1 (by decide) (fun c1 => ?_) (fun c1 => ?_)
  · replace hm := ipos hm c1
    refine lv_iconst (v := 0) hx hb dX0_hasTask_16 (by decide) ?_
    exact e_RZ S hr hlk (Or.inl rfl) (Option.some.inj hm) dX0_hasTask_17
  · replace hm := ineg hm c1
    refine lv_iload_n hx hb dX0_hasTask_4 rfl (lv_at hl 1 rfl) ?_
    refine lv_aload_n hx hb dX0_hasTask_5 rfl (lv_at hl 0 rfl) ?_
    refine f_get S hK hP in_X0_hasTask_X0 0 rfl rfl 0 (by decide) (List.mem_of_getElem? (i := 1) rfl) rfl rfl dX0_hasTask_6 ?_
    refine lv_icmp_ge (tgt := 16) hx hb dX0_hasTask_9 (by decide) (fun c2 => ?_) (fun c2 => ?_)
    · replace hm := ipos hm c2
      refine lv_iconst (v := 0) hx hb dX0_hasTask_16 (by decide) ?_
      exact e_RZ S hr hlk (Or.inl rfl) (Option.some.inj hm) dX0_hasTask_17
    · replace hm := ineg hm c2
      refine lv_iconst (v := 1) hx hb dX0_hasTask_12 (by decide) ?_
      refine lv_goto (tgt := 17) hx hb dX0_hasTask_13 (by decide) ?_
      exact e_RZ S hr hlk (Or.inr rfl) (Option.some.inj hm) dX0_hasTask_17

abbrev rX0_canBeLaid : Room := { frames := 1, cells := 0, slots := 0, locals := 21 }
theorem cal_X0_canBeLaid : Cal yX0_canBeLaid wsX0_canBeLaid cX0_canBeLaid 2 (some .boolean) RX0 0 := ⟨⟨_, rfl⟩, rfl, by decide +kernel, by decide +kernel, by decide +kernel⟩
theorem in_X0_canBeLaid_X0 : ∀ w ∈ wsX00, w ∈ wsX0_canBeLaid := fun _ h => (List.mem_cons_of_mem _ (List.mem_append_right _ h))
set_option maxHeartbeats 4000000 in
set_option maxRecDepth 100000 in
theorem t_X0_canBeLaid_2 {p : Program} {e : Env} {s : State} {m : MethodId} {args : Array Value} {below : List Frame} {meth : Method} {c : Code} {Q : State → Prop} {H : Heap} {locs : List Loc} (l : Launch) {D : va_G} {cC cI cJ : ClassId} (S : CallFix p m c cX0_canBeLaid 2 s args wsX0_canBeLaid RX0) (hK : KK D (tyK cC cI cJ) s) (a_mo : Nat) (a_mo_kinds : Nat) (a_mo_days : Nat) (a_mo_rideDays : Nat) (a_mo_helpKinds : Nat) (a_mo_nexts : Nat) (a_mo_helperKinds : Nat) (a_mo_prices : Nat) (a_mo_helpersOfKind : Nat) (a_mo_numbers : Nat) (mo_tasks : Int32) (mo_helpers : Int32) (mo_askedFirst : Int32) (mo_crumbsFirst : Int32) (mo_lastDay : Int32) (mo_kinds : (Nat → Int32)) (mo_days : (Nat → Int32)) (mo_rideDays : (Nat → Int32)) (mo_helpKinds : (Nat → Int32)) (mo_nexts : (Nat → Int32)) (mo_helperKinds : (Nat → Int32)) (mo_prices : (Nat → Int32)) (mo_helpersOfKind : (Nat → Int32)) (mo_numbers : (Nat → Int32)) (hP : va_P D vwCl (wd_0 cC cI cJ a_mo mo_tasks mo_helpers mo_askedFirst mo_crumbsFirst mo_lastDay a_mo_kinds a_mo_days a_mo_rideDays a_mo_helpKinds a_mo_nexts a_mo_helperKinds a_mo_prices a_mo_helpersOfKind a_mo_numbers a_mo_kinds mo_kinds a_mo_days mo_days a_mo_rideDays mo_rideDays a_mo_helpKinds mo_helpKinds a_mo_nexts mo_nexts a_mo_helperKinds mo_helperKinds a_mo_prices mo_prices a_mo_helpersOfKind mo_helpersOfKind a_mo_numbers mo_numbers) H) : ∀ (n : Nat) (v1 : Int32) (out : (Unit ⊕ Unit)), lp_X0_canBeLaid_2 mo_tasks mo_nexts n v1 = some out → ∀ (ls : Array Slot), lv_has ls 2 [(0, .ref a_mo), (1, .int v1)] → (∀ (u : Unit), out = (Sum.inl u) → ∀ (ls : Array Slot), lv_has ls 2 [(0, .ref a_mo)] → W p l e rX0_canBeLaid s m args below meth c H locs 0 0 Q (F0 m 30 ls [])) → (∀ (u : Unit), out = (Sum.inr u) → ∀ (ls : Array Slot), lv_has ls 2 [] → W p l e rX0_canBeLaid s m args below meth c H locs 0 0 Q (F0 m 22 ls [])) → W p l e rX0_canBeLaid s m args below meth c H locs 0 0 Q (F0 m 2 ls []) := by
  have hx := S.1
  have hb := S.2.1
  intro n
  induction n with
  | zero => intro v1 out hm; cases (show (none : Option (Unit ⊕ Unit)) = some out from hm)
  | succ n ih =>
    intro v1 out hm  ls hl K0 K1
    rw [lp_X0_canBeLaid_2] at hm
    refine lv_iload_n hx hb dX0_canBeLaid_2 rfl (lv_at hl 1 rfl) ?_
    refine lv_aload_n hx hb dX0_canBeLaid_3 rfl (lv_at hl 0 rfl) ?_
    refine f_get S hK hP in_X0_canBeLaid_X0 0 rfl rfl 0 (by decide) (List.mem_of_getElem? (i := 1) rfl) rfl rfl dX0_canBeLaid_4 ?_
    refine lv_icmp_ge (tgt := 30) hx hb dX0_canBeLaid_7 (by decide) (fun c1 => ?_) (fun c1 => ?_)
    · replace hm := ipos hm c1
      obtain rfl := Option.some.inj hm
      exact K0 _ rfl  ls (lv_sub hl [0] rfl)
    · replace hm := ineg hm c1
      refine lv_aload_n hx hb dX0_canBeLaid_10 rfl (lv_at hl 0 rfl) ?_
      refine lv_aload_n hx hb dX0_canBeLaid_11 rfl (lv_at hl 0 rfl) ?_
      refine lv_iload_n hx hb dX0_canBeLaid_12 rfl (lv_at hl 1 rfl) ?_
      obtain ⟨r2, h3, hm⟩ := ob hm
      refine k_rVi S hK hP cal_X0_nextOf gX0_canBeLaid_X0_nextOf (c_X0_nextOf l D cC cI cJ a_mo a_mo_kinds a_mo_days a_mo_rideDays a_mo_helpKinds a_mo_nexts a_mo_helperKinds a_mo_prices a_mo_helpersOfKind a_mo_numbers mo_tasks mo_helpers mo_askedFirst mo_crumbsFirst mo_lastDay mo_kinds mo_days mo_rideDays mo_helpKinds mo_nexts mo_helperKinds mo_prices mo_helpersOfKind mo_numbers v1 r2 h3) ⟨⟨rfl, rfl⟩, Nat.le_of_ble_eq_true rfl, Nat.le_of_ble_eq_true rfl⟩ [0, 1, 2, 3, 4, 5, 6, 7, 8, 9] rfl 0 rfl rfl rfl hl.1 rfl (Nat.le_of_ble_eq_true rfl) dX0_canBeLaid_13 ⟨Nat.zero_le _, Nat.zero_le _⟩ ?_
      obtain ⟨r4, h5, hm⟩ := ob hm
      refine k_rVi S hK hP cal_X0_hasTask gX0_canBeLaid_X0_hasTask (c_X0_hasTask l D cC cI cJ a_mo a_mo_kinds a_mo_days a_mo_rideDays a_mo_helpKinds a_mo_nexts a_mo_helperKinds a_mo_prices a_mo_helpersOfKind a_mo_numbers mo_tasks mo_helpers mo_askedFirst mo_crumbsFirst mo_lastDay mo_kinds mo_days mo_rideDays mo_helpKinds mo_nexts mo_helperKinds mo_prices mo_helpersOfKind mo_numbers r2 r4 h5) ⟨⟨rfl, rfl⟩, Nat.le_of_ble_eq_true rfl, Nat.le_of_ble_eq_true rfl⟩ [0, 1, 2, 3, 4, 5, 6, 7, 8, 9] rfl 0 rfl rfl rfl hl.1 rfl (Nat.le_of_ble_eq_true rfl) dX0_canBeLaid_16 ⟨Nat.zero_le _, Nat.zero_le _⟩ ?_
      refine lv_if_ne (tgt := 24) hx hb dX0_canBeLaid_19 (by decide) (fun c6 => ?_) (fun c6 => ?_)
      · replace hm := ineg hm c6
        refine lv_iinc (v := (v1 + 1)) (lv' := [(1, .int (v1 + 1)), (0, .ref a_mo)]) hx hb dX0_canBeLaid_24 hl (k := 1) rfl (by rw [ofi_1]) (by decide) rfl (fun ls hl => ?_)
        refine lv_goto (tgt := 2) hx hb dX0_canBeLaid_27 (by decide) ?_
        exact ih (v1 + 1) _ hm  ls (lv_sub hl [1, 0] rfl) K0 K1
      · replace hm := ipos hm c6
        obtain rfl := Option.some.inj hm
        exact K1 _ rfl  ls (lv_sub hl [] rfl)
set_option maxHeartbeats 4000000 in
set_option maxRecDepth 100000 in
theorem c_X0_canBeLaid (l : Launch) (D : va_G) (cC cI cJ : ClassId) (a_mo : Nat) (a_mo_kinds : Nat) (a_mo_days : Nat) (a_mo_rideDays : Nat) (a_mo_helpKinds : Nat) (a_mo_nexts : Nat) (a_mo_helperKinds : Nat) (a_mo_prices : Nat) (a_mo_helpersOfKind : Nat) (a_mo_numbers : Nat) (mo_tasks : Int32) (mo_helpers : Int32) (mo_askedFirst : Int32) (mo_crumbsFirst : Int32) (mo_lastDay : Int32) (mo_kinds : (Nat → Int32)) (mo_days : (Nat → Int32)) (mo_rideDays : (Nat → Int32)) (mo_helpKinds : (Nat → Int32)) (mo_nexts : (Nat → Int32)) (mo_helperKinds : (Nat → Int32)) (mo_prices : (Nat → Int32)) (mo_helpersOfKind : (Nat → Int32)) (mo_numbers : (Nat → Int32)) (N : Nat) (out : Int32) (hm : m_X0_canBeLaid N mo_tasks mo_nexts = some out) : RdI l yX0_canBeLaid wsX0_canBeLaid rX0_canBeLaid D (tyK cC cI cJ) [.ref a_mo] (wd_0 cC cI cJ a_mo mo_tasks mo_helpers mo_askedFirst mo_crumbsFirst mo_lastDay a_mo_kinds a_mo_days a_mo_rideDays a_mo_helpKinds a_mo_nexts a_mo_helperKinds a_mo_prices a_mo_helpersOfKind a_mo_numbers a_mo_kinds mo_kinds a_mo_days mo_days a_mo_rideDays mo_rideDays a_mo_helpKinds mo_helpKinds a_mo_nexts mo_nexts a_mo_helperKinds mo_helperKinds a_mo_prices mo_prices a_mo_helpersOfKind mo_helpersOfKind a_mo_numbers mo_numbers) out := by
  unfold m_X0_canBeLaid at hm
  refine enter (cc := cX0_canBeLaid) (maxL := 2) (ret := (some .boolean)) (lv := [(0, .ref a_mo)]) (by decide) rfl (Nat.le_of_ble_eq_true rfl) rfl ?_
  intro p e s m args below meth c S hr hlk hK hP ls hl
  replace S : CallFix p m c cX0_canBeLaid 2 s args wsX0_canBeLaid RX0 := S
  have hx := S.1
  have hb := S.2.1
  refine lv_iconst (v := 0) hx hb dX0_canBeLaid_0 (by decide) ?_
  refine lv_istore_n (lv' := [(1, .int (0 : Int32)), (0, .ref a_mo)]) hx hb dX0_canBeLaid_1 rfl hl (by decide) rfl (fun ls hl => ?_)
  obtain ⟨r7, h8, hm⟩ := ob hm
  refine t_X0_canBeLaid_2 l S hK a_mo a_mo_kinds a_mo_days a_mo_rideDays a_mo_helpKinds a_mo_nexts a_mo_helperKinds a_mo_prices a_mo_helpersOfKind a_mo_numbers mo_tasks mo_helpers mo_askedFirst mo_crumbsFirst mo_lastDay mo_kinds mo_days mo_rideDays mo_helpKinds mo_nexts mo_helperKinds mo_prices mo_helpersOfKind mo_numbers hP N (0 : Int32) r7 h8  ls (lv_sub hl [1, 0] rfl) (fun u9 hu ls hl => ?_) (fun u11 hu ls hl => ?_)
  · subst hu
    replace hm := seL hm
    refine lv_aload_n hx hb dX0_canBeLaid_30 rfl (lv_at hl 0 rfl) ?_
    refine f_get S hK hP in_X0_canBeLaid_X0 0 rfl rfl 0 (by decide) (List.mem_of_getElem? (i := 1) rfl) rfl rfl dX0_canBeLaid_31 ?_
    refine lv_if_le (tgt := 41) hx hb dX0_canBeLaid_34 (by decide) (fun c10 => ?_) (fun c10 => ?_)
    · replace hm := ipos hm c10
      refine lv_iconst (v := 0) hx hb dX0_canBeLaid_41 (by decide) ?_
      exact e_RZ S hr hlk (Or.inl rfl) (Option.some.inj hm) dX0_canBeLaid_42
    · replace hm := ineg hm c10
      refine lv_iconst (v := 1) hx hb dX0_canBeLaid_37 (by decide) ?_
      refine lv_goto (tgt := 42) hx hb dX0_canBeLaid_38 (by decide) ?_
      exact e_RZ S hr hlk (Or.inr rfl) (Option.some.inj hm) dX0_canBeLaid_42
  · subst hu
    replace hm := seR hm
    refine lv_iconst (v := 0) hx hb dX0_canBeLaid_22 (by decide) ?_
    exact e_RZ S hr hlk (Or.inl rfl) (Option.some.inj hm) dX0_canBeLaid_23

abbrev rX5_setNumber : Room := { frames := 0, cells := 0, slots := 0, locals := 0 }
theorem cal_X5_setNumber : Cal yX5_setNumber wsX5_setNumber cX5_setNumber 3 none RX5 3 := ⟨⟨_, rfl⟩, rfl, by decide +kernel, by decide +kernel, by decide +kernel⟩
set_option maxHeartbeats 4000000 in
set_option maxRecDepth 100000 in
theorem c_X5_setNumber (l : Launch) (D : va_G) (cC cI cJ : ClassId) (a_row : Nat) (row_len : Nat) (row : (Nat → Int32)) (p1 : Int32) (p2 : Int32) (A : Nat → Prop) (hD : va_D A (wd_1 cC cI cJ a_row row_len row)) (out : (Nat → Int32)) (hm : m_X5_setNumber row_len row p1 p2 = some out) : WrV l yX5_setNumber wsX5_setNumber rX5_setNumber D (tyK cC cI cJ) [.ref a_row, .int p1, .int p2] A (wd_1 cC cI cJ a_row row_len row) (Bw0 D (wd_1 cC cI cJ a_row row_len out)) := by
  unfold m_X5_setNumber at hm
  refine enter (cc := cX5_setNumber) (maxL := 3) (ret := none) (lv := [(0, .ref a_row), (1, .int p1), (2, .int p2)]) (by decide) rfl (Nat.le_of_ble_eq_true rfl) rfl ?_
  intro p e s m args below meth c S hr hlk hK hP ls hl
  replace S : CallFix p m c cX5_setNumber 3 s args wsX5_setNumber RX5 := S
  have hx := S.1
  have hb := S.2.1
  have hw : Wd D A s.heap (wd_1 cC cI cJ a_row row_len row) s.heap [] := ⟨hP, hD, va_S.rf⟩
  have hw0 := hw
  refine lv_iload_n hx hb dX5_setNumber_0 rfl (lv_at hl 1 rfl) ?_
  refine lv_if_lt (tgt := 14) hx hb dX5_setNumber_1 (by decide) (fun c1 => ?_) (fun c1 => ?_)
  · replace hm := ipos hm c1
    obtain rfl := Option.some.inj hm
    exact e_WV S hr hlk hw hw.1 dX5_setNumber_14
  · replace hm := ineg hm c1
    refine lv_iload_n hx hb dX5_setNumber_4 rfl (lv_at hl 1 rfl) ?_
    refine lv_aload_n hx hb dX5_setNumber_5 rfl (lv_at hl 0 rfl) ?_
    refine f_alen S hK hw.1 0 1 rfl rfl (v := (Int32.ofNat row_len)) rfl dX5_setNumber_6 ?_
    refine lv_icmp_ge (tgt := 14) hx hb dX5_setNumber_7 (by decide) (fun c2 => ?_) (fun c2 => ?_)
    · replace hm := ipos hm c2
      obtain rfl := Option.some.inj hm
      exact e_WV S hr hlk hw hw.1 dX5_setNumber_14
    · replace hm := ineg hm c2
      refine lv_aload_n hx hb dX5_setNumber_10 rfl (lv_at hl 0 rfl) ?_
      refine lv_iload_n hx hb dX5_setNumber_11 rfl (lv_at hl 1 rfl) ?_
      refine lv_iload_n hx hb dX5_setNumber_12 rfl (lv_at hl 2 rfl) ?_
      obtain ⟨g3, hm⟩ := gdo hm
      refine f_iast S hK hw 0 1 rfl rfl g3 (ws1 := (wd_1 cC cI cJ a_row row_len (upd row (p1).toNatClampNeg p2))) rfl dX5_setNumber_13 (fun H locs hw => ?_)
      obtain rfl := Option.some.inj hm
      exact e_WV S hr hlk hw hw.1 dX5_setNumber_14

abbrev rX0_clear : Room := { frames := 1, cells := 0, slots := 0, locals := 22 }
theorem cal_X0_clear : Cal yX0_clear wsX0_clear cX0_clear 2 none RX0 0 := ⟨⟨_, rfl⟩, rfl, by decide +kernel, by decide +kernel, by decide +kernel⟩
theorem in_X0_clear_X0 : ∀ w ∈ wsX00, w ∈ wsX0_clear := fun _ h => (List.mem_cons_of_mem _ (List.mem_append_right _ h))
set_option maxHeartbeats 4000000 in
set_option maxRecDepth 100000 in
theorem t_X0_clear_29 {p : Program} {e : Env} {s : State} {m : MethodId} {args : Array Value} {below : List Frame} {meth : Method} {c : Code} {Q : State → Prop} (l : Launch) {D : va_G} {cC cI cJ : ClassId} {A : Nat → Prop} {H0 : Heap} (S : CallFix p m c cX0_clear 2 s args wsX0_clear RX0) (hK : KK D (tyK cC cI cJ) s) (a_mo : Nat) (a_mo_kinds : Nat) (a_mo_days : Nat) (a_mo_rideDays : Nat) (a_mo_helpKinds : Nat) (a_mo_nexts : Nat) (a_mo_helperKinds : Nat) (a_mo_prices : Nat) (a_mo_helpersOfKind : Nat) (a_mo_numbers : Nat) (mo_tasks : Int32) (mo_helpers : Int32) (mo_askedFirst : Int32) (mo_crumbsFirst : Int32) (mo_lastDay : Int32) (mo_kinds : (Nat → Int32)) (mo_days : (Nat → Int32)) (mo_rideDays : (Nat → Int32)) (mo_helpKinds : (Nat → Int32)) (mo_nexts : (Nat → Int32)) (mo_helperKinds : (Nat → Int32)) (mo_prices : (Nat → Int32)) (mo_numbers : (Nat → Int32)) : ∀ (n : Nat) (v1 : Int32) (mo_helpersOfKind : (Nat → Int32)) (out : (Nat → Int32)), lp_X0_clear_29  n v1 mo_helpersOfKind = some out → ∀ (H : Heap) (locs : List Loc) (ls : Array Slot), Wd D A H0 (wd_0 cC cI cJ a_mo mo_tasks mo_helpers mo_askedFirst mo_crumbsFirst mo_lastDay a_mo_kinds a_mo_days a_mo_rideDays a_mo_helpKinds a_mo_nexts a_mo_helperKinds a_mo_prices a_mo_helpersOfKind a_mo_numbers a_mo_kinds mo_kinds a_mo_days mo_days a_mo_rideDays mo_rideDays a_mo_helpKinds mo_helpKinds a_mo_nexts mo_nexts a_mo_helperKinds mo_helperKinds a_mo_prices mo_prices a_mo_helpersOfKind mo_helpersOfKind a_mo_numbers mo_numbers) H locs → lv_has ls 2 [(0, .ref a_mo), (1, .int v1)] → (∀ (H : Heap) (locs : List Loc) (ls : Array Slot), Wd D A H0 (wd_0 cC cI cJ a_mo mo_tasks mo_helpers mo_askedFirst mo_crumbsFirst mo_lastDay a_mo_kinds a_mo_days a_mo_rideDays a_mo_helpKinds a_mo_nexts a_mo_helperKinds a_mo_prices a_mo_helpersOfKind a_mo_numbers a_mo_kinds mo_kinds a_mo_days mo_days a_mo_rideDays mo_rideDays a_mo_helpKinds mo_helpKinds a_mo_nexts mo_nexts a_mo_helperKinds mo_helperKinds a_mo_prices mo_prices a_mo_helpersOfKind out a_mo_numbers mo_numbers) H locs → lv_has ls 2 [] → W p l e rX0_clear s m args below meth c H locs 0 0 Q (F0 m 49 ls [])) → W p l e rX0_clear s m args below meth c H locs 0 0 Q (F0 m 29 ls []) := by
  have hx := S.1
  have hb := S.2.1
  intro n
  induction n with
  | zero => intro v1 mo_helpersOfKind out hm; cases (show (none : Option (Nat → Int32)) = some out from hm)
  | succ n ih =>
    intro v1 mo_helpersOfKind out hm  H locs ls hw hl K0
    rw [lp_X0_clear_29] at hm
    refine lv_iload_n hx hb dX0_clear_29 rfl (lv_at hl 1 rfl) ?_
    refine lv_iconst (v := 5) hx hb dX0_clear_30 (by decide) ?_
    refine lv_icmp_ge (tgt := 49) hx hb dX0_clear_31 (by decide) (fun c1 => ?_) (fun c1 => ?_)
    · replace hm := ipos hm c1
      obtain rfl := Option.some.inj hm
      exact K0  _ _ ls hw (lv_sub hl [] rfl)
    · replace hm := ineg hm c1
      refine lv_aload_n hx hb dX0_clear_34 rfl (lv_at hl 0 rfl) ?_
      refine f_get S hK hw.1 in_X0_clear_X0 0 rfl rfl 12 (by decide) (List.mem_of_getElem? (i := 6) rfl) rfl rfl dX0_clear_35 ?_
      refine lv_iload_n hx hb dX0_clear_38 rfl (lv_at hl 1 rfl) ?_
      refine lv_iconst (v := 0) hx hb dX0_clear_39 (by decide) ?_
      obtain ⟨r2, h3, hm⟩ := ob hm
      refine k_wNv S hK hw cal_X5_setNumber gX0_clear_X5_setNumber_n100 (List.mem_of_getElem? (i := 1) rfl) (List.mem_of_getElem? (i := 8) rfl) (List.mem_of_getElem? (i := 7) rfl) (c_X5_setNumber l D cC cI cJ a_mo_helpersOfKind 5 mo_helpersOfKind v1 (0 : Int32) (aw _) (hw.own [8] (by decide) rfl) r2 h3) ⟨⟨rfl, rfl⟩, Nat.le_of_ble_eq_true rfl, Nat.le_of_ble_eq_true rfl⟩ [8] rfl rfl hl.1 rfl (Nat.le_of_ble_eq_true rfl) dX0_clear_40 ⟨Nat.zero_le _, Nat.zero_le _⟩ (fun H locs hJ hB => ?_)
      have hw := hJ _ hB rfl
      replace hw : Wd D A _ (wd_0 cC cI cJ a_mo mo_tasks mo_helpers mo_askedFirst mo_crumbsFirst mo_lastDay a_mo_kinds a_mo_days a_mo_rideDays a_mo_helpKinds a_mo_nexts a_mo_helperKinds a_mo_prices a_mo_helpersOfKind a_mo_numbers a_mo_kinds mo_kinds a_mo_days mo_days a_mo_rideDays mo_rideDays a_mo_helpKinds mo_helpKinds a_mo_nexts mo_nexts a_mo_helperKinds mo_helperKinds a_mo_prices mo_prices a_mo_helpersOfKind r2 a_mo_numbers mo_numbers) H locs := hw
      refine lv_iinc (v := (v1 + 1)) (lv' := [(1, .int (v1 + 1)), (0, .ref a_mo)]) hx hb dX0_clear_43 hl (k := 1) rfl (by rw [ofi_1]) (by decide) rfl (fun ls hl => ?_)
      refine lv_goto (tgt := 29) hx hb dX0_clear_46 (by decide) ?_
      exact ih (v1 + 1) r2 _ hm  _ _ ls hw (lv_sub hl [1, 0] rfl) K0
set_option maxHeartbeats 4000000 in
set_option maxRecDepth 100000 in
theorem c_X0_clear (l : Launch) (D : va_G) (cC cI cJ : ClassId) (a_mo : Nat) (a_mo_kinds : Nat) (a_mo_days : Nat) (a_mo_rideDays : Nat) (a_mo_helpKinds : Nat) (a_mo_nexts : Nat) (a_mo_helperKinds : Nat) (a_mo_prices : Nat) (a_mo_helpersOfKind : Nat) (a_mo_numbers : Nat) (mo_tasks : Int32) (mo_helpers : Int32) (mo_askedFirst : Int32) (mo_crumbsFirst : Int32) (mo_lastDay : Int32) (mo_kinds : (Nat → Int32)) (mo_days : (Nat → Int32)) (mo_rideDays : (Nat → Int32)) (mo_helpKinds : (Nat → Int32)) (mo_nexts : (Nat → Int32)) (mo_helperKinds : (Nat → Int32)) (mo_prices : (Nat → Int32)) (mo_helpersOfKind : (Nat → Int32)) (mo_numbers : (Nat → Int32)) (N : Nat) (A : Nat → Prop) (hD : va_D A (wd_0 cC cI cJ a_mo mo_tasks mo_helpers mo_askedFirst mo_crumbsFirst mo_lastDay a_mo_kinds a_mo_days a_mo_rideDays a_mo_helpKinds a_mo_nexts a_mo_helperKinds a_mo_prices a_mo_helpersOfKind a_mo_numbers a_mo_kinds mo_kinds a_mo_days mo_days a_mo_rideDays mo_rideDays a_mo_helpKinds mo_helpKinds a_mo_nexts mo_nexts a_mo_helperKinds mo_helperKinds a_mo_prices mo_prices a_mo_helpersOfKind mo_helpersOfKind a_mo_numbers mo_numbers)) (out : (Int32 × Int32 × Int32 × Int32 × Int32 × (Nat → Int32))) (hm : m_X0_clear N mo_helpersOfKind = some out) : WrV l yX0_clear wsX0_clear rX0_clear D (tyK cC cI cJ) [.ref a_mo] A (wd_0 cC cI cJ a_mo mo_tasks mo_helpers mo_askedFirst mo_crumbsFirst mo_lastDay a_mo_kinds a_mo_days a_mo_rideDays a_mo_helpKinds a_mo_nexts a_mo_helperKinds a_mo_prices a_mo_helpersOfKind a_mo_numbers a_mo_kinds mo_kinds a_mo_days mo_days a_mo_rideDays mo_rideDays a_mo_helpKinds mo_helpKinds a_mo_nexts mo_nexts a_mo_helperKinds mo_helperKinds a_mo_prices mo_prices a_mo_helpersOfKind mo_helpersOfKind a_mo_numbers mo_numbers) (Bw0 D (wd_0 cC cI cJ a_mo out.1 out.2.1 out.2.2.1 out.2.2.2.1 out.2.2.2.2.1 a_mo_kinds a_mo_days a_mo_rideDays a_mo_helpKinds a_mo_nexts a_mo_helperKinds a_mo_prices a_mo_helpersOfKind a_mo_numbers a_mo_kinds mo_kinds a_mo_days mo_days a_mo_rideDays mo_rideDays a_mo_helpKinds mo_helpKinds a_mo_nexts mo_nexts a_mo_helperKinds mo_helperKinds a_mo_prices mo_prices a_mo_helpersOfKind out.2.2.2.2.2 a_mo_numbers mo_numbers)) := by
  unfold m_X0_clear at hm
  refine enter (cc := cX0_clear) (maxL := 2) (ret := none) (lv := [(0, .ref a_mo)]) (by decide) rfl (Nat.le_of_ble_eq_true rfl) rfl ?_
  intro p e s m args below meth c S hr hlk hK hP ls hl
  replace S : CallFix p m c cX0_clear 2 s args wsX0_clear RX0 := S
  have hx := S.1
  have hb := S.2.1
  have hw : Wd D A s.heap (wd_0 cC cI cJ a_mo mo_tasks mo_helpers mo_askedFirst mo_crumbsFirst mo_lastDay a_mo_kinds a_mo_days a_mo_rideDays a_mo_helpKinds a_mo_nexts a_mo_helperKinds a_mo_prices a_mo_helpersOfKind a_mo_numbers a_mo_kinds mo_kinds a_mo_days mo_days a_mo_rideDays mo_rideDays a_mo_helpKinds mo_helpKinds a_mo_nexts mo_nexts a_mo_helperKinds mo_helperKinds a_mo_prices mo_prices a_mo_helpersOfKind mo_helpersOfKind a_mo_numbers mo_numbers) s.heap [] := ⟨hP, hD, va_S.rf⟩
  have hw0 := hw
  refine lv_aload_n hx hb dX0_clear_0 rfl (lv_at hl 0 rfl) ?_
  refine lv_iconst (v := 0) hx hb dX0_clear_1 (by decide) ?_
  refine f_put S hK hw in_X0_clear_X0 tyX0_ok nmX0 0 rfl rfl 0 (by decide) (List.mem_of_getElem? (i := 1) rfl) rfl rfl rfl rfl (Nat.le_of_ble_eq_true rfl) (ws1 := (wd_0 cC cI cJ a_mo (0 : Int32) mo_helpers mo_askedFirst mo_crumbsFirst mo_lastDay a_mo_kinds a_mo_days a_mo_rideDays a_mo_helpKinds a_mo_nexts a_mo_helperKinds a_mo_prices a_mo_helpersOfKind a_mo_numbers a_mo_kinds mo_kinds a_mo_days mo_days a_mo_rideDays mo_rideDays a_mo_helpKinds mo_helpKinds a_mo_nexts mo_nexts a_mo_helperKinds mo_helperKinds a_mo_prices mo_prices a_mo_helpersOfKind mo_helpersOfKind a_mo_numbers mo_numbers)) rfl dX0_clear_2 (fun H locs hw => ?_)
  refine lv_aload_n hx hb dX0_clear_5 rfl (lv_at hl 0 rfl) ?_
  refine lv_iconst (v := 0) hx hb dX0_clear_6 (by decide) ?_
  refine f_put S hK hw in_X0_clear_X0 tyX0_ok nmX0 0 rfl rfl 1 (by decide) (List.mem_of_getElem? (i := 2) rfl) rfl rfl rfl rfl (Nat.le_of_ble_eq_true rfl) (ws1 := (wd_0 cC cI cJ a_mo (0 : Int32) (0 : Int32) mo_askedFirst mo_crumbsFirst mo_lastDay a_mo_kinds a_mo_days a_mo_rideDays a_mo_helpKinds a_mo_nexts a_mo_helperKinds a_mo_prices a_mo_helpersOfKind a_mo_numbers a_mo_kinds mo_kinds a_mo_days mo_days a_mo_rideDays mo_rideDays a_mo_helpKinds mo_helpKinds a_mo_nexts mo_nexts a_mo_helperKinds mo_helperKinds a_mo_prices mo_prices a_mo_helpersOfKind mo_helpersOfKind a_mo_numbers mo_numbers)) rfl dX0_clear_7 (fun H locs hw => ?_)
  refine lv_aload_n hx hb dX0_clear_10 rfl (lv_at hl 0 rfl) ?_
  refine lv_iconst (v := 0) hx hb dX0_clear_11 (by decide) ?_
  refine f_put S hK hw in_X0_clear_X0 tyX0_ok nmX0 0 rfl rfl 2 (by decide) (List.mem_of_getElem? (i := 3) rfl) rfl rfl rfl rfl (Nat.le_of_ble_eq_true rfl) (ws1 := (wd_0 cC cI cJ a_mo (0 : Int32) (0 : Int32) (0 : Int32) mo_crumbsFirst mo_lastDay a_mo_kinds a_mo_days a_mo_rideDays a_mo_helpKinds a_mo_nexts a_mo_helperKinds a_mo_prices a_mo_helpersOfKind a_mo_numbers a_mo_kinds mo_kinds a_mo_days mo_days a_mo_rideDays mo_rideDays a_mo_helpKinds mo_helpKinds a_mo_nexts mo_nexts a_mo_helperKinds mo_helperKinds a_mo_prices mo_prices a_mo_helpersOfKind mo_helpersOfKind a_mo_numbers mo_numbers)) rfl dX0_clear_12 (fun H locs hw => ?_)
  refine lv_aload_n hx hb dX0_clear_15 rfl (lv_at hl 0 rfl) ?_
  refine lv_bipush (v := 20) hx hb dX0_clear_16 (by decide) ?_
  refine f_put S hK hw in_X0_clear_X0 tyX0_ok nmX0 0 rfl rfl 3 (by decide) (List.mem_of_getElem? (i := 4) rfl) rfl rfl rfl rfl (Nat.le_of_ble_eq_true rfl) (ws1 := (wd_0 cC cI cJ a_mo (0 : Int32) (0 : Int32) (0 : Int32) (20 : Int32) mo_lastDay a_mo_kinds a_mo_days a_mo_rideDays a_mo_helpKinds a_mo_nexts a_mo_helperKinds a_mo_prices a_mo_helpersOfKind a_mo_numbers a_mo_kinds mo_kinds a_mo_days mo_days a_mo_rideDays mo_rideDays a_mo_helpKinds mo_helpKinds a_mo_nexts mo_nexts a_mo_helperKinds mo_helperKinds a_mo_prices mo_prices a_mo_helpersOfKind mo_helpersOfKind a_mo_numbers mo_numbers)) rfl dX0_clear_18 (fun H locs hw => ?_)
  refine lv_aload_n hx hb dX0_clear_21 rfl (lv_at hl 0 rfl) ?_
  refine lv_bipush (v := 30) hx hb dX0_clear_22 (by decide) ?_
  refine f_put S hK hw in_X0_clear_X0 tyX0_ok nmX0 0 rfl rfl 4 (by decide) (List.mem_of_getElem? (i := 5) rfl) rfl rfl rfl rfl (Nat.le_of_ble_eq_true rfl) (ws1 := (wd_0 cC cI cJ a_mo (0 : Int32) (0 : Int32) (0 : Int32) (20 : Int32) (30 : Int32) a_mo_kinds a_mo_days a_mo_rideDays a_mo_helpKinds a_mo_nexts a_mo_helperKinds a_mo_prices a_mo_helpersOfKind a_mo_numbers a_mo_kinds mo_kinds a_mo_days mo_days a_mo_rideDays mo_rideDays a_mo_helpKinds mo_helpKinds a_mo_nexts mo_nexts a_mo_helperKinds mo_helperKinds a_mo_prices mo_prices a_mo_helpersOfKind mo_helpersOfKind a_mo_numbers mo_numbers)) rfl dX0_clear_24 (fun H locs hw => ?_)
  refine lv_iconst (v := 0) hx hb dX0_clear_27 (by decide) ?_
  refine lv_istore_n (lv' := [(1, .int (0 : Int32)), (0, .ref a_mo)]) hx hb dX0_clear_28 rfl hl (by decide) rfl (fun ls hl => ?_)
  obtain ⟨r4, h5, hm⟩ := ob hm
  refine t_X0_clear_29 l S hK a_mo a_mo_kinds a_mo_days a_mo_rideDays a_mo_helpKinds a_mo_nexts a_mo_helperKinds a_mo_prices a_mo_helpersOfKind a_mo_numbers (0 : Int32) (0 : Int32) (0 : Int32) (20 : Int32) (30 : Int32) mo_kinds mo_days mo_rideDays mo_helpKinds mo_nexts mo_helperKinds mo_prices mo_numbers N (0 : Int32) mo_helpersOfKind r4 h5  _ _ ls hw (lv_sub hl [1, 0] rfl) (fun H locs ls hw hl => ?_)
  obtain rfl := Option.some.inj hm
  exact e_WV S hr hlk hw hw.1 dX0_clear_49

abbrev rX0_daysOf : Room := { frames := 0, cells := 0, slots := 0, locals := 0 }
theorem cal_X0_daysOf : Cal yX0_daysOf wsX0_daysOf cX0_daysOf 2 (some .int) RX0 1 := ⟨⟨_, rfl⟩, rfl, by decide +kernel, by decide +kernel, by decide +kernel⟩
theorem in_X0_daysOf_X0 : ∀ w ∈ wsX00, w ∈ wsX0_daysOf := fun _ h => (List.mem_cons_of_mem _ (List.mem_append_right _ h))
set_option maxHeartbeats 4000000 in
set_option maxRecDepth 100000 in
theorem c_X0_daysOf (l : Launch) (D : va_G) (cC cI cJ : ClassId) (a_mo : Nat) (a_mo_kinds : Nat) (a_mo_days : Nat) (a_mo_rideDays : Nat) (a_mo_helpKinds : Nat) (a_mo_nexts : Nat) (a_mo_helperKinds : Nat) (a_mo_prices : Nat) (a_mo_helpersOfKind : Nat) (a_mo_numbers : Nat) (mo_tasks : Int32) (mo_helpers : Int32) (mo_askedFirst : Int32) (mo_crumbsFirst : Int32) (mo_lastDay : Int32) (mo_kinds : (Nat → Int32)) (mo_days : (Nat → Int32)) (mo_rideDays : (Nat → Int32)) (mo_helpKinds : (Nat → Int32)) (mo_nexts : (Nat → Int32)) (mo_helperKinds : (Nat → Int32)) (mo_prices : (Nat → Int32)) (mo_helpersOfKind : (Nat → Int32)) (mo_numbers : (Nat → Int32)) (p0 : Int32) (out : Int32) (hm : m_X0_daysOf mo_days p0 = some out) : RdI l yX0_daysOf wsX0_daysOf rX0_daysOf D (tyK cC cI cJ) [.ref a_mo, .int p0] (wd_0 cC cI cJ a_mo mo_tasks mo_helpers mo_askedFirst mo_crumbsFirst mo_lastDay a_mo_kinds a_mo_days a_mo_rideDays a_mo_helpKinds a_mo_nexts a_mo_helperKinds a_mo_prices a_mo_helpersOfKind a_mo_numbers a_mo_kinds mo_kinds a_mo_days mo_days a_mo_rideDays mo_rideDays a_mo_helpKinds mo_helpKinds a_mo_nexts mo_nexts a_mo_helperKinds mo_helperKinds a_mo_prices mo_prices a_mo_helpersOfKind mo_helpersOfKind a_mo_numbers mo_numbers) out := by
  unfold m_X0_daysOf at hm
  refine enter (cc := cX0_daysOf) (maxL := 2) (ret := (some .int)) (lv := [(0, .ref a_mo), (1, .int p0)]) (by decide) rfl (Nat.le_of_ble_eq_true rfl) rfl ?_
  intro p e s m args below meth c S hr hlk hK hP ls hl
  replace S : CallFix p m c cX0_daysOf 2 s args wsX0_daysOf RX0 := S
  have hx := S.1
  have hb := S.2.1
  refine lv_iload_n hx hb dX0_daysOf_0 rfl (lv_at hl 1 rfl) ?_
  refine lv_if_lt (tgt := 22) hx hb dX0_daysOf_1 (by decide) (fun c1 => ?_) (fun c1 => ?_)
  · replace hm := ipos hm c1
    refine lv_iconst (v := 0) hx hb dX0_daysOf_22 (by decide) ?_
    exact e_RI S hr hlk (Option.some.inj hm) dX0_daysOf_23
  · replace hm := ineg hm c1
    refine lv_iload_n hx hb dX0_daysOf_4 rfl (lv_at hl 1 rfl) ?_
    refine lv_aload_n hx hb dX0_daysOf_5 rfl (lv_at hl 0 rfl) ?_
    refine f_get S hK hP in_X0_daysOf_X0 0 rfl rfl 6 (by decide) (List.mem_of_getElem? (i := 1) rfl) rfl rfl dX0_daysOf_6 ?_
    refine f_alen S hK hP 2 1 rfl rfl (v := (8 : Int32)) rfl dX0_daysOf_9 ?_
    refine lv_icmp_ge (tgt := 22) hx hb dX0_daysOf_10 (by decide) (fun c2 => ?_) (fun c2 => ?_)
    · replace hm := ipos hm c2
      refine lv_iconst (v := 0) hx hb dX0_daysOf_22 (by decide) ?_
      exact e_RI S hr hlk (Option.some.inj hm) dX0_daysOf_23
    · replace hm := ineg hm c2
      refine lv_aload_n hx hb dX0_daysOf_13 rfl (lv_at hl 0 rfl) ?_
      refine f_get S hK hP in_X0_daysOf_X0 0 rfl rfl 6 (by decide) (List.mem_of_getElem? (i := 1) rfl) rfl rfl dX0_daysOf_14 ?_
      refine lv_iload_n hx hb dX0_daysOf_17 rfl (lv_at hl 1 rfl) ?_
      obtain ⟨g3, hm⟩ := gdo hm
      refine f_iald S hK hP 2 1 rfl rfl g3 dX0_daysOf_18 ?_
      refine lv_goto (tgt := 23) hx hb dX0_daysOf_19 (by decide) ?_
      exact e_RI S hr hlk (Option.some.inj hm) dX0_daysOf_23

abbrev rX0_letterAt : Room := { frames := 0, cells := 0, slots := 0, locals := 0 }
theorem cal_X0_letterAt : Cal yX0_letterAt wsX0_letterAt cX0_letterAt 3 (some .int) RX0 3 := ⟨⟨_, rfl⟩, rfl, by decide +kernel, by decide +kernel, by decide +kernel⟩
set_option maxHeartbeats 4000000 in
set_option maxRecDepth 100000 in
theorem c_X0_letterAt (l : Launch) (D : va_G) (cC cI cJ : ClassId) (a_tx : Nat) (tx_len : Nat) (tx : (Nat → Int32)) (p1 : Int32) (p2 : Int32) (out : Int32) (hm : m_X0_letterAt tx_len tx p1 p2 = some out) : RdI l yX0_letterAt wsX0_letterAt rX0_letterAt D (tyK cC cI cJ) [.ref a_tx, .int p1, .int p2] (wd_2 cC cI cJ a_tx tx_len tx) out := by
  unfold m_X0_letterAt at hm
  refine enter (cc := cX0_letterAt) (maxL := 3) (ret := (some .int)) (lv := [(0, .ref a_tx), (1, .int p1), (2, .int p2)]) (by decide) rfl (Nat.le_of_ble_eq_true rfl) rfl ?_
  intro p e s m args below meth c S hr hlk hK hP ls hl
  replace S : CallFix p m c cX0_letterAt 3 s args wsX0_letterAt RX0 := S
  have hx := S.1
  have hb := S.2.1
  refine lv_iload_n hx hb dX0_letterAt_0 rfl (lv_at hl 2 rfl) ?_
  refine lv_if_lt (tgt := 21) hx hb dX0_letterAt_1 (by decide) (fun c1 => ?_) (fun c1 => ?_)
  · replace hm := ipos hm c1
    refine lv_bipush (v := (-4)) hx hb dX0_letterAt_21 (by decide) ?_
    exact e_RI S hr hlk (Option.some.inj hm) dX0_letterAt_23
  · replace hm := ineg hm c1
    refine lv_iload_n hx hb dX0_letterAt_4 rfl (lv_at hl 2 rfl) ?_
    refine lv_iload_n hx hb dX0_letterAt_5 rfl (lv_at hl 1 rfl) ?_
    refine lv_icmp_ge (tgt := 21) hx hb dX0_letterAt_6 (by decide) (fun c2 => ?_) (fun c2 => ?_)
    · replace hm := ipos hm c2
      refine lv_bipush (v := (-4)) hx hb dX0_letterAt_21 (by decide) ?_
      exact e_RI S hr hlk (Option.some.inj hm) dX0_letterAt_23
    · replace hm := ineg hm c2
      refine lv_iload_n hx hb dX0_letterAt_9 rfl (lv_at hl 2 rfl) ?_
      refine lv_aload_n hx hb dX0_letterAt_10 rfl (lv_at hl 0 rfl) ?_
      refine f_alen S hK hP 0 0 rfl rfl (v := (Int32.ofNat tx_len)) rfl dX0_letterAt_11 ?_
      refine lv_icmp_ge (tgt := 21) hx hb dX0_letterAt_12 (by decide) (fun c3 => ?_) (fun c3 => ?_)
      · replace hm := ipos hm c3
        refine lv_bipush (v := (-4)) hx hb dX0_letterAt_21 (by decide) ?_
        exact e_RI S hr hlk (Option.some.inj hm) dX0_letterAt_23
      · replace hm := ineg hm c3
        refine lv_aload_n hx hb dX0_letterAt_15 rfl (lv_at hl 0 rfl) ?_
        refine lv_iload_n hx hb dX0_letterAt_16 rfl (lv_at hl 2 rfl) ?_
        obtain ⟨g4, hm⟩ := gdo hm
        refine f_cald S hK hP 0 0 rfl rfl g4 dX0_letterAt_17 ?_
        refine lv_goto (tgt := 23) hx hb dX0_letterAt_18 (by decide) ?_
        exact e_RI S hr hlk (Option.some.inj hm) dX0_letterAt_23

abbrev rX0_isFigure : Room := { frames := 0, cells := 0, slots := 0, locals := 0 }
theorem cal_X0_isFigure : Cal yX0_isFigure wsX0_isFigure cX0_isFigure 1 (some .boolean) RX0 1 := ⟨⟨_, rfl⟩, rfl, by decide +kernel, by decide +kernel, by decide +kernel⟩
set_option maxHeartbeats 4000000 in
set_option maxRecDepth 100000 in
theorem c_X0_isFigure (l : Launch) (D : va_G) (cC cI cJ : ClassId)  (p0 : Int32) (out : Int32) (hm : m_X0_isFigure p0 = some out) : RdI l yX0_isFigure wsX0_isFigure rX0_isFigure D (tyK cC cI cJ) [.int p0] [] out := by
  unfold m_X0_isFigure at hm
  refine enter (cc := cX0_isFigure) (maxL := 1) (ret := (some .boolean)) (lv := [(0, .int p0)]) (by decide) rfl (Nat.le_of_ble_eq_true rfl) rfl ?_
  intro p e s m args below meth c S hr hlk hK hP ls hl
  replace S : CallFix p m c cX0_isFigure 1 s args wsX0_isFigure RX0 := S
  have hx := S.1
  have hb := S.2.1
  refine lv_iload_n hx hb dX0_isFigure_0 rfl (lv_at hl 0 rfl) ?_
  refine lv_bipush (v := 48) hx hb dX0_isFigure_1 (by decide) ?_
  refine lv_icmp_lt (tgt := 16) hx hb dX0_isFigure_3 (by decide) (fun c1 => ?_) (fun c1 => ?_)
  · replace hm := ipos hm c1
    refine lv_iconst (v := 0) hx hb dX0_isFigure_16 (by decide) ?_
    exact e_RZ S hr hlk (Or.inl rfl) (Option.some.inj hm) dX0_isFigure_17
  · replace hm := ineg hm c1
    refine lv_iload_n hx hb dX0_isFigure_6 rfl (lv_at hl 0 rfl) ?_
    refine lv_bipush (v := 57) hx hb dX0_isFigure_7 (by decide) ?_
    refine lv_icmp_gt (tgt := 16) hx hb dX0_isFigure_9 (by decide) (fun c2 => ?_) (fun c2 => ?_)
    · replace hm := ipos hm c2
      refine lv_iconst (v := 0) hx hb dX0_isFigure_16 (by decide) ?_
      exact e_RZ S hr hlk (Or.inl rfl) (Option.some.inj hm) dX0_isFigure_17
    · replace hm := ineg hm c2
      refine lv_iconst (v := 1) hx hb dX0_isFigure_12 (by decide) ?_
      refine lv_goto (tgt := 17) hx hb dX0_isFigure_13 (by decide) ?_
      exact e_RZ S hr hlk (Or.inr rfl) (Option.some.inj hm) dX0_isFigure_17

abbrev rX0_figuresAt : Room := { frames := 1, cells := 0, slots := 0, locals := 22 }
theorem cal_X0_figuresAt : Cal yX0_figuresAt wsX0_figuresAt cX0_figuresAt 3 (some .int) RX0 3 := ⟨⟨_, rfl⟩, rfl, by decide +kernel, by decide +kernel, by decide +kernel⟩
set_option maxHeartbeats 4000000 in
set_option maxRecDepth 100000 in
theorem c_X0_figuresAt (l : Launch) (D : va_G) (cC cI cJ : ClassId) (a_tx : Nat) (tx_len : Nat) (tx : (Nat → Int32)) (p1 : Int32) (p2 : Int32) (out : Int32) (hm : m_X0_figuresAt tx_len tx p1 p2 = some out) : RdI l yX0_figuresAt wsX0_figuresAt rX0_figuresAt D (tyK cC cI cJ) [.ref a_tx, .int p1, .int p2] (wd_2 cC cI cJ a_tx tx_len tx) out := by
  unfold m_X0_figuresAt at hm
  refine enter (cc := cX0_figuresAt) (maxL := 3) (ret := (some .int)) (lv := [(0, .ref a_tx), (1, .int p1), (2, .int p2)]) (by decide) rfl (Nat.le_of_ble_eq_true rfl) rfl ?_
  intro p e s m args below meth c S hr hlk hK hP ls hl
  replace S : CallFix p m c cX0_figuresAt 3 s args wsX0_figuresAt RX0 := S
  have hx := S.1
  have hb := S.2.1
  refine lv_aload_n hx hb dX0_figuresAt_0 rfl (lv_at hl 0 rfl) ?_
  refine lv_iload_n hx hb dX0_figuresAt_1 rfl (lv_at hl 1 rfl) ?_
  refine lv_iload_n hx hb dX0_figuresAt_2 rfl (lv_at hl 2 rfl) ?_
  obtain ⟨r1, h2, hm⟩ := ob hm
  refine k_rSi S hK hP cal_X0_letterAt gX0_figuresAt_X0_letterAt (c_X0_letterAt l D cC cI cJ a_tx tx_len tx p1 p2 r1 h2) ⟨⟨rfl, rfl⟩, Nat.le_of_ble_eq_true rfl, Nat.le_of_ble_eq_true rfl⟩ [0] rfl rfl hl.1 rfl (Nat.le_of_ble_eq_true rfl) dX0_figuresAt_3 ⟨Nat.zero_le _, Nat.zero_le _⟩ ?_
  obtain ⟨r3, h4, hm⟩ := ob hm
  refine k_rSi S hK hP cal_X0_isFigure gX0_figuresAt_X0_isFigure (c_X0_isFigure l D cC cI cJ r1 r3 h4) ⟨⟨rfl, rfl⟩, Nat.le_of_ble_eq_true rfl, Nat.le_of_ble_eq_true rfl⟩ [] rfl rfl hl.1 rfl (Nat.le_of_ble_eq_true rfl) dX0_figuresAt_6 ⟨Nat.zero_le _, Nat.zero_le _⟩ ?_
  refine lv_if_ne (tgt := 14) hx hb dX0_figuresAt_9 (by decide) (fun c5 => ?_) (fun c5 => ?_)
  · replace hm := ineg hm c5
    refine lv_aload_n hx hb dX0_figuresAt_14 rfl (lv_at hl 0 rfl) ?_
    refine lv_iload_n hx hb dX0_figuresAt_15 rfl (lv_at hl 1 rfl) ?_
    refine lv_iload_n hx hb dX0_figuresAt_16 rfl (lv_at hl 2 rfl) ?_
    refine lv_iconst (v := 1) hx hb dX0_figuresAt_17 (by decide) ?_
    refine lv_iadd hx hb dX0_figuresAt_18 ?_
    obtain ⟨r6, h7, hm⟩ := ob hm
    refine k_rSi S hK hP cal_X0_letterAt gX0_figuresAt_X0_letterAt (c_X0_letterAt l D cC cI cJ a_tx tx_len tx p1 (p2 + (1 : Int32)) r6 h7) ⟨⟨rfl, rfl⟩, Nat.le_of_ble_eq_true rfl, Nat.le_of_ble_eq_true rfl⟩ [0] rfl rfl hl.1 rfl (Nat.le_of_ble_eq_true rfl) dX0_figuresAt_19 ⟨Nat.zero_le _, Nat.zero_le _⟩ ?_
    obtain ⟨r8, h9, hm⟩ := ob hm
    refine k_rSi S hK hP cal_X0_isFigure gX0_figuresAt_X0_isFigure (c_X0_isFigure l D cC cI cJ r6 r8 h9) ⟨⟨rfl, rfl⟩, Nat.le_of_ble_eq_true rfl, Nat.le_of_ble_eq_true rfl⟩ [] rfl rfl hl.1 rfl (Nat.le_of_ble_eq_true rfl) dX0_figuresAt_22 ⟨Nat.zero_le _, Nat.zero_le _⟩ ?_
    refine lv_if_eq (tgt := 32) hx hb dX0_figuresAt_25 (by decide) (fun c10 => ?_) (fun c10 => ?_)
    · replace hm := ipos hm c10
      refine lv_iconst (v := 1) hx hb dX0_figuresAt_32 (by decide) ?_
      exact e_RI S hr hlk (Option.some.inj hm) dX0_figuresAt_33
    · replace hm := ineg hm c10
      refine lv_iconst (v := 2) hx hb dX0_figuresAt_28 (by decide) ?_
      refine lv_goto (tgt := 33) hx hb dX0_figuresAt_29 (by decide) ?_
      exact e_RI S hr hlk (Option.some.inj hm) dX0_figuresAt_33
  · replace hm := ipos hm c5
    refine lv_iconst (v := 0) hx hb dX0_figuresAt_12 (by decide) ?_
    exact e_RI S hr hlk (Option.some.inj hm) dX0_figuresAt_13

abbrev rX0_hasHelper : Room := { frames := 0, cells := 0, slots := 0, locals := 0 }
theorem cal_X0_hasHelper : Cal yX0_hasHelper wsX0_hasHelper cX0_hasHelper 2 (some .boolean) RX0 1 := ⟨⟨_, rfl⟩, rfl, by decide +kernel, by decide +kernel, by decide +kernel⟩
theorem in_X0_hasHelper_X0 : ∀ w ∈ wsX00, w ∈ wsX0_hasHelper := fun _ h => (List.mem_cons_of_mem _ (List.mem_append_right _ h))
set_option maxHeartbeats 4000000 in
set_option maxRecDepth 100000 in
theorem c_X0_hasHelper (l : Launch) (D : va_G) (cC cI cJ : ClassId) (a_mo : Nat) (a_mo_kinds : Nat) (a_mo_days : Nat) (a_mo_rideDays : Nat) (a_mo_helpKinds : Nat) (a_mo_nexts : Nat) (a_mo_helperKinds : Nat) (a_mo_prices : Nat) (a_mo_helpersOfKind : Nat) (a_mo_numbers : Nat) (mo_tasks : Int32) (mo_helpers : Int32) (mo_askedFirst : Int32) (mo_crumbsFirst : Int32) (mo_lastDay : Int32) (mo_kinds : (Nat → Int32)) (mo_days : (Nat → Int32)) (mo_rideDays : (Nat → Int32)) (mo_helpKinds : (Nat → Int32)) (mo_nexts : (Nat → Int32)) (mo_helperKinds : (Nat → Int32)) (mo_prices : (Nat → Int32)) (mo_helpersOfKind : (Nat → Int32)) (mo_numbers : (Nat → Int32)) (p0 : Int32) (out : Int32) (hm : m_X0_hasHelper mo_helpers p0 = some out) : RdI l yX0_hasHelper wsX0_hasHelper rX0_hasHelper D (tyK cC cI cJ) [.ref a_mo, .int p0] (wd_0 cC cI cJ a_mo mo_tasks mo_helpers mo_askedFirst mo_crumbsFirst mo_lastDay a_mo_kinds a_mo_days a_mo_rideDays a_mo_helpKinds a_mo_nexts a_mo_helperKinds a_mo_prices a_mo_helpersOfKind a_mo_numbers a_mo_kinds mo_kinds a_mo_days mo_days a_mo_rideDays mo_rideDays a_mo_helpKinds mo_helpKinds a_mo_nexts mo_nexts a_mo_helperKinds mo_helperKinds a_mo_prices mo_prices a_mo_helpersOfKind mo_helpersOfKind a_mo_numbers mo_numbers) out := by
  unfold m_X0_hasHelper at hm
  refine enter (cc := cX0_hasHelper) (maxL := 2) (ret := (some .boolean)) (lv := [(0, .ref a_mo), (1, .int p0)]) (by decide) rfl (Nat.le_of_ble_eq_true rfl) rfl ?_
  intro p e s m args below meth c S hr hlk hK hP ls hl
  replace S : CallFix p m c cX0_hasHelper 2 s args wsX0_hasHelper RX0 := S
  have hx := S.1
  have hb := S.2.1
  refine lv_iload_n hx hb dX0_hasHelper_0 rfl (lv_at hl 1 rfl) ?_
  refine lv_if_lt (tgt := 16) hx hb dX0_hasHelper_1 (by decide) (fun c1 => ?_) (fun c1 => ?_)
  · replace hm := ipos hm c1
    refine lv_iconst (v := 0) hx hb dX0_hasHelper_16 (by decide) ?_
    exact e_RZ S hr hlk (Or.inl rfl) (Option.some.inj hm) dX0_hasHelper_17
  · replace hm := ineg hm c1
    refine lv_iload_n hx hb dX0_hasHelper_4 rfl (lv_at hl 1 rfl) ?_
    refine lv_aload_n hx hb dX0_hasHelper_5 rfl (lv_at hl 0 rfl) ?_
    refine f_get S hK hP in_X0_hasHelper_X0 0 rfl rfl 1 (by decide) (List.mem_of_getElem? (i := 1) rfl) rfl rfl dX0_hasHelper_6 ?_
    refine lv_icmp_ge (tgt := 16) hx hb dX0_hasHelper_9 (by decide) (fun c2 => ?_) (fun c2 => ?_)
    · replace hm := ipos hm c2
      refine lv_iconst (v := 0) hx hb dX0_hasHelper_16 (by decide) ?_
      exact e_RZ S hr hlk (Or.inl rfl) (Option.some.inj hm) dX0_hasHelper_17
    · replace hm := ineg hm c2
      refine lv_iconst (v := 1) hx hb dX0_hasHelper_12 (by decide) ?_
      refine lv_goto (tgt := 17) hx hb dX0_hasHelper_13 (by decide) ?_
      exact e_RZ S hr hlk (Or.inr rfl) (Option.some.inj hm) dX0_hasHelper_17

abbrev rX0_helpKindOf : Room := { frames := 0, cells := 0, slots := 0, locals := 0 }
theorem cal_X0_helpKindOf : Cal yX0_helpKindOf wsX0_helpKindOf cX0_helpKindOf 2 (some .int) RX0 1 := ⟨⟨_, rfl⟩, rfl, by decide +kernel, by decide +kernel, by decide +kernel⟩
theorem in_X0_helpKindOf_X0 : ∀ w ∈ wsX00, w ∈ wsX0_helpKindOf := fun _ h => (List.mem_cons_of_mem _ (List.mem_append_right _ h))
set_option maxHeartbeats 4000000 in
set_option maxRecDepth 100000 in
theorem c_X0_helpKindOf (l : Launch) (D : va_G) (cC cI cJ : ClassId) (a_mo : Nat) (a_mo_kinds : Nat) (a_mo_days : Nat) (a_mo_rideDays : Nat) (a_mo_helpKinds : Nat) (a_mo_nexts : Nat) (a_mo_helperKinds : Nat) (a_mo_prices : Nat) (a_mo_helpersOfKind : Nat) (a_mo_numbers : Nat) (mo_tasks : Int32) (mo_helpers : Int32) (mo_askedFirst : Int32) (mo_crumbsFirst : Int32) (mo_lastDay : Int32) (mo_kinds : (Nat → Int32)) (mo_days : (Nat → Int32)) (mo_rideDays : (Nat → Int32)) (mo_helpKinds : (Nat → Int32)) (mo_nexts : (Nat → Int32)) (mo_helperKinds : (Nat → Int32)) (mo_prices : (Nat → Int32)) (mo_helpersOfKind : (Nat → Int32)) (mo_numbers : (Nat → Int32)) (p0 : Int32) (out : Int32) (hm : m_X0_helpKindOf mo_helpKinds p0 = some out) : RdI l yX0_helpKindOf wsX0_helpKindOf rX0_helpKindOf D (tyK cC cI cJ) [.ref a_mo, .int p0] (wd_0 cC cI cJ a_mo mo_tasks mo_helpers mo_askedFirst mo_crumbsFirst mo_lastDay a_mo_kinds a_mo_days a_mo_rideDays a_mo_helpKinds a_mo_nexts a_mo_helperKinds a_mo_prices a_mo_helpersOfKind a_mo_numbers a_mo_kinds mo_kinds a_mo_days mo_days a_mo_rideDays mo_rideDays a_mo_helpKinds mo_helpKinds a_mo_nexts mo_nexts a_mo_helperKinds mo_helperKinds a_mo_prices mo_prices a_mo_helpersOfKind mo_helpersOfKind a_mo_numbers mo_numbers) out := by
  unfold m_X0_helpKindOf at hm
  refine enter (cc := cX0_helpKindOf) (maxL := 2) (ret := (some .int)) (lv := [(0, .ref a_mo), (1, .int p0)]) (by decide) rfl (Nat.le_of_ble_eq_true rfl) rfl ?_
  intro p e s m args below meth c S hr hlk hK hP ls hl
  replace S : CallFix p m c cX0_helpKindOf 2 s args wsX0_helpKindOf RX0 := S
  have hx := S.1
  have hb := S.2.1
  refine lv_iload_n hx hb dX0_helpKindOf_0 rfl (lv_at hl 1 rfl) ?_
  refine lv_if_lt (tgt := 22) hx hb dX0_helpKindOf_1 (by decide) (fun c1 => ?_) (fun c1 => ?_)
  · replace hm := ipos hm c1
    refine lv_iconst (v := 0) hx hb dX0_helpKindOf_22 (by decide) ?_
    exact e_RI S hr hlk (Option.some.inj hm) dX0_helpKindOf_23
  · replace hm := ineg hm c1
    refine lv_iload_n hx hb dX0_helpKindOf_4 rfl (lv_at hl 1 rfl) ?_
    refine lv_aload_n hx hb dX0_helpKindOf_5 rfl (lv_at hl 0 rfl) ?_
    refine f_get S hK hP in_X0_helpKindOf_X0 0 rfl rfl 8 (by decide) (List.mem_of_getElem? (i := 1) rfl) rfl rfl dX0_helpKindOf_6 ?_
    refine f_alen S hK hP 4 1 rfl rfl (v := (8 : Int32)) rfl dX0_helpKindOf_9 ?_
    refine lv_icmp_ge (tgt := 22) hx hb dX0_helpKindOf_10 (by decide) (fun c2 => ?_) (fun c2 => ?_)
    · replace hm := ipos hm c2
      refine lv_iconst (v := 0) hx hb dX0_helpKindOf_22 (by decide) ?_
      exact e_RI S hr hlk (Option.some.inj hm) dX0_helpKindOf_23
    · replace hm := ineg hm c2
      refine lv_aload_n hx hb dX0_helpKindOf_13 rfl (lv_at hl 0 rfl) ?_
      refine f_get S hK hP in_X0_helpKindOf_X0 0 rfl rfl 8 (by decide) (List.mem_of_getElem? (i := 1) rfl) rfl rfl dX0_helpKindOf_14 ?_
      refine lv_iload_n hx hb dX0_helpKindOf_17 rfl (lv_at hl 1 rfl) ?_
      obtain ⟨g3, hm⟩ := gdo hm
      refine f_iald S hK hP 4 1 rfl rfl g3 dX0_helpKindOf_18 ?_
      refine lv_goto (tgt := 23) hx hb dX0_helpKindOf_19 (by decide) ?_
      exact e_RI S hr hlk (Option.some.inj hm) dX0_helpKindOf_23

abbrev rX5_bit : Room := { frames := 0, cells := 0, slots := 0, locals := 0 }
theorem cal_X5_bit : Cal yX5_bit wsX5_bit cX5_bit 1 (some .int) RX5 1 := ⟨⟨_, rfl⟩, rfl, by decide +kernel, by decide +kernel, by decide +kernel⟩
set_option maxHeartbeats 4000000 in
set_option maxRecDepth 100000 in
theorem c_X5_bit (l : Launch) (D : va_G) (cC cI cJ : ClassId)  (p0 : Int32) (out : Int32) (hm : m_X5_bit p0 = some out) : RdI l yX5_bit wsX5_bit rX5_bit D (tyK cC cI cJ) [.int p0] [] out := by
  unfold m_X5_bit at hm
  refine enter (cc := cX5_bit) (maxL := 1) (ret := (some .int)) (lv := [(0, .int p0)]) (by decide) rfl (Nat.le_of_ble_eq_true rfl) rfl ?_
  intro p e s m args below meth c S hr hlk hK hP ls hl
  replace S : CallFix p m c cX5_bit 1 s args wsX5_bit RX5 := S
  have hx := S.1
  have hb := S.2.1
  refine lv_iconst (v := 1) hx hb dX5_bit_0 (by decide) ?_
  refine lv_iload_n hx hb dX5_bit_1 rfl (lv_at hl 0 rfl) ?_
  refine lv_ishl hx hb dX5_bit_2 ?_
  exact e_RI S hr hlk (Option.some.inj hm) dX5_bit_3

abbrev rX0_kindOf : Room := { frames := 0, cells := 0, slots := 0, locals := 0 }
theorem cal_X0_kindOf : Cal yX0_kindOf wsX0_kindOf cX0_kindOf 2 (some .int) RX0 1 := ⟨⟨_, rfl⟩, rfl, by decide +kernel, by decide +kernel, by decide +kernel⟩
theorem in_X0_kindOf_X0 : ∀ w ∈ wsX00, w ∈ wsX0_kindOf := fun _ h => (List.mem_cons_of_mem _ (List.mem_append_right _ h))
set_option maxHeartbeats 4000000 in
set_option maxRecDepth 100000 in
theorem c_X0_kindOf (l : Launch) (D : va_G) (cC cI cJ : ClassId) (a_mo : Nat) (a_mo_kinds : Nat) (a_mo_days : Nat) (a_mo_rideDays : Nat) (a_mo_helpKinds : Nat) (a_mo_nexts : Nat) (a_mo_helperKinds : Nat) (a_mo_prices : Nat) (a_mo_helpersOfKind : Nat) (a_mo_numbers : Nat) (mo_tasks : Int32) (mo_helpers : Int32) (mo_askedFirst : Int32) (mo_crumbsFirst : Int32) (mo_lastDay : Int32) (mo_kinds : (Nat → Int32)) (mo_days : (Nat → Int32)) (mo_rideDays : (Nat → Int32)) (mo_helpKinds : (Nat → Int32)) (mo_nexts : (Nat → Int32)) (mo_helperKinds : (Nat → Int32)) (mo_prices : (Nat → Int32)) (mo_helpersOfKind : (Nat → Int32)) (mo_numbers : (Nat → Int32)) (p0 : Int32) (out : Int32) (hm : m_X0_kindOf mo_kinds p0 = some out) : RdI l yX0_kindOf wsX0_kindOf rX0_kindOf D (tyK cC cI cJ) [.ref a_mo, .int p0] (wd_0 cC cI cJ a_mo mo_tasks mo_helpers mo_askedFirst mo_crumbsFirst mo_lastDay a_mo_kinds a_mo_days a_mo_rideDays a_mo_helpKinds a_mo_nexts a_mo_helperKinds a_mo_prices a_mo_helpersOfKind a_mo_numbers a_mo_kinds mo_kinds a_mo_days mo_days a_mo_rideDays mo_rideDays a_mo_helpKinds mo_helpKinds a_mo_nexts mo_nexts a_mo_helperKinds mo_helperKinds a_mo_prices mo_prices a_mo_helpersOfKind mo_helpersOfKind a_mo_numbers mo_numbers) out := by
  unfold m_X0_kindOf at hm
  refine enter (cc := cX0_kindOf) (maxL := 2) (ret := (some .int)) (lv := [(0, .ref a_mo), (1, .int p0)]) (by decide) rfl (Nat.le_of_ble_eq_true rfl) rfl ?_
  intro p e s m args below meth c S hr hlk hK hP ls hl
  replace S : CallFix p m c cX0_kindOf 2 s args wsX0_kindOf RX0 := S
  have hx := S.1
  have hb := S.2.1
  refine lv_iload_n hx hb dX0_kindOf_0 rfl (lv_at hl 1 rfl) ?_
  refine lv_if_lt (tgt := 22) hx hb dX0_kindOf_1 (by decide) (fun c1 => ?_) (fun c1 => ?_)
  · replace hm := ipos hm c1
    refine lv_iconst (v := 0) hx hb dX0_kindOf_22 (by decide) ?_
    exact e_RI S hr hlk (Option.some.inj hm) dX0_kindOf_23
  · replace hm := ineg hm c1
    refine lv_iload_n hx hb dX0_kindOf_4 rfl (lv_at hl 1 rfl) ?_
    refine lv_aload_n hx hb dX0_kindOf_5 rfl (lv_at hl 0 rfl) ?_
    refine f_get S hK hP in_X0_kindOf_X0 0 rfl rfl 5 (by decide) (List.mem_of_getElem? (i := 1) rfl) rfl rfl dX0_kindOf_6 ?_
    refine f_alen S hK hP 1 1 rfl rfl (v := (8 : Int32)) rfl dX0_kindOf_9 ?_
    refine lv_icmp_ge (tgt := 22) hx hb dX0_kindOf_10 (by decide) (fun c2 => ?_) (fun c2 => ?_)
    · replace hm := ipos hm c2
      refine lv_iconst (v := 0) hx hb dX0_kindOf_22 (by decide) ?_
      exact e_RI S hr hlk (Option.some.inj hm) dX0_kindOf_23
    · replace hm := ineg hm c2
      refine lv_aload_n hx hb dX0_kindOf_13 rfl (lv_at hl 0 rfl) ?_
      refine f_get S hK hP in_X0_kindOf_X0 0 rfl rfl 5 (by decide) (List.mem_of_getElem? (i := 1) rfl) rfl rfl dX0_kindOf_14 ?_
      refine lv_iload_n hx hb dX0_kindOf_17 rfl (lv_at hl 1 rfl) ?_
      obtain ⟨g3, hm⟩ := gdo hm
      refine f_iald S hK hP 1 1 rfl rfl g3 dX0_kindOf_18 ?_
      refine lv_goto (tgt := 23) hx hb dX0_kindOf_19 (by decide) ?_
      exact e_RI S hr hlk (Option.some.inj hm) dX0_kindOf_23

abbrev rX0_helpOfAny : Room := { frames := 1, cells := 0, slots := 0, locals := 21 }
theorem cal_X0_helpOfAny : Cal yX0_helpOfAny wsX0_helpOfAny cX0_helpOfAny 4 (some .int) RX0 1 := ⟨⟨_, rfl⟩, rfl, by decide +kernel, by decide +kernel, by decide +kernel⟩
theorem in_X0_helpOfAny_X0 : ∀ w ∈ wsX00, w ∈ wsX0_helpOfAny := fun _ h => (List.mem_cons_of_mem _ (List.mem_append_right _ h))
set_option maxHeartbeats 4000000 in
set_option maxRecDepth 100000 in
theorem t_X0_helpOfAny_4 {p : Program} {e : Env} {s : State} {m : MethodId} {args : Array Value} {below : List Frame} {meth : Method} {c : Code} {Q : State → Prop} {H : Heap} {locs : List Loc} (l : Launch) {D : va_G} {cC cI cJ : ClassId} (S : CallFix p m c cX0_helpOfAny 4 s args wsX0_helpOfAny RX0) (hK : KK D (tyK cC cI cJ) s) (a_mo : Nat) (a_mo_kinds : Nat) (a_mo_days : Nat) (a_mo_rideDays : Nat) (a_mo_helpKinds : Nat) (a_mo_nexts : Nat) (a_mo_helperKinds : Nat) (a_mo_prices : Nat) (a_mo_helpersOfKind : Nat) (a_mo_numbers : Nat) (v1 : Int32) (mo_tasks : Int32) (mo_helpers : Int32) (mo_askedFirst : Int32) (mo_crumbsFirst : Int32) (mo_lastDay : Int32) (mo_kinds : (Nat → Int32)) (mo_days : (Nat → Int32)) (mo_rideDays : (Nat → Int32)) (mo_helpKinds : (Nat → Int32)) (mo_nexts : (Nat → Int32)) (mo_helperKinds : (Nat → Int32)) (mo_prices : (Nat → Int32)) (mo_helpersOfKind : (Nat → Int32)) (mo_numbers : (Nat → Int32)) (hP : va_P D vwCl (wd_0 cC cI cJ a_mo mo_tasks mo_helpers mo_askedFirst mo_crumbsFirst mo_lastDay a_mo_kinds a_mo_days a_mo_rideDays a_mo_helpKinds a_mo_nexts a_mo_helperKinds a_mo_prices a_mo_helpersOfKind a_mo_numbers a_mo_kinds mo_kinds a_mo_days mo_days a_mo_rideDays mo_rideDays a_mo_helpKinds mo_helpKinds a_mo_nexts mo_nexts a_mo_helperKinds mo_helperKinds a_mo_prices mo_prices a_mo_helpersOfKind mo_helpersOfKind a_mo_numbers mo_numbers) H) : ∀ (n : Nat) (v2 : Int32) (v3 : Int32) (out : Int32), lp_X0_helpOfAny_4 v1 mo_tasks mo_kinds n v2 v3 = some out → ∀ (ls : Array Slot), lv_has ls 4 [(0, .ref a_mo), (1, .int v1), (2, .int v2), (3, .int v3)] → (∀ (ls : Array Slot), lv_has ls 4 [(2, .int out)] → W p l e rX0_helpOfAny s m args below meth c H locs 0 0 Q (F0 m 44 ls [])) → W p l e rX0_helpOfAny s m args below meth c H locs 0 0 Q (F0 m 4 ls []) := by
  have hx := S.1
  have hb := S.2.1
  intro n
  induction n with
  | zero => intro v2 v3 out hm; cases (show (none : Option Int32) = some out from hm)
  | succ n ih =>
    intro v2 v3 out hm  ls hl K0
    rw [lp_X0_helpOfAny_4] at hm
    refine lv_iload_n hx hb dX0_helpOfAny_4 rfl (lv_at hl 3 rfl) ?_
    refine lv_aload_n hx hb dX0_helpOfAny_5 rfl (lv_at hl 0 rfl) ?_
    refine f_get S hK hP in_X0_helpOfAny_X0 0 rfl rfl 0 (by decide) (List.mem_of_getElem? (i := 1) rfl) rfl rfl dX0_helpOfAny_6 ?_
    refine lv_icmp_ge (tgt := 44) hx hb dX0_helpOfAny_9 (by decide) (fun c1 => ?_) (fun c1 => ?_)
    · replace hm := ipos hm c1
      obtain rfl := Option.some.inj hm
      exact K0  ls (lv_sub hl [2] rfl)
    · replace hm := ineg hm c1
      refine lv_iload_n hx hb dX0_helpOfAny_12 rfl (lv_at hl 2 rfl) ?_
      refine lv_iload_n hx hb dX0_helpOfAny_13 rfl (lv_at hl 1 rfl) ?_
      refine lv_iload_n hx hb dX0_helpOfAny_14 rfl (lv_at hl 3 rfl) ?_
      obtain ⟨r2, h3, hm⟩ := ob hm
      refine k_rNi S hK hP cal_X5_bit gX0_helpOfAny_X5_bit_n46 (List.mem_of_getElem? (i := 3) rfl) (List.mem_of_getElem? (i := 3) rfl) (List.mem_of_getElem? (i := 2) rfl) (c_X5_bit l D cC cI cJ v3 r2 h3) ⟨⟨rfl, rfl⟩, Nat.le_of_ble_eq_true rfl, Nat.le_of_ble_eq_true rfl⟩ [] rfl rfl hl.1 rfl (Nat.le_of_ble_eq_true rfl) dX0_helpOfAny_15 ⟨Nat.zero_le _, Nat.zero_le _⟩ ?_
      refine lv_iand hx hb dX0_helpOfAny_18 ?_
      refine lv_if_eq (tgt := 35) hx hb dX0_helpOfAny_19 (by decide) (fun c4 => ?_) (fun c4 => ?_)
      · replace hm := ipos hm c4
        refine lv_iconst (v := 0) hx hb dX0_helpOfAny_35 (by decide) ?_
        refine lv_iadd hx hb dX0_helpOfAny_36 ?_
        refine lv_istore_n (lv' := [(2, .int (v2 + (0 : Int32))), (0, .ref a_mo), (1, .int v1), (3, .int v3)]) hx hb dX0_helpOfAny_37 rfl hl (by decide) rfl (fun ls hl => ?_)
        refine lv_iinc (v := (v3 + 1)) (lv' := [(3, .int (v3 + 1)), (2, .int (v2 + (0 : Int32))), (0, .ref a_mo), (1, .int v1)]) hx hb dX0_helpOfAny_38 hl (k := 3) rfl (by rw [ofi_1]) (by decide) rfl (fun ls hl => ?_)
        refine lv_goto (tgt := 4) hx hb dX0_helpOfAny_41 (by decide) ?_
        exact ih (v2 + (0 : Int32)) (v3 + 1) _ hm  ls (lv_sub hl [2, 3, 1, 0] rfl) K0
      · replace hm := ineg hm c4
        refine lv_aload_n hx hb dX0_helpOfAny_22 rfl (lv_at hl 0 rfl) ?_
        refine lv_iload_n hx hb dX0_helpOfAny_23 rfl (lv_at hl 3 rfl) ?_
        obtain ⟨r5, h6, hm⟩ := ob hm
        refine k_rVi S hK hP cal_X0_kindOf gX0_helpOfAny_X0_kindOf (c_X0_kindOf l D cC cI cJ a_mo a_mo_kinds a_mo_days a_mo_rideDays a_mo_helpKinds a_mo_nexts a_mo_helperKinds a_mo_prices a_mo_helpersOfKind a_mo_numbers mo_tasks mo_helpers mo_askedFirst mo_crumbsFirst mo_lastDay mo_kinds mo_days mo_rideDays mo_helpKinds mo_nexts mo_helperKinds mo_prices mo_helpersOfKind mo_numbers v3 r5 h6) ⟨⟨rfl, rfl⟩, Nat.le_of_ble_eq_true rfl, Nat.le_of_ble_eq_true rfl⟩ [0, 1, 2, 3, 4, 5, 6, 7, 8, 9] rfl 0 rfl rfl rfl hl.1 rfl (Nat.le_of_ble_eq_true rfl) dX0_helpOfAny_24 ⟨Nat.zero_le _, Nat.zero_le _⟩ ?_
        refine lv_iconst (v := 3) hx hb dX0_helpOfAny_27 (by decide) ?_
        refine lv_icmp_ne (tgt := 35) hx hb dX0_helpOfAny_28 (by decide) (fun c7 => ?_) (fun c7 => ?_)
        · replace hm := ineg hm c7
          refine lv_iconst (v := 0) hx hb dX0_helpOfAny_35 (by decide) ?_
          refine lv_iadd hx hb dX0_helpOfAny_36 ?_
          refine lv_istore_n (lv' := [(2, .int (v2 + (0 : Int32))), (0, .ref a_mo), (1, .int v1), (3, .int v3)]) hx hb dX0_helpOfAny_37 rfl hl (by decide) rfl (fun ls hl => ?_)
          refine lv_iinc (v := (v3 + 1)) (lv' := [(3, .int (v3 + 1)), (2, .int (v2 + (0 : Int32))), (0, .ref a_mo), (1, .int v1)]) hx hb dX0_helpOfAny_38 hl (k := 3) rfl (by rw [ofi_1]) (by decide) rfl (fun ls hl => ?_)
          refine lv_goto (tgt := 4) hx hb dX0_helpOfAny_41 (by decide) ?_
          exact ih (v2 + (0 : Int32)) (v3 + 1) _ hm  ls (lv_sub hl [2, 3, 1, 0] rfl) K0
        · replace hm := ipos hm c7
          refine lv_iconst (v := 1) hx hb dX0_helpOfAny_31 (by decide) ?_
          refine lv_goto (tgt := 36) hx hb dX0_helpOfAny_32 (by decide) ?_
          refine lv_iadd hx hb dX0_helpOfAny_36 ?_
          refine lv_istore_n (lv' := [(2, .int (v2 + (1 : Int32))), (0, .ref a_mo), (1, .int v1), (3, .int v3)]) hx hb dX0_helpOfAny_37 rfl hl (by decide) rfl (fun ls hl => ?_)
          refine lv_iinc (v := (v3 + 1)) (lv' := [(3, .int (v3 + 1)), (2, .int (v2 + (1 : Int32))), (0, .ref a_mo), (1, .int v1)]) hx hb dX0_helpOfAny_38 hl (k := 3) rfl (by rw [ofi_1]) (by decide) rfl (fun ls hl => ?_)
          refine lv_goto (tgt := 4) hx hb dX0_helpOfAny_41 (by decide) ?_
          exact ih (v2 + (1 : Int32)) (v3 + 1) _ hm  ls (lv_sub hl [2, 3, 1, 0] rfl) K0
set_option maxHeartbeats 4000000 in
set_option maxRecDepth 100000 in
theorem c_X0_helpOfAny (l : Launch) (D : va_G) (cC cI cJ : ClassId) (a_mo : Nat) (a_mo_kinds : Nat) (a_mo_days : Nat) (a_mo_rideDays : Nat) (a_mo_helpKinds : Nat) (a_mo_nexts : Nat) (a_mo_helperKinds : Nat) (a_mo_prices : Nat) (a_mo_helpersOfKind : Nat) (a_mo_numbers : Nat) (mo_tasks : Int32) (mo_helpers : Int32) (mo_askedFirst : Int32) (mo_crumbsFirst : Int32) (mo_lastDay : Int32) (mo_kinds : (Nat → Int32)) (mo_days : (Nat → Int32)) (mo_rideDays : (Nat → Int32)) (mo_helpKinds : (Nat → Int32)) (mo_nexts : (Nat → Int32)) (mo_helperKinds : (Nat → Int32)) (mo_prices : (Nat → Int32)) (mo_helpersOfKind : (Nat → Int32)) (mo_numbers : (Nat → Int32)) (p0 : Int32) (N : Nat) (out : Int32) (hm : m_X0_helpOfAny N mo_tasks mo_kinds p0 = some out) : RdI l yX0_helpOfAny wsX0_helpOfAny rX0_helpOfAny D (tyK cC cI cJ) [.ref a_mo, .int p0] (wd_0 cC cI cJ a_mo mo_tasks mo_helpers mo_askedFirst mo_crumbsFirst mo_lastDay a_mo_kinds a_mo_days a_mo_rideDays a_mo_helpKinds a_mo_nexts a_mo_helperKinds a_mo_prices a_mo_helpersOfKind a_mo_numbers a_mo_kinds mo_kinds a_mo_days mo_days a_mo_rideDays mo_rideDays a_mo_helpKinds mo_helpKinds a_mo_nexts mo_nexts a_mo_helperKinds mo_helperKinds a_mo_prices mo_prices a_mo_helpersOfKind mo_helpersOfKind a_mo_numbers mo_numbers) out := by
  unfold m_X0_helpOfAny at hm
  refine enter (cc := cX0_helpOfAny) (maxL := 4) (ret := (some .int)) (lv := [(0, .ref a_mo), (1, .int p0)]) (by decide) rfl (Nat.le_of_ble_eq_true rfl) rfl ?_
  intro p e s m args below meth c S hr hlk hK hP ls hl
  replace S : CallFix p m c cX0_helpOfAny 4 s args wsX0_helpOfAny RX0 := S
  have hx := S.1
  have hb := S.2.1
  refine lv_iconst (v := 0) hx hb dX0_helpOfAny_0 (by decide) ?_
  refine lv_istore_n (lv' := [(2, .int (0 : Int32)), (0, .ref a_mo), (1, .int p0)]) hx hb dX0_helpOfAny_1 rfl hl (by decide) rfl (fun ls hl => ?_)
  refine lv_iconst (v := 0) hx hb dX0_helpOfAny_2 (by decide) ?_
  refine lv_istore_n (lv' := [(3, .int (0 : Int32)), (2, .int (0 : Int32)), (0, .ref a_mo), (1, .int p0)]) hx hb dX0_helpOfAny_3 rfl hl (by decide) rfl (fun ls hl => ?_)
  obtain ⟨r8, h9, hm⟩ := ob hm
  refine t_X0_helpOfAny_4 l S hK a_mo a_mo_kinds a_mo_days a_mo_rideDays a_mo_helpKinds a_mo_nexts a_mo_helperKinds a_mo_prices a_mo_helpersOfKind a_mo_numbers p0 mo_tasks mo_helpers mo_askedFirst mo_crumbsFirst mo_lastDay mo_kinds mo_days mo_rideDays mo_helpKinds mo_nexts mo_helperKinds mo_prices mo_helpersOfKind mo_numbers hP N (0 : Int32) (0 : Int32) r8 h9  ls (lv_sub hl [2, 3, 1, 0] rfl) (fun ls hl => ?_)
  refine lv_iload_n hx hb dX0_helpOfAny_44 rfl (lv_at hl 0 rfl) ?_
  exact e_RI S hr hlk (Option.some.inj hm) dX0_helpOfAny_45

abbrev rX0_helpOfKind : Room := { frames := 1, cells := 0, slots := 0, locals := 21 }
theorem cal_X0_helpOfKind : Cal yX0_helpOfKind wsX0_helpOfKind cX0_helpOfKind 5 (some .int) RX0 2 := ⟨⟨_, rfl⟩, rfl, by decide +kernel, by decide +kernel, by decide +kernel⟩
theorem in_X0_helpOfKind_X0 : ∀ w ∈ wsX00, w ∈ wsX0_helpOfKind := fun _ h => (List.mem_cons_of_mem _ (List.mem_append_right _ h))
set_option maxHeartbeats 4000000 in
set_option maxRecDepth 100000 in
theorem t_X0_helpOfKind_5 {p : Program} {e : Env} {s : State} {m : MethodId} {args : Array Value} {below : List Frame} {meth : Method} {c : Code} {Q : State → Prop} {H : Heap} {locs : List Loc} (l : Launch) {D : va_G} {cC cI cJ : ClassId} (S : CallFix p m c cX0_helpOfKind 5 s args wsX0_helpOfKind RX0) (hK : KK D (tyK cC cI cJ) s) (a_mo : Nat) (a_mo_kinds : Nat) (a_mo_days : Nat) (a_mo_rideDays : Nat) (a_mo_helpKinds : Nat) (a_mo_nexts : Nat) (a_mo_helperKinds : Nat) (a_mo_prices : Nat) (a_mo_helpersOfKind : Nat) (a_mo_numbers : Nat) (v1 : Int32) (v2 : Int32) (mo_tasks : Int32) (mo_helpers : Int32) (mo_askedFirst : Int32) (mo_crumbsFirst : Int32) (mo_lastDay : Int32) (mo_kinds : (Nat → Int32)) (mo_days : (Nat → Int32)) (mo_rideDays : (Nat → Int32)) (mo_helpKinds : (Nat → Int32)) (mo_nexts : (Nat → Int32)) (mo_helperKinds : (Nat → Int32)) (mo_prices : (Nat → Int32)) (mo_helpersOfKind : (Nat → Int32)) (mo_numbers : (Nat → Int32)) (hP : va_P D vwCl (wd_0 cC cI cJ a_mo mo_tasks mo_helpers mo_askedFirst mo_crumbsFirst mo_lastDay a_mo_kinds a_mo_days a_mo_rideDays a_mo_helpKinds a_mo_nexts a_mo_helperKinds a_mo_prices a_mo_helpersOfKind a_mo_numbers a_mo_kinds mo_kinds a_mo_days mo_days a_mo_rideDays mo_rideDays a_mo_helpKinds mo_helpKinds a_mo_nexts mo_nexts a_mo_helperKinds mo_helperKinds a_mo_prices mo_prices a_mo_helpersOfKind mo_helpersOfKind a_mo_numbers mo_numbers) H) : ∀ (n : Nat) (v3 : Int32) (v4 : Int32) (out : Int32), lp_X0_helpOfKind_5 v1 v2 mo_tasks mo_kinds mo_helpKinds n v3 v4 = some out → ∀ (ls : Array Slot), lv_has ls 5 [(0, .ref a_mo), (1, .int v1), (2, .int v2), (3, .int v3), (4, .int v4)] → (∀ (ls : Array Slot), lv_has ls 5 [(3, .int out)] → W p l e rX0_helpOfKind s m args below meth c H locs 0 0 Q (F0 m 68 ls [])) → W p l e rX0_helpOfKind s m args below meth c H locs 0 0 Q (F0 m 5 ls []) := by
  have hx := S.1
  have hb := S.2.1
  intro n
  induction n with
  | zero => intro v3 v4 out hm; cases (show (none : Option Int32) = some out from hm)
  | succ n ih =>
    intro v3 v4 out hm  ls hl K0
    rw [lp_X0_helpOfKind_5] at hm
    refine lv_iload hx hb dX0_helpOfKind_5 (lv_at hl 4 rfl) ?_
    refine lv_aload_n hx hb dX0_helpOfKind_7 rfl (lv_at hl 0 rfl) ?_
    refine f_get S hK hP in_X0_helpOfKind_X0 0 rfl rfl 0 (by decide) (List.mem_of_getElem? (i := 1) rfl) rfl rfl dX0_helpOfKind_8 ?_
    refine lv_icmp_ge (tgt := 68) hx hb dX0_helpOfKind_11 (by decide) (fun c1 => ?_) (fun c1 => ?_)
    · replace hm := ipos hm c1
      obtain rfl := Option.some.inj hm
      exact K0  ls (lv_sub hl [3] rfl)
    · replace hm := ineg hm c1
      refine lv_iload_n hx hb dX0_helpOfKind_14 rfl (lv_at hl 1 rfl) ?_
      refine lv_iload hx hb dX0_helpOfKind_15 (lv_at hl 4 rfl) ?_
      obtain ⟨r2, h3, hm⟩ := ob hm
      refine k_rNi S hK hP cal_X5_bit gX0_helpOfKind_X5_bit_n46 (List.mem_of_getElem? (i := 3) rfl) (List.mem_of_getElem? (i := 3) rfl) (List.mem_of_getElem? (i := 2) rfl) (c_X5_bit l D cC cI cJ v4 r2 h3) ⟨⟨rfl, rfl⟩, Nat.le_of_ble_eq_true rfl, Nat.le_of_ble_eq_true rfl⟩ [] rfl rfl hl.1 rfl (Nat.le_of_ble_eq_true rfl) dX0_helpOfKind_17 ⟨Nat.zero_le _, Nat.zero_le _⟩ ?_
      refine lv_iand hx hb dX0_helpOfKind_20 ?_
      refine lv_if_eq (tgt := 62) hx hb dX0_helpOfKind_21 (by decide) (fun c4 => ?_) (fun c4 => ?_)
      · replace hm := ipos hm c4
        refine lv_iinc (v := (v4 + 1)) (lv' := [(4, .int (v4 + 1)), (0, .ref a_mo), (1, .int v1), (2, .int v2), (3, .int v3)]) hx hb dX0_helpOfKind_62 hl (k := 4) rfl (by rw [ofi_1]) (by decide) rfl (fun ls hl => ?_)
        refine lv_goto (tgt := 5) hx hb dX0_helpOfKind_65 (by decide) ?_
        exact ih v3 (v4 + 1) _ hm  ls (lv_sub hl [1, 2, 3, 4, 0] rfl) K0
      · replace hm := ineg hm c4
        refine lv_aload_n hx hb dX0_helpOfKind_24 rfl (lv_at hl 0 rfl) ?_
        refine lv_iload hx hb dX0_helpOfKind_25 (lv_at hl 4 rfl) ?_
        obtain ⟨r5, h6, hm⟩ := ob hm
        refine k_rVi S hK hP cal_X0_helpKindOf gX0_helpOfKind_X0_helpKindOf (c_X0_helpKindOf l D cC cI cJ a_mo a_mo_kinds a_mo_days a_mo_rideDays a_mo_helpKinds a_mo_nexts a_mo_helperKinds a_mo_prices a_mo_helpersOfKind a_mo_numbers mo_tasks mo_helpers mo_askedFirst mo_crumbsFirst mo_lastDay mo_kinds mo_days mo_rideDays mo_helpKinds mo_nexts mo_helperKinds mo_prices mo_helpersOfKind mo_numbers v4 r5 h6) ⟨⟨rfl, rfl⟩, Nat.le_of_ble_eq_true rfl, Nat.le_of_ble_eq_true rfl⟩ [0, 1, 2, 3, 4, 5, 6, 7, 8, 9] rfl 0 rfl rfl rfl hl.1 rfl (Nat.le_of_ble_eq_true rfl) dX0_helpOfKind_27 ⟨Nat.zero_le _, Nat.zero_le _⟩ ?_
        refine lv_iload_n hx hb dX0_helpOfKind_30 rfl (lv_at hl 2 rfl) ?_
        refine lv_icmp_ne (tgt := 62) hx hb dX0_helpOfKind_31 (by decide) (fun c7 => ?_) (fun c7 => ?_)
        · replace hm := ineg hm c7
          refine lv_iinc (v := (v4 + 1)) (lv' := [(4, .int (v4 + 1)), (0, .ref a_mo), (1, .int v1), (2, .int v2), (3, .int v3)]) hx hb dX0_helpOfKind_62 hl (k := 4) rfl (by rw [ofi_1]) (by decide) rfl (fun ls hl => ?_)
          refine lv_goto (tgt := 5) hx hb dX0_helpOfKind_65 (by decide) ?_
          exact ih v3 (v4 + 1) _ hm  ls (lv_sub hl [1, 2, 3, 4, 0] rfl) K0
        · replace hm := ipos hm c7
          refine lv_aload_n hx hb dX0_helpOfKind_34 rfl (lv_at hl 0 rfl) ?_
          refine lv_iload hx hb dX0_helpOfKind_35 (lv_at hl 4 rfl) ?_
          obtain ⟨r8, h9, hm⟩ := ob hm
          refine k_rVi S hK hP cal_X0_kindOf gX0_helpOfKind_X0_kindOf (c_X0_kindOf l D cC cI cJ a_mo a_mo_kinds a_mo_days a_mo_rideDays a_mo_helpKinds a_mo_nexts a_mo_helperKinds a_mo_prices a_mo_helpersOfKind a_mo_numbers mo_tasks mo_helpers mo_askedFirst mo_crumbsFirst mo_lastDay mo_kinds mo_days mo_rideDays mo_helpKinds mo_nexts mo_helperKinds mo_prices mo_helpersOfKind mo_numbers v4 r8 h9) ⟨⟨rfl, rfl⟩, Nat.le_of_ble_eq_true rfl, Nat.le_of_ble_eq_true rfl⟩ [0, 1, 2, 3, 4, 5, 6, 7, 8, 9] rfl 0 rfl rfl rfl hl.1 rfl (Nat.le_of_ble_eq_true rfl) dX0_helpOfKind_37 ⟨Nat.zero_le _, Nat.zero_le _⟩ ?_
          refine lv_iconst (v := 2) hx hb dX0_helpOfKind_40 (by decide) ?_
          refine lv_icmp_eq (tgt := 62) hx hb dX0_helpOfKind_41 (by decide) (fun c10 => ?_) (fun c10 => ?_)
          · replace hm := ipos hm c10
            refine lv_iinc (v := (v4 + 1)) (lv' := [(4, .int (v4 + 1)), (0, .ref a_mo), (1, .int v1), (2, .int v2), (3, .int v3)]) hx hb dX0_helpOfKind_62 hl (k := 4) rfl (by rw [ofi_1]) (by decide) rfl (fun ls hl => ?_)
            refine lv_goto (tgt := 5) hx hb dX0_helpOfKind_65 (by decide) ?_
            exact ih v3 (v4 + 1) _ hm  ls (lv_sub hl [1, 2, 3, 4, 0] rfl) K0
          · replace hm := ineg hm c10
            refine lv_iload_n hx hb dX0_helpOfKind_44 rfl (lv_at hl 3 rfl) ?_
            refine lv_aload_n hx hb dX0_helpOfKind_45 rfl (lv_at hl 0 rfl) ?_
            refine lv_iload hx hb dX0_helpOfKind_46 (lv_at hl 4 rfl) ?_
            obtain ⟨r11, h12, hm⟩ := ob hm
            refine k_rVi S hK hP cal_X0_kindOf gX0_helpOfKind_X0_kindOf (c_X0_kindOf l D cC cI cJ a_mo a_mo_kinds a_mo_days a_mo_rideDays a_mo_helpKinds a_mo_nexts a_mo_helperKinds a_mo_prices a_mo_helpersOfKind a_mo_numbers mo_tasks mo_helpers mo_askedFirst mo_crumbsFirst mo_lastDay mo_kinds mo_days mo_rideDays mo_helpKinds mo_nexts mo_helperKinds mo_prices mo_helpersOfKind mo_numbers v4 r11 h12) ⟨⟨rfl, rfl⟩, Nat.le_of_ble_eq_true rfl, Nat.le_of_ble_eq_true rfl⟩ [0, 1, 2, 3, 4, 5, 6, 7, 8, 9] rfl 0 rfl rfl rfl hl.1 rfl (Nat.le_of_ble_eq_true rfl) dX0_helpOfKind_48 ⟨Nat.zero_le _, Nat.zero_le _⟩ ?_
            refine lv_iconst (v := 1) hx hb dX0_helpOfKind_51 (by decide) ?_
            refine lv_icmp_ne (tgt := 59) hx hb dX0_helpOfKind_52 (by decide) (fun c13 => ?_) (fun c13 => ?_)
            · replace hm := ineg hm c13
              refine lv_iconst (v := 1) hx hb dX0_helpOfKind_59 (by decide) ?_
              refine lv_iadd hx hb dX0_helpOfKind_60 ?_
              refine lv_istore_n (lv' := [(3, .int (v3 + (1 : Int32))), (0, .ref a_mo), (1, .int v1), (2, .int v2), (4, .int v4)]) hx hb dX0_helpOfKind_61 rfl hl (by decide) rfl (fun ls hl => ?_)
              refine lv_iinc (v := (v4 + 1)) (lv' := [(4, .int (v4 + 1)), (3, .int (v3 + (1 : Int32))), (0, .ref a_mo), (1, .int v1), (2, .int v2)]) hx hb dX0_helpOfKind_62 hl (k := 4) rfl (by rw [ofi_1]) (by decide) rfl (fun ls hl => ?_)
              refine lv_goto (tgt := 5) hx hb dX0_helpOfKind_65 (by decide) ?_
              exact ih (v3 + (1 : Int32)) (v4 + 1) _ hm  ls (lv_sub hl [2, 3, 4, 1, 0] rfl) K0
            · replace hm := ipos hm c13
              refine lv_iconst (v := 2) hx hb dX0_helpOfKind_55 (by decide) ?_
              refine lv_goto (tgt := 60) hx hb dX0_helpOfKind_56 (by decide) ?_
              refine lv_iadd hx hb dX0_helpOfKind_60 ?_
              refine lv_istore_n (lv' := [(3, .int (v3 + (2 : Int32))), (0, .ref a_mo), (1, .int v1), (2, .int v2), (4, .int v4)]) hx hb dX0_helpOfKind_61 rfl hl (by decide) rfl (fun ls hl => ?_)
              refine lv_iinc (v := (v4 + 1)) (lv' := [(4, .int (v4 + 1)), (3, .int (v3 + (2 : Int32))), (0, .ref a_mo), (1, .int v1), (2, .int v2)]) hx hb dX0_helpOfKind_62 hl (k := 4) rfl (by rw [ofi_1]) (by decide) rfl (fun ls hl => ?_)
              refine lv_goto (tgt := 5) hx hb dX0_helpOfKind_65 (by decide) ?_
              exact ih (v3 + (2 : Int32)) (v4 + 1) _ hm  ls (lv_sub hl [2, 3, 4, 1, 0] rfl) K0
set_option maxHeartbeats 4000000 in
set_option maxRecDepth 100000 in
theorem c_X0_helpOfKind (l : Launch) (D : va_G) (cC cI cJ : ClassId) (a_mo : Nat) (a_mo_kinds : Nat) (a_mo_days : Nat) (a_mo_rideDays : Nat) (a_mo_helpKinds : Nat) (a_mo_nexts : Nat) (a_mo_helperKinds : Nat) (a_mo_prices : Nat) (a_mo_helpersOfKind : Nat) (a_mo_numbers : Nat) (mo_tasks : Int32) (mo_helpers : Int32) (mo_askedFirst : Int32) (mo_crumbsFirst : Int32) (mo_lastDay : Int32) (mo_kinds : (Nat → Int32)) (mo_days : (Nat → Int32)) (mo_rideDays : (Nat → Int32)) (mo_helpKinds : (Nat → Int32)) (mo_nexts : (Nat → Int32)) (mo_helperKinds : (Nat → Int32)) (mo_prices : (Nat → Int32)) (mo_helpersOfKind : (Nat → Int32)) (mo_numbers : (Nat → Int32)) (p0 : Int32) (p1 : Int32) (N : Nat) (out : Int32) (hm : m_X0_helpOfKind N mo_tasks mo_kinds mo_helpKinds p0 p1 = some out) : RdI l yX0_helpOfKind wsX0_helpOfKind rX0_helpOfKind D (tyK cC cI cJ) [.ref a_mo, .int p0, .int p1] (wd_0 cC cI cJ a_mo mo_tasks mo_helpers mo_askedFirst mo_crumbsFirst mo_lastDay a_mo_kinds a_mo_days a_mo_rideDays a_mo_helpKinds a_mo_nexts a_mo_helperKinds a_mo_prices a_mo_helpersOfKind a_mo_numbers a_mo_kinds mo_kinds a_mo_days mo_days a_mo_rideDays mo_rideDays a_mo_helpKinds mo_helpKinds a_mo_nexts mo_nexts a_mo_helperKinds mo_helperKinds a_mo_prices mo_prices a_mo_helpersOfKind mo_helpersOfKind a_mo_numbers mo_numbers) out := by
  unfold m_X0_helpOfKind at hm
  refine enter (cc := cX0_helpOfKind) (maxL := 5) (ret := (some .int)) (lv := [(0, .ref a_mo), (1, .int p0), (2, .int p1)]) (by decide) rfl (Nat.le_of_ble_eq_true rfl) rfl ?_
  intro p e s m args below meth c S hr hlk hK hP ls hl
  replace S : CallFix p m c cX0_helpOfKind 5 s args wsX0_helpOfKind RX0 := S
  have hx := S.1
  have hb := S.2.1
  refine lv_iconst (v := 0) hx hb dX0_helpOfKind_0 (by decide) ?_
  refine lv_istore_n (lv' := [(3, .int (0 : Int32)), (0, .ref a_mo), (1, .int p0), (2, .int p1)]) hx hb dX0_helpOfKind_1 rfl hl (by decide) rfl (fun ls hl => ?_)
  refine lv_iconst (v := 0) hx hb dX0_helpOfKind_2 (by decide) ?_
  refine lv_istore (lv' := [(4, .int (0 : Int32)), (3, .int (0 : Int32)), (0, .ref a_mo), (1, .int p0), (2, .int p1)]) hx hb dX0_helpOfKind_3 hl (by decide) rfl (fun ls hl => ?_)
  obtain ⟨r14, h15, hm⟩ := ob hm
  refine t_X0_helpOfKind_5 l S hK a_mo a_mo_kinds a_mo_days a_mo_rideDays a_mo_helpKinds a_mo_nexts a_mo_helperKinds a_mo_prices a_mo_helpersOfKind a_mo_numbers p0 p1 mo_tasks mo_helpers mo_askedFirst mo_crumbsFirst mo_lastDay mo_kinds mo_days mo_rideDays mo_helpKinds mo_nexts mo_helperKinds mo_prices mo_helpersOfKind mo_numbers hP N (0 : Int32) (0 : Int32) r14 h15  ls (lv_sub hl [2, 3, 4, 1, 0] rfl) (fun ls hl => ?_)
  refine lv_iload_n hx hb dX0_helpOfKind_68 rfl (lv_at hl 0 rfl) ?_
  exact e_RI S hr hlk (Option.some.inj hm) dX0_helpOfKind_69

abbrev rX0_helperKindOf : Room := { frames := 0, cells := 0, slots := 0, locals := 0 }
theorem cal_X0_helperKindOf : Cal yX0_helperKindOf wsX0_helperKindOf cX0_helperKindOf 2 (some .int) RX0 1 := ⟨⟨_, rfl⟩, rfl, by decide +kernel, by decide +kernel, by decide +kernel⟩
theorem in_X0_helperKindOf_X0 : ∀ w ∈ wsX00, w ∈ wsX0_helperKindOf := fun _ h => (List.mem_cons_of_mem _ (List.mem_append_right _ h))
set_option maxHeartbeats 4000000 in
set_option maxRecDepth 100000 in
theorem c_X0_helperKindOf (l : Launch) (D : va_G) (cC cI cJ : ClassId) (a_mo : Nat) (a_mo_kinds : Nat) (a_mo_days : Nat) (a_mo_rideDays : Nat) (a_mo_helpKinds : Nat) (a_mo_nexts : Nat) (a_mo_helperKinds : Nat) (a_mo_prices : Nat) (a_mo_helpersOfKind : Nat) (a_mo_numbers : Nat) (mo_tasks : Int32) (mo_helpers : Int32) (mo_askedFirst : Int32) (mo_crumbsFirst : Int32) (mo_lastDay : Int32) (mo_kinds : (Nat → Int32)) (mo_days : (Nat → Int32)) (mo_rideDays : (Nat → Int32)) (mo_helpKinds : (Nat → Int32)) (mo_nexts : (Nat → Int32)) (mo_helperKinds : (Nat → Int32)) (mo_prices : (Nat → Int32)) (mo_helpersOfKind : (Nat → Int32)) (mo_numbers : (Nat → Int32)) (p0 : Int32) (out : Int32) (hm : m_X0_helperKindOf mo_helperKinds p0 = some out) : RdI l yX0_helperKindOf wsX0_helperKindOf rX0_helperKindOf D (tyK cC cI cJ) [.ref a_mo, .int p0] (wd_0 cC cI cJ a_mo mo_tasks mo_helpers mo_askedFirst mo_crumbsFirst mo_lastDay a_mo_kinds a_mo_days a_mo_rideDays a_mo_helpKinds a_mo_nexts a_mo_helperKinds a_mo_prices a_mo_helpersOfKind a_mo_numbers a_mo_kinds mo_kinds a_mo_days mo_days a_mo_rideDays mo_rideDays a_mo_helpKinds mo_helpKinds a_mo_nexts mo_nexts a_mo_helperKinds mo_helperKinds a_mo_prices mo_prices a_mo_helpersOfKind mo_helpersOfKind a_mo_numbers mo_numbers) out := by
  unfold m_X0_helperKindOf at hm
  refine enter (cc := cX0_helperKindOf) (maxL := 2) (ret := (some .int)) (lv := [(0, .ref a_mo), (1, .int p0)]) (by decide) rfl (Nat.le_of_ble_eq_true rfl) rfl ?_
  intro p e s m args below meth c S hr hlk hK hP ls hl
  replace S : CallFix p m c cX0_helperKindOf 2 s args wsX0_helperKindOf RX0 := S
  have hx := S.1
  have hb := S.2.1
  refine lv_iload_n hx hb dX0_helperKindOf_0 rfl (lv_at hl 1 rfl) ?_
  refine lv_if_lt (tgt := 22) hx hb dX0_helperKindOf_1 (by decide) (fun c1 => ?_) (fun c1 => ?_)
  · replace hm := ipos hm c1
    refine lv_iconst (v := 0) hx hb dX0_helperKindOf_22 (by decide) ?_
    exact e_RI S hr hlk (Option.some.inj hm) dX0_helperKindOf_23
  · replace hm := ineg hm c1
    refine lv_iload_n hx hb dX0_helperKindOf_4 rfl (lv_at hl 1 rfl) ?_
    refine lv_aload_n hx hb dX0_helperKindOf_5 rfl (lv_at hl 0 rfl) ?_
    refine f_get S hK hP in_X0_helperKindOf_X0 0 rfl rfl 10 (by decide) (List.mem_of_getElem? (i := 1) rfl) rfl rfl dX0_helperKindOf_6 ?_
    refine f_alen S hK hP 6 1 rfl rfl (v := (7 : Int32)) rfl dX0_helperKindOf_9 ?_
    refine lv_icmp_ge (tgt := 22) hx hb dX0_helperKindOf_10 (by decide) (fun c2 => ?_) (fun c2 => ?_)
    · replace hm := ipos hm c2
      refine lv_iconst (v := 0) hx hb dX0_helperKindOf_22 (by decide) ?_
      exact e_RI S hr hlk (Option.some.inj hm) dX0_helperKindOf_23
    · replace hm := ineg hm c2
      refine lv_aload_n hx hb dX0_helperKindOf_13 rfl (lv_at hl 0 rfl) ?_
      refine f_get S hK hP in_X0_helperKindOf_X0 0 rfl rfl 10 (by decide) (List.mem_of_getElem? (i := 1) rfl) rfl rfl dX0_helperKindOf_14 ?_
      refine lv_iload_n hx hb dX0_helperKindOf_17 rfl (lv_at hl 1 rfl) ?_
      obtain ⟨g3, hm⟩ := gdo hm
      refine f_iald S hK hP 6 1 rfl rfl g3 dX0_helperKindOf_18 ?_
      refine lv_goto (tgt := 23) hx hb dX0_helperKindOf_19 (by decide) ?_
      exact e_RI S hr hlk (Option.some.inj hm) dX0_helperKindOf_23

abbrev rX0_helpersOf : Room := { frames := 0, cells := 0, slots := 0, locals := 0 }
theorem cal_X0_helpersOf : Cal yX0_helpersOf wsX0_helpersOf cX0_helpersOf 2 (some .int) RX0 1 := ⟨⟨_, rfl⟩, rfl, by decide +kernel, by decide +kernel, by decide +kernel⟩
theorem in_X0_helpersOf_X0 : ∀ w ∈ wsX00, w ∈ wsX0_helpersOf := fun _ h => (List.mem_cons_of_mem _ (List.mem_append_right _ h))
set_option maxHeartbeats 4000000 in
set_option maxRecDepth 100000 in
theorem c_X0_helpersOf (l : Launch) (D : va_G) (cC cI cJ : ClassId) (a_mo : Nat) (a_mo_kinds : Nat) (a_mo_days : Nat) (a_mo_rideDays : Nat) (a_mo_helpKinds : Nat) (a_mo_nexts : Nat) (a_mo_helperKinds : Nat) (a_mo_prices : Nat) (a_mo_helpersOfKind : Nat) (a_mo_numbers : Nat) (mo_tasks : Int32) (mo_helpers : Int32) (mo_askedFirst : Int32) (mo_crumbsFirst : Int32) (mo_lastDay : Int32) (mo_kinds : (Nat → Int32)) (mo_days : (Nat → Int32)) (mo_rideDays : (Nat → Int32)) (mo_helpKinds : (Nat → Int32)) (mo_nexts : (Nat → Int32)) (mo_helperKinds : (Nat → Int32)) (mo_prices : (Nat → Int32)) (mo_helpersOfKind : (Nat → Int32)) (mo_numbers : (Nat → Int32)) (p0 : Int32) (out : Int32) (hm : m_X0_helpersOf mo_helpersOfKind p0 = some out) : RdI l yX0_helpersOf wsX0_helpersOf rX0_helpersOf D (tyK cC cI cJ) [.ref a_mo, .int p0] (wd_0 cC cI cJ a_mo mo_tasks mo_helpers mo_askedFirst mo_crumbsFirst mo_lastDay a_mo_kinds a_mo_days a_mo_rideDays a_mo_helpKinds a_mo_nexts a_mo_helperKinds a_mo_prices a_mo_helpersOfKind a_mo_numbers a_mo_kinds mo_kinds a_mo_days mo_days a_mo_rideDays mo_rideDays a_mo_helpKinds mo_helpKinds a_mo_nexts mo_nexts a_mo_helperKinds mo_helperKinds a_mo_prices mo_prices a_mo_helpersOfKind mo_helpersOfKind a_mo_numbers mo_numbers) out := by
  unfold m_X0_helpersOf at hm
  refine enter (cc := cX0_helpersOf) (maxL := 2) (ret := (some .int)) (lv := [(0, .ref a_mo), (1, .int p0)]) (by decide) rfl (Nat.le_of_ble_eq_true rfl) rfl ?_
  intro p e s m args below meth c S hr hlk hK hP ls hl
  replace S : CallFix p m c cX0_helpersOf 2 s args wsX0_helpersOf RX0 := S
  have hx := S.1
  have hb := S.2.1
  refine lv_iload_n hx hb dX0_helpersOf_0 rfl (lv_at hl 1 rfl) ?_
  refine lv_if_lt (tgt := 22) hx hb dX0_helpersOf_1 (by decide) (fun c1 => ?_) (fun c1 => ?_)
  · replace hm := ipos hm c1
    refine lv_iconst (v := 0) hx hb dX0_helpersOf_22 (by decide) ?_
    exact e_RI S hr hlk (Option.some.inj hm) dX0_helpersOf_23
  · replace hm := ineg hm c1
    refine lv_iload_n hx hb dX0_helpersOf_4 rfl (lv_at hl 1 rfl) ?_
    refine lv_aload_n hx hb dX0_helpersOf_5 rfl (lv_at hl 0 rfl) ?_
    refine f_get S hK hP in_X0_helpersOf_X0 0 rfl rfl 12 (by decide) (List.mem_of_getElem? (i := 1) rfl) rfl rfl dX0_helpersOf_6 ?_
    refine f_alen S hK hP 8 1 rfl rfl (v := (5 : Int32)) rfl dX0_helpersOf_9 ?_
    refine lv_icmp_ge (tgt := 22) hx hb dX0_helpersOf_10 (by decide) (fun c2 => ?_) (fun c2 => ?_)
    · replace hm := ipos hm c2
      refine lv_iconst (v := 0) hx hb dX0_helpersOf_22 (by decide) ?_
      exact e_RI S hr hlk (Option.some.inj hm) dX0_helpersOf_23
    · replace hm := ineg hm c2
      refine lv_aload_n hx hb dX0_helpersOf_13 rfl (lv_at hl 0 rfl) ?_
      refine f_get S hK hP in_X0_helpersOf_X0 0 rfl rfl 12 (by decide) (List.mem_of_getElem? (i := 1) rfl) rfl rfl dX0_helpersOf_14 ?_
      refine lv_iload_n hx hb dX0_helpersOf_17 rfl (lv_at hl 1 rfl) ?_
      obtain ⟨g3, hm⟩ := gdo hm
      refine f_iald S hK hP 8 1 rfl rfl g3 dX0_helpersOf_18 ?_
      refine lv_goto (tgt := 23) hx hb dX0_helpersOf_19 (by decide) ?_
      exact e_RI S hr hlk (Option.some.inj hm) dX0_helpersOf_23

abbrev rJ6_bitCount_0f7a4 : Room := { frames := 0, cells := 0, slots := 0, locals := 0 }
theorem cal_J6_bitCount_0f7a4 : Cal yJ6_bitCount_0f7a4 wsJ6_bitCount_0f7a4 cJ6_bitCount_0f7a4 1 (some .int) RJ6 1 := ⟨⟨_, rfl⟩, rfl, by decide +kernel, by decide +kernel, by decide +kernel⟩
set_option maxHeartbeats 4000000 in
set_option maxRecDepth 100000 in
theorem c_J6_bitCount_0f7a4 (l : Launch) (D : va_G) (cC cI cJ : ClassId)  (p0 : Int32) (out : Int32) (hm : m_J6_bitCount_0f7a4 p0 = some out) : RdI l yJ6_bitCount_0f7a4 wsJ6_bitCount_0f7a4 rJ6_bitCount_0f7a4 D (tyK cC cI cJ) [.int p0] [] out := by
  unfold m_J6_bitCount_0f7a4 at hm
  refine enter (cc := cJ6_bitCount_0f7a4) (maxL := 1) (ret := (some .int)) (lv := [(0, .int p0)]) (by decide) rfl (Nat.le_of_ble_eq_true rfl) rfl ?_
  intro p e s m args below meth c S hr hlk hK hP ls hl
  replace S : CallFix p m c cJ6_bitCount_0f7a4 1 s args wsJ6_bitCount_0f7a4 RJ6 := S
  have hx := S.1
  have hb := S.2.1
  refine lv_iload_n hx hb dJ6_bitCount_0f7a4_0 rfl (lv_at hl 0 rfl) ?_
  refine lv_iload_n hx hb dJ6_bitCount_0f7a4_1 rfl (lv_at hl 0 rfl) ?_
  refine lv_iconst (v := 1) hx hb dJ6_bitCount_0f7a4_2 (by decide) ?_
  refine lv_iushr (v := ((p0).toUInt32 >>> (((1 : Int32)).toUInt32 &&& Int32.toUInt32 31)).toInt32) hx hb dJ6_bitCount_0f7a4_3 rfl ?_
  refine lv_ldcw hx hb S.2.2.2.1 (S.2.2.2.2 (.constant RJ6 265 (1431655765)) (List.mem_of_getElem? (i := 1) rfl)) dJ6_bitCount_0f7a4_4 ?_
  refine lv_iand hx hb dJ6_bitCount_0f7a4_7 ?_
  refine lv_isub hx hb dJ6_bitCount_0f7a4_8 ?_
  obtain ⟨y1, e2, hm⟩ := ob hm
  refine f_name e2 ?_
  refine lv_istore_n (lv' := [(0, .int y1)]) hx hb dJ6_bitCount_0f7a4_9 rfl hl (by decide) rfl (fun ls hl => ?_)
  refine lv_iload_n hx hb dJ6_bitCount_0f7a4_10 rfl (lv_at hl 0 rfl) ?_
  refine lv_ldcw hx hb S.2.2.2.1 (S.2.2.2.2 (.constant RJ6 266 (858993459)) (List.mem_of_getElem? (i := 2) rfl)) dJ6_bitCount_0f7a4_11 ?_
  refine lv_iand hx hb dJ6_bitCount_0f7a4_14 ?_
  refine lv_iload_n hx hb dJ6_bitCount_0f7a4_15 rfl (lv_at hl 0 rfl) ?_
  refine lv_iconst (v := 2) hx hb dJ6_bitCount_0f7a4_16 (by decide) ?_
  refine lv_iushr (v := ((y1).toUInt32 >>> (((2 : Int32)).toUInt32 &&& Int32.toUInt32 31)).toInt32) hx hb dJ6_bitCount_0f7a4_17 rfl ?_
  refine lv_ldcw hx hb S.2.2.2.1 (S.2.2.2.2 (.constant RJ6 266 (858993459)) (List.mem_of_getElem? (i := 2) rfl)) dJ6_bitCount_0f7a4_18 ?_
  refine lv_iand hx hb dJ6_bitCount_0f7a4_21 ?_
  refine lv_iadd hx hb dJ6_bitCount_0f7a4_22 ?_
  obtain ⟨y3, e4, hm⟩ := ob hm
  refine f_name e4 ?_
  refine lv_istore_n (lv' := [(0, .int y3)]) hx hb dJ6_bitCount_0f7a4_23 rfl hl (by decide) rfl (fun ls hl => ?_)
  refine lv_iload_n hx hb dJ6_bitCount_0f7a4_24 rfl (lv_at hl 0 rfl) ?_
  refine lv_iload_n hx hb dJ6_bitCount_0f7a4_25 rfl (lv_at hl 0 rfl) ?_
  refine lv_iconst (v := 4) hx hb dJ6_bitCount_0f7a4_26 (by decide) ?_
  refine lv_iushr (v := ((y3).toUInt32 >>> (((4 : Int32)).toUInt32 &&& Int32.toUInt32 31)).toInt32) hx hb dJ6_bitCount_0f7a4_27 rfl ?_
  refine lv_iadd hx hb dJ6_bitCount_0f7a4_28 ?_
  refine lv_ldcw hx hb S.2.2.2.1 (S.2.2.2.2 (.constant RJ6 267 (252645135)) (List.mem_of_getElem? (i := 3) rfl)) dJ6_bitCount_0f7a4_29 ?_
  refine lv_iand hx hb dJ6_bitCount_0f7a4_32 ?_
  obtain ⟨y5, e6, hm⟩ := ob hm
  refine f_name e6 ?_
  refine lv_istore_n (lv' := [(0, .int y5)]) hx hb dJ6_bitCount_0f7a4_33 rfl hl (by decide) rfl (fun ls hl => ?_)
  refine lv_iload_n hx hb dJ6_bitCount_0f7a4_34 rfl (lv_at hl 0 rfl) ?_
  refine lv_iload_n hx hb dJ6_bitCount_0f7a4_35 rfl (lv_at hl 0 rfl) ?_
  refine lv_bipush (v := 8) hx hb dJ6_bitCount_0f7a4_36 (by decide) ?_
  refine lv_iushr (v := ((y5).toUInt32 >>> (((8 : Int32)).toUInt32 &&& Int32.toUInt32 31)).toInt32) hx hb dJ6_bitCount_0f7a4_38 rfl ?_
  refine lv_iadd hx hb dJ6_bitCount_0f7a4_39 ?_
  obtain ⟨y7, e8, hm⟩ := ob hm
  refine f_name e8 ?_
  refine lv_istore_n (lv' := [(0, .int y7)]) hx hb dJ6_bitCount_0f7a4_40 rfl hl (by decide) rfl (fun ls hl => ?_)
  refine lv_iload_n hx hb dJ6_bitCount_0f7a4_41 rfl (lv_at hl 0 rfl) ?_
  refine lv_iload_n hx hb dJ6_bitCount_0f7a4_42 rfl (lv_at hl 0 rfl) ?_
  refine lv_bipush (v := 16) hx hb dJ6_bitCount_0f7a4_43 (by decide) ?_
  refine lv_iushr (v := ((y7).toUInt32 >>> (((16 : Int32)).toUInt32 &&& Int32.toUInt32 31)).toInt32) hx hb dJ6_bitCount_0f7a4_45 rfl ?_
  refine lv_iadd hx hb dJ6_bitCount_0f7a4_46 ?_
  obtain ⟨y9, e10, hm⟩ := ob hm
  refine f_name e10 ?_
  refine lv_istore_n (lv' := [(0, .int y9)]) hx hb dJ6_bitCount_0f7a4_47 rfl hl (by decide) rfl (fun ls hl => ?_)
  refine lv_iload_n hx hb dJ6_bitCount_0f7a4_48 rfl (lv_at hl 0 rfl) ?_
  refine lv_bipush (v := 63) hx hb dJ6_bitCount_0f7a4_49 (by decide) ?_
  refine lv_iand hx hb dJ6_bitCount_0f7a4_51 ?_
  exact e_RI S hr hlk (Option.some.inj hm) dJ6_bitCount_0f7a4_52
