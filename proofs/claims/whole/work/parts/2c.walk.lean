/-! walks: X0_readItem X0_readFrom X0_rideDaysOf X0_rideDaysOfSet X0_tasksThatAsk X1_clear X1_dropLowest X1_put X1_takeLatest X3_add X3_clear X3_isWithin X3_leaves -/
abbrev rX0_readItem : Room := { frames := 3, cells := 0, slots := 0, locals := 68 }
theorem cal_X0_readItem : Cal yX0_readItem wsX0_readItem cX0_readItem 9 (some .int) RX0 3 := ⟨⟨_, rfl⟩, rfl, by decide +kernel, by decide +kernel, by decide +kernel⟩
theorem in_X0_readItem_X0 : ∀ w ∈ wsX00, w ∈ wsX0_readItem := fun _ h => (List.mem_cons_of_mem _ (List.mem_append_right _ h))
set_option maxHeartbeats 4000000 in
set_option maxRecDepth 100000 in
theorem t_X0_readItem_23 {p : Program} {e : Env} {s : State} {m : MethodId} {args : Array Value} {below : List Frame} {meth : Method} {c : Code} {Q : State → Prop} (l : Launch) {D : va_G} {cC cI cJ : ClassId} {A : Nat → Prop} {H0 : Heap} (S : CallFix p m c cX0_readItem 9 s args wsX0_readItem RX0) (hK : KK D (tyK cC cI cJ) s) (a_mo : Nat) (a_mo_kinds : Nat) (a_mo_days : Nat) (a_mo_rideDays : Nat) (a_mo_helpKinds : Nat) (a_mo_nexts : Nat) (a_mo_helperKinds : Nat) (a_mo_prices : Nat) (a_mo_helpersOfKind : Nat) (a_mo_numbers : Nat) (a_tx : Nat) (v2 : Int32) (v4 : Int32) (v5 : Int32) (mo_tasks : Int32) (mo_helpers : Int32) (mo_askedFirst : Int32) (mo_crumbsFirst : Int32) (mo_lastDay : Int32) (mo_kinds : (Nat → Int32)) (mo_days : (Nat → Int32)) (mo_rideDays : (Nat → Int32)) (mo_helpKinds : (Nat → Int32)) (mo_nexts : (Nat → Int32)) (mo_helperKinds : (Nat → Int32)) (mo_prices : (Nat → Int32)) (mo_helpersOfKind : (Nat → Int32)) (tx_len : Nat) (tx : (Nat → Int32)) : ∀ (n : Nat) (v6 : Int32) (v7 : Int32) (mo_numbers : (Nat → Int32)) (out : ((Int32 × (Nat → Int32)) ⊕ ((Nat → Int32) ⊕ (Nat → Int32)))), lp_X0_readItem_23 v2 v5 tx_len tx n v6 v7 mo_numbers = some out → ∀ (H : Heap) (locs : List Loc) (ls : Array Slot), Wd D A H0 (wd_3 cC cI cJ a_mo mo_tasks mo_helpers mo_askedFirst mo_crumbsFirst mo_lastDay a_mo_kinds a_mo_days a_mo_rideDays a_mo_helpKinds a_mo_nexts a_mo_helperKinds a_mo_prices a_mo_helpersOfKind a_mo_numbers a_mo_kinds mo_kinds a_mo_days mo_days a_mo_rideDays mo_rideDays a_mo_helpKinds mo_helpKinds a_mo_nexts mo_nexts a_mo_helperKinds mo_helperKinds a_mo_prices mo_prices a_mo_helpersOfKind mo_helpersOfKind a_mo_numbers mo_numbers a_tx tx_len tx) H locs → lv_has ls 9 [(0, .ref a_mo), (1, .ref a_tx), (2, .int v2), (4, .int v4), (5, .int v5), (6, .int v6), (7, .int v7)] → (∀ (u : (Int32 × (Nat → Int32))), out = (Sum.inl u) → ∀ (H : Heap) (locs : List Loc) (ls : Array Slot), Wd D A H0 (wd_3 cC cI cJ a_mo mo_tasks mo_helpers mo_askedFirst mo_crumbsFirst mo_lastDay a_mo_kinds a_mo_days a_mo_rideDays a_mo_helpKinds a_mo_nexts a_mo_helperKinds a_mo_prices a_mo_helpersOfKind a_mo_numbers a_mo_kinds mo_kinds a_mo_days mo_days a_mo_rideDays mo_rideDays a_mo_helpKinds mo_helpKinds a_mo_nexts mo_nexts a_mo_helperKinds mo_helperKinds a_mo_prices mo_prices a_mo_helpersOfKind mo_helpersOfKind a_mo_numbers u.2 a_tx tx_len tx) H locs → lv_has ls 9 [(0, .ref a_mo), (4, .int v4), (6, .int u.1)] → W p l e rX0_readItem s m args below meth c H locs 0 0 Q (F0 m 111 ls [])) → (∀ (u : (Nat → Int32)), out = (Sum.inr (Sum.inl u)) → ∀ (H : Heap) (locs : List Loc) (ls : Array Slot), Wd D A H0 (wd_3 cC cI cJ a_mo mo_tasks mo_helpers mo_askedFirst mo_crumbsFirst mo_lastDay a_mo_kinds a_mo_days a_mo_rideDays a_mo_helpKinds a_mo_nexts a_mo_helperKinds a_mo_prices a_mo_helpersOfKind a_mo_numbers a_mo_kinds mo_kinds a_mo_days mo_days a_mo_rideDays mo_rideDays a_mo_helpKinds mo_helpKinds a_mo_nexts mo_nexts a_mo_helperKinds mo_helperKinds a_mo_prices mo_prices a_mo_helpersOfKind mo_helpersOfKind a_mo_numbers u a_tx tx_len tx) H locs → lv_has ls 9 [] → W p l e rX0_readItem s m args below meth c H locs 0 0 Q (F0 m 99 ls [])) → (∀ (u : (Nat → Int32)), out = (Sum.inr (Sum.inr u)) → ∀ (H : Heap) (locs : List Loc) (ls : Array Slot), Wd D A H0 (wd_3 cC cI cJ a_mo mo_tasks mo_helpers mo_askedFirst mo_crumbsFirst mo_lastDay a_mo_kinds a_mo_days a_mo_rideDays a_mo_helpKinds a_mo_nexts a_mo_helperKinds a_mo_prices a_mo_helpersOfKind a_mo_numbers a_mo_kinds mo_kinds a_mo_days mo_days a_mo_rideDays mo_rideDays a_mo_helpKinds mo_helpKinds a_mo_nexts mo_nexts a_mo_helperKinds mo_helperKinds a_mo_prices mo_prices a_mo_helpersOfKind mo_helpersOfKind a_mo_numbers u a_tx tx_len tx) H locs → lv_has ls 9 [] → W p l e rX0_readItem s m args below meth c H locs 0 0 Q (F0 m 45 ls [])) → W p l e rX0_readItem s m args below meth c H locs 0 0 Q (F0 m 23 ls []) := by
  have hx := S.1
  have hb := S.2.1
  intro n
  induction n with
  | zero => intro v6 v7 mo_numbers out hm; cases (show (none : Option ((Int32 × (Nat → Int32)) ⊕ ((Nat → Int32) ⊕ (Nat → Int32)))) = some out from hm)
  | succ n ih =>
    intro v6 v7 mo_numbers out hm  H locs ls hw hl K0 K1 K2
    rw [lp_X0_readItem_23] at hm
    refine lv_iload hx hb dX0_readItem_23 (lv_at hl 6 rfl) ?_
    refine lv_iload hx hb dX0_readItem_25 (lv_at hl 4 rfl) ?_
    refine lv_icmp_ge (tgt := 111) hx hb dX0_readItem_27 (by decide) (fun c5 => ?_) (fun c5 => ?_)
    · replace hm := ipos hm c5
      obtain rfl := Option.some.inj hm
      exact K0 _ rfl  _ _ ls hw (lv_sub hl [0, 3, 5] rfl)
    · replace hm := ineg hm c5
      refine lv_aload_n hx hb dX0_readItem_30 rfl (lv_at hl 1 rfl) ?_
      refine lv_iload_n hx hb dX0_readItem_31 rfl (lv_at hl 2 rfl) ?_
      refine lv_iload hx hb dX0_readItem_32 (lv_at hl 5 rfl) ?_
      obtain ⟨r6, h7, hm⟩ := ob hm
      refine k_rSi S hK hw.1 cal_X0_figuresAt gX0_readItem_X0_figuresAt (c_X0_figuresAt l D cC cI cJ a_tx tx_len tx v2 v6 r6 h7) ⟨⟨rfl, rfl⟩, Nat.le_of_ble_eq_true rfl, Nat.le_of_ble_eq_true rfl⟩ [10] rfl rfl hl.1 rfl (Nat.le_of_ble_eq_true rfl) dX0_readItem_34 ⟨Nat.zero_le _, Nat.zero_le _⟩ ?_
      refine lv_istore (lv' := [(8, .int r6), (0, .ref a_mo), (1, .ref a_tx), (2, .int v2), (4, .int v4), (5, .int v5), (6, .int v6), (7, .int v7)]) hx hb dX0_readItem_37 hl (by decide) rfl (fun ls hl => ?_)
      refine lv_iload hx hb dX0_readItem_39 (lv_at hl 0 rfl) ?_
      refine lv_iconst (v := 1) hx hb dX0_readItem_41 (by decide) ?_
      refine lv_icmp_ge (tgt := 48) hx hb dX0_readItem_42 (by decide) (fun c8 => ?_) (fun c8 => ?_)
      · replace hm := ipos hm c8
        refine lv_aload_n hx hb dX0_readItem_48 rfl (lv_at hl 1 rfl) ?_
        refine f_get S hK hw.1 in_X0_readItem_X0 0 rfl rfl 13 (by decide) (List.mem_of_getElem? (i := 1) rfl) rfl rfl dX0_readItem_49 ?_
        refine lv_iload hx hb dX0_readItem_52 (lv_at hl 7 rfl) ?_
        refine lv_aload_n hx hb dX0_readItem_54 rfl (lv_at hl 2 rfl) ?_
        refine lv_iload_n hx hb dX0_readItem_55 rfl (lv_at hl 3 rfl) ?_
        refine lv_iload hx hb dX0_readItem_56 (lv_at hl 6 rfl) ?_
        refine lv_iload hx hb dX0_readItem_58 (lv_at hl 0 rfl) ?_
        obtain ⟨r9, h10, hm⟩ := ob hm
        refine k_rSi S hK hw.1 cal_X0_readNumber gX0_readItem_X0_readNumber (c_X0_readNumber l D cC cI cJ a_tx tx_len tx v2 v6 r6 r9 h10) ⟨⟨rfl, rfl⟩, Nat.le_of_ble_eq_true rfl, Nat.le_of_ble_eq_true rfl⟩ [10] rfl rfl hl.1 rfl (Nat.le_of_ble_eq_true rfl) dX0_readItem_60 ⟨Nat.zero_le _, Nat.zero_le _⟩ ?_
        obtain ⟨r11, h12, hm⟩ := ob hm
        refine k_wNv S hK hw cal_X5_setNumber gX0_readItem_X5_setNumber_n100 (List.mem_of_getElem? (i := 1) rfl) (List.mem_of_getElem? (i := 19) rfl) (List.mem_of_getElem? (i := 18) rfl) (c_X5_setNumber l D cC cI cJ a_mo_numbers 4 mo_numbers v7 r9 (aw _) (hw.own [9] (by decide) rfl) r11 h12) ⟨⟨rfl, rfl⟩, Nat.le_of_ble_eq_true rfl, Nat.le_of_ble_eq_true rfl⟩ [9] rfl rfl hl.1 rfl (Nat.le_of_ble_eq_true rfl) dX0_readItem_63 ⟨Nat.zero_le _, Nat.zero_le _⟩ (fun H locs hJ hB => ?_)
        have hw := hJ _ hB rfl
        replace hw : Wd D A _ (wd_3 cC cI cJ a_mo mo_tasks mo_helpers mo_askedFirst mo_crumbsFirst mo_lastDay a_mo_kinds a_mo_days a_mo_rideDays a_mo_helpKinds a_mo_nexts a_mo_helperKinds a_mo_prices a_mo_helpersOfKind a_mo_numbers a_mo_kinds mo_kinds a_mo_days mo_days a_mo_rideDays mo_rideDays a_mo_helpKinds mo_helpKinds a_mo_nexts mo_nexts a_mo_helperKinds mo_helperKinds a_mo_prices mo_prices a_mo_helpersOfKind mo_helpersOfKind a_mo_numbers r11 a_tx tx_len tx) H locs := hw
        refine lv_iload hx hb dX0_readItem_66 (lv_at hl 6 rfl) ?_
        refine lv_iload hx hb dX0_readItem_68 (lv_at hl 0 rfl) ?_
        refine lv_iadd hx hb dX0_readItem_70 ?_
        refine lv_istore (lv' := [(6, .int (v6 + r6)), (8, .int r6), (0, .ref a_mo), (1, .ref a_tx), (2, .int v2), (4, .int v4), (5, .int v5), (7, .int v7)]) hx hb dX0_readItem_71 hl (by decide) rfl (fun ls hl => ?_)
        refine lv_aload_n hx hb dX0_readItem_73 rfl (lv_at hl 3 rfl) ?_
        refine lv_iload_n hx hb dX0_readItem_74 rfl (lv_at hl 4 rfl) ?_
        refine lv_iload hx hb dX0_readItem_75 (lv_at hl 0 rfl) ?_
        obtain ⟨r13, h14, hm⟩ := ob hm
        refine k_rSi S hK hw.1 cal_X0_letterAt gX0_readItem_X0_letterAt (c_X0_letterAt l D cC cI cJ a_tx tx_len tx v2 (v6 + r6) r13 h14) ⟨⟨rfl, rfl⟩, Nat.le_of_ble_eq_true rfl, Nat.le_of_ble_eq_true rfl⟩ [10] rfl rfl hl.1 rfl (Nat.le_of_ble_eq_true rfl) dX0_readItem_77 ⟨Nat.zero_le _, Nat.zero_le _⟩ ?_
        refine lv_iload hx hb dX0_readItem_80 (lv_at hl 7 rfl) ?_
        refine lv_iconst (v := 1) hx hb dX0_readItem_82 (by decide) ?_
        refine lv_iadd hx hb dX0_readItem_83 ?_
        refine lv_iload hx hb dX0_readItem_84 (lv_at hl 6 rfl) ?_
        refine lv_icmp_ge (tgt := 94) hx hb dX0_readItem_86 (by decide) (fun c15 => ?_) (fun c15 => ?_)
        · replace hm := ipos hm c15
          refine lv_bipush (v := 59) hx hb dX0_readItem_94 (by decide) ?_
          refine lv_icmp_eq (tgt := 102) hx hb dX0_readItem_96 (by decide) (fun c16 => ?_) (fun c16 => ?_)
          · replace hm := ipos hm c16
            refine lv_iinc (v := ((v6 + r6) + 1)) (lv' := [(6, .int ((v6 + r6) + 1)), (8, .int r6), (0, .ref a_mo), (1, .ref a_tx), (2, .int v2), (4, .int v4), (5, .int v5), (7, .int v7)]) hx hb dX0_readItem_102 hl (k := 0) rfl (by rw [ofi_1]) (by decide) rfl (fun ls hl => ?_)
            refine lv_iinc (v := (v7 + 1)) (lv' := [(7, .int (v7 + 1)), (6, .int ((v6 + r6) + 1)), (8, .int r6), (0, .ref a_mo), (1, .ref a_tx), (2, .int v2), (4, .int v4), (5, .int v5)]) hx hb dX0_readItem_105 hl (k := 7) rfl (by rw [ofi_1]) (by decide) rfl (fun ls hl => ?_)
            refine lv_goto (tgt := 23) hx hb dX0_readItem_108 (by decide) ?_
            exact ih ((v6 + r6) + 1) (v7 + 1) r11 _ hm  _ _ ls hw (lv_sub hl [3, 4, 5, 6, 7, 1, 0] rfl) K0 K1 K2
          · replace hm := ineg hm c16
            obtain rfl := Option.some.inj hm
            exact K1 _ rfl  _ _ ls hw (lv_sub hl [] rfl)
        · replace hm := ineg hm c15
          refine lv_bipush (v := 44) hx hb dX0_readItem_89 (by decide) ?_
          refine lv_goto (tgt := 96) hx hb dX0_readItem_91 (by decide) ?_
          refine lv_icmp_eq (tgt := 102) hx hb dX0_readItem_96 (by decide) (fun c17 => ?_) (fun c17 => ?_)
          · replace hm := ipos hm c17
            refine lv_iinc (v := ((v6 + r6) + 1)) (lv' := [(6, .int ((v6 + r6) + 1)), (8, .int r6), (0, .ref a_mo), (1, .ref a_tx), (2, .int v2), (4, .int v4), (5, .int v5), (7, .int v7)]) hx hb dX0_readItem_102 hl (k := 0) rfl (by rw [ofi_1]) (by decide) rfl (fun ls hl => ?_)
            refine lv_iinc (v := (v7 + 1)) (lv' := [(7, .int (v7 + 1)), (6, .int ((v6 + r6) + 1)), (8, .int r6), (0, .ref a_mo), (1, .ref a_tx), (2, .int v2), (4, .int v4), (5, .int v5)]) hx hb dX0_readItem_105 hl (k := 7) rfl (by rw [ofi_1]) (by decide) rfl (fun ls hl => ?_)
            refine lv_goto (tgt := 23) hx hb dX0_readItem_108 (by decide) ?_
            exact ih ((v6 + r6) + 1) (v7 + 1) r11 _ hm  _ _ ls hw (lv_sub hl [3, 4, 5, 6, 7, 1, 0] rfl) K0 K1 K2
          · replace hm := ineg hm c17
            obtain rfl := Option.some.inj hm
            exact K1 _ rfl  _ _ ls hw (lv_sub hl [] rfl)
      · replace hm := ineg hm c8
        obtain rfl := Option.some.inj hm
        exact K2 _ rfl  _ _ ls hw (lv_sub hl [] rfl)
set_option maxHeartbeats 4000000 in
set_option maxRecDepth 100000 in
theorem c_X0_readItem (l : Launch) (D : va_G) (cC cI cJ : ClassId) (a_mo : Nat) (a_mo_kinds : Nat) (a_mo_days : Nat) (a_mo_rideDays : Nat) (a_mo_helpKinds : Nat) (a_mo_nexts : Nat) (a_mo_helperKinds : Nat) (a_mo_prices : Nat) (a_mo_helpersOfKind : Nat) (a_mo_numbers : Nat) (a_tx : Nat) (mo_tasks : Int32) (mo_helpers : Int32) (mo_askedFirst : Int32) (mo_crumbsFirst : Int32) (mo_lastDay : Int32) (mo_kinds : (Nat → Int32)) (mo_days : (Nat → Int32)) (mo_rideDays : (Nat → Int32)) (mo_helpKinds : (Nat → Int32)) (mo_nexts : (Nat → Int32)) (mo_helperKinds : (Nat → Int32)) (mo_prices : (Nat → Int32)) (mo_helpersOfKind : (Nat → Int32)) (mo_numbers : (Nat → Int32)) (tx_len : Nat) (tx : (Nat → Int32)) (p1 : Int32) (p2 : Int32) (N : Nat) (A : Nat → Prop) (hD : va_D A (wd_3 cC cI cJ a_mo mo_tasks mo_helpers mo_askedFirst mo_crumbsFirst mo_lastDay a_mo_kinds a_mo_days a_mo_rideDays a_mo_helpKinds a_mo_nexts a_mo_helperKinds a_mo_prices a_mo_helpersOfKind a_mo_numbers a_mo_kinds mo_kinds a_mo_days mo_days a_mo_rideDays mo_rideDays a_mo_helpKinds mo_helpKinds a_mo_nexts mo_nexts a_mo_helperKinds mo_helperKinds a_mo_prices mo_prices a_mo_helpersOfKind mo_helpersOfKind a_mo_numbers mo_numbers a_tx tx_len tx)) (out : (Int32 × Int32 × Int32 × Int32 × Int32 × Int32 × (Nat → Int32) × (Nat → Int32) × (Nat → Int32) × (Nat → Int32) × (Nat → Int32) × (Nat → Int32) × (Nat → Int32) × (Nat → Int32) × (Nat → Int32))) (hm : m_X0_readItem N mo_tasks mo_helpers mo_askedFirst mo_crumbsFirst mo_lastDay mo_kinds mo_days mo_rideDays mo_helpKinds mo_nexts mo_helperKinds mo_prices mo_helpersOfKind mo_numbers tx_len tx p1 p2 = some out) : WrI l yX0_readItem wsX0_readItem rX0_readItem D (tyK cC cI cJ) [.ref a_mo, .ref a_tx, .int p1, .int p2] A (wd_3 cC cI cJ a_mo mo_tasks mo_helpers mo_askedFirst mo_crumbsFirst mo_lastDay a_mo_kinds a_mo_days a_mo_rideDays a_mo_helpKinds a_mo_nexts a_mo_helperKinds a_mo_prices a_mo_helpersOfKind a_mo_numbers a_mo_kinds mo_kinds a_mo_days mo_days a_mo_rideDays mo_rideDays a_mo_helpKinds mo_helpKinds a_mo_nexts mo_nexts a_mo_helperKinds mo_helperKinds a_mo_prices mo_prices a_mo_helpersOfKind mo_helpersOfKind a_mo_numbers mo_numbers a_tx tx_len tx) (Bw0 D (wd_3 cC cI cJ a_mo out.2.1 out.2.2.1 out.2.2.2.1 out.2.2.2.2.1 out.2.2.2.2.2.1 a_mo_kinds a_mo_days a_mo_rideDays a_mo_helpKinds a_mo_nexts a_mo_helperKinds a_mo_prices a_mo_helpersOfKind a_mo_numbers a_mo_kinds out.2.2.2.2.2.2.1 a_mo_days out.2.2.2.2.2.2.2.1 a_mo_rideDays out.2.2.2.2.2.2.2.2.1 a_mo_helpKinds out.2.2.2.2.2.2.2.2.2.1 a_mo_nexts out.2.2.2.2.2.2.2.2.2.2.1 a_mo_helperKinds out.2.2.2.2.2.2.2.2.2.2.2.1 a_mo_prices out.2.2.2.2.2.2.2.2.2.2.2.2.1 a_mo_helpersOfKind out.2.2.2.2.2.2.2.2.2.2.2.2.2.1 a_mo_numbers out.2.2.2.2.2.2.2.2.2.2.2.2.2.2 a_tx tx_len tx)) out.1 := by
  unfold m_X0_readItem at hm
  refine enter (cc := cX0_readItem) (maxL := 9) (ret := (some .int)) (lv := [(0, .ref a_mo), (1, .ref a_tx), (2, .int p1), (3, .int p2)]) (by decide) rfl (Nat.le_of_ble_eq_true rfl) rfl ?_
  intro p e s m args below meth c S hr hlk hK hP ls hl
  replace S : CallFix p m c cX0_readItem 9 s args wsX0_readItem RX0 := S
  have hx := S.1
  have hb := S.2.1
  have hw : Wd D A s.heap (wd_3 cC cI cJ a_mo mo_tasks mo_helpers mo_askedFirst mo_crumbsFirst mo_lastDay a_mo_kinds a_mo_days a_mo_rideDays a_mo_helpKinds a_mo_nexts a_mo_helperKinds a_mo_prices a_mo_helpersOfKind a_mo_numbers a_mo_kinds mo_kinds a_mo_days mo_days a_mo_rideDays mo_rideDays a_mo_helpKinds mo_helpKinds a_mo_nexts mo_nexts a_mo_helperKinds mo_helperKinds a_mo_prices mo_prices a_mo_helpersOfKind mo_helpersOfKind a_mo_numbers mo_numbers a_tx tx_len tx) s.heap [] := ⟨hP, hD, va_S.rf⟩
  have hw0 := hw
  refine lv_aload_n hx hb dX0_readItem_0 rfl (lv_at hl 1 rfl) ?_
  refine lv_iload_n hx hb dX0_readItem_1 rfl (lv_at hl 2 rfl) ?_
  refine lv_iload_n hx hb dX0_readItem_2 rfl (lv_at hl 3 rfl) ?_
  obtain ⟨r1, h2, hm⟩ := ob hm
  refine k_rSi S hK hw.1 cal_X0_letterAt gX0_readItem_X0_letterAt (c_X0_letterAt l D cC cI cJ a_tx tx_len tx p1 p2 r1 h2) ⟨⟨rfl, rfl⟩, Nat.le_of_ble_eq_true rfl, Nat.le_of_ble_eq_true rfl⟩ [10] rfl rfl hl.1 rfl (Nat.le_of_ble_eq_true rfl) dX0_readItem_3 ⟨Nat.zero_le _, Nat.zero_le _⟩ ?_
  refine lv_istore (lv' := [(4, .int r1), (0, .ref a_mo), (1, .ref a_tx), (2, .int p1), (3, .int p2)]) hx hb dX0_readItem_6 hl (by decide) rfl (fun ls hl => ?_)
  refine lv_iload hx hb dX0_readItem_8 (lv_at hl 0 rfl) ?_
  obtain ⟨r3, h4, hm⟩ := ob hm
  refine k_rSi S hK hw.1 cal_X0_numbersBehind gX0_readItem_X0_numbersBehind (c_X0_numbersBehind l D cC cI cJ r1 r3 h4) ⟨⟨rfl, rfl⟩, Nat.le_of_ble_eq_true rfl, Nat.le_of_ble_eq_true rfl⟩ [] rfl rfl hl.1 rfl (Nat.le_of_ble_eq_true rfl) dX0_readItem_10 ⟨Nat.zero_le _, Nat.zero_le _⟩ ?_
  refine lv_istore (lv' := [(5, .int r3), (4, .int r1), (0, .ref a_mo), (1, .ref a_tx), (2, .int p1), (3, .int p2)]) hx hb dX0_readItem_13 hl (by decide) rfl (fun ls hl => ?_)
  refine lv_iload_n hx hb dX0_readItem_15 rfl (lv_at hl 5 rfl) ?_
  refine lv_iconst (v := 1) hx hb dX0_readItem_16 (by decide) ?_
  refine lv_iadd hx hb dX0_readItem_17 ?_
  refine lv_istore (lv' := [(6, .int (p2 + (1 : Int32))), (5, .int r3), (4, .int r1), (0, .ref a_mo), (1, .ref a_tx), (2, .int p1), (3, .int p2)]) hx hb dX0_readItem_18 hl (by decide) rfl (fun ls hl => ?_)
  refine lv_iconst (v := 0) hx hb dX0_readItem_20 (by decide) ?_
  refine lv_istore (lv' := [(7, .int (0 : Int32)), (6, .int (p2 + (1 : Int32))), (5, .int r3), (4, .int r1), (0, .ref a_mo), (1, .ref a_tx), (2, .int p1), (3, .int p2)]) hx hb dX0_readItem_21 hl (by decide) rfl (fun ls hl => ?_)
  obtain ⟨r18, h19, hm⟩ := ob hm
  refine t_X0_readItem_23 l S hK a_mo a_mo_kinds a_mo_days a_mo_rideDays a_mo_helpKinds a_mo_nexts a_mo_helperKinds a_mo_prices a_mo_helpersOfKind a_mo_numbers a_tx p1 r1 r3 mo_tasks mo_helpers mo_askedFirst mo_crumbsFirst mo_lastDay mo_kinds mo_days mo_rideDays mo_helpKinds mo_nexts mo_helperKinds mo_prices mo_helpersOfKind tx_len tx N (p2 + (1 : Int32)) (0 : Int32) mo_numbers r18 h19  _ _ ls hw (lv_sub hl [4, 5, 6, 3, 2, 1, 0] rfl) (fun u20 hu H locs ls hw hl => ?_) (fun u24 hu H locs ls hw hl => ?_) (fun u25 hu H locs ls hw hl => ?_)
  · subst hu
    replace hm := seL hm
    refine lv_aload_n hx hb dX0_readItem_111 rfl (lv_at hl 0 rfl) ?_
    refine lv_iload hx hb dX0_readItem_112 (lv_at hl 1 rfl) ?_
    obtain ⟨r21, h22, hm⟩ := ob hm
    refine k_wVi S hK hw cal_X0_takeItem gX0_readItem_X0_takeItem (c_X0_takeItem l D cC cI cJ a_mo a_mo_kinds a_mo_days a_mo_rideDays a_mo_helpKinds a_mo_nexts a_mo_helperKinds a_mo_prices a_mo_helpersOfKind a_mo_numbers mo_tasks mo_helpers mo_askedFirst mo_crumbsFirst mo_lastDay mo_kinds mo_days mo_rideDays mo_helpKinds mo_nexts mo_helperKinds mo_prices mo_helpersOfKind u20.2 r1 (aw _) (hw.own [0, 1, 2, 3, 4, 5, 6, 7, 8, 9] (by decide) rfl) r21 h22) ⟨⟨rfl, rfl⟩, Nat.le_of_ble_eq_true rfl, Nat.le_of_ble_eq_true rfl⟩ [0, 1, 2, 3, 4, 5, 6, 7, 8, 9] rfl 0 rfl rfl rfl hl.1 rfl (Nat.le_of_ble_eq_true rfl) dX0_readItem_114 ⟨Nat.zero_le _, Nat.zero_le _⟩ (fun H locs hJ hB => ?_)
    have hw := hJ _ hB rfl
    replace hw : Wd D A _ (wd_3 cC cI cJ a_mo r21.2.1 r21.2.2.1 r21.2.2.2.1 r21.2.2.2.2.1 r21.2.2.2.2.2.1 a_mo_kinds a_mo_days a_mo_rideDays a_mo_helpKinds a_mo_nexts a_mo_helperKinds a_mo_prices a_mo_helpersOfKind a_mo_numbers a_mo_kinds r21.2.2.2.2.2.2.1 a_mo_days r21.2.2.2.2.2.2.2.1 a_mo_rideDays r21.2.2.2.2.2.2.2.2.1 a_mo_helpKinds r21.2.2.2.2.2.2.2.2.2.1 a_mo_nexts r21.2.2.2.2.2.2.2.2.2.2.1 a_mo_helperKinds r21.2.2.2.2.2.2.2.2.2.2.2.1 a_mo_prices r21.2.2.2.2.2.2.2.2.2.2.2.2.1 a_mo_helpersOfKind r21.2.2.2.2.2.2.2.2.2.2.2.2.2 a_mo_numbers u20.2 a_tx tx_len tx) H locs := hw
    refine lv_if_eq (tgt := 125) hx hb dX0_readItem_117 (by decide) (fun c23 => ?_) (fun c23 => ?_)
    · replace hm := ipos hm c23
      refine lv_bipush (v := (-2)) hx hb dX0_readItem_125 (by decide) ?_
      obtain rfl := Option.some.inj hm
      exact e_WI S hr hlk hw rfl hw.1 dX0_readItem_127
    · replace hm := ineg hm c23
      refine lv_iload hx hb dX0_readItem_120 (lv_at hl 2 rfl) ?_
      refine lv_goto (tgt := 127) hx hb dX0_readItem_122 (by decide) ?_
      obtain rfl := Option.some.inj hm
      exact e_WI S hr hlk hw rfl hw.1 dX0_readItem_127
  · subst hu
    replace hm := seR hm
    replace hm := seL hm
    refine lv_bipush (v := (-2)) hx hb dX0_readItem_99 (by decide) ?_
    obtain rfl := Option.some.inj hm
    exact e_WI S hr hlk hw rfl hw.1 dX0_readItem_101
  · subst hu
    replace hm := seR hm
    replace hm := seR hm
    refine lv_bipush (v := (-2)) hx hb dX0_readItem_45 (by decide) ?_
    obtain rfl := Option.some.inj hm
    exact e_WI S hr hlk hw rfl hw.1 dX0_readItem_47

abbrev rX0_readFrom : Room := { frames := 4, cells := 0, slots := 0, locals := 96 }
theorem cal_X0_readFrom : Cal yX0_readFrom wsX0_readFrom cX0_readFrom 5 (some .int) RX0 2 := ⟨⟨_, rfl⟩, rfl, by decide +kernel, by decide +kernel, by decide +kernel⟩
set_option maxHeartbeats 4000000 in
set_option maxRecDepth 100000 in
theorem t_X0_readFrom_6 {p : Program} {e : Env} {s : State} {m : MethodId} {args : Array Value} {below : List Frame} {meth : Method} {c : Code} {Q : State → Prop} (l : Launch) {D : va_G} {cC cI cJ : ClassId} {A : Nat → Prop} {H0 : Heap} (S : CallFix p m c cX0_readFrom 5 s args wsX0_readFrom RX0) (hK : KK D (tyK cC cI cJ) s) (a_mo : Nat) (a_mo_kinds : Nat) (a_mo_days : Nat) (a_mo_rideDays : Nat) (a_mo_helpKinds : Nat) (a_mo_nexts : Nat) (a_mo_helperKinds : Nat) (a_mo_prices : Nat) (a_mo_helpersOfKind : Nat) (a_mo_numbers : Nat) (a_tx : Nat) (N : Nat) (v2 : Int32) (tx_len : Nat) (tx : (Nat → Int32)) : ∀ (n : Nat) (v3 : Int32) (mo_tasks : Int32) (mo_helpers : Int32) (mo_askedFirst : Int32) (mo_crumbsFirst : Int32) (mo_lastDay : Int32) (mo_kinds : (Nat → Int32)) (mo_days : (Nat → Int32)) (mo_rideDays : (Nat → Int32)) (mo_helpKinds : (Nat → Int32)) (mo_nexts : (Nat → Int32)) (mo_helperKinds : (Nat → Int32)) (mo_prices : (Nat → Int32)) (mo_helpersOfKind : (Nat → Int32)) (mo_numbers : (Nat → Int32)) (out : ((Int32 × Int32 × Int32 × Int32 × Int32 × (Nat → Int32) × (Nat → Int32) × (Nat → Int32) × (Nat → Int32) × (Nat → Int32) × (Nat → Int32) × (Nat → Int32) × (Nat → Int32) × (Nat → Int32)) ⊕ (Int32 × Int32 × Int32 × Int32 × Int32 × Int32 × (Nat → Int32) × (Nat → Int32) × (Nat → Int32) × (Nat → Int32) × (Nat → Int32) × (Nat → Int32) × (Nat → Int32) × (Nat → Int32) × (Nat → Int32)))), lp_X0_readFrom_6 N v2 tx_len tx n v3 mo_tasks mo_helpers mo_askedFirst mo_crumbsFirst mo_lastDay mo_kinds mo_days mo_rideDays mo_helpKinds mo_nexts mo_helperKinds mo_prices mo_helpersOfKind mo_numbers = some out → ∀ (H : Heap) (locs : List Loc) (ls : Array Slot), Wd D A H0 (wd_3 cC cI cJ a_mo mo_tasks mo_helpers mo_askedFirst mo_crumbsFirst mo_lastDay a_mo_kinds a_mo_days a_mo_rideDays a_mo_helpKinds a_mo_nexts a_mo_helperKinds a_mo_prices a_mo_helpersOfKind a_mo_numbers a_mo_kinds mo_kinds a_mo_days mo_days a_mo_rideDays mo_rideDays a_mo_helpKinds mo_helpKinds a_mo_nexts mo_nexts a_mo_helperKinds mo_helperKinds a_mo_prices mo_prices a_mo_helpersOfKind mo_helpersOfKind a_mo_numbers mo_numbers a_tx tx_len tx) H locs → lv_has ls 5 [(0, .ref a_mo), (1, .ref a_tx), (2, .int v2), (3, .int v3)] → (∀ (u : (Int32 × Int32 × Int32 × Int32 × Int32 × (Nat → Int32) × (Nat → Int32) × (Nat → Int32) × (Nat → Int32) × (Nat → Int32) × (Nat → Int32) × (Nat → Int32) × (Nat → Int32) × (Nat → Int32))), out = (Sum.inl u) → ∀ (H : Heap) (locs : List Loc) (ls : Array Slot), Wd D A H0 (wd_3 cC cI cJ a_mo u.1 u.2.1 u.2.2.1 u.2.2.2.1 u.2.2.2.2.1 a_mo_kinds a_mo_days a_mo_rideDays a_mo_helpKinds a_mo_nexts a_mo_helperKinds a_mo_prices a_mo_helpersOfKind a_mo_numbers a_mo_kinds u.2.2.2.2.2.1 a_mo_days u.2.2.2.2.2.2.1 a_mo_rideDays u.2.2.2.2.2.2.2.1 a_mo_helpKinds u.2.2.2.2.2.2.2.2.1 a_mo_nexts u.2.2.2.2.2.2.2.2.2.1 a_mo_helperKinds u.2.2.2.2.2.2.2.2.2.2.1 a_mo_prices u.2.2.2.2.2.2.2.2.2.2.2.1 a_mo_helpersOfKind u.2.2.2.2.2.2.2.2.2.2.2.2.1 a_mo_numbers u.2.2.2.2.2.2.2.2.2.2.2.2.2 a_tx tx_len tx) H locs → lv_has ls 5 [] → W p l e rX0_readFrom s m args below meth c H locs 0 0 Q (F0 m 34 ls [])) → (∀ (u : (Int32 × Int32 × Int32 × Int32 × Int32 × Int32 × (Nat → Int32) × (Nat → Int32) × (Nat → Int32) × (Nat → Int32) × (Nat → Int32) × (Nat → Int32) × (Nat → Int32) × (Nat → Int32) × (Nat → Int32))), out = (Sum.inr u) → ∀ (H : Heap) (locs : List Loc) (ls : Array Slot), Wd D A H0 (wd_3 cC cI cJ a_mo u.2.1 u.2.2.1 u.2.2.2.1 u.2.2.2.2.1 u.2.2.2.2.2.1 a_mo_kinds a_mo_days a_mo_rideDays a_mo_helpKinds a_mo_nexts a_mo_helperKinds a_mo_prices a_mo_helpersOfKind a_mo_numbers a_mo_kinds u.2.2.2.2.2.2.1 a_mo_days u.2.2.2.2.2.2.2.1 a_mo_rideDays u.2.2.2.2.2.2.2.2.1 a_mo_helpKinds u.2.2.2.2.2.2.2.2.2.1 a_mo_nexts u.2.2.2.2.2.2.2.2.2.2.1 a_mo_helperKinds u.2.2.2.2.2.2.2.2.2.2.2.1 a_mo_prices u.2.2.2.2.2.2.2.2.2.2.2.2.1 a_mo_helpersOfKind u.2.2.2.2.2.2.2.2.2.2.2.2.2.1 a_mo_numbers u.2.2.2.2.2.2.2.2.2.2.2.2.2.2 a_tx tx_len tx) H locs → lv_has ls 5 [(3, .int u.1)] → W p l e rX0_readFrom s m args below meth c H locs 0 0 Q (F0 m 26 ls [])) → W p l e rX0_readFrom s m args below meth c H locs 0 0 Q (F0 m 6 ls []) := by
  have hx := S.1
  have hb := S.2.1
  intro n
  induction n with
  | zero => intro v3 mo_tasks mo_helpers mo_askedFirst mo_crumbsFirst mo_lastDay mo_kinds mo_days mo_rideDays mo_helpKinds mo_nexts mo_helperKinds mo_prices mo_helpersOfKind mo_numbers out hm; cases (show (none : Option ((Int32 × Int32 × Int32 × Int32 × Int32 × (Nat → Int32) × (Nat → Int32) × (Nat → Int32) × (Nat → Int32) × (Nat → Int32) × (Nat → Int32) × (Nat → Int32) × (Nat → Int32) × (Nat → Int32)) ⊕ (Int32 × Int32 × Int32 × Int32 × Int32 × Int32 × (Nat → Int32) × (Nat → Int32) × (Nat → Int32) × (Nat → Int32) × (Nat → Int32) × (Nat → Int32) × (Nat → Int32) × (Nat → Int32) × (Nat → Int32)))) = some out from hm)
  | succ n ih =>
    intro v3 mo_tasks mo_helpers mo_askedFirst mo_crumbsFirst mo_lastDay mo_kinds mo_days mo_rideDays mo_helpKinds mo_nexts mo_helperKinds mo_prices mo_helpersOfKind mo_numbers out hm  H locs ls hw hl K0 K1
    rw [lp_X0_readFrom_6] at hm
    refine lv_iload_n hx hb dX0_readFrom_6 rfl (lv_at hl 3 rfl) ?_
    refine lv_iload_n hx hb dX0_readFrom_7 rfl (lv_at hl 2 rfl) ?_
    refine lv_icmp_ge (tgt := 34) hx hb dX0_readFrom_8 (by decide) (fun c3 => ?_) (fun c3 => ?_)
    · replace hm := ipos hm c3
      obtain rfl := Option.some.inj hm
      exact K0 _ rfl  _ _ ls hw (lv_sub hl [] rfl)
    · replace hm := ineg hm c3
      refine lv_aload_n hx hb dX0_readFrom_11 rfl (lv_at hl 0 rfl) ?_
      refine lv_aload_n hx hb dX0_readFrom_12 rfl (lv_at hl 1 rfl) ?_
      refine lv_iload_n hx hb dX0_readFrom_13 rfl (lv_at hl 2 rfl) ?_
      refine lv_iload_n hx hb dX0_readFrom_14 rfl (lv_at hl 3 rfl) ?_
      obtain ⟨r4, h5, hm⟩ := ob hm
      refine k_wVi S hK hw cal_X0_readItem gX0_readFrom_X0_readItem (c_X0_readItem l D cC cI cJ a_mo a_mo_kinds a_mo_days a_mo_rideDays a_mo_helpKinds a_mo_nexts a_mo_helperKinds a_mo_prices a_mo_helpersOfKind a_mo_numbers a_tx mo_tasks mo_helpers mo_askedFirst mo_crumbsFirst mo_lastDay mo_kinds mo_days mo_rideDays mo_helpKinds mo_nexts mo_helperKinds mo_prices mo_helpersOfKind mo_numbers tx_len tx v2 v3 N (aw _) (hw.own [0, 1, 2, 3, 4, 5, 6, 7, 8, 9, 10] (by decide) rfl) r4 h5) ⟨⟨rfl, rfl⟩, Nat.le_of_ble_eq_true rfl, Nat.le_of_ble_eq_true rfl⟩ [0, 1, 2, 3, 4, 5, 6, 7, 8, 9, 10] rfl 0 rfl rfl rfl hl.1 rfl (Nat.le_of_ble_eq_true rfl) dX0_readFrom_15 ⟨Nat.zero_le _, Nat.zero_le _⟩ (fun H locs hJ hB => ?_)
      have hw := hJ _ hB rfl
      replace hw : Wd D A _ (wd_3 cC cI cJ a_mo r4.2.1 r4.2.2.1 r4.2.2.2.1 r4.2.2.2.2.1 r4.2.2.2.2.2.1 a_mo_kinds a_mo_days a_mo_rideDays a_mo_helpKinds a_mo_nexts a_mo_helperKinds a_mo_prices a_mo_helpersOfKind a_mo_numbers a_mo_kinds r4.2.2.2.2.2.2.1 a_mo_days r4.2.2.2.2.2.2.2.1 a_mo_rideDays r4.2.2.2.2.2.2.2.2.1 a_mo_helpKinds r4.2.2.2.2.2.2.2.2.2.1 a_mo_nexts r4.2.2.2.2.2.2.2.2.2.2.1 a_mo_helperKinds r4.2.2.2.2.2.2.2.2.2.2.2.1 a_mo_prices r4.2.2.2.2.2.2.2.2.2.2.2.2.1 a_mo_helpersOfKind r4.2.2.2.2.2.2.2.2.2.2.2.2.2.1 a_mo_numbers r4.2.2.2.2.2.2.2.2.2.2.2.2.2.2 a_tx tx_len tx) H locs := hw
      refine lv_istore (lv' := [(4, .int r4.1), (0, .ref a_mo), (1, .ref a_tx), (2, .int v2), (3, .int v3)]) hx hb dX0_readFrom_18 hl (by decide) rfl (fun ls hl => ?_)
      refine lv_iload hx hb dX0_readFrom_20 (lv_at hl 0 rfl) ?_
      refine lv_iload_n hx hb dX0_readFrom_22 rfl (lv_at hl 4 rfl) ?_
      refine lv_icmp_gt (tgt := 28) hx hb dX0_readFrom_23 (by decide) (fun c6 => ?_) (fun c6 => ?_)
      · replace hm := ipos hm c6
        refine lv_iload hx hb dX0_readFrom_28 (lv_at hl 0 rfl) ?_
        refine lv_istore_n (lv' := [(3, .int r4.1), (4, .int r4.1), (0, .ref a_mo), (1, .ref a_tx), (2, .int v2)]) hx hb dX0_readFrom_30 rfl hl (by decide) rfl (fun ls hl => ?_)
        refine lv_goto (tgt := 6) hx hb dX0_readFrom_31 (by decide) ?_
        exact ih r4.1 r4.2.1 r4.2.2.1 r4.2.2.2.1 r4.2.2.2.2.1 r4.2.2.2.2.2.1 r4.2.2.2.2.2.2.1 r4.2.2.2.2.2.2.2.1 r4.2.2.2.2.2.2.2.2.1 r4.2.2.2.2.2.2.2.2.2.1 r4.2.2.2.2.2.2.2.2.2.2.1 r4.2.2.2.2.2.2.2.2.2.2.2.1 r4.2.2.2.2.2.2.2.2.2.2.2.2.1 r4.2.2.2.2.2.2.2.2.2.2.2.2.2.1 r4.2.2.2.2.2.2.2.2.2.2.2.2.2.2 _ hm  _ _ ls hw (lv_sub hl [2, 3, 4, 0] rfl) K0 K1
      · replace hm := ineg hm c6
        obtain rfl := Option.some.inj hm
        exact K1 _ rfl  _ _ ls hw (lv_sub hl [4] rfl)
set_option maxHeartbeats 4000000 in
set_option maxRecDepth 100000 in
theorem c_X0_readFrom (l : Launch) (D : va_G) (cC cI cJ : ClassId) (a_mo : Nat) (a_mo_kinds : Nat) (a_mo_days : Nat) (a_mo_rideDays : Nat) (a_mo_helpKinds : Nat) (a_mo_nexts : Nat) (a_mo_helperKinds : Nat) (a_mo_prices : Nat) (a_mo_helpersOfKind : Nat) (a_mo_numbers : Nat) (a_tx : Nat) (mo_tasks : Int32) (mo_helpers : Int32) (mo_askedFirst : Int32) (mo_crumbsFirst : Int32) (mo_lastDay : Int32) (mo_kinds : (Nat → Int32)) (mo_days : (Nat → Int32)) (mo_rideDays : (Nat → Int32)) (mo_helpKinds : (Nat → Int32)) (mo_nexts : (Nat → Int32)) (mo_helperKinds : (Nat → Int32)) (mo_prices : (Nat → Int32)) (mo_helpersOfKind : (Nat → Int32)) (mo_numbers : (Nat → Int32)) (tx_len : Nat) (tx : (Nat → Int32)) (p1 : Int32) (N : Nat) (A : Nat → Prop) (hD : va_D A (wd_3 cC cI cJ a_mo mo_tasks mo_helpers mo_askedFirst mo_crumbsFirst mo_lastDay a_mo_kinds a_mo_days a_mo_rideDays a_mo_helpKinds a_mo_nexts a_mo_helperKinds a_mo_prices a_mo_helpersOfKind a_mo_numbers a_mo_kinds mo_kinds a_mo_days mo_days a_mo_rideDays mo_rideDays a_mo_helpKinds mo_helpKinds a_mo_nexts mo_nexts a_mo_helperKinds mo_helperKinds a_mo_prices mo_prices a_mo_helpersOfKind mo_helpersOfKind a_mo_numbers mo_numbers a_tx tx_len tx)) (out : (Int32 × Int32 × Int32 × Int32 × Int32 × Int32 × (Nat → Int32) × (Nat → Int32) × (Nat → Int32) × (Nat → Int32) × (Nat → Int32) × (Nat → Int32) × (Nat → Int32) × (Nat → Int32) × (Nat → Int32))) (hm : m_X0_readFrom N mo_kinds mo_days mo_rideDays mo_helpKinds mo_nexts mo_helperKinds mo_prices mo_helpersOfKind mo_numbers tx_len tx p1 = some out) : WrI l yX0_readFrom wsX0_readFrom rX0_readFrom D (tyK cC cI cJ) [.ref a_mo, .ref a_tx, .int p1] A (wd_3 cC cI cJ a_mo mo_tasks mo_helpers mo_askedFirst mo_crumbsFirst mo_lastDay a_mo_kinds a_mo_days a_mo_rideDays a_mo_helpKinds a_mo_nexts a_mo_helperKinds a_mo_prices a_mo_helpersOfKind a_mo_numbers a_mo_kinds mo_kinds a_mo_days mo_days a_mo_rideDays mo_rideDays a_mo_helpKinds mo_helpKinds a_mo_nexts mo_nexts a_mo_helperKinds mo_helperKinds a_mo_prices mo_prices a_mo_helpersOfKind mo_helpersOfKind a_mo_numbers mo_numbers a_tx tx_len tx) (Bw0 D (wd_3 cC cI cJ a_mo out.2.1 out.2.2.1 out.2.2.2.1 out.2.2.2.2.1 out.2.2.2.2.2.1 a_mo_kinds a_mo_days a_mo_rideDays a_mo_helpKinds a_mo_nexts a_mo_helperKinds a_mo_prices a_mo_helpersOfKind a_mo_numbers a_mo_kinds out.2.2.2.2.2.2.1 a_mo_days out.2.2.2.2.2.2.2.1 a_mo_rideDays out.2.2.2.2.2.2.2.2.1 a_mo_helpKinds out.2.2.2.2.2.2.2.2.2.1 a_mo_nexts out.2.2.2.2.2.2.2.2.2.2.1 a_mo_helperKinds out.2.2.2.2.2.2.2.2.2.2.2.1 a_mo_prices out.2.2.2.2.2.2.2.2.2.2.2.2.1 a_mo_helpersOfKind out.2.2.2.2.2.2.2.2.2.2.2.2.2.1 a_mo_numbers out.2.2.2.2.2.2.2.2.2.2.2.2.2.2 a_tx tx_len tx)) out.1 := by
  unfold m_X0_readFrom at hm
  refine enter (cc := cX0_readFrom) (maxL := 5) (ret := (some .int)) (lv := [(0, .ref a_mo), (1, .ref a_tx), (2, .int p1)]) (by decide) rfl (Nat.le_of_ble_eq_true rfl) rfl ?_
  intro p e s m args below meth c S hr hlk hK hP ls hl
  replace S : CallFix p m c cX0_readFrom 5 s args wsX0_readFrom RX0 := S
  have hx := S.1
  have hb := S.2.1
  have hw : Wd D A s.heap (wd_3 cC cI cJ a_mo mo_tasks mo_helpers mo_askedFirst mo_crumbsFirst mo_lastDay a_mo_kinds a_mo_days a_mo_rideDays a_mo_helpKinds a_mo_nexts a_mo_helperKinds a_mo_prices a_mo_helpersOfKind a_mo_numbers a_mo_kinds mo_kinds a_mo_days mo_days a_mo_rideDays mo_rideDays a_mo_helpKinds mo_helpKinds a_mo_nexts mo_nexts a_mo_helperKinds mo_helperKinds a_mo_prices mo_prices a_mo_helpersOfKind mo_helpersOfKind a_mo_numbers mo_numbers a_tx tx_len tx) s.heap [] := ⟨hP, hD, va_S.rf⟩
  have hw0 := hw
  refine lv_aload_n hx hb dX0_readFrom_0 rfl (lv_at hl 0 rfl) ?_
  obtain ⟨r1, h2, hm⟩ := ob hm
  refine k_wVv S hK hw cal_X0_clear gX0_readFrom_X0_clear (c_X0_clear l D cC cI cJ a_mo a_mo_kinds a_mo_days a_mo_rideDays a_mo_helpKinds a_mo_nexts a_mo_helperKinds a_mo_prices a_mo_helpersOfKind a_mo_numbers mo_tasks mo_helpers mo_askedFirst mo_crumbsFirst mo_lastDay mo_kinds mo_days mo_rideDays mo_helpKinds mo_nexts mo_helperKinds mo_prices mo_helpersOfKind mo_numbers N (aw _) (hw.own [0, 1, 2, 3, 4, 5, 6, 7, 8, 9] (by decide) rfl) r1 h2) ⟨⟨rfl, rfl⟩, Nat.le_of_ble_eq_true rfl, Nat.le_of_ble_eq_true rfl⟩ [0, 1, 2, 3, 4, 5, 6, 7, 8, 9] rfl 0 rfl rfl rfl hl.1 rfl (Nat.le_of_ble_eq_true rfl) dX0_readFrom_1 ⟨Nat.zero_le _, Nat.zero_le _⟩ (fun H locs hJ hB => ?_)
  have hw := hJ _ hB rfl
  replace hw : Wd D A _ (wd_3 cC cI cJ a_mo r1.1 r1.2.1 r1.2.2.1 r1.2.2.2.1 r1.2.2.2.2.1 a_mo_kinds a_mo_days a_mo_rideDays a_mo_helpKinds a_mo_nexts a_mo_helperKinds a_mo_prices a_mo_helpersOfKind a_mo_numbers a_mo_kinds mo_kinds a_mo_days mo_days a_mo_rideDays mo_rideDays a_mo_helpKinds mo_helpKinds a_mo_nexts mo_nexts a_mo_helperKinds mo_helperKinds a_mo_prices mo_prices a_mo_helpersOfKind r1.2.2.2.2.2 a_mo_numbers mo_numbers a_tx tx_len tx) H locs := hw
  refine lv_iconst (v := 0) hx hb dX0_readFrom_4 (by decide) ?_
  refine lv_istore_n (lv' := [(3, .int (0 : Int32)), (0, .ref a_mo), (1, .ref a_tx), (2, .int p1)]) hx hb dX0_readFrom_5 rfl hl (by decide) rfl (fun ls hl => ?_)
  obtain ⟨r7, h8, hm⟩ := ob hm
  refine t_X0_readFrom_6 l S hK a_mo a_mo_kinds a_mo_days a_mo_rideDays a_mo_helpKinds a_mo_nexts a_mo_helperKinds a_mo_prices a_mo_helpersOfKind a_mo_numbers a_tx N p1 tx_len tx N (0 : Int32) r1.1 r1.2.1 r1.2.2.1 r1.2.2.2.1 r1.2.2.2.2.1 mo_kinds mo_days mo_rideDays mo_helpKinds mo_nexts mo_helperKinds mo_prices r1.2.2.2.2.2 mo_numbers r7 h8  _ _ ls hw (lv_sub hl [1, 2, 3, 0] rfl) (fun u9 hu H locs ls hw hl => ?_) (fun u10 hu H locs ls hw hl => ?_)
  · subst hu
    replace hm := seL hm
    refine lv_bipush (v := (-4)) hx hb dX0_readFrom_34 (by decide) ?_
    obtain rfl := Option.some.inj hm
    exact e_WI S hr hlk hw rfl hw.1 dX0_readFrom_36
  · subst hu
    replace hm := seR hm
    refine lv_iload_n hx hb dX0_readFrom_26 rfl (lv_at hl 0 rfl) ?_
    obtain rfl := Option.some.inj hm
    exact e_WI S hr hlk hw rfl hw.1 dX0_readFrom_27

abbrev rX0_rideDaysOf : Room := { frames := 0, cells := 0, slots := 0, locals := 0 }
theorem cal_X0_rideDaysOf : Cal yX0_rideDaysOf wsX0_rideDaysOf cX0_rideDaysOf 2 (some .int) RX0 1 := ⟨⟨_, rfl⟩, rfl, by decide +kernel, by decide +kernel, by decide +kernel⟩
theorem in_X0_rideDaysOf_X0 : ∀ w ∈ wsX00, w ∈ wsX0_rideDaysOf := fun _ h => (List.mem_cons_of_mem _ (List.mem_append_right _ h))
set_option maxHeartbeats 4000000 in
set_option maxRecDepth 100000 in
theorem c_X0_rideDaysOf (l : Launch) (D : va_G) (cC cI cJ : ClassId) (a_mo : Nat) (a_mo_kinds : Nat) (a_mo_days : Nat) (a_mo_rideDays : Nat) (a_mo_helpKinds : Nat) (a_mo_nexts : Nat) (a_mo_helperKinds : Nat) (a_mo_prices : Nat) (a_mo_helpersOfKind : Nat) (a_mo_numbers : Nat) (mo_tasks : Int32) (mo_helpers : Int32) (mo_askedFirst : Int32) (mo_crumbsFirst : Int32) (mo_lastDay : Int32) (mo_kinds : (Nat → Int32)) (mo_days : (Nat → Int32)) (mo_rideDays : (Nat → Int32)) (mo_helpKinds : (Nat → Int32)) (mo_nexts : (Nat → Int32)) (mo_helperKinds : (Nat → Int32)) (mo_prices : (Nat → Int32)) (mo_helpersOfKind : (Nat → Int32)) (mo_numbers : (Nat → Int32)) (p0 : Int32) (out : Int32) (hm : m_X0_rideDaysOf mo_rideDays p0 = some out) : RdI l yX0_rideDaysOf wsX0_rideDaysOf rX0_rideDaysOf D (tyK cC cI cJ) [.ref a_mo, .int p0] (wd_0 cC cI cJ a_mo mo_tasks mo_helpers mo_askedFirst mo_crumbsFirst mo_lastDay a_mo_kinds a_mo_days a_mo_rideDays a_mo_helpKinds a_mo_nexts a_mo_helperKinds a_mo_prices a_mo_helpersOfKind a_mo_numbers a_mo_kinds mo_kinds a_mo_days mo_days a_mo_rideDays mo_rideDays a_mo_helpKinds mo_helpKinds a_mo_nexts mo_nexts a_mo_helperKinds mo_helperKinds a_mo_prices mo_prices a_mo_helpersOfKind mo_helpersOfKind a_mo_numbers mo_numbers) out := by
  unfold m_X0_rideDaysOf at hm
  refine enter (cc := cX0_rideDaysOf) (maxL := 2) (ret := (some .int)) (lv := [(0, .ref a_mo), (1, .int p0)]) (by decide) rfl (Nat.le_of_ble_eq_true rfl) rfl ?_
  intro p e s m args below meth c S hr hlk hK hP ls hl
  replace S : CallFix p m c cX0_rideDaysOf 2 s args wsX0_rideDaysOf RX0 := S
  have hx := S.1
  have hb := S.2.1
  refine lv_iload_n hx hb dX0_rideDaysOf_0 rfl (lv_at hl 1 rfl) ?_
  refine lv_if_lt (tgt := 22) hx hb dX0_rideDaysOf_1 (by decide) (fun c1 => ?_) (fun c1 => ?_)
  · replace hm := ipos hm c1
    refine lv_iconst (v := 0) hx hb dX0_rideDaysOf_22 (by decide) ?_
    exact e_RI S hr hlk (Option.some.inj hm) dX0_rideDaysOf_23
  · replace hm := ineg hm c1
    refine lv_iload_n hx hb dX0_rideDaysOf_4 rfl (lv_at hl 1 rfl) ?_
    refine lv_aload_n hx hb dX0_rideDaysOf_5 rfl (lv_at hl 0 rfl) ?_
    refine f_get S hK hP in_X0_rideDaysOf_X0 0 rfl rfl 7 (by decide) (List.mem_of_getElem? (i := 1) rfl) rfl rfl dX0_rideDaysOf_6 ?_
    refine f_alen S hK hP 3 1 rfl rfl (v := (8 : Int32)) rfl dX0_rideDaysOf_9 ?_
    refine lv_icmp_ge (tgt := 22) hx hb dX0_rideDaysOf_10 (by decide) (fun c2 => ?_) (fun c2 => ?_)
    · replace hm := ipos hm c2
      refine lv_iconst (v := 0) hx hb dX0_rideDaysOf_22 (by decide) ?_
      exact e_RI S hr hlk (Option.some.inj hm) dX0_rideDaysOf_23
    · replace hm := ineg hm c2
      refine lv_aload_n hx hb dX0_rideDaysOf_13 rfl (lv_at hl 0 rfl) ?_
      refine f_get S hK hP in_X0_rideDaysOf_X0 0 rfl rfl 7 (by decide) (List.mem_of_getElem? (i := 1) rfl) rfl rfl dX0_rideDaysOf_14 ?_
      refine lv_iload_n hx hb dX0_rideDaysOf_17 rfl (lv_at hl 1 rfl) ?_
      obtain ⟨g3, hm⟩ := gdo hm
      refine f_iald S hK hP 3 1 rfl rfl g3 dX0_rideDaysOf_18 ?_
      refine lv_goto (tgt := 23) hx hb dX0_rideDaysOf_19 (by decide) ?_
      exact e_RI S hr hlk (Option.some.inj hm) dX0_rideDaysOf_23

abbrev rX0_rideDaysOfSet : Room := { frames := 1, cells := 0, slots := 0, locals := 21 }
theorem cal_X0_rideDaysOfSet : Cal yX0_rideDaysOfSet wsX0_rideDaysOfSet cX0_rideDaysOfSet 4 (some .int) RX0 1 := ⟨⟨_, rfl⟩, rfl, by decide +kernel, by decide +kernel, by decide +kernel⟩
theorem in_X0_rideDaysOfSet_X0 : ∀ w ∈ wsX00, w ∈ wsX0_rideDaysOfSet := fun _ h => (List.mem_cons_of_mem _ (List.mem_append_right _ h))
set_option maxHeartbeats 4000000 in
set_option maxRecDepth 100000 in
theorem t_X0_rideDaysOfSet_4 {p : Program} {e : Env} {s : State} {m : MethodId} {args : Array Value} {below : List Frame} {meth : Method} {c : Code} {Q : State → Prop} {H : Heap} {locs : List Loc} (l : Launch) {D : va_G} {cC cI cJ : ClassId} (S : CallFix p m c cX0_rideDaysOfSet 4 s args wsX0_rideDaysOfSet RX0) (hK : KK D (tyK cC cI cJ) s) (a_mo : Nat) (a_mo_kinds : Nat) (a_mo_days : Nat) (a_mo_rideDays : Nat) (a_mo_helpKinds : Nat) (a_mo_nexts : Nat) (a_mo_helperKinds : Nat) (a_mo_prices : Nat) (a_mo_helpersOfKind : Nat) (a_mo_numbers : Nat) (v1 : Int32) (mo_tasks : Int32) (mo_helpers : Int32) (mo_askedFirst : Int32) (mo_crumbsFirst : Int32) (mo_lastDay : Int32) (mo_kinds : (Nat → Int32)) (mo_days : (Nat → Int32)) (mo_rideDays : (Nat → Int32)) (mo_helpKinds : (Nat → Int32)) (mo_nexts : (Nat → Int32)) (mo_helperKinds : (Nat → Int32)) (mo_prices : (Nat → Int32)) (mo_helpersOfKind : (Nat → Int32)) (mo_numbers : (Nat → Int32)) (hP : va_P D vwCl (wd_0 cC cI cJ a_mo mo_tasks mo_helpers mo_askedFirst mo_crumbsFirst mo_lastDay a_mo_kinds a_mo_days a_mo_rideDays a_mo_helpKinds a_mo_nexts a_mo_helperKinds a_mo_prices a_mo_helpersOfKind a_mo_numbers a_mo_kinds mo_kinds a_mo_days mo_days a_mo_rideDays mo_rideDays a_mo_helpKinds mo_helpKinds a_mo_nexts mo_nexts a_mo_helperKinds mo_helperKinds a_mo_prices mo_prices a_mo_helpersOfKind mo_helpersOfKind a_mo_numbers mo_numbers) H) : ∀ (n : Nat) (v2 : Int32) (v3 : Int32) (out : Int32), lp_X0_rideDaysOfSet_4 v1 mo_tasks mo_rideDays n v2 v3 = some out → ∀ (ls : Array Slot), lv_has ls 4 [(0, .ref a_mo), (1, .int v1), (2, .int v2), (3, .int v3)] → (∀ (ls : Array Slot), lv_has ls 4 [(2, .int out)] → W p l e rX0_rideDaysOfSet s m args below meth c H locs 0 0 Q (F0 m 35 ls [])) → W p l e rX0_rideDaysOfSet s m args below meth c H locs 0 0 Q (F0 m 4 ls []) := by
  have hx := S.1
  have hb := S.2.1
  intro n
  induction n with
  | zero => intro v2 v3 out hm; cases (show (none : Option Int32) = some out from hm)
  | succ n ih =>
    intro v2 v3 out hm  ls hl K0
    rw [lp_X0_rideDaysOfSet_4] at hm
    refine lv_iload_n hx hb dX0_rideDaysOfSet_4 rfl (lv_at hl 3 rfl) ?_
    refine lv_aload_n hx hb dX0_rideDaysOfSet_5 rfl (lv_at hl 0 rfl) ?_
    refine f_get S hK hP in_X0_rideDaysOfSet_X0 0 rfl rfl 0 (by decide) (List.mem_of_getElem? (i := 1) rfl) rfl rfl dX0_rideDaysOfSet_6 ?_
    refine lv_icmp_ge (tgt := 35) hx hb dX0_rideDaysOfSet_9 (by decide) (fun c1 => ?_) (fun c1 => ?_)
    · replace hm := ipos hm c1
      obtain rfl := Option.some.inj hm
      exact K0  ls (lv_sub hl [2] rfl)
    · replace hm := ineg hm c1
      refine lv_iload_n hx hb dX0_rideDaysOfSet_12 rfl (lv_at hl 1 rfl) ?_
      refine lv_iload_n hx hb dX0_rideDaysOfSet_13 rfl (lv_at hl 3 rfl) ?_
      obtain ⟨r2, h3, hm⟩ := ob hm
      refine k_rNi S hK hP cal_X5_bit gX0_rideDaysOfSet_X5_bit_n46 (List.mem_of_getElem? (i := 3) rfl) (List.mem_of_getElem? (i := 3) rfl) (List.mem_of_getElem? (i := 2) rfl) (c_X5_bit l D cC cI cJ v3 r2 h3) ⟨⟨rfl, rfl⟩, Nat.le_of_ble_eq_true rfl, Nat.le_of_ble_eq_true rfl⟩ [] rfl rfl hl.1 rfl (Nat.le_of_ble_eq_true rfl) dX0_rideDaysOfSet_14 ⟨Nat.zero_le _, Nat.zero_le _⟩ ?_
      refine lv_iand hx hb dX0_rideDaysOfSet_17 ?_
      refine lv_if_eq (tgt := 29) hx hb dX0_rideDaysOfSet_18 (by decide) (fun c4 => ?_) (fun c4 => ?_)
      · replace hm := ipos hm c4
        refine lv_iinc (v := (v3 + 1)) (lv' := [(3, .int (v3 + 1)), (0, .ref a_mo), (1, .int v1), (2, .int v2)]) hx hb dX0_rideDaysOfSet_29 hl (k := 3) rfl (by rw [ofi_1]) (by decide) rfl (fun ls hl => ?_)
        refine lv_goto (tgt := 4) hx hb dX0_rideDaysOfSet_32 (by decide) ?_
        exact ih v2 (v3 + 1) _ hm  ls (lv_sub hl [1, 2, 3, 0] rfl) K0
      · replace hm := ineg hm c4
        refine lv_iload_n hx hb dX0_rideDaysOfSet_21 rfl (lv_at hl 2 rfl) ?_
        refine lv_aload_n hx hb dX0_rideDaysOfSet_22 rfl (lv_at hl 0 rfl) ?_
        refine lv_iload_n hx hb dX0_rideDaysOfSet_23 rfl (lv_at hl 3 rfl) ?_
        obtain ⟨r5, h6, hm⟩ := ob hm
        refine k_rVi S hK hP cal_X0_rideDaysOf gX0_rideDaysOfSet_X0_rideDaysOf (c_X0_rideDaysOf l D cC cI cJ a_mo a_mo_kinds a_mo_days a_mo_rideDays a_mo_helpKinds a_mo_nexts a_mo_helperKinds a_mo_prices a_mo_helpersOfKind a_mo_numbers mo_tasks mo_helpers mo_askedFirst mo_crumbsFirst mo_lastDay mo_kinds mo_days mo_rideDays mo_helpKinds mo_nexts mo_helperKinds mo_prices mo_helpersOfKind mo_numbers v3 r5 h6) ⟨⟨rfl, rfl⟩, Nat.le_of_ble_eq_true rfl, Nat.le_of_ble_eq_true rfl⟩ [0, 1, 2, 3, 4, 5, 6, 7, 8, 9] rfl 0 rfl rfl rfl hl.1 rfl (Nat.le_of_ble_eq_true rfl) dX0_rideDaysOfSet_24 ⟨Nat.zero_le _, Nat.zero_le _⟩ ?_
        refine lv_iadd hx hb dX0_rideDaysOfSet_27 ?_
        refine lv_istore_n (lv' := [(2, .int (v2 + r5)), (0, .ref a_mo), (1, .int v1), (3, .int v3)]) hx hb dX0_rideDaysOfSet_28 rfl hl (by decide) rfl (fun ls hl => ?_)
        refine lv_iinc (v := (v3 + 1)) (lv' := [(3, .int (v3 + 1)), (2, .int (v2 + r5)), (0, .ref a_mo), (1, .int v1)]) hx hb dX0_rideDaysOfSet_29 hl (k := 3) rfl (by rw [ofi_1]) (by decide) rfl (fun ls hl => ?_)
        refine lv_goto (tgt := 4) hx hb dX0_rideDaysOfSet_32 (by decide) ?_
        exact ih (v2 + r5) (v3 + 1) _ hm  ls (lv_sub hl [2, 3, 1, 0] rfl) K0
set_option maxHeartbeats 4000000 in
set_option maxRecDepth 100000 in
theorem c_X0_rideDaysOfSet (l : Launch) (D : va_G) (cC cI cJ : ClassId) (a_mo : Nat) (a_mo_kinds : Nat) (a_mo_days : Nat) (a_mo_rideDays : Nat) (a_mo_helpKinds : Nat) (a_mo_nexts : Nat) (a_mo_helperKinds : Nat) (a_mo_prices : Nat) (a_mo_helpersOfKind : Nat) (a_mo_numbers : Nat) (mo_tasks : Int32) (mo_helpers : Int32) (mo_askedFirst : Int32) (mo_crumbsFirst : Int32) (mo_lastDay : Int32) (mo_kinds : (Nat → Int32)) (mo_days : (Nat → Int32)) (mo_rideDays : (Nat → Int32)) (mo_helpKinds : (Nat → Int32)) (mo_nexts : (Nat → Int32)) (mo_helperKinds : (Nat → Int32)) (mo_prices : (Nat → Int32)) (mo_helpersOfKind : (Nat → Int32)) (mo_numbers : (Nat → Int32)) (p0 : Int32) (N : Nat) (out : Int32) (hm : m_X0_rideDaysOfSet N mo_tasks mo_rideDays p0 = some out) : RdI l yX0_rideDaysOfSet wsX0_rideDaysOfSet rX0_rideDaysOfSet D (tyK cC cI cJ) [.ref a_mo, .int p0] (wd_0 cC cI cJ a_mo mo_tasks mo_helpers mo_askedFirst mo_crumbsFirst mo_lastDay a_mo_kinds a_mo_days a_mo_rideDays a_mo_helpKinds a_mo_nexts a_mo_helperKinds a_mo_prices a_mo_helpersOfKind a_mo_numbers a_mo_kinds mo_kinds a_mo_days mo_days a_mo_rideDays mo_rideDays a_mo_helpKinds mo_helpKinds a_mo_nexts mo_nexts a_mo_helperKinds mo_helperKinds a_mo_prices mo_prices a_mo_helpersOfKind mo_helpersOfKind a_mo_numbers mo_numbers) out := by
  unfold m_X0_rideDaysOfSet at hm
  refine enter (cc := cX0_rideDaysOfSet) (maxL := 4) (ret := (some .int)) (lv := [(0, .ref a_mo), (1, .int p0)]) (by decide) rfl (Nat.le_of_ble_eq_true rfl) rfl ?_
  intro p e s m args below meth c S hr hlk hK hP ls hl
  replace S : CallFix p m c cX0_rideDaysOfSet 4 s args wsX0_rideDaysOfSet RX0 := S
  have hx := S.1
  have hb := S.2.1
  refine lv_iconst (v := 0) hx hb dX0_rideDaysOfSet_0 (by decide) ?_
  refine lv_istore_n (lv' := [(2, .int (0 : Int32)), (0, .ref a_mo), (1, .int p0)]) hx hb dX0_rideDaysOfSet_1 rfl hl (by decide) rfl (fun ls hl => ?_)
  refine lv_iconst (v := 0) hx hb dX0_rideDaysOfSet_2 (by decide) ?_
  refine lv_istore_n (lv' := [(3, .int (0 : Int32)), (2, .int (0 : Int32)), (0, .ref a_mo), (1, .int p0)]) hx hb dX0_rideDaysOfSet_3 rfl hl (by decide) rfl (fun ls hl => ?_)
  obtain ⟨r7, h8, hm⟩ := ob hm
  refine t_X0_rideDaysOfSet_4 l S hK a_mo a_mo_kinds a_mo_days a_mo_rideDays a_mo_helpKinds a_mo_nexts a_mo_helperKinds a_mo_prices a_mo_helpersOfKind a_mo_numbers p0 mo_tasks mo_helpers mo_askedFirst mo_crumbsFirst mo_lastDay mo_kinds mo_days mo_rideDays mo_helpKinds mo_nexts mo_helperKinds mo_prices mo_helpersOfKind mo_numbers hP N (0 : Int32) (0 : Int32) r7 h8  ls (lv_sub hl [2, 3, 1, 0] rfl) (fun ls hl => ?_)
  refine lv_iload_n hx hb dX0_rideDaysOfSet_35 rfl (lv_at hl 0 rfl) ?_
  exact e_RI S hr hlk (Option.some.inj hm) dX0_rideDaysOfSet_36

abbrev rX0_tasksThatAsk : Room := { frames := 1, cells := 0, slots := 0, locals := 21 }
theorem cal_X0_tasksThatAsk : Cal yX0_tasksThatAsk wsX0_tasksThatAsk cX0_tasksThatAsk 4 (some .int) RX0 1 := ⟨⟨_, rfl⟩, rfl, by decide +kernel, by decide +kernel, by decide +kernel⟩
theorem in_X0_tasksThatAsk_X0 : ∀ w ∈ wsX00, w ∈ wsX0_tasksThatAsk := fun _ h => (List.mem_cons_of_mem _ (List.mem_append_right _ h))
set_option maxHeartbeats 4000000 in
set_option maxRecDepth 100000 in
theorem t_X0_tasksThatAsk_4 {p : Program} {e : Env} {s : State} {m : MethodId} {args : Array Value} {below : List Frame} {meth : Method} {c : Code} {Q : State → Prop} {H : Heap} {locs : List Loc} (l : Launch) {D : va_G} {cC cI cJ : ClassId} (S : CallFix p m c cX0_tasksThatAsk 4 s args wsX0_tasksThatAsk RX0) (hK : KK D (tyK cC cI cJ) s) (a_mo : Nat) (a_mo_kinds : Nat) (a_mo_days : Nat) (a_mo_rideDays : Nat) (a_mo_helpKinds : Nat) (a_mo_nexts : Nat) (a_mo_helperKinds : Nat) (a_mo_prices : Nat) (a_mo_helpersOfKind : Nat) (a_mo_numbers : Nat) (v1 : Int32) (mo_tasks : Int32) (mo_helpers : Int32) (mo_askedFirst : Int32) (mo_crumbsFirst : Int32) (mo_lastDay : Int32) (mo_kinds : (Nat → Int32)) (mo_days : (Nat → Int32)) (mo_rideDays : (Nat → Int32)) (mo_helpKinds : (Nat → Int32)) (mo_nexts : (Nat → Int32)) (mo_helperKinds : (Nat → Int32)) (mo_prices : (Nat → Int32)) (mo_helpersOfKind : (Nat → Int32)) (mo_numbers : (Nat → Int32)) (hP : va_P D vwCl (wd_0 cC cI cJ a_mo mo_tasks mo_helpers mo_askedFirst mo_crumbsFirst mo_lastDay a_mo_kinds a_mo_days a_mo_rideDays a_mo_helpKinds a_mo_nexts a_mo_helperKinds a_mo_prices a_mo_helpersOfKind a_mo_numbers a_mo_kinds mo_kinds a_mo_days mo_days a_mo_rideDays mo_rideDays a_mo_helpKinds mo_helpKinds a_mo_nexts mo_nexts a_mo_helperKinds mo_helperKinds a_mo_prices mo_prices a_mo_helpersOfKind mo_helpersOfKind a_mo_numbers mo_numbers) H) : ∀ (n : Nat) (v2 : Int32) (v3 : Int32) (out : Int32), lp_X0_tasksThatAsk_4 v1 mo_tasks mo_nexts n v2 v3 = some out → ∀ (ls : Array Slot), lv_has ls 4 [(0, .ref a_mo), (1, .int v1), (2, .int v2), (3, .int v3)] → (∀ (ls : Array Slot), lv_has ls 4 [(2, .int out)] → W p l e rX0_tasksThatAsk s m args below meth c H locs 0 0 Q (F0 m 39 ls [])) → W p l e rX0_tasksThatAsk s m args below meth c H locs 0 0 Q (F0 m 4 ls []) := by
  have hx := S.1
  have hb := S.2.1
  intro n
  induction n with
  | zero => intro v2 v3 out hm; cases (show (none : Option Int32) = some out from hm)
  | succ n ih =>
    intro v2 v3 out hm  ls hl K0
    rw [lp_X0_tasksThatAsk_4] at hm
    refine lv_iload_n hx hb dX0_tasksThatAsk_4 rfl (lv_at hl 3 rfl) ?_
    refine lv_aload_n hx hb dX0_tasksThatAsk_5 rfl (lv_at hl 0 rfl) ?_
    refine f_get S hK hP in_X0_tasksThatAsk_X0 0 rfl rfl 0 (by decide) (List.mem_of_getElem? (i := 1) rfl) rfl rfl dX0_tasksThatAsk_6 ?_
    refine lv_icmp_ge (tgt := 39) hx hb dX0_tasksThatAsk_9 (by decide) (fun c1 => ?_) (fun c1 => ?_)
    · replace hm := ipos hm c1
      obtain rfl := Option.some.inj hm
      exact K0  ls (lv_sub hl [2] rfl)
    · replace hm := ineg hm c1
      refine lv_iload_n hx hb dX0_tasksThatAsk_12 rfl (lv_at hl 3 rfl) ?_
      refine lv_iload_n hx hb dX0_tasksThatAsk_13 rfl (lv_at hl 1 rfl) ?_
      refine lv_icmp_eq (tgt := 33) hx hb dX0_tasksThatAsk_14 (by decide) (fun c2 => ?_) (fun c2 => ?_)
      · replace hm := ipos hm c2
        refine lv_iinc (v := (v3 + 1)) (lv' := [(3, .int (v3 + 1)), (0, .ref a_mo), (1, .int v1), (2, .int v2)]) hx hb dX0_tasksThatAsk_33 hl (k := 3) rfl (by rw [ofi_1]) (by decide) rfl (fun ls hl => ?_)
        refine lv_goto (tgt := 4) hx hb dX0_tasksThatAsk_36 (by decide) ?_
        exact ih v2 (v3 + 1) _ hm  ls (lv_sub hl [1, 2, 3, 0] rfl) K0
      · replace hm := ineg hm c2
        refine lv_aload_n hx hb dX0_tasksThatAsk_17 rfl (lv_at hl 0 rfl) ?_
        refine lv_iload_n hx hb dX0_tasksThatAsk_18 rfl (lv_at hl 3 rfl) ?_
        obtain ⟨r3, h4, hm⟩ := ob hm
        refine k_rVi S hK hP cal_X0_nextOf gX0_tasksThatAsk_X0_nextOf (c_X0_nextOf l D cC cI cJ a_mo a_mo_kinds a_mo_days a_mo_rideDays a_mo_helpKinds a_mo_nexts a_mo_helperKinds a_mo_prices a_mo_helpersOfKind a_mo_numbers mo_tasks mo_helpers mo_askedFirst mo_crumbsFirst mo_lastDay mo_kinds mo_days mo_rideDays mo_helpKinds mo_nexts mo_helperKinds mo_prices mo_helpersOfKind mo_numbers v3 r3 h4) ⟨⟨rfl, rfl⟩, Nat.le_of_ble_eq_true rfl, Nat.le_of_ble_eq_true rfl⟩ [0, 1, 2, 3, 4, 5, 6, 7, 8, 9] rfl 0 rfl rfl rfl hl.1 rfl (Nat.le_of_ble_eq_true rfl) dX0_tasksThatAsk_19 ⟨Nat.zero_le _, Nat.zero_le _⟩ ?_
        refine lv_iload_n hx hb dX0_tasksThatAsk_22 rfl (lv_at hl 1 rfl) ?_
        refine lv_icmp_ne (tgt := 33) hx hb dX0_tasksThatAsk_23 (by decide) (fun c5 => ?_) (fun c5 => ?_)
        · replace hm := ineg hm c5
          refine lv_iinc (v := (v3 + 1)) (lv' := [(3, .int (v3 + 1)), (0, .ref a_mo), (1, .int v1), (2, .int v2)]) hx hb dX0_tasksThatAsk_33 hl (k := 3) rfl (by rw [ofi_1]) (by decide) rfl (fun ls hl => ?_)
          refine lv_goto (tgt := 4) hx hb dX0_tasksThatAsk_36 (by decide) ?_
          exact ih v2 (v3 + 1) _ hm  ls (lv_sub hl [1, 2, 3, 0] rfl) K0
        · replace hm := ipos hm c5
          refine lv_iload_n hx hb dX0_tasksThatAsk_26 rfl (lv_at hl 2 rfl) ?_
          refine lv_iload_n hx hb dX0_tasksThatAsk_27 rfl (lv_at hl 3 rfl) ?_
          obtain ⟨r6, h7, hm⟩ := ob hm
          refine k_rNi S hK hP cal_X5_bit gX0_tasksThatAsk_X5_bit_n46 (List.mem_of_getElem? (i := 3) rfl) (List.mem_of_getElem? (i := 9) rfl) (List.mem_of_getElem? (i := 8) rfl) (c_X5_bit l D cC cI cJ v3 r6 h7) ⟨⟨rfl, rfl⟩, Nat.le_of_ble_eq_true rfl, Nat.le_of_ble_eq_true rfl⟩ [] rfl rfl hl.1 rfl (Nat.le_of_ble_eq_true rfl) dX0_tasksThatAsk_28 ⟨Nat.zero_le _, Nat.zero_le _⟩ ?_
          refine lv_ior hx hb dX0_tasksThatAsk_31 ?_
          refine lv_istore_n (lv' := [(2, .int (v2 ||| r6)), (0, .ref a_mo), (1, .int v1), (3, .int v3)]) hx hb dX0_tasksThatAsk_32 rfl hl (by decide) rfl (fun ls hl => ?_)
          refine lv_iinc (v := (v3 + 1)) (lv' := [(3, .int (v3 + 1)), (2, .int (v2 ||| r6)), (0, .ref a_mo), (1, .int v1)]) hx hb dX0_tasksThatAsk_33 hl (k := 3) rfl (by rw [ofi_1]) (by decide) rfl (fun ls hl => ?_)
          refine lv_goto (tgt := 4) hx hb dX0_tasksThatAsk_36 (by decide) ?_
          exact ih (v2 ||| r6) (v3 + 1) _ hm  ls (lv_sub hl [2, 3, 1, 0] rfl) K0
set_option maxHeartbeats 4000000 in
set_option maxRecDepth 100000 in
theorem c_X0_tasksThatAsk (l : Launch) (D : va_G) (cC cI cJ : ClassId) (a_mo : Nat) (a_mo_kinds : Nat) (a_mo_days : Nat) (a_mo_rideDays : Nat) (a_mo_helpKinds : Nat) (a_mo_nexts : Nat) (a_mo_helperKinds : Nat) (a_mo_prices : Nat) (a_mo_helpersOfKind : Nat) (a_mo_numbers : Nat) (mo_tasks : Int32) (mo_helpers : Int32) (mo_askedFirst : Int32) (mo_crumbsFirst : Int32) (mo_lastDay : Int32) (mo_kinds : (Nat → Int32)) (mo_days : (Nat → Int32)) (mo_rideDays : (Nat → Int32)) (mo_helpKinds : (Nat → Int32)) (mo_nexts : (Nat → Int32)) (mo_helperKinds : (Nat → Int32)) (mo_prices : (Nat → Int32)) (mo_helpersOfKind : (Nat → Int32)) (mo_numbers : (Nat → Int32)) (p0 : Int32) (N : Nat) (out : Int32) (hm : m_X0_tasksThatAsk N mo_tasks mo_nexts p0 = some out) : RdI l yX0_tasksThatAsk wsX0_tasksThatAsk rX0_tasksThatAsk D (tyK cC cI cJ) [.ref a_mo, .int p0] (wd_0 cC cI cJ a_mo mo_tasks mo_helpers mo_askedFirst mo_crumbsFirst mo_lastDay a_mo_kinds a_mo_days a_mo_rideDays a_mo_helpKinds a_mo_nexts a_mo_helperKinds a_mo_prices a_mo_helpersOfKind a_mo_numbers a_mo_kinds mo_kinds a_mo_days mo_days a_mo_rideDays mo_rideDays a_mo_helpKinds mo_helpKinds a_mo_nexts mo_nexts a_mo_helperKinds mo_helperKinds a_mo_prices mo_prices a_mo_helpersOfKind mo_helpersOfKind a_mo_numbers mo_numbers) out := by
  unfold m_X0_tasksThatAsk at hm
  refine enter (cc := cX0_tasksThatAsk) (maxL := 4) (ret := (some .int)) (lv := [(0, .ref a_mo), (1, .int p0)]) (by decide) rfl (Nat.le_of_ble_eq_true rfl) rfl ?_
  intro p e s m args below meth c S hr hlk hK hP ls hl
  replace S : CallFix p m c cX0_tasksThatAsk 4 s args wsX0_tasksThatAsk RX0 := S
  have hx := S.1
  have hb := S.2.1
  refine lv_iconst (v := 0) hx hb dX0_tasksThatAsk_0 (by decide) ?_
  refine lv_istore_n (lv' := [(2, .int (0 : Int32)), (0, .ref a_mo), (1, .int p0)]) hx hb dX0_tasksThatAsk_1 rfl hl (by decide) rfl (fun ls hl => ?_)
  refine lv_iconst (v := 0) hx hb dX0_tasksThatAsk_2 (by decide) ?_
  refine lv_istore_n (lv' := [(3, .int (0 : Int32)), (2, .int (0 : Int32)), (0, .ref a_mo), (1, .int p0)]) hx hb dX0_tasksThatAsk_3 rfl hl (by decide) rfl (fun ls hl => ?_)
  obtain ⟨r8, h9, hm⟩ := ob hm
  refine t_X0_tasksThatAsk_4 l S hK a_mo a_mo_kinds a_mo_days a_mo_rideDays a_mo_helpKinds a_mo_nexts a_mo_helperKinds a_mo_prices a_mo_helpersOfKind a_mo_numbers p0 mo_tasks mo_helpers mo_askedFirst mo_crumbsFirst mo_lastDay mo_kinds mo_days mo_rideDays mo_helpKinds mo_nexts mo_helperKinds mo_prices mo_helpersOfKind mo_numbers hP N (0 : Int32) (0 : Int32) r8 h9  ls (lv_sub hl [2, 3, 1, 0] rfl) (fun ls hl => ?_)
  refine lv_iload_n hx hb dX0_tasksThatAsk_39 rfl (lv_at hl 0 rfl) ?_
  exact e_RI S hr hlk (Option.some.inj hm) dX0_tasksThatAsk_40

abbrev rX1_clear : Room := { frames := 0, cells := 0, slots := 0, locals := 0 }
theorem cal_X1_clear : Cal yX1_clear wsX1_clear cX1_clear 1 none RX1 0 := ⟨⟨_, rfl⟩, rfl, by decide +kernel, by decide +kernel, by decide +kernel⟩
theorem in_X1_clear_X1 : ∀ w ∈ wsX10, w ∈ wsX1_clear := fun _ h => (List.mem_cons_of_mem _ (List.mem_append_right _ h))
set_option maxHeartbeats 4000000 in
set_option maxRecDepth 100000 in
theorem c_X1_clear (l : Launch) (D : va_G) (cC cI cJ : ClassId) (a_pi : Nat) (a_pi_held : Nat) (pi_size : Int32) (pi_len : Nat) (pi_held : (Nat → Int64)) (A : Nat → Prop) (hD : va_D A (wd_4 cC cI cJ a_pi pi_size a_pi_held a_pi_held pi_len pi_held)) (out : Int32) (hm : m_X1_clear  = some out) : WrV l yX1_clear wsX1_clear rX1_clear D (tyK cC cI cJ) [.ref a_pi] A (wd_4 cC cI cJ a_pi pi_size a_pi_held a_pi_held pi_len pi_held) (Bw0 D (wd_4 cC cI cJ a_pi out a_pi_held a_pi_held pi_len pi_held)) := by
  unfold m_X1_clear at hm
  refine enter (cc := cX1_clear) (maxL := 1) (ret := none) (lv := [(0, .ref a_pi)]) (by decide) rfl (Nat.le_of_ble_eq_true rfl) rfl ?_
  intro p e s m args below meth c S hr hlk hK hP ls hl
  replace S : CallFix p m c cX1_clear 1 s args wsX1_clear RX1 := S
  have hx := S.1
  have hb := S.2.1
  have hw : Wd D A s.heap (wd_4 cC cI cJ a_pi pi_size a_pi_held a_pi_held pi_len pi_held) s.heap [] := ⟨hP, hD, va_S.rf⟩
  have hw0 := hw
  refine lv_aload_n hx hb dX1_clear_0 rfl (lv_at hl 0 rfl) ?_
  refine lv_iconst (v := 0) hx hb dX1_clear_1 (by decide) ?_
  refine f_put S hK hw in_X1_clear_X1 tyX1_ok nmX1 0 rfl rfl 0 (by decide) (List.mem_of_getElem? (i := 1) rfl) rfl rfl rfl rfl (Nat.le_of_ble_eq_true rfl) (ws1 := (wd_4 cC cI cJ a_pi (0 : Int32) a_pi_held a_pi_held pi_len pi_held)) rfl dX1_clear_2 (fun H locs hw => ?_)
  obtain rfl := Option.some.inj hm
  exact e_WV S hr hlk hw hw.1 dX1_clear_5

abbrev rX1_dropLowest : Room := { frames := 0, cells := 0, slots := 0, locals := 0 }
theorem cal_X1_dropLowest : Cal yX1_dropLowest wsX1_dropLowest cX1_dropLowest 2 none RX1 0 := ⟨⟨_, rfl⟩, rfl, by decide +kernel, by decide +kernel, by decide +kernel⟩
theorem in_X1_dropLowest_X1 : ∀ w ∈ wsX10, w ∈ wsX1_dropLowest := fun _ h => (List.mem_cons_of_mem _ (List.mem_append_right _ h))
set_option maxHeartbeats 4000000 in
set_option maxRecDepth 100000 in
theorem t_X1_dropLowest_2 {p : Program} {e : Env} {s : State} {m : MethodId} {args : Array Value} {below : List Frame} {meth : Method} {c : Code} {Q : State → Prop} (l : Launch) {D : va_G} {cC cI cJ : ClassId} {A : Nat → Prop} {H0 : Heap} (S : CallFix p m c cX1_dropLowest 2 s args wsX1_dropLowest RX1) (hK : KK D (tyK cC cI cJ) s) (a_pi : Nat) (a_pi_held : Nat) (pi_size : Int32) (pi_len : Nat) : ∀ (n : Nat) (v1 : Int32) (pi_held : (Nat → Int64)) (out : (Nat → Int64)), lp_X1_dropLowest_2 pi_len n v1 pi_held = some out → ∀ (H : Heap) (locs : List Loc) (ls : Array Slot), Wd D A H0 (wd_4 cC cI cJ a_pi pi_size a_pi_held a_pi_held pi_len pi_held) H locs → lv_has ls 2 [(0, .ref a_pi), (1, .int v1)] → (∀ (H : Heap) (locs : List Loc) (ls : Array Slot), Wd D A H0 (wd_4 cC cI cJ a_pi pi_size a_pi_held a_pi_held pi_len out) H locs → lv_has ls 2 [(0, .ref a_pi)] → W p l e rX1_dropLowest s m args below meth c H locs 0 0 Q (F0 m 31 ls [])) → W p l e rX1_dropLowest s m args below meth c H locs 0 0 Q (F0 m 2 ls []) := by
  have hx := S.1
  have hb := S.2.1
  intro n
  induction n with
  | zero => intro v1 pi_held out hm; cases (show (none : Option (Nat → Int64)) = some out from hm)
  | succ n ih =>
    intro v1 pi_held out hm  H locs ls hw hl K0
    rw [lp_X1_dropLowest_2] at hm
    refine lv_iload_n hx hb dX1_dropLowest_2 rfl (lv_at hl 1 rfl) ?_
    refine lv_aload_n hx hb dX1_dropLowest_3 rfl (lv_at hl 0 rfl) ?_
    refine f_get S hK hw.1 in_X1_dropLowest_X1 0 rfl rfl 1 (by decide) (List.mem_of_getElem? (i := 1) rfl) rfl rfl dX1_dropLowest_4 ?_
    refine f_alen S hK hw.1 1 2 rfl rfl (v := (Int32.ofNat pi_len)) rfl dX1_dropLowest_7 ?_
    refine lv_icmp_ge (tgt := 31) hx hb dX1_dropLowest_8 (by decide) (fun c1 => ?_) (fun c1 => ?_)
    · replace hm := ipos hm c1
      obtain rfl := Option.some.inj hm
      exact K0  _ _ ls hw (lv_sub hl [0] rfl)
    · replace hm := ineg hm c1
      refine lv_aload_n hx hb dX1_dropLowest_11 rfl (lv_at hl 0 rfl) ?_
      refine f_get S hK hw.1 in_X1_dropLowest_X1 0 rfl rfl 1 (by decide) (List.mem_of_getElem? (i := 1) rfl) rfl rfl dX1_dropLowest_12 ?_
      refine lv_iload_n hx hb dX1_dropLowest_15 rfl (lv_at hl 1 rfl) ?_
      refine lv_iconst (v := 1) hx hb dX1_dropLowest_16 (by decide) ?_
      refine lv_isub hx hb dX1_dropLowest_17 ?_
      refine lv_aload_n hx hb dX1_dropLowest_18 rfl (lv_at hl 0 rfl) ?_
      refine f_get S hK hw.1 in_X1_dropLowest_X1 0 rfl rfl 1 (by decide) (List.mem_of_getElem? (i := 1) rfl) rfl rfl dX1_dropLowest_19 ?_
      refine lv_iload_n hx hb dX1_dropLowest_22 rfl (lv_at hl 1 rfl) ?_
      obtain ⟨g2, hm⟩ := gdo hm
      refine f_lald S hK hw.1 1 2 rfl rfl g2 dX1_dropLowest_23 ?_
      obtain ⟨g3, hm⟩ := gdo hm
      refine f_last S hK hw 1 2 rfl rfl g3 (ws1 := (wd_4 cC cI cJ a_pi pi_size a_pi_held a_pi_held pi_len (vp_updL pi_held ((v1 - (1 : Int32))).toNatClampNeg (pi_held (v1).toNatClampNeg)))) rfl dX1_dropLowest_24 (fun H locs hw => ?_)
      refine lv_iinc (v := (v1 + 1)) (lv' := [(1, .int (v1 + 1)), (0, .ref a_pi)]) hx hb dX1_dropLowest_25 hl (k := 1) rfl (by rw [ofi_1]) (by decide) rfl (fun ls hl => ?_)
      refine lv_goto (tgt := 2) hx hb dX1_dropLowest_28 (by decide) ?_
      exact ih (v1 + 1) (vp_updL pi_held ((v1 - (1 : Int32))).toNatClampNeg (pi_held (v1).toNatClampNeg)) _ hm  _ _ ls hw (lv_sub hl [1, 0] rfl) K0
set_option maxHeartbeats 4000000 in
set_option maxRecDepth 100000 in
theorem c_X1_dropLowest (l : Launch) (D : va_G) (cC cI cJ : ClassId) (a_pi : Nat) (a_pi_held : Nat) (pi_size : Int32) (pi_len : Nat) (pi_held : (Nat → Int64)) (N : Nat) (A : Nat → Prop) (hD : va_D A (wd_4 cC cI cJ a_pi pi_size a_pi_held a_pi_held pi_len pi_held)) (out : (Int32 × (Nat → Int64))) (hm : m_X1_dropLowest N pi_len pi_held = some out) : WrV l yX1_dropLowest wsX1_dropLowest rX1_dropLowest D (tyK cC cI cJ) [.ref a_pi] A (wd_4 cC cI cJ a_pi pi_size a_pi_held a_pi_held pi_len pi_held) (Bw0 D (wd_4 cC cI cJ a_pi out.1 a_pi_held a_pi_held pi_len out.2)) := by
  unfold m_X1_dropLowest at hm
  refine enter (cc := cX1_dropLowest) (maxL := 2) (ret := none) (lv := [(0, .ref a_pi)]) (by decide) rfl (Nat.le_of_ble_eq_true rfl) rfl ?_
  intro p e s m args below meth c S hr hlk hK hP ls hl
  replace S : CallFix p m c cX1_dropLowest 2 s args wsX1_dropLowest RX1 := S
  have hx := S.1
  have hb := S.2.1
  have hw : Wd D A s.heap (wd_4 cC cI cJ a_pi pi_size a_pi_held a_pi_held pi_len pi_held) s.heap [] := ⟨hP, hD, va_S.rf⟩
  have hw0 := hw
  refine lv_iconst (v := 1) hx hb dX1_dropLowest_0 (by decide) ?_
  refine lv_istore_n (lv' := [(1, .int (1 : Int32)), (0, .ref a_pi)]) hx hb dX1_dropLowest_1 rfl hl (by decide) rfl (fun ls hl => ?_)
  obtain ⟨r4, h5, hm⟩ := ob hm
  refine t_X1_dropLowest_2 l S hK a_pi a_pi_held pi_size pi_len N (1 : Int32) pi_held r4 h5  _ _ ls hw (lv_sub hl [1, 0] rfl) (fun H locs ls hw hl => ?_)
  refine lv_aload_n hx hb dX1_dropLowest_31 rfl (lv_at hl 0 rfl) ?_
  refine lv_aload_n hx hb dX1_dropLowest_32 rfl (lv_at hl 0 rfl) ?_
  refine f_get S hK hw.1 in_X1_dropLowest_X1 0 rfl rfl 1 (by decide) (List.mem_of_getElem? (i := 1) rfl) rfl rfl dX1_dropLowest_33 ?_
  refine f_alen S hK hw.1 1 2 rfl rfl (v := (Int32.ofNat pi_len)) rfl dX1_dropLowest_36 ?_
  refine lv_iconst (v := 1) hx hb dX1_dropLowest_37 (by decide) ?_
  refine lv_isub hx hb dX1_dropLowest_38 ?_
  obtain ⟨y6, e7, hm⟩ := ob hm
  refine f_name e7 ?_
  refine f_put S hK hw in_X1_dropLowest_X1 tyX1_ok nmX1 0 rfl rfl 0 (by decide) (List.mem_of_getElem? (i := 2) rfl) rfl rfl rfl rfl (Nat.le_of_ble_eq_true rfl) (ws1 := (wd_4 cC cI cJ a_pi y6 a_pi_held a_pi_held pi_len r4)) rfl dX1_dropLowest_39 (fun H locs hw => ?_)
  obtain rfl := Option.some.inj hm
  exact e_WV S hr hlk hw hw.1 dX1_dropLowest_42

abbrev rX1_put : Room := { frames := 1, cells := 0, slots := 0, locals := 21 }
theorem cal_X1_put : Cal yX1_put wsX1_put cX1_put 3 none RX1 1 := ⟨⟨_, rfl⟩, rfl, by decide +kernel, by decide +kernel, by decide +kernel⟩
theorem in_X1_put_X1 : ∀ w ∈ wsX10, w ∈ wsX1_put := fun _ h => (List.mem_cons_of_mem _ (List.mem_append_right _ h))
set_option maxHeartbeats 4000000 in
set_option maxRecDepth 100000 in
theorem c_X1_put (l : Launch) (D : va_G) (cC cI cJ : ClassId) (a_pi : Nat) (a_pi_held : Nat) (pi_size : Int32) (pi_len : Nat) (pi_held : (Nat → Int64)) (p0 : Int64) (N : Nat) (A : Nat → Prop) (hD : va_D A (wd_4 cC cI cJ a_pi pi_size a_pi_held a_pi_held pi_len pi_held)) (out : (Int32 × (Nat → Int64))) (hm : m_X1_put N pi_size pi_len pi_held p0 = some out) : WrV l yX1_put wsX1_put rX1_put D (tyK cC cI cJ) [.ref a_pi, .long p0] A (wd_4 cC cI cJ a_pi pi_size a_pi_held a_pi_held pi_len pi_held) (Bw0 D (wd_4 cC cI cJ a_pi out.1 a_pi_held a_pi_held pi_len out.2)) := by
  unfold m_X1_put at hm
  refine enter (cc := cX1_put) (maxL := 3) (ret := none) (lv := [(0, .ref a_pi), (1, .long p0)]) (by decide) rfl (Nat.le_of_ble_eq_true rfl) rfl ?_
  intro p e s m args below meth c S hr hlk hK hP ls hl
  replace S : CallFix p m c cX1_put 3 s args wsX1_put RX1 := S
  have hx := S.1
  have hb := S.2.1
  have hw : Wd D A s.heap (wd_4 cC cI cJ a_pi pi_size a_pi_held a_pi_held pi_len pi_held) s.heap [] := ⟨hP, hD, va_S.rf⟩
  have hw0 := hw
  refine lv_aload_n hx hb dX1_put_0 rfl (lv_at hl 0 rfl) ?_
  refine f_get S hK hw.1 in_X1_put_X1 0 rfl rfl 0 (by decide) (List.mem_of_getElem? (i := 1) rfl) rfl rfl dX1_put_1 ?_
  refine lv_aload_n hx hb dX1_put_4 rfl (lv_at hl 0 rfl) ?_
  refine f_get S hK hw.1 in_X1_put_X1 0 rfl rfl 1 (by decide) (List.mem_of_getElem? (i := 2) rfl) rfl rfl dX1_put_5 ?_
  refine f_alen S hK hw.1 1 2 rfl rfl (v := (Int32.ofNat pi_len)) rfl dX1_put_8 ?_
  refine lv_icmp_lt (tgt := 16) hx hb dX1_put_9 (by decide) (fun c1 => ?_) (fun c1 => ?_)
  · replace hm := ipos hm c1
    refine lv_aload_n hx hb dX1_put_16 rfl (lv_at hl 0 rfl) ?_
    refine f_get S hK hw.1 in_X1_put_X1 0 rfl rfl 0 (by decide) (List.mem_of_getElem? (i := 1) rfl) rfl rfl dX1_put_17 ?_
    refine lv_if_lt (tgt := 55) hx hb dX1_put_20 (by decide) (fun c2 => ?_) (fun c2 => ?_)
    · replace hm := ipos hm c2
      obtain rfl := Option.some.inj hm
      exact e_WV S hr hlk hw hw.1 dX1_put_55
    · replace hm := ineg hm c2
      refine lv_aload_n hx hb dX1_put_23 rfl (lv_at hl 0 rfl) ?_
      refine f_get S hK hw.1 in_X1_put_X1 0 rfl rfl 0 (by decide) (List.mem_of_getElem? (i := 1) rfl) rfl rfl dX1_put_24 ?_
      refine lv_aload_n hx hb dX1_put_27 rfl (lv_at hl 0 rfl) ?_
      refine f_get S hK hw.1 in_X1_put_X1 0 rfl rfl 1 (by decide) (List.mem_of_getElem? (i := 2) rfl) rfl rfl dX1_put_28 ?_
      refine f_alen S hK hw.1 1 2 rfl rfl (v := (Int32.ofNat pi_len)) rfl dX1_put_31 ?_
      refine lv_icmp_ge (tgt := 55) hx hb dX1_put_32 (by decide) (fun c3 => ?_) (fun c3 => ?_)
      · replace hm := ipos hm c3
        obtain rfl := Option.some.inj hm
        exact e_WV S hr hlk hw hw.1 dX1_put_55
      · replace hm := ineg hm c3
        refine lv_aload_n hx hb dX1_put_35 rfl (lv_at hl 0 rfl) ?_
        refine f_get S hK hw.1 in_X1_put_X1 0 rfl rfl 1 (by decide) (List.mem_of_getElem? (i := 2) rfl) rfl rfl dX1_put_36 ?_
        refine lv_aload_n hx hb dX1_put_39 rfl (lv_at hl 0 rfl) ?_
        refine f_get S hK hw.1 in_X1_put_X1 0 rfl rfl 0 (by decide) (List.mem_of_getElem? (i := 1) rfl) rfl rfl dX1_put_40 ?_
        refine lv_lload_n hx hb dX1_put_43 rfl (lv_at hl 1 rfl) ?_
        obtain ⟨g4, hm⟩ := gdo hm
        refine f_last S hK hw 1 2 rfl rfl g4 (ws1 := (wd_4 cC cI cJ a_pi pi_size a_pi_held a_pi_held pi_len (vp_updL pi_held (pi_size).toNatClampNeg p0))) rfl dX1_put_44 (fun H locs hw => ?_)
        refine lv_aload_n hx hb dX1_put_45 rfl (lv_at hl 0 rfl) ?_
        refine lv_dup hx hb dX1_put_46 rfl ?_
        refine f_get S hK hw.1 in_X1_put_X1 0 rfl rfl 0 (by decide) (List.mem_of_getElem? (i := 1) rfl) rfl rfl dX1_put_47 ?_
        refine lv_iconst (v := 1) hx hb dX1_put_50 (by decide) ?_
        refine lv_iadd hx hb dX1_put_51 ?_
        refine f_put S hK hw in_X1_put_X1 tyX1_ok nmX1 0 rfl rfl 0 (by decide) (List.mem_of_getElem? (i := 1) rfl) rfl rfl rfl rfl (Nat.le_of_ble_eq_true rfl) (ws1 := (wd_4 cC cI cJ a_pi (pi_size + (1 : Int32)) a_pi_held a_pi_held pi_len (vp_updL pi_held (pi_size).toNatClampNeg p0))) rfl dX1_put_52 (fun H locs hw => ?_)
        obtain rfl := Option.some.inj hm
        exact e_WV S hr hlk hw hw.1 dX1_put_55
  · replace hm := ineg hm c1
    refine lv_aload_n hx hb dX1_put_12 rfl (lv_at hl 0 rfl) ?_
    obtain ⟨r5, h6, hm⟩ := ob hm
    refine k_wVv S hK hw cal_X1_dropLowest gX1_put_X1_dropLowest (c_X1_dropLowest l D cC cI cJ a_pi a_pi_held pi_size pi_len pi_held N (aw _) (hw.own [0, 1] (by decide) rfl) r5 h6) ⟨⟨rfl, rfl⟩, Nat.le_of_ble_eq_true rfl, Nat.le_of_ble_eq_true rfl⟩ [0, 1] rfl 0 rfl rfl rfl hl.1 rfl (Nat.le_of_ble_eq_true rfl) dX1_put_13 ⟨Nat.zero_le _, Nat.zero_le _⟩ (fun H locs hJ hB => ?_)
    have hw := hJ _ hB rfl
    replace hw : Wd D A _ (wd_4 cC cI cJ a_pi r5.1 a_pi_held a_pi_held pi_len r5.2) H locs := hw
    refine lv_aload_n hx hb dX1_put_16 rfl (lv_at hl 0 rfl) ?_
    refine f_get S hK hw.1 in_X1_put_X1 0 rfl rfl 0 (by decide) (List.mem_of_getElem? (i := 1) rfl) rfl rfl dX1_put_17 ?_
    refine lv_if_lt (tgt := 55) hx hb dX1_put_20 (by decide) (fun c7 => ?_) (fun c7 => ?_)
    · replace hm := ipos hm c7
      obtain rfl := Option.some.inj hm
      exact e_WV S hr hlk hw hw.1 dX1_put_55
    · replace hm := ineg hm c7
      refine lv_aload_n hx hb dX1_put_23 rfl (lv_at hl 0 rfl) ?_
      refine f_get S hK hw.1 in_X1_put_X1 0 rfl rfl 0 (by decide) (List.mem_of_getElem? (i := 1) rfl) rfl rfl dX1_put_24 ?_
      refine lv_aload_n hx hb dX1_put_27 rfl (lv_at hl 0 rfl) ?_
      refine f_get S hK hw.1 in_X1_put_X1 0 rfl rfl 1 (by decide) (List.mem_of_getElem? (i := 2) rfl) rfl rfl dX1_put_28 ?_
      refine f_alen S hK hw.1 1 2 rfl rfl (v := (Int32.ofNat pi_len)) rfl dX1_put_31 ?_
      refine lv_icmp_ge (tgt := 55) hx hb dX1_put_32 (by decide) (fun c8 => ?_) (fun c8 => ?_)
      · replace hm := ipos hm c8
        obtain rfl := Option.some.inj hm
        exact e_WV S hr hlk hw hw.1 dX1_put_55
      · replace hm := ineg hm c8
        refine lv_aload_n hx hb dX1_put_35 rfl (lv_at hl 0 rfl) ?_
        refine f_get S hK hw.1 in_X1_put_X1 0 rfl rfl 1 (by decide) (List.mem_of_getElem? (i := 2) rfl) rfl rfl dX1_put_36 ?_
        refine lv_aload_n hx hb dX1_put_39 rfl (lv_at hl 0 rfl) ?_
        refine f_get S hK hw.1 in_X1_put_X1 0 rfl rfl 0 (by decide) (List.mem_of_getElem? (i := 1) rfl) rfl rfl dX1_put_40 ?_
        refine lv_lload_n hx hb dX1_put_43 rfl (lv_at hl 1 rfl) ?_
        obtain ⟨g9, hm⟩ := gdo hm
        refine f_last S hK hw 1 2 rfl rfl g9 (ws1 := (wd_4 cC cI cJ a_pi r5.1 a_pi_held a_pi_held pi_len (vp_updL r5.2 (r5.1).toNatClampNeg p0))) rfl dX1_put_44 (fun H locs hw => ?_)
        refine lv_aload_n hx hb dX1_put_45 rfl (lv_at hl 0 rfl) ?_
        refine lv_dup hx hb dX1_put_46 rfl ?_
        refine f_get S hK hw.1 in_X1_put_X1 0 rfl rfl 0 (by decide) (List.mem_of_getElem? (i := 1) rfl) rfl rfl dX1_put_47 ?_
        refine lv_iconst (v := 1) hx hb dX1_put_50 (by decide) ?_
        refine lv_iadd hx hb dX1_put_51 ?_
        refine f_put S hK hw in_X1_put_X1 tyX1_ok nmX1 0 rfl rfl 0 (by decide) (List.mem_of_getElem? (i := 1) rfl) rfl rfl rfl rfl (Nat.le_of_ble_eq_true rfl) (ws1 := (wd_4 cC cI cJ a_pi (r5.1 + (1 : Int32)) a_pi_held a_pi_held pi_len (vp_updL r5.2 (r5.1).toNatClampNeg p0))) rfl dX1_put_52 (fun H locs hw => ?_)
        obtain rfl := Option.some.inj hm
        exact e_WV S hr hlk hw hw.1 dX1_put_55

abbrev rX1_takeLatest : Room := { frames := 0, cells := 0, slots := 0, locals := 0 }
theorem cal_X1_takeLatest : Cal yX1_takeLatest wsX1_takeLatest cX1_takeLatest 1 (some .long) RX1 0 := ⟨⟨_, rfl⟩, rfl, by decide +kernel, by decide +kernel, by decide +kernel⟩
theorem in_X1_takeLatest_X1 : ∀ w ∈ wsX10, w ∈ wsX1_takeLatest := fun _ h => (List.mem_cons_of_mem _ (List.mem_append_right _ h))
set_option maxHeartbeats 4000000 in
set_option maxRecDepth 100000 in
theorem c_X1_takeLatest (l : Launch) (D : va_G) (cC cI cJ : ClassId) (a_pi : Nat) (a_pi_held : Nat) (pi_size : Int32) (pi_len : Nat) (pi_held : (Nat → Int64)) (A : Nat → Prop) (hD : va_D A (wd_4 cC cI cJ a_pi pi_size a_pi_held a_pi_held pi_len pi_held)) (out : (Int64 × Int32)) (hm : m_X1_takeLatest pi_size pi_len pi_held = some out) : WrL l yX1_takeLatest wsX1_takeLatest rX1_takeLatest D (tyK cC cI cJ) [.ref a_pi] A (wd_4 cC cI cJ a_pi pi_size a_pi_held a_pi_held pi_len pi_held) (Bw0 D (wd_4 cC cI cJ a_pi out.2 a_pi_held a_pi_held pi_len pi_held)) out.1 := by
  unfold m_X1_takeLatest at hm
  refine enter (cc := cX1_takeLatest) (maxL := 1) (ret := (some .long)) (lv := [(0, .ref a_pi)]) (by decide) rfl (Nat.le_of_ble_eq_true rfl) rfl ?_
  intro p e s m args below meth c S hr hlk hK hP ls hl
  replace S : CallFix p m c cX1_takeLatest 1 s args wsX1_takeLatest RX1 := S
  have hx := S.1
  have hb := S.2.1
  have hw : Wd D A s.heap (wd_4 cC cI cJ a_pi pi_size a_pi_held a_pi_held pi_len pi_held) s.heap [] := ⟨hP, hD, va_S.rf⟩
  have hw0 := hw
  refine lv_aload_n hx hb dX1_takeLatest_0 rfl (lv_at hl 0 rfl) ?_
  refine f_get S hK hw.1 in_X1_takeLatest_X1 0 rfl rfl 0 (by decide) (List.mem_of_getElem? (i := 1) rfl) rfl rfl dX1_takeLatest_1 ?_
  refine lv_iconst (v := 1) hx hb dX1_takeLatest_4 (by decide) ?_
  refine lv_icmp_lt (tgt := 20) hx hb dX1_takeLatest_5 (by decide) (fun c1 => ?_) (fun c1 => ?_)
  · replace hm := ipos hm c1
    refine lv_lconst (v := 0) hx hb dX1_takeLatest_20 (by decide) ?_
    obtain rfl := Option.some.inj hm
    exact e_WL S hr hlk hw rfl hw.1 dX1_takeLatest_21
  · replace hm := ineg hm c1
    refine lv_aload_n hx hb dX1_takeLatest_8 rfl (lv_at hl 0 rfl) ?_
    refine f_get S hK hw.1 in_X1_takeLatest_X1 0 rfl rfl 0 (by decide) (List.mem_of_getElem? (i := 1) rfl) rfl rfl dX1_takeLatest_9 ?_
    refine lv_aload_n hx hb dX1_takeLatest_12 rfl (lv_at hl 0 rfl) ?_
    refine f_get S hK hw.1 in_X1_takeLatest_X1 0 rfl rfl 1 (by decide) (List.mem_of_getElem? (i := 2) rfl) rfl rfl dX1_takeLatest_13 ?_
    refine f_alen S hK hw.1 1 2 rfl rfl (v := (Int32.ofNat pi_len)) rfl dX1_takeLatest_16 ?_
    refine lv_icmp_le (tgt := 22) hx hb dX1_takeLatest_17 (by decide) (fun c2 => ?_) (fun c2 => ?_)
    · replace hm := ipos hm c2
      refine lv_aload_n hx hb dX1_takeLatest_22 rfl (lv_at hl 0 rfl) ?_
      refine lv_dup hx hb dX1_takeLatest_23 rfl ?_
      refine f_get S hK hw.1 in_X1_takeLatest_X1 0 rfl rfl 0 (by decide) (List.mem_of_getElem? (i := 1) rfl) rfl rfl dX1_takeLatest_24 ?_
      refine lv_iconst (v := 1) hx hb dX1_takeLatest_27 (by decide) ?_
      refine lv_isub hx hb dX1_takeLatest_28 ?_
      refine f_put S hK hw in_X1_takeLatest_X1 tyX1_ok nmX1 0 rfl rfl 0 (by decide) (List.mem_of_getElem? (i := 1) rfl) rfl rfl rfl rfl (Nat.le_of_ble_eq_true rfl) (ws1 := (wd_4 cC cI cJ a_pi (pi_size - (1 : Int32)) a_pi_held a_pi_held pi_len pi_held)) rfl dX1_takeLatest_29 (fun H locs hw => ?_)
      refine lv_aload_n hx hb dX1_takeLatest_32 rfl (lv_at hl 0 rfl) ?_
      refine f_get S hK hw.1 in_X1_takeLatest_X1 0 rfl rfl 1 (by decide) (List.mem_of_getElem? (i := 2) rfl) rfl rfl dX1_takeLatest_33 ?_
      refine lv_aload_n hx hb dX1_takeLatest_36 rfl (lv_at hl 0 rfl) ?_
      refine f_get S hK hw.1 in_X1_takeLatest_X1 0 rfl rfl 0 (by decide) (List.mem_of_getElem? (i := 1) rfl) rfl rfl dX1_takeLatest_37 ?_
      obtain ⟨g3, hm⟩ := gdo hm
      refine f_lald S hK hw.1 1 2 rfl rfl g3 dX1_takeLatest_40 ?_
      obtain rfl := Option.some.inj hm
      exact e_WL S hr hlk hw rfl hw.1 dX1_takeLatest_41
    · replace hm := ineg hm c2
      refine lv_lconst (v := 0) hx hb dX1_takeLatest_20 (by decide) ?_
      obtain rfl := Option.some.inj hm
      exact e_WL S hr hlk hw rfl hw.1 dX1_takeLatest_21

abbrev rX3_add : Room := { frames := 1, cells := 0, slots := 0, locals := 24 }
theorem cal_X3_add : Cal yX3_add wsX3_add cX3_add 3 none RX3 2 := ⟨⟨_, rfl⟩, rfl, by decide +kernel, by decide +kernel, by decide +kernel⟩
theorem in_X3_add_X3 : ∀ w ∈ wsX30, w ∈ wsX3_add := fun _ h => (List.mem_cons_of_mem _ (List.mem_append_right _ h))
set_option maxHeartbeats 4000000 in
set_option maxRecDepth 100000 in
theorem c_X3_add (l : Launch) (D : va_G) (cC cI cJ : ClassId) (a_se : Nat) (a_se_left : Nat) (se_size : Int32) (se_lastPlace : Int32) (se_left : (Nat → Int32)) (p0 : Int32) (p1 : Int32) (A : Nat → Prop) (hD : va_D A (wd_5 cC cI cJ a_se se_size se_lastPlace a_se_left a_se_left se_left)) (out : (Int32 × Int32 × (Nat → Int32))) (hm : m_X3_add se_size se_lastPlace se_left p0 p1 = some out) : WrV l yX3_add wsX3_add rX3_add D (tyK cC cI cJ) [.ref a_se, .int p0, .int p1] A (wd_5 cC cI cJ a_se se_size se_lastPlace a_se_left a_se_left se_left) (Bw0 D (wd_5 cC cI cJ a_se out.1 out.2.1 a_se_left a_se_left out.2.2)) := by
  unfold m_X3_add at hm
  refine enter (cc := cX3_add) (maxL := 3) (ret := none) (lv := [(0, .ref a_se), (1, .int p0), (2, .int p1)]) (by decide) rfl (Nat.le_of_ble_eq_true rfl) rfl ?_
  intro p e s m args below meth c S hr hlk hK hP ls hl
  replace S : CallFix p m c cX3_add 3 s args wsX3_add RX3 := S
  have hx := S.1
  have hb := S.2.1
  have hw : Wd D A s.heap (wd_5 cC cI cJ a_se se_size se_lastPlace a_se_left a_se_left se_left) s.heap [] := ⟨hP, hD, va_S.rf⟩
  have hw0 := hw
  refine lv_aload_n hx hb dX3_add_0 rfl (lv_at hl 0 rfl) ?_
  refine f_get S hK hw.1 in_X3_add_X3 0 rfl rfl 2 (by decide) (List.mem_of_getElem? (i := 1) rfl) rfl rfl dX3_add_1 ?_
  refine lv_iload_n hx hb dX3_add_4 rfl (lv_at hl 2 rfl) ?_
  refine lv_iconst (v := 1) hx hb dX3_add_5 (by decide) ?_
  refine lv_isub hx hb dX3_add_6 ?_
  refine lv_aload_n hx hb dX3_add_7 rfl (lv_at hl 0 rfl) ?_
  refine f_get S hK hw.1 in_X3_add_X3 0 rfl rfl 2 (by decide) (List.mem_of_getElem? (i := 1) rfl) rfl rfl dX3_add_8 ?_
  refine lv_iload_n hx hb dX3_add_11 rfl (lv_at hl 2 rfl) ?_
  refine lv_iconst (v := 1) hx hb dX3_add_12 (by decide) ?_
  refine lv_isub hx hb dX3_add_13 ?_
  obtain ⟨r1, h2, hm⟩ := ob hm
  refine k_rNi S hK hw.1 cal_X5_numberAt gX3_add_X5_numberAt_n29 (List.mem_of_getElem? (i := 5) rfl) (List.mem_of_getElem? (i := 9) rfl) (List.mem_of_getElem? (i := 8) rfl) (c_X5_numberAt l D cC cI cJ a_se_left 8 se_left (p1 - (1 : Int32)) r1 h2) ⟨⟨rfl, rfl⟩, Nat.le_of_ble_eq_true rfl, Nat.le_of_ble_eq_true rfl⟩ [1] rfl rfl hl.1 rfl (Nat.le_of_ble_eq_true rfl) dX3_add_14 ⟨Nat.zero_le _, Nat.zero_le _⟩ ?_
  refine lv_iload_n hx hb dX3_add_17 rfl (lv_at hl 1 rfl) ?_
  obtain ⟨r3, h4, hm⟩ := ob hm
  refine k_rNi S hK hw.1 cal_X5_bit gX3_add_X5_bit_n33 (List.mem_of_getElem? (i := 6) rfl) (List.mem_of_getElem? (i := 9) rfl) (List.mem_of_getElem? (i := 11) rfl) (c_X5_bit l D cC cI cJ p0 r3 h4) ⟨⟨rfl, rfl⟩, Nat.le_of_ble_eq_true rfl, Nat.le_of_ble_eq_true rfl⟩ [] rfl rfl hl.1 rfl (Nat.le_of_ble_eq_true rfl) dX3_add_18 ⟨Nat.zero_le _, Nat.zero_le _⟩ ?_
  refine lv_iand hx hb dX3_add_21 ?_
  obtain ⟨r5, h6, hm⟩ := ob hm
  refine k_wNv S hK hw cal_X5_setNumber gX3_add_X5_setNumber_n25 (List.mem_of_getElem? (i := 0) rfl) (List.mem_of_getElem? (i := 9) rfl) (List.mem_of_getElem? (i := 13) rfl) (c_X5_setNumber l D cC cI cJ a_se_left 8 se_left (p1 - (1 : Int32)) (r1 &&& r3) (aw _) (hw.own [1] (by decide) rfl) r5 h6) ⟨⟨rfl, rfl⟩, Nat.le_of_ble_eq_true rfl, Nat.le_of_ble_eq_true rfl⟩ [1] rfl rfl hl.1 rfl (Nat.le_of_ble_eq_true rfl) dX3_add_22 ⟨Nat.zero_le _, Nat.zero_le _⟩ (fun H locs hJ hB => ?_)
  have hw := hJ _ hB rfl
  replace hw : Wd D A _ (wd_5 cC cI cJ a_se se_size se_lastPlace a_se_left a_se_left r5) H locs := hw
  refine lv_aload_n hx hb dX3_add_25 rfl (lv_at hl 0 rfl) ?_
  refine lv_aload_n hx hb dX3_add_26 rfl (lv_at hl 0 rfl) ?_
  refine f_get S hK hw.1 in_X3_add_X3 0 rfl rfl 1 (by decide) (List.mem_of_getElem? (i := 2) rfl) rfl rfl dX3_add_27 ?_
  refine lv_iload_n hx hb dX3_add_30 rfl (lv_at hl 2 rfl) ?_
  refine va_mmax hx hb (S.2.2.1.trans hl.1.symm) S.2.2.2.1 (S.2.2.2.2 _ (List.mem_of_getElem? (i := 3) rfl)) (S.2.2.2.2 _ (List.mem_of_getElem? (i := 4) rfl)) (S.2.2.2.2 _ (List.mem_of_getElem? (i := 5) rfl)) (S.2.2.2.2 _ (List.mem_of_getElem? (i := 6) rfl)) (Nat.le_of_ble_eq_true rfl) (Nat.le_of_ble_eq_true rfl) (Nat.zero_le _) (Nat.zero_le _) dX3_add_31 ?_
  obtain ⟨y7, e8, hm⟩ := ob hm
  refine f_name e8 ?_
  refine f_put S hK hw in_X3_add_X3 tyX3_ok nmX3 0 rfl rfl 1 (by decide) (List.mem_of_getElem? (i := 2) rfl) rfl rfl rfl rfl (Nat.le_of_ble_eq_true rfl) (ws1 := (wd_5 cC cI cJ a_se se_size y7 a_se_left a_se_left r5)) rfl dX3_add_34 (fun H locs hw => ?_)
  refine lv_aload_n hx hb dX3_add_37 rfl (lv_at hl 0 rfl) ?_
  refine lv_dup hx hb dX3_add_38 rfl ?_
  refine f_get S hK hw.1 in_X3_add_X3 0 rfl rfl 0 (by decide) (List.mem_of_getElem? (i := 7) rfl) rfl rfl dX3_add_39 ?_
  refine lv_iconst (v := 1) hx hb dX3_add_42 (by decide) ?_
  refine lv_iadd hx hb dX3_add_43 ?_
  refine f_put S hK hw in_X3_add_X3 tyX3_ok nmX3 0 rfl rfl 0 (by decide) (List.mem_of_getElem? (i := 7) rfl) rfl rfl rfl rfl (Nat.le_of_ble_eq_true rfl) (ws1 := (wd_5 cC cI cJ a_se (se_size + (1 : Int32)) y7 a_se_left a_se_left r5)) rfl dX3_add_44 (fun H locs hw => ?_)
  obtain rfl := Option.some.inj hm
  exact e_WV S hr hlk hw hw.1 dX3_add_47

abbrev rX3_clear : Room := { frames := 1, cells := 0, slots := 0, locals := 22 }
theorem cal_X3_clear : Cal yX3_clear wsX3_clear cX3_clear 2 none RX3 0 := ⟨⟨_, rfl⟩, rfl, by decide +kernel, by decide +kernel, by decide +kernel⟩
theorem in_X3_clear_X3 : ∀ w ∈ wsX30, w ∈ wsX3_clear := fun _ h => (List.mem_cons_of_mem _ (List.mem_append_right _ h))
set_option maxHeartbeats 4000000 in
set_option maxRecDepth 100000 in
theorem t_X3_clear_12 {p : Program} {e : Env} {s : State} {m : MethodId} {args : Array Value} {below : List Frame} {meth : Method} {c : Code} {Q : State → Prop} (l : Launch) {D : va_G} {cC cI cJ : ClassId} {A : Nat → Prop} {H0 : Heap} (S : CallFix p m c cX3_clear 2 s args wsX3_clear RX3) (hK : KK D (tyK cC cI cJ) s) (a_se : Nat) (a_se_left : Nat) (se_size : Int32) (se_lastPlace : Int32) : ∀ (n : Nat) (v1 : Int32) (se_left : (Nat → Int32)) (out : (Nat → Int32)), lp_X3_clear_12  n v1 se_left = some out → ∀ (H : Heap) (locs : List Loc) (ls : Array Slot), Wd D A H0 (wd_5 cC cI cJ a_se se_size se_lastPlace a_se_left a_se_left se_left) H locs → lv_has ls 2 [(0, .ref a_se), (1, .int v1)] → (∀ (H : Heap) (locs : List Loc) (ls : Array Slot), Wd D A H0 (wd_5 cC cI cJ a_se se_size se_lastPlace a_se_left a_se_left out) H locs → lv_has ls 2 [] → W p l e rX3_clear s m args below meth c H locs 0 0 Q (F0 m 35 ls [])) → W p l e rX3_clear s m args below meth c H locs 0 0 Q (F0 m 12 ls []) := by
  have hx := S.1
  have hb := S.2.1
  intro n
  induction n with
  | zero => intro v1 se_left out hm; cases (show (none : Option (Nat → Int32)) = some out from hm)
  | succ n ih =>
    intro v1 se_left out hm  H locs ls hw hl K0
    rw [lp_X3_clear_12] at hm
    refine lv_iload_n hx hb dX3_clear_12 rfl (lv_at hl 1 rfl) ?_
    refine lv_bipush (v := 8) hx hb dX3_clear_13 (by decide) ?_
    refine lv_icmp_ge (tgt := 35) hx hb dX3_clear_15 (by decide) (fun c1 => ?_) (fun c1 => ?_)
    · replace hm := ipos hm c1
      obtain rfl := Option.some.inj hm
      exact K0  _ _ ls hw (lv_sub hl [] rfl)
    · replace hm := ineg hm c1
      refine lv_aload_n hx hb dX3_clear_18 rfl (lv_at hl 0 rfl) ?_
      refine f_get S hK hw.1 in_X3_clear_X3 0 rfl rfl 2 (by decide) (List.mem_of_getElem? (i := 3) rfl) rfl rfl dX3_clear_19 ?_
      refine lv_iload_n hx hb dX3_clear_22 rfl (lv_at hl 1 rfl) ?_
      refine lv_sipush (v := 255) hx hb dX3_clear_23 (by decide) ?_
      obtain ⟨r2, h3, hm⟩ := ob hm
      refine k_wNv S hK hw cal_X5_setNumber gX3_clear_X5_setNumber_n25 (List.mem_of_getElem? (i := 0) rfl) (List.mem_of_getElem? (i := 5) rfl) (List.mem_of_getElem? (i := 4) rfl) (c_X5_setNumber l D cC cI cJ a_se_left 8 se_left v1 (255 : Int32) (aw _) (hw.own [1] (by decide) rfl) r2 h3) ⟨⟨rfl, rfl⟩, Nat.le_of_ble_eq_true rfl, Nat.le_of_ble_eq_true rfl⟩ [1] rfl rfl hl.1 rfl (Nat.le_of_ble_eq_true rfl) dX3_clear_26 ⟨Nat.zero_le _, Nat.zero_le _⟩ (fun H locs hJ hB => ?_)
      have hw := hJ _ hB rfl
      replace hw : Wd D A _ (wd_5 cC cI cJ a_se se_size se_lastPlace a_se_left a_se_left r2) H locs := hw
      refine lv_iinc (v := (v1 + 1)) (lv' := [(1, .int (v1 + 1)), (0, .ref a_se)]) hx hb dX3_clear_29 hl (k := 1) rfl (by rw [ofi_1]) (by decide) rfl (fun ls hl => ?_)
      refine lv_goto (tgt := 12) hx hb dX3_clear_32 (by decide) ?_
      exact ih (v1 + 1) r2 _ hm  _ _ ls hw (lv_sub hl [1, 0] rfl) K0
set_option maxHeartbeats 4000000 in
set_option maxRecDepth 100000 in
theorem c_X3_clear (l : Launch) (D : va_G) (cC cI cJ : ClassId) (a_se : Nat) (a_se_left : Nat) (se_size : Int32) (se_lastPlace : Int32) (se_left : (Nat → Int32)) (N : Nat) (A : Nat → Prop) (hD : va_D A (wd_5 cC cI cJ a_se se_size se_lastPlace a_se_left a_se_left se_left)) (out : (Int32 × Int32 × (Nat → Int32))) (hm : m_X3_clear N se_left = some out) : WrV l yX3_clear wsX3_clear rX3_clear D (tyK cC cI cJ) [.ref a_se] A (wd_5 cC cI cJ a_se se_size se_lastPlace a_se_left a_se_left se_left) (Bw0 D (wd_5 cC cI cJ a_se out.1 out.2.1 a_se_left a_se_left out.2.2)) := by
  unfold m_X3_clear at hm
  refine enter (cc := cX3_clear) (maxL := 2) (ret := none) (lv := [(0, .ref a_se)]) (by decide) rfl (Nat.le_of_ble_eq_true rfl) rfl ?_
  intro p e s m args below meth c S hr hlk hK hP ls hl
  replace S : CallFix p m c cX3_clear 2 s args wsX3_clear RX3 := S
  have hx := S.1
  have hb := S.2.1
  have hw : Wd D A s.heap (wd_5 cC cI cJ a_se se_size se_lastPlace a_se_left a_se_left se_left) s.heap [] := ⟨hP, hD, va_S.rf⟩
  have hw0 := hw
  refine lv_aload_n hx hb dX3_clear_0 rfl (lv_at hl 0 rfl) ?_
  refine lv_iconst (v := 0) hx hb dX3_clear_1 (by decide) ?_
  refine f_put S hK hw in_X3_clear_X3 tyX3_ok nmX3 0 rfl rfl 0 (by decide) (List.mem_of_getElem? (i := 1) rfl) rfl rfl rfl rfl (Nat.le_of_ble_eq_true rfl) (ws1 := (wd_5 cC cI cJ a_se (0 : Int32) se_lastPlace a_se_left a_se_left se_left)) rfl dX3_clear_2 (fun H locs hw => ?_)
  refine lv_aload_n hx hb dX3_clear_5 rfl (lv_at hl 0 rfl) ?_
  refine lv_iconst (v := 0) hx hb dX3_clear_6 (by decide) ?_
  refine f_put S hK hw in_X3_clear_X3 tyX3_ok nmX3 0 rfl rfl 1 (by decide) (List.mem_of_getElem? (i := 2) rfl) rfl rfl rfl rfl (Nat.le_of_ble_eq_true rfl) (ws1 := (wd_5 cC cI cJ a_se (0 : Int32) (0 : Int32) a_se_left a_se_left se_left)) rfl dX3_clear_7 (fun H locs hw => ?_)
  refine lv_iconst (v := 0) hx hb dX3_clear_10 (by decide) ?_
  refine lv_istore_n (lv' := [(1, .int (0 : Int32)), (0, .ref a_se)]) hx hb dX3_clear_11 rfl hl (by decide) rfl (fun ls hl => ?_)
  obtain ⟨r4, h5, hm⟩ := ob hm
  refine t_X3_clear_12 l S hK a_se a_se_left (0 : Int32) (0 : Int32) N (0 : Int32) se_left r4 h5  _ _ ls hw (lv_sub hl [1, 0] rfl) (fun H locs ls hw hl => ?_)
  obtain rfl := Option.some.inj hm
  exact e_WV S hr hlk hw hw.1 dX3_clear_35

abbrev rX3_isWithin : Room := { frames := 0, cells := 0, slots := 0, locals := 0 }
theorem cal_X3_isWithin : Cal yX3_isWithin wsX3_isWithin cX3_isWithin 2 (some .boolean) RX3 1 := ⟨⟨_, rfl⟩, rfl, by decide +kernel, by decide +kernel, by decide +kernel⟩
theorem in_X3_isWithin_X3 : ∀ w ∈ wsX30, w ∈ wsX3_isWithin := fun _ h => (List.mem_cons_of_mem _ (List.mem_append_right _ h))
set_option maxHeartbeats 4000000 in
set_option maxRecDepth 100000 in
theorem c_X3_isWithin (l : Launch) (D : va_G) (cC cI cJ : ClassId) (a_se : Nat) (a_se_left : Nat) (se_size : Int32) (se_lastPlace : Int32) (se_left : (Nat → Int32)) (p0 : Int32) (out : Int32) (hm : m_X3_isWithin se_lastPlace p0 = some out) : RdI l yX3_isWithin wsX3_isWithin rX3_isWithin D (tyK cC cI cJ) [.ref a_se, .int p0] (wd_5 cC cI cJ a_se se_size se_lastPlace a_se_left a_se_left se_left) out := by
  unfold m_X3_isWithin at hm
  refine enter (cc := cX3_isWithin) (maxL := 2) (ret := (some .boolean)) (lv := [(0, .ref a_se), (1, .int p0)]) (by decide) rfl (Nat.le_of_ble_eq_true rfl) rfl ?_
  intro p e s m args below meth c S hr hlk hK hP ls hl
  replace S : CallFix p m c cX3_isWithin 2 s args wsX3_isWithin RX3 := S
  have hx := S.1
  have hb := S.2.1
  refine lv_aload_n hx hb dX3_isWithin_0 rfl (lv_at hl 0 rfl) ?_
  refine f_get S hK hP in_X3_isWithin_X3 0 rfl rfl 1 (by decide) (List.mem_of_getElem? (i := 1) rfl) rfl rfl dX3_isWithin_1 ?_
  refine lv_iload_n hx hb dX3_isWithin_4 rfl (lv_at hl 1 rfl) ?_
  refine lv_icmp_gt (tgt := 12) hx hb dX3_isWithin_5 (by decide) (fun c1 => ?_) (fun c1 => ?_)
  · replace hm := ipos hm c1
    refine lv_iconst (v := 0) hx hb dX3_isWithin_12 (by decide) ?_
    exact e_RZ S hr hlk (Or.inl rfl) (Option.some.inj hm) dX3_isWithin_13
  · replace hm := ineg hm c1
    refine lv_iconst (v := 1) hx hb dX3_isWithin_8 (by decide) ?_
    refine lv_goto (tgt := 13) hx hb dX3_isWithin_9 (by decide) ?_
    exact e_RZ S hr hlk (Or.inr rfl) (Option.some.inj hm) dX3_isWithin_13

abbrev rX3_leaves : Room := { frames := 1, cells := 0, slots := 0, locals := 21 }
theorem cal_X3_leaves : Cal yX3_leaves wsX3_leaves cX3_leaves 3 (some .boolean) RX3 2 := ⟨⟨_, rfl⟩, rfl, by decide +kernel, by decide +kernel, by decide +kernel⟩
theorem in_X3_leaves_X3 : ∀ w ∈ wsX30, w ∈ wsX3_leaves := fun _ h => (List.mem_cons_of_mem _ (List.mem_append_right _ h))
set_option maxHeartbeats 4000000 in
set_option maxRecDepth 100000 in
theorem c_X3_leaves (l : Launch) (D : va_G) (cC cI cJ : ClassId) (a_se : Nat) (a_se_left : Nat) (se_size : Int32) (se_lastPlace : Int32) (se_left : (Nat → Int32)) (p0 : Int32) (p1 : Int32) (out : Int32) (hm : m_X3_leaves se_left p0 p1 = some out) : RdI l yX3_leaves wsX3_leaves rX3_leaves D (tyK cC cI cJ) [.ref a_se, .int p0, .int p1] (wd_5 cC cI cJ a_se se_size se_lastPlace a_se_left a_se_left se_left) out := by
  unfold m_X3_leaves at hm
  refine enter (cc := cX3_leaves) (maxL := 3) (ret := (some .boolean)) (lv := [(0, .ref a_se), (1, .int p0), (2, .int p1)]) (by decide) rfl (Nat.le_of_ble_eq_true rfl) rfl ?_
  intro p e s m args below meth c S hr hlk hK hP ls hl
  replace S : CallFix p m c cX3_leaves 3 s args wsX3_leaves RX3 := S
  have hx := S.1
  have hb := S.2.1
  refine lv_aload_n hx hb dX3_leaves_0 rfl (lv_at hl 0 rfl) ?_
  refine f_get S hK hP in_X3_leaves_X3 0 rfl rfl 2 (by decide) (List.mem_of_getElem? (i := 1) rfl) rfl rfl dX3_leaves_1 ?_
  refine lv_iload_n hx hb dX3_leaves_4 rfl (lv_at hl 2 rfl) ?_
  refine lv_iconst (v := 1) hx hb dX3_leaves_5 (by decide) ?_
  refine lv_isub hx hb dX3_leaves_6 ?_
  obtain ⟨r1, h2, hm⟩ := ob hm
  refine k_rNi S hK hP cal_X5_numberAt gX3_leaves_X5_numberAt_n29 (List.mem_of_getElem? (i := 5) rfl) (List.mem_of_getElem? (i := 3) rfl) (List.mem_of_getElem? (i := 2) rfl) (c_X5_numberAt l D cC cI cJ a_se_left 8 se_left (p1 - (1 : Int32)) r1 h2) ⟨⟨rfl, rfl⟩, Nat.le_of_ble_eq_true rfl, Nat.le_of_ble_eq_true rfl⟩ [1] rfl rfl hl.1 rfl (Nat.le_of_ble_eq_true rfl) dX3_leaves_7 ⟨Nat.zero_le _, Nat.zero_le _⟩ ?_
  refine lv_iload_n hx hb dX3_leaves_10 rfl (lv_at hl 1 rfl) ?_
  obtain ⟨r3, h4, hm⟩ := ob hm
  refine k_rNi S hK hP cal_X5_bit gX3_leaves_X5_bit_n33 (List.mem_of_getElem? (i := 6) rfl) (List.mem_of_getElem? (i := 3) rfl) (List.mem_of_getElem? (i := 5) rfl) (c_X5_bit l D cC cI cJ p0 r3 h4) ⟨⟨rfl, rfl⟩, Nat.le_of_ble_eq_true rfl, Nat.le_of_ble_eq_true rfl⟩ [] rfl rfl hl.1 rfl (Nat.le_of_ble_eq_true rfl) dX3_leaves_11 ⟨Nat.zero_le _, Nat.zero_le _⟩ ?_
  refine lv_iand hx hb dX3_leaves_14 ?_
  refine lv_if_eq (tgt := 22) hx hb dX3_leaves_15 (by decide) (fun c5 => ?_) (fun c5 => ?_)
  · replace hm := ipos hm c5
    refine lv_iconst (v := 0) hx hb dX3_leaves_22 (by decide) ?_
    exact e_RZ S hr hlk (Or.inl rfl) (Option.some.inj hm) dX3_leaves_23
  · replace hm := ineg hm c5
    refine lv_iconst (v := 1) hx hb dX3_leaves_18 (by decide) ?_
    refine lv_goto (tgt := 23) hx hb dX3_leaves_19 (by decide) ?_
    exact e_RZ S hr hlk (Or.inr rfl) (Option.some.inj hm) dX3_leaves_23
