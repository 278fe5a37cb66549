/-! constructor of the search: printed by wip/gen/inits.py -/
theorem in_X2_init : ∀ w ∈ wsX20, w ∈ wsX2_init := fun _ h => (List.mem_cons_of_mem _ (List.mem_append_left _ (List.mem_append_right _ h)))
theorem in_X2_init_X4 : ∀ w ∈ wsX40, w ∈ wsX2_init := fun _ h => (List.mem_cons_of_mem _ (List.mem_append_right _ h))
abbrev rX2_init : Room := { frames := 4, cells := 2, slots := 4102, locals := 200 }
set_option maxHeartbeats 4000000 in
set_option maxRecDepth 100000 in
theorem c_X2_init (l : Launch) (D : va_G) (cC cI cJ : ClassId) (a mo us : Nat) : NwV l yX2_init wsX2_init rX2_init D (tyK cC cI cJ) [.ref a, .ref mo, .ref us] [(a, .inr (2, [.null, .null, .null, .long 0, .long 0, .int 0, .null, .null]))] 2 4102 (fun sz H => ∃ q1 q2 : Nat, va_P D vwCl [(a, .inr (2, [.ref q1, .ref q2, .ref us, .long 0, .long 0, .int 0, .ref mo, .ref us])), (q1, .inl (cJ, 4096, .inr (.inl (fun _ => 0)))), (q2, .inr (4, [.int 0, .int 0, .int 0, .int 0, .int 0, .int 0]))] H ∧ va_D (va_A [(a, .inr (2, [.null, .null, .null, .long 0, .long 0, .int 0, .null, .null]))] sz) [(a, .inr (2, [.ref q1, .ref q2, .ref us, .long 0, .long 0, .int 0, .ref mo, .ref us])), (q1, .inl (cJ, 4096, .inr (.inl (fun _ => 0)))), (q2, .inr (4, [.int 0, .int 0, .int 0, .int 0, .int 0, .int 0]))]) := by
  refine enterN (cc := cX2_init) (maxL := 3) (lv := [(0, .ref a), (1, .ref mo), (2, .ref us)]) (by decide) rfl rfl (Nat.le_of_ble_eq_true rfl) rfl ?_
  intro sz A p e s m args below meth c S hr hlk hnm hK hsz hAe hA hw ls hl
  replace S : CallFix p m c cX2_init 3 s args wsX2_init RX2 := S
  have hx := S.1
  have hb := S.2.1
  have hw : Wd D A s.heap [(a, .inr (2, [.null, .null, .null, .long 0, .long 0, .int 0, .null, .null]))] s.heap [] := hw
  refine lv_aload_n hx hb dX2_init_0 rfl (lv_at hl 0 rfl) ?_
  refine f_obj S (List.mem_of_getElem? (i := 1) rfl) (List.mem_of_getElem? (i := 2) rfl) (List.mem_of_getElem? (i := 3) rfl) hl.1 (Nat.le_of_ble_eq_true rfl) ⟨Nat.le_of_ble_eq_true rfl, Nat.le_of_ble_eq_true rfl⟩ dX2_init_1 ?_
  refine lv_aload_n hx hb dX2_init_4 rfl (lv_at hl 0 rfl) ?_
  refine lv_sipush (v := 4096) hx hb dX2_init_5 (by decide) ?_
  refine f_newa (ty := .long) S hK hw hA rfl (fun C h => by cases h) (List.mem_of_getElem? (i := 4) rfl) 2 rfl 4096 (a0 := (4096, .inr (.inl (fun _ => 0)))) (fun _ => rfl) (show ¬ nI 4096 < 0 from nI_pos (by omega)) (show (nI 4096).toNatClampNeg = 4096 from nI_clamp (by omega)) (by rw [cbL]; omega) ⟨by show _ ≤ 2; omega, by show _ ≤ 4102; omega⟩ dX2_init_8 (fun q1 H hw => ?_)
  have hw : Wd D A s.heap [(a, .inr (2, [.null, .null, .null, .long 0, .long 0, .int 0, .null, .null])), (q1, .inl (cJ, 4096, .inr (.inl (fun _ => 0))))] H [] := hw
  refine f_putF S hK hw in_X2_init tyX2_ok nmX2 0 rfl rfl 0 (by decide) (List.mem_of_getElem? (i := 5) rfl) rfl rfl hnm rfl rfl rfl (Nat.le_of_ble_eq_true rfl) rfl dX2_init_10 (fun H locs hw => ?_)
  have hw : Wd D A s.heap [(a, .inr (2, [.ref q1, .null, .null, .long 0, .long 0, .int 0, .null, .null])), (q1, .inl (cJ, 4096, .inr (.inl (fun _ => 0))))] H locs := hw
  refine lv_aload_n hx hb dX2_init_13 rfl (lv_at hl 0 rfl) ?_
  refine f_new S hK hw hA in_X2_init_X4 tyX4_ok (List.mem_of_getElem? (i := 6) rfl) (List.mem_of_getElem? (i := 7) rfl) (List.mem_of_getElem? (i := 8) rfl) (ci := 4) rfl [.int 0, .int 0, .int 0, .int 0, .int 0, .int 0] (by decide) ⟨by show _ ≤ 2; omega, by show _ ≤ 4102; omega⟩ dX2_init_14 (fun q2 H hw => ?_)
  have hw : Wd D A s.heap [(a, .inr (2, [.ref q1, .null, .null, .long 0, .long 0, .int 0, .null, .null])), (q1, .inl (cJ, 4096, .inr (.inl (fun _ => 0)))), (q2, .inr (4, [.int 0, .int 0, .int 0, .int 0, .int 0, .int 0]))] H locs := hw
  refine lv_dup hx hb dX2_init_17 rfl ?_
  refine k_nI (wr := [(a, .inr (2, [.ref q1, .null, .null, .long 0, .long 0, .int 0, .null, .null])), (q1, .inl (cJ, 4096, .inr (.inl (fun _ => 0))))]) S hK hw hA (bytes := cX4_init) (n := 0) (C := RX4) ⟨⟨_, rfl⟩, rfl, by decide +kernel, by decide +kernel, by decide +kernel⟩ rfl gX2_init_X4_init (List.mem_of_getElem? (i := 8) rfl) (List.mem_of_getElem? (i := 13) rfl) (List.mem_of_getElem? (i := 14) rfl) (c_X4_init l D cC cI cJ q2) ⟨rfl, rfl⟩ ⟨Nat.le_of_ble_eq_true rfl, Nat.le_of_ble_eq_true rfl⟩ [2] [0, 1] rfl (by decide) rfl (by decide) (by decide) rfl hl.1 rfl (Nat.le_of_ble_eq_true rfl) dX2_init_18 ⟨by show _ ≤ 2; omega, by show _ ≤ 4102; omega⟩ (fun H locs hB hJ => ?_)
  obtain ⟨hP1, hD1⟩ := hB
  have hw := hJ _ hP1 hD1
  have hw : Wd D A s.heap [(a, .inr (2, [.ref q1, .null, .null, .long 0, .long 0, .int 0, .null, .null])), (q1, .inl (cJ, 4096, .inr (.inl (fun _ => 0)))), (q2, .inr (4, [.int 0, .int 0, .int 0, .int 0, .int 0, .int 0]))] H locs := hw
  refine f_putF S hK hw in_X2_init tyX2_ok nmX2 0 rfl rfl 1 (by decide) (List.mem_of_getElem? (i := 9) rfl) rfl rfl hnm rfl rfl rfl (Nat.le_of_ble_eq_true rfl) rfl dX2_init_21 (fun H locs hw => ?_)
  have hw : Wd D A s.heap [(a, .inr (2, [.ref q1, .ref q2, .null, .long 0, .long 0, .int 0, .null, .null])), (q1, .inl (cJ, 4096, .inr (.inl (fun _ => 0)))), (q2, .inr (4, [.int 0, .int 0, .int 0, .int 0, .int 0, .int 0]))] H locs := hw
  refine lv_aload_n hx hb dX2_init_24 rfl (lv_at hl 0 rfl) ?_
  refine lv_aload_n hx hb dX2_init_25 rfl (lv_at hl 1 rfl) ?_
  refine f_put S hK hw in_X2_init tyX2_ok nmX2 0 rfl rfl 6 (by decide) (List.mem_of_getElem? (i := 10) rfl) rfl rfl rfl rfl (Nat.le_of_ble_eq_true rfl) rfl dX2_init_26 (fun H locs hw => ?_)
  have hw : Wd D A s.heap [(a, .inr (2, [.ref q1, .ref q2, .null, .long 0, .long 0, .int 0, .ref mo, .null])), (q1, .inl (cJ, 4096, .inr (.inl (fun _ => 0)))), (q2, .inr (4, [.int 0, .int 0, .int 0, .int 0, .int 0, .int 0]))] H locs := hw
  refine lv_aload_n hx hb dX2_init_29 rfl (lv_at hl 0 rfl) ?_
  refine lv_aload_n hx hb dX2_init_30 rfl (lv_at hl 2 rfl) ?_
  refine f_putF S hK hw in_X2_init tyX2_ok nmX2 0 rfl rfl 2 (by decide) (List.mem_of_getElem? (i := 11) rfl) rfl rfl hnm rfl rfl rfl (Nat.le_of_ble_eq_true rfl) rfl dX2_init_31 (fun H locs hw => ?_)
  have hw : Wd D A s.heap [(a, .inr (2, [.ref q1, .ref q2, .ref us, .long 0, .long 0, .int 0, .ref mo, .null])), (q1, .inl (cJ, 4096, .inr (.inl (fun _ => 0)))), (q2, .inr (4, [.int 0, .int 0, .int 0, .int 0, .int 0, .int 0]))] H locs := hw
  refine lv_aload_n hx hb dX2_init_34 rfl (lv_at hl 0 rfl) ?_
  refine lv_aload_n hx hb dX2_init_35 rfl (lv_at hl 2 rfl) ?_
  refine f_put S hK hw in_X2_init tyX2_ok nmX2 0 rfl rfl 7 (by decide) (List.mem_of_getElem? (i := 12) rfl) rfl rfl rfl rfl (Nat.le_of_ble_eq_true rfl) rfl dX2_init_36 (fun H locs hw => ?_)
  have hw : Wd D A s.heap [(a, .inr (2, [.ref q1, .ref q2, .ref us, .long 0, .long 0, .int 0, .ref mo, .ref us])), (q1, .inl (cJ, 4096, .inr (.inl (fun _ => 0)))), (q2, .inr (4, [.int 0, .int 0, .int 0, .int 0, .int 0, .int 0]))] H locs := hw
  have h9 := hw.2.1
  rw [hAe] at h9
  exact e_NV (B := (fun H => ∃ q1 q2 : Nat, va_P D vwCl [(a, .inr (2, [.ref q1, .ref q2, .ref us, .long 0, .long 0, .int 0, .ref mo, .ref us])), (q1, .inl (cJ, 4096, .inr (.inl (fun _ => 0)))), (q2, .inr (4, [.int 0, .int 0, .int 0, .int 0, .int 0, .int 0]))] H ∧ va_D (va_A [(a, .inr (2, [.null, .null, .null, .long 0, .long 0, .int 0, .null, .null]))] sz) [(a, .inr (2, [.ref q1, .ref q2, .ref us, .long 0, .long 0, .int 0, .ref mo, .ref us])), (q1, .inl (cJ, 4096, .inr (.inl (fun _ => 0)))), (q2, .inr (4, [.int 0, .int 0, .int 0, .int 0, .int 0, .int 0]))])) S hr hlk hw (by omega) (by omega) ⟨q1, q2, hw.1, h9⟩ dX2_init_39
