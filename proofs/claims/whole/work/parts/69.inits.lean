/-! constructors of the small classes: printed by wip/gen/inits.py -/
abbrev rX4_init : Room := { frames := 1, cells := 0, slots := 0, locals := 20 }
set_option maxHeartbeats 4000000 in
set_option maxRecDepth 100000 in
theorem c_X4_init (l : Launch) (D : va_G) (cC cI cJ : ClassId) (a : Nat) : NwV l yX4_init wsX4_init rX4_init D (tyK cC cI cJ) [.ref a] [(a, .inr (4, [.int 0, .int 0, .int 0, .int 0, .int 0, .int 0]))] 0 0 (fun sz H => va_P D vwCl [(a, .inr (4, [.int 0, .int 0, .int 0, .int 0, .int 0, .int 0]))] H ∧ va_D (va_A [(a, .inr (4, [.int 0, .int 0, .int 0, .int 0, .int 0, .int 0]))] sz) [(a, .inr (4, [.int 0, .int 0, .int 0, .int 0, .int 0, .int 0]))]) := by
  refine enterN (cc := cX4_init) (maxL := 1) (lv := [(0, .ref a)]) (by decide) rfl rfl (Nat.le_of_ble_eq_true rfl) rfl ?_
  intro sz A p e s m args below meth c S hr hlk hnm hK hsz hAe hA hw ls hl
  replace S : CallFix p m c cX4_init 1 s args wsX4_init RX4 := S
  have hx := S.1
  have hb := S.2.1
  have hw : Wd D A s.heap [(a, .inr (4, [.int 0, .int 0, .int 0, .int 0, .int 0, .int 0]))] s.heap [] := hw
  refine lv_aload_n hx hb dX4_init_0 rfl (lv_at hl 0 rfl) ?_
  refine f_obj S (List.mem_of_getElem? (i := 1) rfl) (List.mem_of_getElem? (i := 2) rfl) (List.mem_of_getElem? (i := 3) rfl) hl.1 (Nat.le_of_ble_eq_true rfl) ⟨Nat.le_of_ble_eq_true rfl, Nat.le_of_ble_eq_true rfl⟩ dX4_init_1 ?_
  have h9 := hw.2.1
  rw [hAe] at h9
  exact e_NV (B := (fun H => va_P D vwCl [(a, .inr (4, [.int 0, .int 0, .int 0, .int 0, .int 0, .int 0]))] H ∧ va_D (va_A [(a, .inr (4, [.int 0, .int 0, .int 0, .int 0, .int 0, .int 0]))] sz) [(a, .inr (4, [.int 0, .int 0, .int 0, .int 0, .int 0, .int 0]))])) S hr hlk hw (by omega) (by omega) ⟨hw.1, h9⟩ dX4_init_4
theorem in_X1_init : ∀ w ∈ wsX10, w ∈ wsX1_init := fun _ h => (List.mem_cons_of_mem _ (List.mem_append_right _ h))
abbrev rX1_init (N : Nat) : Room := { frames := 1, cells := 1, slots := N, locals := 20 }
set_option maxHeartbeats 4000000 in
set_option maxRecDepth 100000 in
theorem c_X1_init (l : Launch) (D : va_G) (cC cI cJ : ClassId) (a : Nat) (k : Int32) (N : Nat) (hk : (if (1 : Int32) < k then k else 1) = nI N) (hN : N ≤ 100) : NwV l yX1_init wsX1_init (rX1_init N) D (tyK cC cI cJ) [.ref a, .int k] [(a, .inr (1, [.int 0, .null]))] 1 N (fun sz H => ∃ q1 : Nat, va_P D vwCl [(a, .inr (1, [.int 0, .ref q1])), (q1, .inl (cJ, N, .inr (.inl (fun _ => 0))))] H ∧ va_D (va_A [(a, .inr (1, [.int 0, .null]))] sz) [(a, .inr (1, [.int 0, .ref q1])), (q1, .inl (cJ, N, .inr (.inl (fun _ => 0))))]) := by
  refine enterN (cc := cX1_init) (maxL := 2) (lv := [(0, .ref a), (1, .int k)]) (by decide) rfl rfl (Nat.le_of_ble_eq_true rfl) rfl ?_
  intro sz A p e s m args below meth c S hr hlk hnm hK hsz hAe hA hw ls hl
  replace S : CallFix p m c cX1_init 2 s args wsX1_init RX1 := S
  have hx := S.1
  have hb := S.2.1
  have hw : Wd D A s.heap [(a, .inr (1, [.int 0, .null]))] s.heap [] := hw
  refine lv_aload_n hx hb dX1_init_0 rfl (lv_at hl 0 rfl) ?_
  refine f_obj S (List.mem_of_getElem? (i := 1) rfl) (List.mem_of_getElem? (i := 2) rfl) (List.mem_of_getElem? (i := 3) rfl) hl.1 (Nat.le_of_ble_eq_true rfl) ⟨Nat.le_of_ble_eq_true rfl, Nat.le_of_ble_eq_true rfl⟩ dX1_init_1 ?_
  refine lv_aload_n hx hb dX1_init_4 rfl (lv_at hl 0 rfl) ?_
  refine lv_iconst (v := 1) hx hb dX1_init_5 (by decide) ?_
  refine lv_iload_n hx hb dX1_init_6 rfl (lv_at hl 1 rfl) ?_
  refine va_mmax hx hb (by rw [S.2.2.1]; exact hl.1.symm) S.2.2.2.1 (S.2.2.2.2 _ (List.mem_of_getElem? (i := 4) rfl)) (S.2.2.2.2 _ (List.mem_of_getElem? (i := 5) rfl)) (S.2.2.2.2 _ (List.mem_of_getElem? (i := 6) rfl)) (S.2.2.2.2 _ (List.mem_of_getElem? (i := 7) rfl)) (Nat.le_of_ble_eq_true rfl) (Nat.le_of_ble_eq_true rfl) (Nat.zero_le _) (Nat.zero_le _) dX1_init_7 ?_
  rw [hk]
  refine f_newa (ty := .long) S hK hw hA rfl (fun C h => by cases h) (List.mem_of_getElem? (i := 8) rfl) 2 rfl N (a0 := (N, .inr (.inl (fun _ => 0)))) (fun _ => rfl) (nI_pos (by omega)) (nI_clamp (by omega)) (by rw [cbL]; omega) ⟨Nat.le_of_ble_eq_true rfl, by show 0 + N ≤ N; omega⟩ dX1_init_10 (fun q1 H hw => ?_)
  have hw : Wd D A s.heap [(a, .inr (1, [.int 0, .null])), (q1, .inl (cJ, N, .inr (.inl (fun _ => 0))))] H [] := hw
  refine f_putF S hK hw in_X1_init tyX1_ok nmX1 0 rfl rfl 1 (by decide) (List.mem_of_getElem? (i := 9) rfl) rfl rfl hnm rfl rfl rfl (Nat.le_of_ble_eq_true rfl) rfl dX1_init_12 (fun H locs hw => ?_)
  have hw : Wd D A s.heap [(a, .inr (1, [.int 0, .ref q1])), (q1, .inl (cJ, N, .inr (.inl (fun _ => 0))))] H locs := hw
  have h9 := hw.2.1
  rw [hAe] at h9
  exact e_NV (B := (fun H => ∃ q1 : Nat, va_P D vwCl [(a, .inr (1, [.int 0, .ref q1])), (q1, .inl (cJ, N, .inr (.inl (fun _ => 0))))] H ∧ va_D (va_A [(a, .inr (1, [.int 0, .null]))] sz) [(a, .inr (1, [.int 0, .ref q1])), (q1, .inl (cJ, N, .inr (.inl (fun _ => 0))))])) S hr hlk hw (Nat.le_of_ble_eq_true rfl) (by show 0 + N ≤ N; omega) ⟨q1, hw.1, h9⟩ dX1_init_15
theorem in_X3_init : ∀ w ∈ wsX30, w ∈ wsX3_init := fun _ h => (List.mem_cons_of_mem _ (List.mem_append_right _ h))
abbrev rX3_init : Room := { frames := 4, cells := 1, slots := 8, locals := 200 }
set_option maxHeartbeats 4000000 in
set_option maxRecDepth 100000 in
theorem c_X3_init (l : Launch) (D : va_G) (cC cI cJ : ClassId) (a : Nat) (N : Nat) (out : Int32 × Int32 × (Nat → Int32)) (hm : m_X3_clear N (fun _ => 0) = some out) : NwV l yX3_init wsX3_init rX3_init D (tyK cC cI cJ) [.ref a] [(a, .inr (3, [.int 0, .int 0, .null]))] 1 8 (fun sz H => ∃ q1 : Nat, va_P D vwCl [(a, .inr (3, [.int out.1, .int out.2.1, .ref q1])), (q1, .inl (cI, 8, .inl out.2.2))] H ∧ va_D (va_A [(a, .inr (3, [.int 0, .int 0, .null]))] sz) [(a, .inr (3, [.int out.1, .int out.2.1, .ref q1])), (q1, .inl (cI, 8, .inl out.2.2))]) := by
  refine enterN (cc := cX3_init) (maxL := 1) (lv := [(0, .ref a)]) (by decide) rfl rfl (Nat.le_of_ble_eq_true rfl) rfl ?_
  intro sz A p e s m args below meth c S hr hlk hnm hK hsz hAe hA hw ls hl
  replace S : CallFix p m c cX3_init 1 s args wsX3_init RX3 := S
  have hx := S.1
  have hb := S.2.1
  have hw : Wd D A s.heap [(a, .inr (3, [.int 0, .int 0, .null]))] s.heap [] := hw
  refine lv_aload_n hx hb dX3_init_0 rfl (lv_at hl 0 rfl) ?_
  refine f_obj S (List.mem_of_getElem? (i := 1) rfl) (List.mem_of_getElem? (i := 2) rfl) (List.mem_of_getElem? (i := 3) rfl) hl.1 (Nat.le_of_ble_eq_true rfl) ⟨Nat.le_of_ble_eq_true rfl, Nat.le_of_ble_eq_true rfl⟩ dX3_init_1 ?_
  refine lv_aload_n hx hb dX3_init_4 rfl (lv_at hl 0 rfl) ?_
  refine lv_bipush (v := 8) hx hb dX3_init_5 (by decide) ?_
  refine f_newa (ty := .int) S hK hw hA rfl (fun C h => by cases h) (List.mem_of_getElem? (i := 4) rfl) 1 rfl 8 (a0 := (8, .inl (fun _ => 0))) (fun _ => rfl) (by decide) (by decide) (by rw [cbI]; omega) ⟨by show _ ≤ 1; omega, by show _ ≤ 8; omega⟩ dX3_init_7 (fun q1 H hw => ?_)
  have hw : Wd D A s.heap [(a, .inr (3, [.int 0, .int 0, .null])), (q1, .inl (cI, 8, .inl (fun _ => 0)))] H [] := hw
  refine f_putF S hK hw in_X3_init tyX3_ok nmX3 0 rfl rfl 2 (by decide) (List.mem_of_getElem? (i := 5) rfl) rfl rfl hnm rfl rfl rfl (Nat.le_of_ble_eq_true rfl) rfl dX3_init_9 (fun H locs hw => ?_)
  have hw : Wd D A s.heap [(a, .inr (3, [.int 0, .int 0, .ref q1])), (q1, .inl (cI, 8, .inl (fun _ => 0)))] H locs := hw
  refine lv_aload_n hx hb dX3_init_12 rfl (lv_at hl 0 rfl) ?_
  refine k_wVv S hK hw cal_X3_clear gX3_init_X3_clear (c_X3_clear l D cC cI cJ a q1 0 0 (fun _ => 0) N (aw _) (hw.own [0, 1] (by decide) rfl) out hm) ⟨⟨rfl, rfl⟩, Nat.le_of_ble_eq_true rfl, Nat.le_of_ble_eq_true rfl⟩ [0, 1] rfl 0 rfl rfl rfl hl.1 rfl (Nat.le_of_ble_eq_true rfl) dX3_init_13 ⟨by show _ ≤ 1; omega, by show _ ≤ 8; omega⟩ (fun H locs hJ hB => ?_)
  have hw := hJ _ hB rfl
  have hw : Wd D A s.heap [(a, .inr (3, [.int out.1, .int out.2.1, .ref q1])), (q1, .inl (cI, 8, .inl out.2.2))] H locs := hw
  have h9 := hw.2.1
  rw [hAe] at h9
  exact e_NV (B := (fun H => ∃ q1 : Nat, va_P D vwCl [(a, .inr (3, [.int out.1, .int out.2.1, .ref q1])), (q1, .inl (cI, 8, .inl out.2.2))] H ∧ va_D (va_A [(a, .inr (3, [.int 0, .int 0, .null]))] sz) [(a, .inr (3, [.int out.1, .int out.2.1, .ref q1])), (q1, .inl (cI, 8, .inl out.2.2))])) S hr hlk hw (by omega) (by omega) ⟨q1, hw.1, h9⟩ dX3_init_16
