/-! walks: X1_dropLowest X1_put X1_takeLatest X3_add X3_clear X3_isWithin X3_leaves X4_packed X4_unpack X4_openTasks X4_tasksToCome X2_begin X2_recall X4_isLost X4_freeFriends -/
abbrev rX1_dropLowest : Room := { frames := 0, cells := 0, slots := 0, locals := 0 }
theorem cal_X1_dropLowest : Cal yX1_dropLowest wsX1_dropLowest cX1_dropLowest 2 none RX1 0 := ⟨⟨_, rfl⟩, rfl, by decide +kernel, by decide +kernel, by decide +kernel⟩
theorem in_X1_dropLowest_X1 : ∀ w ∈ wsX10, w ∈ wsX1_dropLowest := fun _ h => (List.mem_cons_of_mem _ (List.mem_append_right _ h))
set_option maxHeartbeats 4000000 in
set_option maxRecDepth 100000 in
theorem t_X1_dropLowest_2 {p : Program} {e : Env} {s : State} {m : MethodId} {args : Array Value} {below : List Frame} {meth : Method} {c : Code} {Q : State → Prop} (l : Launch) {D : va_G} {cC cI cJ : ClassId} {A : Nat → Prop} {H0 : Heap} (S : CallFix p m c cX1_dropLowest 2 s args wsX1_dropLowest RX1) (hK : KK D (tyK cC cI cJ) s) (a_pi : Nat) (a_pi_held : Nat) (pi_size : Int32) (pi_len : Nat) : ∀ (n : Nat) (v1 : Int32) (pi_held : (Nat → Int64)) (out : (Nat → Int64)), lp_X1_dropLowest_2 pi_len n v1 pi_held = some out → ∀ (H : Heap) (locs : List Loc) (ls : Array Slot), Wd D A H0 (wd_4 cC cI cJ a_pi pi_size a_pi_held a_pi_held pi_len pi_held) H locs → lv_has ls 2 [(0, .ref a_pi), (1, .int v1)] → (∀ (H : Heap) (locs : List Loc) (ls : Array Slot), Wd D A H0 (wd_4 cC cI cJ a_pi pi_size a_pi_held a_pi_held pi_len out) H locs → lv_has ls 2 [(0, .ref a_pi)] → W p l e rX1_dropLowest s m args below meth c H locs 0 0 Q (F0 m 31 ls [])) → W p l e rX1_dropLowest s m args below meth c H locs 0 0 Q (F0 m 2 ls []) := by
  have hx := S.1
  have hb := S.2.1
  intro n
  induction n with
  | zero => intro v1 pi_held out hm; cases (show (none : Option (Nat → Int64)) = some out from hm)
  | succ n ih =>
    intro v1 pi_held out hm  H locs ls hw hl K0
    rw [lp_X1_dropLowest_2] at hm
    refine lv_iload_n hx hb dX1_dropLowest_2 rfl (lv_at hl 1 rfl) ?_
    refine lv_aload_n hx hb dX1_dropLowest_3 rfl (lv_at hl 0 rfl) ?_
    refine f_get S hK hw.1 in_X1_dropLowest_X1 0 rfl rfl 1 (by decide) (List.mem_of_getElem? (i := 1) rfl) rfl rfl dX1_dropLowest_4 ?_
    refine f_alen S hK hw.1 1 2 rfl rfl (v := (Int32.ofNat pi_len)) rfl dX1_dropLowest_7 ?_
    refine lv_icmp_ge (tgt := 31) hx hb dX1_dropLowest_8 (by decide) (fun c1 => ?_) (fun c1 => ?_)
    · replace hm := ipos hm c1
      obtain rfl := Option.some.inj hm
      exact K0  _ _ ls hw (lv_sub hl [0] rfl)
    · replace hm := ineg hm c1
      refine lv_aload_n hx hb dX1_dropLowest_11 rfl (lv_at hl 0 rfl) ?_
      refine f_get S hK hw.1 in_X1_dropLowest_X1 0 rfl rfl 1 (by decide) (List.mem_of_getElem? (i := 1) rfl) rfl rfl dX1_dropLowest_12 ?_
      refine lv_iload_n hx hb dX1_dropLowest_15 rfl (lv_at hl 1 rfl) ?_
      refine lv_iconst (v := 1) hx hb dX1_dropLowest_16 (by decide) ?_
      refine lv_isub hx hb dX1_dropLowest_17 ?_
      refine lv_aload_n hx hb dX1_dropLowest_18 rfl (lv_at hl 0 rfl) ?_
      refine f_get S hK hw.1 in_X1_dropLowest_X1 0 rfl rfl 1 (by decide) (List.mem_of_getElem? (i := 1) rfl) rfl rfl dX1_dropLowest_19 ?_
      refine lv_iload_n hx hb dX1_dropLowest_22 rfl (lv_at hl 1 rfl) ?_
      obtain ⟨g2, hm⟩ := gdo hm
      refine f_lald S hK hw.1 1 2 rfl rfl g2 dX1_dropLowest_23 ?_
      obtain ⟨g3, hm⟩ := gdo hm
      refine f_last S hK hw 1 2 rfl rfl g3 (ws1 := (wd_4 cC cI cJ a_pi pi_size a_pi_held a_pi_held pi_len (vp_updL pi_held ((v1 - (1 : Int32))).toNatClampNeg (pi_held (v1).toNatClampNeg)))) rfl dX1_dropLowest_24 (fun H locs hw => ?_)
      refine lv_iinc (v := (v1 + 1)) (lv' := [(1, .int (v1 + 1)), (0, .ref a_pi)]) hx hb dX1_dropLowest_25 hl (k := 1) rfl (by rw [ofi_1]) (by decide) rfl (fun ls hl => ?_)
      refine lv_goto (tgt := 2) hx hb dX1_dropLowest_28 (by decide) ?_
      exact ih (v1 + 1) (vp_updL pi_held ((v1 - (1 : Int32))).toNatClampNeg (pi_held (v1).toNatClampNeg)) _ hm  _ _ ls hw (lv_sub hl [1, 0] rfl) K0
set_option maxHeartbeats 4000000 in
set_option maxRecDepth 100000 in
theorem c_X1_dropLowest (l : Launch) (D : va_G) (cC cI cJ : ClassId) (a_pi : Nat) (a_pi_held : Nat) (pi_size : Int32) (pi_len : Nat) (pi_held : (Nat → Int64)) (N : Nat) (A : Nat → Prop) (hD : va_D A (wd_4 cC cI cJ a_pi pi_size a_pi_held a_pi_held pi_len pi_held)) (out : (Int32 × (Nat → Int64))) (hm : m_X1_dropLowest N pi_len pi_held = some out) : WrV l yX1_dropLowest wsX1_dropLowest rX1_dropLowest D (tyK cC cI cJ) [.ref a_pi] A (wd_4 cC cI cJ a_pi pi_size a_pi_held a_pi_held pi_len pi_held) (Bw0 D (wd_4 cC cI cJ a_pi out.1 a_pi_held a_pi_held pi_len out.2)) := by
  unfold m_X1_dropLowest at hm
  refine enter (cc := cX1_dropLowest) (maxL := 2) (ret := none) (lv := [(0, .ref a_pi)]) (by decide) rfl (Nat.le_of_ble_eq_true rfl) rfl ?_
  intro p e s m args below meth c S hr hlk hK hP ls hl
  replace S : CallFix p m c cX1_dropLowest 2 s args wsX1_dropLowest RX1 := S
  have hx := S.1
  have hb := S.2.1
  have hw : Wd D A s.heap (wd_4 cC cI cJ a_pi pi_size a_pi_held a_pi_held pi_len pi_held) s.heap [] := ⟨hP, hD, va_S.rf⟩
  have hw0 := hw
  refine lv_iconst (v := 1) hx hb dX1_dropLowest_0 (by decide) ?_
  refine lv_istore_n (lv' := [(1, .int (1 : Int32)), (0, .ref a_pi)]) hx hb dX1_dropLowest_1 rfl hl (by decide) rfl (fun ls hl => ?_)
  obtain ⟨r4, h5, hm⟩ := ob hm
  refine t_X1_dropLowest_2 l S hK a_pi a_pi_held pi_size pi_len N (1 : Int32) pi_held r4 h5  _ _ ls hw (lv_sub hl [1, 0] rfl) (fun H locs ls hw hl => ?_)
  refine lv_aload_n hx hb dX1_dropLowest_31 rfl (lv_at hl 0 rfl) ?_
  refine lv_aload_n hx hb dX1_dropLowest_32 rfl (lv_at hl 0 rfl) ?_
  refine f_get S hK hw.1 in_X1_dropLowest_X1 0 rfl rfl 1 (by decide) (List.mem_of_getElem? (i := 1) rfl) rfl rfl dX1_dropLowest_33 ?_
  refine f_alen S hK hw.1 1 2 rfl rfl (v := (Int32.ofNat pi_len)) rfl dX1_dropLowest_36 ?_
  refine lv_iconst (v := 1) hx hb dX1_dropLowest_37 (by decide) ?_
  refine lv_isub hx hb dX1_dropLowest_38 ?_
  obtain ⟨y6, e7, hm⟩ := ob hm
  refine f_name e7 ?_
  refine f_put S hK hw in_X1_dropLowest_X1 tyX1_ok nmX1 0 rfl rfl 0 (by decide) (List.mem_of_getElem? (i := 2) rfl) rfl rfl rfl rfl (Nat.le_of_ble_eq_true rfl) (ws1 := (wd_4 cC cI cJ a_pi y6 a_pi_held a_pi_held pi_len r4)) rfl dX1_dropLowest_39 (fun H locs hw => ?_)
  obtain rfl := Option.some.inj hm
  exact e_WV S hr hlk hw hw.1 dX1_dropLowest_42

abbrev rX1_put : Room := { frames := 1, cells := 0, slots := 0, locals := 21 }
theorem cal_X1_put : Cal yX1_put wsX1_put cX1_put 3 none RX1 1 := ⟨⟨_, rfl⟩, rfl, by decide +kernel, by decide +kernel, by decide +kernel⟩
theorem in_X1_put_X1 : ∀ w ∈ wsX10, w ∈ wsX1_put := fun _ h => (List.mem_cons_of_mem _ (List.mem_append_right _ h))
set_option maxHeartbeats 4000000 in
set_option maxRecDepth 100000 in
theorem c_X1_put (l : Launch) (D : va_G) (cC cI cJ : ClassId) (a_pi : Nat) (a_pi_held : Nat) (pi_size : Int32) (pi_len : Nat) (pi_held : (Nat → Int64)) (p0 : Int64) (N : Nat) (A : Nat → Prop) (hD : va_D A (wd_4 cC cI cJ a_pi pi_size a_pi_held a_pi_held pi_len pi_held)) (out : (Int32 × (Nat → Int64))) (hm : m_X1_put N pi_size pi_len pi_held p0 = some out) : WrV l yX1_put wsX1_put rX1_put D (tyK cC cI cJ) [.ref a_pi, .long p0] A (wd_4 cC cI cJ a_pi pi_size a_pi_held a_pi_held pi_len pi_held) (Bw0 D (wd_4 cC cI cJ a_pi out.1 a_pi_held a_pi_held pi_len out.2)) := by
  unfold m_X1_put at hm
  refine enter (cc := cX1_put) (maxL := 3) (ret := none) (lv := [(0, .ref a_pi), (1, .long p0)]) (by decide) rfl (Nat.le_of_ble_eq_true rfl) rfl ?_
  intro p e s m args below meth c S hr hlk hK hP ls hl
  replace S : CallFix p m c cX1_put 3 s args wsX1_put RX1 := S
  have hx := S.1
  have hb := S.2.1
  have hw : Wd D A s.heap (wd_4 cC cI cJ a_pi pi_size a_pi_held a_pi_held pi_len pi_held) s.heap [] := ⟨hP, hD, va_S.rf⟩
  have hw0 := hw
  refine lv_aload_n hx hb dX1_put_0 rfl (lv_at hl 0 rfl) ?_
  refine f_get S hK hw.1 in_X1_put_X1 0 rfl rfl 0 (by decide) (List.mem_of_getElem? (i := 1) rfl) rfl rfl dX1_put_1 ?_
  refine lv_aload_n hx hb dX1_put_4 rfl (lv_at hl 0 rfl) ?_
  refine f_get S hK hw.1 in_X1_put_X1 0 rfl rfl 1 (by decide) (List.mem_of_getElem? (i := 2) rfl) rfl rfl dX1_put_5 ?_
  refine f_alen S hK hw.1 1 2 rfl rfl (v := (Int32.ofNat pi_len)) rfl dX1_put_8 ?_
  refine lv_icmp_lt (tgt := 16) hx hb dX1_put_9 (by decide) (fun c1 => ?_) (fun c1 => ?_)
  · replace hm := ipos hm c1
    refine lv_aload_n hx hb dX1_put_16 rfl (lv_at hl 0 rfl) ?_
    refine f_get S hK hw.1 in_X1_put_X1 0 rfl rfl 0 (by decide) (List.mem_of_getElem? (i := 1) rfl) rfl rfl dX1_put_17 ?_
    refine lv_if_lt (tgt := 55) hx hb dX1_put_20 (by decide) (fun c2 => ?_) (fun c2 => ?_)
    · replace hm := ipos hm c2
      obtain rfl := Option.some.inj hm
      exact e_WV S hr hlk hw hw.1 dX1_put_55
    · replace hm := ineg hm c2
      refine lv_aload_n hx hb dX1_put_23 rfl (lv_at hl 0 rfl) ?_
      refine f_get S hK hw.1 in_X1_put_X1 0 rfl rfl 0 (by decide) (List.mem_of_getElem? (i := 1) rfl) rfl rfl dX1_put_24 ?_
      refine lv_aload_n hx hb dX1_put_27 rfl (lv_at hl 0 rfl) ?_
      refine f_get S hK hw.1 in_X1_put_X1 0 rfl rfl 1 (by decide) (List.mem_of_getElem? (i := 2) rfl) rfl rfl dX1_put_28 ?_
      refine f_alen S hK hw.1 1 2 rfl rfl (v := (Int32.ofNat pi_len)) rfl dX1_put_31 ?_
      refine lv_icmp_ge (tgt := 55) hx hb dX1_put_32 (by decide) (fun c3 => ?_) (fun c3 => ?_)
      · replace hm := ipos hm c3
        obtain rfl := Option.some.inj hm
        exact e_WV S hr hlk hw hw.1 dX1_put_55
      · replace hm := ineg hm c3
        refine lv_aload_n hx hb dX1_put_35 rfl (lv_at hl 0 rfl) ?_
        refine f_get S hK hw.1 in_X1_put_X1 0 rfl rfl 1 (by decide) (List.mem_of_getElem? (i := 2) rfl) rfl rfl dX1_put_36 ?_
        refine lv_aload_n hx hb dX1_put_39 rfl (lv_at hl 0 rfl) ?_
        refine f_get S hK hw.1 in_X1_put_X1 0 rfl rfl 0 (by decide) (List.mem_of_getElem? (i := 1) rfl) rfl rfl dX1_put_40 ?_
        refine lv_lload_n hx hb dX1_put_43 rfl (lv_at hl 1 rfl) ?_
        obtain ⟨g4, hm⟩ := gdo hm
        refine f_last S hK hw 1 2 rfl rfl g4 (ws1 := (wd_4 cC cI cJ a_pi pi_size a_pi_held a_pi_held pi_len (vp_updL pi_held (pi_size).toNatClampNeg p0))) rfl dX1_put_44 (fun H locs hw => ?_)
        refine lv_aload_n hx hb dX1_put_45 rfl (lv_at hl 0 rfl) ?_
        refine lv_dup hx hb dX1_put_46 rfl ?_
        refine f_get S hK hw.1 in_X1_put_X1 0 rfl rfl 0 (by decide) (List.mem_of_getElem? (i := 1) rfl) rfl rfl dX1_put_47 ?_
        refine lv_iconst (v := 1) hx hb dX1_put_50 (by decide) ?_
        refine lv_iadd hx hb dX1_put_51 ?_
        refine f_put S hK hw in_X1_put_X1 tyX1_ok nmX1 0 rfl rfl 0 (by decide) (List.mem_of_getElem? (i := 1) rfl) rfl rfl rfl rfl (Nat.le_of_ble_eq_true rfl) (ws1 := (wd_4 cC cI cJ a_pi (pi_size + (1 : Int32)) a_pi_held a_pi_held pi_len (vp_updL pi_held (pi_size).toNatClampNeg p0))) rfl dX1_put_52 (fun H locs hw => ?_)
        obtain rfl := Option.some.inj hm
        exact e_WV S hr hlk hw hw.1 dX1_put_55
  · replace hm := ineg hm c1
    refine lv_aload_n hx hb dX1_put_12 rfl (lv_at hl 0 rfl) ?_
    obtain ⟨r5, h6, hm⟩ := ob hm
    refine k_wVv S hK hw cal_X1_dropLowest gX1_put_X1_dropLowest (c_X1_dropLowest l D cC cI cJ a_pi a_pi_held pi_size pi_len pi_held N (aw _) (hw.own [0, 1] (by decide) rfl) r5 h6) ⟨⟨rfl, rfl⟩, Nat.le_of_ble_eq_true rfl, Nat.le_of_ble_eq_true rfl⟩ [0, 1] rfl 0 rfl rfl rfl hl.1 rfl (Nat.le_of_ble_eq_true rfl) dX1_put_13 ⟨Nat.zero_le _, Nat.zero_le _⟩ (fun H locs hJ hB => ?_)
    have hw := hJ _ hB rfl
    replace hw : Wd D A _ (wd_4 cC cI cJ a_pi r5.1 a_pi_held a_pi_held pi_len r5.2) H locs := hw
    refine lv_aload_n hx hb dX1_put_16 rfl (lv_at hl 0 rfl) ?_
    refine f_get S hK hw.1 in_X1_put_X1 0 rfl rfl 0 (by decide) (List.mem_of_getElem? (i := 1) rfl) rfl rfl dX1_put_17 ?_
    refine lv_if_lt (tgt := 55) hx hb dX1_put_20 (by decide) (fun c7 => ?_) (fun c7 => ?_)
    · replace hm := ipos hm c7
      obtain rfl := Option.some.inj hm
      exact e_WV S hr hlk hw hw.1 dX1_put_55
    · replace hm := ineg hm c7
      refine lv_aload_n hx hb dX1_put_23 rfl (lv_at hl 0 rfl) ?_
      refine f_get S hK hw.1 in_X1_put_X1 0 rfl rfl 0 (by decide) (List.mem_of_getElem? (i := 1) rfl) rfl rfl dX1_put_24 ?_
      refine lv_aload_n hx hb dX1_put_27 rfl (lv_at hl 0 rfl) ?_
      refine f_get S hK hw.1 in_X1_put_X1 0 rfl rfl 1 (by decide) (List.mem_of_getElem? (i := 2) rfl) rfl rfl dX1_put_28 ?_
      refine f_alen S hK hw.1 1 2 rfl rfl (v := (Int32.ofNat pi_len)) rfl dX1_put_31 ?_
      refine lv_icmp_ge (tgt := 55) hx hb dX1_put_32 (by decide) (fun c8 => ?_) (fun c8 => ?_)
      · replace hm := ipos hm c8
        obtain rfl := Option.some.inj hm
        exact e_WV S hr hlk hw hw.1 dX1_put_55
      · replace hm := ineg hm c8
        refine lv_aload_n hx hb dX1_put_35 rfl (lv_at hl 0 rfl) ?_
        refine f_get S hK hw.1 in_X1_put_X1 0 rfl rfl 1 (by decide) (List.mem_of_getElem? (i := 2) rfl) rfl rfl dX1_put_36 ?_
        refine lv_aload_n hx hb dX1_put_39 rfl (lv_at hl 0 rfl) ?_
        refine f_get S hK hw.1 in_X1_put_X1 0 rfl rfl 0 (by decide) (List.mem_of_getElem? (i := 1) rfl) rfl rfl dX1_put_40 ?_
        refine lv_lload_n hx hb dX1_put_43 rfl (lv_at hl 1 rfl) ?_
        obtain ⟨g9, hm⟩ := gdo hm
        refine f_last S hK hw 1 2 rfl rfl g9 (ws1 := (wd_4 cC cI cJ a_pi r5.1 a_pi_held a_pi_held pi_len (vp_updL r5.2 (r5.1).toNatClampNeg p0))) rfl dX1_put_44 (fun H locs hw => ?_)
        refine lv_aload_n hx hb dX1_put_45 rfl (lv_at hl 0 rfl) ?_
        refine lv_dup hx hb dX1_put_46 rfl ?_
        refine f_get S hK hw.1 in_X1_put_X1 0 rfl rfl 0 (by decide) (List.mem_of_getElem? (i := 1) rfl) rfl rfl dX1_put_47 ?_
        refine lv_iconst (v := 1) hx hb dX1_put_50 (by decide) ?_
        refine lv_iadd hx hb dX1_put_51 ?_
        refine f_put S hK hw in_X1_put_X1 tyX1_ok nmX1 0 rfl rfl 0 (by decide) (List.mem_of_getElem? (i := 1) rfl) rfl rfl rfl rfl (Nat.le_of_ble_eq_true rfl) (ws1 := (wd_4 cC cI cJ a_pi (r5.1 + (1 : Int32)) a_pi_held a_pi_held pi_len (vp_updL r5.2 (r5.1).toNatClampNeg p0))) rfl dX1_put_52 (fun H locs hw => ?_)
        obtain rfl := Option.some.inj hm
        exact e_WV S hr hlk hw hw.1 dX1_put_55

abbrev rX1_takeLatest : Room := { frames := 0, cells := 0, slots := 0, locals := 0 }
theorem cal_X1_takeLatest : Cal yX1_takeLatest wsX1_takeLatest cX1_takeLatest 1 (some .long) RX1 0 := ⟨⟨_, rfl⟩, rfl, by decide +kernel, by decide +kernel, by decide +kernel⟩
theorem in_X1_takeLatest_X1 : ∀ w ∈ wsX10, w ∈ wsX1_takeLatest := fun _ h => (List.mem_cons_of_mem _ (List.mem_append_right _ h))
set_option maxHeartbeats 4000000 in
set_option maxRecDepth 100000 in
theorem c_X1_takeLatest (l : Launch) (D : va_G) (cC cI cJ : ClassId) (a_pi : Nat) (a_pi_held : Nat) (pi_size : Int32) (pi_len : Nat) (pi_held : (Nat → Int64)) (A : Nat → Prop) (hD : va_D A (wd_4 cC cI cJ a_pi pi_size a_pi_held a_pi_held pi_len pi_held)) (out : (Int64 × Int32)) (hm : m_X1_takeLatest pi_size pi_len pi_held = some out) : WrL l yX1_takeLatest wsX1_takeLatest rX1_takeLatest D (tyK cC cI cJ) [.ref a_pi] A (wd_4 cC cI cJ a_pi pi_size a_pi_held a_pi_held pi_len pi_held) (Bw0 D (wd_4 cC cI cJ a_pi out.2 a_pi_held a_pi_held pi_len pi_held)) out.1 := by
  unfold m_X1_takeLatest at hm
  refine enter (cc := cX1_takeLatest) (maxL := 1) (ret := (some .long)) (lv := [(0, .ref a_pi)]) (by decide) rfl (Nat.le_of_ble_eq_true rfl) rfl ?_
  intro p e s m args below meth c S hr hlk hK hP ls hl
  replace S : CallFix p m c cX1_takeLatest 1 s args wsX1_takeLatest RX1 := S
  have hx := S.1
  have hb := S.2.1
  have hw : Wd D A s.heap (wd_4 cC cI cJ a_pi pi_size a_pi_held a_pi_held pi_len pi_held) s.heap [] := ⟨hP, hD, va_S.rf⟩
  have hw0 := hw
  refine lv_aload_n hx hb dX1_takeLatest_0 rfl (lv_at hl 0 rfl) ?_
  refine f_get S hK hw.1 in_X1_takeLatest_X1 0 rfl rfl 0 (by decide) (List.mem_of_getElem? (i := 1) rfl) rfl rfl dX1_takeLatest_1 ?_
  refine lv_iconst (v := 1) hx hb dX1_takeLatest_4 (by decide) ?_
  refine lv_icmp_lt (tgt := 20) hx hb dX1_takeLatest_5 (by decide) (fun c1 => ?_) (fun c1 => ?_)
  · replace hm := ipos hm c1
    refine lv_lconst (v := 0) hx hb dX1_takeLatest_20 (by decide) ?_
    obtain rfl := Option.some.inj hm
    exact e_WL S hr hlk hw rfl hw.1 dX1_takeLatest_21
  · replace hm := ineg hm c1
    refine lv_aload_n hx hb dX1_takeLatest_8 rfl (lv_at hl 0 rfl) ?_
    refine f_get S hK hw.1 in_X1_takeLatest_X1 0 rfl rfl 0 (by decide) (List.mem_of_getElem? (i := 1) rfl) rfl rfl dX1_takeLatest_9 ?_
    refine lv_aload_n hx hb dX1_takeLatest_12 rfl (lv_at hl 0 rfl) ?_
    refine f_get S hK hw.1 in_X1_takeLatest_X1 0 rfl rfl 1 (by decide) (List.mem_of_getElem? (i := 2) rfl) rfl rfl dX1_takeLatest_13 ?_
    refine f_alen S hK hw.1 1 2 rfl rfl (v := (Int32.ofNat pi_len)) rfl dX1_takeLatest_16 ?_
    refine lv_icmp_le (tgt := 22) hx hb dX1_takeLatest_17 (by decide) (fun c2 => ?_) (fun c2 => ?_)
    · replace hm := ipos hm c2
      refine lv_aload_n hx hb dX1_takeLatest_22 rfl (lv_at hl 0 rfl) ?_
      refine lv_dup hx hb dX1_takeLatest_23 rfl ?_
      refine f_get S hK hw.1 in_X1_takeLatest_X1 0 rfl rfl 0 (by decide) (List.mem_of_getElem? (i := 1) rfl) rfl rfl dX1_takeLatest_24 ?_
      refine lv_iconst (v := 1) hx hb dX1_takeLatest_27 (by decide) ?_
      refine lv_isub hx hb dX1_takeLatest_28 ?_
      refine f_put S hK hw in_X1_takeLatest_X1 tyX1_ok nmX1 0 rfl rfl 0 (by decide) (List.mem_of_getElem? (i := 1) rfl) rfl rfl rfl rfl (Nat.le_of_ble_eq_true rfl) (ws1 := (wd_4 cC cI cJ a_pi (pi_size - (1 : Int32)) a_pi_held a_pi_held pi_len pi_held)) rfl dX1_takeLatest_29 (fun H locs hw => ?_)
      refine lv_aload_n hx hb dX1_takeLatest_32 rfl (lv_at hl 0 rfl) ?_
      refine f_get S hK hw.1 in_X1_takeLatest_X1 0 rfl rfl 1 (by decide) (List.mem_of_getElem? (i := 2) rfl) rfl rfl dX1_takeLatest_33 ?_
      refine lv_aload_n hx hb dX1_takeLatest_36 rfl (lv_at hl 0 rfl) ?_
      refine f_get S hK hw.1 in_X1_takeLatest_X1 0 rfl rfl 0 (by decide) (List.mem_of_getElem? (i := 1) rfl) rfl rfl dX1_takeLatest_37 ?_
      obtain ⟨g3, hm⟩ := gdo hm
      refine f_lald S hK hw.1 1 2 rfl rfl g3 dX1_takeLatest_40 ?_
      obtain rfl := Option.some.inj hm
      exact e_WL S hr hlk hw rfl hw.1 dX1_takeLatest_41
    · replace hm := ineg hm c2
      refine lv_lconst (v := 0) hx hb dX1_takeLatest_20 (by decide) ?_
      obtain rfl := Option.some.inj hm
      exact e_WL S hr hlk hw rfl hw.1 dX1_takeLatest_21

abbrev rX3_add : Room := { frames := 1, cells := 0, slots := 0, locals := 24 }
theorem cal_X3_add : Cal yX3_add wsX3_add cX3_add 3 none RX3 2 := ⟨⟨_, rfl⟩, rfl, by decide +kernel, by decide +kernel, by decide +kernel⟩
theorem in_X3_add_X3 : ∀ w ∈ wsX30, w ∈ wsX3_add := fun _ h => (List.mem_cons_of_mem _ (List.mem_append_right _ h))
set_option maxHeartbeats 4000000 in
set_option maxRecDepth 100000 in
theorem c_X3_add (l : Launch) (D : va_G) (cC cI cJ : ClassId) (a_se : Nat) (a_se_left : Nat) (se_size : Int32) (se_lastPlace : Int32) (se_left : (Nat → Int32)) (p0 : Int32) (p1 : Int32) (A : Nat → Prop) (hD : va_D A (wd_5 cC cI cJ a_se se_size se_lastPlace a_se_left a_se_left se_left)) (out : (Int32 × Int32 × (Nat → Int32))) (hm : m_X3_add se_size se_lastPlace se_left p0 p1 = some out) : WrV l yX3_add wsX3_add rX3_add D (tyK cC cI cJ) [.ref a_se, .int p0, .int p1] A (wd_5 cC cI cJ a_se se_size se_lastPlace a_se_left a_se_left se_left) (Bw0 D (wd_5 cC cI cJ a_se out.1 out.2.1 a_se_left a_se_left out.2.2)) := by
  unfold m_X3_add at hm
  refine enter (cc := cX3_add) (maxL := 3) (ret := none) (lv := [(0, .ref a_se), (1, .int p0), (2, .int p1)]) (by decide) rfl (Nat.le_of_ble_eq_true rfl) rfl ?_
  intro p e s m args below meth c S hr hlk hK hP ls hl
  replace S : CallFix p m c cX3_add 3 s args wsX3_add RX3 := S
  have hx := S.1
  have hb := S.2.1
  have hw : Wd D A s.heap (wd_5 cC cI cJ a_se se_size se_lastPlace a_se_left a_se_left se_left) s.heap [] := ⟨hP, hD, va_S.rf⟩
  have hw0 := hw
  refine lv_aload_n hx hb dX3_add_0 rfl (lv_at hl 0 rfl) ?_
  refine f_get S hK hw.1 in_X3_add_X3 0 rfl rfl 2 (by decide) (List.mem_of_getElem? (i := 1) rfl) rfl rfl dX3_add_1 ?_
  refine lv_iload_n hx hb dX3_add_4 rfl (lv_at hl 2 rfl) ?_
  refine lv_iconst (v := 1) hx hb dX3_add_5 (by decide) ?_
  refine lv_isub hx hb dX3_add_6 ?_
  refine lv_aload_n hx hb dX3_add_7 rfl (lv_at hl 0 rfl) ?_
  refine f_get S hK hw.1 in_X3_add_X3 0 rfl rfl 2 (by decide) (List.mem_of_getElem? (i := 1) rfl) rfl rfl dX3_add_8 ?_
  refine lv_iload_n hx hb dX3_add_11 rfl (lv_at hl 2 rfl) ?_
  refine lv_iconst (v := 1) hx hb dX3_add_12 (by decide) ?_
  refine lv_isub hx hb dX3_add_13 ?_
  obtain ⟨r1, h2, hm⟩ := ob hm
  refine k_rNi S hK hw.1 cal_X5_numberAt gX3_add_X5_numberAt_n29 (List.mem_of_getElem? (i := 5) rfl) (List.mem_of_getElem? (i := 9) rfl) (List.mem_of_getElem? (i := 8) rfl) (c_X5_numberAt l D cC cI cJ a_se_left 8 se_left (p1 - (1 : Int32)) r1 h2) ⟨⟨rfl, rfl⟩, Nat.le_of_ble_eq_true rfl, Nat.le_of_ble_eq_true rfl⟩ [1] rfl rfl hl.1 rfl (Nat.le_of_ble_eq_true rfl) dX3_add_14 ⟨Nat.zero_le _, Nat.zero_le _⟩ ?_
  refine lv_iload_n hx hb dX3_add_17 rfl (lv_at hl 1 rfl) ?_
  obtain ⟨r3, h4, hm⟩ := ob hm
  refine k_rNi S hK hw.1 cal_X5_bit gX3_add_X5_bit_n33 (List.mem_of_getElem? (i := 6) rfl) (List.mem_of_getElem? (i := 9) rfl) (List.mem_of_getElem? (i := 11) rfl) (c_X5_bit l D cC cI cJ p0 r3 h4) ⟨⟨rfl, rfl⟩, Nat.le_of_ble_eq_true rfl, Nat.le_of_ble_eq_true rfl⟩ [] rfl rfl hl.1 rfl (Nat.le_of_ble_eq_true rfl) dX3_add_18 ⟨Nat.zero_le _, Nat.zero_le _⟩ ?_
  refine lv_iand hx hb dX3_add_21 ?_
  obtain ⟨r5, h6, hm⟩ := ob hm
  refine k_wNv S hK hw cal_X5_setNumber gX3_add_X5_setNumber_n25 (List.mem_of_getElem? (i := 0) rfl) (List.mem_of_getElem? (i := 9) rfl) (List.mem_of_getElem? (i := 13) rfl) (c_X5_setNumber l D cC cI cJ a_se_left 8 se_left (p1 - (1 : Int32)) (r1 &&& r3) (aw _) (hw.own [1] (by decide) rfl) r5 h6) ⟨⟨rfl, rfl⟩, Nat.le_of_ble_eq_true rfl, Nat.le_of_ble_eq_true rfl⟩ [1] rfl rfl hl.1 rfl (Nat.le_of_ble_eq_true rfl) dX3_add_22 ⟨Nat.zero_le _, Nat.zero_le _⟩ (fun H locs hJ hB => ?_)
  have hw := hJ _ hB rfl
  replace hw : Wd D A _ (wd_5 cC cI cJ a_se se_size se_lastPlace a_se_left a_se_left r5) H locs := hw
  refine lv_aload_n hx hb dX3_add_25 rfl (lv_at hl 0 rfl) ?_
  refine lv_aload_n hx hb dX3_add_26 rfl (lv_at hl 0 rfl) ?_
  refine f_get S hK hw.1 in_X3_add_X3 0 rfl rfl 1 (by decide) (List.mem_of_getElem? (i := 2) rfl) rfl rfl dX3_add_27 ?_
  refine lv_iload_n hx hb dX3_add_30 rfl (lv_at hl 2 rfl) ?_
  refine va_mmax hx hb (S.2.2.1.trans hl.1.symm) S.2.2.2.1 (S.2.2.2.2 _ (List.mem_of_getElem? (i := 3) rfl)) (S.2.2.2.2 _ (List.mem_of_getElem? (i := 4) rfl)) (S.2.2.2.2 _ (List.mem_of_getElem? (i := 5) rfl)) (S.2.2.2.2 _ (List.mem_of_getElem? (i := 6) rfl)) (Nat.le_of_ble_eq_true rfl) (Nat.le_of_ble_eq_true rfl) (Nat.zero_le _) (Nat.zero_le _) dX3_add_31 ?_
  obtain ⟨y7, e8, hm⟩ := ob hm
  refine f_name e8 ?_
  refine f_put S hK hw in_X3_add_X3 tyX3_ok nmX3 0 rfl rfl 1 (by decide) (List.mem_of_getElem? (i := 2) rfl) rfl rfl rfl rfl (Nat.le_of_ble_eq_true rfl) (ws1 := (wd_5 cC cI cJ a_se se_size y7 a_se_left a_se_left r5)) rfl dX3_add_34 (fun H locs hw => ?_)
  refine lv_aload_n hx hb dX3_add_37 rfl (lv_at hl 0 rfl) ?_
  refine lv_dup hx hb dX3_add_38 rfl ?_
  refine f_get S hK hw.1 in_X3_add_X3 0 rfl rfl 0 (by decide) (List.mem_of_getElem? (i := 7) rfl) rfl rfl dX3_add_39 ?_
  refine lv_iconst (v := 1) hx hb dX3_add_42 (by decide) ?_
  refine lv_iadd hx hb dX3_add_43 ?_
  refine f_put S hK hw in_X3_add_X3 tyX3_ok nmX3 0 rfl rfl 0 (by decide) (List.mem_of_getElem? (i := 7) rfl) rfl rfl rfl rfl (Nat.le_of_ble_eq_true rfl) (ws1 := (wd_5 cC cI cJ a_se (se_size + (1 : Int32)) y7 a_se_left a_se_left r5)) rfl dX3_add_44 (fun H locs hw => ?_)
  obtain rfl := Option.some.inj hm
  exact e_WV S hr hlk hw hw.1 dX3_add_47

abbrev rX3_clear : Room := { frames := 1, cells := 0, slots := 0, locals := 22 }
theorem cal_X3_clear : Cal yX3_clear wsX3_clear cX3_clear 2 none RX3 0 := ⟨⟨_, rfl⟩, rfl, by decide +kernel, by decide +kernel, by decide +kernel⟩
theorem in_X3_clear_X3 : ∀ w ∈ wsX30, w ∈ wsX3_clear := fun _ h => (List.mem_cons_of_mem _ (List.mem_append_right _ h))
set_option maxHeartbeats 4000000 in
set_option maxRecDepth 100000 in
theorem t_X3_clear_12 {p : Program} {e : Env} {s : State} {m : MethodId} {args : Array Value} {below : List Frame} {meth : Method} {c : Code} {Q : State → Prop} (l : Launch) {D : va_G} {cC cI cJ : ClassId} {A : Nat → Prop} {H0 : Heap} (S : CallFix p m c cX3_clear 2 s args wsX3_clear RX3) (hK : KK D (tyK cC cI cJ) s) (a_se : Nat) (a_se_left : Nat) (se_size : Int32) (se_lastPlace : Int32) : ∀ (n : Nat) (v1 : Int32) (se_left : (Nat → Int32)) (out : (Nat → Int32)), lp_X3_clear_12  n v1 se_left = some out → ∀ (H : Heap) (locs : List Loc) (ls : Array Slot), Wd D A H0 (wd_5 cC cI cJ a_se se_size se_lastPlace a_se_left a_se_left se_left) H locs → lv_has ls 2 [(0, .ref a_se), (1, .int v1)] → (∀ (H : Heap) (locs : List Loc) (ls : Array Slot), Wd D A H0 (wd_5 cC cI cJ a_se se_size se_lastPlace a_se_left a_se_left out) H locs → lv_has ls 2 [] → W p l e rX3_clear s m args below meth c H locs 0 0 Q (F0 m 35 ls [])) → W p l e rX3_clear s m args below meth c H locs 0 0 Q (F0 m 12 ls []) := by
  have hx := S.1
  have hb := S.2.1
  intro n
  induction n with
  | zero => intro v1 se_left out hm; cases (show (none : Option (Nat → Int32)) = some out from hm)
  | succ n ih =>
    intro v1 se_left out hm  H locs ls hw hl K0
    rw [lp_X3_clear_12] at hm
    refine lv_iload_n hx hb dX3_clear_12 rfl (lv_at hl 1 rfl) ?_
    refine lv_bipush (v := 8) hx hb dX3_clear_13 (by decide) ?_
    refine lv_icmp_ge (tgt := 35) hx hb dX3_clear_15 (by decide) (fun c1 => ?_) (fun c1 => ?_)
    · replace hm := ipos hm c1
      obtain rfl := Option.some.inj hm
      exact K0  _ _ ls hw (lv_sub hl [] rfl)
    · replace hm := ineg hm c1
      refine lv_aload_n hx hb dX3_clear_18 rfl (lv_at hl 0 rfl) ?_
      refine f_get S hK hw.1 in_X3_clear_X3 0 rfl rfl 2 (by decide) (List.mem_of_getElem? (i := 3) rfl) rfl rfl dX3_clear_19 ?_
      refine lv_iload_n hx hb dX3_clear_22 rfl (lv_at hl 1 rfl) ?_
      refine lv_sipush (v := 255) hx hb dX3_clear_23 (by decide) ?_
      obtain ⟨r2, h3, hm⟩ := ob hm
      refine k_wNv S hK hw cal_X5_setNumber gX3_clear_X5_setNumber_n25 (List.mem_of_getElem? (i := 0) rfl) (List.mem_of_getElem? (i := 5) rfl) (List.mem_of_getElem? (i := 4) rfl) (c_X5_setNumber l D cC cI cJ a_se_left 8 se_left v1 (255 : Int32) (aw _) (hw.own [1] (by decide) rfl) r2 h3) ⟨⟨rfl, rfl⟩, Nat.le_of_ble_eq_true rfl, Nat.le_of_ble_eq_true rfl⟩ [1] rfl rfl hl.1 rfl (Nat.le_of_ble_eq_true rfl) dX3_clear_26 ⟨Nat.zero_le _, Nat.zero_le _⟩ (fun H locs hJ hB => ?_)
      have hw := hJ _ hB rfl
      replace hw : Wd D A _ (wd_5 cC cI cJ a_se se_size se_lastPlace a_se_left a_se_left r2) H locs := hw
      refine lv_iinc (v := (v1 + 1)) (lv' := [(1, .int (v1 + 1)), (0, .ref a_se)]) hx hb dX3_clear_29 hl (k := 1) rfl (by rw [ofi_1]) (by decide) rfl (fun ls hl => ?_)
      refine lv_goto (tgt := 12) hx hb dX3_clear_32 (by decide) ?_
      exact ih (v1 + 1) r2 _ hm  _ _ ls hw (lv_sub hl [1, 0] rfl) K0
set_option maxHeartbeats 4000000 in
set_option maxRecDepth 100000 in
theorem c_X3_clear (l : Launch) (D : va_G) (cC cI cJ : ClassId) (a_se : Nat) (a_se_left : Nat) (se_size : Int32) (se_lastPlace : Int32) (se_left : (Nat → Int32)) (N : Nat) (A : Nat → Prop) (hD : va_D A (wd_5 cC cI cJ a_se se_size se_lastPlace a_se_left a_se_left se_left)) (out : (Int32 × Int32 × (Nat → Int32))) (hm : m_X3_clear N se_left = some out) : WrV l yX3_clear wsX3_clear rX3_clear D (tyK cC cI cJ) [.ref a_se] A (wd_5 cC cI cJ a_se se_size se_lastPlace a_se_left a_se_left se_left) (Bw0 D (wd_5 cC cI cJ a_se out.1 out.2.1 a_se_left a_se_left out.2.2)) := by
  unfold m_X3_clear at hm
  refine enter (cc := cX3_clear) (maxL := 2) (ret := none) (lv := [(0, .ref a_se)]) (by decide) rfl (Nat.le_of_ble_eq_true rfl) rfl ?_
  intro p e s m args below meth c S hr hlk hK hP ls hl
  replace S : CallFix p m c cX3_clear 2 s args wsX3_clear RX3 := S
  have hx := S.1
  have hb := S.2.1
  have hw : Wd D A s.heap (wd_5 cC cI cJ a_se se_size se_lastPlace a_se_left a_se_left se_left) s.heap [] := ⟨hP, hD, va_S.rf⟩
  have hw0 := hw
  refine lv_aload_n hx hb dX3_clear_0 rfl (lv_at hl 0 rfl) ?_
  refine lv_iconst (v := 0) hx hb dX3_clear_1 (by decide) ?_
  refine f_put S hK hw in_X3_clear_X3 tyX3_ok nmX3 0 rfl rfl 0 (by decide) (List.mem_of_getElem? (i := 1) rfl) rfl rfl rfl rfl (Nat.le_of_ble_eq_true rfl) (ws1 := (wd_5 cC cI cJ a_se (0 : Int32) se_lastPlace a_se_left a_se_left se_left)) rfl dX3_clear_2 (fun H locs hw => ?_)
  refine lv_aload_n hx hb dX3_clear_5 rfl (lv_at hl 0 rfl) ?_
  refine lv_iconst (v := 0) hx hb dX3_clear_6 (by decide) ?_
  refine f_put S hK hw in_X3_clear_X3 tyX3_ok nmX3 0 rfl rfl 1 (by decide) (List.mem_of_getElem? (i := 2) rfl) rfl rfl rfl rfl (Nat.le_of_ble_eq_true rfl) (ws1 := (wd_5 cC cI cJ a_se (0 : Int32) (0 : Int32) a_se_left a_se_left se_left)) rfl dX3_clear_7 (fun H locs hw => ?_)
  refine lv_iconst (v := 0) hx hb dX3_clear_10 (by decide) ?_
  refine lv_istore_n (lv' := [(1, .int (0 : Int32)), (0, .ref a_se)]) hx hb dX3_clear_11 rfl hl (by decide) rfl (fun ls hl => ?_)
  obtain ⟨r4, h5, hm⟩ := ob hm
  refine t_X3_clear_12 l S hK a_se a_se_left (0 : Int32) (0 : Int32) N (0 : Int32) se_left r4 h5  _ _ ls hw (lv_sub hl [1, 0] rfl) (fun H locs ls hw hl => ?_)
  obtain rfl := Option.some.inj hm
  exact e_WV S hr hlk hw hw.1 dX3_clear_35

abbrev rX3_isWithin : Room := { frames := 0, cells := 0, slots := 0, locals := 0 }
theorem cal_X3_isWithin : Cal yX3_isWithin wsX3_isWithin cX3_isWithin 2 (some .boolean) RX3 1 := ⟨⟨_, rfl⟩, rfl, by decide +kernel, by decide +kernel, by decide +kernel⟩
theorem in_X3_isWithin_X3 : ∀ w ∈ wsX30, w ∈ wsX3_isWithin := fun _ h => (List.mem_cons_of_mem _ (List.mem_append_right _ h))
set_option maxHeartbeats 4000000 in
set_option maxRecDepth 100000 in
theorem c_X3_isWithin (l : Launch) (D : va_G) (cC cI cJ : ClassId) (a_se : Nat) (a_se_left : Nat) (se_size : Int32) (se_lastPlace : Int32) (se_left : (Nat → Int32)) (p0 : Int32) (out : Int32) (hm : m_X3_isWithin se_lastPlace p0 = some out) : RdI l yX3_isWithin wsX3_isWithin rX3_isWithin D (tyK cC cI cJ) [.ref a_se, .int p0] (wd_5 cC cI cJ a_se se_size se_lastPlace a_se_left a_se_left se_left) out := by
  unfold m_X3_isWithin at hm
  refine enter (cc := cX3_isWithin) (maxL := 2) (ret := (some .boolean)) (lv := [(0, .ref a_se), (1, .int p0)]) (by decide) rfl (Nat.le_of_ble_eq_true rfl) rfl ?_
  intro p e s m args below meth c S hr hlk hK hP ls hl
  replace S : CallFix p m c cX3_isWithin 2 s args wsX3_isWithin RX3 := S
  have hx := S.1
  have hb := S.2.1
  refine lv_aload_n hx hb dX3_isWithin_0 rfl (lv_at hl 0 rfl) ?_
  refine f_get S hK hP in_X3_isWithin_X3 0 rfl rfl 1 (by decide) (List.mem_of_getElem? (i := 1) rfl) rfl rfl dX3_isWithin_1 ?_
  refine lv_iload_n hx hb dX3_isWithin_4 rfl (lv_at hl 1 rfl) ?_
  refine lv_icmp_gt (tgt := 12) hx hb dX3_isWithin_5 (by decide) (fun c1 => ?_) (fun c1 => ?_)
  · replace hm := ipos hm c1
    refine lv_iconst (v := 0) hx hb dX3_isWithin_12 (by decide) ?_
    exact e_RZ S hr hlk (Or.inl rfl) (Option.some.inj hm) dX3_isWithin_13
  · replace hm := ineg hm c1
    refine lv_iconst (v := 1) hx hb dX3_isWithin_8 (by decide) ?_
    refine lv_goto (tgt := 13) hx hb dX3_isWithin_9 (by decide) ?_
    exact e_RZ S hr hlk (Or.inr rfl) (Option.some.inj hm) dX3_isWithin_13

abbrev rX3_leaves : Room := { frames := 1, cells := 0, slots := 0, locals := 21 }
theorem cal_X3_leaves : Cal yX3_leaves wsX3_leaves cX3_leaves 3 (some .boolean) RX3 2 := ⟨⟨_, rfl⟩, rfl, by decide +kernel, by decide +kernel, by decide +kernel⟩
theorem in_X3_leaves_X3 : ∀ w ∈ wsX30, w ∈ wsX3_leaves := fun _ h => (List.mem_cons_of_mem _ (List.mem_append_right _ h))
set_option maxHeartbeats 4000000 in
set_option maxRecDepth 100000 in
theorem c_X3_leaves (l : Launch) (D : va_G) (cC cI cJ : ClassId) (a_se : Nat) (a_se_left : Nat) (se_size : Int32) (se_lastPlace : Int32) (se_left : (Nat → Int32)) (p0 : Int32) (p1 : Int32) (out : Int32) (hm : m_X3_leaves se_left p0 p1 = some out) : RdI l yX3_leaves wsX3_leaves rX3_leaves D (tyK cC cI cJ) [.ref a_se, .int p0, .int p1] (wd_5 cC cI cJ a_se se_size se_lastPlace a_se_left a_se_left se_left) out := by
  unfold m_X3_leaves at hm
  refine enter (cc := cX3_leaves) (maxL := 3) (ret := (some .boolean)) (lv := [(0, .ref a_se), (1, .int p0), (2, .int p1)]) (by decide) rfl (Nat.le_of_ble_eq_true rfl) rfl ?_
  intro p e s m args below meth c S hr hlk hK hP ls hl
  replace S : CallFix p m c cX3_leaves 3 s args wsX3_leaves RX3 := S
  have hx := S.1
  have hb := S.2.1
  refine lv_aload_n hx hb dX3_leaves_0 rfl (lv_at hl 0 rfl) ?_
  refine f_get S hK hP in_X3_leaves_X3 0 rfl rfl 2 (by decide) (List.mem_of_getElem? (i := 1) rfl) rfl rfl dX3_leaves_1 ?_
  refine lv_iload_n hx hb dX3_leaves_4 rfl (lv_at hl 2 rfl) ?_
  refine lv_iconst (v := 1) hx hb dX3_leaves_5 (by decide) ?_
  refine lv_isub hx hb dX3_leaves_6 ?_
  obtain ⟨r1, h2, hm⟩ := ob hm
  refine k_rNi S hK hP cal_X5_numberAt gX3_leaves_X5_numberAt_n29 (List.mem_of_getElem? (i := 5) rfl) (List.mem_of_getElem? (i := 3) rfl) (List.mem_of_getElem? (i := 2) rfl) (c_X5_numberAt l D cC cI cJ a_se_left 8 se_left (p1 - (1 : Int32)) r1 h2) ⟨⟨rfl, rfl⟩, Nat.le_of_ble_eq_true rfl, Nat.le_of_ble_eq_true rfl⟩ [1] rfl rfl hl.1 rfl (Nat.le_of_ble_eq_true rfl) dX3_leaves_7 ⟨Nat.zero_le _, Nat.zero_le _⟩ ?_
  refine lv_iload_n hx hb dX3_leaves_10 rfl (lv_at hl 1 rfl) ?_
  obtain ⟨r3, h4, hm⟩ := ob hm
  refine k_rNi S hK hP cal_X5_bit gX3_leaves_X5_bit_n33 (List.mem_of_getElem? (i := 6) rfl) (List.mem_of_getElem? (i := 3) rfl) (List.mem_of_getElem? (i := 5) rfl) (c_X5_bit l D cC cI cJ p0 r3 h4) ⟨⟨rfl, rfl⟩, Nat.le_of_ble_eq_true rfl, Nat.le_of_ble_eq_true rfl⟩ [] rfl rfl hl.1 rfl (Nat.le_of_ble_eq_true rfl) dX3_leaves_11 ⟨Nat.zero_le _, Nat.zero_le _⟩ ?_
  refine lv_iand hx hb dX3_leaves_14 ?_
  refine lv_if_eq (tgt := 22) hx hb dX3_leaves_15 (by decide) (fun c5 => ?_) (fun c5 => ?_)
  · replace hm := ipos hm c5
    refine lv_iconst (v := 0) hx hb dX3_leaves_22 (by decide) ?_
    exact e_RZ S hr hlk (Or.inl rfl) (Option.some.inj hm) dX3_leaves_23
  · replace hm := ineg hm c5
    refine lv_iconst (v := 1) hx hb dX3_leaves_18 (by decide) ?_
    refine lv_goto (tgt := 23) hx hb dX3_leaves_19 (by decide) ?_
    exact e_RZ S hr hlk (Or.inr rfl) (Option.some.inj hm) dX3_leaves_23

abbrev rX4_packed : Room := { frames := 0, cells := 0, slots := 0, locals := 0 }
theorem cal_X4_packed : Cal yX4_packed wsX4_packed cX4_packed 5 (some .long) RX4 0 := ⟨⟨_, rfl⟩, rfl, by decide +kernel, by decide +kernel, by decide +kernel⟩
theorem in_X4_packed_X4 : ∀ w ∈ wsX40, w ∈ wsX4_packed := fun _ h => (List.mem_cons_of_mem _ (List.mem_append_right _ h))
set_option maxHeartbeats 4000000 in
set_option maxRecDepth 100000 in
theorem c_X4_packed (l : Launch) (D : va_G) (cC cI cJ : ClassId) (a_st : Nat) (st_asked : Int32) (st_brought : Int32) (st_friends : Int32) (st_used : Int32) (st_crumbs : Int32) (st_day : Int32) (out : Int64) (hm : m_X4_packed st_asked st_brought st_friends st_used st_crumbs st_day = some out) : RdL l yX4_packed wsX4_packed rX4_packed D (tyK cC cI cJ) [.ref a_st] (wd_7 cC cI cJ a_st st_asked st_brought st_friends st_used st_crumbs st_day) out := by
  unfold m_X4_packed at hm
  refine enter (cc := cX4_packed) (maxL := 5) (ret := (some .long)) (lv := [(0, .ref a_st)]) (by decide) rfl (Nat.le_of_ble_eq_true rfl) rfl ?_
  intro p e s m args below meth c S hr hlk hK hP ls hl
  replace S : CallFix p m c cX4_packed 5 s args wsX4_packed RX4 := S
  have hx := S.1
  have hb := S.2.1
  refine lv_aload_n hx hb dX4_packed_0 rfl (lv_at hl 0 rfl) ?_
  refine f_get S hK hP in_X4_packed_X4 0 rfl rfl 0 (by decide) (List.mem_of_getElem? (i := 1) rfl) rfl rfl dX4_packed_1 ?_
  refine lv_aload_n hx hb dX4_packed_4 rfl (lv_at hl 0 rfl) ?_
  refine f_get S hK hP in_X4_packed_X4 0 rfl rfl 1 (by decide) (List.mem_of_getElem? (i := 2) rfl) rfl rfl dX4_packed_5 ?_
  refine lv_bipush (v := 8) hx hb dX4_packed_8 (by decide) ?_
  refine lv_ishl hx hb dX4_packed_10 ?_
  refine lv_ior hx hb dX4_packed_11 ?_
  refine lv_i2l (v := ((st_asked ||| (st_brought <<< ((8 : Int32) &&& 31)))).toInt64) hx hb dX4_packed_12 rfl ?_
  obtain ⟨y1, e2, hm⟩ := ob hm
  refine f_nameL e2 ?_
  refine lv_lstore_n (lv' := [(1, .long y1), (0, .ref a_st)]) hx hb dX4_packed_13 rfl hl (by decide) rfl (fun ls hl => ?_)
  refine lv_aload_n hx hb dX4_packed_14 rfl (lv_at hl 1 rfl) ?_
  refine f_get S hK hP in_X4_packed_X4 0 rfl rfl 2 (by decide) (List.mem_of_getElem? (i := 3) rfl) rfl rfl dX4_packed_15 ?_
  refine lv_aload_n hx hb dX4_packed_18 rfl (lv_at hl 1 rfl) ?_
  refine f_get S hK hP in_X4_packed_X4 0 rfl rfl 3 (by decide) (List.mem_of_getElem? (i := 4) rfl) rfl rfl dX4_packed_19 ?_
  refine lv_bipush (v := 7) hx hb dX4_packed_22 (by decide) ?_
  refine lv_ishl hx hb dX4_packed_24 ?_
  refine lv_ior hx hb dX4_packed_25 ?_
  refine lv_i2l (v := ((st_friends ||| (st_used <<< ((7 : Int32) &&& 31)))).toInt64) hx hb dX4_packed_26 rfl ?_
  obtain ⟨y3, e4, hm⟩ := ob hm
  refine f_nameL e4 ?_
  refine lv_lstore_n (lv' := [(3, .long y3), (1, .long y1), (0, .ref a_st)]) hx hb dX4_packed_27 rfl hl (by decide) rfl (fun ls hl => ?_)
  refine lv_lload_n hx hb dX4_packed_28 rfl (lv_at hl 1 rfl) ?_
  refine lv_lload_n hx hb dX4_packed_29 rfl (lv_at hl 0 rfl) ?_
  refine lv_bipush (v := 16) hx hb dX4_packed_30 (by decide) ?_
  refine lv_lshl (v := (y3 <<< (((16 : Int32)).toInt64 &&& 63))) hx hb dX4_packed_32 rfl ?_
  refine lv_lor hx hb dX4_packed_33 ?_
  refine lv_aload_n hx hb dX4_packed_34 rfl (lv_at hl 2 rfl) ?_
  refine f_get S hK hP in_X4_packed_X4 0 rfl rfl 4 (by decide) (List.mem_of_getElem? (i := 5) rfl) rfl rfl dX4_packed_35 ?_
  refine lv_i2l (v := (st_crumbs).toInt64) hx hb dX4_packed_38 rfl ?_
  refine lv_bipush (v := 30) hx hb dX4_packed_39 (by decide) ?_
  refine lv_lshl (v := (((st_crumbs).toInt64) <<< (((30 : Int32)).toInt64 &&& 63))) hx hb dX4_packed_41 rfl ?_
  refine lv_lor hx hb dX4_packed_42 ?_
  refine lv_aload_n hx hb dX4_packed_43 rfl (lv_at hl 2 rfl) ?_
  refine f_get S hK hP in_X4_packed_X4 0 rfl rfl 5 (by decide) (List.mem_of_getElem? (i := 6) rfl) rfl rfl dX4_packed_44 ?_
  refine lv_i2l (v := (st_day).toInt64) hx hb dX4_packed_47 rfl ?_
  refine lv_bipush (v := 37) hx hb dX4_packed_48 (by decide) ?_
  refine lv_lshl (v := (((st_day).toInt64) <<< (((37 : Int32)).toInt64 &&& 63))) hx hb dX4_packed_50 rfl ?_
  refine lv_lor hx hb dX4_packed_51 ?_
  exact e_RL S hr hlk (Option.some.inj hm) dX4_packed_52

abbrev rX4_unpack : Room := { frames := 0, cells := 0, slots := 0, locals := 0 }
theorem cal_X4_unpack : Cal yX4_unpack wsX4_unpack cX4_unpack 3 none RX4 1 := ⟨⟨_, rfl⟩, rfl, by decide +kernel, by decide +kernel, by decide +kernel⟩
theorem in_X4_unpack_X4 : ∀ w ∈ wsX40, w ∈ wsX4_unpack := fun _ h => (List.mem_cons_of_mem _ (List.mem_append_right _ h))
set_option maxHeartbeats 4000000 in
set_option maxRecDepth 100000 in
theorem c_X4_unpack (l : Launch) (D : va_G) (cC cI cJ : ClassId) (a_st : Nat) (st_asked : Int32) (st_brought : Int32) (st_friends : Int32) (st_used : Int32) (st_crumbs : Int32) (st_day : Int32) (p0 : Int64) (A : Nat → Prop) (hD : va_D A (wd_7 cC cI cJ a_st st_asked st_brought st_friends st_used st_crumbs st_day)) (out : (Int32 × Int32 × Int32 × Int32 × Int32 × Int32)) (hm : m_X4_unpack p0 = some out) : WrV l yX4_unpack wsX4_unpack rX4_unpack D (tyK cC cI cJ) [.ref a_st, .long p0] A (wd_7 cC cI cJ a_st st_asked st_brought st_friends st_used st_crumbs st_day) (Bw0 D (wd_7 cC cI cJ a_st out.1 out.2.1 out.2.2.1 out.2.2.2.1 out.2.2.2.2.1 out.2.2.2.2.2)) := by
  unfold m_X4_unpack at hm
  refine enter (cc := cX4_unpack) (maxL := 3) (ret := none) (lv := [(0, .ref a_st), (1, .long p0)]) (by decide) rfl (Nat.le_of_ble_eq_true rfl) rfl ?_
  intro p e s m args below meth c S hr hlk hK hP ls hl
  replace S : CallFix p m c cX4_unpack 3 s args wsX4_unpack RX4 := S
  have hx := S.1
  have hb := S.2.1
  have hw : Wd D A s.heap (wd_7 cC cI cJ a_st st_asked st_brought st_friends st_used st_crumbs st_day) s.heap [] := ⟨hP, hD, va_S.rf⟩
  have hw0 := hw
  refine lv_aload_n hx hb dX4_unpack_0 rfl (lv_at hl 0 rfl) ?_
  refine lv_lload_n hx hb dX4_unpack_1 rfl (lv_at hl 1 rfl) ?_
  refine lv_l2i (v := (p0).toInt32) hx hb dX4_unpack_2 rfl ?_
  refine lv_sipush (v := 255) hx hb dX4_unpack_3 (by decide) ?_
  refine lv_iand hx hb dX4_unpack_6 ?_
  obtain ⟨y1, e2, hm⟩ := ob hm
  refine f_name e2 ?_
  refine f_put S hK hw in_X4_unpack_X4 tyX4_ok nmX4 0 rfl rfl 0 (by decide) (List.mem_of_getElem? (i := 1) rfl) rfl rfl rfl rfl (Nat.le_of_ble_eq_true rfl) (ws1 := (wd_7 cC cI cJ a_st y1 st_brought st_friends st_used st_crumbs st_day)) rfl dX4_unpack_7 (fun H locs hw => ?_)
  refine lv_aload_n hx hb dX4_unpack_10 rfl (lv_at hl 0 rfl) ?_
  refine lv_lload_n hx hb dX4_unpack_11 rfl (lv_at hl 1 rfl) ?_
  refine lv_bipush (v := 8) hx hb dX4_unpack_12 (by decide) ?_
  refine lv_lshr (v := (p0 >>> (((8 : Int32)).toInt64 &&& 63))) hx hb dX4_unpack_14 rfl ?_
  refine lv_l2i (v := ((p0 >>> (((8 : Int32)).toInt64 &&& 63))).toInt32) hx hb dX4_unpack_15 rfl ?_
  refine lv_sipush (v := 255) hx hb dX4_unpack_16 (by decide) ?_
  refine lv_iand hx hb dX4_unpack_19 ?_
  obtain ⟨y3, e4, hm⟩ := ob hm
  refine f_name e4 ?_
  refine f_put S hK hw in_X4_unpack_X4 tyX4_ok nmX4 0 rfl rfl 1 (by decide) (List.mem_of_getElem? (i := 2) rfl) rfl rfl rfl rfl (Nat.le_of_ble_eq_true rfl) (ws1 := (wd_7 cC cI cJ a_st y1 y3 st_friends st_used st_crumbs st_day)) rfl dX4_unpack_20 (fun H locs hw => ?_)
  refine lv_aload_n hx hb dX4_unpack_23 rfl (lv_at hl 0 rfl) ?_
  refine lv_lload_n hx hb dX4_unpack_24 rfl (lv_at hl 1 rfl) ?_
  refine lv_bipush (v := 16) hx hb dX4_unpack_25 (by decide) ?_
  refine lv_lshr (v := (p0 >>> (((16 : Int32)).toInt64 &&& 63))) hx hb dX4_unpack_27 rfl ?_
  refine lv_l2i (v := ((p0 >>> (((16 : Int32)).toInt64 &&& 63))).toInt32) hx hb dX4_unpack_28 rfl ?_
  refine lv_bipush (v := 127) hx hb dX4_unpack_29 (by decide) ?_
  refine lv_iand hx hb dX4_unpack_31 ?_
  obtain ⟨y5, e6, hm⟩ := ob hm
  refine f_name e6 ?_
  refine f_put S hK hw in_X4_unpack_X4 tyX4_ok nmX4 0 rfl rfl 2 (by decide) (List.mem_of_getElem? (i := 3) rfl) rfl rfl rfl rfl (Nat.le_of_ble_eq_true rfl) (ws1 := (wd_7 cC cI cJ a_st y1 y3 y5 st_used st_crumbs st_day)) rfl dX4_unpack_32 (fun H locs hw => ?_)
  refine lv_aload_n hx hb dX4_unpack_35 rfl (lv_at hl 0 rfl) ?_
  refine lv_lload_n hx hb dX4_unpack_36 rfl (lv_at hl 1 rfl) ?_
  refine lv_bipush (v := 23) hx hb dX4_unpack_37 (by decide) ?_
  refine lv_lshr (v := (p0 >>> (((23 : Int32)).toInt64 &&& 63))) hx hb dX4_unpack_39 rfl ?_
  refine lv_l2i (v := ((p0 >>> (((23 : Int32)).toInt64 &&& 63))).toInt32) hx hb dX4_unpack_40 rfl ?_
  refine lv_bipush (v := 127) hx hb dX4_unpack_41 (by decide) ?_
  refine lv_iand hx hb dX4_unpack_43 ?_
  obtain ⟨y7, e8, hm⟩ := ob hm
  refine f_name e8 ?_
  refine f_put S hK hw in_X4_unpack_X4 tyX4_ok nmX4 0 rfl rfl 3 (by decide) (List.mem_of_getElem? (i := 4) rfl) rfl rfl rfl rfl (Nat.le_of_ble_eq_true rfl) (ws1 := (wd_7 cC cI cJ a_st y1 y3 y5 y7 st_crumbs st_day)) rfl dX4_unpack_44 (fun H locs hw => ?_)
  refine lv_aload_n hx hb dX4_unpack_47 rfl (lv_at hl 0 rfl) ?_
  refine lv_lload_n hx hb dX4_unpack_48 rfl (lv_at hl 1 rfl) ?_
  refine lv_bipush (v := 30) hx hb dX4_unpack_49 (by decide) ?_
  refine lv_lshr (v := (p0 >>> (((30 : Int32)).toInt64 &&& 63))) hx hb dX4_unpack_51 rfl ?_
  refine lv_l2i (v := ((p0 >>> (((30 : Int32)).toInt64 &&& 63))).toInt32) hx hb dX4_unpack_52 rfl ?_
  refine lv_bipush (v := 127) hx hb dX4_unpack_53 (by decide) ?_
  refine lv_iand hx hb dX4_unpack_55 ?_
  obtain ⟨y9, e10, hm⟩ := ob hm
  refine f_name e10 ?_
  refine f_put S hK hw in_X4_unpack_X4 tyX4_ok nmX4 0 rfl rfl 4 (by decide) (List.mem_of_getElem? (i := 5) rfl) rfl rfl rfl rfl (Nat.le_of_ble_eq_true rfl) (ws1 := (wd_7 cC cI cJ a_st y1 y3 y5 y7 y9 st_day)) rfl dX4_unpack_56 (fun H locs hw => ?_)
  refine lv_aload_n hx hb dX4_unpack_59 rfl (lv_at hl 0 rfl) ?_
  refine lv_lload_n hx hb dX4_unpack_60 rfl (lv_at hl 1 rfl) ?_
  refine lv_bipush (v := 37) hx hb dX4_unpack_61 (by decide) ?_
  refine lv_lshr (v := (p0 >>> (((37 : Int32)).toInt64 &&& 63))) hx hb dX4_unpack_63 rfl ?_
  refine lv_l2i (v := ((p0 >>> (((37 : Int32)).toInt64 &&& 63))).toInt32) hx hb dX4_unpack_64 rfl ?_
  refine lv_bipush (v := 127) hx hb dX4_unpack_65 (by decide) ?_
  refine lv_iand hx hb dX4_unpack_67 ?_
  obtain ⟨y11, e12, hm⟩ := ob hm
  refine f_name e12 ?_
  refine f_put S hK hw in_X4_unpack_X4 tyX4_ok nmX4 0 rfl rfl 5 (by decide) (List.mem_of_getElem? (i := 6) rfl) rfl rfl rfl rfl (Nat.le_of_ble_eq_true rfl) (ws1 := (wd_7 cC cI cJ a_st y1 y3 y5 y7 y9 y11)) rfl dX4_unpack_68 (fun H locs hw => ?_)
  obtain rfl := Option.some.inj hm
  exact e_WV S hr hlk hw hw.1 dX4_unpack_71

abbrev rX4_openTasks : Room := { frames := 0, cells := 0, slots := 0, locals := 0 }
theorem cal_X4_openTasks : Cal yX4_openTasks wsX4_openTasks cX4_openTasks 1 (some .int) RX4 0 := ⟨⟨_, rfl⟩, rfl, by decide +kernel, by decide +kernel, by decide +kernel⟩
theorem in_X4_openTasks_X4 : ∀ w ∈ wsX40, w ∈ wsX4_openTasks := fun _ h => (List.mem_cons_of_mem _ (List.mem_append_right _ h))
set_option maxHeartbeats 4000000 in
set_option maxRecDepth 100000 in
theorem c_X4_openTasks (l : Launch) (D : va_G) (cC cI cJ : ClassId) (a_st : Nat) (st_asked : Int32) (st_brought : Int32) (st_friends : Int32) (st_used : Int32) (st_crumbs : Int32) (st_day : Int32) (out : Int32) (hm : m_X4_openTasks st_asked st_brought = some out) : RdI l yX4_openTasks wsX4_openTasks rX4_openTasks D (tyK cC cI cJ) [.ref a_st] (wd_7 cC cI cJ a_st st_asked st_brought st_friends st_used st_crumbs st_day) out := by
  unfold m_X4_openTasks at hm
  refine enter (cc := cX4_openTasks) (maxL := 1) (ret := (some .int)) (lv := [(0, .ref a_st)]) (by decide) rfl (Nat.le_of_ble_eq_true rfl) rfl ?_
  intro p e s m args below meth c S hr hlk hK hP ls hl
  replace S : CallFix p m c cX4_openTasks 1 s args wsX4_openTasks RX4 := S
  have hx := S.1
  have hb := S.2.1
  refine lv_aload_n hx hb dX4_openTasks_0 rfl (lv_at hl 0 rfl) ?_
  refine f_get S hK hP in_X4_openTasks_X4 0 rfl rfl 0 (by decide) (List.mem_of_getElem? (i := 1) rfl) rfl rfl dX4_openTasks_1 ?_
  refine lv_aload_n hx hb dX4_openTasks_4 rfl (lv_at hl 0 rfl) ?_
  refine f_get S hK hP in_X4_openTasks_X4 0 rfl rfl 1 (by decide) (List.mem_of_getElem? (i := 2) rfl) rfl rfl dX4_openTasks_5 ?_
  refine lv_iconst (v := (-1)) hx hb dX4_openTasks_8 (by decide) ?_
  refine lv_ixor hx hb dX4_openTasks_9 ?_
  refine lv_iand hx hb dX4_openTasks_10 ?_
  exact e_RI S hr hlk (Option.some.inj hm) dX4_openTasks_11

abbrev rX4_tasksToCome : Room := { frames := 1, cells := 0, slots := 0, locals := 21 }
theorem cal_X4_tasksToCome : Cal yX4_tasksToCome wsX4_tasksToCome cX4_tasksToCome 5 (some .int) RX4 1 := ⟨⟨_, rfl⟩, rfl, by decide +kernel, by decide +kernel, by decide +kernel⟩
theorem in_X4_tasksToCome_X0 : ∀ w ∈ wsX00, w ∈ wsX4_tasksToCome := fun _ h => (List.mem_cons_of_mem _ (List.mem_append_left _ (List.mem_append_right _ h)))
theorem in_X4_tasksToCome_X4 : ∀ w ∈ wsX40, w ∈ wsX4_tasksToCome := fun _ h => (List.mem_cons_of_mem _ (List.mem_append_right _ h))
set_option maxHeartbeats 4000000 in
set_option maxRecDepth 100000 in
theorem t_X4_tasksToCome_16 {p : Program} {e : Env} {s : State} {m : MethodId} {args : Array Value} {below : List Frame} {meth : Method} {c : Code} {Q : State → Prop} {H : Heap} {locs : List Loc} (l : Launch) {D : va_G} {cC cI cJ : ClassId} (S : CallFix p m c cX4_tasksToCome 5 s args wsX4_tasksToCome RX4) (hK : KK D (tyK cC cI cJ) s) (a_st : Nat) (a_mo : Nat) (a_mo_kinds : Nat) (a_mo_days : Nat) (a_mo_rideDays : Nat) (a_mo_helpKinds : Nat) (a_mo_nexts : Nat) (a_mo_helperKinds : Nat) (a_mo_prices : Nat) (a_mo_helpersOfKind : Nat) (a_mo_numbers : Nat) (v3 : Int32) (st_asked : Int32) (st_brought : Int32) (st_friends : Int32) (st_used : Int32) (st_crumbs : Int32) (st_day : Int32) (mo_tasks : Int32) (mo_helpers : Int32) (mo_askedFirst : Int32) (mo_crumbsFirst : Int32) (mo_lastDay : Int32) (mo_kinds : (Nat → Int32)) (mo_days : (Nat → Int32)) (mo_rideDays : (Nat → Int32)) (mo_helpKinds : (Nat → Int32)) (mo_nexts : (Nat → Int32)) (mo_helperKinds : (Nat → Int32)) (mo_prices : (Nat → Int32)) (mo_helpersOfKind : (Nat → Int32)) (mo_numbers : (Nat → Int32)) (hP : va_P D vwCl (wd_8 cC cI cJ a_st st_asked st_brought st_friends st_used st_crumbs st_day a_mo mo_tasks mo_helpers mo_askedFirst mo_crumbsFirst mo_lastDay a_mo_kinds a_mo_days a_mo_rideDays a_mo_helpKinds a_mo_nexts a_mo_helperKinds a_mo_prices a_mo_helpersOfKind a_mo_numbers a_mo_kinds mo_kinds a_mo_days mo_days a_mo_rideDays mo_rideDays a_mo_helpKinds mo_helpKinds a_mo_nexts mo_nexts a_mo_helperKinds mo_helperKinds a_mo_prices mo_prices a_mo_helpersOfKind mo_helpersOfKind a_mo_numbers mo_numbers) H) : ∀ (n : Nat) (v2 : Int32) (v4 : Int32) (out : Int32), lp_X4_tasksToCome_16 st_brought mo_tasks mo_nexts n v2 v4 = some out → ∀ (ls : Array Slot), lv_has ls 5 [(0, .ref a_st), (1, .ref a_mo), (2, .int v2), (3, .int v3), (4, .int v4)] → (∀ (ls : Array Slot), lv_has ls 5 [(0, .ref a_st), (1, .ref a_mo), (2, .int out), (3, .int v3)] → W p l e rX4_tasksToCome s m args below meth c H locs 0 0 Q (F0 m 60 ls [])) → W p l e rX4_tasksToCome s m args below meth c H locs 0 0 Q (F0 m 16 ls []) := by
  have hx := S.1
  have hb := S.2.1
  intro n
  induction n with
  | zero => intro v2 v4 out hm; cases (show (none : Option Int32) = some out from hm)
  | succ n ih =>
    intro v2 v4 out hm  ls hl K0
    rw [lp_X4_tasksToCome_16] at hm
    refine lv_iload hx hb dX4_tasksToCome_16 (lv_at hl 4 rfl) ?_
    refine lv_aload_n hx hb dX4_tasksToCome_18 rfl (lv_at hl 1 rfl) ?_
    refine f_get S hK hP in_X4_tasksToCome_X0 1 rfl rfl 0 (by decide) (List.mem_of_getElem? (i := 1) rfl) rfl rfl dX4_tasksToCome_19 ?_
    refine lv_icmp_ge (tgt := 60) hx hb dX4_tasksToCome_22 (by decide) (fun c4 => ?_) (fun c4 => ?_)
    · replace hm := ipos hm c4
      obtain rfl := Option.some.inj hm
      exact K0  ls (lv_sub hl [0, 1, 2, 3] rfl)
    · replace hm := ineg hm c4
      refine lv_iload_n hx hb dX4_tasksToCome_25 rfl (lv_at hl 2 rfl) ?_
      refine lv_iload hx hb dX4_tasksToCome_26 (lv_at hl 4 rfl) ?_
      obtain ⟨r5, h6, hm⟩ := ob hm
      refine k_rNi S hK hP cal_X5_bit gX4_tasksToCome_X5_bit_n49 (List.mem_of_getElem? (i := 4) rfl) (List.mem_of_getElem? (i := 10) rfl) (List.mem_of_getElem? (i := 9) rfl) (c_X5_bit l D cC cI cJ v4 r5 h6) ⟨⟨rfl, rfl⟩, Nat.le_of_ble_eq_true rfl, Nat.le_of_ble_eq_true rfl⟩ [] rfl rfl hl.1 rfl (Nat.le_of_ble_eq_true rfl) dX4_tasksToCome_28 ⟨Nat.zero_le _, Nat.zero_le _⟩ ?_
      refine lv_iand hx hb dX4_tasksToCome_31 ?_
      refine lv_if_eq (tgt := 54) hx hb dX4_tasksToCome_32 (by decide) (fun c7 => ?_) (fun c7 => ?_)
      · replace hm := ipos hm c7
        refine lv_iinc (v := (v4 + 1)) (lv' := [(4, .int (v4 + 1)), (0, .ref a_st), (1, .ref a_mo), (2, .int v2), (3, .int v3)]) hx hb dX4_tasksToCome_54 hl (k := 4) rfl (by rw [ofi_1]) (by decide) rfl (fun ls hl => ?_)
        refine lv_goto (tgt := 16) hx hb dX4_tasksToCome_57 (by decide) ?_
        exact ih v2 (v4 + 1) _ hm  ls (lv_sub hl [1, 2, 3, 4, 0] rfl) K0
      · replace hm := ineg hm c7
        refine lv_iload_n hx hb dX4_tasksToCome_35 rfl (lv_at hl 2 rfl) ?_
        refine lv_aload_n hx hb dX4_tasksToCome_36 rfl (lv_at hl 1 rfl) ?_
        refine lv_iload hx hb dX4_tasksToCome_37 (lv_at hl 4 rfl) ?_
        obtain ⟨r8, h9, hm⟩ := ob hm
        refine k_rVi S hK hP cal_X0_nextOf gX4_tasksToCome_X0_nextOf (c_X0_nextOf l D cC cI cJ a_mo a_mo_kinds a_mo_days a_mo_rideDays a_mo_helpKinds a_mo_nexts a_mo_helperKinds a_mo_prices a_mo_helpersOfKind a_mo_numbers mo_tasks mo_helpers mo_askedFirst mo_crumbsFirst mo_lastDay mo_kinds mo_days mo_rideDays mo_helpKinds mo_nexts mo_helperKinds mo_prices mo_helpersOfKind mo_numbers v4 r8 h9) ⟨⟨rfl, rfl⟩, Nat.le_of_ble_eq_true rfl, Nat.le_of_ble_eq_true rfl⟩ [1, 2, 3, 4, 5, 6, 7, 8, 9, 10] rfl 1 rfl rfl rfl hl.1 rfl (Nat.le_of_ble_eq_true rfl) dX4_tasksToCome_39 ⟨Nat.zero_le _, Nat.zero_le _⟩ ?_
        obtain ⟨r10, h11, hm⟩ := ob hm
        refine k_rNi S hK hP cal_X5_bit gX4_tasksToCome_X5_bit_n49 (List.mem_of_getElem? (i := 4) rfl) (List.mem_of_getElem? (i := 10) rfl) (List.mem_of_getElem? (i := 9) rfl) (c_X5_bit l D cC cI cJ r8 r10 h11) ⟨⟨rfl, rfl⟩, Nat.le_of_ble_eq_true rfl, Nat.le_of_ble_eq_true rfl⟩ [] rfl rfl hl.1 rfl (Nat.le_of_ble_eq_true rfl) dX4_tasksToCome_42 ⟨Nat.zero_le _, Nat.zero_le _⟩ ?_
        refine lv_aload_n hx hb dX4_tasksToCome_45 rfl (lv_at hl 0 rfl) ?_
        refine f_get S hK hP in_X4_tasksToCome_X4 0 rfl rfl 1 (by decide) (List.mem_of_getElem? (i := 2) rfl) rfl rfl dX4_tasksToCome_46 ?_
        refine lv_iconst (v := (-1)) hx hb dX4_tasksToCome_49 (by decide) ?_
        refine lv_ixor hx hb dX4_tasksToCome_50 ?_
        refine lv_iand hx hb dX4_tasksToCome_51 ?_
        refine lv_ior hx hb dX4_tasksToCome_52 ?_
        obtain ⟨y12, e13, hm⟩ := ob hm
        refine f_name e13 ?_
        refine lv_istore_n (lv' := [(2, .int y12), (0, .ref a_st), (1, .ref a_mo), (3, .int v3), (4, .int v4)]) hx hb dX4_tasksToCome_53 rfl hl (by decide) rfl (fun ls hl => ?_)
        refine lv_iinc (v := (v4 + 1)) (lv' := [(4, .int (v4 + 1)), (2, .int y12), (0, .ref a_st), (1, .ref a_mo), (3, .int v3)]) hx hb dX4_tasksToCome_54 hl (k := 4) rfl (by rw [ofi_1]) (by decide) rfl (fun ls hl => ?_)
        refine lv_goto (tgt := 16) hx hb dX4_tasksToCome_57 (by decide) ?_
        exact ih y12 (v4 + 1) _ hm  ls (lv_sub hl [2, 3, 1, 4, 0] rfl) K0
set_option maxHeartbeats 4000000 in
set_option maxRecDepth 100000 in
theorem t_X4_tasksToCome_7 {p : Program} {e : Env} {s : State} {m : MethodId} {args : Array Value} {below : List Frame} {meth : Method} {c : Code} {Q : State → Prop} {H : Heap} {locs : List Loc} (l : Launch) {D : va_G} {cC cI cJ : ClassId} (S : CallFix p m c cX4_tasksToCome 5 s args wsX4_tasksToCome RX4) (hK : KK D (tyK cC cI cJ) s) (a_st : Nat) (a_mo : Nat) (a_mo_kinds : Nat) (a_mo_days : Nat) (a_mo_rideDays : Nat) (a_mo_helpKinds : Nat) (a_mo_nexts : Nat) (a_mo_helperKinds : Nat) (a_mo_prices : Nat) (a_mo_helpersOfKind : Nat) (a_mo_numbers : Nat) (N : Nat) (st_asked : Int32) (st_brought : Int32) (st_friends : Int32) (st_used : Int32) (st_crumbs : Int32) (st_day : Int32) (mo_tasks : Int32) (mo_helpers : Int32) (mo_askedFirst : Int32) (mo_crumbsFirst : Int32) (mo_lastDay : Int32) (mo_kinds : (Nat → Int32)) (mo_days : (Nat → Int32)) (mo_rideDays : (Nat → Int32)) (mo_helpKinds : (Nat → Int32)) (mo_nexts : (Nat → Int32)) (mo_helperKinds : (Nat → Int32)) (mo_prices : (Nat → Int32)) (mo_helpersOfKind : (Nat → Int32)) (mo_numbers : (Nat → Int32)) (hP : va_P D vwCl (wd_8 cC cI cJ a_st st_asked st_brought st_friends st_used st_crumbs st_day a_mo mo_tasks mo_helpers mo_askedFirst mo_crumbsFirst mo_lastDay a_mo_kinds a_mo_days a_mo_rideDays a_mo_helpKinds a_mo_nexts a_mo_helperKinds a_mo_prices a_mo_helpersOfKind a_mo_numbers a_mo_kinds mo_kinds a_mo_days mo_days a_mo_rideDays mo_rideDays a_mo_helpKinds mo_helpKinds a_mo_nexts mo_nexts a_mo_helperKinds mo_helperKinds a_mo_prices mo_prices a_mo_helpersOfKind mo_helpersOfKind a_mo_numbers mo_numbers) H) : ∀ (n : Nat) (v2 : Int32) (v3 : Int32) (out : Int32), lp_X4_tasksToCome_7 N st_brought mo_tasks mo_nexts n v2 v3 = some out → ∀ (ls : Array Slot), lv_has ls 5 [(0, .ref a_st), (1, .ref a_mo), (2, .int v2), (3, .int v3)] → (∀ (ls : Array Slot), lv_has ls 5 [(2, .int out)] → W p l e rX4_tasksToCome s m args below meth c H locs 0 0 Q (F0 m 66 ls [])) → W p l e rX4_tasksToCome s m args below meth c H locs 0 0 Q (F0 m 7 ls []) := by
  have hx := S.1
  have hb := S.2.1
  intro n
  induction n with
  | zero => intro v2 v3 out hm; cases (show (none : Option Int32) = some out from hm)
  | succ n ih =>
    intro v2 v3 out hm  ls hl K0
    rw [lp_X4_tasksToCome_7] at hm
    refine lv_iload_n hx hb dX4_tasksToCome_7 rfl (lv_at hl 3 rfl) ?_
    refine lv_bipush (v := 8) hx hb dX4_tasksToCome_8 (by decide) ?_
    refine lv_icmp_ge (tgt := 66) hx hb dX4_tasksToCome_10 (by decide) (fun c3 => ?_) (fun c3 => ?_)
    · replace hm := ipos hm c3
      obtain rfl := Option.some.inj hm
      exact K0  ls (lv_sub hl [2] rfl)
    · replace hm := ineg hm c3
      refine lv_iconst (v := 0) hx hb dX4_tasksToCome_13 (by decide) ?_
      refine lv_istore (lv' := [(4, .int (0 : Int32)), (0, .ref a_st), (1, .ref a_mo), (2, .int v2), (3, .int v3)]) hx hb dX4_tasksToCome_14 hl (by decide) rfl (fun ls hl => ?_)
      obtain ⟨r14, h15, hm⟩ := ob hm
      refine t_X4_tasksToCome_16 l S hK a_st a_mo a_mo_kinds a_mo_days a_mo_rideDays a_mo_helpKinds a_mo_nexts a_mo_helperKinds a_mo_prices a_mo_helpersOfKind a_mo_numbers v3 st_asked st_brought st_friends st_used st_crumbs st_day mo_tasks mo_helpers mo_askedFirst mo_crumbsFirst mo_lastDay mo_kinds mo_days mo_rideDays mo_helpKinds mo_nexts mo_helperKinds mo_prices mo_helpersOfKind mo_numbers hP N v2 (0 : Int32) r14 h15  ls (lv_sub hl [1, 2, 3, 4, 0] rfl) (fun ls hl => ?_)
      refine lv_iinc (v := (v3 + 1)) (lv' := [(3, .int (v3 + 1)), (0, .ref a_st), (1, .ref a_mo), (2, .int r14)]) hx hb dX4_tasksToCome_60 hl (k := 3) rfl (by rw [ofi_1]) (by decide) rfl (fun ls hl => ?_)
      refine lv_goto (tgt := 7) hx hb dX4_tasksToCome_63 (by decide) ?_
      exact ih r14 (v3 + 1) _ hm  ls (lv_sub hl [1, 2, 3, 0] rfl) K0
set_option maxHeartbeats 4000000 in
set_option maxRecDepth 100000 in
theorem c_X4_tasksToCome (l : Launch) (D : va_G) (cC cI cJ : ClassId) (a_st : Nat) (a_mo : Nat) (a_mo_kinds : Nat) (a_mo_days : Nat) (a_mo_rideDays : Nat) (a_mo_helpKinds : Nat) (a_mo_nexts : Nat) (a_mo_helperKinds : Nat) (a_mo_prices : Nat) (a_mo_helpersOfKind : Nat) (a_mo_numbers : Nat) (st_asked : Int32) (st_brought : Int32) (st_friends : Int32) (st_used : Int32) (st_crumbs : Int32) (st_day : Int32) (mo_tasks : Int32) (mo_helpers : Int32) (mo_askedFirst : Int32) (mo_crumbsFirst : Int32) (mo_lastDay : Int32) (mo_kinds : (Nat → Int32)) (mo_days : (Nat → Int32)) (mo_rideDays : (Nat → Int32)) (mo_helpKinds : (Nat → Int32)) (mo_nexts : (Nat → Int32)) (mo_helperKinds : (Nat → Int32)) (mo_prices : (Nat → Int32)) (mo_helpersOfKind : (Nat → Int32)) (mo_numbers : (Nat → Int32)) (N : Nat) (out : Int32) (hm : m_X4_tasksToCome N st_asked st_brought mo_tasks mo_nexts = some out) : RdI l yX4_tasksToCome wsX4_tasksToCome rX4_tasksToCome D (tyK cC cI cJ) [.ref a_st, .ref a_mo] (wd_8 cC cI cJ a_st st_asked st_brought st_friends st_used st_crumbs st_day a_mo mo_tasks mo_helpers mo_askedFirst mo_crumbsFirst mo_lastDay a_mo_kinds a_mo_days a_mo_rideDays a_mo_helpKinds a_mo_nexts a_mo_helperKinds a_mo_prices a_mo_helpersOfKind a_mo_numbers a_mo_kinds mo_kinds a_mo_days mo_days a_mo_rideDays mo_rideDays a_mo_helpKinds mo_helpKinds a_mo_nexts mo_nexts a_mo_helperKinds mo_helperKinds a_mo_prices mo_prices a_mo_helpersOfKind mo_helpersOfKind a_mo_numbers mo_numbers) out := by
  unfold m_X4_tasksToCome at hm
  refine enter (cc := cX4_tasksToCome) (maxL := 5) (ret := (some .int)) (lv := [(0, .ref a_st), (1, .ref a_mo)]) (by decide) rfl (Nat.le_of_ble_eq_true rfl) rfl ?_
  intro p e s m args below meth c S hr hlk hK hP ls hl
  replace S : CallFix p m c cX4_tasksToCome 5 s args wsX4_tasksToCome RX4 := S
  have hx := S.1
  have hb := S.2.1
  refine lv_aload_n hx hb dX4_tasksToCome_0 rfl (lv_at hl 0 rfl) ?_
  obtain ⟨r1, h2, hm⟩ := ob hm
  refine k_rVi S hK hP cal_X4_openTasks gX4_tasksToCome_X4_openTasks (c_X4_openTasks l D cC cI cJ a_st st_asked st_brought st_friends st_used st_crumbs st_day r1 h2) ⟨⟨rfl, rfl⟩, Nat.le_of_ble_eq_true rfl, Nat.le_of_ble_eq_true rfl⟩ [0] rfl 0 rfl rfl rfl hl.1 rfl (Nat.le_of_ble_eq_true rfl) dX4_tasksToCome_1 ⟨Nat.zero_le _, Nat.zero_le _⟩ ?_
  refine lv_istore_n (lv' := [(2, .int r1), (0, .ref a_st), (1, .ref a_mo)]) hx hb dX4_tasksToCome_4 rfl hl (by decide) rfl (fun ls hl => ?_)
  refine lv_iconst (v := 0) hx hb dX4_tasksToCome_5 (by decide) ?_
  refine lv_istore_n (lv' := [(3, .int (0 : Int32)), (2, .int r1), (0, .ref a_st), (1, .ref a_mo)]) hx hb dX4_tasksToCome_6 rfl hl (by decide) rfl (fun ls hl => ?_)
  obtain ⟨r16, h17, hm⟩ := ob hm
  refine t_X4_tasksToCome_7 l S hK a_st a_mo a_mo_kinds a_mo_days a_mo_rideDays a_mo_helpKinds a_mo_nexts a_mo_helperKinds a_mo_prices a_mo_helpersOfKind a_mo_numbers N st_asked st_brought st_friends st_used st_crumbs st_day mo_tasks mo_helpers mo_askedFirst mo_crumbsFirst mo_lastDay mo_kinds mo_days mo_rideDays mo_helpKinds mo_nexts mo_helperKinds mo_prices mo_helpersOfKind mo_numbers hP N r1 (0 : Int32) r16 h17  ls (lv_sub hl [2, 3, 1, 0] rfl) (fun ls hl => ?_)
  refine lv_iload_n hx hb dX4_tasksToCome_66 rfl (lv_at hl 0 rfl) ?_
  exact e_RI S hr hlk (Option.some.inj hm) dX4_tasksToCome_67

abbrev rX2_begin : Room := { frames := 2, cells := 0, slots := 0, locals := 45 }
theorem cal_X2_begin : Cal yX2_begin wsX2_begin cX2_begin 6 none RX2 4 := ⟨⟨_, rfl⟩, rfl, by decide +kernel, by decide +kernel, by decide +kernel⟩
theorem in_X2_begin_X0 : ∀ w ∈ wsX00, w ∈ wsX2_begin := fun _ h => (List.mem_cons_of_mem _ (List.mem_append_right _ h))
theorem in_X2_begin_X2 : ∀ w ∈ wsX20, w ∈ wsX2_begin := fun _ h => (List.mem_cons_of_mem _ (List.mem_append_left _ (List.mem_append_left _ (List.mem_append_right _ h))))
theorem in_X2_begin_X4 : ∀ w ∈ wsX40, w ∈ wsX2_begin := fun _ h => (List.mem_cons_of_mem _ (List.mem_append_left _ (List.mem_append_right _ h)))
set_option maxHeartbeats 4000000 in
set_option maxRecDepth 100000 in
theorem c_X2_begin (l : Launch) (D : va_G) (cC cI cJ : ClassId) (a_sr : Nat) (a_sr_known : Nat) (a_ro : Nat) (g_sr_unseen : Nat) (g_sr_months : Nat) (g_sr_heeded : Nat) (a_mo : Nat) (a_mo_kinds : Nat) (a_mo_days : Nat) (a_mo_rideDays : Nat) (a_mo_helpKinds : Nat) (a_mo_nexts : Nat) (a_mo_helperKinds : Nat) (a_mo_prices : Nat) (a_mo_helpersOfKind : Nat) (a_mo_numbers : Nat) (a_fr : Nat) (a_se : Nat) (sr_number : Int64) (sr_enough : Int64) (sr_tooLong : Int32) (sr_known : (Nat → Int64)) (ro_asked : Int32) (ro_brought : Int32) (ro_friends : Int32) (ro_used : Int32) (ro_crumbs : Int32) (ro_day : Int32) (mo_tasks : Int32) (mo_helpers : Int32) (mo_askedFirst : Int32) (mo_crumbsFirst : Int32) (mo_lastDay : Int32) (mo_kinds : (Nat → Int32)) (mo_days : (Nat → Int32)) (mo_rideDays : (Nat → Int32)) (mo_helpKinds : (Nat → Int32)) (mo_nexts : (Nat → Int32)) (mo_helperKinds : (Nat → Int32)) (mo_prices : (Nat → Int32)) (mo_helpersOfKind : (Nat → Int32)) (mo_numbers : (Nat → Int32)) (fr_asked : Int32) (fr_brought : Int32) (fr_friends : Int32) (fr_used : Int32) (fr_crumbs : Int32) (fr_day : Int32) (p3 : Int64) (N : Nat) (A : Nat → Prop) (hD : va_D A (wd_6 cC cI cJ a_sr a_sr_known a_ro g_sr_unseen sr_number sr_enough sr_tooLong g_sr_months g_sr_heeded a_sr_known sr_known a_ro ro_asked ro_brought ro_friends ro_used ro_crumbs ro_day a_mo mo_tasks mo_helpers mo_askedFirst mo_crumbsFirst mo_lastDay a_mo_kinds a_mo_days a_mo_rideDays a_mo_helpKinds a_mo_nexts a_mo_helperKinds a_mo_prices a_mo_helpersOfKind a_mo_numbers a_mo_kinds mo_kinds a_mo_days mo_days a_mo_rideDays mo_rideDays a_mo_helpKinds mo_helpKinds a_mo_nexts mo_nexts a_mo_helperKinds mo_helperKinds a_mo_prices mo_prices a_mo_helpersOfKind mo_helpersOfKind a_mo_numbers mo_numbers a_fr fr_asked fr_brought fr_friends fr_used fr_crumbs fr_day)) (out : (Int64 × Int64 × Int32 × Int32 × Int32 × Int32 × Int32 × Int32 × Int32)) (hm : m_X2_begin N sr_number mo_tasks mo_lastDay mo_rideDays mo_nexts fr_asked fr_brought fr_friends fr_used fr_crumbs fr_day p3 = some out) : WrV l yX2_begin wsX2_begin rX2_begin D (tyK cC cI cJ) [.ref a_sr, .ref a_mo, .ref a_fr, .ref a_se, .long p3] A (wd_6 cC cI cJ a_sr a_sr_known a_ro g_sr_unseen sr_number sr_enough sr_tooLong g_sr_months g_sr_heeded a_sr_known sr_known a_ro ro_asked ro_brought ro_friends ro_used ro_crumbs ro_day a_mo mo_tasks mo_helpers mo_askedFirst mo_crumbsFirst mo_lastDay a_mo_kinds a_mo_days a_mo_rideDays a_mo_helpKinds a_mo_nexts a_mo_helperKinds a_mo_prices a_mo_helpersOfKind a_mo_numbers a_mo_kinds mo_kinds a_mo_days mo_days a_mo_rideDays mo_rideDays a_mo_helpKinds mo_helpKinds a_mo_nexts mo_nexts a_mo_helperKinds mo_helperKinds a_mo_prices mo_prices a_mo_helpersOfKind mo_helpersOfKind a_mo_numbers mo_numbers a_fr fr_asked fr_brought fr_friends fr_used fr_crumbs fr_day) (Bw0 D (wd_6 cC cI cJ a_sr a_sr_known a_ro g_sr_unseen out.1 out.2.1 out.2.2.1 a_mo a_se a_sr_known sr_known a_ro out.2.2.2.1 out.2.2.2.2.1 out.2.2.2.2.2.1 out.2.2.2.2.2.2.1 out.2.2.2.2.2.2.2.1 out.2.2.2.2.2.2.2.2 a_mo mo_tasks mo_helpers mo_askedFirst mo_crumbsFirst mo_lastDay a_mo_kinds a_mo_days a_mo_rideDays a_mo_helpKinds a_mo_nexts a_mo_helperKinds a_mo_prices a_mo_helpersOfKind a_mo_numbers a_mo_kinds mo_kinds a_mo_days mo_days a_mo_rideDays mo_rideDays a_mo_helpKinds mo_helpKinds a_mo_nexts mo_nexts a_mo_helperKinds mo_helperKinds a_mo_prices mo_prices a_mo_helpersOfKind mo_helpersOfKind a_mo_numbers mo_numbers a_fr fr_asked fr_brought fr_friends fr_used fr_crumbs fr_day)) := by
  unfold m_X2_begin at hm
  refine enter (cc := cX2_begin) (maxL := 6) (ret := none) (lv := [(0, .ref a_sr), (1, .ref a_mo), (2, .ref a_fr), (3, .ref a_se), (4, .long p3)]) (by decide) rfl (Nat.le_of_ble_eq_true rfl) rfl ?_
  intro p e s m args below meth c S hr hlk hK hP ls hl
  replace S : CallFix p m c cX2_begin 6 s args wsX2_begin RX2 := S
  have hx := S.1
  have hb := S.2.1
  have hw : Wd D A s.heap (wd_6 cC cI cJ a_sr a_sr_known a_ro g_sr_unseen sr_number sr_enough sr_tooLong g_sr_months g_sr_heeded a_sr_known sr_known a_ro ro_asked ro_brought ro_friends ro_used ro_crumbs ro_day a_mo mo_tasks mo_helpers mo_askedFirst mo_crumbsFirst mo_lastDay a_mo_kinds a_mo_days a_mo_rideDays a_mo_helpKinds a_mo_nexts a_mo_helperKinds a_mo_prices a_mo_helpersOfKind a_mo_numbers a_mo_kinds mo_kinds a_mo_days mo_days a_mo_rideDays mo_rideDays a_mo_helpKinds mo_helpKinds a_mo_nexts mo_nexts a_mo_helperKinds mo_helperKinds a_mo_prices mo_prices a_mo_helpersOfKind mo_helpersOfKind a_mo_numbers mo_numbers a_fr fr_asked fr_brought fr_friends fr_used fr_crumbs fr_day) s.heap [] := ⟨hP, hD, va_S.rf⟩
  have hw0 := hw
  refine lv_aload_n hx hb dX2_begin_0 rfl (lv_at hl 0 rfl) ?_
  refine lv_aload_n hx hb dX2_begin_1 rfl (lv_at hl 1 rfl) ?_
  refine f_put S hK hw in_X2_begin_X2 tyX2_ok nmX2 0 rfl rfl 6 (by decide) (List.mem_of_getElem? (i := 1) rfl) rfl rfl rfl rfl (Nat.le_of_ble_eq_true rfl) (ws1 := (wd_6 cC cI cJ a_sr a_sr_known a_ro g_sr_unseen sr_number sr_enough sr_tooLong a_mo g_sr_heeded a_sr_known sr_known a_ro ro_asked ro_brought ro_friends ro_used ro_crumbs ro_day a_mo mo_tasks mo_helpers mo_askedFirst mo_crumbsFirst mo_lastDay a_mo_kinds a_mo_days a_mo_rideDays a_mo_helpKinds a_mo_nexts a_mo_helperKinds a_mo_prices a_mo_helpersOfKind a_mo_numbers a_mo_kinds mo_kinds a_mo_days mo_days a_mo_rideDays mo_rideDays a_mo_helpKinds mo_helpKinds a_mo_nexts mo_nexts a_mo_helperKinds mo_helperKinds a_mo_prices mo_prices a_mo_helpersOfKind mo_helpersOfKind a_mo_numbers mo_numbers a_fr fr_asked fr_brought fr_friends fr_used fr_crumbs fr_day)) rfl dX2_begin_2 (fun H locs hw => ?_)
  refine lv_aload_n hx hb dX2_begin_5 rfl (lv_at hl 0 rfl) ?_
  refine lv_aload_n hx hb dX2_begin_6 rfl (lv_at hl 3 rfl) ?_
  refine f_put S hK hw in_X2_begin_X2 tyX2_ok nmX2 0 rfl rfl 7 (by decide) (List.mem_of_getElem? (i := 2) rfl) rfl rfl rfl rfl (Nat.le_of_ble_eq_true rfl) (ws1 := (wd_6 cC cI cJ a_sr a_sr_known a_ro g_sr_unseen sr_number sr_enough sr_tooLong a_mo a_se a_sr_known sr_known a_ro ro_asked ro_brought ro_friends ro_used ro_crumbs ro_day a_mo mo_tasks mo_helpers mo_askedFirst mo_crumbsFirst mo_lastDay a_mo_kinds a_mo_days a_mo_rideDays a_mo_helpKinds a_mo_nexts a_mo_helperKinds a_mo_prices a_mo_helpersOfKind a_mo_numbers a_mo_kinds mo_kinds a_mo_days mo_days a_mo_rideDays mo_rideDays a_mo_helpKinds mo_helpKinds a_mo_nexts mo_nexts a_mo_helperKinds mo_helperKinds a_mo_prices mo_prices a_mo_helpersOfKind mo_helpersOfKind a_mo_numbers mo_numbers a_fr fr_asked fr_brought fr_friends fr_used fr_crumbs fr_day)) rfl dX2_begin_7 (fun H locs hw => ?_)
  refine lv_aload_n hx hb dX2_begin_10 rfl (lv_at hl 0 rfl) ?_
  refine lv_lload hx hb dX2_begin_11 (lv_at hl 4 rfl) ?_
  refine f_put S hK hw in_X2_begin_X2 tyX2_ok nmX2 0 rfl rfl 4 (by decide) (List.mem_of_getElem? (i := 3) rfl) rfl rfl rfl rfl (Nat.le_of_ble_eq_true rfl) (ws1 := (wd_6 cC cI cJ a_sr a_sr_known a_ro g_sr_unseen sr_number p3 sr_tooLong a_mo a_se a_sr_known sr_known a_ro ro_asked ro_brought ro_friends ro_used ro_crumbs ro_day a_mo mo_tasks mo_helpers mo_askedFirst mo_crumbsFirst mo_lastDay a_mo_kinds a_mo_days a_mo_rideDays a_mo_helpKinds a_mo_nexts a_mo_helperKinds a_mo_prices a_mo_helpersOfKind a_mo_numbers a_mo_kinds mo_kinds a_mo_days mo_days a_mo_rideDays mo_rideDays a_mo_helpKinds mo_helpKinds a_mo_nexts mo_nexts a_mo_helperKinds mo_helperKinds a_mo_prices mo_prices a_mo_helpersOfKind mo_helpersOfKind a_mo_numbers mo_numbers a_fr fr_asked fr_brought fr_friends fr_used fr_crumbs fr_day)) rfl dX2_begin_13 (fun H locs hw => ?_)
  refine lv_aload_n hx hb dX2_begin_16 rfl (lv_at hl 0 rfl) ?_
  refine lv_dup hx hb dX2_begin_17 rfl ?_
  refine f_get S hK hw.1 in_X2_begin_X2 0 rfl rfl 3 (by decide) (List.mem_of_getElem? (i := 4) rfl) rfl rfl dX2_begin_18 ?_
  refine lv_lconst (v := 1) hx hb dX2_begin_21 (by decide) ?_
  refine lv_ladd hx hb dX2_begin_22 ?_
  refine f_put S hK hw in_X2_begin_X2 tyX2_ok nmX2 0 rfl rfl 3 (by decide) (List.mem_of_getElem? (i := 4) rfl) rfl rfl rfl rfl (Nat.le_of_ble_eq_true rfl) (ws1 := (wd_6 cC cI cJ a_sr a_sr_known a_ro g_sr_unseen (sr_number + (1 : Int64)) p3 sr_tooLong a_mo a_se a_sr_known sr_known a_ro ro_asked ro_brought ro_friends ro_used ro_crumbs ro_day a_mo mo_tasks mo_helpers mo_askedFirst mo_crumbsFirst mo_lastDay a_mo_kinds a_mo_days a_mo_rideDays a_mo_helpKinds a_mo_nexts a_mo_helperKinds a_mo_prices a_mo_helpersOfKind a_mo_numbers a_mo_kinds mo_kinds a_mo_days mo_days a_mo_rideDays mo_rideDays a_mo_helpKinds mo_helpKinds a_mo_nexts mo_nexts a_mo_helperKinds mo_helperKinds a_mo_prices mo_prices a_mo_helpersOfKind mo_helpersOfKind a_mo_numbers mo_numbers a_fr fr_asked fr_brought fr_friends fr_used fr_crumbs fr_day)) rfl dX2_begin_23 (fun H locs hw => ?_)
  refine lv_aload_n hx hb dX2_begin_26 rfl (lv_at hl 0 rfl) ?_
  refine f_get S hK hw.1 in_X2_begin_X2 0 rfl rfl 1 (by decide) (List.mem_of_getElem? (i := 5) rfl) rfl rfl dX2_begin_27 ?_
  refine lv_aload_n hx hb dX2_begin_30 rfl (lv_at hl 2 rfl) ?_
  obtain ⟨r1, h2, hm⟩ := ob hm
  refine k_rVl S hK hw.1 cal_X4_packed gX2_begin_X4_packed (c_X4_packed l D cC cI cJ a_fr fr_asked fr_brought fr_friends fr_used fr_crumbs fr_day r1 h2) ⟨⟨rfl, rfl⟩, Nat.le_of_ble_eq_true rfl, Nat.le_of_ble_eq_true rfl⟩ [13] rfl 13 rfl rfl rfl hl.1 rfl (Nat.le_of_ble_eq_true rfl) dX2_begin_31 ⟨Nat.zero_le _, Nat.zero_le _⟩ ?_
  obtain ⟨r3, h4, hm⟩ := ob hm
  refine k_wVv S hK hw cal_X4_unpack gX2_begin_X4_unpack (c_X4_unpack l D cC cI cJ a_ro ro_asked ro_brought ro_friends ro_used ro_crumbs ro_day r1 (aw _) (hw.own [2] (by decide) rfl) r3 h4) ⟨⟨rfl, rfl⟩, Nat.le_of_ble_eq_true rfl, Nat.le_of_ble_eq_true rfl⟩ [2] rfl 2 rfl rfl rfl hl.1 rfl (Nat.le_of_ble_eq_true rfl) dX2_begin_34 ⟨Nat.zero_le _, Nat.zero_le _⟩ (fun H locs hJ hB => ?_)
  have hw := hJ _ hB rfl
  replace hw : Wd D A _ (wd_6 cC cI cJ a_sr a_sr_known a_ro g_sr_unseen (sr_number + (1 : Int64)) p3 sr_tooLong a_mo a_se a_sr_known sr_known a_ro r3.1 r3.2.1 r3.2.2.1 r3.2.2.2.1 r3.2.2.2.2.1 r3.2.2.2.2.2 a_mo mo_tasks mo_helpers mo_askedFirst mo_crumbsFirst mo_lastDay a_mo_kinds a_mo_days a_mo_rideDays a_mo_helpKinds a_mo_nexts a_mo_helperKinds a_mo_prices a_mo_helpersOfKind a_mo_numbers a_mo_kinds mo_kinds a_mo_days mo_days a_mo_rideDays mo_rideDays a_mo_helpKinds mo_helpKinds a_mo_nexts mo_nexts a_mo_helperKinds mo_helperKinds a_mo_prices mo_prices a_mo_helpersOfKind mo_helpersOfKind a_mo_numbers mo_numbers a_fr fr_asked fr_brought fr_friends fr_used fr_crumbs fr_day) H locs := hw
  refine lv_aload_n hx hb dX2_begin_37 rfl (lv_at hl 0 rfl) ?_
  refine lv_aload_n hx hb dX2_begin_38 rfl (lv_at hl 0 rfl) ?_
  refine f_get S hK hw.1 in_X2_begin_X2 0 rfl rfl 1 (by decide) (List.mem_of_getElem? (i := 5) rfl) rfl rfl dX2_begin_39 ?_
  refine f_get S hK hw.1 in_X2_begin_X4 2 rfl rfl 5 (by decide) (List.mem_of_getElem? (i := 6) rfl) rfl rfl dX2_begin_42 ?_
  refine lv_aload_n hx hb dX2_begin_45 rfl (lv_at hl 1 rfl) ?_
  refine lv_aload_n hx hb dX2_begin_46 rfl (lv_at hl 0 rfl) ?_
  refine f_get S hK hw.1 in_X2_begin_X2 0 rfl rfl 1 (by decide) (List.mem_of_getElem? (i := 5) rfl) rfl rfl dX2_begin_47 ?_
  refine lv_aload_n hx hb dX2_begin_50 rfl (lv_at hl 1 rfl) ?_
  obtain ⟨r5, h6, hm⟩ := ob hm
  refine k_rVi S hK hw.1 cal_X4_tasksToCome gX2_begin_X4_tasksToCome (c_X4_tasksToCome l D cC cI cJ a_ro a_mo a_mo_kinds a_mo_days a_mo_rideDays a_mo_helpKinds a_mo_nexts a_mo_helperKinds a_mo_prices a_mo_helpersOfKind a_mo_numbers r3.1 r3.2.1 r3.2.2.1 r3.2.2.2.1 r3.2.2.2.2.1 r3.2.2.2.2.2 mo_tasks mo_helpers mo_askedFirst mo_crumbsFirst mo_lastDay mo_kinds mo_days mo_rideDays mo_helpKinds mo_nexts mo_helperKinds mo_prices mo_helpersOfKind mo_numbers N r5 h6) ⟨⟨rfl, rfl⟩, Nat.le_of_ble_eq_true rfl, Nat.le_of_ble_eq_true rfl⟩ [2, 3, 4, 5, 6, 7, 8, 9, 10, 11, 12] rfl 2 rfl rfl rfl hl.1 rfl (Nat.le_of_ble_eq_true rfl) dX2_begin_51 ⟨Nat.zero_le _, Nat.zero_le _⟩ ?_
  obtain ⟨r7, h8, hm⟩ := ob hm
  refine k_rVi S hK hw.1 cal_X0_rideDaysOfSet gX2_begin_X0_rideDaysOfSet (c_X0_rideDaysOfSet l D cC cI cJ a_mo a_mo_kinds a_mo_days a_mo_rideDays a_mo_helpKinds a_mo_nexts a_mo_helperKinds a_mo_prices a_mo_helpersOfKind a_mo_numbers mo_tasks mo_helpers mo_askedFirst mo_crumbsFirst mo_lastDay mo_kinds mo_days mo_rideDays mo_helpKinds mo_nexts mo_helperKinds mo_prices mo_helpersOfKind mo_numbers r5 N r7 h8) ⟨⟨rfl, rfl⟩, Nat.le_of_ble_eq_true rfl, Nat.le_of_ble_eq_true rfl⟩ [3, 4, 5, 6, 7, 8, 9, 10, 11, 12] rfl 3 rfl rfl rfl hl.1 rfl (Nat.le_of_ble_eq_true rfl) dX2_begin_54 ⟨Nat.zero_le _, Nat.zero_le _⟩ ?_
  refine lv_iadd hx hb dX2_begin_57 ?_
  refine lv_aload_n hx hb dX2_begin_58 rfl (lv_at hl 1 rfl) ?_
  refine f_get S hK hw.1 in_X2_begin_X0 3 rfl rfl 4 (by decide) (List.mem_of_getElem? (i := 7) rfl) rfl rfl dX2_begin_59 ?_
  refine lv_icmp_le (tgt := 69) hx hb dX2_begin_62 (by decide) (fun c9 => ?_) (fun c9 => ?_)
  · replace hm := ipos hm c9
    refine lv_iconst (v := 0) hx hb dX2_begin_69 (by decide) ?_
    refine f_put S hK hw in_X2_begin_X2 tyX2_ok nmX2 0 rfl rfl 5 (by decide) (List.mem_of_getElem? (i := 8) rfl) rfl rfl (isB.nar (Or.inl rfl)) (isB.fit (Or.inl rfl)) (Nat.le_of_ble_eq_true rfl) (ws1 := (wd_6 cC cI cJ a_sr a_sr_known a_ro g_sr_unseen (sr_number + (1 : Int64)) p3 (0 : Int32) a_mo a_se a_sr_known sr_known a_ro r3.1 r3.2.1 r3.2.2.1 r3.2.2.2.1 r3.2.2.2.2.1 r3.2.2.2.2.2 a_mo mo_tasks mo_helpers mo_askedFirst mo_crumbsFirst mo_lastDay a_mo_kinds a_mo_days a_mo_rideDays a_mo_helpKinds a_mo_nexts a_mo_helperKinds a_mo_prices a_mo_helpersOfKind a_mo_numbers a_mo_kinds mo_kinds a_mo_days mo_days a_mo_rideDays mo_rideDays a_mo_helpKinds mo_helpKinds a_mo_nexts mo_nexts a_mo_helperKinds mo_helperKinds a_mo_prices mo_prices a_mo_helpersOfKind mo_helpersOfKind a_mo_numbers mo_numbers a_fr fr_asked fr_brought fr_friends fr_used fr_crumbs fr_day)) rfl dX2_begin_70 (fun H locs hw => ?_)
    obtain rfl := Option.some.inj hm
    exact e_WV S hr hlk hw hw.1 dX2_begin_73
  · replace hm := ineg hm c9
    refine lv_iconst (v := 1) hx hb dX2_begin_65 (by decide) ?_
    refine lv_goto (tgt := 70) hx hb dX2_begin_66 (by decide) ?_
    refine f_put S hK hw in_X2_begin_X2 tyX2_ok nmX2 0 rfl rfl 5 (by decide) (List.mem_of_getElem? (i := 8) rfl) rfl rfl (isB.nar (Or.inr rfl)) (isB.fit (Or.inr rfl)) (Nat.le_of_ble_eq_true rfl) (ws1 := (wd_6 cC cI cJ a_sr a_sr_known a_ro g_sr_unseen (sr_number + (1 : Int64)) p3 (1 : Int32) a_mo a_se a_sr_known sr_known a_ro r3.1 r3.2.1 r3.2.2.1 r3.2.2.2.1 r3.2.2.2.2.1 r3.2.2.2.2.2 a_mo mo_tasks mo_helpers mo_askedFirst mo_crumbsFirst mo_lastDay a_mo_kinds a_mo_days a_mo_rideDays a_mo_helpKinds a_mo_nexts a_mo_helperKinds a_mo_prices a_mo_helpersOfKind a_mo_numbers a_mo_kinds mo_kinds a_mo_days mo_days a_mo_rideDays mo_rideDays a_mo_helpKinds mo_helpKinds a_mo_nexts mo_nexts a_mo_helperKinds mo_helperKinds a_mo_prices mo_prices a_mo_helpersOfKind mo_helpersOfKind a_mo_numbers mo_numbers a_fr fr_asked fr_brought fr_friends fr_used fr_crumbs fr_day)) rfl dX2_begin_70 (fun H locs hw => ?_)
    obtain rfl := Option.some.inj hm
    exact e_WV S hr hlk hw hw.1 dX2_begin_73

abbrev rX2_recall : Room := { frames := 0, cells := 0, slots := 0, locals := 0 }
theorem cal_X2_recall : Cal yX2_recall wsX2_recall cX2_recall 2 (some .long) RX2 1 := ⟨⟨_, rfl⟩, rfl, by decide +kernel, by decide +kernel, by decide +kernel⟩
theorem in_X2_recall_X2 : ∀ w ∈ wsX20, w ∈ wsX2_recall := fun _ h => (List.mem_cons_of_mem _ (List.mem_append_right _ h))
set_option maxHeartbeats 4000000 in
set_option maxRecDepth 100000 in
theorem c_X2_recall (l : Launch) (D : va_G) (cC cI cJ : ClassId) (a_sr : Nat) (a_sr_known : Nat) (g_sr_road : Nat) (g_sr_unseen : Nat) (g_sr_months : Nat) (g_sr_heeded : Nat) (sr_number : Int64) (sr_enough : Int64) (sr_tooLong : Int32) (sr_known : (Nat → Int64)) (p0 : Int32) (out : Int64) (hm : m_X2_recall sr_number sr_known p0 = some out) : RdL l yX2_recall wsX2_recall rX2_recall D (tyK cC cI cJ) [.ref a_sr, .int p0] (wd_10 cC cI cJ a_sr a_sr_known g_sr_road g_sr_unseen sr_number sr_enough sr_tooLong g_sr_months g_sr_heeded a_sr_known sr_known) out := by
  unfold m_X2_recall at hm
  refine enter (cc := cX2_recall) (maxL := 2) (ret := (some .long)) (lv := [(0, .ref a_sr), (1, .int p0)]) (by decide) rfl (Nat.le_of_ble_eq_true rfl) rfl ?_
  intro p e s m args below meth c S hr hlk hK hP ls hl
  replace S : CallFix p m c cX2_recall 2 s args wsX2_recall RX2 := S
  have hx := S.1
  have hb := S.2.1
  refine lv_iload_n hx hb dX2_recall_0 rfl (lv_at hl 1 rfl) ?_
  refine lv_if_lt (tgt := 30) hx hb dX2_recall_1 (by decide) (fun c1 => ?_) (fun c1 => ?_)
  · replace hm := ipos hm c1
    refine lv_ldc2 hx hb S.2.2.2.1 (S.2.2.2.2 (.constantLong RX2 134 (-4)) (List.mem_of_getElem? (i := 3) rfl)) dX2_recall_30 ?_
    exact e_RL S hr hlk (Option.some.inj hm) dX2_recall_33
  · replace hm := ineg hm c1
    refine lv_iload_n hx hb dX2_recall_4 rfl (lv_at hl 1 rfl) ?_
    refine lv_aload_n hx hb dX2_recall_5 rfl (lv_at hl 0 rfl) ?_
    refine f_get S hK hP in_X2_recall_X2 0 rfl rfl 0 (by decide) (List.mem_of_getElem? (i := 1) rfl) rfl rfl dX2_recall_6 ?_
    refine f_alen S hK hP 1 2 rfl rfl (v := (32768 : Int32)) rfl dX2_recall_9 ?_
    refine lv_icmp_ge (tgt := 30) hx hb dX2_recall_10 (by decide) (fun c2 => ?_) (fun c2 => ?_)
    · replace hm := ipos hm c2
      refine lv_ldc2 hx hb S.2.2.2.1 (S.2.2.2.2 (.constantLong RX2 134 (-4)) (List.mem_of_getElem? (i := 3) rfl)) dX2_recall_30 ?_
      exact e_RL S hr hlk (Option.some.inj hm) dX2_recall_33
    · replace hm := ineg hm c2
      refine lv_aload_n hx hb dX2_recall_13 rfl (lv_at hl 0 rfl) ?_
      refine f_get S hK hP in_X2_recall_X2 0 rfl rfl 0 (by decide) (List.mem_of_getElem? (i := 1) rfl) rfl rfl dX2_recall_14 ?_
      refine lv_iload_n hx hb dX2_recall_17 rfl (lv_at hl 1 rfl) ?_
      obtain ⟨g3, hm⟩ := gdo hm
      refine f_lald S hK hP 1 2 rfl rfl g3 dX2_recall_18 ?_
      refine lv_bipush (v := 16) hx hb dX2_recall_19 (by decide) ?_
      refine lv_lshr (v := ((sr_known (p0).toNatClampNeg) >>> (((16 : Int32)).toInt64 &&& 63))) hx hb dX2_recall_21 rfl ?_
      refine lv_aload_n hx hb dX2_recall_22 rfl (lv_at hl 0 rfl) ?_
      refine f_get S hK hP in_X2_recall_X2 0 rfl rfl 3 (by decide) (List.mem_of_getElem? (i := 2) rfl) rfl rfl dX2_recall_23 ?_
      refine W.lcmp hx hb dX2_recall_26 ?_
      refine lv_if_eq (tgt := 34) hx hb dX2_recall_27 (by decide) (fun c4 => ?_) (fun c4 => ?_)
      · replace hm := ipos hm c4
        refine lv_aload_n hx hb dX2_recall_34 rfl (lv_at hl 0 rfl) ?_
        refine f_get S hK hP in_X2_recall_X2 0 rfl rfl 0 (by decide) (List.mem_of_getElem? (i := 1) rfl) rfl rfl dX2_recall_35 ?_
        refine lv_iload_n hx hb dX2_recall_38 rfl (lv_at hl 1 rfl) ?_
        refine f_lald S hK hP 1 2 rfl rfl g3 dX2_recall_39 ?_
        refine lv_ldc2 hx hb S.2.2.2.1 (S.2.2.2.2 (.constantLong RX2 136 (65535)) (List.mem_of_getElem? (i := 4) rfl)) dX2_recall_40 ?_
        refine lv_land hx hb dX2_recall_43 ?_
        exact e_RL S hr hlk (Option.some.inj hm) dX2_recall_44
      · replace hm := ineg hm c4
        refine lv_ldc2 hx hb S.2.2.2.1 (S.2.2.2.2 (.constantLong RX2 134 (-4)) (List.mem_of_getElem? (i := 3) rfl)) dX2_recall_30 ?_
        exact e_RL S hr hlk (Option.some.inj hm) dX2_recall_33

abbrev rX4_isLost : Room := { frames := 0, cells := 0, slots := 0, locals := 0 }
theorem cal_X4_isLost : Cal yX4_isLost wsX4_isLost cX4_isLost 2 (some .boolean) RX4 1 := ⟨⟨_, rfl⟩, rfl, by decide +kernel, by decide +kernel, by decide +kernel⟩
theorem in_X4_isLost_X0 : ∀ w ∈ wsX00, w ∈ wsX4_isLost := fun _ h => (List.mem_cons_of_mem _ (List.mem_append_right _ h))
theorem in_X4_isLost_X4 : ∀ w ∈ wsX40, w ∈ wsX4_isLost := fun _ h => (List.mem_cons_of_mem _ (List.mem_append_left _ (List.mem_append_right _ h)))
set_option maxHeartbeats 4000000 in
set_option maxRecDepth 100000 in
theorem c_X4_isLost (l : Launch) (D : va_G) (cC cI cJ : ClassId) (a_st : Nat) (a_mo : Nat) (a_mo_kinds : Nat) (a_mo_days : Nat) (a_mo_rideDays : Nat) (a_mo_helpKinds : Nat) (a_mo_nexts : Nat) (a_mo_helperKinds : Nat) (a_mo_prices : Nat) (a_mo_helpersOfKind : Nat) (a_mo_numbers : Nat) (st_asked : Int32) (st_brought : Int32) (st_friends : Int32) (st_used : Int32) (st_crumbs : Int32) (st_day : Int32) (mo_tasks : Int32) (mo_helpers : Int32) (mo_askedFirst : Int32) (mo_crumbsFirst : Int32) (mo_lastDay : Int32) (mo_kinds : (Nat → Int32)) (mo_days : (Nat → Int32)) (mo_rideDays : (Nat → Int32)) (mo_helpKinds : (Nat → Int32)) (mo_nexts : (Nat → Int32)) (mo_helperKinds : (Nat → Int32)) (mo_prices : (Nat → Int32)) (mo_helpersOfKind : (Nat → Int32)) (mo_numbers : (Nat → Int32)) (out : Int32) (hm : m_X4_isLost st_day mo_lastDay = some out) : RdI l yX4_isLost wsX4_isLost rX4_isLost D (tyK cC cI cJ) [.ref a_st, .ref a_mo] (wd_8 cC cI cJ a_st st_asked st_brought st_friends st_used st_crumbs st_day a_mo mo_tasks mo_helpers mo_askedFirst mo_crumbsFirst mo_lastDay a_mo_kinds a_mo_days a_mo_rideDays a_mo_helpKinds a_mo_nexts a_mo_helperKinds a_mo_prices a_mo_helpersOfKind a_mo_numbers a_mo_kinds mo_kinds a_mo_days mo_days a_mo_rideDays mo_rideDays a_mo_helpKinds mo_helpKinds a_mo_nexts mo_nexts a_mo_helperKinds mo_helperKinds a_mo_prices mo_prices a_mo_helpersOfKind mo_helpersOfKind a_mo_numbers mo_numbers) out := by
  unfold m_X4_isLost at hm
  refine enter (cc := cX4_isLost) (maxL := 2) (ret := (some .boolean)) (lv := [(0, .ref a_st), (1, .ref a_mo)]) (by decide) rfl (Nat.le_of_ble_eq_true rfl) rfl ?_
  intro p e s m args below meth c S hr hlk hK hP ls hl
  replace S : CallFix p m c cX4_isLost 2 s args wsX4_isLost RX4 := S
  have hx := S.1
  have hb := S.2.1
  refine lv_aload_n hx hb dX4_isLost_0 rfl (lv_at hl 0 rfl) ?_
  refine f_get S hK hP in_X4_isLost_X4 0 rfl rfl 5 (by decide) (List.mem_of_getElem? (i := 1) rfl) rfl rfl dX4_isLost_1 ?_
  refine lv_aload_n hx hb dX4_isLost_4 rfl (lv_at hl 1 rfl) ?_
  refine f_get S hK hP in_X4_isLost_X0 1 rfl rfl 4 (by decide) (List.mem_of_getElem? (i := 2) rfl) rfl rfl dX4_isLost_5 ?_
  refine lv_icmp_le (tgt := 15) hx hb dX4_isLost_8 (by decide) (fun c1 => ?_) (fun c1 => ?_)
  · replace hm := ipos hm c1
    refine lv_iconst (v := 0) hx hb dX4_isLost_15 (by decide) ?_
    exact e_RZ S hr hlk (Or.inl rfl) (Option.some.inj hm) dX4_isLost_16
  · replace hm := ineg hm c1
    refine lv_iconst (v := 1) hx hb dX4_isLost_11 (by decide) ?_
    refine lv_goto (tgt := 16) hx hb dX4_isLost_12 (by decide) ?_
    exact e_RZ S hr hlk (Or.inr rfl) (Option.some.inj hm) dX4_isLost_16

abbrev rX4_freeFriends : Room := { frames := 0, cells := 0, slots := 0, locals := 0 }
theorem cal_X4_freeFriends : Cal yX4_freeFriends wsX4_freeFriends cX4_freeFriends 1 (some .int) RX4 0 := ⟨⟨_, rfl⟩, rfl, by decide +kernel, by decide +kernel, by decide +kernel⟩
theorem in_X4_freeFriends_X4 : ∀ w ∈ wsX40, w ∈ wsX4_freeFriends := fun _ h => (List.mem_cons_of_mem _ (List.mem_append_right _ h))
set_option maxHeartbeats 4000000 in
set_option maxRecDepth 100000 in
theorem c_X4_freeFriends (l : Launch) (D : va_G) (cC cI cJ : ClassId) (a_st : Nat) (st_asked : Int32) (st_brought : Int32) (st_friends : Int32) (st_used : Int32) (st_crumbs : Int32) (st_day : Int32) (out : Int32) (hm : m_X4_freeFriends st_friends st_used = some out) : RdI l yX4_freeFriends wsX4_freeFriends rX4_freeFriends D (tyK cC cI cJ) [.ref a_st] (wd_7 cC cI cJ a_st st_asked st_brought st_friends st_used st_crumbs st_day) out := by
  unfold m_X4_freeFriends at hm
  refine enter (cc := cX4_freeFriends) (maxL := 1) (ret := (some .int)) (lv := [(0, .ref a_st)]) (by decide) rfl (Nat.le_of_ble_eq_true rfl) rfl ?_
  intro p e s m args below meth c S hr hlk hK hP ls hl
  replace S : CallFix p m c cX4_freeFriends 1 s args wsX4_freeFriends RX4 := S
  have hx := S.1
  have hb := S.2.1
  refine lv_aload_n hx hb dX4_freeFriends_0 rfl (lv_at hl 0 rfl) ?_
  refine f_get S hK hP in_X4_freeFriends_X4 0 rfl rfl 2 (by decide) (List.mem_of_getElem? (i := 1) rfl) rfl rfl dX4_freeFriends_1 ?_
  refine lv_aload_n hx hb dX4_freeFriends_4 rfl (lv_at hl 0 rfl) ?_
  refine f_get S hK hP in_X4_freeFriends_X4 0 rfl rfl 3 (by decide) (List.mem_of_getElem? (i := 2) rfl) rfl rfl dX4_freeFriends_5 ?_
  refine lv_iconst (v := (-1)) hx hb dX4_freeFriends_8 (by decide) ?_
  refine lv_ixor hx hb dX4_freeFriends_9 ?_
  refine lv_iand hx hb dX4_freeFriends_10 ?_
  exact e_RI S hr hlk (Option.some.inj hm) dX4_freeFriends_11
