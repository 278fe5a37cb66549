/-! walks: X5_write X6_back X6_in X6_isHelper X6_canBefriend X6_keeps X6_befriends X6_befriend X6_begins X6_open X6_comes X6_ones X6_isLost -/
abbrev rX5_write : Room := { frames := 0, cells := 0, slots := 0, locals := 0 }
theorem cal_X5_write : Cal yX5_write wsX5_write cX5_write 2 (some .int) RX5 1 := ⟨⟨_, rfl⟩, rfl, by decide +kernel, by decide +kernel, by decide +kernel⟩
theorem in_X5_write_X5 : ∀ w ∈ wsX50, w ∈ wsX5_write := fun _ h => (List.mem_cons_of_mem _ (List.mem_append_right _ h))
set_option maxHeartbeats 4000000 in
set_option maxRecDepth 100000 in
theorem c_X5_write (l : Launch) (D : va_G) (cC cI cJ : ClassId) (a_x : Nat) (a_x_text : Nat) (g_x_months : Nat) (g_x_spare : Nat) (g_x_now : Nat) (g_x_trial : Nat) (g_x_undoable : Nat) (g_x_kept : Nat) (g_x_seen : Nat) (g_x_unseen : Nat) (g_x_search : Nat) (x_letters : Int32) (x_text : (Nat → Int32)) (p0 : Int32) (A : Nat → Prop) (hD : va_D A (wd_27 cC cI cJ a_x a_x_text x_letters g_x_months g_x_spare g_x_now g_x_trial g_x_undoable g_x_kept g_x_seen g_x_unseen g_x_search a_x_text x_text)) (out : (Int32 × Int32 × (Nat → Int32))) (hm : m_X5_write x_letters x_text p0 = some out) : WrI l yX5_write wsX5_write rX5_write D (tyK cC cI cJ) [.ref a_x, .int p0] A (wd_27 cC cI cJ a_x a_x_text x_letters g_x_months g_x_spare g_x_now g_x_trial g_x_undoable g_x_kept g_x_seen g_x_unseen g_x_search a_x_text x_text) (Bw0 D (wd_27 cC cI cJ a_x a_x_text out.2.1 g_x_months g_x_spare g_x_now g_x_trial g_x_undoable g_x_kept g_x_seen g_x_unseen g_x_search a_x_text out.2.2)) out.1 := by
  unfold m_X5_write at hm
  refine enter (cc := cX5_write) (maxL := 2) (ret := (some .int)) (lv := [(0, .ref a_x), (1, .int p0)]) (by decide) rfl (Nat.le_of_ble_eq_true rfl) rfl ?_
  intro p e s m args below meth c S hr hlk hK hP ls hl
  replace S : CallFix p m c cX5_write 2 s args wsX5_write RX5 := S
  have hx := S.1
  have hb := S.2.1
  have hw : Wd D A s.heap (wd_27 cC cI cJ a_x a_x_text x_letters g_x_months g_x_spare g_x_now g_x_trial g_x_undoable g_x_kept g_x_seen g_x_unseen g_x_search a_x_text x_text) s.heap [] := ⟨hP, hD, va_S.rf⟩
  have hw0 := hw
  refine lv_iload_n hx hb dX5_write_0 rfl (lv_at hl 1 rfl) ?_
  refine lv_bipush (v := 32) hx hb dX5_write_1 (by decide) ?_
  refine lv_icmp_lt (tgt := 12) hx hb dX5_write_3 (by decide) (fun c1 => ?_) (fun c1 => ?_)
  · replace hm := ipos hm c1
    refine lv_iconst (v := (-1)) hx hb dX5_write_12 (by decide) ?_
    obtain rfl := Option.some.inj hm
    exact e_WI S hr hlk hw rfl hw.1 dX5_write_13
  · replace hm := ineg hm c1
    refine lv_iload_n hx hb dX5_write_6 rfl (lv_at hl 1 rfl) ?_
    refine lv_bipush (v := 126) hx hb dX5_write_7 (by decide) ?_
    refine lv_icmp_le (tgt := 14) hx hb dX5_write_9 (by decide) (fun c2 => ?_) (fun c2 => ?_)
    · replace hm := ipos hm c2
      refine lv_aload_n hx hb dX5_write_14 rfl (lv_at hl 0 rfl) ?_
      refine f_get S hK hw.1 in_X5_write_X5 0 rfl rfl 1 (by decide) (List.mem_of_getElem? (i := 1) rfl) rfl rfl dX5_write_15 ?_
      refine lv_if_lt (tgt := 33) hx hb dX5_write_18 (by decide) (fun c3 => ?_) (fun c3 => ?_)
      · replace hm := ipos hm c3
        refine lv_bipush (v := (-3)) hx hb dX5_write_33 (by decide) ?_
        obtain rfl := Option.some.inj hm
        exact e_WI S hr hlk hw rfl hw.1 dX5_write_35
      · replace hm := ineg hm c3
        refine lv_aload_n hx hb dX5_write_21 rfl (lv_at hl 0 rfl) ?_
        refine f_get S hK hw.1 in_X5_write_X5 0 rfl rfl 1 (by decide) (List.mem_of_getElem? (i := 1) rfl) rfl rfl dX5_write_22 ?_
        refine lv_aload_n hx hb dX5_write_25 rfl (lv_at hl 0 rfl) ?_
        refine f_get S hK hw.1 in_X5_write_X5 0 rfl rfl 0 (by decide) (List.mem_of_getElem? (i := 2) rfl) rfl rfl dX5_write_26 ?_
        refine f_alen S hK hw.1 1 0 rfl rfl (v := (200 : Int32)) rfl dX5_write_29 ?_
        refine lv_icmp_lt (tgt := 36) hx hb dX5_write_30 (by decide) (fun c4 => ?_) (fun c4 => ?_)
        · replace hm := ipos hm c4
          refine lv_aload_n hx hb dX5_write_36 rfl (lv_at hl 0 rfl) ?_
          refine f_get S hK hw.1 in_X5_write_X5 0 rfl rfl 0 (by decide) (List.mem_of_getElem? (i := 2) rfl) rfl rfl dX5_write_37 ?_
          refine lv_aload_n hx hb dX5_write_40 rfl (lv_at hl 0 rfl) ?_
          refine f_get S hK hw.1 in_X5_write_X5 0 rfl rfl 1 (by decide) (List.mem_of_getElem? (i := 1) rfl) rfl rfl dX5_write_41 ?_
          refine lv_iload_n hx hb dX5_write_44 rfl (lv_at hl 1 rfl) ?_
          refine lv_i2c (v := ((p0).toUInt32 % 65536).toInt32) hx hb dX5_write_45 rfl ?_
          obtain ⟨y6, e7, hm⟩ := ob hm
          refine f_name e7 ?_
          obtain ⟨g5, hm⟩ := gdo hm
          refine f_cast S hK hw 1 0 rfl rfl g5 (ws1 := (wd_27 cC cI cJ a_x a_x_text x_letters g_x_months g_x_spare g_x_now g_x_trial g_x_undoable g_x_kept g_x_seen g_x_unseen g_x_search a_x_text (upd x_text (x_letters).toNatClampNeg (vp_nar .char y6)))) rfl dX5_write_46 (fun H locs hw => ?_)
          refine lv_aload_n hx hb dX5_write_47 rfl (lv_at hl 0 rfl) ?_
          refine lv_dup hx hb dX5_write_48 rfl ?_
          refine f_get S hK hw.1 in_X5_write_X5 0 rfl rfl 1 (by decide) (List.mem_of_getElem? (i := 1) rfl) rfl rfl dX5_write_49 ?_
          refine lv_iconst (v := 1) hx hb dX5_write_52 (by decide) ?_
          refine lv_iadd hx hb dX5_write_53 ?_
          refine f_put S hK hw in_X5_write_X5 tyX5_ok nmX5 0 rfl rfl 1 (by decide) (List.mem_of_getElem? (i := 1) rfl) rfl rfl rfl rfl (Nat.le_of_ble_eq_true rfl) (ws1 := (wd_27 cC cI cJ a_x a_x_text (x_letters + (1 : Int32)) g_x_months g_x_spare g_x_now g_x_trial g_x_undoable g_x_kept g_x_seen g_x_unseen g_x_search a_x_text (upd x_text (x_letters).toNatClampNeg (vp_nar .char y6)))) rfl dX5_write_54 (fun H locs hw => ?_)
          refine lv_aload_n hx hb dX5_write_57 rfl (lv_at hl 0 rfl) ?_
          refine f_get S hK hw.1 in_X5_write_X5 0 rfl rfl 1 (by decide) (List.mem_of_getElem? (i := 1) rfl) rfl rfl dX5_write_58 ?_
          obtain rfl := Option.some.inj hm
          exact e_WI S hr hlk hw rfl hw.1 dX5_write_61
        · replace hm := ineg hm c4
          refine lv_bipush (v := (-3)) hx hb dX5_write_33 (by decide) ?_
          obtain rfl := Option.some.inj hm
          exact e_WI S hr hlk hw rfl hw.1 dX5_write_35
    · replace hm := ineg hm c2
      refine lv_iconst (v := (-1)) hx hb dX5_write_12 (by decide) ?_
      obtain rfl := Option.some.inj hm
      exact e_WI S hr hlk hw rfl hw.1 dX5_write_13

abbrev rX6_back : Room := { frames := 0, cells := 0, slots := 0, locals := 0 }
theorem cal_X6_back : Cal yX6_back wsX6_back cX6_back 2 (some .int) RX6 0 := ⟨⟨_, rfl⟩, rfl, by decide +kernel, by decide +kernel, by decide +kernel⟩
theorem in_X6_back_X6 : ∀ w ∈ wsX60, w ∈ wsX6_back := fun _ h => (List.mem_cons_of_mem _ (List.mem_append_right _ h))
set_option maxHeartbeats 4000000 in
set_option maxRecDepth 100000 in
theorem t_X6_back_22 {p : Program} {e : Env} {s : State} {m : MethodId} {args : Array Value} {below : List Frame} {meth : Method} {c : Code} {Q : State → Prop} (l : Launch) {D : va_G} {cC cI cJ : ClassId} {A : Nat → Prop} {H0 : Heap} (S : CallFix p m c cX6_back 2 s args wsX6_back RX6) (hK : KK D (tyK cC cI cJ) s) (a_md : Nat) (a_md_text : Nat) (a_md_told : Nat) (a_md_draft : Nat) (a_md_s : Nat) (a_md_past : Nat) (a_md_images : Nat) (a_md_seen : Nat) (a_md_asks : Nat) (a_md_brings : Nat) (a_md_uses : Nat) (a_md_days : Nat) (a_md_tries : Nat) (a_md_row : Nat) (a_md_first : Nat) (a_md_held : Nat) (md_typed : Int32) (md_known : Int32) (md_kept : Int32) (md_sights : Int32) (md_at : Int32) (md_many : Int32) (md_length : Int32) (md_set : Int32) (md_text : (Nat → Int32)) (md_told : (Nat → Int32)) (md_draft : (Nat → Int32)) (md_past : (Nat → Int32)) (md_images : (Nat → Int32)) (md_seen : (Nat → Int32)) (md_asks : (Nat → Int32)) (md_brings : (Nat → Int32)) (md_uses : (Nat → Int32)) (md_days : (Nat → Int32)) (md_tries : (Nat → Int32)) (md_row : (Nat → Int32)) (md_first : (Nat → Int32)) (md_held : (Nat → Int32)) : ∀ (n : Nat) (v1 : Int32) (md_s : (Nat → Int32)) (out : (Nat → Int32)), lp_X6_back_22 md_kept md_images n v1 md_s = some out → ∀ (H : Heap) (locs : List Loc) (ls : Array Slot), Wd D A H0 (wd_28 cC cI cJ a_md a_md_text md_typed a_md_told a_md_draft a_md_s a_md_past md_known a_md_images md_kept a_md_seen md_sights md_at a_md_asks a_md_brings a_md_uses a_md_days a_md_tries a_md_row md_many a_md_first md_length md_set a_md_held a_md_text md_text a_md_told md_told a_md_draft md_draft a_md_s md_s a_md_past md_past a_md_images md_images a_md_seen md_seen a_md_asks md_asks a_md_brings md_brings a_md_uses md_uses a_md_days md_days a_md_tries md_tries a_md_row md_row a_md_first md_first a_md_held md_held) H locs → lv_has ls 2 [(0, .ref a_md), (1, .int v1)] → (∀ (H : Heap) (locs : List Loc) (ls : Array Slot), Wd D A H0 (wd_28 cC cI cJ a_md a_md_text md_typed a_md_told a_md_draft a_md_s a_md_past md_known a_md_images md_kept a_md_seen md_sights md_at a_md_asks a_md_brings a_md_uses a_md_days a_md_tries a_md_row md_many a_md_first md_length md_set a_md_held a_md_text md_text a_md_told md_told a_md_draft md_draft a_md_s out a_md_past md_past a_md_images md_images a_md_seen md_seen a_md_asks md_asks a_md_brings md_brings a_md_uses md_uses a_md_days md_days a_md_tries md_tries a_md_row md_row a_md_first md_first a_md_held md_held) H locs → lv_has ls 2 [(0, .ref a_md)] → W p l e rX6_back s m args below meth c H locs 0 0 Q (F0 m 54 ls [])) → W p l e rX6_back s m args below meth c H locs 0 0 Q (F0 m 22 ls []) := by
  have hx := S.1
  have hb := S.2.1
  intro n
  induction n with
  | zero => intro v1 md_s out hm; cases (show (none : Option (Nat → Int32)) = some out from hm)
  | succ n ih =>
    intro v1 md_s out hm  H locs ls hw hl K0
    rw [lp_X6_back_22] at hm
    refine lv_iload_n hx hb dX6_back_22 rfl (lv_at hl 1 rfl) ?_
    refine lv_bipush (v := 6) hx hb dX6_back_23 (by decide) ?_
    refine lv_icmp_ge (tgt := 54) hx hb dX6_back_25 (by decide) (fun c2 => ?_) (fun c2 => ?_)
    · replace hm := ipos hm c2
      obtain rfl := Option.some.inj hm
      exact K0  _ _ ls hw (lv_sub hl [0] rfl)
    · replace hm := ineg hm c2
      refine lv_aload_n hx hb dX6_back_28 rfl (lv_at hl 0 rfl) ?_
      refine f_get S hK hw.1 in_X6_back_X6 0 rfl rfl 4 (by decide) (List.mem_of_getElem? (i := 2) rfl) rfl rfl dX6_back_29 ?_
      refine lv_iload_n hx hb dX6_back_32 rfl (lv_at hl 1 rfl) ?_
      refine lv_aload_n hx hb dX6_back_33 rfl (lv_at hl 0 rfl) ?_
      refine f_get S hK hw.1 in_X6_back_X6 0 rfl rfl 7 (by decide) (List.mem_of_getElem? (i := 3) rfl) rfl rfl dX6_back_34 ?_
      refine lv_bipush (v := 6) hx hb dX6_back_37 (by decide) ?_
      refine lv_aload_n hx hb dX6_back_39 rfl (lv_at hl 0 rfl) ?_
      refine f_get S hK hw.1 in_X6_back_X6 0 rfl rfl 8 (by decide) (List.mem_of_getElem? (i := 1) rfl) rfl rfl dX6_back_40 ?_
      refine lv_imul hx hb dX6_back_43 ?_
      refine lv_iload_n hx hb dX6_back_44 rfl (lv_at hl 1 rfl) ?_
      refine lv_iadd hx hb dX6_back_45 ?_
      obtain ⟨g3, hm⟩ := gdo hm
      refine f_iald S hK hw.1 6 1 rfl rfl g3 dX6_back_46 ?_
      obtain ⟨y5, e6, hm⟩ := ob hm
      refine f_name e6 ?_
      obtain ⟨g4, hm⟩ := gdo hm
      refine f_iast S hK hw 4 1 rfl rfl g4 (ws1 := (wd_28 cC cI cJ a_md a_md_text md_typed a_md_told a_md_draft a_md_s a_md_past md_known a_md_images md_kept a_md_seen md_sights md_at a_md_asks a_md_brings a_md_uses a_md_days a_md_tries a_md_row md_many a_md_first md_length md_set a_md_held a_md_text md_text a_md_told md_told a_md_draft md_draft a_md_s (upd md_s (v1).toNatClampNeg y5) a_md_past md_past a_md_images md_images a_md_seen md_seen a_md_asks md_asks a_md_brings md_brings a_md_uses md_uses a_md_days md_days a_md_tries md_tries a_md_row md_row a_md_first md_first a_md_held md_held)) rfl dX6_back_47 (fun H locs hw => ?_)
      refine lv_iinc (v := (v1 + 1)) (lv' := [(1, .int (v1 + 1)), (0, .ref a_md)]) hx hb dX6_back_48 hl (k := 1) rfl (by rw [ofi_1]) (by decide) rfl (fun ls hl => ?_)
      refine lv_goto (tgt := 22) hx hb dX6_back_51 (by decide) ?_
      exact ih (v1 + 1) (upd md_s (v1).toNatClampNeg y5) _ hm  _ _ ls hw (lv_sub hl [1, 0] rfl) K0
set_option maxHeartbeats 4000000 in
set_option maxRecDepth 100000 in
theorem c_X6_back (l : Launch) (D : va_G) (cC cI cJ : ClassId) (a_md : Nat) (a_md_text : Nat) (a_md_told : Nat) (a_md_draft : Nat) (a_md_s : Nat) (a_md_past : Nat) (a_md_images : Nat) (a_md_seen : Nat) (a_md_asks : Nat) (a_md_brings : Nat) (a_md_uses : Nat) (a_md_days : Nat) (a_md_tries : Nat) (a_md_row : Nat) (a_md_first : Nat) (a_md_held : Nat) (md_typed : Int32) (md_known : Int32) (md_kept : Int32) (md_sights : Int32) (md_at : Int32) (md_many : Int32) (md_length : Int32) (md_set : Int32) (md_text : (Nat → Int32)) (md_told : (Nat → Int32)) (md_draft : (Nat → Int32)) (md_s : (Nat → Int32)) (md_past : (Nat → Int32)) (md_images : (Nat → Int32)) (md_seen : (Nat → Int32)) (md_asks : (Nat → Int32)) (md_brings : (Nat → Int32)) (md_uses : (Nat → Int32)) (md_days : (Nat → Int32)) (md_tries : (Nat → Int32)) (md_row : (Nat → Int32)) (md_first : (Nat → Int32)) (md_held : (Nat → Int32)) (N : Nat) (A : Nat → Prop) (hD : va_D A (wd_28 cC cI cJ a_md a_md_text md_typed a_md_told a_md_draft a_md_s a_md_past md_known a_md_images md_kept a_md_seen md_sights md_at a_md_asks a_md_brings a_md_uses a_md_days a_md_tries a_md_row md_many a_md_first md_length md_set a_md_held a_md_text md_text a_md_told md_told a_md_draft md_draft a_md_s md_s a_md_past md_past a_md_images md_images a_md_seen md_seen a_md_asks md_asks a_md_brings md_brings a_md_uses md_uses a_md_days md_days a_md_tries md_tries a_md_row md_row a_md_first md_first a_md_held md_held)) (out : (Int32 × Int32 × Int32 × (Nat → Int32))) (hm : m_X6_back N md_known md_kept md_s md_images = some out) : WrI l yX6_back wsX6_back rX6_back D (tyK cC cI cJ) [.ref a_md] A (wd_28 cC cI cJ a_md a_md_text md_typed a_md_told a_md_draft a_md_s a_md_past md_known a_md_images md_kept a_md_seen md_sights md_at a_md_asks a_md_brings a_md_uses a_md_days a_md_tries a_md_row md_many a_md_first md_length md_set a_md_held a_md_text md_text a_md_told md_told a_md_draft md_draft a_md_s md_s a_md_past md_past a_md_images md_images a_md_seen md_seen a_md_asks md_asks a_md_brings md_brings a_md_uses md_uses a_md_days md_days a_md_tries md_tries a_md_row md_row a_md_first md_first a_md_held md_held) (Bw0 D (wd_28 cC cI cJ a_md a_md_text md_typed a_md_told a_md_draft a_md_s a_md_past out.2.1 a_md_images out.2.2.1 a_md_seen md_sights md_at a_md_asks a_md_brings a_md_uses a_md_days a_md_tries a_md_row md_many a_md_first md_length md_set a_md_held a_md_text md_text a_md_told md_told a_md_draft md_draft a_md_s out.2.2.2 a_md_past md_past a_md_images md_images a_md_seen md_seen a_md_asks md_asks a_md_brings md_brings a_md_uses md_uses a_md_days md_days a_md_tries md_tries a_md_row md_row a_md_first md_first a_md_held md_held)) out.1 := by
  unfold m_X6_back at hm
  refine enter (cc := cX6_back) (maxL := 2) (ret := (some .int)) (lv := [(0, .ref a_md)]) (by decide) rfl (Nat.le_of_ble_eq_true rfl) rfl ?_
  intro p e s m args below meth c S hr hlk hK hP ls hl
  replace S : CallFix p m c cX6_back 2 s args wsX6_back RX6 := S
  have hx := S.1
  have hb := S.2.1
  have hw : Wd D A s.heap (wd_28 cC cI cJ a_md a_md_text md_typed a_md_told a_md_draft a_md_s a_md_past md_known a_md_images md_kept a_md_seen md_sights md_at a_md_asks a_md_brings a_md_uses a_md_days a_md_tries a_md_row md_many a_md_first md_length md_set a_md_held a_md_text md_text a_md_told md_told a_md_draft md_draft a_md_s md_s a_md_past md_past a_md_images md_images a_md_seen md_seen a_md_asks md_asks a_md_brings md_brings a_md_uses md_uses a_md_days md_days a_md_tries md_tries a_md_row md_row a_md_first md_first a_md_held md_held) s.heap [] := ⟨hP, hD, va_S.rf⟩
  have hw0 := hw
  refine lv_aload_n hx hb dX6_back_0 rfl (lv_at hl 0 rfl) ?_
  refine f_get S hK hw.1 in_X6_back_X6 0 rfl rfl 8 (by decide) (List.mem_of_getElem? (i := 1) rfl) rfl rfl dX6_back_1 ?_
  refine lv_if_ne (tgt := 10) hx hb dX6_back_4 (by decide) (fun c1 => ?_) (fun c1 => ?_)
  · replace hm := ineg hm c1
    refine lv_aload_n hx hb dX6_back_10 rfl (lv_at hl 0 rfl) ?_
    refine lv_dup hx hb dX6_back_11 rfl ?_
    refine f_get S hK hw.1 in_X6_back_X6 0 rfl rfl 8 (by decide) (List.mem_of_getElem? (i := 1) rfl) rfl rfl dX6_back_12 ?_
    refine lv_iconst (v := 1) hx hb dX6_back_15 (by decide) ?_
    refine lv_isub hx hb dX6_back_16 ?_
    refine f_put S hK hw in_X6_back_X6 tyX6_ok nmX6 0 rfl rfl 8 (by decide) (List.mem_of_getElem? (i := 1) rfl) rfl rfl rfl rfl (Nat.le_of_ble_eq_true rfl) (ws1 := (wd_28 cC cI cJ a_md a_md_text md_typed a_md_told a_md_draft a_md_s a_md_past md_known a_md_images (md_kept - (1 : Int32)) a_md_seen md_sights md_at a_md_asks a_md_brings a_md_uses a_md_days a_md_tries a_md_row md_many a_md_first md_length md_set a_md_held a_md_text md_text a_md_told md_told a_md_draft md_draft a_md_s md_s a_md_past md_past a_md_images md_images a_md_seen md_seen a_md_asks md_asks a_md_brings md_brings a_md_uses md_uses a_md_days md_days a_md_tries md_tries a_md_row md_row a_md_first md_first a_md_held md_held)) rfl dX6_back_17 (fun H locs hw => ?_)
    refine lv_iconst (v := 0) hx hb dX6_back_20 (by decide) ?_
    refine lv_istore_n (lv' := [(1, .int (0 : Int32)), (0, .ref a_md)]) hx hb dX6_back_21 rfl hl (by decide) rfl (fun ls hl => ?_)
    obtain ⟨r7, h8, hm⟩ := ob hm
    refine t_X6_back_22 l S hK a_md a_md_text a_md_told a_md_draft a_md_s a_md_past a_md_images a_md_seen a_md_asks a_md_brings a_md_uses a_md_days a_md_tries a_md_row a_md_first a_md_held md_typed md_known (md_kept - (1 : Int32)) md_sights md_at md_many md_length md_set md_text md_told md_draft md_past md_images md_seen md_asks md_brings md_uses md_days md_tries md_row md_first md_held N (0 : Int32) md_s r7 h8  _ _ ls hw (lv_sub hl [1, 0] rfl) (fun H locs ls hw hl => ?_)
    refine lv_aload_n hx hb dX6_back_54 rfl (lv_at hl 0 rfl) ?_
    refine lv_iconst (v := 0) hx hb dX6_back_55 (by decide) ?_
    refine f_put S hK hw in_X6_back_X6 tyX6_ok nmX6 0 rfl rfl 6 (by decide) (List.mem_of_getElem? (i := 4) rfl) rfl rfl rfl rfl (Nat.le_of_ble_eq_true rfl) (ws1 := (wd_28 cC cI cJ a_md a_md_text md_typed a_md_told a_md_draft a_md_s a_md_past (0 : Int32) a_md_images (md_kept - (1 : Int32)) a_md_seen md_sights md_at a_md_asks a_md_brings a_md_uses a_md_days a_md_tries a_md_row md_many a_md_first md_length md_set a_md_held a_md_text md_text a_md_told md_told a_md_draft md_draft a_md_s r7 a_md_past md_past a_md_images md_images a_md_seen md_seen a_md_asks md_asks a_md_brings md_brings a_md_uses md_uses a_md_days md_days a_md_tries md_tries a_md_row md_row a_md_first md_first a_md_held md_held)) rfl dX6_back_56 (fun H locs hw => ?_)
    refine lv_aload_n hx hb dX6_back_59 rfl (lv_at hl 0 rfl) ?_
    refine f_get S hK hw.1 in_X6_back_X6 0 rfl rfl 8 (by decide) (List.mem_of_getElem? (i := 1) rfl) rfl rfl dX6_back_60 ?_
    obtain rfl := Option.some.inj hm
    exact e_WI S hr hlk hw rfl hw.1 dX6_back_63
  · replace hm := ipos hm c1
    refine lv_bipush (v := (-2)) hx hb dX6_back_7 (by decide) ?_
    obtain rfl := Option.some.inj hm
    exact e_WI S hr hlk hw rfl hw.1 dX6_back_9

abbrev rX6_in : Room := { frames := 0, cells := 0, slots := 0, locals := 0 }
theorem cal_X6_in : Cal yX6_in wsX6_in cX6_in 3 (some .boolean) RX6 3 := ⟨⟨_, rfl⟩, rfl, by decide +kernel, by decide +kernel, by decide +kernel⟩
set_option maxHeartbeats 4000000 in
set_option maxRecDepth 100000 in
theorem c_X6_in (l : Launch) (D : va_G) (cC cI cJ : ClassId)  (p0 : Int32) (p1 : Int32) (p2 : Int32) (out : Int32) (hm : m_X6_in p0 p1 p2 = some out) : RdI l yX6_in wsX6_in rX6_in D (tyK cC cI cJ) [.int p0, .int p1, .int p2] [] out := by
  unfold m_X6_in at hm
  refine enter (cc := cX6_in) (maxL := 3) (ret := (some .boolean)) (lv := [(0, .int p0), (1, .int p1), (2, .int p2)]) (by decide) rfl (Nat.le_of_ble_eq_true rfl) rfl ?_
  intro p e s m args below meth c S hr hlk hK hP ls hl
  replace S : CallFix p m c cX6_in 3 s args wsX6_in RX6 := S
  have hx := S.1
  have hb := S.2.1
  refine lv_iload_n hx hb dX6_in_0 rfl (lv_at hl 0 rfl) ?_
  refine lv_iload_n hx hb dX6_in_1 rfl (lv_at hl 1 rfl) ?_
  refine lv_icmp_lt (tgt := 14) hx hb dX6_in_2 (by decide) (fun c1 => ?_) (fun c1 => ?_)
  · replace hm := ipos hm c1
    refine lv_iconst (v := 0) hx hb dX6_in_14 (by decide) ?_
    exact e_RZ S hr hlk (Or.inl rfl) (Option.some.inj hm) dX6_in_15
  · replace hm := ineg hm c1
    refine lv_iload_n hx hb dX6_in_5 rfl (lv_at hl 0 rfl) ?_
    refine lv_iload_n hx hb dX6_in_6 rfl (lv_at hl 2 rfl) ?_
    refine lv_icmp_gt (tgt := 14) hx hb dX6_in_7 (by decide) (fun c2 => ?_) (fun c2 => ?_)
    · replace hm := ipos hm c2
      refine lv_iconst (v := 0) hx hb dX6_in_14 (by decide) ?_
      exact e_RZ S hr hlk (Or.inl rfl) (Option.some.inj hm) dX6_in_15
    · replace hm := ineg hm c2
      refine lv_iconst (v := 1) hx hb dX6_in_10 (by decide) ?_
      refine lv_goto (tgt := 15) hx hb dX6_in_11 (by decide) ?_
      exact e_RZ S hr hlk (Or.inr rfl) (Option.some.inj hm) dX6_in_15

abbrev rX6_isHelper : Room := { frames := 1, cells := 0, slots := 0, locals := 22 }
theorem cal_X6_isHelper : Cal yX6_isHelper wsX6_isHelper cX6_isHelper 2 (some .boolean) RX6 1 := ⟨⟨_, rfl⟩, rfl, by decide +kernel, by decide +kernel, by decide +kernel⟩
theorem in_X6_isHelper_X6 : ∀ w ∈ wsX60, w ∈ wsX6_isHelper := fun _ h => (List.mem_cons_of_mem _ (List.mem_append_right _ h))
set_option maxHeartbeats 4000000 in
set_option maxRecDepth 100000 in
theorem c_X6_isHelper (l : Launch) (D : va_G) (cC cI cJ : ClassId) (a_md : Nat) (a_md_text : Nat) (a_md_told : Nat) (a_md_draft : Nat) (a_md_s : Nat) (a_md_past : Nat) (a_md_images : Nat) (a_md_seen : Nat) (a_md_asks : Nat) (a_md_brings : Nat) (a_md_uses : Nat) (a_md_days : Nat) (a_md_tries : Nat) (a_md_row : Nat) (a_md_first : Nat) (a_md_held : Nat) (md_typed : Int32) (md_known : Int32) (md_kept : Int32) (md_sights : Int32) (md_at : Int32) (md_many : Int32) (md_length : Int32) (md_set : Int32) (md_text : (Nat → Int32)) (md_told : (Nat → Int32)) (md_draft : (Nat → Int32)) (md_s : (Nat → Int32)) (md_past : (Nat → Int32)) (md_images : (Nat → Int32)) (md_seen : (Nat → Int32)) (md_asks : (Nat → Int32)) (md_brings : (Nat → Int32)) (md_uses : (Nat → Int32)) (md_days : (Nat → Int32)) (md_tries : (Nat → Int32)) (md_row : (Nat → Int32)) (md_first : (Nat → Int32)) (md_held : (Nat → Int32)) (p0 : Int32) (out : Int32) (hm : m_X6_isHelper md_told p0 = some out) : RdI l yX6_isHelper wsX6_isHelper rX6_isHelper D (tyK cC cI cJ) [.ref a_md, .int p0] (wd_28 cC cI cJ a_md a_md_text md_typed a_md_told a_md_draft a_md_s a_md_past md_known a_md_images md_kept a_md_seen md_sights md_at a_md_asks a_md_brings a_md_uses a_md_days a_md_tries a_md_row md_many a_md_first md_length md_set a_md_held a_md_text md_text a_md_told md_told a_md_draft md_draft a_md_s md_s a_md_past md_past a_md_images md_images a_md_seen md_seen a_md_asks md_asks a_md_brings md_brings a_md_uses md_uses a_md_days md_days a_md_tries md_tries a_md_row md_row a_md_first md_first a_md_held md_held) out := by
  unfold m_X6_isHelper at hm
  refine enter (cc := cX6_isHelper) (maxL := 2) (ret := (some .boolean)) (lv := [(0, .ref a_md), (1, .int p0)]) (by decide) rfl (Nat.le_of_ble_eq_true rfl) rfl ?_
  intro p e s m args below meth c S hr hlk hK hP ls hl
  replace S : CallFix p m c cX6_isHelper 2 s args wsX6_isHelper RX6 := S
  have hx := S.1
  have hb := S.2.1
  refine lv_iload_n hx hb dX6_isHelper_0 rfl (lv_at hl 1 rfl) ?_
  refine lv_iconst (v := 0) hx hb dX6_isHelper_1 (by decide) ?_
  refine lv_aload_n hx hb dX6_isHelper_2 rfl (lv_at hl 0 rfl) ?_
  refine f_get S hK hP in_X6_isHelper_X6 0 rfl rfl 2 (by decide) (List.mem_of_getElem? (i := 1) rfl) rfl rfl dX6_isHelper_3 ?_
  refine lv_iconst (v := 1) hx hb dX6_isHelper_6 (by decide) ?_
  refine f_ialdK S hK hP 2 1 rfl rfl 1 (by decide) (by decide) (v := (md_told 1)) rfl dX6_isHelper_7 ?_
  refine lv_iconst (v := 1) hx hb dX6_isHelper_8 (by decide) ?_
  refine lv_isub hx hb dX6_isHelper_9 ?_
  obtain ⟨r2, h3, hm⟩ := ob hm
  refine k_rSi S hK hP cal_X6_in gX6_isHelper_X6_in (c_X6_in l D cC cI cJ p0 (0 : Int32) ((md_told 1) - (1 : Int32)) r2 h3) ⟨⟨rfl, rfl⟩, Nat.le_of_ble_eq_true rfl, Nat.le_of_ble_eq_true rfl⟩ [] rfl rfl hl.1 rfl (Nat.le_of_ble_eq_true rfl) dX6_isHelper_10 ⟨Nat.zero_le _, Nat.zero_le _⟩ ?_
  obtain ⟨hz, hm⟩ := gdo hm
  exact e_RZ S hr hlk hz (Option.some.inj hm) dX6_isHelper_13

abbrev rX6_canBefriend : Room := { frames := 0, cells := 0, slots := 0, locals := 0 }
theorem cal_X6_canBefriend : Cal yX6_canBefriend wsX6_canBefriend cX6_canBefriend 2 (some .boolean) RX6 1 := ⟨⟨_, rfl⟩, rfl, by decide +kernel, by decide +kernel, by decide +kernel⟩
theorem in_X6_canBefriend_X6 : ∀ w ∈ wsX60, w ∈ wsX6_canBefriend := fun _ h => (List.mem_cons_of_mem _ (List.mem_append_right _ h))
set_option maxHeartbeats 4000000 in
set_option maxRecDepth 100000 in
theorem c_X6_canBefriend (l : Launch) (D : va_G) (cC cI cJ : ClassId) (a_md : Nat) (a_md_text : Nat) (a_md_told : Nat) (a_md_draft : Nat) (a_md_s : Nat) (a_md_past : Nat) (a_md_images : Nat) (a_md_seen : Nat) (a_md_asks : Nat) (a_md_brings : Nat) (a_md_uses : Nat) (a_md_days : Nat) (a_md_tries : Nat) (a_md_row : Nat) (a_md_first : Nat) (a_md_held : Nat) (md_typed : Int32) (md_known : Int32) (md_kept : Int32) (md_sights : Int32) (md_at : Int32) (md_many : Int32) (md_length : Int32) (md_set : Int32) (md_text : (Nat → Int32)) (md_told : (Nat → Int32)) (md_draft : (Nat → Int32)) (md_s : (Nat → Int32)) (md_past : (Nat → Int32)) (md_images : (Nat → Int32)) (md_seen : (Nat → Int32)) (md_asks : (Nat → Int32)) (md_brings : (Nat → Int32)) (md_uses : (Nat → Int32)) (md_days : (Nat → Int32)) (md_tries : (Nat → Int32)) (md_row : (Nat → Int32)) (md_first : (Nat → Int32)) (md_held : (Nat → Int32)) (p0 : Int32) (out : Int32) (hm : m_X6_canBefriend md_told md_s p0 = some out) : RdI l yX6_canBefriend wsX6_canBefriend rX6_canBefriend D (tyK cC cI cJ) [.ref a_md, .int p0] (wd_28 cC cI cJ a_md a_md_text md_typed a_md_told a_md_draft a_md_s a_md_past md_known a_md_images md_kept a_md_seen md_sights md_at a_md_asks a_md_brings a_md_uses a_md_days a_md_tries a_md_row md_many a_md_first md_length md_set a_md_held a_md_text md_text a_md_told md_told a_md_draft md_draft a_md_s md_s a_md_past md_past a_md_images md_images a_md_seen md_seen a_md_asks md_asks a_md_brings md_brings a_md_uses md_uses a_md_days md_days a_md_tries md_tries a_md_row md_row a_md_first md_first a_md_held md_held) out := by
  unfold m_X6_canBefriend at hm
  refine enter (cc := cX6_canBefriend) (maxL := 2) (ret := (some .boolean)) (lv := [(0, .ref a_md), (1, .int p0)]) (by decide) rfl (Nat.le_of_ble_eq_true rfl) rfl ?_
  intro p e s m args below meth c S hr hlk hK hP ls hl
  replace S : CallFix p m c cX6_canBefriend 2 s args wsX6_canBefriend RX6 := S
  have hx := S.1
  have hb := S.2.1
  refine lv_aload_n hx hb dX6_canBefriend_0 rfl (lv_at hl 0 rfl) ?_
  refine f_get S hK hP in_X6_canBefriend_X6 0 rfl rfl 4 (by decide) (List.mem_of_getElem? (i := 1) rfl) rfl rfl dX6_canBefriend_1 ?_
  refine lv_iconst (v := 2) hx hb dX6_canBefriend_4 (by decide) ?_
  refine f_ialdK S hK hP 4 1 rfl rfl 2 (by decide) (by decide) (v := (md_s 2)) rfl dX6_canBefriend_5 ?_
  refine lv_iload_n hx hb dX6_canBefriend_6 rfl (lv_at hl 1 rfl) ?_
  refine lv_ishr hx hb dX6_canBefriend_7 ?_
  refine lv_iconst (v := 1) hx hb dX6_canBefriend_8 (by decide) ?_
  refine lv_iand hx hb dX6_canBefriend_9 ?_
  refine lv_if_ne (tgt := 35) hx hb dX6_canBefriend_10 (by decide) (fun c2 => ?_) (fun c2 => ?_)
  · replace hm := ineg hm c2
    refine lv_iconst (v := 0) hx hb dX6_canBefriend_35 (by decide) ?_
    exact e_RZ S hr hlk (Or.inl rfl) (Option.some.inj hm) dX6_canBefriend_36
  · replace hm := ipos hm c2
    refine lv_aload_n hx hb dX6_canBefriend_13 rfl (lv_at hl 0 rfl) ?_
    refine f_get S hK hP in_X6_canBefriend_X6 0 rfl rfl 2 (by decide) (List.mem_of_getElem? (i := 2) rfl) rfl rfl dX6_canBefriend_14 ?_
    refine lv_bipush (v := 44) hx hb dX6_canBefriend_17 (by decide) ?_
    refine lv_iload_n hx hb dX6_canBefriend_19 rfl (lv_at hl 1 rfl) ?_
    refine lv_iadd hx hb dX6_canBefriend_20 ?_
    obtain ⟨g3, hm⟩ := gdo hm
    refine f_iald S hK hP 2 1 rfl rfl g3 dX6_canBefriend_21 ?_
    refine lv_aload_n hx hb dX6_canBefriend_22 rfl (lv_at hl 0 rfl) ?_
    refine f_get S hK hP in_X6_canBefriend_X6 0 rfl rfl 4 (by decide) (List.mem_of_getElem? (i := 1) rfl) rfl rfl dX6_canBefriend_23 ?_
    refine lv_iconst (v := 4) hx hb dX6_canBefriend_26 (by decide) ?_
    refine f_ialdK S hK hP 4 1 rfl rfl 4 (by decide) (by decide) (v := (md_s 4)) rfl dX6_canBefriend_27 ?_
    refine lv_icmp_gt (tgt := 35) hx hb dX6_canBefriend_28 (by decide) (fun c5 => ?_) (fun c5 => ?_)
    · replace hm := ipos hm c5
      refine lv_iconst (v := 0) hx hb dX6_canBefriend_35 (by decide) ?_
      exact e_RZ S hr hlk (Or.inl rfl) (Option.some.inj hm) dX6_canBefriend_36
    · replace hm := ineg hm c5
      refine lv_iconst (v := 1) hx hb dX6_canBefriend_31 (by decide) ?_
      refine lv_goto (tgt := 36) hx hb dX6_canBefriend_32 (by decide) ?_
      exact e_RZ S hr hlk (Or.inr rfl) (Option.some.inj hm) dX6_canBefriend_36

abbrev rX6_keeps : Room := { frames := 0, cells := 0, slots := 0, locals := 0 }
theorem cal_X6_keeps : Cal yX6_keeps wsX6_keeps cX6_keeps 2 none RX6 0 := ⟨⟨_, rfl⟩, rfl, by decide +kernel, by decide +kernel, by decide +kernel⟩
theorem in_X6_keeps_X6 : ∀ w ∈ wsX60, w ∈ wsX6_keeps := fun _ h => (List.mem_cons_of_mem _ (List.mem_append_right _ h))
set_option maxHeartbeats 4000000 in
set_option maxRecDepth 100000 in
theorem t_X6_keeps_50 {p : Program} {e : Env} {s : State} {m : MethodId} {args : Array Value} {below : List Frame} {meth : Method} {c : Code} {Q : State → Prop} (l : Launch) {D : va_G} {cC cI cJ : ClassId} {A : Nat → Prop} {H0 : Heap} (S : CallFix p m c cX6_keeps 2 s args wsX6_keeps RX6) (hK : KK D (tyK cC cI cJ) s) (a_md : Nat) (a_md_text : Nat) (a_md_told : Nat) (a_md_draft : Nat) (a_md_s : Nat) (a_md_past : Nat) (a_md_images : Nat) (a_md_seen : Nat) (a_md_asks : Nat) (a_md_brings : Nat) (a_md_uses : Nat) (a_md_days : Nat) (a_md_tries : Nat) (a_md_row : Nat) (a_md_first : Nat) (a_md_held : Nat) (md_typed : Int32) (md_known : Int32) (md_kept : Int32) (md_sights : Int32) (md_at : Int32) (md_many : Int32) (md_length : Int32) (md_set : Int32) (md_text : (Nat → Int32)) (md_told : (Nat → Int32)) (md_draft : (Nat → Int32)) (md_s : (Nat → Int32)) (md_images : (Nat → Int32)) (md_seen : (Nat → Int32)) (md_asks : (Nat → Int32)) (md_brings : (Nat → Int32)) (md_uses : (Nat → Int32)) (md_days : (Nat → Int32)) (md_tries : (Nat → Int32)) (md_row : (Nat → Int32)) (md_first : (Nat → Int32)) (md_held : (Nat → Int32)) : ∀ (n : Nat) (v1 : Int32) (md_past : (Nat → Int32)) (out : (Nat → Int32)), lp_X6_keeps_50 md_known md_s n v1 md_past = some out → ∀ (H : Heap) (locs : List Loc) (ls : Array Slot), Wd D A H0 (wd_28 cC cI cJ a_md a_md_text md_typed a_md_told a_md_draft a_md_s a_md_past md_known a_md_images md_kept a_md_seen md_sights md_at a_md_asks a_md_brings a_md_uses a_md_days a_md_tries a_md_row md_many a_md_first md_length md_set a_md_held a_md_text md_text a_md_told md_told a_md_draft md_draft a_md_s md_s a_md_past md_past a_md_images md_images a_md_seen md_seen a_md_asks md_asks a_md_brings md_brings a_md_uses md_uses a_md_days md_days a_md_tries md_tries a_md_row md_row a_md_first md_first a_md_held md_held) H locs → lv_has ls 2 [(0, .ref a_md), (1, .int v1)] → (∀ (H : Heap) (locs : List Loc) (ls : Array Slot), Wd D A H0 (wd_28 cC cI cJ a_md a_md_text md_typed a_md_told a_md_draft a_md_s a_md_past md_known a_md_images md_kept a_md_seen md_sights md_at a_md_asks a_md_brings a_md_uses a_md_days a_md_tries a_md_row md_many a_md_first md_length md_set a_md_held a_md_text md_text a_md_told md_told a_md_draft md_draft a_md_s md_s a_md_past out a_md_images md_images a_md_seen md_seen a_md_asks md_asks a_md_brings md_brings a_md_uses md_uses a_md_days md_days a_md_tries md_tries a_md_row md_row a_md_first md_first a_md_held md_held) H locs → lv_has ls 2 [(0, .ref a_md)] → W p l e rX6_keeps s m args below meth c H locs 0 0 Q (F0 m 82 ls [])) → W p l e rX6_keeps s m args below meth c H locs 0 0 Q (F0 m 50 ls []) := by
  have hx := S.1
  have hb := S.2.1
  intro n
  induction n with
  | zero => intro v1 md_past out hm; cases (show (none : Option (Nat → Int32)) = some out from hm)
  | succ n ih =>
    intro v1 md_past out hm  H locs ls hw hl K0
    rw [lp_X6_keeps_50] at hm
    refine lv_iload_n hx hb dX6_keeps_50 rfl (lv_at hl 1 rfl) ?_
    refine lv_bipush (v := 6) hx hb dX6_keeps_51 (by decide) ?_
    refine lv_icmp_ge (tgt := 82) hx hb dX6_keeps_53 (by decide) (fun c2 => ?_) (fun c2 => ?_)
    · replace hm := ipos hm c2
      obtain rfl := Option.some.inj hm
      exact K0  _ _ ls hw (lv_sub hl [0] rfl)
    · replace hm := ineg hm c2
      refine lv_aload_n hx hb dX6_keeps_56 rfl (lv_at hl 0 rfl) ?_
      refine f_get S hK hw.1 in_X6_keeps_X6 0 rfl rfl 5 (by decide) (List.mem_of_getElem? (i := 2) rfl) rfl rfl dX6_keeps_57 ?_
      refine lv_bipush (v := 6) hx hb dX6_keeps_60 (by decide) ?_
      refine lv_aload_n hx hb dX6_keeps_62 rfl (lv_at hl 0 rfl) ?_
      refine f_get S hK hw.1 in_X6_keeps_X6 0 rfl rfl 6 (by decide) (List.mem_of_getElem? (i := 1) rfl) rfl rfl dX6_keeps_63 ?_
      refine lv_imul hx hb dX6_keeps_66 ?_
      refine lv_iload_n hx hb dX6_keeps_67 rfl (lv_at hl 1 rfl) ?_
      refine lv_iadd hx hb dX6_keeps_68 ?_
      refine lv_aload_n hx hb dX6_keeps_69 rfl (lv_at hl 0 rfl) ?_
      refine f_get S hK hw.1 in_X6_keeps_X6 0 rfl rfl 4 (by decide) (List.mem_of_getElem? (i := 3) rfl) rfl rfl dX6_keeps_70 ?_
      refine lv_iload_n hx hb dX6_keeps_73 rfl (lv_at hl 1 rfl) ?_
      obtain ⟨g3, hm⟩ := gdo hm
      refine f_iald S hK hw.1 4 1 rfl rfl g3 dX6_keeps_74 ?_
      obtain ⟨g4, hm⟩ := gdo hm
      refine f_iast S hK hw 5 1 rfl rfl g4 (ws1 := (wd_28 cC cI cJ a_md a_md_text md_typed a_md_told a_md_draft a_md_s a_md_past md_known a_md_images md_kept a_md_seen md_sights md_at a_md_asks a_md_brings a_md_uses a_md_days a_md_tries a_md_row md_many a_md_first md_length md_set a_md_held a_md_text md_text a_md_told md_told a_md_draft md_draft a_md_s md_s a_md_past (upd md_past ((((6 : Int32) * md_known) + v1)).toNatClampNeg (md_s (v1).toNatClampNeg)) a_md_images md_images a_md_seen md_seen a_md_asks md_asks a_md_brings md_brings a_md_uses md_uses a_md_days md_days a_md_tries md_tries a_md_row md_row a_md_first md_first a_md_held md_held)) rfl dX6_keeps_75 (fun H locs hw => ?_)
      refine lv_iinc (v := (v1 + 1)) (lv' := [(1, .int (v1 + 1)), (0, .ref a_md)]) hx hb dX6_keeps_76 hl (k := 1) rfl (by rw [ofi_1]) (by decide) rfl (fun ls hl => ?_)
      refine lv_goto (tgt := 50) hx hb dX6_keeps_79 (by decide) ?_
      exact ih (v1 + 1) (upd md_past ((((6 : Int32) * md_known) + v1)).toNatClampNeg (md_s (v1).toNatClampNeg)) _ hm  _ _ ls hw (lv_sub hl [1, 0] rfl) K0
set_option maxHeartbeats 4000000 in
set_option maxRecDepth 100000 in
theorem t_X6_keeps_11 {p : Program} {e : Env} {s : State} {m : MethodId} {args : Array Value} {below : List Frame} {meth : Method} {c : Code} {Q : State → Prop} (l : Launch) {D : va_G} {cC cI cJ : ClassId} {A : Nat → Prop} {H0 : Heap} (S : CallFix p m c cX6_keeps 2 s args wsX6_keeps RX6) (hK : KK D (tyK cC cI cJ) s) (a_md : Nat) (a_md_text : Nat) (a_md_told : Nat) (a_md_draft : Nat) (a_md_s : Nat) (a_md_past : Nat) (a_md_images : Nat) (a_md_seen : Nat) (a_md_asks : Nat) (a_md_brings : Nat) (a_md_uses : Nat) (a_md_days : Nat) (a_md_tries : Nat) (a_md_row : Nat) (a_md_first : Nat) (a_md_held : Nat) (md_typed : Int32) (md_known : Int32) (md_kept : Int32) (md_sights : Int32) (md_at : Int32) (md_many : Int32) (md_length : Int32) (md_set : Int32) (md_text : (Nat → Int32)) (md_told : (Nat → Int32)) (md_draft : (Nat → Int32)) (md_s : (Nat → Int32)) (md_images : (Nat → Int32)) (md_seen : (Nat → Int32)) (md_asks : (Nat → Int32)) (md_brings : (Nat → Int32)) (md_uses : (Nat → Int32)) (md_days : (Nat → Int32)) (md_tries : (Nat → Int32)) (md_row : (Nat → Int32)) (md_first : (Nat → Int32)) (md_held : (Nat → Int32)) : ∀ (n : Nat) (v1 : Int32) (md_past : (Nat → Int32)) (out : (Nat → Int32)), lp_X6_keeps_11  n v1 md_past = some out → ∀ (H : Heap) (locs : List Loc) (ls : Array Slot), Wd D A H0 (wd_28 cC cI cJ a_md a_md_text md_typed a_md_told a_md_draft a_md_s a_md_past md_known a_md_images md_kept a_md_seen md_sights md_at a_md_asks a_md_brings a_md_uses a_md_days a_md_tries a_md_row md_many a_md_first md_length md_set a_md_held a_md_text md_text a_md_told md_told a_md_draft md_draft a_md_s md_s a_md_past md_past a_md_images md_images a_md_seen md_seen a_md_asks md_asks a_md_brings md_brings a_md_uses md_uses a_md_days md_days a_md_tries md_tries a_md_row md_row a_md_first md_first a_md_held md_held) H locs → lv_has ls 2 [(0, .ref a_md), (1, .int v1)] → (∀ (H : Heap) (locs : List Loc) (ls : Array Slot), Wd D A H0 (wd_28 cC cI cJ a_md a_md_text md_typed a_md_told a_md_draft a_md_s a_md_past md_known a_md_images md_kept a_md_seen md_sights md_at a_md_asks a_md_brings a_md_uses a_md_days a_md_tries a_md_row md_many a_md_first md_length md_set a_md_held a_md_text md_text a_md_told md_told a_md_draft md_draft a_md_s md_s a_md_past out a_md_images md_images a_md_seen md_seen a_md_asks md_asks a_md_brings md_brings a_md_uses md_uses a_md_days md_days a_md_tries md_tries a_md_row md_row a_md_first md_first a_md_held md_held) H locs → lv_has ls 2 [(0, .ref a_md)] → W p l e rX6_keeps s m args below meth c H locs 0 0 Q (F0 m 38 ls [])) → W p l e rX6_keeps s m args below meth c H locs 0 0 Q (F0 m 11 ls []) := by
  have hx := S.1
  have hb := S.2.1
  intro n
  induction n with
  | zero => intro v1 md_past out hm; cases (show (none : Option (Nat → Int32)) = some out from hm)
  | succ n ih =>
    intro v1 md_past out hm  H locs ls hw hl K0
    rw [lp_X6_keeps_11] at hm
    refine lv_iload_n hx hb dX6_keeps_11 rfl (lv_at hl 1 rfl) ?_
    refine lv_bipush (v := 42) hx hb dX6_keeps_12 (by decide) ?_
    refine lv_icmp_ge (tgt := 38) hx hb dX6_keeps_14 (by decide) (fun c7 => ?_) (fun c7 => ?_)
    · replace hm := ipos hm c7
      obtain rfl := Option.some.inj hm
      exact K0  _ _ ls hw (lv_sub hl [0] rfl)
    · replace hm := ineg hm c7
      refine lv_aload_n hx hb dX6_keeps_17 rfl (lv_at hl 0 rfl) ?_
      refine f_get S hK hw.1 in_X6_keeps_X6 0 rfl rfl 5 (by decide) (List.mem_of_getElem? (i := 2) rfl) rfl rfl dX6_keeps_18 ?_
      refine lv_iload_n hx hb dX6_keeps_21 rfl (lv_at hl 1 rfl) ?_
      refine lv_aload_n hx hb dX6_keeps_22 rfl (lv_at hl 0 rfl) ?_
      refine f_get S hK hw.1 in_X6_keeps_X6 0 rfl rfl 5 (by decide) (List.mem_of_getElem? (i := 2) rfl) rfl rfl dX6_keeps_23 ?_
      refine lv_iload_n hx hb dX6_keeps_26 rfl (lv_at hl 1 rfl) ?_
      refine lv_bipush (v := 6) hx hb dX6_keeps_27 (by decide) ?_
      refine lv_iadd hx hb dX6_keeps_29 ?_
      obtain ⟨g8, hm⟩ := gdo hm
      refine f_iald S hK hw.1 5 1 rfl rfl g8 dX6_keeps_30 ?_
      obtain ⟨y10, e11, hm⟩ := ob hm
      refine f_name e11 ?_
      obtain ⟨g9, hm⟩ := gdo hm
      refine f_iast S hK hw 5 1 rfl rfl g9 (ws1 := (wd_28 cC cI cJ a_md a_md_text md_typed a_md_told a_md_draft a_md_s a_md_past md_known a_md_images md_kept a_md_seen md_sights md_at a_md_asks a_md_brings a_md_uses a_md_days a_md_tries a_md_row md_many a_md_first md_length md_set a_md_held a_md_text md_text a_md_told md_told a_md_draft md_draft a_md_s md_s a_md_past (upd md_past (v1).toNatClampNeg y10) a_md_images md_images a_md_seen md_seen a_md_asks md_asks a_md_brings md_brings a_md_uses md_uses a_md_days md_days a_md_tries md_tries a_md_row md_row a_md_first md_first a_md_held md_held)) rfl dX6_keeps_31 (fun H locs hw => ?_)
      refine lv_iinc (v := (v1 + 1)) (lv' := [(1, .int (v1 + 1)), (0, .ref a_md)]) hx hb dX6_keeps_32 hl (k := 1) rfl (by rw [ofi_1]) (by decide) rfl (fun ls hl => ?_)
      refine lv_goto (tgt := 11) hx hb dX6_keeps_35 (by decide) ?_
      exact ih (v1 + 1) (upd md_past (v1).toNatClampNeg y10) _ hm  _ _ ls hw (lv_sub hl [1, 0] rfl) K0
set_option maxHeartbeats 4000000 in
set_option maxRecDepth 100000 in
theorem c_X6_keeps (l : Launch) (D : va_G) (cC cI cJ : ClassId) (a_md : Nat) (a_md_text : Nat) (a_md_told : Nat) (a_md_draft : Nat) (a_md_s : Nat) (a_md_past : Nat) (a_md_images : Nat) (a_md_seen : Nat) (a_md_asks : Nat) (a_md_brings : Nat) (a_md_uses : Nat) (a_md_days : Nat) (a_md_tries : Nat) (a_md_row : Nat) (a_md_first : Nat) (a_md_held : Nat) (md_typed : Int32) (md_known : Int32) (md_kept : Int32) (md_sights : Int32) (md_at : Int32) (md_many : Int32) (md_length : Int32) (md_set : Int32) (md_text : (Nat → Int32)) (md_told : (Nat → Int32)) (md_draft : (Nat → Int32)) (md_s : (Nat → Int32)) (md_past : (Nat → Int32)) (md_images : (Nat → Int32)) (md_seen : (Nat → Int32)) (md_asks : (Nat → Int32)) (md_brings : (Nat → Int32)) (md_uses : (Nat → Int32)) (md_days : (Nat → Int32)) (md_tries : (Nat → Int32)) (md_row : (Nat → Int32)) (md_first : (Nat → Int32)) (md_held : (Nat → Int32)) (N : Nat) (A : Nat → Prop) (hD : va_D A (wd_28 cC cI cJ a_md a_md_text md_typed a_md_told a_md_draft a_md_s a_md_past md_known a_md_images md_kept a_md_seen md_sights md_at a_md_asks a_md_brings a_md_uses a_md_days a_md_tries a_md_row md_many a_md_first md_length md_set a_md_held a_md_text md_text a_md_told md_told a_md_draft md_draft a_md_s md_s a_md_past md_past a_md_images md_images a_md_seen md_seen a_md_asks md_asks a_md_brings md_brings a_md_uses md_uses a_md_days md_days a_md_tries md_tries a_md_row md_row a_md_first md_first a_md_held md_held)) (out : (Int32 × (Nat → Int32))) (hm : m_X6_keeps N md_known md_s md_past = some out) : WrV l yX6_keeps wsX6_keeps rX6_keeps D (tyK cC cI cJ) [.ref a_md] A (wd_28 cC cI cJ a_md a_md_text md_typed a_md_told a_md_draft a_md_s a_md_past md_known a_md_images md_kept a_md_seen md_sights md_at a_md_asks a_md_brings a_md_uses a_md_days a_md_tries a_md_row md_many a_md_first md_length md_set a_md_held a_md_text md_text a_md_told md_told a_md_draft md_draft a_md_s md_s a_md_past md_past a_md_images md_images a_md_seen md_seen a_md_asks md_asks a_md_brings md_brings a_md_uses md_uses a_md_days md_days a_md_tries md_tries a_md_row md_row a_md_first md_first a_md_held md_held) (Bw0 D (wd_28 cC cI cJ a_md a_md_text md_typed a_md_told a_md_draft a_md_s a_md_past out.1 a_md_images md_kept a_md_seen md_sights md_at a_md_asks a_md_brings a_md_uses a_md_days a_md_tries a_md_row md_many a_md_first md_length md_set a_md_held a_md_text md_text a_md_told md_told a_md_draft md_draft a_md_s md_s a_md_past out.2 a_md_images md_images a_md_seen md_seen a_md_asks md_asks a_md_brings md_brings a_md_uses md_uses a_md_days md_days a_md_tries md_tries a_md_row md_row a_md_first md_first a_md_held md_held)) := by
  unfold m_X6_keeps at hm
  refine enter (cc := cX6_keeps) (maxL := 2) (ret := none) (lv := [(0, .ref a_md)]) (by decide) rfl (Nat.le_of_ble_eq_true rfl) rfl ?_
  intro p e s m args below meth c S hr hlk hK hP ls hl
  replace S : CallFix p m c cX6_keeps 2 s args wsX6_keeps RX6 := S
  have hx := S.1
  have hb := S.2.1
  have hw : Wd D A s.heap (wd_28 cC cI cJ a_md a_md_text md_typed a_md_told a_md_draft a_md_s a_md_past md_known a_md_images md_kept a_md_seen md_sights md_at a_md_asks a_md_brings a_md_uses a_md_days a_md_tries a_md_row md_many a_md_first md_length md_set a_md_held a_md_text md_text a_md_told md_told a_md_draft md_draft a_md_s md_s a_md_past md_past a_md_images md_images a_md_seen md_seen a_md_asks md_asks a_md_brings md_brings a_md_uses md_uses a_md_days md_days a_md_tries md_tries a_md_row md_row a_md_first md_first a_md_held md_held) s.heap [] := ⟨hP, hD, va_S.rf⟩
  have hw0 := hw
  refine lv_aload_n hx hb dX6_keeps_0 rfl (lv_at hl 0 rfl) ?_
  refine f_get S hK hw.1 in_X6_keeps_X6 0 rfl rfl 6 (by decide) (List.mem_of_getElem? (i := 1) rfl) rfl rfl dX6_keeps_1 ?_
  refine lv_bipush (v := 8) hx hb dX6_keeps_4 (by decide) ?_
  refine lv_icmp_ne (tgt := 48) hx hb dX6_keeps_6 (by decide) (fun c1 => ?_) (fun c1 => ?_)
  · replace hm := ineg hm c1
    refine lv_iconst (v := 0) hx hb dX6_keeps_48 (by decide) ?_
    refine lv_istore_n (lv' := [(1, .int (0 : Int32)), (0, .ref a_md)]) hx hb dX6_keeps_49 rfl hl (by decide) rfl (fun ls hl => ?_)
    obtain ⟨r5, h6, hm⟩ := ob hm
    refine t_X6_keeps_50 l S hK a_md a_md_text a_md_told a_md_draft a_md_s a_md_past a_md_images a_md_seen a_md_asks a_md_brings a_md_uses a_md_days a_md_tries a_md_row a_md_first a_md_held md_typed md_known md_kept md_sights md_at md_many md_length md_set md_text md_told md_draft md_s md_images md_seen md_asks md_brings md_uses md_days md_tries md_row md_first md_held N (0 : Int32) md_past r5 h6  _ _ ls hw (lv_sub hl [1, 0] rfl) (fun H locs ls hw hl => ?_)
    refine lv_aload_n hx hb dX6_keeps_82 rfl (lv_at hl 0 rfl) ?_
    refine lv_dup hx hb dX6_keeps_83 rfl ?_
    refine f_get S hK hw.1 in_X6_keeps_X6 0 rfl rfl 6 (by decide) (List.mem_of_getElem? (i := 1) rfl) rfl rfl dX6_keeps_84 ?_
    refine lv_iconst (v := 1) hx hb dX6_keeps_87 (by decide) ?_
    refine lv_iadd hx hb dX6_keeps_88 ?_
    refine f_put S hK hw in_X6_keeps_X6 tyX6_ok nmX6 0 rfl rfl 6 (by decide) (List.mem_of_getElem? (i := 1) rfl) rfl rfl rfl rfl (Nat.le_of_ble_eq_true rfl) (ws1 := (wd_28 cC cI cJ a_md a_md_text md_typed a_md_told a_md_draft a_md_s a_md_past (md_known + (1 : Int32)) a_md_images md_kept a_md_seen md_sights md_at a_md_asks a_md_brings a_md_uses a_md_days a_md_tries a_md_row md_many a_md_first md_length md_set a_md_held a_md_text md_text a_md_told md_told a_md_draft md_draft a_md_s md_s a_md_past r5 a_md_images md_images a_md_seen md_seen a_md_asks md_asks a_md_brings md_brings a_md_uses md_uses a_md_days md_days a_md_tries md_tries a_md_row md_row a_md_first md_first a_md_held md_held)) rfl dX6_keeps_89 (fun H locs hw => ?_)
    obtain rfl := Option.some.inj hm
    exact e_WV S hr hlk hw hw.1 dX6_keeps_92
  · replace hm := ipos hm c1
    refine lv_iconst (v := 0) hx hb dX6_keeps_9 (by decide) ?_
    refine lv_istore_n (lv' := [(1, .int (0 : Int32)), (0, .ref a_md)]) hx hb dX6_keeps_10 rfl hl (by decide) rfl (fun ls hl => ?_)
    obtain ⟨r12, h13, hm⟩ := ob hm
    refine t_X6_keeps_11 l S hK a_md a_md_text a_md_told a_md_draft a_md_s a_md_past a_md_images a_md_seen a_md_asks a_md_brings a_md_uses a_md_days a_md_tries a_md_row a_md_first a_md_held md_typed md_known md_kept md_sights md_at md_many md_length md_set md_text md_told md_draft md_s md_images md_seen md_asks md_brings md_uses md_days md_tries md_row md_first md_held N (0 : Int32) md_past r12 h13  _ _ ls hw (lv_sub hl [1, 0] rfl) (fun H locs ls hw hl => ?_)
    refine lv_aload_n hx hb dX6_keeps_38 rfl (lv_at hl 0 rfl) ?_
    refine lv_dup hx hb dX6_keeps_39 rfl ?_
    refine f_get S hK hw.1 in_X6_keeps_X6 0 rfl rfl 6 (by decide) (List.mem_of_getElem? (i := 1) rfl) rfl rfl dX6_keeps_40 ?_
    refine lv_iconst (v := 1) hx hb dX6_keeps_43 (by decide) ?_
    refine lv_isub hx hb dX6_keeps_44 ?_
    refine f_put S hK hw in_X6_keeps_X6 tyX6_ok nmX6 0 rfl rfl 6 (by decide) (List.mem_of_getElem? (i := 1) rfl) rfl rfl rfl rfl (Nat.le_of_ble_eq_true rfl) (ws1 := (wd_28 cC cI cJ a_md a_md_text md_typed a_md_told a_md_draft a_md_s a_md_past (md_known - (1 : Int32)) a_md_images md_kept a_md_seen md_sights md_at a_md_asks a_md_brings a_md_uses a_md_days a_md_tries a_md_row md_many a_md_first md_length md_set a_md_held a_md_text md_text a_md_told md_told a_md_draft md_draft a_md_s md_s a_md_past r12 a_md_images md_images a_md_seen md_seen a_md_asks md_asks a_md_brings md_brings a_md_uses md_uses a_md_days md_days a_md_tries md_tries a_md_row md_row a_md_first md_first a_md_held md_held)) rfl dX6_keeps_45 (fun H locs hw => ?_)
    refine lv_iconst (v := 0) hx hb dX6_keeps_48 (by decide) ?_
    refine lv_istore_n (lv' := [(1, .int (0 : Int32)), (0, .ref a_md)]) hx hb dX6_keeps_49 rfl hl (by decide) rfl (fun ls hl => ?_)
    obtain ⟨r14, h15, hm⟩ := ob hm
    refine t_X6_keeps_50 l S hK a_md a_md_text a_md_told a_md_draft a_md_s a_md_past a_md_images a_md_seen a_md_asks a_md_brings a_md_uses a_md_days a_md_tries a_md_row a_md_first a_md_held md_typed (md_known - (1 : Int32)) md_kept md_sights md_at md_many md_length md_set md_text md_told md_draft md_s md_images md_seen md_asks md_brings md_uses md_days md_tries md_row md_first md_held N (0 : Int32) r12 r14 h15  _ _ ls hw (lv_sub hl [1, 0] rfl) (fun H locs ls hw hl => ?_)
    refine lv_aload_n hx hb dX6_keeps_82 rfl (lv_at hl 0 rfl) ?_
    refine lv_dup hx hb dX6_keeps_83 rfl ?_
    refine f_get S hK hw.1 in_X6_keeps_X6 0 rfl rfl 6 (by decide) (List.mem_of_getElem? (i := 1) rfl) rfl rfl dX6_keeps_84 ?_
    refine lv_iconst (v := 1) hx hb dX6_keeps_87 (by decide) ?_
    refine lv_iadd hx hb dX6_keeps_88 ?_
    obtain ⟨y16, e17, hm⟩ := ob hm
    refine f_name e17 ?_
    refine f_put S hK hw in_X6_keeps_X6 tyX6_ok nmX6 0 rfl rfl 6 (by decide) (List.mem_of_getElem? (i := 1) rfl) rfl rfl rfl rfl (Nat.le_of_ble_eq_true rfl) (ws1 := (wd_28 cC cI cJ a_md a_md_text md_typed a_md_told a_md_draft a_md_s a_md_past y16 a_md_images md_kept a_md_seen md_sights md_at a_md_asks a_md_brings a_md_uses a_md_days a_md_tries a_md_row md_many a_md_first md_length md_set a_md_held a_md_text md_text a_md_told md_told a_md_draft md_draft a_md_s md_s a_md_past r14 a_md_images md_images a_md_seen md_seen a_md_asks md_asks a_md_brings md_brings a_md_uses md_uses a_md_days md_days a_md_tries md_tries a_md_row md_row a_md_first md_first a_md_held md_held)) rfl dX6_keeps_89 (fun H locs hw => ?_)
    obtain rfl := Option.some.inj hm
    exact e_WV S hr hlk hw hw.1 dX6_keeps_92

abbrev rX6_befriends : Room := { frames := 0, cells := 0, slots := 0, locals := 0 }
theorem cal_X6_befriends : Cal yX6_befriends wsX6_befriends cX6_befriends 2 none RX6 1 := ⟨⟨_, rfl⟩, rfl, by decide +kernel, by decide +kernel, by decide +kernel⟩
theorem in_X6_befriends_X6 : ∀ w ∈ wsX60, w ∈ wsX6_befriends := fun _ h => (List.mem_cons_of_mem _ (List.mem_append_right _ h))
set_option maxHeartbeats 4000000 in
set_option maxRecDepth 100000 in
theorem c_X6_befriends (l : Launch) (D : va_G) (cC cI cJ : ClassId) (a_md : Nat) (a_md_text : Nat) (a_md_told : Nat) (a_md_draft : Nat) (a_md_s : Nat) (a_md_past : Nat) (a_md_images : Nat) (a_md_seen : Nat) (a_md_asks : Nat) (a_md_brings : Nat) (a_md_uses : Nat) (a_md_days : Nat) (a_md_tries : Nat) (a_md_row : Nat) (a_md_first : Nat) (a_md_held : Nat) (md_typed : Int32) (md_known : Int32) (md_kept : Int32) (md_sights : Int32) (md_at : Int32) (md_many : Int32) (md_length : Int32) (md_set : Int32) (md_text : (Nat → Int32)) (md_told : (Nat → Int32)) (md_draft : (Nat → Int32)) (md_s : (Nat → Int32)) (md_past : (Nat → Int32)) (md_images : (Nat → Int32)) (md_seen : (Nat → Int32)) (md_asks : (Nat → Int32)) (md_brings : (Nat → Int32)) (md_uses : (Nat → Int32)) (md_days : (Nat → Int32)) (md_tries : (Nat → Int32)) (md_row : (Nat → Int32)) (md_first : (Nat → Int32)) (md_held : (Nat → Int32)) (p0 : Int32) (A : Nat → Prop) (hD : va_D A (wd_28 cC cI cJ a_md a_md_text md_typed a_md_told a_md_draft a_md_s a_md_past md_known a_md_images md_kept a_md_seen md_sights md_at a_md_asks a_md_brings a_md_uses a_md_days a_md_tries a_md_row md_many a_md_first md_length md_set a_md_held a_md_text md_text a_md_told md_told a_md_draft md_draft a_md_s md_s a_md_past md_past a_md_images md_images a_md_seen md_seen a_md_asks md_asks a_md_brings md_brings a_md_uses md_uses a_md_days md_days a_md_tries md_tries a_md_row md_row a_md_first md_first a_md_held md_held)) (out : (Nat → Int32)) (hm : m_X6_befriends md_told md_s p0 = some out) : WrV l yX6_befriends wsX6_befriends rX6_befriends D (tyK cC cI cJ) [.ref a_md, .int p0] A (wd_28 cC cI cJ a_md a_md_text md_typed a_md_told a_md_draft a_md_s a_md_past md_known a_md_images md_kept a_md_seen md_sights md_at a_md_asks a_md_brings a_md_uses a_md_days a_md_tries a_md_row md_many a_md_first md_length md_set a_md_held a_md_text md_text a_md_told md_told a_md_draft md_draft a_md_s md_s a_md_past md_past a_md_images md_images a_md_seen md_seen a_md_asks md_asks a_md_brings md_brings a_md_uses md_uses a_md_days md_days a_md_tries md_tries a_md_row md_row a_md_first md_first a_md_held md_held) (Bw0 D (wd_28 cC cI cJ a_md a_md_text md_typed a_md_told a_md_draft a_md_s a_md_past md_known a_md_images md_kept a_md_seen md_sights md_at a_md_asks a_md_brings a_md_uses a_md_days a_md_tries a_md_row md_many a_md_first md_length md_set a_md_held a_md_text md_text a_md_told md_told a_md_draft md_draft a_md_s out a_md_past md_past a_md_images md_images a_md_seen md_seen a_md_asks md_asks a_md_brings md_brings a_md_uses md_uses a_md_days md_days a_md_tries md_tries a_md_row md_row a_md_first md_first a_md_held md_held)) := by
  unfold m_X6_befriends at hm
  refine enter (cc := cX6_befriends) (maxL := 2) (ret := none) (lv := [(0, .ref a_md), (1, .int p0)]) (by decide) rfl (Nat.le_of_ble_eq_true rfl) rfl ?_
  intro p e s m args below meth c S hr hlk hK hP ls hl
  replace S : CallFix p m c cX6_befriends 2 s args wsX6_befriends RX6 := S
  have hx := S.1
  have hb := S.2.1
  have hw : Wd D A s.heap (wd_28 cC cI cJ a_md a_md_text md_typed a_md_told a_md_draft a_md_s a_md_past md_known a_md_images md_kept a_md_seen md_sights md_at a_md_asks a_md_brings a_md_uses a_md_days a_md_tries a_md_row md_many a_md_first md_length md_set a_md_held a_md_text md_text a_md_told md_told a_md_draft md_draft a_md_s md_s a_md_past md_past a_md_images md_images a_md_seen md_seen a_md_asks md_asks a_md_brings md_brings a_md_uses md_uses a_md_days md_days a_md_tries md_tries a_md_row md_row a_md_first md_first a_md_held md_held) s.heap [] := ⟨hP, hD, va_S.rf⟩
  have hw0 := hw
  refine lv_aload_n hx hb dX6_befriends_0 rfl (lv_at hl 0 rfl) ?_
  refine f_get S hK hw.1 in_X6_befriends_X6 0 rfl rfl 4 (by decide) (List.mem_of_getElem? (i := 1) rfl) rfl rfl dX6_befriends_1 ?_
  refine lv_iconst (v := 2) hx hb dX6_befriends_4 (by decide) ?_
  refine lv_dup2_11 hx hb dX6_befriends_5 rfl rfl ?_
  refine f_ialdK S hK hw.1 4 1 rfl rfl 2 (by decide) (by decide) (v := (md_s 2)) rfl dX6_befriends_6 ?_
  refine lv_iconst (v := 1) hx hb dX6_befriends_7 (by decide) ?_
  refine lv_iload_n hx hb dX6_befriends_8 rfl (lv_at hl 1 rfl) ?_
  refine lv_ishl hx hb dX6_befriends_9 ?_
  refine lv_ior hx hb dX6_befriends_10 ?_
  obtain ⟨y3, e4, hm⟩ := ob hm
  refine f_name e4 ?_
  refine f_iastK S hK hw 4 1 rfl rfl 2 (by decide) (by decide) (ws1 := (wd_28 cC cI cJ a_md a_md_text md_typed a_md_told a_md_draft a_md_s a_md_past md_known a_md_images md_kept a_md_seen md_sights md_at a_md_asks a_md_brings a_md_uses a_md_days a_md_tries a_md_row md_many a_md_first md_length md_set a_md_held a_md_text md_text a_md_told md_told a_md_draft md_draft a_md_s (upd md_s 2 y3) a_md_past md_past a_md_images md_images a_md_seen md_seen a_md_asks md_asks a_md_brings md_brings a_md_uses md_uses a_md_days md_days a_md_tries md_tries a_md_row md_row a_md_first md_first a_md_held md_held)) rfl dX6_befriends_11 (fun H locs hw => ?_)
  refine lv_aload_n hx hb dX6_befriends_12 rfl (lv_at hl 0 rfl) ?_
  refine f_get S hK hw.1 in_X6_befriends_X6 0 rfl rfl 4 (by decide) (List.mem_of_getElem? (i := 1) rfl) rfl rfl dX6_befriends_13 ?_
  refine lv_iconst (v := 4) hx hb dX6_befriends_16 (by decide) ?_
  refine lv_dup2_11 hx hb dX6_befriends_17 rfl rfl ?_
  refine f_ialdK S hK hw.1 4 1 rfl rfl 4 (by decide) (by decide) (v := (md_s 4)) rfl dX6_befriends_18 ?_
  refine lv_aload_n hx hb dX6_befriends_19 rfl (lv_at hl 0 rfl) ?_
  refine f_get S hK hw.1 in_X6_befriends_X6 0 rfl rfl 2 (by decide) (List.mem_of_getElem? (i := 2) rfl) rfl rfl dX6_befriends_20 ?_
  refine lv_bipush (v := 44) hx hb dX6_befriends_23 (by decide) ?_
  refine lv_iload_n hx hb dX6_befriends_25 rfl (lv_at hl 1 rfl) ?_
  refine lv_iadd hx hb dX6_befriends_26 ?_
  obtain ⟨g6, hm⟩ := gdo hm
  refine f_iald S hK hw.1 2 1 rfl rfl g6 dX6_befriends_27 ?_
  refine lv_isub hx hb dX6_befriends_28 ?_
  obtain ⟨y8, e9, hm⟩ := ob hm
  refine f_name e9 ?_
  refine f_iastK S hK hw 4 1 rfl rfl 4 (by decide) (by decide) (ws1 := (wd_28 cC cI cJ a_md a_md_text md_typed a_md_told a_md_draft a_md_s a_md_past md_known a_md_images md_kept a_md_seen md_sights md_at a_md_asks a_md_brings a_md_uses a_md_days a_md_tries a_md_row md_many a_md_first md_length md_set a_md_held a_md_text md_text a_md_told md_told a_md_draft md_draft a_md_s (upd (upd md_s 2 y3) 4 y8) a_md_past md_past a_md_images md_images a_md_seen md_seen a_md_asks md_asks a_md_brings md_brings a_md_uses md_uses a_md_days md_days a_md_tries md_tries a_md_row md_row a_md_first md_first a_md_held md_held)) rfl dX6_befriends_29 (fun H locs hw => ?_)
  obtain rfl := Option.some.inj hm
  exact e_WV S hr hlk hw hw.1 dX6_befriends_30

abbrev rX6_befriend : Room := { frames := 2, cells := 0, slots := 0, locals := 43 }
theorem cal_X6_befriend : Cal yX6_befriend wsX6_befriend cX6_befriend 2 (some .int) RX6 1 := ⟨⟨_, rfl⟩, rfl, by decide +kernel, by decide +kernel, by decide +kernel⟩
theorem in_X6_befriend_X6 : ∀ w ∈ wsX60, w ∈ wsX6_befriend := fun _ h => (List.mem_cons_of_mem _ (List.mem_append_right _ h))
set_option maxHeartbeats 4000000 in
set_option maxRecDepth 100000 in
theorem c_X6_befriend (l : Launch) (D : va_G) (cC cI cJ : ClassId) (a_md : Nat) (a_md_text : Nat) (a_md_told : Nat) (a_md_draft : Nat) (a_md_s : Nat) (a_md_past : Nat) (a_md_images : Nat) (a_md_seen : Nat) (a_md_asks : Nat) (a_md_brings : Nat) (a_md_uses : Nat) (a_md_days : Nat) (a_md_tries : Nat) (a_md_row : Nat) (a_md_first : Nat) (a_md_held : Nat) (md_typed : Int32) (md_known : Int32) (md_kept : Int32) (md_sights : Int32) (md_at : Int32) (md_many : Int32) (md_length : Int32) (md_set : Int32) (md_text : (Nat → Int32)) (md_told : (Nat → Int32)) (md_draft : (Nat → Int32)) (md_s : (Nat → Int32)) (md_past : (Nat → Int32)) (md_images : (Nat → Int32)) (md_seen : (Nat → Int32)) (md_asks : (Nat → Int32)) (md_brings : (Nat → Int32)) (md_uses : (Nat → Int32)) (md_days : (Nat → Int32)) (md_tries : (Nat → Int32)) (md_row : (Nat → Int32)) (md_first : (Nat → Int32)) (md_held : (Nat → Int32)) (p0 : Int32) (N : Nat) (A : Nat → Prop) (hD : va_D A (wd_28 cC cI cJ a_md a_md_text md_typed a_md_told a_md_draft a_md_s a_md_past md_known a_md_images md_kept a_md_seen md_sights md_at a_md_asks a_md_brings a_md_uses a_md_days a_md_tries a_md_row md_many a_md_first md_length md_set a_md_held a_md_text md_text a_md_told md_told a_md_draft md_draft a_md_s md_s a_md_past md_past a_md_images md_images a_md_seen md_seen a_md_asks md_asks a_md_brings md_brings a_md_uses md_uses a_md_days md_days a_md_tries md_tries a_md_row md_row a_md_first md_first a_md_held md_held)) (out : (Int32 × Int32 × (Nat → Int32) × (Nat → Int32))) (hm : m_X6_befriend N md_known md_told md_s md_past p0 = some out) : WrI l yX6_befriend wsX6_befriend rX6_befriend D (tyK cC cI cJ) [.ref a_md, .int p0] A (wd_28 cC cI cJ a_md a_md_text md_typed a_md_told a_md_draft a_md_s a_md_past md_known a_md_images md_kept a_md_seen md_sights md_at a_md_asks a_md_brings a_md_uses a_md_days a_md_tries a_md_row md_many a_md_first md_length md_set a_md_held a_md_text md_text a_md_told md_told a_md_draft md_draft a_md_s md_s a_md_past md_past a_md_images md_images a_md_seen md_seen a_md_asks md_asks a_md_brings md_brings a_md_uses md_uses a_md_days md_days a_md_tries md_tries a_md_row md_row a_md_first md_first a_md_held md_held) (Bw0 D (wd_28 cC cI cJ a_md a_md_text md_typed a_md_told a_md_draft a_md_s a_md_past out.2.1 a_md_images md_kept a_md_seen md_sights md_at a_md_asks a_md_brings a_md_uses a_md_days a_md_tries a_md_row md_many a_md_first md_length md_set a_md_held a_md_text md_text a_md_told md_told a_md_draft md_draft a_md_s out.2.2.1 a_md_past out.2.2.2 a_md_images md_images a_md_seen md_seen a_md_asks md_asks a_md_brings md_brings a_md_uses md_uses a_md_days md_days a_md_tries md_tries a_md_row md_row a_md_first md_first a_md_held md_held)) out.1 := by
  unfold m_X6_befriend at hm
  refine enter (cc := cX6_befriend) (maxL := 2) (ret := (some .int)) (lv := [(0, .ref a_md), (1, .int p0)]) (by decide) rfl (Nat.le_of_ble_eq_true rfl) rfl ?_
  intro p e s m args below meth c S hr hlk hK hP ls hl
  replace S : CallFix p m c cX6_befriend 2 s args wsX6_befriend RX6 := S
  have hx := S.1
  have hb := S.2.1
  have hw : Wd D A s.heap (wd_28 cC cI cJ a_md a_md_text md_typed a_md_told a_md_draft a_md_s a_md_past md_known a_md_images md_kept a_md_seen md_sights md_at a_md_asks a_md_brings a_md_uses a_md_days a_md_tries a_md_row md_many a_md_first md_length md_set a_md_held a_md_text md_text a_md_told md_told a_md_draft md_draft a_md_s md_s a_md_past md_past a_md_images md_images a_md_seen md_seen a_md_asks md_asks a_md_brings md_brings a_md_uses md_uses a_md_days md_days a_md_tries md_tries a_md_row md_row a_md_first md_first a_md_held md_held) s.heap [] := ⟨hP, hD, va_S.rf⟩
  have hw0 := hw
  refine lv_aload_n hx hb dX6_befriend_0 rfl (lv_at hl 0 rfl) ?_
  refine lv_iload_n hx hb dX6_befriend_1 rfl (lv_at hl 1 rfl) ?_
  obtain ⟨r1, h2, hm⟩ := ob hm
  refine k_rVi S hK hw.1 cal_X6_isHelper gX6_befriend_X6_isHelper (c_X6_isHelper l D cC cI cJ a_md a_md_text a_md_told a_md_draft a_md_s a_md_past a_md_images a_md_seen a_md_asks a_md_brings a_md_uses a_md_days a_md_tries a_md_row a_md_first a_md_held md_typed md_known md_kept md_sights md_at md_many md_length md_set md_text md_told md_draft md_s md_past md_images md_seen md_asks md_brings md_uses md_days md_tries md_row md_first md_held p0 r1 h2) ⟨⟨rfl, rfl⟩, Nat.le_of_ble_eq_true rfl, Nat.le_of_ble_eq_true rfl⟩ [0, 1, 2, 3, 4, 5, 6, 7, 8, 9, 10, 11, 12, 13, 14, 15] rfl 0 rfl rfl rfl hl.1 rfl (Nat.le_of_ble_eq_true rfl) dX6_befriend_2 ⟨Nat.zero_le _, Nat.zero_le _⟩ ?_
  refine lv_if_ne (tgt := 10) hx hb dX6_befriend_5 (by decide) (fun c3 => ?_) (fun c3 => ?_)
  · replace hm := ineg hm c3
    refine lv_aload_n hx hb dX6_befriend_10 rfl (lv_at hl 0 rfl) ?_
    refine lv_iload_n hx hb dX6_befriend_11 rfl (lv_at hl 1 rfl) ?_
    obtain ⟨r4, h5, hm⟩ := ob hm
    refine k_rVi S hK hw.1 cal_X6_canBefriend gX6_befriend_X6_canBefriend (c_X6_canBefriend l D cC cI cJ a_md a_md_text a_md_told a_md_draft a_md_s a_md_past a_md_images a_md_seen a_md_asks a_md_brings a_md_uses a_md_days a_md_tries a_md_row a_md_first a_md_held md_typed md_known md_kept md_sights md_at md_many md_length md_set md_text md_told md_draft md_s md_past md_images md_seen md_asks md_brings md_uses md_days md_tries md_row md_first md_held p0 r4 h5) ⟨⟨rfl, rfl⟩, Nat.le_of_ble_eq_true rfl, Nat.le_of_ble_eq_true rfl⟩ [0, 1, 2, 3, 4, 5, 6, 7, 8, 9, 10, 11, 12, 13, 14, 15] rfl 0 rfl rfl rfl hl.1 rfl (Nat.le_of_ble_eq_true rfl) dX6_befriend_12 ⟨Nat.zero_le _, Nat.zero_le _⟩ ?_
    refine lv_if_ne (tgt := 21) hx hb dX6_befriend_15 (by decide) (fun c6 => ?_) (fun c6 => ?_)
    · replace hm := ineg hm c6
      refine lv_aload_n hx hb dX6_befriend_21 rfl (lv_at hl 0 rfl) ?_
      obtain ⟨r7, h8, hm⟩ := ob hm
      refine k_wVv S hK hw cal_X6_keeps gX6_befriend_X6_keeps (c_X6_keeps l D cC cI cJ a_md a_md_text a_md_told a_md_draft a_md_s a_md_past a_md_images a_md_seen a_md_asks a_md_brings a_md_uses a_md_days a_md_tries a_md_row a_md_first a_md_held md_typed md_known md_kept md_sights md_at md_many md_length md_set md_text md_told md_draft md_s md_past md_images md_seen md_asks md_brings md_uses md_days md_tries md_row md_first md_held N (aw _) (hw.own [0, 1, 2, 3, 4, 5, 6, 7, 8, 9, 10, 11, 12, 13, 14, 15] (by decide) rfl) r7 h8) ⟨⟨rfl, rfl⟩, Nat.le_of_ble_eq_true rfl, Nat.le_of_ble_eq_true rfl⟩ [0, 1, 2, 3, 4, 5, 6, 7, 8, 9, 10, 11, 12, 13, 14, 15] rfl 0 rfl rfl rfl hl.1 rfl (Nat.le_of_ble_eq_true rfl) dX6_befriend_22 ⟨Nat.zero_le _, Nat.zero_le _⟩ (fun H locs hJ hB => ?_)
      have hw := hJ _ hB rfl
      replace hw : Wd D A _ (wd_28 cC cI cJ a_md a_md_text md_typed a_md_told a_md_draft a_md_s a_md_past r7.1 a_md_images md_kept a_md_seen md_sights md_at a_md_asks a_md_brings a_md_uses a_md_days a_md_tries a_md_row md_many a_md_first md_length md_set a_md_held a_md_text md_text a_md_told md_told a_md_draft md_draft a_md_s md_s a_md_past r7.2 a_md_images md_images a_md_seen md_seen a_md_asks md_asks a_md_brings md_brings a_md_uses md_uses a_md_days md_days a_md_tries md_tries a_md_row md_row a_md_first md_first a_md_held md_held) H locs := hw
      refine lv_aload_n hx hb dX6_befriend_25 rfl (lv_at hl 0 rfl) ?_
      refine lv_iload_n hx hb dX6_befriend_26 rfl (lv_at hl 1 rfl) ?_
      obtain ⟨r9, h10, hm⟩ := ob hm
      refine k_wVv S hK hw cal_X6_befriends gX6_befriend_X6_befriends (c_X6_befriends l D cC cI cJ a_md a_md_text a_md_told a_md_draft a_md_s a_md_past a_md_images a_md_seen a_md_asks a_md_brings a_md_uses a_md_days a_md_tries a_md_row a_md_first a_md_held md_typed r7.1 md_kept md_sights md_at md_many md_length md_set md_text md_told md_draft md_s r7.2 md_images md_seen md_asks md_brings md_uses md_days md_tries md_row md_first md_held p0 (aw _) (hw.own [0, 1, 2, 3, 4, 5, 6, 7, 8, 9, 10, 11, 12, 13, 14, 15] (by decide) rfl) r9 h10) ⟨⟨rfl, rfl⟩, Nat.le_of_ble_eq_true rfl, Nat.le_of_ble_eq_true rfl⟩ [0, 1, 2, 3, 4, 5, 6, 7, 8, 9, 10, 11, 12, 13, 14, 15] rfl 0 rfl rfl rfl hl.1 rfl (Nat.le_of_ble_eq_true rfl) dX6_befriend_27 ⟨Nat.zero_le _, Nat.zero_le _⟩ (fun H locs hJ hB => ?_)
      have hw := hJ _ hB rfl
      replace hw : Wd D A _ (wd_28 cC cI cJ a_md a_md_text md_typed a_md_told a_md_draft a_md_s a_md_past r7.1 a_md_images md_kept a_md_seen md_sights md_at a_md_asks a_md_brings a_md_uses a_md_days a_md_tries a_md_row md_many a_md_first md_length md_set a_md_held a_md_text md_text a_md_told md_told a_md_draft md_draft a_md_s r9 a_md_past r7.2 a_md_images md_images a_md_seen md_seen a_md_asks md_asks a_md_brings md_brings a_md_uses md_uses a_md_days md_days a_md_tries md_tries a_md_row md_row a_md_first md_first a_md_held md_held) H locs := hw
      refine lv_aload_n hx hb dX6_befriend_30 rfl (lv_at hl 0 rfl) ?_
      refine f_get S hK hw.1 in_X6_befriend_X6 0 rfl rfl 4 (by decide) (List.mem_of_getElem? (i := 1) rfl) rfl rfl dX6_befriend_31 ?_
      refine lv_iconst (v := 4) hx hb dX6_befriend_34 (by decide) ?_
      refine f_ialdK S hK hw.1 4 1 rfl rfl 4 (by decide) (by decide) (v := (r9 4)) rfl dX6_befriend_35 ?_
      obtain rfl := Option.some.inj hm
      exact e_WI S hr hlk hw rfl hw.1 dX6_befriend_36
    · replace hm := ipos hm c6
      refine lv_bipush (v := (-2)) hx hb dX6_befriend_18 (by decide) ?_
      obtain rfl := Option.some.inj hm
      exact e_WI S hr hlk hw rfl hw.1 dX6_befriend_20
  · replace hm := ipos hm c3
    refine lv_iconst (v := (-1)) hx hb dX6_befriend_8 (by decide) ?_
    obtain rfl := Option.some.inj hm
    exact e_WI S hr hlk hw rfl hw.1 dX6_befriend_9

abbrev rX6_begins : Room := { frames := 0, cells := 0, slots := 0, locals := 0 }
theorem cal_X6_begins : Cal yX6_begins wsX6_begins cX6_begins 2 none RX6 0 := ⟨⟨_, rfl⟩, rfl, by decide +kernel, by decide +kernel, by decide +kernel⟩
theorem in_X6_begins_X6 : ∀ w ∈ wsX60, w ∈ wsX6_begins := fun _ h => (List.mem_cons_of_mem _ (List.mem_append_right _ h))
set_option maxHeartbeats 4000000 in
set_option maxRecDepth 100000 in
theorem t_X6_begins_2 {p : Program} {e : Env} {s : State} {m : MethodId} {args : Array Value} {below : List Frame} {meth : Method} {c : Code} {Q : State → Prop} (l : Launch) {D : va_G} {cC cI cJ : ClassId} {A : Nat → Prop} {H0 : Heap} (S : CallFix p m c cX6_begins 2 s args wsX6_begins RX6) (hK : KK D (tyK cC cI cJ) s) (a_md : Nat) (a_md_text : Nat) (a_md_told : Nat) (a_md_draft : Nat) (a_md_s : Nat) (a_md_past : Nat) (a_md_images : Nat) (a_md_seen : Nat) (a_md_asks : Nat) (a_md_brings : Nat) (a_md_uses : Nat) (a_md_days : Nat) (a_md_tries : Nat) (a_md_row : Nat) (a_md_first : Nat) (a_md_held : Nat) (md_typed : Int32) (md_known : Int32) (md_kept : Int32) (md_sights : Int32) (md_at : Int32) (md_many : Int32) (md_length : Int32) (md_set : Int32) (md_text : (Nat → Int32)) (md_told : (Nat → Int32)) (md_s : (Nat → Int32)) (md_past : (Nat → Int32)) (md_images : (Nat → Int32)) (md_seen : (Nat → Int32)) (md_asks : (Nat → Int32)) (md_brings : (Nat → Int32)) (md_uses : (Nat → Int32)) (md_days : (Nat → Int32)) (md_tries : (Nat → Int32)) (md_row : (Nat → Int32)) (md_first : (Nat → Int32)) (md_held : (Nat → Int32)) : ∀ (n : Nat) (v1 : Int32) (md_draft : (Nat → Int32)) (out : (Nat → Int32)), lp_X6_begins_2  n v1 md_draft = some out → ∀ (H : Heap) (locs : List Loc) (ls : Array Slot), Wd D A H0 (wd_28 cC cI cJ a_md a_md_text md_typed a_md_told a_md_draft a_md_s a_md_past md_known a_md_images md_kept a_md_seen md_sights md_at a_md_asks a_md_brings a_md_uses a_md_days a_md_tries a_md_row md_many a_md_first md_length md_set a_md_held a_md_text md_text a_md_told md_told a_md_draft md_draft a_md_s md_s a_md_past md_past a_md_images md_images a_md_seen md_seen a_md_asks md_asks a_md_brings md_brings a_md_uses md_uses a_md_days md_days a_md_tries md_tries a_md_row md_row a_md_first md_first a_md_held md_held) H locs → lv_has ls 2 [(0, .ref a_md), (1, .int v1)] → (∀ (H : Heap) (locs : List Loc) (ls : Array Slot), Wd D A H0 (wd_28 cC cI cJ a_md a_md_text md_typed a_md_told a_md_draft a_md_s a_md_past md_known a_md_images md_kept a_md_seen md_sights md_at a_md_asks a_md_brings a_md_uses a_md_days a_md_tries a_md_row md_many a_md_first md_length md_set a_md_held a_md_text md_text a_md_told md_told a_md_draft out a_md_s md_s a_md_past md_past a_md_images md_images a_md_seen md_seen a_md_asks md_asks a_md_brings md_brings a_md_uses md_uses a_md_days md_days a_md_tries md_tries a_md_row md_row a_md_first md_first a_md_held md_held) H locs → lv_has ls 2 [(0, .ref a_md)] → W p l e rX6_begins s m args below meth c H locs 0 0 Q (F0 m 21 ls [])) → W p l e rX6_begins s m args below meth c H locs 0 0 Q (F0 m 2 ls []) := by
  have hx := S.1
  have hb := S.2.1
  intro n
  induction n with
  | zero => intro v1 md_draft out hm; cases (show (none : Option (Nat → Int32)) = some out from hm)
  | succ n ih =>
    intro v1 md_draft out hm  H locs ls hw hl K0
    rw [lp_X6_begins_2] at hm
    refine lv_iload_n hx hb dX6_begins_2 rfl (lv_at hl 1 rfl) ?_
    refine lv_bipush (v := 51) hx hb dX6_begins_3 (by decide) ?_
    refine lv_icmp_ge (tgt := 21) hx hb dX6_begins_5 (by decide) (fun c1 => ?_) (fun c1 => ?_)
    · replace hm := ipos hm c1
      obtain rfl := Option.some.inj hm
      exact K0  _ _ ls hw (lv_sub hl [0] rfl)
    · replace hm := ineg hm c1
      refine lv_aload_n hx hb dX6_begins_8 rfl (lv_at hl 0 rfl) ?_
      refine f_get S hK hw.1 in_X6_begins_X6 0 rfl rfl 3 (by decide) (List.mem_of_getElem? (i := 1) rfl) rfl rfl dX6_begins_9 ?_
      refine lv_iload_n hx hb dX6_begins_12 rfl (lv_at hl 1 rfl) ?_
      refine lv_iconst (v := 0) hx hb dX6_begins_13 (by decide) ?_
      obtain ⟨g2, hm⟩ := gdo hm
      refine f_iast S hK hw 3 1 rfl rfl g2 (ws1 := (wd_28 cC cI cJ a_md a_md_text md_typed a_md_told a_md_draft a_md_s a_md_past md_known a_md_images md_kept a_md_seen md_sights md_at a_md_asks a_md_brings a_md_uses a_md_days a_md_tries a_md_row md_many a_md_first md_length md_set a_md_held a_md_text md_text a_md_told md_told a_md_draft (upd md_draft (v1).toNatClampNeg (0 : Int32)) a_md_s md_s a_md_past md_past a_md_images md_images a_md_seen md_seen a_md_asks md_asks a_md_brings md_brings a_md_uses md_uses a_md_days md_days a_md_tries md_tries a_md_row md_row a_md_first md_first a_md_held md_held)) rfl dX6_begins_14 (fun H locs hw => ?_)
      refine lv_iinc (v := (v1 + 1)) (lv' := [(1, .int (v1 + 1)), (0, .ref a_md)]) hx hb dX6_begins_15 hl (k := 1) rfl (by rw [ofi_1]) (by decide) rfl (fun ls hl => ?_)
      refine lv_goto (tgt := 2) hx hb dX6_begins_18 (by decide) ?_
      exact ih (v1 + 1) (upd md_draft (v1).toNatClampNeg (0 : Int32)) _ hm  _ _ ls hw (lv_sub hl [1, 0] rfl) K0
set_option maxHeartbeats 4000000 in
set_option maxRecDepth 100000 in
theorem c_X6_begins (l : Launch) (D : va_G) (cC cI cJ : ClassId) (a_md : Nat) (a_md_text : Nat) (a_md_told : Nat) (a_md_draft : Nat) (a_md_s : Nat) (a_md_past : Nat) (a_md_images : Nat) (a_md_seen : Nat) (a_md_asks : Nat) (a_md_brings : Nat) (a_md_uses : Nat) (a_md_days : Nat) (a_md_tries : Nat) (a_md_row : Nat) (a_md_first : Nat) (a_md_held : Nat) (md_typed : Int32) (md_known : Int32) (md_kept : Int32) (md_sights : Int32) (md_at : Int32) (md_many : Int32) (md_length : Int32) (md_set : Int32) (md_text : (Nat → Int32)) (md_told : (Nat → Int32)) (md_draft : (Nat → Int32)) (md_s : (Nat → Int32)) (md_past : (Nat → Int32)) (md_images : (Nat → Int32)) (md_seen : (Nat → Int32)) (md_asks : (Nat → Int32)) (md_brings : (Nat → Int32)) (md_uses : (Nat → Int32)) (md_days : (Nat → Int32)) (md_tries : (Nat → Int32)) (md_row : (Nat → Int32)) (md_first : (Nat → Int32)) (md_held : (Nat → Int32)) (N : Nat) (A : Nat → Prop) (hD : va_D A (wd_28 cC cI cJ a_md a_md_text md_typed a_md_told a_md_draft a_md_s a_md_past md_known a_md_images md_kept a_md_seen md_sights md_at a_md_asks a_md_brings a_md_uses a_md_days a_md_tries a_md_row md_many a_md_first md_length md_set a_md_held a_md_text md_text a_md_told md_told a_md_draft md_draft a_md_s md_s a_md_past md_past a_md_images md_images a_md_seen md_seen a_md_asks md_asks a_md_brings md_brings a_md_uses md_uses a_md_days md_days a_md_tries md_tries a_md_row md_row a_md_first md_first a_md_held md_held)) (out : (Nat → Int32)) (hm : m_X6_begins N md_draft = some out) : WrV l yX6_begins wsX6_begins rX6_begins D (tyK cC cI cJ) [.ref a_md] A (wd_28 cC cI cJ a_md a_md_text md_typed a_md_told a_md_draft a_md_s a_md_past md_known a_md_images md_kept a_md_seen md_sights md_at a_md_asks a_md_brings a_md_uses a_md_days a_md_tries a_md_row md_many a_md_first md_length md_set a_md_held a_md_text md_text a_md_told md_told a_md_draft md_draft a_md_s md_s a_md_past md_past a_md_images md_images a_md_seen md_seen a_md_asks md_asks a_md_brings md_brings a_md_uses md_uses a_md_days md_days a_md_tries md_tries a_md_row md_row a_md_first md_first a_md_held md_held) (Bw0 D (wd_28 cC cI cJ a_md a_md_text md_typed a_md_told a_md_draft a_md_s a_md_past md_known a_md_images md_kept a_md_seen md_sights md_at a_md_asks a_md_brings a_md_uses a_md_days a_md_tries a_md_row md_many a_md_first md_length md_set a_md_held a_md_text md_text a_md_told md_told a_md_draft out a_md_s md_s a_md_past md_past a_md_images md_images a_md_seen md_seen a_md_asks md_asks a_md_brings md_brings a_md_uses md_uses a_md_days md_days a_md_tries md_tries a_md_row md_row a_md_first md_first a_md_held md_held)) := by
  unfold m_X6_begins at hm
  refine enter (cc := cX6_begins) (maxL := 2) (ret := none) (lv := [(0, .ref a_md)]) (by decide) rfl (Nat.le_of_ble_eq_true rfl) rfl ?_
  intro p e s m args below meth c S hr hlk hK hP ls hl
  replace S : CallFix p m c cX6_begins 2 s args wsX6_begins RX6 := S
  have hx := S.1
  have hb := S.2.1
  have hw : Wd D A s.heap (wd_28 cC cI cJ a_md a_md_text md_typed a_md_told a_md_draft a_md_s a_md_past md_known a_md_images md_kept a_md_seen md_sights md_at a_md_asks a_md_brings a_md_uses a_md_days a_md_tries a_md_row md_many a_md_first md_length md_set a_md_held a_md_text md_text a_md_told md_told a_md_draft md_draft a_md_s md_s a_md_past md_past a_md_images md_images a_md_seen md_seen a_md_asks md_asks a_md_brings md_brings a_md_uses md_uses a_md_days md_days a_md_tries md_tries a_md_row md_row a_md_first md_first a_md_held md_held) s.heap [] := ⟨hP, hD, va_S.rf⟩
  have hw0 := hw
  refine lv_iconst (v := 0) hx hb dX6_begins_0 (by decide) ?_
  refine lv_istore_n (lv' := [(1, .int (0 : Int32)), (0, .ref a_md)]) hx hb dX6_begins_1 rfl hl (by decide) rfl (fun ls hl => ?_)
  obtain ⟨r3, h4, hm⟩ := ob hm
  refine t_X6_begins_2 l S hK a_md a_md_text a_md_told a_md_draft a_md_s a_md_past a_md_images a_md_seen a_md_asks a_md_brings a_md_uses a_md_days a_md_tries a_md_row a_md_first a_md_held md_typed md_known md_kept md_sights md_at md_many md_length md_set md_text md_told md_s md_past md_images md_seen md_asks md_brings md_uses md_days md_tries md_row md_first md_held N (0 : Int32) md_draft r3 h4  _ _ ls hw (lv_sub hl [1, 0] rfl) (fun H locs ls hw hl => ?_)
  refine lv_aload_n hx hb dX6_begins_21 rfl (lv_at hl 0 rfl) ?_
  refine f_get S hK hw.1 in_X6_begins_X6 0 rfl rfl 3 (by decide) (List.mem_of_getElem? (i := 1) rfl) rfl rfl dX6_begins_22 ?_
  refine lv_iconst (v := 2) hx hb dX6_begins_25 (by decide) ?_
  refine lv_bipush (v := 20) hx hb dX6_begins_26 (by decide) ?_
  refine f_iastK S hK hw 3 1 rfl rfl 2 (by decide) (by decide) (ws1 := (wd_28 cC cI cJ a_md a_md_text md_typed a_md_told a_md_draft a_md_s a_md_past md_known a_md_images md_kept a_md_seen md_sights md_at a_md_asks a_md_brings a_md_uses a_md_days a_md_tries a_md_row md_many a_md_first md_length md_set a_md_held a_md_text md_text a_md_told md_told a_md_draft (upd r3 2 (20 : Int32)) a_md_s md_s a_md_past md_past a_md_images md_images a_md_seen md_seen a_md_asks md_asks a_md_brings md_brings a_md_uses md_uses a_md_days md_days a_md_tries md_tries a_md_row md_row a_md_first md_first a_md_held md_held)) rfl dX6_begins_28 (fun H locs hw => ?_)
  refine lv_aload_n hx hb dX6_begins_29 rfl (lv_at hl 0 rfl) ?_
  refine f_get S hK hw.1 in_X6_begins_X6 0 rfl rfl 3 (by decide) (List.mem_of_getElem? (i := 1) rfl) rfl rfl dX6_begins_30 ?_
  refine lv_iconst (v := 3) hx hb dX6_begins_33 (by decide) ?_
  refine lv_bipush (v := 30) hx hb dX6_begins_34 (by decide) ?_
  refine f_iastK S hK hw 3 1 rfl rfl 3 (by decide) (by decide) (ws1 := (wd_28 cC cI cJ a_md a_md_text md_typed a_md_told a_md_draft a_md_s a_md_past md_known a_md_images md_kept a_md_seen md_sights md_at a_md_asks a_md_brings a_md_uses a_md_days a_md_tries a_md_row md_many a_md_first md_length md_set a_md_held a_md_text md_text a_md_told md_told a_md_draft (upd (upd r3 2 (20 : Int32)) 3 (30 : Int32)) a_md_s md_s a_md_past md_past a_md_images md_images a_md_seen md_seen a_md_asks md_asks a_md_brings md_brings a_md_uses md_uses a_md_days md_days a_md_tries md_tries a_md_row md_row a_md_first md_first a_md_held md_held)) rfl dX6_begins_36 (fun H locs hw => ?_)
  obtain rfl := Option.some.inj hm
  exact e_WV S hr hlk hw hw.1 dX6_begins_37

abbrev rX6_open : Room := { frames := 0, cells := 0, slots := 0, locals := 0 }
theorem cal_X6_open : Cal yX6_open wsX6_open cX6_open 1 (some .int) RX6 0 := ⟨⟨_, rfl⟩, rfl, by decide +kernel, by decide +kernel, by decide +kernel⟩
theorem in_X6_open_X6 : ∀ w ∈ wsX60, w ∈ wsX6_open := fun _ h => (List.mem_cons_of_mem _ (List.mem_append_right _ h))
set_option maxHeartbeats 4000000 in
set_option maxRecDepth 100000 in
theorem c_X6_open (l : Launch) (D : va_G) (cC cI cJ : ClassId) (a_md : Nat) (a_md_text : Nat) (a_md_told : Nat) (a_md_draft : Nat) (a_md_s : Nat) (a_md_past : Nat) (a_md_images : Nat) (a_md_seen : Nat) (a_md_asks : Nat) (a_md_brings : Nat) (a_md_uses : Nat) (a_md_days : Nat) (a_md_tries : Nat) (a_md_row : Nat) (a_md_first : Nat) (a_md_held : Nat) (md_typed : Int32) (md_known : Int32) (md_kept : Int32) (md_sights : Int32) (md_at : Int32) (md_many : Int32) (md_length : Int32) (md_set : Int32) (md_text : (Nat → Int32)) (md_told : (Nat → Int32)) (md_draft : (Nat → Int32)) (md_s : (Nat → Int32)) (md_past : (Nat → Int32)) (md_images : (Nat → Int32)) (md_seen : (Nat → Int32)) (md_asks : (Nat → Int32)) (md_brings : (Nat → Int32)) (md_uses : (Nat → Int32)) (md_days : (Nat → Int32)) (md_tries : (Nat → Int32)) (md_row : (Nat → Int32)) (md_first : (Nat → Int32)) (md_held : (Nat → Int32)) (out : Int32) (hm : m_X6_open md_s = some out) : RdI l yX6_open wsX6_open rX6_open D (tyK cC cI cJ) [.ref a_md] (wd_28 cC cI cJ a_md a_md_text md_typed a_md_told a_md_draft a_md_s a_md_past md_known a_md_images md_kept a_md_seen md_sights md_at a_md_asks a_md_brings a_md_uses a_md_days a_md_tries a_md_row md_many a_md_first md_length md_set a_md_held a_md_text md_text a_md_told md_told a_md_draft md_draft a_md_s md_s a_md_past md_past a_md_images md_images a_md_seen md_seen a_md_asks md_asks a_md_brings md_brings a_md_uses md_uses a_md_days md_days a_md_tries md_tries a_md_row md_row a_md_first md_first a_md_held md_held) out := by
  unfold m_X6_open at hm
  refine enter (cc := cX6_open) (maxL := 1) (ret := (some .int)) (lv := [(0, .ref a_md)]) (by decide) rfl (Nat.le_of_ble_eq_true rfl) rfl ?_
  intro p e s m args below meth c S hr hlk hK hP ls hl
  replace S : CallFix p m c cX6_open 1 s args wsX6_open RX6 := S
  have hx := S.1
  have hb := S.2.1
  refine lv_aload_n hx hb dX6_open_0 rfl (lv_at hl 0 rfl) ?_
  refine f_get S hK hP in_X6_open_X6 0 rfl rfl 4 (by decide) (List.mem_of_getElem? (i := 1) rfl) rfl rfl dX6_open_1 ?_
  refine lv_iconst (v := 0) hx hb dX6_open_4 (by decide) ?_
  refine f_ialdK S hK hP 4 1 rfl rfl 0 (by decide) (by decide) (v := (md_s 0)) rfl dX6_open_5 ?_
  refine lv_aload_n hx hb dX6_open_6 rfl (lv_at hl 0 rfl) ?_
  refine f_get S hK hP in_X6_open_X6 0 rfl rfl 4 (by decide) (List.mem_of_getElem? (i := 1) rfl) rfl rfl dX6_open_7 ?_
  refine lv_iconst (v := 1) hx hb dX6_open_10 (by decide) ?_
  refine f_ialdK S hK hP 4 1 rfl rfl 1 (by decide) (by decide) (v := (md_s 1)) rfl dX6_open_11 ?_
  refine lv_iconst (v := (-1)) hx hb dX6_open_12 (by decide) ?_
  refine lv_ixor hx hb dX6_open_13 ?_
  refine lv_iand hx hb dX6_open_14 ?_
  exact e_RI S hr hlk (Option.some.inj hm) dX6_open_15

abbrev rX6_comes : Room := { frames := 1, cells := 0, slots := 0, locals := 20 }
theorem cal_X6_comes : Cal yX6_comes wsX6_comes cX6_comes 4 (some .int) RX6 0 := ⟨⟨_, rfl⟩, rfl, by decide +kernel, by decide +kernel, by decide +kernel⟩
theorem in_X6_comes_X6 : ∀ w ∈ wsX60, w ∈ wsX6_comes := fun _ h => (List.mem_cons_of_mem _ (List.mem_append_right _ h))
set_option maxHeartbeats 4000000 in
set_option maxRecDepth 100000 in
theorem t_X6_comes_15 {p : Program} {e : Env} {s : State} {m : MethodId} {args : Array Value} {below : List Frame} {meth : Method} {c : Code} {Q : State → Prop} {H : Heap} {locs : List Loc} (l : Launch) {D : va_G} {cC cI cJ : ClassId} (S : CallFix p m c cX6_comes 4 s args wsX6_comes RX6) (hK : KK D (tyK cC cI cJ) s) (a_md : Nat) (a_md_text : Nat) (a_md_told : Nat) (a_md_draft : Nat) (a_md_s : Nat) (a_md_past : Nat) (a_md_images : Nat) (a_md_seen : Nat) (a_md_asks : Nat) (a_md_brings : Nat) (a_md_uses : Nat) (a_md_days : Nat) (a_md_tries : Nat) (a_md_row : Nat) (a_md_first : Nat) (a_md_held : Nat) (v2 : Int32) (md_typed : Int32) (md_known : Int32) (md_kept : Int32) (md_sights : Int32) (md_at : Int32) (md_many : Int32) (md_length : Int32) (md_set : Int32) (md_text : (Nat → Int32)) (md_told : (Nat → Int32)) (md_draft : (Nat → Int32)) (md_s : (Nat → Int32)) (md_past : (Nat → Int32)) (md_images : (Nat → Int32)) (md_seen : (Nat → Int32)) (md_asks : (Nat → Int32)) (md_brings : (Nat → Int32)) (md_uses : (Nat → Int32)) (md_days : (Nat → Int32)) (md_tries : (Nat → Int32)) (md_row : (Nat → Int32)) (md_first : (Nat → Int32)) (md_held : (Nat → Int32)) (hP : va_P D vwCl (wd_28 cC cI cJ a_md a_md_text md_typed a_md_told a_md_draft a_md_s a_md_past md_known a_md_images md_kept a_md_seen md_sights md_at a_md_asks a_md_brings a_md_uses a_md_days a_md_tries a_md_row md_many a_md_first md_length md_set a_md_held a_md_text md_text a_md_told md_told a_md_draft md_draft a_md_s md_s a_md_past md_past a_md_images md_images a_md_seen md_seen a_md_asks md_asks a_md_brings md_brings a_md_uses md_uses a_md_days md_days a_md_tries md_tries a_md_row md_row a_md_first md_first a_md_held md_held) H) : ∀ (n : Nat) (v1 : Int32) (v3 : Int32) (out : Int32), lp_X6_comes_15 md_told md_s n v1 v3 = some out → ∀ (ls : Array Slot), lv_has ls 4 [(0, .ref a_md), (1, .int v1), (2, .int v2), (3, .int v3)] → (∀ (ls : Array Slot), lv_has ls 4 [(0, .ref a_md), (1, .int out), (2, .int v2)] → W p l e rX6_comes s m args below meth c H locs 0 0 Q (F0 m 67 ls [])) → W p l e rX6_comes s m args below meth c H locs 0 0 Q (F0 m 15 ls []) := by
  have hx := S.1
  have hb := S.2.1
  intro n
  induction n with
  | zero => intro v1 v3 out hm; cases (show (none : Option Int32) = some out from hm)
  | succ n ih =>
    intro v1 v3 out hm  ls hl K0
    rw [lp_X6_comes_15] at hm
    refine lv_iload_n hx hb dX6_comes_15 rfl (lv_at hl 3 rfl) ?_
    refine lv_aload_n hx hb dX6_comes_16 rfl (lv_at hl 0 rfl) ?_
    refine f_get S hK hP in_X6_comes_X6 0 rfl rfl 2 (by decide) (List.mem_of_getElem? (i := 1) rfl) rfl rfl dX6_comes_17 ?_
    refine lv_iconst (v := 0) hx hb dX6_comes_20 (by decide) ?_
    refine f_ialdK S hK hP 2 1 rfl rfl 0 (by decide) (by decide) (v := (md_told 0)) rfl dX6_comes_21 ?_
    refine lv_icmp_ge (tgt := 67) hx hb dX6_comes_22 (by decide) (fun c5 => ?_) (fun c5 => ?_)
    · replace hm := ipos hm c5
      obtain rfl := Option.some.inj hm
      exact K0  ls (lv_sub hl [0, 1, 2] rfl)
    · replace hm := ineg hm c5
      refine lv_iload_n hx hb dX6_comes_25 rfl (lv_at hl 1 rfl) ?_
      refine lv_iload_n hx hb dX6_comes_26 rfl (lv_at hl 1 rfl) ?_
      refine lv_iload_n hx hb dX6_comes_27 rfl (lv_at hl 3 rfl) ?_
      refine lv_ishr hx hb dX6_comes_28 ?_
      refine lv_iconst (v := 1) hx hb dX6_comes_29 (by decide) ?_
      refine lv_iand hx hb dX6_comes_30 ?_
      refine lv_iconst (v := 1) hx hb dX6_comes_31 (by decide) ?_
      refine lv_icmp_ne (tgt := 58) hx hb dX6_comes_32 (by decide) (fun c6 => ?_) (fun c6 => ?_)
      · replace hm := ineg hm c6
        refine lv_iconst (v := 0) hx hb dX6_comes_58 (by decide) ?_
        refine lv_ior hx hb dX6_comes_59 ?_
        refine lv_istore_n (lv' := [(1, .int (v1 ||| (0 : Int32))), (0, .ref a_md), (2, .int v2), (3, .int v3)]) hx hb dX6_comes_60 rfl hl (by decide) rfl (fun ls hl => ?_)
        refine lv_iinc (v := (v3 + 1)) (lv' := [(3, .int (v3 + 1)), (1, .int (v1 ||| (0 : Int32))), (0, .ref a_md), (2, .int v2)]) hx hb dX6_comes_61 hl (k := 3) rfl (by rw [ofi_1]) (by decide) rfl (fun ls hl => ?_)
        refine lv_goto (tgt := 15) hx hb dX6_comes_64 (by decide) ?_
        exact ih (v1 ||| (0 : Int32)) (v3 + 1) _ hm  ls (lv_sub hl [2, 1, 3, 0] rfl) K0
      · replace hm := ipos hm c6
        refine lv_iconst (v := 1) hx hb dX6_comes_35 (by decide) ?_
        refine lv_aload_n hx hb dX6_comes_36 rfl (lv_at hl 0 rfl) ?_
        refine f_get S hK hP in_X6_comes_X6 0 rfl rfl 2 (by decide) (List.mem_of_getElem? (i := 1) rfl) rfl rfl dX6_comes_37 ?_
        refine lv_bipush (v := 29) hx hb dX6_comes_40 (by decide) ?_
        refine lv_iload_n hx hb dX6_comes_42 rfl (lv_at hl 3 rfl) ?_
        refine lv_iadd hx hb dX6_comes_43 ?_
        obtain ⟨g7, hm⟩ := gdo hm
        refine f_iald S hK hP 2 1 rfl rfl g7 dX6_comes_44 ?_
        refine lv_ishl hx hb dX6_comes_45 ?_
        refine lv_aload_n hx hb dX6_comes_46 rfl (lv_at hl 0 rfl) ?_
        refine f_get S hK hP in_X6_comes_X6 0 rfl rfl 4 (by decide) (List.mem_of_getElem? (i := 2) rfl) rfl rfl dX6_comes_47 ?_
        refine lv_iconst (v := 1) hx hb dX6_comes_50 (by decide) ?_
        refine f_ialdK S hK hP 4 1 rfl rfl 1 (by decide) (by decide) (v := (md_s 1)) rfl dX6_comes_51 ?_
        refine lv_iconst (v := (-1)) hx hb dX6_comes_52 (by decide) ?_
        refine lv_ixor hx hb dX6_comes_53 ?_
        refine lv_iand hx hb dX6_comes_54 ?_
        refine lv_goto (tgt := 59) hx hb dX6_comes_55 (by decide) ?_
        refine lv_ior hx hb dX6_comes_59 ?_
        obtain ⟨y9, e10, hm⟩ := ob hm
        refine f_name e10 ?_
        refine lv_istore_n (lv' := [(1, .int y9), (0, .ref a_md), (2, .int v2), (3, .int v3)]) hx hb dX6_comes_60 rfl hl (by decide) rfl (fun ls hl => ?_)
        refine lv_iinc (v := (v3 + 1)) (lv' := [(3, .int (v3 + 1)), (1, .int y9), (0, .ref a_md), (2, .int v2)]) hx hb dX6_comes_61 hl (k := 3) rfl (by rw [ofi_1]) (by decide) rfl (fun ls hl => ?_)
        refine lv_goto (tgt := 15) hx hb dX6_comes_64 (by decide) ?_
        exact ih y9 (v3 + 1) _ hm  ls (lv_sub hl [2, 1, 3, 0] rfl) K0
set_option maxHeartbeats 4000000 in
set_option maxRecDepth 100000 in
theorem t_X6_comes_7 {p : Program} {e : Env} {s : State} {m : MethodId} {args : Array Value} {below : List Frame} {meth : Method} {c : Code} {Q : State → Prop} {H : Heap} {locs : List Loc} (l : Launch) {D : va_G} {cC cI cJ : ClassId} (S : CallFix p m c cX6_comes 4 s args wsX6_comes RX6) (hK : KK D (tyK cC cI cJ) s) (a_md : Nat) (a_md_text : Nat) (a_md_told : Nat) (a_md_draft : Nat) (a_md_s : Nat) (a_md_past : Nat) (a_md_images : Nat) (a_md_seen : Nat) (a_md_asks : Nat) (a_md_brings : Nat) (a_md_uses : Nat) (a_md_days : Nat) (a_md_tries : Nat) (a_md_row : Nat) (a_md_first : Nat) (a_md_held : Nat) (N : Nat) (md_typed : Int32) (md_known : Int32) (md_kept : Int32) (md_sights : Int32) (md_at : Int32) (md_many : Int32) (md_length : Int32) (md_set : Int32) (md_text : (Nat → Int32)) (md_told : (Nat → Int32)) (md_draft : (Nat → Int32)) (md_s : (Nat → Int32)) (md_past : (Nat → Int32)) (md_images : (Nat → Int32)) (md_seen : (Nat → Int32)) (md_asks : (Nat → Int32)) (md_brings : (Nat → Int32)) (md_uses : (Nat → Int32)) (md_days : (Nat → Int32)) (md_tries : (Nat → Int32)) (md_row : (Nat → Int32)) (md_first : (Nat → Int32)) (md_held : (Nat → Int32)) (hP : va_P D vwCl (wd_28 cC cI cJ a_md a_md_text md_typed a_md_told a_md_draft a_md_s a_md_past md_known a_md_images md_kept a_md_seen md_sights md_at a_md_asks a_md_brings a_md_uses a_md_days a_md_tries a_md_row md_many a_md_first md_length md_set a_md_held a_md_text md_text a_md_told md_told a_md_draft md_draft a_md_s md_s a_md_past md_past a_md_images md_images a_md_seen md_seen a_md_asks md_asks a_md_brings md_brings a_md_uses md_uses a_md_days md_days a_md_tries md_tries a_md_row md_row a_md_first md_first a_md_held md_held) H) : ∀ (n : Nat) (v1 : Int32) (v2 : Int32) (out : Int32), lp_X6_comes_7 N md_told md_s n v1 v2 = some out → ∀ (ls : Array Slot), lv_has ls 4 [(0, .ref a_md), (1, .int v1), (2, .int v2)] → (∀ (ls : Array Slot), lv_has ls 4 [(1, .int out)] → W p l e rX6_comes s m args below meth c H locs 0 0 Q (F0 m 73 ls [])) → W p l e rX6_comes s m args below meth c H locs 0 0 Q (F0 m 7 ls []) := by
  have hx := S.1
  have hb := S.2.1
  intro n
  induction n with
  | zero => intro v1 v2 out hm; cases (show (none : Option Int32) = some out from hm)
  | succ n ih =>
    intro v1 v2 out hm  ls hl K0
    rw [lp_X6_comes_7] at hm
    refine lv_iload_n hx hb dX6_comes_7 rfl (lv_at hl 2 rfl) ?_
    refine lv_bipush (v := 8) hx hb dX6_comes_8 (by decide) ?_
    refine lv_icmp_ge (tgt := 73) hx hb dX6_comes_10 (by decide) (fun c3 => ?_) (fun c3 => ?_)
    · replace hm := ipos hm c3
      obtain rfl := Option.some.inj hm
      exact K0  ls (lv_sub hl [1] rfl)
    · replace hm := ineg hm c3
      refine lv_iconst (v := 0) hx hb dX6_comes_13 (by decide) ?_
      refine lv_istore_n (lv' := [(3, .int (0 : Int32)), (0, .ref a_md), (1, .int v1), (2, .int v2)]) hx hb dX6_comes_14 rfl hl (by decide) rfl (fun ls hl => ?_)
      obtain ⟨r11, h12, hm⟩ := ob hm
      refine t_X6_comes_15 l S hK a_md a_md_text a_md_told a_md_draft a_md_s a_md_past a_md_images a_md_seen a_md_asks a_md_brings a_md_uses a_md_days a_md_tries a_md_row a_md_first a_md_held v2 md_typed md_known md_kept md_sights md_at md_many md_length md_set md_text md_told md_draft md_s md_past md_images md_seen md_asks md_brings md_uses md_days md_tries md_row md_first md_held hP N v1 (0 : Int32) r11 h12  ls (lv_sub hl [1, 2, 3, 0] rfl) (fun ls hl => ?_)
      refine lv_iinc (v := (v2 + 1)) (lv' := [(2, .int (v2 + 1)), (0, .ref a_md), (1, .int r11)]) hx hb dX6_comes_67 hl (k := 2) rfl (by rw [ofi_1]) (by decide) rfl (fun ls hl => ?_)
      refine lv_goto (tgt := 7) hx hb dX6_comes_70 (by decide) ?_
      exact ih r11 (v2 + 1) _ hm  ls (lv_sub hl [1, 2, 0] rfl) K0
set_option maxHeartbeats 4000000 in
set_option maxRecDepth 100000 in
theorem c_X6_comes (l : Launch) (D : va_G) (cC cI cJ : ClassId) (a_md : Nat) (a_md_text : Nat) (a_md_told : Nat) (a_md_draft : Nat) (a_md_s : Nat) (a_md_past : Nat) (a_md_images : Nat) (a_md_seen : Nat) (a_md_asks : Nat) (a_md_brings : Nat) (a_md_uses : Nat) (a_md_days : Nat) (a_md_tries : Nat) (a_md_row : Nat) (a_md_first : Nat) (a_md_held : Nat) (md_typed : Int32) (md_known : Int32) (md_kept : Int32) (md_sights : Int32) (md_at : Int32) (md_many : Int32) (md_length : Int32) (md_set : Int32) (md_text : (Nat → Int32)) (md_told : (Nat → Int32)) (md_draft : (Nat → Int32)) (md_s : (Nat → Int32)) (md_past : (Nat → Int32)) (md_images : (Nat → Int32)) (md_seen : (Nat → Int32)) (md_asks : (Nat → Int32)) (md_brings : (Nat → Int32)) (md_uses : (Nat → Int32)) (md_days : (Nat → Int32)) (md_tries : (Nat → Int32)) (md_row : (Nat → Int32)) (md_first : (Nat → Int32)) (md_held : (Nat → Int32)) (N : Nat) (out : Int32) (hm : m_X6_comes N md_told md_s = some out) : RdI l yX6_comes wsX6_comes rX6_comes D (tyK cC cI cJ) [.ref a_md] (wd_28 cC cI cJ a_md a_md_text md_typed a_md_told a_md_draft a_md_s a_md_past md_known a_md_images md_kept a_md_seen md_sights md_at a_md_asks a_md_brings a_md_uses a_md_days a_md_tries a_md_row md_many a_md_first md_length md_set a_md_held a_md_text md_text a_md_told md_told a_md_draft md_draft a_md_s md_s a_md_past md_past a_md_images md_images a_md_seen md_seen a_md_asks md_asks a_md_brings md_brings a_md_uses md_uses a_md_days md_days a_md_tries md_tries a_md_row md_row a_md_first md_first a_md_held md_held) out := by
  unfold m_X6_comes at hm
  refine enter (cc := cX6_comes) (maxL := 4) (ret := (some .int)) (lv := [(0, .ref a_md)]) (by decide) rfl (Nat.le_of_ble_eq_true rfl) rfl ?_
  intro p e s m args below meth c S hr hlk hK hP ls hl
  replace S : CallFix p m c cX6_comes 4 s args wsX6_comes RX6 := S
  have hx := S.1
  have hb := S.2.1
  refine lv_aload_n hx hb dX6_comes_0 rfl (lv_at hl 0 rfl) ?_
  obtain ⟨r1, h2, hm⟩ := ob hm
  refine k_rVi S hK hP cal_X6_open gX6_comes_X6_open (c_X6_open l D cC cI cJ a_md a_md_text a_md_told a_md_draft a_md_s a_md_past a_md_images a_md_seen a_md_asks a_md_brings a_md_uses a_md_days a_md_tries a_md_row a_md_first a_md_held md_typed md_known md_kept md_sights md_at md_many md_length md_set md_text md_told md_draft md_s md_past md_images md_seen md_asks md_brings md_uses md_days md_tries md_row md_first md_held r1 h2) ⟨⟨rfl, rfl⟩, Nat.le_of_ble_eq_true rfl, Nat.le_of_ble_eq_true rfl⟩ [0, 1, 2, 3, 4, 5, 6, 7, 8, 9, 10, 11, 12, 13, 14, 15] rfl 0 rfl rfl rfl hl.1 rfl (Nat.le_of_ble_eq_true rfl) dX6_comes_1 ⟨Nat.zero_le _, Nat.zero_le _⟩ ?_
  refine lv_istore_n (lv' := [(1, .int r1), (0, .ref a_md)]) hx hb dX6_comes_4 rfl hl (by decide) rfl (fun ls hl => ?_)
  refine lv_iconst (v := 0) hx hb dX6_comes_5 (by decide) ?_
  refine lv_istore_n (lv' := [(2, .int (0 : Int32)), (1, .int r1), (0, .ref a_md)]) hx hb dX6_comes_6 rfl hl (by decide) rfl (fun ls hl => ?_)
  obtain ⟨r13, h14, hm⟩ := ob hm
  refine t_X6_comes_7 l S hK a_md a_md_text a_md_told a_md_draft a_md_s a_md_past a_md_images a_md_seen a_md_asks a_md_brings a_md_uses a_md_days a_md_tries a_md_row a_md_first a_md_held N md_typed md_known md_kept md_sights md_at md_many md_length md_set md_text md_told md_draft md_s md_past md_images md_seen md_asks md_brings md_uses md_days md_tries md_row md_first md_held hP N r1 (0 : Int32) r13 h14  ls (lv_sub hl [2, 1, 0] rfl) (fun ls hl => ?_)
  refine lv_iload_n hx hb dX6_comes_73 rfl (lv_at hl 0 rfl) ?_
  exact e_RI S hr hlk (Option.some.inj hm) dX6_comes_74

abbrev rX6_ones : Room := { frames := 0, cells := 0, slots := 0, locals := 0 }
theorem cal_X6_ones : Cal yX6_ones wsX6_ones cX6_ones 3 (some .int) RX6 1 := ⟨⟨_, rfl⟩, rfl, by decide +kernel, by decide +kernel, by decide +kernel⟩
set_option maxHeartbeats 4000000 in
set_option maxRecDepth 100000 in
theorem t_X6_ones_4 {p : Program} {e : Env} {s : State} {m : MethodId} {args : Array Value} {below : List Frame} {meth : Method} {c : Code} {Q : State → Prop} {H : Heap} {locs : List Loc} (l : Launch) {D : va_G} {cC cI cJ : ClassId} (S : CallFix p m c cX6_ones 3 s args wsX6_ones RX6) (hK : KK D (tyK cC cI cJ) s)  (v0 : Int32) (hP : va_P D vwCl [] H) : ∀ (n : Nat) (v1 : Int32) (v2 : Int32) (out : Int32), lp_X6_ones_4 v0 n v1 v2 = some out → ∀ (ls : Array Slot), lv_has ls 3 [(0, .int v0), (1, .int v1), (2, .int v2)] → (∀ (ls : Array Slot), lv_has ls 3 [(1, .int out)] → W p l e rX6_ones s m args below meth c H locs 0 0 Q (F0 m 24 ls [])) → W p l e rX6_ones s m args below meth c H locs 0 0 Q (F0 m 4 ls []) := by
  have hx := S.1
  have hb := S.2.1
  intro n
  induction n with
  | zero => intro v1 v2 out hm; cases (show (none : Option Int32) = some out from hm)
  | succ n ih =>
    intro v1 v2 out hm  ls hl K0
    rw [lp_X6_ones_4] at hm
    refine lv_iload_n hx hb dX6_ones_4 rfl (lv_at hl 2 rfl) ?_
    refine lv_bipush (v := 8) hx hb dX6_ones_5 (by decide) ?_
    refine lv_icmp_ge (tgt := 24) hx hb dX6_ones_7 (by decide) (fun c1 => ?_) (fun c1 => ?_)
    · replace hm := ipos hm c1
      obtain rfl := Option.some.inj hm
      exact K0  ls (lv_sub hl [1] rfl)
    · replace hm := ineg hm c1
      refine lv_iload_n hx hb dX6_ones_10 rfl (lv_at hl 1 rfl) ?_
      refine lv_iload_n hx hb dX6_ones_11 rfl (lv_at hl 0 rfl) ?_
      refine lv_iload_n hx hb dX6_ones_12 rfl (lv_at hl 2 rfl) ?_
      refine lv_ishr hx hb dX6_ones_13 ?_
      refine lv_iconst (v := 1) hx hb dX6_ones_14 (by decide) ?_
      refine lv_iand hx hb dX6_ones_15 ?_
      refine lv_iadd hx hb dX6_ones_16 ?_
      obtain ⟨y2, e3, hm⟩ := ob hm
      refine f_name e3 ?_
      refine lv_istore_n (lv' := [(1, .int y2), (0, .int v0), (2, .int v2)]) hx hb dX6_ones_17 rfl hl (by decide) rfl (fun ls hl => ?_)
      refine lv_iinc (v := (v2 + 1)) (lv' := [(2, .int (v2 + 1)), (1, .int y2), (0, .int v0)]) hx hb dX6_ones_18 hl (k := 2) rfl (by rw [ofi_1]) (by decide) rfl (fun ls hl => ?_)
      refine lv_goto (tgt := 4) hx hb dX6_ones_21 (by decide) ?_
      exact ih y2 (v2 + 1) _ hm  ls (lv_sub hl [2, 1, 0] rfl) K0
set_option maxHeartbeats 4000000 in
set_option maxRecDepth 100000 in
theorem c_X6_ones (l : Launch) (D : va_G) (cC cI cJ : ClassId)  (p0 : Int32) (N : Nat) (out : Int32) (hm : m_X6_ones N p0 = some out) : RdI l yX6_ones wsX6_ones rX6_ones D (tyK cC cI cJ) [.int p0] [] out := by
  unfold m_X6_ones at hm
  refine enter (cc := cX6_ones) (maxL := 3) (ret := (some .int)) (lv := [(0, .int p0)]) (by decide) rfl (Nat.le_of_ble_eq_true rfl) rfl ?_
  intro p e s m args below meth c S hr hlk hK hP ls hl
  replace S : CallFix p m c cX6_ones 3 s args wsX6_ones RX6 := S
  have hx := S.1
  have hb := S.2.1
  refine lv_iconst (v := 0) hx hb dX6_ones_0 (by decide) ?_
  refine lv_istore_n (lv' := [(1, .int (0 : Int32)), (0, .int p0)]) hx hb dX6_ones_1 rfl hl (by decide) rfl (fun ls hl => ?_)
  refine lv_iconst (v := 0) hx hb dX6_ones_2 (by decide) ?_
  refine lv_istore_n (lv' := [(2, .int (0 : Int32)), (1, .int (0 : Int32)), (0, .int p0)]) hx hb dX6_ones_3 rfl hl (by decide) rfl (fun ls hl => ?_)
  obtain ⟨r4, h5, hm⟩ := ob hm
  refine t_X6_ones_4 l S hK  p0 hP N (0 : Int32) (0 : Int32) r4 h5  ls (lv_sub hl [2, 1, 0] rfl) (fun ls hl => ?_)
  refine lv_iload_n hx hb dX6_ones_24 rfl (lv_at hl 0 rfl) ?_
  exact e_RI S hr hlk (Option.some.inj hm) dX6_ones_25

abbrev rX6_isLost : Room := { frames := 0, cells := 0, slots := 0, locals := 0 }
theorem cal_X6_isLost : Cal yX6_isLost wsX6_isLost cX6_isLost 1 (some .boolean) RX6 0 := ⟨⟨_, rfl⟩, rfl, by decide +kernel, by decide +kernel, by decide +kernel⟩
theorem in_X6_isLost_X6 : ∀ w ∈ wsX60, w ∈ wsX6_isLost := fun _ h => (List.mem_cons_of_mem _ (List.mem_append_right _ h))
set_option maxHeartbeats 4000000 in
set_option maxRecDepth 100000 in
theorem c_X6_isLost (l : Launch) (D : va_G) (cC cI cJ : ClassId) (a_md : Nat) (a_md_text : Nat) (a_md_told : Nat) (a_md_draft : Nat) (a_md_s : Nat) (a_md_past : Nat) (a_md_images : Nat) (a_md_seen : Nat) (a_md_asks : Nat) (a_md_brings : Nat) (a_md_uses : Nat) (a_md_days : Nat) (a_md_tries : Nat) (a_md_row : Nat) (a_md_first : Nat) (a_md_held : Nat) (md_typed : Int32) (md_known : Int32) (md_kept : Int32) (md_sights : Int32) (md_at : Int32) (md_many : Int32) (md_length : Int32) (md_set : Int32) (md_text : (Nat → Int32)) (md_told : (Nat → Int32)) (md_draft : (Nat → Int32)) (md_s : (Nat → Int32)) (md_past : (Nat → Int32)) (md_images : (Nat → Int32)) (md_seen : (Nat → Int32)) (md_asks : (Nat → Int32)) (md_brings : (Nat → Int32)) (md_uses : (Nat → Int32)) (md_days : (Nat → Int32)) (md_tries : (Nat → Int32)) (md_row : (Nat → Int32)) (md_first : (Nat → Int32)) (md_held : (Nat → Int32)) (out : Int32) (hm : m_X6_isLost md_told md_s = some out) : RdI l yX6_isLost wsX6_isLost rX6_isLost D (tyK cC cI cJ) [.ref a_md] (wd_28 cC cI cJ a_md a_md_text md_typed a_md_told a_md_draft a_md_s a_md_past md_known a_md_images md_kept a_md_seen md_sights md_at a_md_asks a_md_brings a_md_uses a_md_days a_md_tries a_md_row md_many a_md_first md_length md_set a_md_held a_md_text md_text a_md_told md_told a_md_draft md_draft a_md_s md_s a_md_past md_past a_md_images md_images a_md_seen md_seen a_md_asks md_asks a_md_brings md_brings a_md_uses md_uses a_md_days md_days a_md_tries md_tries a_md_row md_row a_md_first md_first a_md_held md_held) out := by
  unfold m_X6_isLost at hm
  refine enter (cc := cX6_isLost) (maxL := 1) (ret := (some .boolean)) (lv := [(0, .ref a_md)]) (by decide) rfl (Nat.le_of_ble_eq_true rfl) rfl ?_
  intro p e s m args below meth c S hr hlk hK hP ls hl
  replace S : CallFix p m c cX6_isLost 1 s args wsX6_isLost RX6 := S
  have hx := S.1
  have hb := S.2.1
  refine lv_aload_n hx hb dX6_isLost_0 rfl (lv_at hl 0 rfl) ?_
  refine f_get S hK hP in_X6_isLost_X6 0 rfl rfl 4 (by decide) (List.mem_of_getElem? (i := 1) rfl) rfl rfl dX6_isLost_1 ?_
  refine lv_iconst (v := 5) hx hb dX6_isLost_4 (by decide) ?_
  refine f_ialdK S hK hP 4 1 rfl rfl 5 (by decide) (by decide) (v := (md_s 5)) rfl dX6_isLost_5 ?_
  refine lv_aload_n hx hb dX6_isLost_6 rfl (lv_at hl 0 rfl) ?_
  refine f_get S hK hP in_X6_isLost_X6 0 rfl rfl 2 (by decide) (List.mem_of_getElem? (i := 2) rfl) rfl rfl dX6_isLost_7 ?_
  refine lv_iconst (v := 3) hx hb dX6_isLost_10 (by decide) ?_
  refine f_ialdK S hK hP 2 1 rfl rfl 3 (by decide) (by decide) (v := (md_told 3)) rfl dX6_isLost_11 ?_
  refine lv_icmp_le (tgt := 19) hx hb dX6_isLost_12 (by decide) (fun c3 => ?_) (fun c3 => ?_)
  · replace hm := ipos hm c3
    refine lv_iconst (v := 0) hx hb dX6_isLost_19 (by decide) ?_
    exact e_RZ S hr hlk (Or.inl rfl) (Option.some.inj hm) dX6_isLost_20
  · replace hm := ineg hm c3
    refine lv_iconst (v := 1) hx hb dX6_isLost_15 (by decide) ?_
    refine lv_goto (tgt := 20) hx hb dX6_isLost_16 (by decide) ?_
    exact e_RZ S hr hlk (Or.inr rfl) (Option.some.inj hm) dX6_isLost_20
