/-! walks: X6_lay X6_mayCome X6_ride X6_rows X6_see X6_step X6_suggest X6_task X6_undo X6_well X6_wipe -/
abbrev rX6_lay : Room := { frames := 5, cells := 0, slots := 0, locals := 113 }
theorem cal_X6_lay : Cal yX6_lay wsX6_lay cX6_lay 3 (some .int) RX6 0 := ⟨⟨_, rfl⟩, rfl, by decide +kernel, by decide +kernel, by decide +kernel⟩
theorem in_X6_lay_X6 : ∀ w ∈ wsX60, w ∈ wsX6_lay := fun _ h => (List.mem_cons_of_mem _ (List.mem_append_right _ h))
set_option maxHeartbeats 4000000 in
set_option maxRecDepth 100000 in
theorem t_X6_lay_26 {p : Program} {e : Env} {s : State} {m : MethodId} {args : Array Value} {below : List Frame} {meth : Method} {c : Code} {Q : State → Prop} (l : Launch) {D : va_G} {cC cI cJ : ClassId} {A : Nat → Prop} {H0 : Heap} (S : CallFix p m c cX6_lay 3 s args wsX6_lay RX6) (hK : KK D (tyK cC cI cJ) s) (a_md : Nat) (a_md_text : Nat) (a_md_told : Nat) (a_md_draft : Nat) (a_md_s : Nat) (a_md_past : Nat) (a_md_images : Nat) (a_md_seen : Nat) (a_md_asks : Nat) (a_md_brings : Nat) (a_md_uses : Nat) (a_md_days : Nat) (a_md_tries : Nat) (a_md_row : Nat) (a_md_first : Nat) (a_md_held : Nat) (md_typed : Int32) (md_known : Int32) (md_kept : Int32) (md_sights : Int32) (md_at : Int32) (md_many : Int32) (md_length : Int32) (md_set : Int32) (md_text : (Nat → Int32)) (md_told : (Nat → Int32)) (md_draft : (Nat → Int32)) (md_s : (Nat → Int32)) (md_past : (Nat → Int32)) (md_images : (Nat → Int32)) (md_seen : (Nat → Int32)) (md_asks : (Nat → Int32)) (md_brings : (Nat → Int32)) (md_uses : (Nat → Int32)) (md_days : (Nat → Int32)) (md_tries : (Nat → Int32)) (md_row : (Nat → Int32)) (md_first : (Nat → Int32)) (md_held : (Nat → Int32)) : ∀ (n : Nat) (v1 : Int32) (v2 : Int32) (out : Int32), lp_X6_lay_26 md_draft n v1 v2 = some out → ∀ (H : Heap) (locs : List Loc) (ls : Array Slot), Wd D A H0 (wd_28 cC cI cJ a_md a_md_text md_typed a_md_told a_md_draft a_md_s a_md_past md_known a_md_images md_kept a_md_seen md_sights md_at a_md_asks a_md_brings a_md_uses a_md_days a_md_tries a_md_row md_many a_md_first md_length md_set a_md_held a_md_text md_text a_md_told md_told a_md_draft md_draft a_md_s md_s a_md_past md_past a_md_images md_images a_md_seen md_seen a_md_asks md_asks a_md_brings md_brings a_md_uses md_uses a_md_days md_days a_md_tries md_tries a_md_row md_row a_md_first md_first a_md_held md_held) H locs → lv_has ls 3 [(0, .ref a_md), (1, .int v1), (2, .int v2)] → (∀ (H : Heap) (locs : List Loc) (ls : Array Slot), Wd D A H0 (wd_28 cC cI cJ a_md a_md_text md_typed a_md_told a_md_draft a_md_s a_md_past md_known a_md_images md_kept a_md_seen md_sights md_at a_md_asks a_md_brings a_md_uses a_md_days a_md_tries a_md_row md_many a_md_first md_length md_set a_md_held a_md_text md_text a_md_told md_told a_md_draft md_draft a_md_s md_s a_md_past md_past a_md_images md_images a_md_seen md_seen a_md_asks md_asks a_md_brings md_brings a_md_uses md_uses a_md_days md_days a_md_tries md_tries a_md_row md_row a_md_first md_first a_md_held md_held) H locs → lv_has ls 3 [(0, .ref a_md), (1, .int out)] → W p l e rX6_lay s m args below meth c H locs 0 0 Q (F0 m 70 ls [])) → W p l e rX6_lay s m args below meth c H locs 0 0 Q (F0 m 26 ls []) := by
  have hx := S.1
  have hb := S.2.1
  intro n
  induction n with
  | zero => intro v1 v2 out hm; cases (show (none : Option Int32) = some out from hm)
  | succ n ih =>
    intro v1 v2 out hm  H locs ls hw hl K0
    rw [lp_X6_lay_26] at hm
    refine lv_iload_n hx hb dX6_lay_26 rfl (lv_at hl 2 rfl) ?_
    refine lv_aload_n hx hb dX6_lay_27 rfl (lv_at hl 0 rfl) ?_
    refine f_get S hK hw.1 in_X6_lay_X6 0 rfl rfl 3 (by decide) (List.mem_of_getElem? (i := 1) rfl) rfl rfl dX6_lay_28 ?_
    refine lv_iconst (v := 0) hx hb dX6_lay_31 (by decide) ?_
    refine f_ialdK S hK hw.1 3 1 rfl rfl 0 (by decide) (by decide) (v := (md_draft 0)) rfl dX6_lay_32 ?_
    refine lv_icmp_ge (tgt := 70) hx hb dX6_lay_33 (by decide) (fun c5 => ?_) (fun c5 => ?_)
    · replace hm := ipos hm c5
      obtain rfl := Option.some.inj hm
      exact K0  _ _ ls hw (lv_sub hl [0, 1] rfl)
    · replace hm := ineg hm c5
      refine lv_iload_n hx hb dX6_lay_36 rfl (lv_at hl 1 rfl) ?_
      refine lv_if_eq (tgt := 70) hx hb dX6_lay_37 (by decide) (fun c6 => ?_) (fun c6 => ?_)
      · replace hm := ipos hm c6
        obtain rfl := Option.some.inj hm
        exact K0  _ _ ls hw (lv_sub hl [0, 1] rfl)
      · replace hm := ineg hm c6
        refine lv_aload_n hx hb dX6_lay_40 rfl (lv_at hl 0 rfl) ?_
        refine f_get S hK hw.1 in_X6_lay_X6 0 rfl rfl 3 (by decide) (List.mem_of_getElem? (i := 1) rfl) rfl rfl dX6_lay_41 ?_
        refine lv_bipush (v := 29) hx hb dX6_lay_44 (by decide) ?_
        refine lv_iload_n hx hb dX6_lay_46 rfl (lv_at hl 2 rfl) ?_
        refine lv_iadd hx hb dX6_lay_47 ?_
        obtain ⟨g7, hm⟩ := gdo hm
        refine f_iald S hK hw.1 3 1 rfl rfl g7 dX6_lay_48 ?_
        refine lv_aload_n hx hb dX6_lay_49 rfl (lv_at hl 0 rfl) ?_
        refine f_get S hK hw.1 in_X6_lay_X6 0 rfl rfl 3 (by decide) (List.mem_of_getElem? (i := 1) rfl) rfl rfl dX6_lay_50 ?_
        refine lv_iconst (v := 0) hx hb dX6_lay_53 (by decide) ?_
        refine f_ialdK S hK hw.1 3 1 rfl rfl 0 (by decide) (by decide) (v := (md_draft 0)) rfl dX6_lay_54 ?_
        refine lv_icmp_ge (tgt := 62) hx hb dX6_lay_55 (by decide) (fun c9 => ?_) (fun c9 => ?_)
        · replace hm := ipos hm c9
          refine lv_iconst (v := 0) hx hb dX6_lay_62 (by decide) ?_
          refine lv_istore_n (lv' := [(1, .int (0 : Int32)), (0, .ref a_md), (2, .int v2)]) hx hb dX6_lay_63 rfl hl (by decide) rfl (fun ls hl => ?_)
          refine lv_iinc (v := (v2 + 1)) (lv' := [(2, .int (v2 + 1)), (1, .int (0 : Int32)), (0, .ref a_md)]) hx hb dX6_lay_64 hl (k := 2) rfl (by rw [ofi_1]) (by decide) rfl (fun ls hl => ?_)
          refine lv_goto (tgt := 26) hx hb dX6_lay_67 (by decide) ?_
          exact ih (0 : Int32) (v2 + 1) _ hm  _ _ ls hw (lv_sub hl [2, 1, 0] rfl) K0
        · replace hm := ineg hm c9
          refine lv_iconst (v := 1) hx hb dX6_lay_58 (by decide) ?_
          refine lv_goto (tgt := 63) hx hb dX6_lay_59 (by decide) ?_
          refine lv_istore_n (lv' := [(1, .int (1 : Int32)), (0, .ref a_md), (2, .int v2)]) hx hb dX6_lay_63 rfl hl (by decide) rfl (fun ls hl => ?_)
          refine lv_iinc (v := (v2 + 1)) (lv' := [(2, .int (v2 + 1)), (1, .int (1 : Int32)), (0, .ref a_md)]) hx hb dX6_lay_64 hl (k := 2) rfl (by rw [ofi_1]) (by decide) rfl (fun ls hl => ?_)
          refine lv_goto (tgt := 26) hx hb dX6_lay_67 (by decide) ?_
          exact ih (1 : Int32) (v2 + 1) _ hm  _ _ ls hw (lv_sub hl [2, 1, 0] rfl) K0
set_option maxHeartbeats 4000000 in
set_option maxRecDepth 100000 in
theorem c_X6_lay (l : Launch) (D : va_G) (cC cI cJ : ClassId) (a_md : Nat) (a_md_text : Nat) (a_md_told : Nat) (a_md_draft : Nat) (a_md_s : Nat) (a_md_past : Nat) (a_md_images : Nat) (a_md_seen : Nat) (a_md_asks : Nat) (a_md_brings : Nat) (a_md_uses : Nat) (a_md_days : Nat) (a_md_tries : Nat) (a_md_row : Nat) (a_md_first : Nat) (a_md_held : Nat) (md_typed : Int32) (md_known : Int32) (md_kept : Int32) (md_sights : Int32) (md_at : Int32) (md_many : Int32) (md_length : Int32) (md_set : Int32) (md_text : (Nat → Int32)) (md_told : (Nat → Int32)) (md_draft : (Nat → Int32)) (md_s : (Nat → Int32)) (md_past : (Nat → Int32)) (md_images : (Nat → Int32)) (md_seen : (Nat → Int32)) (md_asks : (Nat → Int32)) (md_brings : (Nat → Int32)) (md_uses : (Nat → Int32)) (md_days : (Nat → Int32)) (md_tries : (Nat → Int32)) (md_row : (Nat → Int32)) (md_first : (Nat → Int32)) (md_held : (Nat → Int32)) (N : Nat) (A : Nat → Prop) (hD : va_D A (wd_28 cC cI cJ a_md a_md_text md_typed a_md_told a_md_draft a_md_s a_md_past md_known a_md_images md_kept a_md_seen md_sights md_at a_md_asks a_md_brings a_md_uses a_md_days a_md_tries a_md_row md_many a_md_first md_length md_set a_md_held a_md_text md_text a_md_told md_told a_md_draft md_draft a_md_s md_s a_md_past md_past a_md_images md_images a_md_seen md_seen a_md_asks md_asks a_md_brings md_brings a_md_uses md_uses a_md_days md_days a_md_tries md_tries a_md_row md_row a_md_first md_first a_md_held md_held)) (out : (Int32 × Int32 × Int32 × Int32 × Int32 × (Nat → Int32) × (Nat → Int32) × (Nat → Int32))) (hm : m_X6_lay N md_typed md_known md_kept md_sights md_text md_told md_draft md_s = some out) : WrI l yX6_lay wsX6_lay rX6_lay D (tyK cC cI cJ) [.ref a_md] A (wd_28 cC cI cJ a_md a_md_text md_typed a_md_told a_md_draft a_md_s a_md_past md_known a_md_images md_kept a_md_seen md_sights md_at a_md_asks a_md_brings a_md_uses a_md_days a_md_tries a_md_row md_many a_md_first md_length md_set a_md_held a_md_text md_text a_md_told md_told a_md_draft md_draft a_md_s md_s a_md_past md_past a_md_images md_images a_md_seen md_seen a_md_asks md_asks a_md_brings md_brings a_md_uses md_uses a_md_days md_days a_md_tries md_tries a_md_row md_row a_md_first md_first a_md_held md_held) (Bw0 D (wd_28 cC cI cJ a_md a_md_text md_typed a_md_told a_md_draft a_md_s a_md_past out.2.1 a_md_images out.2.2.1 a_md_seen out.2.2.2.1 out.2.2.2.2.1 a_md_asks a_md_brings a_md_uses a_md_days a_md_tries a_md_row md_many a_md_first md_length md_set a_md_held a_md_text md_text a_md_told out.2.2.2.2.2.1 a_md_draft out.2.2.2.2.2.2.1 a_md_s out.2.2.2.2.2.2.2 a_md_past md_past a_md_images md_images a_md_seen md_seen a_md_asks md_asks a_md_brings md_brings a_md_uses md_uses a_md_days md_days a_md_tries md_tries a_md_row md_row a_md_first md_first a_md_held md_held)) out.1 := by
  unfold m_X6_lay at hm
  refine enter (cc := cX6_lay) (maxL := 3) (ret := (some .int)) (lv := [(0, .ref a_md)]) (by decide) rfl (Nat.le_of_ble_eq_true rfl) rfl ?_
  intro p e s m args below meth c S hr hlk hK hP ls hl
  replace S : CallFix p m c cX6_lay 3 s args wsX6_lay RX6 := S
  have hx := S.1
  have hb := S.2.1
  have hw : Wd D A s.heap (wd_28 cC cI cJ a_md a_md_text md_typed a_md_told a_md_draft a_md_s a_md_past md_known a_md_images md_kept a_md_seen md_sights md_at a_md_asks a_md_brings a_md_uses a_md_days a_md_tries a_md_row md_many a_md_first md_length md_set a_md_held a_md_text md_text a_md_told md_told a_md_draft md_draft a_md_s md_s a_md_past md_past a_md_images md_images a_md_seen md_seen a_md_asks md_asks a_md_brings md_brings a_md_uses md_uses a_md_days md_days a_md_tries md_tries a_md_row md_row a_md_first md_first a_md_held md_held) s.heap [] := ⟨hP, hD, va_S.rf⟩
  have hw0 := hw
  refine lv_aload_n hx hb dX6_lay_0 rfl (lv_at hl 0 rfl) ?_
  obtain ⟨r1, h2, hm⟩ := ob hm
  refine k_wVi S hK hw cal_X6_readsAll gX6_lay_X6_readsAll (c_X6_readsAll l D cC cI cJ a_md a_md_text a_md_told a_md_draft a_md_s a_md_past a_md_images a_md_seen a_md_asks a_md_brings a_md_uses a_md_days a_md_tries a_md_row a_md_first a_md_held md_typed md_known md_kept md_sights md_at md_many md_length md_set md_text md_told md_draft md_s md_past md_images md_seen md_asks md_brings md_uses md_days md_tries md_row md_first md_held N (aw _) (hw.own [0, 1, 2, 3, 4, 5, 6, 7, 8, 9, 10, 11, 12, 13, 14, 15] (by decide) rfl) r1 h2) ⟨⟨rfl, rfl⟩, Nat.le_of_ble_eq_true rfl, Nat.le_of_ble_eq_true rfl⟩ [0, 1, 2, 3, 4, 5, 6, 7, 8, 9, 10, 11, 12, 13, 14, 15] rfl 0 rfl rfl rfl hl.1 rfl (Nat.le_of_ble_eq_true rfl) dX6_lay_1 ⟨Nat.zero_le _, Nat.zero_le _⟩ (fun H locs hJ hB => ?_)
  have hw := hJ _ hB rfl
  replace hw : Wd D A _ (wd_28 cC cI cJ a_md a_md_text md_typed a_md_told a_md_draft a_md_s a_md_past md_known a_md_images md_kept a_md_seen md_sights r1.2.1 a_md_asks a_md_brings a_md_uses a_md_days a_md_tries a_md_row md_many a_md_first md_length md_set a_md_held a_md_text md_text a_md_told md_told a_md_draft r1.2.2 a_md_s md_s a_md_past md_past a_md_images md_images a_md_seen md_seen a_md_asks md_asks a_md_brings md_brings a_md_uses md_uses a_md_days md_days a_md_tries md_tries a_md_row md_row a_md_first md_first a_md_held md_held) H locs := hw
  refine lv_bipush (v := (-4)) hx hb dX6_lay_4 (by decide) ?_
  refine lv_icmp_ne (tgt := 22) hx hb dX6_lay_6 (by decide) (fun c3 => ?_) (fun c3 => ?_)
  · replace hm := ineg hm c3
    refine lv_iconst (v := 0) hx hb dX6_lay_22 (by decide) ?_
    refine lv_istore_n (lv' := [(1, .int (0 : Int32)), (0, .ref a_md)]) hx hb dX6_lay_23 rfl hl (by decide) rfl (fun ls hl => ?_)
    refine lv_iconst (v := 0) hx hb dX6_lay_24 (by decide) ?_
    refine lv_istore_n (lv' := [(2, .int (0 : Int32)), (1, .int (0 : Int32)), (0, .ref a_md)]) hx hb dX6_lay_25 rfl hl (by decide) rfl (fun ls hl => ?_)
    obtain ⟨r10, h11, hm⟩ := ob hm
    refine t_X6_lay_26 l S hK a_md a_md_text a_md_told a_md_draft a_md_s a_md_past a_md_images a_md_seen a_md_asks a_md_brings a_md_uses a_md_days a_md_tries a_md_row a_md_first a_md_held md_typed md_known md_kept md_sights r1.2.1 md_many md_length md_set md_text md_told r1.2.2 md_s md_past md_images md_seen md_asks md_brings md_uses md_days md_tries md_row md_first md_held N (0 : Int32) (0 : Int32) r10 h11  _ _ ls hw (lv_sub hl [2, 1, 0] rfl) (fun H locs ls hw hl => ?_)
    refine lv_iload_n hx hb dX6_lay_70 rfl (lv_at hl 1 rfl) ?_
    refine lv_if_ne (tgt := 77) hx hb dX6_lay_71 (by decide) (fun c12 => ?_) (fun c12 => ?_)
    · replace hm := ineg hm c12
      refine lv_aload_n hx hb dX6_lay_77 rfl (lv_at hl 0 rfl) ?_
      obtain ⟨r13, h14, hm⟩ := ob hm
      refine k_wVv S hK hw cal_X6_lays gX6_lay_X6_lays (c_X6_lays l D cC cI cJ a_md a_md_text a_md_told a_md_draft a_md_s a_md_past a_md_images a_md_seen a_md_asks a_md_brings a_md_uses a_md_days a_md_tries a_md_row a_md_first a_md_held md_typed md_known md_kept md_sights r1.2.1 md_many md_length md_set md_text md_told r1.2.2 md_s md_past md_images md_seen md_asks md_brings md_uses md_days md_tries md_row md_first md_held N (aw _) (hw.own [0, 1, 2, 3, 4, 5, 6, 7, 8, 9, 10, 11, 12, 13, 14, 15] (by decide) rfl) r13 h14) ⟨⟨rfl, rfl⟩, Nat.le_of_ble_eq_true rfl, Nat.le_of_ble_eq_true rfl⟩ [0, 1, 2, 3, 4, 5, 6, 7, 8, 9, 10, 11, 12, 13, 14, 15] rfl 0 rfl rfl rfl hl.1 rfl (Nat.le_of_ble_eq_true rfl) dX6_lay_78 ⟨Nat.zero_le _, Nat.zero_le _⟩ (fun H locs hJ hB => ?_)
      have hw := hJ _ hB rfl
      replace hw : Wd D A _ (wd_28 cC cI cJ a_md a_md_text md_typed a_md_told a_md_draft a_md_s a_md_past r13.1 a_md_images r13.2.1 a_md_seen r13.2.2.1 r1.2.1 a_md_asks a_md_brings a_md_uses a_md_days a_md_tries a_md_row md_many a_md_first md_length md_set a_md_held a_md_text md_text a_md_told r13.2.2.2.1 a_md_draft r1.2.2 a_md_s r13.2.2.2.2 a_md_past md_past a_md_images md_images a_md_seen md_seen a_md_asks md_asks a_md_brings md_brings a_md_uses md_uses a_md_days md_days a_md_tries md_tries a_md_row md_row a_md_first md_first a_md_held md_held) H locs := hw
      refine lv_aload_n hx hb dX6_lay_81 rfl (lv_at hl 0 rfl) ?_
      refine f_get S hK hw.1 in_X6_lay_X6 0 rfl rfl 2 (by decide) (List.mem_of_getElem? (i := 2) rfl) rfl rfl dX6_lay_82 ?_
      refine lv_iconst (v := 0) hx hb dX6_lay_85 (by decide) ?_
      refine f_ialdK S hK hw.1 2 1 rfl rfl 0 (by decide) (by decide) (v := (r13.2.2.2.1 0)) rfl dX6_lay_86 ?_
      obtain rfl := Option.some.inj hm
      exact e_WI S hr hlk hw rfl hw.1 dX6_lay_87
    · replace hm := ipos hm c12
      refine lv_bipush (v := (-2)) hx hb dX6_lay_74 (by decide) ?_
      obtain rfl := Option.some.inj hm
      exact e_WI S hr hlk hw rfl hw.1 dX6_lay_76
  · replace hm := ipos hm c3
    refine lv_aload_n hx hb dX6_lay_9 rfl (lv_at hl 0 rfl) ?_
    refine f_get S hK hw.1 in_X6_lay_X6 0 rfl rfl 3 (by decide) (List.mem_of_getElem? (i := 1) rfl) rfl rfl dX6_lay_10 ?_
    refine lv_iconst (v := 0) hx hb dX6_lay_13 (by decide) ?_
    refine f_ialdK S hK hw.1 3 1 rfl rfl 0 (by decide) (by decide) (v := (r1.2.2 0)) rfl dX6_lay_14 ?_
    refine lv_if_le (tgt := 22) hx hb dX6_lay_15 (by decide) (fun c17 => ?_) (fun c17 => ?_)
    · replace hm := ipos hm c17
      refine lv_iconst (v := 0) hx hb dX6_lay_22 (by decide) ?_
      refine lv_istore_n (lv' := [(1, .int (0 : Int32)), (0, .ref a_md)]) hx hb dX6_lay_23 rfl hl (by decide) rfl (fun ls hl => ?_)
      refine lv_iconst (v := 0) hx hb dX6_lay_24 (by decide) ?_
      refine lv_istore_n (lv' := [(2, .int (0 : Int32)), (1, .int (0 : Int32)), (0, .ref a_md)]) hx hb dX6_lay_25 rfl hl (by decide) rfl (fun ls hl => ?_)
      obtain ⟨r18, h19, hm⟩ := ob hm
      refine t_X6_lay_26 l S hK a_md a_md_text a_md_told a_md_draft a_md_s a_md_past a_md_images a_md_seen a_md_asks a_md_brings a_md_uses a_md_days a_md_tries a_md_row a_md_first a_md_held md_typed md_known md_kept md_sights r1.2.1 md_many md_length md_set md_text md_told r1.2.2 md_s md_past md_images md_seen md_asks md_brings md_uses md_days md_tries md_row md_first md_held N (0 : Int32) (0 : Int32) r18 h19  _ _ ls hw (lv_sub hl [2, 1, 0] rfl) (fun H locs ls hw hl => ?_)
      refine lv_iload_n hx hb dX6_lay_70 rfl (lv_at hl 1 rfl) ?_
      refine lv_if_ne (tgt := 77) hx hb dX6_lay_71 (by decide) (fun c20 => ?_) (fun c20 => ?_)
      · replace hm := ineg hm c20
        refine lv_aload_n hx hb dX6_lay_77 rfl (lv_at hl 0 rfl) ?_
        obtain ⟨r21, h22, hm⟩ := ob hm
        refine k_wVv S hK hw cal_X6_lays gX6_lay_X6_lays (c_X6_lays l D cC cI cJ a_md a_md_text a_md_told a_md_draft a_md_s a_md_past a_md_images a_md_seen a_md_asks a_md_brings a_md_uses a_md_days a_md_tries a_md_row a_md_first a_md_held md_typed md_known md_kept md_sights r1.2.1 md_many md_length md_set md_text md_told r1.2.2 md_s md_past md_images md_seen md_asks md_brings md_uses md_days md_tries md_row md_first md_held N (aw _) (hw.own [0, 1, 2, 3, 4, 5, 6, 7, 8, 9, 10, 11, 12, 13, 14, 15] (by decide) rfl) r21 h22) ⟨⟨rfl, rfl⟩, Nat.le_of_ble_eq_true rfl, Nat.le_of_ble_eq_true rfl⟩ [0, 1, 2, 3, 4, 5, 6, 7, 8, 9, 10, 11, 12, 13, 14, 15] rfl 0 rfl rfl rfl hl.1 rfl (Nat.le_of_ble_eq_true rfl) dX6_lay_78 ⟨Nat.zero_le _, Nat.zero_le _⟩ (fun H locs hJ hB => ?_)
        have hw := hJ _ hB rfl
        replace hw : Wd D A _ (wd_28 cC cI cJ a_md a_md_text md_typed a_md_told a_md_draft a_md_s a_md_past r21.1 a_md_images r21.2.1 a_md_seen r21.2.2.1 r1.2.1 a_md_asks a_md_brings a_md_uses a_md_days a_md_tries a_md_row md_many a_md_first md_length md_set a_md_held a_md_text md_text a_md_told r21.2.2.2.1 a_md_draft r1.2.2 a_md_s r21.2.2.2.2 a_md_past md_past a_md_images md_images a_md_seen md_seen a_md_asks md_asks a_md_brings md_brings a_md_uses md_uses a_md_days md_days a_md_tries md_tries a_md_row md_row a_md_first md_first a_md_held md_held) H locs := hw
        refine lv_aload_n hx hb dX6_lay_81 rfl (lv_at hl 0 rfl) ?_
        refine f_get S hK hw.1 in_X6_lay_X6 0 rfl rfl 2 (by decide) (List.mem_of_getElem? (i := 2) rfl) rfl rfl dX6_lay_82 ?_
        refine lv_iconst (v := 0) hx hb dX6_lay_85 (by decide) ?_
        refine f_ialdK S hK hw.1 2 1 rfl rfl 0 (by decide) (by decide) (v := (r21.2.2.2.1 0)) rfl dX6_lay_86 ?_
        obtain rfl := Option.some.inj hm
        exact e_WI S hr hlk hw rfl hw.1 dX6_lay_87
      · replace hm := ipos hm c20
        refine lv_bipush (v := (-2)) hx hb dX6_lay_74 (by decide) ?_
        obtain rfl := Option.some.inj hm
        exact e_WI S hr hlk hw rfl hw.1 dX6_lay_76
    · replace hm := ineg hm c17
      refine lv_iconst (v := 1) hx hb dX6_lay_18 (by decide) ?_
      refine lv_goto (tgt := 23) hx hb dX6_lay_19 (by decide) ?_
      refine lv_istore_n (lv' := [(1, .int (1 : Int32)), (0, .ref a_md)]) hx hb dX6_lay_23 rfl hl (by decide) rfl (fun ls hl => ?_)
      refine lv_iconst (v := 0) hx hb dX6_lay_24 (by decide) ?_
      refine lv_istore_n (lv' := [(2, .int (0 : Int32)), (1, .int (1 : Int32)), (0, .ref a_md)]) hx hb dX6_lay_25 rfl hl (by decide) rfl (fun ls hl => ?_)
      obtain ⟨r24, h25, hm⟩ := ob hm
      refine t_X6_lay_26 l S hK a_md a_md_text a_md_told a_md_draft a_md_s a_md_past a_md_images a_md_seen a_md_asks a_md_brings a_md_uses a_md_days a_md_tries a_md_row a_md_first a_md_held md_typed md_known md_kept md_sights r1.2.1 md_many md_length md_set md_text md_told r1.2.2 md_s md_past md_images md_seen md_asks md_brings md_uses md_days md_tries md_row md_first md_held N (1 : Int32) (0 : Int32) r24 h25  _ _ ls hw (lv_sub hl [2, 1, 0] rfl) (fun H locs ls hw hl => ?_)
      refine lv_iload_n hx hb dX6_lay_70 rfl (lv_at hl 1 rfl) ?_
      refine lv_if_ne (tgt := 77) hx hb dX6_lay_71 (by decide) (fun c26 => ?_) (fun c26 => ?_)
      · replace hm := ineg hm c26
        refine lv_aload_n hx hb dX6_lay_77 rfl (lv_at hl 0 rfl) ?_
        obtain ⟨r27, h28, hm⟩ := ob hm
        refine k_wVv S hK hw cal_X6_lays gX6_lay_X6_lays (c_X6_lays l D cC cI cJ a_md a_md_text a_md_told a_md_draft a_md_s a_md_past a_md_images a_md_seen a_md_asks a_md_brings a_md_uses a_md_days a_md_tries a_md_row a_md_first a_md_held md_typed md_known md_kept md_sights r1.2.1 md_many md_length md_set md_text md_told r1.2.2 md_s md_past md_images md_seen md_asks md_brings md_uses md_days md_tries md_row md_first md_held N (aw _) (hw.own [0, 1, 2, 3, 4, 5, 6, 7, 8, 9, 10, 11, 12, 13, 14, 15] (by decide) rfl) r27 h28) ⟨⟨rfl, rfl⟩, Nat.le_of_ble_eq_true rfl, Nat.le_of_ble_eq_true rfl⟩ [0, 1, 2, 3, 4, 5, 6, 7, 8, 9, 10, 11, 12, 13, 14, 15] rfl 0 rfl rfl rfl hl.1 rfl (Nat.le_of_ble_eq_true rfl) dX6_lay_78 ⟨Nat.zero_le _, Nat.zero_le _⟩ (fun H locs hJ hB => ?_)
        have hw := hJ _ hB rfl
        replace hw : Wd D A _ (wd_28 cC cI cJ a_md a_md_text md_typed a_md_told a_md_draft a_md_s a_md_past r27.1 a_md_images r27.2.1 a_md_seen r27.2.2.1 r1.2.1 a_md_asks a_md_brings a_md_uses a_md_days a_md_tries a_md_row md_many a_md_first md_length md_set a_md_held a_md_text md_text a_md_told r27.2.2.2.1 a_md_draft r1.2.2 a_md_s r27.2.2.2.2 a_md_past md_past a_md_images md_images a_md_seen md_seen a_md_asks md_asks a_md_brings md_brings a_md_uses md_uses a_md_days md_days a_md_tries md_tries a_md_row md_row a_md_first md_first a_md_held md_held) H locs := hw
        refine lv_aload_n hx hb dX6_lay_81 rfl (lv_at hl 0 rfl) ?_
        refine f_get S hK hw.1 in_X6_lay_X6 0 rfl rfl 2 (by decide) (List.mem_of_getElem? (i := 2) rfl) rfl rfl dX6_lay_82 ?_
        refine lv_iconst (v := 0) hx hb dX6_lay_85 (by decide) ?_
        refine f_ialdK S hK hw.1 2 1 rfl rfl 0 (by decide) (by decide) (v := (r27.2.2.2.1 0)) rfl dX6_lay_86 ?_
        obtain rfl := Option.some.inj hm
        exact e_WI S hr hlk hw rfl hw.1 dX6_lay_87
      · replace hm := ipos hm c26
        refine lv_bipush (v := (-2)) hx hb dX6_lay_74 (by decide) ?_
        obtain rfl := Option.some.inj hm
        exact e_WI S hr hlk hw rfl hw.1 dX6_lay_76

abbrev rX6_mayCome : Room := { frames := 2, cells := 0, slots := 0, locals := 43 }
theorem cal_X6_mayCome : Cal yX6_mayCome wsX6_mayCome cX6_mayCome 1 (some .int) RX6 0 := ⟨⟨_, rfl⟩, rfl, by decide +kernel, by decide +kernel, by decide +kernel⟩
set_option maxHeartbeats 4000000 in
set_option maxRecDepth 100000 in
theorem c_X6_mayCome (l : Launch) (D : va_G) (cC cI cJ : ClassId) (a_md : Nat) (a_md_text : Nat) (a_md_told : Nat) (a_md_draft : Nat) (a_md_s : Nat) (a_md_past : Nat) (a_md_images : Nat) (a_md_seen : Nat) (a_md_asks : Nat) (a_md_brings : Nat) (a_md_uses : Nat) (a_md_days : Nat) (a_md_tries : Nat) (a_md_row : Nat) (a_md_first : Nat) (a_md_held : Nat) (md_typed : Int32) (md_known : Int32) (md_kept : Int32) (md_sights : Int32) (md_at : Int32) (md_many : Int32) (md_length : Int32) (md_set : Int32) (md_text : (Nat → Int32)) (md_told : (Nat → Int32)) (md_draft : (Nat → Int32)) (md_s : (Nat → Int32)) (md_past : (Nat → Int32)) (md_images : (Nat → Int32)) (md_seen : (Nat → Int32)) (md_asks : (Nat → Int32)) (md_brings : (Nat → Int32)) (md_uses : (Nat → Int32)) (md_days : (Nat → Int32)) (md_tries : (Nat → Int32)) (md_row : (Nat → Int32)) (md_first : (Nat → Int32)) (md_held : (Nat → Int32)) (N : Nat) (out : Int32) (hm : m_X6_mayCome N md_told md_s = some out) : RdI l yX6_mayCome wsX6_mayCome rX6_mayCome D (tyK cC cI cJ) [.ref a_md] (wd_28 cC cI cJ a_md a_md_text md_typed a_md_told a_md_draft a_md_s a_md_past md_known a_md_images md_kept a_md_seen md_sights md_at a_md_asks a_md_brings a_md_uses a_md_days a_md_tries a_md_row md_many a_md_first md_length md_set a_md_held a_md_text md_text a_md_told md_told a_md_draft md_draft a_md_s md_s a_md_past md_past a_md_images md_images a_md_seen md_seen a_md_asks md_asks a_md_brings md_brings a_md_uses md_uses a_md_days md_days a_md_tries md_tries a_md_row md_row a_md_first md_first a_md_held md_held) out := by
  unfold m_X6_mayCome at hm
  refine enter (cc := cX6_mayCome) (maxL := 1) (ret := (some .int)) (lv := [(0, .ref a_md)]) (by decide) rfl (Nat.le_of_ble_eq_true rfl) rfl ?_
  intro p e s m args below meth c S hr hlk hK hP ls hl
  replace S : CallFix p m c cX6_mayCome 1 s args wsX6_mayCome RX6 := S
  have hx := S.1
  have hb := S.2.1
  refine lv_aload_n hx hb dX6_mayCome_0 rfl (lv_at hl 0 rfl) ?_
  obtain ⟨r1, h2, hm⟩ := ob hm
  refine k_rVi S hK hP cal_X6_comes gX6_mayCome_X6_comes (c_X6_comes l D cC cI cJ a_md a_md_text a_md_told a_md_draft a_md_s a_md_past a_md_images a_md_seen a_md_asks a_md_brings a_md_uses a_md_days a_md_tries a_md_row a_md_first a_md_held md_typed md_known md_kept md_sights md_at md_many md_length md_set md_text md_told md_draft md_s md_past md_images md_seen md_asks md_brings md_uses md_days md_tries md_row md_first md_held N r1 h2) ⟨⟨rfl, rfl⟩, Nat.le_of_ble_eq_true rfl, Nat.le_of_ble_eq_true rfl⟩ [0, 1, 2, 3, 4, 5, 6, 7, 8, 9, 10, 11, 12, 13, 14, 15] rfl 0 rfl rfl rfl hl.1 rfl (Nat.le_of_ble_eq_true rfl) dX6_mayCome_1 ⟨Nat.zero_le _, Nat.zero_le _⟩ ?_
  exact e_RI S hr hlk (Option.some.inj hm) dX6_mayCome_4

abbrev rX6_ride : Room := { frames := 4, cells := 0, slots := 0, locals := 93 }
theorem cal_X6_ride : Cal yX6_ride wsX6_ride cX6_ride 2 (some .int) RX6 1 := ⟨⟨_, rfl⟩, rfl, by decide +kernel, by decide +kernel, by decide +kernel⟩
theorem in_X6_ride_X6 : ∀ w ∈ wsX60, w ∈ wsX6_ride := fun _ h => (List.mem_cons_of_mem _ (List.mem_append_right _ h))
set_option maxHeartbeats 4000000 in
set_option maxRecDepth 100000 in
theorem c_X6_ride (l : Launch) (D : va_G) (cC cI cJ : ClassId) (a_md : Nat) (a_md_text : Nat) (a_md_told : Nat) (a_md_draft : Nat) (a_md_s : Nat) (a_md_past : Nat) (a_md_images : Nat) (a_md_seen : Nat) (a_md_asks : Nat) (a_md_brings : Nat) (a_md_uses : Nat) (a_md_days : Nat) (a_md_tries : Nat) (a_md_row : Nat) (a_md_first : Nat) (a_md_held : Nat) (md_typed : Int32) (md_known : Int32) (md_kept : Int32) (md_sights : Int32) (md_at : Int32) (md_many : Int32) (md_length : Int32) (md_set : Int32) (md_text : (Nat → Int32)) (md_told : (Nat → Int32)) (md_draft : (Nat → Int32)) (md_s : (Nat → Int32)) (md_past : (Nat → Int32)) (md_images : (Nat → Int32)) (md_seen : (Nat → Int32)) (md_asks : (Nat → Int32)) (md_brings : (Nat → Int32)) (md_uses : (Nat → Int32)) (md_days : (Nat → Int32)) (md_tries : (Nat → Int32)) (md_row : (Nat → Int32)) (md_first : (Nat → Int32)) (md_held : (Nat → Int32)) (p0 : Int32) (N : Nat) (A : Nat → Prop) (hD : va_D A (wd_28 cC cI cJ a_md a_md_text md_typed a_md_told a_md_draft a_md_s a_md_past md_known a_md_images md_kept a_md_seen md_sights md_at a_md_asks a_md_brings a_md_uses a_md_days a_md_tries a_md_row md_many a_md_first md_length md_set a_md_held a_md_text md_text a_md_told md_told a_md_draft md_draft a_md_s md_s a_md_past md_past a_md_images md_images a_md_seen md_seen a_md_asks md_asks a_md_brings md_brings a_md_uses md_uses a_md_days md_days a_md_tries md_tries a_md_row md_row a_md_first md_first a_md_held md_held)) (out : (Int32 × Int32 × (Nat → Int32) × (Nat → Int32))) (hm : m_X6_ride N md_known md_told md_s md_past p0 = some out) : WrI l yX6_ride wsX6_ride rX6_ride D (tyK cC cI cJ) [.ref a_md, .int p0] A (wd_28 cC cI cJ a_md a_md_text md_typed a_md_told a_md_draft a_md_s a_md_past md_known a_md_images md_kept a_md_seen md_sights md_at a_md_asks a_md_brings a_md_uses a_md_days a_md_tries a_md_row md_many a_md_first md_length md_set a_md_held a_md_text md_text a_md_told md_told a_md_draft md_draft a_md_s md_s a_md_past md_past a_md_images md_images a_md_seen md_seen a_md_asks md_asks a_md_brings md_brings a_md_uses md_uses a_md_days md_days a_md_tries md_tries a_md_row md_row a_md_first md_first a_md_held md_held) (Bw0 D (wd_28 cC cI cJ a_md a_md_text md_typed a_md_told a_md_draft a_md_s a_md_past out.2.1 a_md_images md_kept a_md_seen md_sights md_at a_md_asks a_md_brings a_md_uses a_md_days a_md_tries a_md_row md_many a_md_first md_length md_set a_md_held a_md_text md_text a_md_told md_told a_md_draft md_draft a_md_s out.2.2.1 a_md_past out.2.2.2 a_md_images md_images a_md_seen md_seen a_md_asks md_asks a_md_brings md_brings a_md_uses md_uses a_md_days md_days a_md_tries md_tries a_md_row md_row a_md_first md_first a_md_held md_held)) out.1 := by
  unfold m_X6_ride at hm
  refine enter (cc := cX6_ride) (maxL := 2) (ret := (some .int)) (lv := [(0, .ref a_md), (1, .int p0)]) (by decide) rfl (Nat.le_of_ble_eq_true rfl) rfl ?_
  intro p e s m args below meth c S hr hlk hK hP ls hl
  replace S : CallFix p m c cX6_ride 2 s args wsX6_ride RX6 := S
  have hx := S.1
  have hb := S.2.1
  have hw : Wd D A s.heap (wd_28 cC cI cJ a_md a_md_text md_typed a_md_told a_md_draft a_md_s a_md_past md_known a_md_images md_kept a_md_seen md_sights md_at a_md_asks a_md_brings a_md_uses a_md_days a_md_tries a_md_row md_many a_md_first md_length md_set a_md_held a_md_text md_text a_md_told md_told a_md_draft md_draft a_md_s md_s a_md_past md_past a_md_images md_images a_md_seen md_seen a_md_asks md_asks a_md_brings md_brings a_md_uses md_uses a_md_days md_days a_md_tries md_tries a_md_row md_row a_md_first md_first a_md_held md_held) s.heap [] := ⟨hP, hD, va_S.rf⟩
  have hw0 := hw
  refine lv_aload_n hx hb dX6_ride_0 rfl (lv_at hl 0 rfl) ?_
  refine lv_iload_n hx hb dX6_ride_1 rfl (lv_at hl 1 rfl) ?_
  obtain ⟨r1, h2, hm⟩ := ob hm
  refine k_rVi S hK hw.1 cal_X6_isTask gX6_ride_X6_isTask (c_X6_isTask l D cC cI cJ a_md a_md_text a_md_told a_md_draft a_md_s a_md_past a_md_images a_md_seen a_md_asks a_md_brings a_md_uses a_md_days a_md_tries a_md_row a_md_first a_md_held md_typed md_known md_kept md_sights md_at md_many md_length md_set md_text md_told md_draft md_s md_past md_images md_seen md_asks md_brings md_uses md_days md_tries md_row md_first md_held p0 r1 h2) ⟨⟨rfl, rfl⟩, Nat.le_of_ble_eq_true rfl, Nat.le_of_ble_eq_true rfl⟩ [0, 1, 2, 3, 4, 5, 6, 7, 8, 9, 10, 11, 12, 13, 14, 15] rfl 0 rfl rfl rfl hl.1 rfl (Nat.le_of_ble_eq_true rfl) dX6_ride_2 ⟨Nat.zero_le _, Nat.zero_le _⟩ ?_
  refine lv_if_ne (tgt := 10) hx hb dX6_ride_5 (by decide) (fun c3 => ?_) (fun c3 => ?_)
  · replace hm := ineg hm c3
    refine lv_aload_n hx hb dX6_ride_10 rfl (lv_at hl 0 rfl) ?_
    refine lv_iload_n hx hb dX6_ride_11 rfl (lv_at hl 1 rfl) ?_
    obtain ⟨r4, h5, hm⟩ := ob hm
    refine k_rVi S hK hw.1 cal_X6_helpNow gX6_ride_X6_helpNow (c_X6_helpNow l D cC cI cJ a_md a_md_text a_md_told a_md_draft a_md_s a_md_past a_md_images a_md_seen a_md_asks a_md_brings a_md_uses a_md_days a_md_tries a_md_row a_md_first a_md_held md_typed md_known md_kept md_sights md_at md_many md_length md_set md_text md_told md_draft md_s md_past md_images md_seen md_asks md_brings md_uses md_days md_tries md_row md_first md_held p0 N r4 h5) ⟨⟨rfl, rfl⟩, Nat.le_of_ble_eq_true rfl, Nat.le_of_ble_eq_true rfl⟩ [0, 1, 2, 3, 4, 5, 6, 7, 8, 9, 10, 11, 12, 13, 14, 15] rfl 0 rfl rfl rfl hl.1 rfl (Nat.le_of_ble_eq_true rfl) dX6_ride_12 ⟨Nat.zero_le _, Nat.zero_le _⟩ ?_
    refine lv_if_ge (tgt := 21) hx hb dX6_ride_15 (by decide) (fun c6 => ?_) (fun c6 => ?_)
    · replace hm := ipos hm c6
      refine lv_aload_n hx hb dX6_ride_21 rfl (lv_at hl 0 rfl) ?_
      obtain ⟨r7, h8, hm⟩ := ob hm
      refine k_wVv S hK hw cal_X6_keeps gX6_ride_X6_keeps (c_X6_keeps l D cC cI cJ a_md a_md_text a_md_told a_md_draft a_md_s a_md_past a_md_images a_md_seen a_md_asks a_md_brings a_md_uses a_md_days a_md_tries a_md_row a_md_first a_md_held md_typed md_known md_kept md_sights md_at md_many md_length md_set md_text md_told md_draft md_s md_past md_images md_seen md_asks md_brings md_uses md_days md_tries md_row md_first md_held N (aw _) (hw.own [0, 1, 2, 3, 4, 5, 6, 7, 8, 9, 10, 11, 12, 13, 14, 15] (by decide) rfl) r7 h8) ⟨⟨rfl, rfl⟩, Nat.le_of_ble_eq_true rfl, Nat.le_of_ble_eq_true rfl⟩ [0, 1, 2, 3, 4, 5, 6, 7, 8, 9, 10, 11, 12, 13, 14, 15] rfl 0 rfl rfl rfl hl.1 rfl (Nat.le_of_ble_eq_true rfl) dX6_ride_22 ⟨Nat.zero_le _, Nat.zero_le _⟩ (fun H locs hJ hB => ?_)
      have hw := hJ _ hB rfl
      replace hw : Wd D A _ (wd_28 cC cI cJ a_md a_md_text md_typed a_md_told a_md_draft a_md_s a_md_past r7.1 a_md_images md_kept a_md_seen md_sights md_at a_md_asks a_md_brings a_md_uses a_md_days a_md_tries a_md_row md_many a_md_first md_length md_set a_md_held a_md_text md_text a_md_told md_told a_md_draft md_draft a_md_s md_s a_md_past r7.2 a_md_images md_images a_md_seen md_seen a_md_asks md_asks a_md_brings md_brings a_md_uses md_uses a_md_days md_days a_md_tries md_tries a_md_row md_row a_md_first md_first a_md_held md_held) H locs := hw
      refine lv_aload_n hx hb dX6_ride_25 rfl (lv_at hl 0 rfl) ?_
      refine lv_iload_n hx hb dX6_ride_26 rfl (lv_at hl 1 rfl) ?_
      obtain ⟨r9, h10, hm⟩ := ob hm
      refine k_wVv S hK hw cal_X6_rides gX6_ride_X6_rides (c_X6_rides l D cC cI cJ a_md a_md_text a_md_told a_md_draft a_md_s a_md_past a_md_images a_md_seen a_md_asks a_md_brings a_md_uses a_md_days a_md_tries a_md_row a_md_first a_md_held md_typed r7.1 md_kept md_sights md_at md_many md_length md_set md_text md_told md_draft md_s r7.2 md_images md_seen md_asks md_brings md_uses md_days md_tries md_row md_first md_held p0 N (aw _) (hw.own [0, 1, 2, 3, 4, 5, 6, 7, 8, 9, 10, 11, 12, 13, 14, 15] (by decide) rfl) r9 h10) ⟨⟨rfl, rfl⟩, Nat.le_of_ble_eq_true rfl, Nat.le_of_ble_eq_true rfl⟩ [0, 1, 2, 3, 4, 5, 6, 7, 8, 9, 10, 11, 12, 13, 14, 15] rfl 0 rfl rfl rfl hl.1 rfl (Nat.le_of_ble_eq_true rfl) dX6_ride_27 ⟨Nat.zero_le _, Nat.zero_le _⟩ (fun H locs hJ hB => ?_)
      have hw := hJ _ hB rfl
      replace hw : Wd D A _ (wd_28 cC cI cJ a_md a_md_text md_typed a_md_told a_md_draft a_md_s a_md_past r7.1 a_md_images md_kept a_md_seen md_sights md_at a_md_asks a_md_brings a_md_uses a_md_days a_md_tries a_md_row md_many a_md_first md_length md_set a_md_held a_md_text md_text a_md_told md_told a_md_draft md_draft a_md_s r9 a_md_past r7.2 a_md_images md_images a_md_seen md_seen a_md_asks md_asks a_md_brings md_brings a_md_uses md_uses a_md_days md_days a_md_tries md_tries a_md_row md_row a_md_first md_first a_md_held md_held) H locs := hw
      refine lv_aload_n hx hb dX6_ride_30 rfl (lv_at hl 0 rfl) ?_
      refine f_get S hK hw.1 in_X6_ride_X6 0 rfl rfl 4 (by decide) (List.mem_of_getElem? (i := 1) rfl) rfl rfl dX6_ride_31 ?_
      refine lv_iconst (v := 5) hx hb dX6_ride_34 (by decide) ?_
      refine f_ialdK S hK hw.1 4 1 rfl rfl 5 (by decide) (by decide) (v := (r9 5)) rfl dX6_ride_35 ?_
      obtain rfl := Option.some.inj hm
      exact e_WI S hr hlk hw rfl hw.1 dX6_ride_36
    · replace hm := ineg hm c6
      refine lv_bipush (v := (-2)) hx hb dX6_ride_18 (by decide) ?_
      obtain rfl := Option.some.inj hm
      exact e_WI S hr hlk hw rfl hw.1 dX6_ride_20
  · replace hm := ipos hm c3
    refine lv_iconst (v := (-1)) hx hb dX6_ride_8 (by decide) ?_
    obtain rfl := Option.some.inj hm
    exact e_WI S hr hlk hw rfl hw.1 dX6_ride_9

abbrev rX6_rows : Room := { frames := 3, cells := 0, slots := 0, locals := 77 }
theorem cal_X6_rows : Cal yX6_rows wsX6_rows cX6_rows 2 (some .int) RX6 1 := ⟨⟨_, rfl⟩, rfl, by decide +kernel, by decide +kernel, by decide +kernel⟩
theorem in_X6_rows_X6 : ∀ w ∈ wsX60, w ∈ wsX6_rows := fun _ h => (List.mem_cons_of_mem _ (List.mem_append_right _ h))
set_option maxHeartbeats 4000000 in
set_option maxRecDepth 100000 in
theorem c_X6_rows (l : Launch) (D : va_G) (cC cI cJ : ClassId) (a_md : Nat) (a_md_text : Nat) (a_md_told : Nat) (a_md_draft : Nat) (a_md_s : Nat) (a_md_past : Nat) (a_md_images : Nat) (a_md_seen : Nat) (a_md_asks : Nat) (a_md_brings : Nat) (a_md_uses : Nat) (a_md_days : Nat) (a_md_tries : Nat) (a_md_row : Nat) (a_md_first : Nat) (a_md_held : Nat) (md_typed : Int32) (md_known : Int32) (md_kept : Int32) (md_sights : Int32) (md_at : Int32) (md_many : Int32) (md_length : Int32) (md_set : Int32) (md_text : (Nat → Int32)) (md_told : (Nat → Int32)) (md_draft : (Nat → Int32)) (md_s : (Nat → Int32)) (md_past : (Nat → Int32)) (md_images : (Nat → Int32)) (md_seen : (Nat → Int32)) (md_asks : (Nat → Int32)) (md_brings : (Nat → Int32)) (md_uses : (Nat → Int32)) (md_days : (Nat → Int32)) (md_tries : (Nat → Int32)) (md_row : (Nat → Int32)) (md_first : (Nat → Int32)) (md_held : (Nat → Int32)) (p0 : Int32) (N : Nat) (A : Nat → Prop) (hD : va_D A (wd_28 cC cI cJ a_md a_md_text md_typed a_md_told a_md_draft a_md_s a_md_past md_known a_md_images md_kept a_md_seen md_sights md_at a_md_asks a_md_brings a_md_uses a_md_days a_md_tries a_md_row md_many a_md_first md_length md_set a_md_held a_md_text md_text a_md_told md_told a_md_draft md_draft a_md_s md_s a_md_past md_past a_md_images md_images a_md_seen md_seen a_md_asks md_asks a_md_brings md_brings a_md_uses md_uses a_md_days md_days a_md_tries md_tries a_md_row md_row a_md_first md_first a_md_held md_held)) (out : (Int32 × Int32 × Int32 × (Nat → Int32) × (Nat → Int32) × (Nat → Int32) × (Nat → Int32) × (Nat → Int32) × (Nat → Int32) × (Nat → Int32))) (hm : m_X6_rows N md_sights md_many md_length md_told md_s md_seen md_asks md_brings md_uses md_days md_tries md_row md_first p0 = some out) : WrI l yX6_rows wsX6_rows rX6_rows D (tyK cC cI cJ) [.ref a_md, .int p0] A (wd_28 cC cI cJ a_md a_md_text md_typed a_md_told a_md_draft a_md_s a_md_past md_known a_md_images md_kept a_md_seen md_sights md_at a_md_asks a_md_brings a_md_uses a_md_days a_md_tries a_md_row md_many a_md_first md_length md_set a_md_held a_md_text md_text a_md_told md_told a_md_draft md_draft a_md_s md_s a_md_past md_past a_md_images md_images a_md_seen md_seen a_md_asks md_asks a_md_brings md_brings a_md_uses md_uses a_md_days md_days a_md_tries md_tries a_md_row md_row a_md_first md_first a_md_held md_held) (Bw0 D (wd_28 cC cI cJ a_md a_md_text md_typed a_md_told a_md_draft a_md_s a_md_past md_known a_md_images md_kept a_md_seen md_sights md_at a_md_asks a_md_brings a_md_uses a_md_days a_md_tries a_md_row out.2.1 a_md_first out.2.2.1 md_set a_md_held a_md_text md_text a_md_told md_told a_md_draft md_draft a_md_s md_s a_md_past md_past a_md_images md_images a_md_seen md_seen a_md_asks out.2.2.2.1 a_md_brings out.2.2.2.2.1 a_md_uses out.2.2.2.2.2.1 a_md_days out.2.2.2.2.2.2.1 a_md_tries out.2.2.2.2.2.2.2.1 a_md_row out.2.2.2.2.2.2.2.2.1 a_md_first out.2.2.2.2.2.2.2.2.2 a_md_held md_held)) out.1 := by
  unfold m_X6_rows at hm
  refine enter (cc := cX6_rows) (maxL := 2) (ret := (some .int)) (lv := [(0, .ref a_md), (1, .int p0)]) (by decide) rfl (Nat.le_of_ble_eq_true rfl) rfl ?_
  intro p e s m args below meth c S hr hlk hK hP ls hl
  replace S : CallFix p m c cX6_rows 2 s args wsX6_rows RX6 := S
  have hx := S.1
  have hb := S.2.1
  have hw : Wd D A s.heap (wd_28 cC cI cJ a_md a_md_text md_typed a_md_told a_md_draft a_md_s a_md_past md_known a_md_images md_kept a_md_seen md_sights md_at a_md_asks a_md_brings a_md_uses a_md_days a_md_tries a_md_row md_many a_md_first md_length md_set a_md_held a_md_text md_text a_md_told md_told a_md_draft md_draft a_md_s md_s a_md_past md_past a_md_images md_images a_md_seen md_seen a_md_asks md_asks a_md_brings md_brings a_md_uses md_uses a_md_days md_days a_md_tries md_tries a_md_row md_row a_md_first md_first a_md_held md_held) s.heap [] := ⟨hP, hD, va_S.rf⟩
  have hw0 := hw
  refine lv_iload_n hx hb dX6_rows_0 rfl (lv_at hl 1 rfl) ?_
  refine lv_iconst (v := 0) hx hb dX6_rows_1 (by decide) ?_
  refine lv_bipush (v := 8) hx hb dX6_rows_2 (by decide) ?_
  obtain ⟨r1, h2, hm⟩ := ob hm
  refine k_rSi S hK hw.1 cal_X6_in gX6_rows_X6_in (c_X6_in l D cC cI cJ p0 (0 : Int32) (8 : Int32) r1 h2) ⟨⟨rfl, rfl⟩, Nat.le_of_ble_eq_true rfl, Nat.le_of_ble_eq_true rfl⟩ [] rfl rfl hl.1 rfl (Nat.le_of_ble_eq_true rfl) dX6_rows_4 ⟨Nat.zero_le _, Nat.zero_le _⟩ ?_
  refine lv_if_ne (tgt := 12) hx hb dX6_rows_7 (by decide) (fun c3 => ?_) (fun c3 => ?_)
  · replace hm := ineg hm c3
    refine lv_aload_n hx hb dX6_rows_12 rfl (lv_at hl 0 rfl) ?_
    refine lv_iconst (v := 1) hx hb dX6_rows_13 (by decide) ?_
    refine lv_iconst (v := 0) hx hb dX6_rows_14 (by decide) ?_
    obtain ⟨r4, h5, hm⟩ := ob hm
    refine k_wVv S hK hw cal_X6_walks gX6_rows_X6_walks (c_X6_walks l D cC cI cJ a_md a_md_text a_md_told a_md_draft a_md_s a_md_past a_md_images a_md_seen a_md_asks a_md_brings a_md_uses a_md_days a_md_tries a_md_row a_md_first a_md_held md_typed md_known md_kept md_sights md_at md_many md_length md_set md_text md_told md_draft md_s md_past md_images md_seen md_asks md_brings md_uses md_days md_tries md_row md_first md_held (1 : Int32) (0 : Int32) N (aw _) (hw.own [0, 1, 2, 3, 4, 5, 6, 7, 8, 9, 10, 11, 12, 13, 14, 15] (by decide) rfl) r4 h5) ⟨⟨rfl, rfl⟩, Nat.le_of_ble_eq_true rfl, Nat.le_of_ble_eq_true rfl⟩ [0, 1, 2, 3, 4, 5, 6, 7, 8, 9, 10, 11, 12, 13, 14, 15] rfl 0 rfl rfl rfl hl.1 rfl (Nat.le_of_ble_eq_true rfl) dX6_rows_15 ⟨Nat.zero_le _, Nat.zero_le _⟩ (fun H locs hJ hB => ?_)
    have hw := hJ _ hB rfl
    replace hw : Wd D A _ (wd_28 cC cI cJ a_md a_md_text md_typed a_md_told a_md_draft a_md_s a_md_past md_known a_md_images md_kept a_md_seen md_sights md_at a_md_asks a_md_brings a_md_uses a_md_days a_md_tries a_md_row r4.1 a_md_first r4.2.1 md_set a_md_held a_md_text md_text a_md_told md_told a_md_draft md_draft a_md_s md_s a_md_past md_past a_md_images md_images a_md_seen md_seen a_md_asks r4.2.2.1 a_md_brings r4.2.2.2.1 a_md_uses r4.2.2.2.2.1 a_md_days r4.2.2.2.2.2.1 a_md_tries r4.2.2.2.2.2.2.1 a_md_row r4.2.2.2.2.2.2.2.1 a_md_first r4.2.2.2.2.2.2.2.2 a_md_held md_held) H locs := hw
    refine lv_iload_n hx hb dX6_rows_18 rfl (lv_at hl 1 rfl) ?_
    refine lv_if_ne (tgt := 29) hx hb dX6_rows_19 (by decide) (fun c6 => ?_) (fun c6 => ?_)
    · replace hm := ineg hm c6
      refine lv_iload_n hx hb dX6_rows_29 rfl (lv_at hl 1 rfl) ?_
      refine lv_aload_n hx hb dX6_rows_30 rfl (lv_at hl 0 rfl) ?_
      refine f_get S hK hw.1 in_X6_rows_X6 0 rfl rfl 20 (by decide) (List.mem_of_getElem? (i := 2) rfl) rfl rfl dX6_rows_31 ?_
      refine lv_icmp_le (tgt := 42) hx hb dX6_rows_34 (by decide) (fun c7 => ?_) (fun c7 => ?_)
      · replace hm := ipos hm c7
        refine lv_aload_n hx hb dX6_rows_42 rfl (lv_at hl 0 rfl) ?_
        refine f_get S hK hw.1 in_X6_rows_X6 0 rfl rfl 19 (by decide) (List.mem_of_getElem? (i := 3) rfl) rfl rfl dX6_rows_43 ?_
        refine lv_iload_n hx hb dX6_rows_46 rfl (lv_at hl 1 rfl) ?_
        refine lv_iconst (v := 1) hx hb dX6_rows_47 (by decide) ?_
        refine lv_isub hx hb dX6_rows_48 ?_
        obtain ⟨g8, hm⟩ := gdo hm
        refine f_iald S hK hw.1 14 1 rfl rfl g8 dX6_rows_49 ?_
        obtain rfl := Option.some.inj hm
        exact e_WI S hr hlk hw rfl hw.1 dX6_rows_50
      · replace hm := ineg hm c7
        refine lv_bipush (v := (-4)) hx hb dX6_rows_37 (by decide) ?_
        refine lv_goto (tgt := 50) hx hb dX6_rows_39 (by decide) ?_
        obtain rfl := Option.some.inj hm
        exact e_WI S hr hlk hw rfl hw.1 dX6_rows_50
    · replace hm := ipos hm c6
      refine lv_aload_n hx hb dX6_rows_22 rfl (lv_at hl 0 rfl) ?_
      refine f_get S hK hw.1 in_X6_rows_X6 0 rfl rfl 18 (by decide) (List.mem_of_getElem? (i := 1) rfl) rfl rfl dX6_rows_23 ?_
      refine lv_goto (tgt := 50) hx hb dX6_rows_26 (by decide) ?_
      obtain rfl := Option.some.inj hm
      exact e_WI S hr hlk hw rfl hw.1 dX6_rows_50
  · replace hm := ipos hm c3
    refine lv_iconst (v := (-1)) hx hb dX6_rows_10 (by decide) ?_
    obtain rfl := Option.some.inj hm
    exact e_WI S hr hlk hw rfl hw.1 dX6_rows_11

abbrev rX6_see : Room := { frames := 2, cells := 0, slots := 0, locals := 43 }
theorem cal_X6_see : Cal yX6_see wsX6_see cX6_see 3 (some .int) RX6 2 := ⟨⟨_, rfl⟩, rfl, by decide +kernel, by decide +kernel, by decide +kernel⟩
theorem in_X6_see_X6 : ∀ w ∈ wsX60, w ∈ wsX6_see := fun _ h => (List.mem_cons_of_mem _ (List.mem_append_right _ h))
set_option maxHeartbeats 4000000 in
set_option maxRecDepth 100000 in
theorem c_X6_see (l : Launch) (D : va_G) (cC cI cJ : ClassId) (a_md : Nat) (a_md_text : Nat) (a_md_told : Nat) (a_md_draft : Nat) (a_md_s : Nat) (a_md_past : Nat) (a_md_images : Nat) (a_md_seen : Nat) (a_md_asks : Nat) (a_md_brings : Nat) (a_md_uses : Nat) (a_md_days : Nat) (a_md_tries : Nat) (a_md_row : Nat) (a_md_first : Nat) (a_md_held : Nat) (md_typed : Int32) (md_known : Int32) (md_kept : Int32) (md_sights : Int32) (md_at : Int32) (md_many : Int32) (md_length : Int32) (md_set : Int32) (md_text : (Nat → Int32)) (md_told : (Nat → Int32)) (md_draft : (Nat → Int32)) (md_s : (Nat → Int32)) (md_past : (Nat → Int32)) (md_images : (Nat → Int32)) (md_seen : (Nat → Int32)) (md_asks : (Nat → Int32)) (md_brings : (Nat → Int32)) (md_uses : (Nat → Int32)) (md_days : (Nat → Int32)) (md_tries : (Nat → Int32)) (md_row : (Nat → Int32)) (md_first : (Nat → Int32)) (md_held : (Nat → Int32)) (p0 : Int32) (p1 : Int32) (A : Nat → Prop) (hD : va_D A (wd_28 cC cI cJ a_md a_md_text md_typed a_md_told a_md_draft a_md_s a_md_past md_known a_md_images md_kept a_md_seen md_sights md_at a_md_asks a_md_brings a_md_uses a_md_days a_md_tries a_md_row md_many a_md_first md_length md_set a_md_held a_md_text md_text a_md_told md_told a_md_draft md_draft a_md_s md_s a_md_past md_past a_md_images md_images a_md_seen md_seen a_md_asks md_asks a_md_brings md_brings a_md_uses md_uses a_md_days md_days a_md_tries md_tries a_md_row md_row a_md_first md_first a_md_held md_held)) (out : (Int32 × Int32 × (Nat → Int32))) (hm : m_X6_see md_sights md_told md_seen p0 p1 = some out) : WrI l yX6_see wsX6_see rX6_see D (tyK cC cI cJ) [.ref a_md, .int p0, .int p1] A (wd_28 cC cI cJ a_md a_md_text md_typed a_md_told a_md_draft a_md_s a_md_past md_known a_md_images md_kept a_md_seen md_sights md_at a_md_asks a_md_brings a_md_uses a_md_days a_md_tries a_md_row md_many a_md_first md_length md_set a_md_held a_md_text md_text a_md_told md_told a_md_draft md_draft a_md_s md_s a_md_past md_past a_md_images md_images a_md_seen md_seen a_md_asks md_asks a_md_brings md_brings a_md_uses md_uses a_md_days md_days a_md_tries md_tries a_md_row md_row a_md_first md_first a_md_held md_held) (Bw0 D (wd_28 cC cI cJ a_md a_md_text md_typed a_md_told a_md_draft a_md_s a_md_past md_known a_md_images md_kept a_md_seen out.2.1 md_at a_md_asks a_md_brings a_md_uses a_md_days a_md_tries a_md_row md_many a_md_first md_length md_set a_md_held a_md_text md_text a_md_told md_told a_md_draft md_draft a_md_s md_s a_md_past md_past a_md_images md_images a_md_seen out.2.2 a_md_asks md_asks a_md_brings md_brings a_md_uses md_uses a_md_days md_days a_md_tries md_tries a_md_row md_row a_md_first md_first a_md_held md_held)) out.1 := by
  unfold m_X6_see at hm
  refine enter (cc := cX6_see) (maxL := 3) (ret := (some .int)) (lv := [(0, .ref a_md), (1, .int p0), (2, .int p1)]) (by decide) rfl (Nat.le_of_ble_eq_true rfl) rfl ?_
  intro p e s m args below meth c S hr hlk hK hP ls hl
  replace S : CallFix p m c cX6_see 3 s args wsX6_see RX6 := S
  have hx := S.1
  have hb := S.2.1
  have hw : Wd D A s.heap (wd_28 cC cI cJ a_md a_md_text md_typed a_md_told a_md_draft a_md_s a_md_past md_known a_md_images md_kept a_md_seen md_sights md_at a_md_asks a_md_brings a_md_uses a_md_days a_md_tries a_md_row md_many a_md_first md_length md_set a_md_held a_md_text md_text a_md_told md_told a_md_draft md_draft a_md_s md_s a_md_past md_past a_md_images md_images a_md_seen md_seen a_md_asks md_asks a_md_brings md_brings a_md_uses md_uses a_md_days md_days a_md_tries md_tries a_md_row md_row a_md_first md_first a_md_held md_held) s.heap [] := ⟨hP, hD, va_S.rf⟩
  have hw0 := hw
  refine lv_aload_n hx hb dX6_see_0 rfl (lv_at hl 0 rfl) ?_
  refine lv_iload_n hx hb dX6_see_1 rfl (lv_at hl 1 rfl) ?_
  obtain ⟨r1, h2, hm⟩ := ob hm
  refine k_rVi S hK hw.1 cal_X6_isTask gX6_see_X6_isTask (c_X6_isTask l D cC cI cJ a_md a_md_text a_md_told a_md_draft a_md_s a_md_past a_md_images a_md_seen a_md_asks a_md_brings a_md_uses a_md_days a_md_tries a_md_row a_md_first a_md_held md_typed md_known md_kept md_sights md_at md_many md_length md_set md_text md_told md_draft md_s md_past md_images md_seen md_asks md_brings md_uses md_days md_tries md_row md_first md_held p0 r1 h2) ⟨⟨rfl, rfl⟩, Nat.le_of_ble_eq_true rfl, Nat.le_of_ble_eq_true rfl⟩ [0, 1, 2, 3, 4, 5, 6, 7, 8, 9, 10, 11, 12, 13, 14, 15] rfl 0 rfl rfl rfl hl.1 rfl (Nat.le_of_ble_eq_true rfl) dX6_see_2 ⟨Nat.zero_le _, Nat.zero_le _⟩ ?_
  refine lv_if_eq (tgt := 18) hx hb dX6_see_5 (by decide) (fun c3 => ?_) (fun c3 => ?_)
  · replace hm := ipos hm c3
    refine lv_iconst (v := (-1)) hx hb dX6_see_18 (by decide) ?_
    obtain rfl := Option.some.inj hm
    exact e_WI S hr hlk hw rfl hw.1 dX6_see_19
  · replace hm := ineg hm c3
    refine lv_iload_n hx hb dX6_see_8 rfl (lv_at hl 2 rfl) ?_
    refine lv_iconst (v := 1) hx hb dX6_see_9 (by decide) ?_
    refine lv_bipush (v := 8) hx hb dX6_see_10 (by decide) ?_
    obtain ⟨r4, h5, hm⟩ := ob hm
    refine k_rSi S hK hw.1 cal_X6_in gX6_see_X6_in (c_X6_in l D cC cI cJ p1 (1 : Int32) (8 : Int32) r4 h5) ⟨⟨rfl, rfl⟩, Nat.le_of_ble_eq_true rfl, Nat.le_of_ble_eq_true rfl⟩ [] rfl rfl hl.1 rfl (Nat.le_of_ble_eq_true rfl) dX6_see_12 ⟨Nat.zero_le _, Nat.zero_le _⟩ ?_
    refine lv_if_ne (tgt := 20) hx hb dX6_see_15 (by decide) (fun c6 => ?_) (fun c6 => ?_)
    · replace hm := ineg hm c6
      refine lv_aload_n hx hb dX6_see_20 rfl (lv_at hl 0 rfl) ?_
      refine f_get S hK hw.1 in_X6_see_X6 0 rfl rfl 10 (by decide) (List.mem_of_getElem? (i := 1) rfl) rfl rfl dX6_see_21 ?_
      refine lv_bipush (v := 6) hx hb dX6_see_24 (by decide) ?_
      refine lv_icmp_ne (tgt := 32) hx hb dX6_see_26 (by decide) (fun c7 => ?_) (fun c7 => ?_)
      · replace hm := ineg hm c7
        refine lv_aload_n hx hb dX6_see_32 rfl (lv_at hl 0 rfl) ?_
        refine f_get S hK hw.1 in_X6_see_X6 0 rfl rfl 9 (by decide) (List.mem_of_getElem? (i := 2) rfl) rfl rfl dX6_see_33 ?_
        refine lv_aload_n hx hb dX6_see_36 rfl (lv_at hl 0 rfl) ?_
        refine f_get S hK hw.1 in_X6_see_X6 0 rfl rfl 10 (by decide) (List.mem_of_getElem? (i := 1) rfl) rfl rfl dX6_see_37 ?_
        refine lv_bipush (v := 10) hx hb dX6_see_40 (by decide) ?_
        refine lv_iload_n hx hb dX6_see_42 rfl (lv_at hl 1 rfl) ?_
        refine lv_imul hx hb dX6_see_43 ?_
        refine lv_iload_n hx hb dX6_see_44 rfl (lv_at hl 2 rfl) ?_
        refine lv_iadd hx hb dX6_see_45 ?_
        obtain ⟨g8, hm⟩ := gdo hm
        refine f_iast S hK hw 7 1 rfl rfl g8 (ws1 := (wd_28 cC cI cJ a_md a_md_text md_typed a_md_told a_md_draft a_md_s a_md_past md_known a_md_images md_kept a_md_seen md_sights md_at a_md_asks a_md_brings a_md_uses a_md_days a_md_tries a_md_row md_many a_md_first md_length md_set a_md_held a_md_text md_text a_md_told md_told a_md_draft md_draft a_md_s md_s a_md_past md_past a_md_images md_images a_md_seen (upd md_seen (md_sights).toNatClampNeg (((10 : Int32) * p0) + p1)) a_md_asks md_asks a_md_brings md_brings a_md_uses md_uses a_md_days md_days a_md_tries md_tries a_md_row md_row a_md_first md_first a_md_held md_held)) rfl dX6_see_46 (fun H locs hw => ?_)
        refine lv_aload_n hx hb dX6_see_47 rfl (lv_at hl 0 rfl) ?_
        refine lv_dup hx hb dX6_see_48 rfl ?_
        refine f_get S hK hw.1 in_X6_see_X6 0 rfl rfl 10 (by decide) (List.mem_of_getElem? (i := 1) rfl) rfl rfl dX6_see_49 ?_
        refine lv_iconst (v := 1) hx hb dX6_see_52 (by decide) ?_
        refine lv_iadd hx hb dX6_see_53 ?_
        refine f_put S hK hw in_X6_see_X6 tyX6_ok nmX6 0 rfl rfl 10 (by decide) (List.mem_of_getElem? (i := 1) rfl) rfl rfl rfl rfl (Nat.le_of_ble_eq_true rfl) (ws1 := (wd_28 cC cI cJ a_md a_md_text md_typed a_md_told a_md_draft a_md_s a_md_past md_known a_md_images md_kept a_md_seen (md_sights + (1 : Int32)) md_at a_md_asks a_md_brings a_md_uses a_md_days a_md_tries a_md_row md_many a_md_first md_length md_set a_md_held a_md_text md_text a_md_told md_told a_md_draft md_draft a_md_s md_s a_md_past md_past a_md_images md_images a_md_seen (upd md_seen (md_sights).toNatClampNeg (((10 : Int32) * p0) + p1)) a_md_asks md_asks a_md_brings md_brings a_md_uses md_uses a_md_days md_days a_md_tries md_tries a_md_row md_row a_md_first md_first a_md_held md_held)) rfl dX6_see_54 (fun H locs hw => ?_)
        refine lv_aload_n hx hb dX6_see_57 rfl (lv_at hl 0 rfl) ?_
        refine f_get S hK hw.1 in_X6_see_X6 0 rfl rfl 10 (by decide) (List.mem_of_getElem? (i := 1) rfl) rfl rfl dX6_see_58 ?_
        obtain rfl := Option.some.inj hm
        exact e_WI S hr hlk hw rfl hw.1 dX6_see_61
      · replace hm := ipos hm c7
        refine lv_bipush (v := (-3)) hx hb dX6_see_29 (by decide) ?_
        obtain rfl := Option.some.inj hm
        exact e_WI S hr hlk hw rfl hw.1 dX6_see_31
    · replace hm := ipos hm c6
      refine lv_iconst (v := (-1)) hx hb dX6_see_18 (by decide) ?_
      obtain rfl := Option.some.inj hm
      exact e_WI S hr hlk hw rfl hw.1 dX6_see_19

abbrev rX6_step : Room := { frames := 4, cells := 0, slots := 0, locals := 93 }
theorem cal_X6_step : Cal yX6_step wsX6_step cX6_step 6 (some .int) RX6 1 := ⟨⟨_, rfl⟩, rfl, by decide +kernel, by decide +kernel, by decide +kernel⟩
theorem in_X6_step_X6 : ∀ w ∈ wsX60, w ∈ wsX6_step := fun _ h => (List.mem_cons_of_mem _ (List.mem_append_right _ h))
set_option maxHeartbeats 4000000 in
set_option maxRecDepth 100000 in
theorem c_X6_step (l : Launch) (D : va_G) (cC cI cJ : ClassId) (a_md : Nat) (a_md_text : Nat) (a_md_told : Nat) (a_md_draft : Nat) (a_md_s : Nat) (a_md_past : Nat) (a_md_images : Nat) (a_md_seen : Nat) (a_md_asks : Nat) (a_md_brings : Nat) (a_md_uses : Nat) (a_md_days : Nat) (a_md_tries : Nat) (a_md_row : Nat) (a_md_first : Nat) (a_md_held : Nat) (md_typed : Int32) (md_known : Int32) (md_kept : Int32) (md_sights : Int32) (md_at : Int32) (md_many : Int32) (md_length : Int32) (md_set : Int32) (md_text : (Nat → Int32)) (md_told : (Nat → Int32)) (md_draft : (Nat → Int32)) (md_s : (Nat → Int32)) (md_past : (Nat → Int32)) (md_images : (Nat → Int32)) (md_seen : (Nat → Int32)) (md_asks : (Nat → Int32)) (md_brings : (Nat → Int32)) (md_uses : (Nat → Int32)) (md_days : (Nat → Int32)) (md_tries : (Nat → Int32)) (md_row : (Nat → Int32)) (md_first : (Nat → Int32)) (md_held : (Nat → Int32)) (p0 : Int32) (N : Nat) (A : Nat → Prop) (hD : va_D A (wd_28 cC cI cJ a_md a_md_text md_typed a_md_told a_md_draft a_md_s a_md_past md_known a_md_images md_kept a_md_seen md_sights md_at a_md_asks a_md_brings a_md_uses a_md_days a_md_tries a_md_row md_many a_md_first md_length md_set a_md_held a_md_text md_text a_md_told md_told a_md_draft md_draft a_md_s md_s a_md_past md_past a_md_images md_images a_md_seen md_seen a_md_asks md_asks a_md_brings md_brings a_md_uses md_uses a_md_days md_days a_md_tries md_tries a_md_row md_row a_md_first md_first a_md_held md_held)) (out : (Int32 × Int32 × Int32 × (Nat → Int32) × (Nat → Int32) × (Nat → Int32) × (Nat → Int32) × (Nat → Int32) × (Nat → Int32) × (Nat → Int32) × (Nat → Int32))) (hm : m_X6_step N md_sights md_many md_length md_told md_s md_seen md_asks md_brings md_uses md_days md_tries md_row md_first p0 = some out) : WrI l yX6_step wsX6_step rX6_step D (tyK cC cI cJ) [.ref a_md, .int p0] A (wd_28 cC cI cJ a_md a_md_text md_typed a_md_told a_md_draft a_md_s a_md_past md_known a_md_images md_kept a_md_seen md_sights md_at a_md_asks a_md_brings a_md_uses a_md_days a_md_tries a_md_row md_many a_md_first md_length md_set a_md_held a_md_text md_text a_md_told md_told a_md_draft md_draft a_md_s md_s a_md_past md_past a_md_images md_images a_md_seen md_seen a_md_asks md_asks a_md_brings md_brings a_md_uses md_uses a_md_days md_days a_md_tries md_tries a_md_row md_row a_md_first md_first a_md_held md_held) (Bw0 D (wd_28 cC cI cJ a_md a_md_text md_typed a_md_told a_md_draft a_md_s a_md_past md_known a_md_images md_kept a_md_seen md_sights md_at a_md_asks a_md_brings a_md_uses a_md_days a_md_tries a_md_row out.2.1 a_md_first out.2.2.1 md_set a_md_held a_md_text md_text a_md_told md_told a_md_draft md_draft a_md_s out.2.2.2.1 a_md_past md_past a_md_images md_images a_md_seen md_seen a_md_asks out.2.2.2.2.1 a_md_brings out.2.2.2.2.2.1 a_md_uses out.2.2.2.2.2.2.1 a_md_days out.2.2.2.2.2.2.2.1 a_md_tries out.2.2.2.2.2.2.2.2.1 a_md_row out.2.2.2.2.2.2.2.2.2.1 a_md_first out.2.2.2.2.2.2.2.2.2.2 a_md_held md_held)) out.1 := by
  unfold m_X6_step at hm
  refine enter (cc := cX6_step) (maxL := 6) (ret := (some .int)) (lv := [(0, .ref a_md), (1, .int p0)]) (by decide) rfl (Nat.le_of_ble_eq_true rfl) rfl ?_
  intro p e s m args below meth c S hr hlk hK hP ls hl
  replace S : CallFix p m c cX6_step 6 s args wsX6_step RX6 := S
  have hx := S.1
  have hb := S.2.1
  have hw : Wd D A s.heap (wd_28 cC cI cJ a_md a_md_text md_typed a_md_told a_md_draft a_md_s a_md_past md_known a_md_images md_kept a_md_seen md_sights md_at a_md_asks a_md_brings a_md_uses a_md_days a_md_tries a_md_row md_many a_md_first md_length md_set a_md_held a_md_text md_text a_md_told md_told a_md_draft md_draft a_md_s md_s a_md_past md_past a_md_images md_images a_md_seen md_seen a_md_asks md_asks a_md_brings md_brings a_md_uses md_uses a_md_days md_days a_md_tries md_tries a_md_row md_row a_md_first md_first a_md_held md_held) s.heap [] := ⟨hP, hD, va_S.rf⟩
  have hw0 := hw
  refine lv_aload_n hx hb dX6_step_0 rfl (lv_at hl 0 rfl) ?_
  refine lv_iload_n hx hb dX6_step_1 rfl (lv_at hl 1 rfl) ?_
  obtain ⟨r1, h2, hm⟩ := ob hm
  refine k_rVi S hK hw.1 cal_X6_isTask gX6_step_X6_isTask (c_X6_isTask l D cC cI cJ a_md a_md_text a_md_told a_md_draft a_md_s a_md_past a_md_images a_md_seen a_md_asks a_md_brings a_md_uses a_md_days a_md_tries a_md_row a_md_first a_md_held md_typed md_known md_kept md_sights md_at md_many md_length md_set md_text md_told md_draft md_s md_past md_images md_seen md_asks md_brings md_uses md_days md_tries md_row md_first md_held p0 r1 h2) ⟨⟨rfl, rfl⟩, Nat.le_of_ble_eq_true rfl, Nat.le_of_ble_eq_true rfl⟩ [0, 1, 2, 3, 4, 5, 6, 7, 8, 9, 10, 11, 12, 13, 14, 15] rfl 0 rfl rfl rfl hl.1 rfl (Nat.le_of_ble_eq_true rfl) dX6_step_2 ⟨Nat.zero_le _, Nat.zero_le _⟩ ?_
  refine lv_if_ne (tgt := 10) hx hb dX6_step_5 (by decide) (fun c3 => ?_) (fun c3 => ?_)
  · replace hm := ineg hm c3
    refine lv_aload_n hx hb dX6_step_10 rfl (lv_at hl 0 rfl) ?_
    refine lv_iload_n hx hb dX6_step_11 rfl (lv_at hl 1 rfl) ?_
    obtain ⟨r4, h5, hm⟩ := ob hm
    refine k_rVi S hK hw.1 cal_X6_helpNow gX6_step_X6_helpNow (c_X6_helpNow l D cC cI cJ a_md a_md_text a_md_told a_md_draft a_md_s a_md_past a_md_images a_md_seen a_md_asks a_md_brings a_md_uses a_md_days a_md_tries a_md_row a_md_first a_md_held md_typed md_known md_kept md_sights md_at md_many md_length md_set md_text md_told md_draft md_s md_past md_images md_seen md_asks md_brings md_uses md_days md_tries md_row md_first md_held p0 N r4 h5) ⟨⟨rfl, rfl⟩, Nat.le_of_ble_eq_true rfl, Nat.le_of_ble_eq_true rfl⟩ [0, 1, 2, 3, 4, 5, 6, 7, 8, 9, 10, 11, 12, 13, 14, 15] rfl 0 rfl rfl rfl hl.1 rfl (Nat.le_of_ble_eq_true rfl) dX6_step_12 ⟨Nat.zero_le _, Nat.zero_le _⟩ ?_
    refine lv_if_ge (tgt := 20) hx hb dX6_step_15 (by decide) (fun c6 => ?_) (fun c6 => ?_)
    · replace hm := ipos hm c6
      refine lv_aload_n hx hb dX6_step_20 rfl (lv_at hl 0 rfl) ?_
      refine f_get S hK hw.1 in_X6_step_X6 0 rfl rfl 4 (by decide) (List.mem_of_getElem? (i := 1) rfl) rfl rfl dX6_step_21 ?_
      refine lv_iconst (v := 0) hx hb dX6_step_24 (by decide) ?_
      refine f_ialdK S hK hw.1 4 1 rfl rfl 0 (by decide) (by decide) (v := (md_s 0)) rfl dX6_step_25 ?_
      refine lv_istore_n (lv' := [(2, .int (md_s 0)), (0, .ref a_md), (1, .int p0)]) hx hb dX6_step_26 rfl hl (by decide) rfl (fun ls hl => ?_)
      refine lv_aload_n hx hb dX6_step_27 rfl (lv_at hl 1 rfl) ?_
      refine f_get S hK hw.1 in_X6_step_X6 0 rfl rfl 4 (by decide) (List.mem_of_getElem? (i := 1) rfl) rfl rfl dX6_step_28 ?_
      refine lv_iconst (v := 1) hx hb dX6_step_31 (by decide) ?_
      refine f_ialdK S hK hw.1 4 1 rfl rfl 1 (by decide) (by decide) (v := (md_s 1)) rfl dX6_step_32 ?_
      refine lv_istore_n (lv' := [(3, .int (md_s 1)), (2, .int (md_s 0)), (0, .ref a_md), (1, .int p0)]) hx hb dX6_step_33 rfl hl (by decide) rfl (fun ls hl => ?_)
      refine lv_aload_n hx hb dX6_step_34 rfl (lv_at hl 2 rfl) ?_
      refine f_get S hK hw.1 in_X6_step_X6 0 rfl rfl 4 (by decide) (List.mem_of_getElem? (i := 1) rfl) rfl rfl dX6_step_35 ?_
      refine lv_iconst (v := 3) hx hb dX6_step_38 (by decide) ?_
      refine f_ialdK S hK hw.1 4 1 rfl rfl 3 (by decide) (by decide) (v := (md_s 3)) rfl dX6_step_39 ?_
      refine lv_istore (lv' := [(4, .int (md_s 3)), (3, .int (md_s 1)), (2, .int (md_s 0)), (0, .ref a_md), (1, .int p0)]) hx hb dX6_step_40 hl (by decide) rfl (fun ls hl => ?_)
      refine lv_aload_n hx hb dX6_step_42 rfl (lv_at hl 3 rfl) ?_
      refine f_get S hK hw.1 in_X6_step_X6 0 rfl rfl 4 (by decide) (List.mem_of_getElem? (i := 1) rfl) rfl rfl dX6_step_43 ?_
      refine lv_iconst (v := 5) hx hb dX6_step_46 (by decide) ?_
      refine f_ialdK S hK hw.1 4 1 rfl rfl 5 (by decide) (by decide) (v := (md_s 5)) rfl dX6_step_47 ?_
      refine lv_istore (lv' := [(5, .int (md_s 5)), (4, .int (md_s 3)), (3, .int (md_s 1)), (2, .int (md_s 0)), (0, .ref a_md), (1, .int p0)]) hx hb dX6_step_48 hl (by decide) rfl (fun ls hl => ?_)
      refine lv_aload_n hx hb dX6_step_50 rfl (lv_at hl 4 rfl) ?_
      refine lv_iload_n hx hb dX6_step_51 rfl (lv_at hl 5 rfl) ?_
      obtain ⟨r11, h12, hm⟩ := ob hm
      refine k_wVv S hK hw cal_X6_rides gX6_step_X6_rides (c_X6_rides l D cC cI cJ a_md a_md_text a_md_told a_md_draft a_md_s a_md_past a_md_images a_md_seen a_md_asks a_md_brings a_md_uses a_md_days a_md_tries a_md_row a_md_first a_md_held md_typed md_known md_kept md_sights md_at md_many md_length md_set md_text md_told md_draft md_s md_past md_images md_seen md_asks md_brings md_uses md_days md_tries md_row md_first md_held p0 N (aw _) (hw.own [0, 1, 2, 3, 4, 5, 6, 7, 8, 9, 10, 11, 12, 13, 14, 15] (by decide) rfl) r11 h12) ⟨⟨rfl, rfl⟩, Nat.le_of_ble_eq_true rfl, Nat.le_of_ble_eq_true rfl⟩ [0, 1, 2, 3, 4, 5, 6, 7, 8, 9, 10, 11, 12, 13, 14, 15] rfl 0 rfl rfl rfl hl.1 rfl (Nat.le_of_ble_eq_true rfl) dX6_step_52 ⟨Nat.zero_le _, Nat.zero_le _⟩ (fun H locs hJ hB => ?_)
      have hw := hJ _ hB rfl
      replace hw : Wd D A _ (wd_28 cC cI cJ a_md a_md_text md_typed a_md_told a_md_draft a_md_s a_md_past md_known a_md_images md_kept a_md_seen md_sights md_at a_md_asks a_md_brings a_md_uses a_md_days a_md_tries a_md_row md_many a_md_first md_length md_set a_md_held a_md_text md_text a_md_told md_told a_md_draft md_draft a_md_s r11 a_md_past md_past a_md_images md_images a_md_seen md_seen a_md_asks md_asks a_md_brings md_brings a_md_uses md_uses a_md_days md_days a_md_tries md_tries a_md_row md_row a_md_first md_first a_md_held md_held) H locs := hw
      refine lv_aload_n hx hb dX6_step_55 rfl (lv_at hl 4 rfl) ?_
      refine lv_iconst (v := 0) hx hb dX6_step_56 (by decide) ?_
      refine lv_iconst (v := 0) hx hb dX6_step_57 (by decide) ?_
      obtain ⟨r13, h14, hm⟩ := ob hm
      refine k_wVv S hK hw cal_X6_walks gX6_step_X6_walks (c_X6_walks l D cC cI cJ a_md a_md_text a_md_told a_md_draft a_md_s a_md_past a_md_images a_md_seen a_md_asks a_md_brings a_md_uses a_md_days a_md_tries a_md_row a_md_first a_md_held md_typed md_known md_kept md_sights md_at md_many md_length md_set md_text md_told md_draft r11 md_past md_images md_seen md_asks md_brings md_uses md_days md_tries md_row md_first md_held (0 : Int32) (0 : Int32) N (aw _) (hw.own [0, 1, 2, 3, 4, 5, 6, 7, 8, 9, 10, 11, 12, 13, 14, 15] (by decide) rfl) r13 h14) ⟨⟨rfl, rfl⟩, Nat.le_of_ble_eq_true rfl, Nat.le_of_ble_eq_true rfl⟩ [0, 1, 2, 3, 4, 5, 6, 7, 8, 9, 10, 11, 12, 13, 14, 15] rfl 0 rfl rfl rfl hl.1 rfl (Nat.le_of_ble_eq_true rfl) dX6_step_58 ⟨Nat.zero_le _, Nat.zero_le _⟩ (fun H locs hJ hB => ?_)
      have hw := hJ _ hB rfl
      replace hw : Wd D A _ (wd_28 cC cI cJ a_md a_md_text md_typed a_md_told a_md_draft a_md_s a_md_past md_known a_md_images md_kept a_md_seen md_sights md_at a_md_asks a_md_brings a_md_uses a_md_days a_md_tries a_md_row r13.1 a_md_first r13.2.1 md_set a_md_held a_md_text md_text a_md_told md_told a_md_draft md_draft a_md_s r11 a_md_past md_past a_md_images md_images a_md_seen md_seen a_md_asks r13.2.2.1 a_md_brings r13.2.2.2.1 a_md_uses r13.2.2.2.2.1 a_md_days r13.2.2.2.2.2.1 a_md_tries r13.2.2.2.2.2.2.1 a_md_row r13.2.2.2.2.2.2.2.1 a_md_first r13.2.2.2.2.2.2.2.2 a_md_held md_held) H locs := hw
      refine lv_aload_n hx hb dX6_step_61 rfl (lv_at hl 4 rfl) ?_
      refine f_get S hK hw.1 in_X6_step_X6 0 rfl rfl 4 (by decide) (List.mem_of_getElem? (i := 1) rfl) rfl rfl dX6_step_62 ?_
      refine lv_iconst (v := 0) hx hb dX6_step_65 (by decide) ?_
      refine lv_iload_n hx hb dX6_step_66 rfl (lv_at hl 3 rfl) ?_
      refine f_iastK S hK hw 4 1 rfl rfl 0 (by decide) (by decide) (ws1 := (wd_28 cC cI cJ a_md a_md_text md_typed a_md_told a_md_draft a_md_s a_md_past md_known a_md_images md_kept a_md_seen md_sights md_at a_md_asks a_md_brings a_md_uses a_md_days a_md_tries a_md_row r13.1 a_md_first r13.2.1 md_set a_md_held a_md_text md_text a_md_told md_told a_md_draft md_draft a_md_s (upd r11 0 (md_s 0)) a_md_past md_past a_md_images md_images a_md_seen md_seen a_md_asks r13.2.2.1 a_md_brings r13.2.2.2.1 a_md_uses r13.2.2.2.2.1 a_md_days r13.2.2.2.2.2.1 a_md_tries r13.2.2.2.2.2.2.1 a_md_row r13.2.2.2.2.2.2.2.1 a_md_first r13.2.2.2.2.2.2.2.2 a_md_held md_held)) rfl dX6_step_67 (fun H locs hw => ?_)
      refine lv_aload_n hx hb dX6_step_68 rfl (lv_at hl 4 rfl) ?_
      refine f_get S hK hw.1 in_X6_step_X6 0 rfl rfl 4 (by decide) (List.mem_of_getElem? (i := 1) rfl) rfl rfl dX6_step_69 ?_
      refine lv_iconst (v := 1) hx hb dX6_step_72 (by decide) ?_
      refine lv_iload_n hx hb dX6_step_73 rfl (lv_at hl 2 rfl) ?_
      refine f_iastK S hK hw 4 1 rfl rfl 1 (by decide) (by decide) (ws1 := (wd_28 cC cI cJ a_md a_md_text md_typed a_md_told a_md_draft a_md_s a_md_past md_known a_md_images md_kept a_md_seen md_sights md_at a_md_asks a_md_brings a_md_uses a_md_days a_md_tries a_md_row r13.1 a_md_first r13.2.1 md_set a_md_held a_md_text md_text a_md_told md_told a_md_draft md_draft a_md_s (upd (upd r11 0 (md_s 0)) 1 (md_s 1)) a_md_past md_past a_md_images md_images a_md_seen md_seen a_md_asks r13.2.2.1 a_md_brings r13.2.2.2.1 a_md_uses r13.2.2.2.2.1 a_md_days r13.2.2.2.2.2.1 a_md_tries r13.2.2.2.2.2.2.1 a_md_row r13.2.2.2.2.2.2.2.1 a_md_first r13.2.2.2.2.2.2.2.2 a_md_held md_held)) rfl dX6_step_74 (fun H locs hw => ?_)
      refine lv_aload_n hx hb dX6_step_75 rfl (lv_at hl 4 rfl) ?_
      refine f_get S hK hw.1 in_X6_step_X6 0 rfl rfl 4 (by decide) (List.mem_of_getElem? (i := 1) rfl) rfl rfl dX6_step_76 ?_
      refine lv_iconst (v := 3) hx hb dX6_step_79 (by decide) ?_
      refine lv_iload hx hb dX6_step_80 (lv_at hl 1 rfl) ?_
      refine f_iastK S hK hw 4 1 rfl rfl 3 (by decide) (by decide) (ws1 := (wd_28 cC cI cJ a_md a_md_text md_typed a_md_told a_md_draft a_md_s a_md_past md_known a_md_images md_kept a_md_seen md_sights md_at a_md_asks a_md_brings a_md_uses a_md_days a_md_tries a_md_row r13.1 a_md_first r13.2.1 md_set a_md_held a_md_text md_text a_md_told md_told a_md_draft md_draft a_md_s (upd (upd (upd r11 0 (md_s 0)) 1 (md_s 1)) 3 (md_s 3)) a_md_past md_past a_md_images md_images a_md_seen md_seen a_md_asks r13.2.2.1 a_md_brings r13.2.2.2.1 a_md_uses r13.2.2.2.2.1 a_md_days r13.2.2.2.2.2.1 a_md_tries r13.2.2.2.2.2.2.1 a_md_row r13.2.2.2.2.2.2.2.1 a_md_first r13.2.2.2.2.2.2.2.2 a_md_held md_held)) rfl dX6_step_82 (fun H locs hw => ?_)
      refine lv_aload_n hx hb dX6_step_83 rfl (lv_at hl 4 rfl) ?_
      refine f_get S hK hw.1 in_X6_step_X6 0 rfl rfl 4 (by decide) (List.mem_of_getElem? (i := 1) rfl) rfl rfl dX6_step_84 ?_
      refine lv_iconst (v := 5) hx hb dX6_step_87 (by decide) ?_
      refine lv_iload hx hb dX6_step_88 (lv_at hl 0 rfl) ?_
      refine f_iastK S hK hw 4 1 rfl rfl 5 (by decide) (by decide) (ws1 := (wd_28 cC cI cJ a_md a_md_text md_typed a_md_told a_md_draft a_md_s a_md_past md_known a_md_images md_kept a_md_seen md_sights md_at a_md_asks a_md_brings a_md_uses a_md_days a_md_tries a_md_row r13.1 a_md_first r13.2.1 md_set a_md_held a_md_text md_text a_md_told md_told a_md_draft md_draft a_md_s (upd (upd (upd (upd r11 0 (md_s 0)) 1 (md_s 1)) 3 (md_s 3)) 5 (md_s 5)) a_md_past md_past a_md_images md_images a_md_seen md_seen a_md_asks r13.2.2.1 a_md_brings r13.2.2.2.1 a_md_uses r13.2.2.2.2.1 a_md_days r13.2.2.2.2.2.1 a_md_tries r13.2.2.2.2.2.2.1 a_md_row r13.2.2.2.2.2.2.2.1 a_md_first r13.2.2.2.2.2.2.2.2 a_md_held md_held)) rfl dX6_step_90 (fun H locs hw => ?_)
      refine lv_aload_n hx hb dX6_step_91 rfl (lv_at hl 4 rfl) ?_
      refine f_get S hK hw.1 in_X6_step_X6 0 rfl rfl 18 (by decide) (List.mem_of_getElem? (i := 2) rfl) rfl rfl dX6_step_92 ?_
      obtain rfl := Option.some.inj hm
      exact e_WI S hr hlk hw rfl hw.1 dX6_step_95
    · replace hm := ineg hm c6
      refine lv_iconst (v := 0) hx hb dX6_step_18 (by decide) ?_
      obtain rfl := Option.some.inj hm
      exact e_WI S hr hlk hw rfl hw.1 dX6_step_19
  · replace hm := ipos hm c3
    refine lv_iconst (v := (-1)) hx hb dX6_step_8 (by decide) ?_
    obtain rfl := Option.some.inj hm
    exact e_WI S hr hlk hw rfl hw.1 dX6_step_9

abbrev rX6_suggest : Room := { frames := 2, cells := 0, slots := 0, locals := 43 }
theorem cal_X6_suggest : Cal yX6_suggest wsX6_suggest cX6_suggest 2 (some .int) RX6 1 := ⟨⟨_, rfl⟩, rfl, by decide +kernel, by decide +kernel, by decide +kernel⟩
theorem in_X6_suggest_X6 : ∀ w ∈ wsX60, w ∈ wsX6_suggest := fun _ h => (List.mem_cons_of_mem _ (List.mem_append_right _ h))
set_option maxHeartbeats 4000000 in
set_option maxRecDepth 100000 in
theorem c_X6_suggest (l : Launch) (D : va_G) (cC cI cJ : ClassId) (a_md : Nat) (a_md_text : Nat) (a_md_told : Nat) (a_md_draft : Nat) (a_md_s : Nat) (a_md_past : Nat) (a_md_images : Nat) (a_md_seen : Nat) (a_md_asks : Nat) (a_md_brings : Nat) (a_md_uses : Nat) (a_md_days : Nat) (a_md_tries : Nat) (a_md_row : Nat) (a_md_first : Nat) (a_md_held : Nat) (md_typed : Int32) (md_known : Int32) (md_kept : Int32) (md_sights : Int32) (md_at : Int32) (md_many : Int32) (md_length : Int32) (md_set : Int32) (md_text : (Nat → Int32)) (md_told : (Nat → Int32)) (md_draft : (Nat → Int32)) (md_s : (Nat → Int32)) (md_past : (Nat → Int32)) (md_images : (Nat → Int32)) (md_seen : (Nat → Int32)) (md_asks : (Nat → Int32)) (md_brings : (Nat → Int32)) (md_uses : (Nat → Int32)) (md_days : (Nat → Int32)) (md_tries : (Nat → Int32)) (md_row : (Nat → Int32)) (md_first : (Nat → Int32)) (md_held : (Nat → Int32)) (p0 : Int32) (N : Nat) (A : Nat → Prop) (hD : va_D A (wd_28 cC cI cJ a_md a_md_text md_typed a_md_told a_md_draft a_md_s a_md_past md_known a_md_images md_kept a_md_seen md_sights md_at a_md_asks a_md_brings a_md_uses a_md_days a_md_tries a_md_row md_many a_md_first md_length md_set a_md_held a_md_text md_text a_md_told md_told a_md_draft md_draft a_md_s md_s a_md_past md_past a_md_images md_images a_md_seen md_seen a_md_asks md_asks a_md_brings md_brings a_md_uses md_uses a_md_days md_days a_md_tries md_tries a_md_row md_row a_md_first md_first a_md_held md_held)) (out : (Int32 × Int32 × (Nat → Int32) × (Nat → Int32))) (hm : m_X6_suggest N md_known md_told md_s md_past p0 = some out) : WrI l yX6_suggest wsX6_suggest rX6_suggest D (tyK cC cI cJ) [.ref a_md, .int p0] A (wd_28 cC cI cJ a_md a_md_text md_typed a_md_told a_md_draft a_md_s a_md_past md_known a_md_images md_kept a_md_seen md_sights md_at a_md_asks a_md_brings a_md_uses a_md_days a_md_tries a_md_row md_many a_md_first md_length md_set a_md_held a_md_text md_text a_md_told md_told a_md_draft md_draft a_md_s md_s a_md_past md_past a_md_images md_images a_md_seen md_seen a_md_asks md_asks a_md_brings md_brings a_md_uses md_uses a_md_days md_days a_md_tries md_tries a_md_row md_row a_md_first md_first a_md_held md_held) (Bw0 D (wd_28 cC cI cJ a_md a_md_text md_typed a_md_told a_md_draft a_md_s a_md_past out.2.1 a_md_images md_kept a_md_seen md_sights md_at a_md_asks a_md_brings a_md_uses a_md_days a_md_tries a_md_row md_many a_md_first md_length md_set a_md_held a_md_text md_text a_md_told md_told a_md_draft md_draft a_md_s out.2.2.1 a_md_past out.2.2.2 a_md_images md_images a_md_seen md_seen a_md_asks md_asks a_md_brings md_brings a_md_uses md_uses a_md_days md_days a_md_tries md_tries a_md_row md_row a_md_first md_first a_md_held md_held)) out.1 := by
  unfold m_X6_suggest at hm
  refine enter (cc := cX6_suggest) (maxL := 2) (ret := (some .int)) (lv := [(0, .ref a_md), (1, .int p0)]) (by decide) rfl (Nat.le_of_ble_eq_true rfl) rfl ?_
  intro p e s m args below meth c S hr hlk hK hP ls hl
  replace S : CallFix p m c cX6_suggest 2 s args wsX6_suggest RX6 := S
  have hx := S.1
  have hb := S.2.1
  have hw : Wd D A s.heap (wd_28 cC cI cJ a_md a_md_text md_typed a_md_told a_md_draft a_md_s a_md_past md_known a_md_images md_kept a_md_seen md_sights md_at a_md_asks a_md_brings a_md_uses a_md_days a_md_tries a_md_row md_many a_md_first md_length md_set a_md_held a_md_text md_text a_md_told md_told a_md_draft md_draft a_md_s md_s a_md_past md_past a_md_images md_images a_md_seen md_seen a_md_asks md_asks a_md_brings md_brings a_md_uses md_uses a_md_days md_days a_md_tries md_tries a_md_row md_row a_md_first md_first a_md_held md_held) s.heap [] := ⟨hP, hD, va_S.rf⟩
  have hw0 := hw
  refine lv_aload_n hx hb dX6_suggest_0 rfl (lv_at hl 0 rfl) ?_
  refine lv_iload_n hx hb dX6_suggest_1 rfl (lv_at hl 1 rfl) ?_
  obtain ⟨r1, h2, hm⟩ := ob hm
  refine k_rVi S hK hw.1 cal_X6_isTask gX6_suggest_X6_isTask (c_X6_isTask l D cC cI cJ a_md a_md_text a_md_told a_md_draft a_md_s a_md_past a_md_images a_md_seen a_md_asks a_md_brings a_md_uses a_md_days a_md_tries a_md_row a_md_first a_md_held md_typed md_known md_kept md_sights md_at md_many md_length md_set md_text md_told md_draft md_s md_past md_images md_seen md_asks md_brings md_uses md_days md_tries md_row md_first md_held p0 r1 h2) ⟨⟨rfl, rfl⟩, Nat.le_of_ble_eq_true rfl, Nat.le_of_ble_eq_true rfl⟩ [0, 1, 2, 3, 4, 5, 6, 7, 8, 9, 10, 11, 12, 13, 14, 15] rfl 0 rfl rfl rfl hl.1 rfl (Nat.le_of_ble_eq_true rfl) dX6_suggest_2 ⟨Nat.zero_le _, Nat.zero_le _⟩ ?_
  refine lv_if_ne (tgt := 10) hx hb dX6_suggest_5 (by decide) (fun c3 => ?_) (fun c3 => ?_)
  · replace hm := ineg hm c3
    refine lv_aload_n hx hb dX6_suggest_10 rfl (lv_at hl 0 rfl) ?_
    obtain ⟨r4, h5, hm⟩ := ob hm
    refine k_rVi S hK hw.1 cal_X6_silent gX6_suggest_X6_silent (c_X6_silent l D cC cI cJ a_md a_md_text a_md_told a_md_draft a_md_s a_md_past a_md_images a_md_seen a_md_asks a_md_brings a_md_uses a_md_days a_md_tries a_md_row a_md_first a_md_held md_typed md_known md_kept md_sights md_at md_many md_length md_set md_text md_told md_draft md_s md_past md_images md_seen md_asks md_brings md_uses md_days md_tries md_row md_first md_held r4 h5) ⟨⟨rfl, rfl⟩, Nat.le_of_ble_eq_true rfl, Nat.le_of_ble_eq_true rfl⟩ [0, 1, 2, 3, 4, 5, 6, 7, 8, 9, 10, 11, 12, 13, 14, 15] rfl 0 rfl rfl rfl hl.1 rfl (Nat.le_of_ble_eq_true rfl) dX6_suggest_11 ⟨Nat.zero_le _, Nat.zero_le _⟩ ?_
    refine lv_iload_n hx hb dX6_suggest_14 rfl (lv_at hl 1 rfl) ?_
    refine lv_ishr hx hb dX6_suggest_15 ?_
    refine lv_iconst (v := 1) hx hb dX6_suggest_16 (by decide) ?_
    refine lv_iand hx hb dX6_suggest_17 ?_
    refine lv_if_ne (tgt := 24) hx hb dX6_suggest_18 (by decide) (fun c6 => ?_) (fun c6 => ?_)
    · replace hm := ineg hm c6
      refine lv_aload_n hx hb dX6_suggest_24 rfl (lv_at hl 0 rfl) ?_
      obtain ⟨r7, h8, hm⟩ := ob hm
      refine k_wVv S hK hw cal_X6_keeps gX6_suggest_X6_keeps (c_X6_keeps l D cC cI cJ a_md a_md_text a_md_told a_md_draft a_md_s a_md_past a_md_images a_md_seen a_md_asks a_md_brings a_md_uses a_md_days a_md_tries a_md_row a_md_first a_md_held md_typed md_known md_kept md_sights md_at md_many md_length md_set md_text md_told md_draft md_s md_past md_images md_seen md_asks md_brings md_uses md_days md_tries md_row md_first md_held N (aw _) (hw.own [0, 1, 2, 3, 4, 5, 6, 7, 8, 9, 10, 11, 12, 13, 14, 15] (by decide) rfl) r7 h8) ⟨⟨rfl, rfl⟩, Nat.le_of_ble_eq_true rfl, Nat.le_of_ble_eq_true rfl⟩ [0, 1, 2, 3, 4, 5, 6, 7, 8, 9, 10, 11, 12, 13, 14, 15] rfl 0 rfl rfl rfl hl.1 rfl (Nat.le_of_ble_eq_true rfl) dX6_suggest_25 ⟨Nat.zero_le _, Nat.zero_le _⟩ (fun H locs hJ hB => ?_)
      have hw := hJ _ hB rfl
      replace hw : Wd D A _ (wd_28 cC cI cJ a_md a_md_text md_typed a_md_told a_md_draft a_md_s a_md_past r7.1 a_md_images md_kept a_md_seen md_sights md_at a_md_asks a_md_brings a_md_uses a_md_days a_md_tries a_md_row md_many a_md_first md_length md_set a_md_held a_md_text md_text a_md_told md_told a_md_draft md_draft a_md_s md_s a_md_past r7.2 a_md_images md_images a_md_seen md_seen a_md_asks md_asks a_md_brings md_brings a_md_uses md_uses a_md_days md_days a_md_tries md_tries a_md_row md_row a_md_first md_first a_md_held md_held) H locs := hw
      refine lv_aload_n hx hb dX6_suggest_28 rfl (lv_at hl 0 rfl) ?_
      refine f_get S hK hw.1 in_X6_suggest_X6 0 rfl rfl 4 (by decide) (List.mem_of_getElem? (i := 1) rfl) rfl rfl dX6_suggest_29 ?_
      refine lv_iconst (v := 0) hx hb dX6_suggest_32 (by decide) ?_
      refine lv_dup2_11 hx hb dX6_suggest_33 rfl rfl ?_
      refine f_ialdK S hK hw.1 4 1 rfl rfl 0 (by decide) (by decide) (v := (md_s 0)) rfl dX6_suggest_34 ?_
      refine lv_iconst (v := 1) hx hb dX6_suggest_35 (by decide) ?_
      refine lv_iload_n hx hb dX6_suggest_36 rfl (lv_at hl 1 rfl) ?_
      refine lv_ishl hx hb dX6_suggest_37 ?_
      refine lv_ior hx hb dX6_suggest_38 ?_
      obtain ⟨y11, e12, hm⟩ := ob hm
      refine f_name e12 ?_
      refine f_iastK S hK hw 4 1 rfl rfl 0 (by decide) (by decide) (ws1 := (wd_28 cC cI cJ a_md a_md_text md_typed a_md_told a_md_draft a_md_s a_md_past r7.1 a_md_images md_kept a_md_seen md_sights md_at a_md_asks a_md_brings a_md_uses a_md_days a_md_tries a_md_row md_many a_md_first md_length md_set a_md_held a_md_text md_text a_md_told md_told a_md_draft md_draft a_md_s (upd md_s 0 y11) a_md_past r7.2 a_md_images md_images a_md_seen md_seen a_md_asks md_asks a_md_brings md_brings a_md_uses md_uses a_md_days md_days a_md_tries md_tries a_md_row md_row a_md_first md_first a_md_held md_held)) rfl dX6_suggest_39 (fun H locs hw => ?_)
      refine lv_aload_n hx hb dX6_suggest_40 rfl (lv_at hl 0 rfl) ?_
      obtain ⟨r13, h14, hm⟩ := ob hm
      refine k_rVi S hK hw.1 cal_X6_open gX6_suggest_X6_open (c_X6_open l D cC cI cJ a_md a_md_text a_md_told a_md_draft a_md_s a_md_past a_md_images a_md_seen a_md_asks a_md_brings a_md_uses a_md_days a_md_tries a_md_row a_md_first a_md_held md_typed r7.1 md_kept md_sights md_at md_many md_length md_set md_text md_told md_draft (upd md_s 0 y11) r7.2 md_images md_seen md_asks md_brings md_uses md_days md_tries md_row md_first md_held r13 h14) ⟨⟨rfl, rfl⟩, Nat.le_of_ble_eq_true rfl, Nat.le_of_ble_eq_true rfl⟩ [0, 1, 2, 3, 4, 5, 6, 7, 8, 9, 10, 11, 12, 13, 14, 15] rfl 0 rfl rfl rfl hl.1 rfl (Nat.le_of_ble_eq_true rfl) dX6_suggest_41 ⟨Nat.zero_le _, Nat.zero_le _⟩ ?_
      obtain ⟨r15, h16, hm⟩ := ob hm
      refine k_rSi S hK hw.1 cal_X6_ones gX6_suggest_X6_ones (c_X6_ones l D cC cI cJ r13 N r15 h16) ⟨⟨rfl, rfl⟩, Nat.le_of_ble_eq_true rfl, Nat.le_of_ble_eq_true rfl⟩ [] rfl rfl hl.1 rfl (Nat.le_of_ble_eq_true rfl) dX6_suggest_44 ⟨Nat.zero_le _, Nat.zero_le _⟩ ?_
      obtain rfl := Option.some.inj hm
      exact e_WI S hr hlk hw rfl hw.1 dX6_suggest_47
    · replace hm := ipos hm c6
      refine lv_bipush (v := (-2)) hx hb dX6_suggest_21 (by decide) ?_
      obtain rfl := Option.some.inj hm
      exact e_WI S hr hlk hw rfl hw.1 dX6_suggest_23
  · replace hm := ipos hm c3
    refine lv_iconst (v := (-1)) hx hb dX6_suggest_8 (by decide) ?_
    obtain rfl := Option.some.inj hm
    exact e_WI S hr hlk hw rfl hw.1 dX6_suggest_9

abbrev rX6_task : Room := { frames := 3, cells := 0, slots := 0, locals := 72 }
theorem cal_X6_task : Cal yX6_task wsX6_task cX6_task 3 (some .int) RX6 2 := ⟨⟨_, rfl⟩, rfl, by decide +kernel, by decide +kernel, by decide +kernel⟩
theorem in_X6_task_X6 : ∀ w ∈ wsX60, w ∈ wsX6_task := fun _ h => (List.mem_cons_of_mem _ (List.mem_append_right _ h))
set_option maxHeartbeats 4000000 in
set_option maxRecDepth 100000 in
theorem c_X6_task (l : Launch) (D : va_G) (cC cI cJ : ClassId) (a_md : Nat) (a_md_text : Nat) (a_md_told : Nat) (a_md_draft : Nat) (a_md_s : Nat) (a_md_past : Nat) (a_md_images : Nat) (a_md_seen : Nat) (a_md_asks : Nat) (a_md_brings : Nat) (a_md_uses : Nat) (a_md_days : Nat) (a_md_tries : Nat) (a_md_row : Nat) (a_md_first : Nat) (a_md_held : Nat) (md_typed : Int32) (md_known : Int32) (md_kept : Int32) (md_sights : Int32) (md_at : Int32) (md_many : Int32) (md_length : Int32) (md_set : Int32) (md_text : (Nat → Int32)) (md_told : (Nat → Int32)) (md_draft : (Nat → Int32)) (md_s : (Nat → Int32)) (md_past : (Nat → Int32)) (md_images : (Nat → Int32)) (md_seen : (Nat → Int32)) (md_asks : (Nat → Int32)) (md_brings : (Nat → Int32)) (md_uses : (Nat → Int32)) (md_days : (Nat → Int32)) (md_tries : (Nat → Int32)) (md_row : (Nat → Int32)) (md_first : (Nat → Int32)) (md_held : (Nat → Int32)) (p0 : Int32) (p1 : Int32) (N : Nat) (out : Int32) (hm : m_X6_task N md_told md_s p0 p1 = some out) : RdI l yX6_task wsX6_task rX6_task D (tyK cC cI cJ) [.ref a_md, .int p0, .int p1] (wd_28 cC cI cJ a_md a_md_text md_typed a_md_told a_md_draft a_md_s a_md_past md_known a_md_images md_kept a_md_seen md_sights md_at a_md_asks a_md_brings a_md_uses a_md_days a_md_tries a_md_row md_many a_md_first md_length md_set a_md_held a_md_text md_text a_md_told md_told a_md_draft md_draft a_md_s md_s a_md_past md_past a_md_images md_images a_md_seen md_seen a_md_asks md_asks a_md_brings md_brings a_md_uses md_uses a_md_days md_days a_md_tries md_tries a_md_row md_row a_md_first md_first a_md_held md_held) out := by
  unfold m_X6_task at hm
  refine enter (cc := cX6_task) (maxL := 3) (ret := (some .int)) (lv := [(0, .ref a_md), (1, .int p0), (2, .int p1)]) (by decide) rfl (Nat.le_of_ble_eq_true rfl) rfl ?_
  intro p e s m args below meth c S hr hlk hK hP ls hl
  replace S : CallFix p m c cX6_task 3 s args wsX6_task RX6 := S
  have hx := S.1
  have hb := S.2.1
  refine lv_aload_n hx hb dX6_task_0 rfl (lv_at hl 0 rfl) ?_
  refine lv_iload_n hx hb dX6_task_1 rfl (lv_at hl 1 rfl) ?_
  obtain ⟨r1, h2, hm⟩ := ob hm
  refine k_rVi S hK hP cal_X6_isTask gX6_task_X6_isTask (c_X6_isTask l D cC cI cJ a_md a_md_text a_md_told a_md_draft a_md_s a_md_past a_md_images a_md_seen a_md_asks a_md_brings a_md_uses a_md_days a_md_tries a_md_row a_md_first a_md_held md_typed md_known md_kept md_sights md_at md_many md_length md_set md_text md_told md_draft md_s md_past md_images md_seen md_asks md_brings md_uses md_days md_tries md_row md_first md_held p0 r1 h2) ⟨⟨rfl, rfl⟩, Nat.le_of_ble_eq_true rfl, Nat.le_of_ble_eq_true rfl⟩ [0, 1, 2, 3, 4, 5, 6, 7, 8, 9, 10, 11, 12, 13, 14, 15] rfl 0 rfl rfl rfl hl.1 rfl (Nat.le_of_ble_eq_true rfl) dX6_task_2 ⟨Nat.zero_le _, Nat.zero_le _⟩ ?_
  refine lv_if_ne (tgt := 10) hx hb dX6_task_5 (by decide) (fun c3 => ?_) (fun c3 => ?_)
  · replace hm := ineg hm c3
    refine lv_iload_n hx hb dX6_task_10 rfl (lv_at hl 2 rfl) ?_
    by_cases c4 : p1 = (0 : Int32)
    · replace hm := ipos hm c4
      refine f_tabIn S c4 dX6_task_11 (off := 41) (by decide) (by decide) (by decide) (tgt := 52) (by decide) ?_
      refine lv_aload_n hx hb dX6_task_52 rfl (lv_at hl 0 rfl) ?_
      refine f_get S hK hP in_X6_task_X6 0 rfl rfl 2 (by decide) (List.mem_of_getElem? (i := 1) rfl) rfl rfl dX6_task_53 ?_
      refine lv_iconst (v := 5) hx hb dX6_task_56 (by decide) ?_
      refine lv_iload_n hx hb dX6_task_57 rfl (lv_at hl 1 rfl) ?_
      refine lv_iadd hx hb dX6_task_58 ?_
      obtain ⟨g5, hm⟩ := gdo hm
      refine f_iald S hK hP 2 1 rfl rfl g5 dX6_task_59 ?_
      exact e_RI S hr hlk (Option.some.inj hm) dX6_task_60
    replace hm := ineg hm c4
    by_cases c6 : p1 = (1 : Int32)
    · replace hm := ipos hm c6
      refine f_tabIn S c6 dX6_task_11 (off := 50) (by decide) (by decide) (by decide) (tgt := 61) (by decide) ?_
      refine lv_aload_n hx hb dX6_task_61 rfl (lv_at hl 0 rfl) ?_
      refine f_get S hK hP in_X6_task_X6 0 rfl rfl 2 (by decide) (List.mem_of_getElem? (i := 1) rfl) rfl rfl dX6_task_62 ?_
      refine lv_bipush (v := 13) hx hb dX6_task_65 (by decide) ?_
      refine lv_iload_n hx hb dX6_task_67 rfl (lv_at hl 1 rfl) ?_
      refine lv_iadd hx hb dX6_task_68 ?_
      obtain ⟨g7, hm⟩ := gdo hm
      refine f_iald S hK hP 2 1 rfl rfl g7 dX6_task_69 ?_
      exact e_RI S hr hlk (Option.some.inj hm) dX6_task_70
    replace hm := ineg hm c6
    by_cases c8 : p1 = (2 : Int32)
    · replace hm := ipos hm c8
      refine f_tabIn S c8 dX6_task_11 (off := 60) (by decide) (by decide) (by decide) (tgt := 71) (by decide) ?_
      refine lv_aload_n hx hb dX6_task_71 rfl (lv_at hl 0 rfl) ?_
      refine f_get S hK hP in_X6_task_X6 0 rfl rfl 2 (by decide) (List.mem_of_getElem? (i := 1) rfl) rfl rfl dX6_task_72 ?_
      refine lv_bipush (v := 21) hx hb dX6_task_75 (by decide) ?_
      refine lv_iload_n hx hb dX6_task_77 rfl (lv_at hl 1 rfl) ?_
      refine lv_iadd hx hb dX6_task_78 ?_
      obtain ⟨g9, hm⟩ := gdo hm
      refine f_iald S hK hP 2 1 rfl rfl g9 dX6_task_79 ?_
      exact e_RI S hr hlk (Option.some.inj hm) dX6_task_80
    replace hm := ineg hm c8
    by_cases c10 : p1 = (3 : Int32)
    · replace hm := ipos hm c10
      refine f_tabIn S c10 dX6_task_11 (off := 70) (by decide) (by decide) (by decide) (tgt := 81) (by decide) ?_
      refine lv_aload_n hx hb dX6_task_81 rfl (lv_at hl 0 rfl) ?_
      refine f_get S hK hP in_X6_task_X6 0 rfl rfl 2 (by decide) (List.mem_of_getElem? (i := 1) rfl) rfl rfl dX6_task_82 ?_
      refine lv_bipush (v := 29) hx hb dX6_task_85 (by decide) ?_
      refine lv_iload_n hx hb dX6_task_87 rfl (lv_at hl 1 rfl) ?_
      refine lv_iadd hx hb dX6_task_88 ?_
      obtain ⟨g11, hm⟩ := gdo hm
      refine f_iald S hK hP 2 1 rfl rfl g11 dX6_task_89 ?_
      exact e_RI S hr hlk (Option.some.inj hm) dX6_task_90
    replace hm := ineg hm c10
    by_cases c12 : p1 = (4 : Int32)
    · replace hm := ipos hm c12
      refine f_tabIn S c12 dX6_task_11 (off := 80) (by decide) (by decide) (by decide) (tgt := 91) (by decide) ?_
      refine lv_aload_n hx hb dX6_task_91 rfl (lv_at hl 0 rfl) ?_
      refine f_get S hK hP in_X6_task_X6 0 rfl rfl 4 (by decide) (List.mem_of_getElem? (i := 2) rfl) rfl rfl dX6_task_92 ?_
      refine lv_iconst (v := 0) hx hb dX6_task_95 (by decide) ?_
      refine f_ialdK S hK hP 4 1 rfl rfl 0 (by decide) (by decide) (v := (md_s 0)) rfl dX6_task_96 ?_
      refine lv_iload_n hx hb dX6_task_97 rfl (lv_at hl 1 rfl) ?_
      refine lv_ishr hx hb dX6_task_98 ?_
      refine lv_iconst (v := 1) hx hb dX6_task_99 (by decide) ?_
      refine lv_iand hx hb dX6_task_100 ?_
      exact e_RI S hr hlk (Option.some.inj hm) dX6_task_101
    replace hm := ineg hm c12
    by_cases c14 : p1 = (5 : Int32)
    · replace hm := ipos hm c14
      refine f_tabIn S c14 dX6_task_11 (off := 91) (by decide) (by decide) (by decide) (tgt := 102) (by decide) ?_
      refine lv_aload_n hx hb dX6_task_102 rfl (lv_at hl 0 rfl) ?_
      refine f_get S hK hP in_X6_task_X6 0 rfl rfl 4 (by decide) (List.mem_of_getElem? (i := 2) rfl) rfl rfl dX6_task_103 ?_
      refine lv_iconst (v := 1) hx hb dX6_task_106 (by decide) ?_
      refine f_ialdK S hK hP 4 1 rfl rfl 1 (by decide) (by decide) (v := (md_s 1)) rfl dX6_task_107 ?_
      refine lv_iload_n hx hb dX6_task_108 rfl (lv_at hl 1 rfl) ?_
      refine lv_ishr hx hb dX6_task_109 ?_
      refine lv_iconst (v := 1) hx hb dX6_task_110 (by decide) ?_
      refine lv_iand hx hb dX6_task_111 ?_
      exact e_RI S hr hlk (Option.some.inj hm) dX6_task_112
    replace hm := ineg hm c14
    by_cases c16 : p1 = (6 : Int32)
    · replace hm := ipos hm c16
      refine f_tabIn S c16 dX6_task_11 (off := 102) (by decide) (by decide) (by decide) (tgt := 113) (by decide) ?_
      refine lv_aload_n hx hb dX6_task_113 rfl (lv_at hl 0 rfl) ?_
      refine lv_iload_n hx hb dX6_task_114 rfl (lv_at hl 1 rfl) ?_
      obtain ⟨r17, h18, hm⟩ := ob hm
      refine k_rVi S hK hP cal_X6_helpNow gX6_task_X6_helpNow (c_X6_helpNow l D cC cI cJ a_md a_md_text a_md_told a_md_draft a_md_s a_md_past a_md_images a_md_seen a_md_asks a_md_brings a_md_uses a_md_days a_md_tries a_md_row a_md_first a_md_held md_typed md_known md_kept md_sights md_at md_many md_length md_set md_text md_told md_draft md_s md_past md_images md_seen md_asks md_brings md_uses md_days md_tries md_row md_first md_held p0 N r17 h18) ⟨⟨rfl, rfl⟩, Nat.le_of_ble_eq_true rfl, Nat.le_of_ble_eq_true rfl⟩ [0, 1, 2, 3, 4, 5, 6, 7, 8, 9, 10, 11, 12, 13, 14, 15] rfl 0 rfl rfl rfl hl.1 rfl (Nat.le_of_ble_eq_true rfl) dX6_task_115 ⟨Nat.zero_le _, Nat.zero_le _⟩ ?_
      refine lv_if_ge (tgt := 125) hx hb dX6_task_118 (by decide) (fun c19 => ?_) (fun c19 => ?_)
      · replace hm := ipos hm c19
        refine lv_iconst (v := 1) hx hb dX6_task_125 (by decide) ?_
        exact e_RI S hr hlk (Option.some.inj hm) dX6_task_126
      · replace hm := ineg hm c19
        refine lv_iconst (v := 0) hx hb dX6_task_121 (by decide) ?_
        refine lv_goto (tgt := 126) hx hb dX6_task_122 (by decide) ?_
        exact e_RI S hr hlk (Option.some.inj hm) dX6_task_126
    replace hm := ineg hm c16
    have nc4 := toInt_ne c4 (n := 0) (by decide)
    have nc6 := toInt_ne c6 (n := 1) (by decide)
    have nc8 := toInt_ne c8 (n := 2) (by decide)
    have nc10 := toInt_ne c10 (n := 3) (by decide)
    have nc12 := toInt_ne c12 (n := 4) (by decide)
    have nc14 := toInt_ne c14 (n := 5) (by decide)
    have nc16 := toInt_ne c16 (n := 6) (by decide)
    refine f_tabOut S dX6_task_11 (by omega) (tgt := 127) (by decide) ?_
    refine lv_iconst (v := (-1)) hx hb dX6_task_127 (by decide) ?_
    exact e_RI S hr hlk (Option.some.inj hm) dX6_task_128
  · replace hm := ipos hm c3
    refine lv_iconst (v := (-1)) hx hb dX6_task_8 (by decide) ?_
    exact e_RI S hr hlk (Option.some.inj hm) dX6_task_9

abbrev rX6_undo : Room := { frames := 0, cells := 0, slots := 0, locals := 0 }
theorem cal_X6_undo : Cal yX6_undo wsX6_undo cX6_undo 2 (some .int) RX6 0 := ⟨⟨_, rfl⟩, rfl, by decide +kernel, by decide +kernel, by decide +kernel⟩
theorem in_X6_undo_X6 : ∀ w ∈ wsX60, w ∈ wsX6_undo := fun _ h => (List.mem_cons_of_mem _ (List.mem_append_right _ h))
set_option maxHeartbeats 4000000 in
set_option maxRecDepth 100000 in
theorem t_X6_undo_22 {p : Program} {e : Env} {s : State} {m : MethodId} {args : Array Value} {below : List Frame} {meth : Method} {c : Code} {Q : State → Prop} (l : Launch) {D : va_G} {cC cI cJ : ClassId} {A : Nat → Prop} {H0 : Heap} (S : CallFix p m c cX6_undo 2 s args wsX6_undo RX6) (hK : KK D (tyK cC cI cJ) s) (a_md : Nat) (a_md_text : Nat) (a_md_told : Nat) (a_md_draft : Nat) (a_md_s : Nat) (a_md_past : Nat) (a_md_images : Nat) (a_md_seen : Nat) (a_md_asks : Nat) (a_md_brings : Nat) (a_md_uses : Nat) (a_md_days : Nat) (a_md_tries : Nat) (a_md_row : Nat) (a_md_first : Nat) (a_md_held : Nat) (md_typed : Int32) (md_known : Int32) (md_kept : Int32) (md_sights : Int32) (md_at : Int32) (md_many : Int32) (md_length : Int32) (md_set : Int32) (md_text : (Nat → Int32)) (md_told : (Nat → Int32)) (md_draft : (Nat → Int32)) (md_past : (Nat → Int32)) (md_images : (Nat → Int32)) (md_seen : (Nat → Int32)) (md_asks : (Nat → Int32)) (md_brings : (Nat → Int32)) (md_uses : (Nat → Int32)) (md_days : (Nat → Int32)) (md_tries : (Nat → Int32)) (md_row : (Nat → Int32)) (md_first : (Nat → Int32)) (md_held : (Nat → Int32)) : ∀ (n : Nat) (v1 : Int32) (md_s : (Nat → Int32)) (out : (Nat → Int32)), lp_X6_undo_22 md_known md_past n v1 md_s = some out → ∀ (H : Heap) (locs : List Loc) (ls : Array Slot), Wd D A H0 (wd_28 cC cI cJ a_md a_md_text md_typed a_md_told a_md_draft a_md_s a_md_past md_known a_md_images md_kept a_md_seen md_sights md_at a_md_asks a_md_brings a_md_uses a_md_days a_md_tries a_md_row md_many a_md_first md_length md_set a_md_held a_md_text md_text a_md_told md_told a_md_draft md_draft a_md_s md_s a_md_past md_past a_md_images md_images a_md_seen md_seen a_md_asks md_asks a_md_brings md_brings a_md_uses md_uses a_md_days md_days a_md_tries md_tries a_md_row md_row a_md_first md_first a_md_held md_held) H locs → lv_has ls 2 [(0, .ref a_md), (1, .int v1)] → (∀ (H : Heap) (locs : List Loc) (ls : Array Slot), Wd D A H0 (wd_28 cC cI cJ a_md a_md_text md_typed a_md_told a_md_draft a_md_s a_md_past md_known a_md_images md_kept a_md_seen md_sights md_at a_md_asks a_md_brings a_md_uses a_md_days a_md_tries a_md_row md_many a_md_first md_length md_set a_md_held a_md_text md_text a_md_told md_told a_md_draft md_draft a_md_s out a_md_past md_past a_md_images md_images a_md_seen md_seen a_md_asks md_asks a_md_brings md_brings a_md_uses md_uses a_md_days md_days a_md_tries md_tries a_md_row md_row a_md_first md_first a_md_held md_held) H locs → lv_has ls 2 [(0, .ref a_md)] → W p l e rX6_undo s m args below meth c H locs 0 0 Q (F0 m 54 ls [])) → W p l e rX6_undo s m args below meth c H locs 0 0 Q (F0 m 22 ls []) := by
  have hx := S.1
  have hb := S.2.1
  intro n
  induction n with
  | zero => intro v1 md_s out hm; cases (show (none : Option (Nat → Int32)) = some out from hm)
  | succ n ih =>
    intro v1 md_s out hm  H locs ls hw hl K0
    rw [lp_X6_undo_22] at hm
    refine lv_iload_n hx hb dX6_undo_22 rfl (lv_at hl 1 rfl) ?_
    refine lv_bipush (v := 6) hx hb dX6_undo_23 (by decide) ?_
    refine lv_icmp_ge (tgt := 54) hx hb dX6_undo_25 (by decide) (fun c2 => ?_) (fun c2 => ?_)
    · replace hm := ipos hm c2
      obtain rfl := Option.some.inj hm
      exact K0  _ _ ls hw (lv_sub hl [0] rfl)
    · replace hm := ineg hm c2
      refine lv_aload_n hx hb dX6_undo_28 rfl (lv_at hl 0 rfl) ?_
      refine f_get S hK hw.1 in_X6_undo_X6 0 rfl rfl 4 (by decide) (List.mem_of_getElem? (i := 2) rfl) rfl rfl dX6_undo_29 ?_
      refine lv_iload_n hx hb dX6_undo_32 rfl (lv_at hl 1 rfl) ?_
      refine lv_aload_n hx hb dX6_undo_33 rfl (lv_at hl 0 rfl) ?_
      refine f_get S hK hw.1 in_X6_undo_X6 0 rfl rfl 5 (by decide) (List.mem_of_getElem? (i := 3) rfl) rfl rfl dX6_undo_34 ?_
      refine lv_bipush (v := 6) hx hb dX6_undo_37 (by decide) ?_
      refine lv_aload_n hx hb dX6_undo_39 rfl (lv_at hl 0 rfl) ?_
      refine f_get S hK hw.1 in_X6_undo_X6 0 rfl rfl 6 (by decide) (List.mem_of_getElem? (i := 1) rfl) rfl rfl dX6_undo_40 ?_
      refine lv_imul hx hb dX6_undo_43 ?_
      refine lv_iload_n hx hb dX6_undo_44 rfl (lv_at hl 1 rfl) ?_
      refine lv_iadd hx hb dX6_undo_45 ?_
      obtain ⟨g3, hm⟩ := gdo hm
      refine f_iald S hK hw.1 5 1 rfl rfl g3 dX6_undo_46 ?_
      obtain ⟨y5, e6, hm⟩ := ob hm
      refine f_name e6 ?_
      obtain ⟨g4, hm⟩ := gdo hm
      refine f_iast S hK hw 4 1 rfl rfl g4 (ws1 := (wd_28 cC cI cJ a_md a_md_text md_typed a_md_told a_md_draft a_md_s a_md_past md_known a_md_images md_kept a_md_seen md_sights md_at a_md_asks a_md_brings a_md_uses a_md_days a_md_tries a_md_row md_many a_md_first md_length md_set a_md_held a_md_text md_text a_md_told md_told a_md_draft md_draft a_md_s (upd md_s (v1).toNatClampNeg y5) a_md_past md_past a_md_images md_images a_md_seen md_seen a_md_asks md_asks a_md_brings md_brings a_md_uses md_uses a_md_days md_days a_md_tries md_tries a_md_row md_row a_md_first md_first a_md_held md_held)) rfl dX6_undo_47 (fun H locs hw => ?_)
      refine lv_iinc (v := (v1 + 1)) (lv' := [(1, .int (v1 + 1)), (0, .ref a_md)]) hx hb dX6_undo_48 hl (k := 1) rfl (by rw [ofi_1]) (by decide) rfl (fun ls hl => ?_)
      refine lv_goto (tgt := 22) hx hb dX6_undo_51 (by decide) ?_
      exact ih (v1 + 1) (upd md_s (v1).toNatClampNeg y5) _ hm  _ _ ls hw (lv_sub hl [1, 0] rfl) K0
set_option maxHeartbeats 4000000 in
set_option maxRecDepth 100000 in
theorem c_X6_undo (l : Launch) (D : va_G) (cC cI cJ : ClassId) (a_md : Nat) (a_md_text : Nat) (a_md_told : Nat) (a_md_draft : Nat) (a_md_s : Nat) (a_md_past : Nat) (a_md_images : Nat) (a_md_seen : Nat) (a_md_asks : Nat) (a_md_brings : Nat) (a_md_uses : Nat) (a_md_days : Nat) (a_md_tries : Nat) (a_md_row : Nat) (a_md_first : Nat) (a_md_held : Nat) (md_typed : Int32) (md_known : Int32) (md_kept : Int32) (md_sights : Int32) (md_at : Int32) (md_many : Int32) (md_length : Int32) (md_set : Int32) (md_text : (Nat → Int32)) (md_told : (Nat → Int32)) (md_draft : (Nat → Int32)) (md_s : (Nat → Int32)) (md_past : (Nat → Int32)) (md_images : (Nat → Int32)) (md_seen : (Nat → Int32)) (md_asks : (Nat → Int32)) (md_brings : (Nat → Int32)) (md_uses : (Nat → Int32)) (md_days : (Nat → Int32)) (md_tries : (Nat → Int32)) (md_row : (Nat → Int32)) (md_first : (Nat → Int32)) (md_held : (Nat → Int32)) (N : Nat) (A : Nat → Prop) (hD : va_D A (wd_28 cC cI cJ a_md a_md_text md_typed a_md_told a_md_draft a_md_s a_md_past md_known a_md_images md_kept a_md_seen md_sights md_at a_md_asks a_md_brings a_md_uses a_md_days a_md_tries a_md_row md_many a_md_first md_length md_set a_md_held a_md_text md_text a_md_told md_told a_md_draft md_draft a_md_s md_s a_md_past md_past a_md_images md_images a_md_seen md_seen a_md_asks md_asks a_md_brings md_brings a_md_uses md_uses a_md_days md_days a_md_tries md_tries a_md_row md_row a_md_first md_first a_md_held md_held)) (out : (Int32 × Int32 × (Nat → Int32))) (hm : m_X6_undo N md_known md_s md_past = some out) : WrI l yX6_undo wsX6_undo rX6_undo D (tyK cC cI cJ) [.ref a_md] A (wd_28 cC cI cJ a_md a_md_text md_typed a_md_told a_md_draft a_md_s a_md_past md_known a_md_images md_kept a_md_seen md_sights md_at a_md_asks a_md_brings a_md_uses a_md_days a_md_tries a_md_row md_many a_md_first md_length md_set a_md_held a_md_text md_text a_md_told md_told a_md_draft md_draft a_md_s md_s a_md_past md_past a_md_images md_images a_md_seen md_seen a_md_asks md_asks a_md_brings md_brings a_md_uses md_uses a_md_days md_days a_md_tries md_tries a_md_row md_row a_md_first md_first a_md_held md_held) (Bw0 D (wd_28 cC cI cJ a_md a_md_text md_typed a_md_told a_md_draft a_md_s a_md_past out.2.1 a_md_images md_kept a_md_seen md_sights md_at a_md_asks a_md_brings a_md_uses a_md_days a_md_tries a_md_row md_many a_md_first md_length md_set a_md_held a_md_text md_text a_md_told md_told a_md_draft md_draft a_md_s out.2.2 a_md_past md_past a_md_images md_images a_md_seen md_seen a_md_asks md_asks a_md_brings md_brings a_md_uses md_uses a_md_days md_days a_md_tries md_tries a_md_row md_row a_md_first md_first a_md_held md_held)) out.1 := by
  unfold m_X6_undo at hm
  refine enter (cc := cX6_undo) (maxL := 2) (ret := (some .int)) (lv := [(0, .ref a_md)]) (by decide) rfl (Nat.le_of_ble_eq_true rfl) rfl ?_
  intro p e s m args below meth c S hr hlk hK hP ls hl
  replace S : CallFix p m c cX6_undo 2 s args wsX6_undo RX6 := S
  have hx := S.1
  have hb := S.2.1
  have hw : Wd D A s.heap (wd_28 cC cI cJ a_md a_md_text md_typed a_md_told a_md_draft a_md_s a_md_past md_known a_md_images md_kept a_md_seen md_sights md_at a_md_asks a_md_brings a_md_uses a_md_days a_md_tries a_md_row md_many a_md_first md_length md_set a_md_held a_md_text md_text a_md_told md_told a_md_draft md_draft a_md_s md_s a_md_past md_past a_md_images md_images a_md_seen md_seen a_md_asks md_asks a_md_brings md_brings a_md_uses md_uses a_md_days md_days a_md_tries md_tries a_md_row md_row a_md_first md_first a_md_held md_held) s.heap [] := ⟨hP, hD, va_S.rf⟩
  have hw0 := hw
  refine lv_aload_n hx hb dX6_undo_0 rfl (lv_at hl 0 rfl) ?_
  refine f_get S hK hw.1 in_X6_undo_X6 0 rfl rfl 6 (by decide) (List.mem_of_getElem? (i := 1) rfl) rfl rfl dX6_undo_1 ?_
  refine lv_if_ne (tgt := 10) hx hb dX6_undo_4 (by decide) (fun c1 => ?_) (fun c1 => ?_)
  · replace hm := ineg hm c1
    refine lv_aload_n hx hb dX6_undo_10 rfl (lv_at hl 0 rfl) ?_
    refine lv_dup hx hb dX6_undo_11 rfl ?_
    refine f_get S hK hw.1 in_X6_undo_X6 0 rfl rfl 6 (by decide) (List.mem_of_getElem? (i := 1) rfl) rfl rfl dX6_undo_12 ?_
    refine lv_iconst (v := 1) hx hb dX6_undo_15 (by decide) ?_
    refine lv_isub hx hb dX6_undo_16 ?_
    refine f_put S hK hw in_X6_undo_X6 tyX6_ok nmX6 0 rfl rfl 6 (by decide) (List.mem_of_getElem? (i := 1) rfl) rfl rfl rfl rfl (Nat.le_of_ble_eq_true rfl) (ws1 := (wd_28 cC cI cJ a_md a_md_text md_typed a_md_told a_md_draft a_md_s a_md_past (md_known - (1 : Int32)) a_md_images md_kept a_md_seen md_sights md_at a_md_asks a_md_brings a_md_uses a_md_days a_md_tries a_md_row md_many a_md_first md_length md_set a_md_held a_md_text md_text a_md_told md_told a_md_draft md_draft a_md_s md_s a_md_past md_past a_md_images md_images a_md_seen md_seen a_md_asks md_asks a_md_brings md_brings a_md_uses md_uses a_md_days md_days a_md_tries md_tries a_md_row md_row a_md_first md_first a_md_held md_held)) rfl dX6_undo_17 (fun H locs hw => ?_)
    refine lv_iconst (v := 0) hx hb dX6_undo_20 (by decide) ?_
    refine lv_istore_n (lv' := [(1, .int (0 : Int32)), (0, .ref a_md)]) hx hb dX6_undo_21 rfl hl (by decide) rfl (fun ls hl => ?_)
    obtain ⟨r7, h8, hm⟩ := ob hm
    refine t_X6_undo_22 l S hK a_md a_md_text a_md_told a_md_draft a_md_s a_md_past a_md_images a_md_seen a_md_asks a_md_brings a_md_uses a_md_days a_md_tries a_md_row a_md_first a_md_held md_typed (md_known - (1 : Int32)) md_kept md_sights md_at md_many md_length md_set md_text md_told md_draft md_past md_images md_seen md_asks md_brings md_uses md_days md_tries md_row md_first md_held N (0 : Int32) md_s r7 h8  _ _ ls hw (lv_sub hl [1, 0] rfl) (fun H locs ls hw hl => ?_)
    refine lv_aload_n hx hb dX6_undo_54 rfl (lv_at hl 0 rfl) ?_
    refine f_get S hK hw.1 in_X6_undo_X6 0 rfl rfl 6 (by decide) (List.mem_of_getElem? (i := 1) rfl) rfl rfl dX6_undo_55 ?_
    obtain rfl := Option.some.inj hm
    exact e_WI S hr hlk hw rfl hw.1 dX6_undo_58
  · replace hm := ipos hm c1
    refine lv_bipush (v := (-2)) hx hb dX6_undo_7 (by decide) ?_
    obtain rfl := Option.some.inj hm
    exact e_WI S hr hlk hw rfl hw.1 dX6_undo_9

abbrev rX6_well : Room := { frames := 3, cells := 0, slots := 0, locals := 77 }
theorem cal_X6_well : Cal yX6_well wsX6_well cX6_well 2 (some .int) RX6 1 := ⟨⟨_, rfl⟩, rfl, by decide +kernel, by decide +kernel, by decide +kernel⟩
theorem in_X6_well_X6 : ∀ w ∈ wsX60, w ∈ wsX6_well := fun _ h => (List.mem_cons_of_mem _ (List.mem_append_right _ h))
set_option maxHeartbeats 4000000 in
set_option maxRecDepth 100000 in
theorem c_X6_well (l : Launch) (D : va_G) (cC cI cJ : ClassId) (a_md : Nat) (a_md_text : Nat) (a_md_told : Nat) (a_md_draft : Nat) (a_md_s : Nat) (a_md_past : Nat) (a_md_images : Nat) (a_md_seen : Nat) (a_md_asks : Nat) (a_md_brings : Nat) (a_md_uses : Nat) (a_md_days : Nat) (a_md_tries : Nat) (a_md_row : Nat) (a_md_first : Nat) (a_md_held : Nat) (md_typed : Int32) (md_known : Int32) (md_kept : Int32) (md_sights : Int32) (md_at : Int32) (md_many : Int32) (md_length : Int32) (md_set : Int32) (md_text : (Nat → Int32)) (md_told : (Nat → Int32)) (md_draft : (Nat → Int32)) (md_s : (Nat → Int32)) (md_past : (Nat → Int32)) (md_images : (Nat → Int32)) (md_seen : (Nat → Int32)) (md_asks : (Nat → Int32)) (md_brings : (Nat → Int32)) (md_uses : (Nat → Int32)) (md_days : (Nat → Int32)) (md_tries : (Nat → Int32)) (md_row : (Nat → Int32)) (md_first : (Nat → Int32)) (md_held : (Nat → Int32)) (p0 : Int32) (N : Nat) (A : Nat → Prop) (hD : va_D A (wd_28 cC cI cJ a_md a_md_text md_typed a_md_told a_md_draft a_md_s a_md_past md_known a_md_images md_kept a_md_seen md_sights md_at a_md_asks a_md_brings a_md_uses a_md_days a_md_tries a_md_row md_many a_md_first md_length md_set a_md_held a_md_text md_text a_md_told md_told a_md_draft md_draft a_md_s md_s a_md_past md_past a_md_images md_images a_md_seen md_seen a_md_asks md_asks a_md_brings md_brings a_md_uses md_uses a_md_days md_days a_md_tries md_tries a_md_row md_row a_md_first md_first a_md_held md_held)) (out : (Int32 × Int32 × Int32 × (Nat → Int32) × (Nat → Int32) × (Nat → Int32) × (Nat → Int32) × (Nat → Int32) × (Nat → Int32) × (Nat → Int32))) (hm : m_X6_well N md_sights md_many md_length md_told md_s md_seen md_asks md_brings md_uses md_days md_tries md_row md_first p0 = some out) : WrI l yX6_well wsX6_well rX6_well D (tyK cC cI cJ) [.ref a_md, .int p0] A (wd_28 cC cI cJ a_md a_md_text md_typed a_md_told a_md_draft a_md_s a_md_past md_known a_md_images md_kept a_md_seen md_sights md_at a_md_asks a_md_brings a_md_uses a_md_days a_md_tries a_md_row md_many a_md_first md_length md_set a_md_held a_md_text md_text a_md_told md_told a_md_draft md_draft a_md_s md_s a_md_past md_past a_md_images md_images a_md_seen md_seen a_md_asks md_asks a_md_brings md_brings a_md_uses md_uses a_md_days md_days a_md_tries md_tries a_md_row md_row a_md_first md_first a_md_held md_held) (Bw0 D (wd_28 cC cI cJ a_md a_md_text md_typed a_md_told a_md_draft a_md_s a_md_past md_known a_md_images md_kept a_md_seen md_sights md_at a_md_asks a_md_brings a_md_uses a_md_days a_md_tries a_md_row out.2.1 a_md_first out.2.2.1 md_set a_md_held a_md_text md_text a_md_told md_told a_md_draft md_draft a_md_s md_s a_md_past md_past a_md_images md_images a_md_seen md_seen a_md_asks out.2.2.2.1 a_md_brings out.2.2.2.2.1 a_md_uses out.2.2.2.2.2.1 a_md_days out.2.2.2.2.2.2.1 a_md_tries out.2.2.2.2.2.2.2.1 a_md_row out.2.2.2.2.2.2.2.2.1 a_md_first out.2.2.2.2.2.2.2.2.2 a_md_held md_held)) out.1 := by
  unfold m_X6_well at hm
  refine enter (cc := cX6_well) (maxL := 2) (ret := (some .int)) (lv := [(0, .ref a_md), (1, .int p0)]) (by decide) rfl (Nat.le_of_ble_eq_true rfl) rfl ?_
  intro p e s m args below meth c S hr hlk hK hP ls hl
  replace S : CallFix p m c cX6_well 2 s args wsX6_well RX6 := S
  have hx := S.1
  have hb := S.2.1
  have hw : Wd D A s.heap (wd_28 cC cI cJ a_md a_md_text md_typed a_md_told a_md_draft a_md_s a_md_past md_known a_md_images md_kept a_md_seen md_sights md_at a_md_asks a_md_brings a_md_uses a_md_days a_md_tries a_md_row md_many a_md_first md_length md_set a_md_held a_md_text md_text a_md_told md_told a_md_draft md_draft a_md_s md_s a_md_past md_past a_md_images md_images a_md_seen md_seen a_md_asks md_asks a_md_brings md_brings a_md_uses md_uses a_md_days md_days a_md_tries md_tries a_md_row md_row a_md_first md_first a_md_held md_held) s.heap [] := ⟨hP, hD, va_S.rf⟩
  have hw0 := hw
  refine lv_iload_n hx hb dX6_well_0 rfl (lv_at hl 1 rfl) ?_
  refine lv_iconst (v := 0) hx hb dX6_well_1 (by decide) ?_
  refine lv_bipush (v := 8) hx hb dX6_well_2 (by decide) ?_
  obtain ⟨r1, h2, hm⟩ := ob hm
  refine k_rSi S hK hw.1 cal_X6_in gX6_well_X6_in (c_X6_in l D cC cI cJ p0 (0 : Int32) (8 : Int32) r1 h2) ⟨⟨rfl, rfl⟩, Nat.le_of_ble_eq_true rfl, Nat.le_of_ble_eq_true rfl⟩ [] rfl rfl hl.1 rfl (Nat.le_of_ble_eq_true rfl) dX6_well_4 ⟨Nat.zero_le _, Nat.zero_le _⟩ ?_
  refine lv_if_ne (tgt := 12) hx hb dX6_well_7 (by decide) (fun c3 => ?_) (fun c3 => ?_)
  · replace hm := ineg hm c3
    refine lv_aload_n hx hb dX6_well_12 rfl (lv_at hl 0 rfl) ?_
    refine lv_iconst (v := 0) hx hb dX6_well_13 (by decide) ?_
    refine lv_iconst (v := 0) hx hb dX6_well_14 (by decide) ?_
    obtain ⟨r4, h5, hm⟩ := ob hm
    refine k_wVv S hK hw cal_X6_walks gX6_well_X6_walks (c_X6_walks l D cC cI cJ a_md a_md_text a_md_told a_md_draft a_md_s a_md_past a_md_images a_md_seen a_md_asks a_md_brings a_md_uses a_md_days a_md_tries a_md_row a_md_first a_md_held md_typed md_known md_kept md_sights md_at md_many md_length md_set md_text md_told md_draft md_s md_past md_images md_seen md_asks md_brings md_uses md_days md_tries md_row md_first md_held (0 : Int32) (0 : Int32) N (aw _) (hw.own [0, 1, 2, 3, 4, 5, 6, 7, 8, 9, 10, 11, 12, 13, 14, 15] (by decide) rfl) r4 h5) ⟨⟨rfl, rfl⟩, Nat.le_of_ble_eq_true rfl, Nat.le_of_ble_eq_true rfl⟩ [0, 1, 2, 3, 4, 5, 6, 7, 8, 9, 10, 11, 12, 13, 14, 15] rfl 0 rfl rfl rfl hl.1 rfl (Nat.le_of_ble_eq_true rfl) dX6_well_15 ⟨Nat.zero_le _, Nat.zero_le _⟩ (fun H locs hJ hB => ?_)
    have hw := hJ _ hB rfl
    replace hw : Wd D A _ (wd_28 cC cI cJ a_md a_md_text md_typed a_md_told a_md_draft a_md_s a_md_past md_known a_md_images md_kept a_md_seen md_sights md_at a_md_asks a_md_brings a_md_uses a_md_days a_md_tries a_md_row r4.1 a_md_first r4.2.1 md_set a_md_held a_md_text md_text a_md_told md_told a_md_draft md_draft a_md_s md_s a_md_past md_past a_md_images md_images a_md_seen md_seen a_md_asks r4.2.2.1 a_md_brings r4.2.2.2.1 a_md_uses r4.2.2.2.2.1 a_md_days r4.2.2.2.2.2.1 a_md_tries r4.2.2.2.2.2.2.1 a_md_row r4.2.2.2.2.2.2.2.1 a_md_first r4.2.2.2.2.2.2.2.2 a_md_held md_held) H locs := hw
    refine lv_iload_n hx hb dX6_well_18 rfl (lv_at hl 1 rfl) ?_
    refine lv_if_ne (tgt := 29) hx hb dX6_well_19 (by decide) (fun c6 => ?_) (fun c6 => ?_)
    · replace hm := ineg hm c6
      refine lv_iload_n hx hb dX6_well_29 rfl (lv_at hl 1 rfl) ?_
      refine lv_aload_n hx hb dX6_well_30 rfl (lv_at hl 0 rfl) ?_
      refine f_get S hK hw.1 in_X6_well_X6 0 rfl rfl 20 (by decide) (List.mem_of_getElem? (i := 2) rfl) rfl rfl dX6_well_31 ?_
      refine lv_icmp_le (tgt := 42) hx hb dX6_well_34 (by decide) (fun c7 => ?_) (fun c7 => ?_)
      · replace hm := ipos hm c7
        refine lv_aload_n hx hb dX6_well_42 rfl (lv_at hl 0 rfl) ?_
        refine f_get S hK hw.1 in_X6_well_X6 0 rfl rfl 19 (by decide) (List.mem_of_getElem? (i := 3) rfl) rfl rfl dX6_well_43 ?_
        refine lv_iload_n hx hb dX6_well_46 rfl (lv_at hl 1 rfl) ?_
        refine lv_iconst (v := 1) hx hb dX6_well_47 (by decide) ?_
        refine lv_isub hx hb dX6_well_48 ?_
        obtain ⟨g8, hm⟩ := gdo hm
        refine f_iald S hK hw.1 14 1 rfl rfl g8 dX6_well_49 ?_
        obtain rfl := Option.some.inj hm
        exact e_WI S hr hlk hw rfl hw.1 dX6_well_50
      · replace hm := ineg hm c7
        refine lv_bipush (v := (-4)) hx hb dX6_well_37 (by decide) ?_
        refine lv_goto (tgt := 50) hx hb dX6_well_39 (by decide) ?_
        obtain rfl := Option.some.inj hm
        exact e_WI S hr hlk hw rfl hw.1 dX6_well_50
    · replace hm := ipos hm c6
      refine lv_aload_n hx hb dX6_well_22 rfl (lv_at hl 0 rfl) ?_
      refine f_get S hK hw.1 in_X6_well_X6 0 rfl rfl 18 (by decide) (List.mem_of_getElem? (i := 1) rfl) rfl rfl dX6_well_23 ?_
      refine lv_goto (tgt := 50) hx hb dX6_well_26 (by decide) ?_
      obtain rfl := Option.some.inj hm
      exact e_WI S hr hlk hw rfl hw.1 dX6_well_50
  · replace hm := ipos hm c3
    refine lv_iconst (v := (-1)) hx hb dX6_well_10 (by decide) ?_
    obtain rfl := Option.some.inj hm
    exact e_WI S hr hlk hw rfl hw.1 dX6_well_11

abbrev rX6_wipe : Room := { frames := 0, cells := 0, slots := 0, locals := 0 }
theorem cal_X6_wipe : Cal yX6_wipe wsX6_wipe cX6_wipe 2 (some .int) RX6 0 := ⟨⟨_, rfl⟩, rfl, by decide +kernel, by decide +kernel, by decide +kernel⟩
theorem in_X6_wipe_X6 : ∀ w ∈ wsX60, w ∈ wsX6_wipe := fun _ h => (List.mem_cons_of_mem _ (List.mem_append_right _ h))
set_option maxHeartbeats 4000000 in
set_option maxRecDepth 100000 in
theorem c_X6_wipe (l : Launch) (D : va_G) (cC cI cJ : ClassId) (a_md : Nat) (a_md_text : Nat) (a_md_told : Nat) (a_md_draft : Nat) (a_md_s : Nat) (a_md_past : Nat) (a_md_images : Nat) (a_md_seen : Nat) (a_md_asks : Nat) (a_md_brings : Nat) (a_md_uses : Nat) (a_md_days : Nat) (a_md_tries : Nat) (a_md_row : Nat) (a_md_first : Nat) (a_md_held : Nat) (md_typed : Int32) (md_known : Int32) (md_kept : Int32) (md_sights : Int32) (md_at : Int32) (md_many : Int32) (md_length : Int32) (md_set : Int32) (md_text : (Nat → Int32)) (md_told : (Nat → Int32)) (md_draft : (Nat → Int32)) (md_s : (Nat → Int32)) (md_past : (Nat → Int32)) (md_images : (Nat → Int32)) (md_seen : (Nat → Int32)) (md_asks : (Nat → Int32)) (md_brings : (Nat → Int32)) (md_uses : (Nat → Int32)) (md_days : (Nat → Int32)) (md_tries : (Nat → Int32)) (md_row : (Nat → Int32)) (md_first : (Nat → Int32)) (md_held : (Nat → Int32)) (A : Nat → Prop) (hD : va_D A (wd_28 cC cI cJ a_md a_md_text md_typed a_md_told a_md_draft a_md_s a_md_past md_known a_md_images md_kept a_md_seen md_sights md_at a_md_asks a_md_brings a_md_uses a_md_days a_md_tries a_md_row md_many a_md_first md_length md_set a_md_held a_md_text md_text a_md_told md_told a_md_draft md_draft a_md_s md_s a_md_past md_past a_md_images md_images a_md_seen md_seen a_md_asks md_asks a_md_brings md_brings a_md_uses md_uses a_md_days md_days a_md_tries md_tries a_md_row md_row a_md_first md_first a_md_held md_held)) (out : (Int32 × Int32)) (hm : m_X6_wipe md_typed = some out) : WrI l yX6_wipe wsX6_wipe rX6_wipe D (tyK cC cI cJ) [.ref a_md] A (wd_28 cC cI cJ a_md a_md_text md_typed a_md_told a_md_draft a_md_s a_md_past md_known a_md_images md_kept a_md_seen md_sights md_at a_md_asks a_md_brings a_md_uses a_md_days a_md_tries a_md_row md_many a_md_first md_length md_set a_md_held a_md_text md_text a_md_told md_told a_md_draft md_draft a_md_s md_s a_md_past md_past a_md_images md_images a_md_seen md_seen a_md_asks md_asks a_md_brings md_brings a_md_uses md_uses a_md_days md_days a_md_tries md_tries a_md_row md_row a_md_first md_first a_md_held md_held) (Bw0 D (wd_28 cC cI cJ a_md a_md_text out.2 a_md_told a_md_draft a_md_s a_md_past md_known a_md_images md_kept a_md_seen md_sights md_at a_md_asks a_md_brings a_md_uses a_md_days a_md_tries a_md_row md_many a_md_first md_length md_set a_md_held a_md_text md_text a_md_told md_told a_md_draft md_draft a_md_s md_s a_md_past md_past a_md_images md_images a_md_seen md_seen a_md_asks md_asks a_md_brings md_brings a_md_uses md_uses a_md_days md_days a_md_tries md_tries a_md_row md_row a_md_first md_first a_md_held md_held)) out.1 := by
  unfold m_X6_wipe at hm
  refine enter (cc := cX6_wipe) (maxL := 2) (ret := (some .int)) (lv := [(0, .ref a_md)]) (by decide) rfl (Nat.le_of_ble_eq_true rfl) rfl ?_
  intro p e s m args below meth c S hr hlk hK hP ls hl
  replace S : CallFix p m c cX6_wipe 2 s args wsX6_wipe RX6 := S
  have hx := S.1
  have hb := S.2.1
  have hw : Wd D A s.heap (wd_28 cC cI cJ a_md a_md_text md_typed a_md_told a_md_draft a_md_s a_md_past md_known a_md_images md_kept a_md_seen md_sights md_at a_md_asks a_md_brings a_md_uses a_md_days a_md_tries a_md_row md_many a_md_first md_length md_set a_md_held a_md_text md_text a_md_told md_told a_md_draft md_draft a_md_s md_s a_md_past md_past a_md_images md_images a_md_seen md_seen a_md_asks md_asks a_md_brings md_brings a_md_uses md_uses a_md_days md_days a_md_tries md_tries a_md_row md_row a_md_first md_first a_md_held md_held) s.heap [] := ⟨hP, hD, va_S.rf⟩
  have hw0 := hw
  refine lv_aload_n hx hb dX6_wipe_0 rfl (lv_at hl 0 rfl) ?_
  refine f_get S hK hw.1 in_X6_wipe_X6 0 rfl rfl 1 (by decide) (List.mem_of_getElem? (i := 1) rfl) rfl rfl dX6_wipe_1 ?_
  refine lv_istore_n (lv' := [(1, .int md_typed), (0, .ref a_md)]) hx hb dX6_wipe_4 rfl hl (by decide) rfl (fun ls hl => ?_)
  refine lv_aload_n hx hb dX6_wipe_5 rfl (lv_at hl 1 rfl) ?_
  refine lv_iconst (v := 0) hx hb dX6_wipe_6 (by decide) ?_
  refine f_put S hK hw in_X6_wipe_X6 tyX6_ok nmX6 0 rfl rfl 1 (by decide) (List.mem_of_getElem? (i := 1) rfl) rfl rfl rfl rfl (Nat.le_of_ble_eq_true rfl) (ws1 := (wd_28 cC cI cJ a_md a_md_text (0 : Int32) a_md_told a_md_draft a_md_s a_md_past md_known a_md_images md_kept a_md_seen md_sights md_at a_md_asks a_md_brings a_md_uses a_md_days a_md_tries a_md_row md_many a_md_first md_length md_set a_md_held a_md_text md_text a_md_told md_told a_md_draft md_draft a_md_s md_s a_md_past md_past a_md_images md_images a_md_seen md_seen a_md_asks md_asks a_md_brings md_brings a_md_uses md_uses a_md_days md_days a_md_tries md_tries a_md_row md_row a_md_first md_first a_md_held md_held)) rfl dX6_wipe_7 (fun H locs hw => ?_)
  refine lv_iload_n hx hb dX6_wipe_10 rfl (lv_at hl 0 rfl) ?_
  obtain rfl := Option.some.inj hm
  exact e_WI S hr hlk hw rfl hw.1 dX6_wipe_11
