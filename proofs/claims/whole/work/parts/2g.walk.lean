/-! walks: X6_number X6_helperOf X6_taskOf X6_readsItem X6_readsAll X6_fault X6_lowest -/
abbrev rX6_number : Room := { frames := 2, cells := 0, slots := 0, locals := 42 }
theorem cal_X6_number : Cal yX6_number wsX6_number cX6_number 6 (some .int) RX6 3 := ⟨⟨_, rfl⟩, rfl, by decide +kernel, by decide +kernel, by decide +kernel⟩
theorem in_X6_number_X6 : ∀ w ∈ wsX60, w ∈ wsX6_number := fun _ h => (List.mem_cons_of_mem _ (List.mem_append_right _ h))
set_option maxHeartbeats 4000000 in
set_option maxRecDepth 100000 in
theorem c_X6_number (l : Launch) (D : va_G) (cC cI cJ : ClassId) (a_md : Nat) (a_md_text : Nat) (a_md_told : Nat) (a_md_draft : Nat) (a_md_s : Nat) (a_md_past : Nat) (a_md_images : Nat) (a_md_seen : Nat) (a_md_asks : Nat) (a_md_brings : Nat) (a_md_uses : Nat) (a_md_days : Nat) (a_md_tries : Nat) (a_md_row : Nat) (a_md_first : Nat) (a_md_held : Nat) (md_typed : Int32) (md_known : Int32) (md_kept : Int32) (md_sights : Int32) (md_at : Int32) (md_many : Int32) (md_length : Int32) (md_set : Int32) (md_text : (Nat → Int32)) (md_told : (Nat → Int32)) (md_draft : (Nat → Int32)) (md_s : (Nat → Int32)) (md_past : (Nat → Int32)) (md_images : (Nat → Int32)) (md_seen : (Nat → Int32)) (md_asks : (Nat → Int32)) (md_brings : (Nat → Int32)) (md_uses : (Nat → Int32)) (md_days : (Nat → Int32)) (md_tries : (Nat → Int32)) (md_row : (Nat → Int32)) (md_first : (Nat → Int32)) (md_held : (Nat → Int32)) (p0 : Int32) (p1 : Int32) (p2 : Int32) (A : Nat → Prop) (hD : va_D A (wd_28 cC cI cJ a_md a_md_text md_typed a_md_told a_md_draft a_md_s a_md_past md_known a_md_images md_kept a_md_seen md_sights md_at a_md_asks a_md_brings a_md_uses a_md_days a_md_tries a_md_row md_many a_md_first md_length md_set a_md_held a_md_text md_text a_md_told md_told a_md_draft md_draft a_md_s md_s a_md_past md_past a_md_images md_images a_md_seen md_seen a_md_asks md_asks a_md_brings md_brings a_md_uses md_uses a_md_days md_days a_md_tries md_tries a_md_row md_row a_md_first md_first a_md_held md_held)) (out : (Int32 × Int32)) (hm : m_X6_number md_typed md_at md_text p0 p1 p2 = some out) : WrI l yX6_number wsX6_number rX6_number D (tyK cC cI cJ) [.ref a_md, .int p0, .int p1, .int p2] A (wd_28 cC cI cJ a_md a_md_text md_typed a_md_told a_md_draft a_md_s a_md_past md_known a_md_images md_kept a_md_seen md_sights md_at a_md_asks a_md_brings a_md_uses a_md_days a_md_tries a_md_row md_many a_md_first md_length md_set a_md_held a_md_text md_text a_md_told md_told a_md_draft md_draft a_md_s md_s a_md_past md_past a_md_images md_images a_md_seen md_seen a_md_asks md_asks a_md_brings md_brings a_md_uses md_uses a_md_days md_days a_md_tries md_tries a_md_row md_row a_md_first md_first a_md_held md_held) (Bw0 D (wd_28 cC cI cJ a_md a_md_text md_typed a_md_told a_md_draft a_md_s a_md_past md_known a_md_images md_kept a_md_seen md_sights out.2 a_md_asks a_md_brings a_md_uses a_md_days a_md_tries a_md_row md_many a_md_first md_length md_set a_md_held a_md_text md_text a_md_told md_told a_md_draft md_draft a_md_s md_s a_md_past md_past a_md_images md_images a_md_seen md_seen a_md_asks md_asks a_md_brings md_brings a_md_uses md_uses a_md_days md_days a_md_tries md_tries a_md_row md_row a_md_first md_first a_md_held md_held)) out.1 := by
  unfold m_X6_number at hm
  refine enter (cc := cX6_number) (maxL := 6) (ret := (some .int)) (lv := [(0, .ref a_md), (1, .int p0), (2, .int p1), (3, .int p2)]) (by decide) rfl (Nat.le_of_ble_eq_true rfl) rfl ?_
  intro p e s m args below meth c S hr hlk hK hP ls hl
  replace S : CallFix p m c cX6_number 6 s args wsX6_number RX6 := S
  have hx := S.1
  have hb := S.2.1
  have hw : Wd D A s.heap (wd_28 cC cI cJ a_md a_md_text md_typed a_md_told a_md_draft a_md_s a_md_past md_known a_md_images md_kept a_md_seen md_sights md_at a_md_asks a_md_brings a_md_uses a_md_days a_md_tries a_md_row md_many a_md_first md_length md_set a_md_held a_md_text md_text a_md_told md_told a_md_draft md_draft a_md_s md_s a_md_past md_past a_md_images md_images a_md_seen md_seen a_md_asks md_asks a_md_brings md_brings a_md_uses md_uses a_md_days md_days a_md_tries md_tries a_md_row md_row a_md_first md_first a_md_held md_held) s.heap [] := ⟨hP, hD, va_S.rf⟩
  have hw0 := hw
  refine lv_aload_n hx hb dX6_number_0 rfl (lv_at hl 0 rfl) ?_
  refine lv_aload_n hx hb dX6_number_1 rfl (lv_at hl 0 rfl) ?_
  refine f_get S hK hw.1 in_X6_number_X6 0 rfl rfl 11 (by decide) (List.mem_of_getElem? (i := 1) rfl) rfl rfl dX6_number_2 ?_
  obtain ⟨r1, h2, hm⟩ := ob hm
  refine k_rVi S hK hw.1 cal_X6_letterAt gX6_number_X6_letterAt (c_X6_letterAt l D cC cI cJ a_md a_md_text a_md_told a_md_draft a_md_s a_md_past a_md_images a_md_seen a_md_asks a_md_brings a_md_uses a_md_days a_md_tries a_md_row a_md_first a_md_held md_typed md_known md_kept md_sights md_at md_many md_length md_set md_text md_told md_draft md_s md_past md_images md_seen md_asks md_brings md_uses md_days md_tries md_row md_first md_held md_at r1 h2) ⟨⟨rfl, rfl⟩, Nat.le_of_ble_eq_true rfl, Nat.le_of_ble_eq_true rfl⟩ [0, 1, 2, 3, 4, 5, 6, 7, 8, 9, 10, 11, 12, 13, 14, 15] rfl 0 rfl rfl rfl hl.1 rfl (Nat.le_of_ble_eq_true rfl) dX6_number_5 ⟨Nat.zero_le _, Nat.zero_le _⟩ ?_
  obtain ⟨r3, h4, hm⟩ := ob hm
  refine k_rSi S hK hw.1 cal_X6_isFigure gX6_number_X6_isFigure (c_X6_isFigure l D cC cI cJ r1 r3 h4) ⟨⟨rfl, rfl⟩, Nat.le_of_ble_eq_true rfl, Nat.le_of_ble_eq_true rfl⟩ [] rfl rfl hl.1 rfl (Nat.le_of_ble_eq_true rfl) dX6_number_8 ⟨Nat.zero_le _, Nat.zero_le _⟩ ?_
  refine lv_if_ne (tgt := 16) hx hb dX6_number_11 (by decide) (fun c5 => ?_) (fun c5 => ?_)
  · replace hm := ineg hm c5
    refine lv_aload_n hx hb dX6_number_16 rfl (lv_at hl 0 rfl) ?_
    refine lv_aload_n hx hb dX6_number_17 rfl (lv_at hl 0 rfl) ?_
    refine f_get S hK hw.1 in_X6_number_X6 0 rfl rfl 11 (by decide) (List.mem_of_getElem? (i := 1) rfl) rfl rfl dX6_number_18 ?_
    obtain ⟨r6, h7, hm⟩ := ob hm
    refine k_rVi S hK hw.1 cal_X6_letterAt gX6_number_X6_letterAt (c_X6_letterAt l D cC cI cJ a_md a_md_text a_md_told a_md_draft a_md_s a_md_past a_md_images a_md_seen a_md_asks a_md_brings a_md_uses a_md_days a_md_tries a_md_row a_md_first a_md_held md_typed md_known md_kept md_sights md_at md_many md_length md_set md_text md_told md_draft md_s md_past md_images md_seen md_asks md_brings md_uses md_days md_tries md_row md_first md_held md_at r6 h7) ⟨⟨rfl, rfl⟩, Nat.le_of_ble_eq_true rfl, Nat.le_of_ble_eq_true rfl⟩ [0, 1, 2, 3, 4, 5, 6, 7, 8, 9, 10, 11, 12, 13, 14, 15] rfl 0 rfl rfl rfl hl.1 rfl (Nat.le_of_ble_eq_true rfl) dX6_number_21 ⟨Nat.zero_le _, Nat.zero_le _⟩ ?_
    refine lv_bipush (v := 48) hx hb dX6_number_24 (by decide) ?_
    refine lv_isub hx hb dX6_number_26 ?_
    refine lv_istore (lv' := [(4, .int (r6 - (48 : Int32))), (0, .ref a_md), (1, .int p0), (2, .int p1), (3, .int p2)]) hx hb dX6_number_27 hl (by decide) rfl (fun ls hl => ?_)
    refine lv_aload_n hx hb dX6_number_29 rfl (lv_at hl 1 rfl) ?_
    refine lv_dup hx hb dX6_number_30 rfl ?_
    refine f_get S hK hw.1 in_X6_number_X6 0 rfl rfl 11 (by decide) (List.mem_of_getElem? (i := 1) rfl) rfl rfl dX6_number_31 ?_
    refine lv_iconst (v := 1) hx hb dX6_number_34 (by decide) ?_
    refine lv_iadd hx hb dX6_number_35 ?_
    refine f_put S hK hw in_X6_number_X6 tyX6_ok nmX6 0 rfl rfl 11 (by decide) (List.mem_of_getElem? (i := 1) rfl) rfl rfl rfl rfl (Nat.le_of_ble_eq_true rfl) (ws1 := (wd_28 cC cI cJ a_md a_md_text md_typed a_md_told a_md_draft a_md_s a_md_past md_known a_md_images md_kept a_md_seen md_sights (md_at + (1 : Int32)) a_md_asks a_md_brings a_md_uses a_md_days a_md_tries a_md_row md_many a_md_first md_length md_set a_md_held a_md_text md_text a_md_told md_told a_md_draft md_draft a_md_s md_s a_md_past md_past a_md_images md_images a_md_seen md_seen a_md_asks md_asks a_md_brings md_brings a_md_uses md_uses a_md_days md_days a_md_tries md_tries a_md_row md_row a_md_first md_first a_md_held md_held)) rfl dX6_number_36 (fun H locs hw => ?_)
    refine lv_aload_n hx hb dX6_number_39 rfl (lv_at hl 1 rfl) ?_
    refine lv_aload_n hx hb dX6_number_40 rfl (lv_at hl 1 rfl) ?_
    refine f_get S hK hw.1 in_X6_number_X6 0 rfl rfl 11 (by decide) (List.mem_of_getElem? (i := 1) rfl) rfl rfl dX6_number_41 ?_
    obtain ⟨r8, h9, hm⟩ := ob hm
    refine k_rVi S hK hw.1 cal_X6_letterAt gX6_number_X6_letterAt (c_X6_letterAt l D cC cI cJ a_md a_md_text a_md_told a_md_draft a_md_s a_md_past a_md_images a_md_seen a_md_asks a_md_brings a_md_uses a_md_days a_md_tries a_md_row a_md_first a_md_held md_typed md_known md_kept md_sights (md_at + (1 : Int32)) md_many md_length md_set md_text md_told md_draft md_s md_past md_images md_seen md_asks md_brings md_uses md_days md_tries md_row md_first md_held (md_at + (1 : Int32)) r8 h9) ⟨⟨rfl, rfl⟩, Nat.le_of_ble_eq_true rfl, Nat.le_of_ble_eq_true rfl⟩ [0, 1, 2, 3, 4, 5, 6, 7, 8, 9, 10, 11, 12, 13, 14, 15] rfl 0 rfl rfl rfl hl.1 rfl (Nat.le_of_ble_eq_true rfl) dX6_number_44 ⟨Nat.zero_le _, Nat.zero_le _⟩ ?_
    obtain ⟨r10, h11, hm⟩ := ob hm
    refine k_rSi S hK hw.1 cal_X6_isFigure gX6_number_X6_isFigure (c_X6_isFigure l D cC cI cJ r8 r10 h11) ⟨⟨rfl, rfl⟩, Nat.le_of_ble_eq_true rfl, Nat.le_of_ble_eq_true rfl⟩ [] rfl rfl hl.1 rfl (Nat.le_of_ble_eq_true rfl) dX6_number_47 ⟨Nat.zero_le _, Nat.zero_le _⟩ ?_
    refine lv_if_eq (tgt := 82) hx hb dX6_number_50 (by decide) (fun c12 => ?_) (fun c12 => ?_)
    · replace hm := ipos hm c12
      refine lv_aload_n hx hb dX6_number_82 rfl (lv_at hl 1 rfl) ?_
      refine lv_aload_n hx hb dX6_number_83 rfl (lv_at hl 1 rfl) ?_
      refine f_get S hK hw.1 in_X6_number_X6 0 rfl rfl 11 (by decide) (List.mem_of_getElem? (i := 1) rfl) rfl rfl dX6_number_84 ?_
      obtain ⟨r13, h14, hm⟩ := ob hm
      refine k_rVi S hK hw.1 cal_X6_letterAt gX6_number_X6_letterAt (c_X6_letterAt l D cC cI cJ a_md a_md_text a_md_told a_md_draft a_md_s a_md_past a_md_images a_md_seen a_md_asks a_md_brings a_md_uses a_md_days a_md_tries a_md_row a_md_first a_md_held md_typed md_known md_kept md_sights (md_at + (1 : Int32)) md_many md_length md_set md_text md_told md_draft md_s md_past md_images md_seen md_asks md_brings md_uses md_days md_tries md_row md_first md_held (md_at + (1 : Int32)) r13 h14) ⟨⟨rfl, rfl⟩, Nat.le_of_ble_eq_true rfl, Nat.le_of_ble_eq_true rfl⟩ [0, 1, 2, 3, 4, 5, 6, 7, 8, 9, 10, 11, 12, 13, 14, 15] rfl 0 rfl rfl rfl hl.1 rfl (Nat.le_of_ble_eq_true rfl) dX6_number_87 ⟨Nat.zero_le _, Nat.zero_le _⟩ ?_
      refine lv_iload_n hx hb dX6_number_90 rfl (lv_at hl 4 rfl) ?_
      refine lv_icmp_ne (tgt := 108) hx hb dX6_number_91 (by decide) (fun c15 => ?_) (fun c15 => ?_)
      · replace hm := ineg hm c15
        refine lv_iconst (v := 0) hx hb dX6_number_108 (by decide) ?_
        refine lv_istore (lv' := [(5, .int (0 : Int32)), (4, .int (r6 - (48 : Int32))), (0, .ref a_md), (1, .int p0), (2, .int p1), (3, .int p2)]) hx hb dX6_number_109 hl (by decide) rfl (fun ls hl => ?_)
        refine lv_aload_n hx hb dX6_number_111 rfl (lv_at hl 2 rfl) ?_
        refine lv_dup hx hb dX6_number_112 rfl ?_
        refine f_get S hK hw.1 in_X6_number_X6 0 rfl rfl 11 (by decide) (List.mem_of_getElem? (i := 1) rfl) rfl rfl dX6_number_113 ?_
        refine lv_iconst (v := 1) hx hb dX6_number_116 (by decide) ?_
        refine lv_iadd hx hb dX6_number_117 ?_
        obtain ⟨y16, e17, hm⟩ := ob hm
        refine f_name e17 ?_
        refine f_put S hK hw in_X6_number_X6 tyX6_ok nmX6 0 rfl rfl 11 (by decide) (List.mem_of_getElem? (i := 1) rfl) rfl rfl rfl rfl (Nat.le_of_ble_eq_true rfl) (ws1 := (wd_28 cC cI cJ a_md a_md_text md_typed a_md_told a_md_draft a_md_s a_md_past md_known a_md_images md_kept a_md_seen md_sights y16 a_md_asks a_md_brings a_md_uses a_md_days a_md_tries a_md_row md_many a_md_first md_length md_set a_md_held a_md_text md_text a_md_told md_told a_md_draft md_draft a_md_s md_s a_md_past md_past a_md_images md_images a_md_seen md_seen a_md_asks md_asks a_md_brings md_brings a_md_uses md_uses a_md_days md_days a_md_tries md_tries a_md_row md_row a_md_first md_first a_md_held md_held)) rfl dX6_number_118 (fun H locs hw => ?_)
        refine lv_iload hx hb dX6_number_121 (lv_at hl 0 rfl) ?_
        refine lv_if_eq (tgt := 131) hx hb dX6_number_123 (by decide) (fun c18 => ?_) (fun c18 => ?_)
        · replace hm := ipos hm c18
          refine lv_iconst (v := (-1)) hx hb dX6_number_131 (by decide) ?_
          obtain rfl := Option.some.inj hm
          exact e_WI S hr hlk hw rfl hw.1 dX6_number_132
        · replace hm := ineg hm c18
          refine lv_iload hx hb dX6_number_126 (lv_at hl 1 rfl) ?_
          refine lv_goto (tgt := 132) hx hb dX6_number_128 (by decide) ?_
          obtain rfl := Option.some.inj hm
          exact e_WI S hr hlk hw rfl hw.1 dX6_number_132
      · replace hm := ipos hm c15
        refine lv_iload hx hb dX6_number_94 (lv_at hl 0 rfl) ?_
        refine lv_iload_n hx hb dX6_number_96 rfl (lv_at hl 2 rfl) ?_
        refine lv_iload_n hx hb dX6_number_97 rfl (lv_at hl 3 rfl) ?_
        obtain ⟨r19, h20, hm⟩ := ob hm
        refine k_rSi S hK hw.1 cal_X6_in gX6_number_X6_in (c_X6_in l D cC cI cJ (r6 - (48 : Int32)) p0 p1 r19 h20) ⟨⟨rfl, rfl⟩, Nat.le_of_ble_eq_true rfl, Nat.le_of_ble_eq_true rfl⟩ [] rfl rfl hl.1 rfl (Nat.le_of_ble_eq_true rfl) dX6_number_98 ⟨Nat.zero_le _, Nat.zero_le _⟩ ?_
        refine lv_if_eq (tgt := 108) hx hb dX6_number_101 (by decide) (fun c21 => ?_) (fun c21 => ?_)
        · replace hm := ipos hm c21
          refine lv_iconst (v := 0) hx hb dX6_number_108 (by decide) ?_
          refine lv_istore (lv' := [(5, .int (0 : Int32)), (4, .int (r6 - (48 : Int32))), (0, .ref a_md), (1, .int p0), (2, .int p1), (3, .int p2)]) hx hb dX6_number_109 hl (by decide) rfl (fun ls hl => ?_)
          refine lv_aload_n hx hb dX6_number_111 rfl (lv_at hl 2 rfl) ?_
          refine lv_dup hx hb dX6_number_112 rfl ?_
          refine f_get S hK hw.1 in_X6_number_X6 0 rfl rfl 11 (by decide) (List.mem_of_getElem? (i := 1) rfl) rfl rfl dX6_number_113 ?_
          refine lv_iconst (v := 1) hx hb dX6_number_116 (by decide) ?_
          refine lv_iadd hx hb dX6_number_117 ?_
          obtain ⟨y22, e23, hm⟩ := ob hm
          refine f_name e23 ?_
          refine f_put S hK hw in_X6_number_X6 tyX6_ok nmX6 0 rfl rfl 11 (by decide) (List.mem_of_getElem? (i := 1) rfl) rfl rfl rfl rfl (Nat.le_of_ble_eq_true rfl) (ws1 := (wd_28 cC cI cJ a_md a_md_text md_typed a_md_told a_md_draft a_md_s a_md_past md_known a_md_images md_kept a_md_seen md_sights y22 a_md_asks a_md_brings a_md_uses a_md_days a_md_tries a_md_row md_many a_md_first md_length md_set a_md_held a_md_text md_text a_md_told md_told a_md_draft md_draft a_md_s md_s a_md_past md_past a_md_images md_images a_md_seen md_seen a_md_asks md_asks a_md_brings md_brings a_md_uses md_uses a_md_days md_days a_md_tries md_tries a_md_row md_row a_md_first md_first a_md_held md_held)) rfl dX6_number_118 (fun H locs hw => ?_)
          refine lv_iload hx hb dX6_number_121 (lv_at hl 0 rfl) ?_
          refine lv_if_eq (tgt := 131) hx hb dX6_number_123 (by decide) (fun c24 => ?_) (fun c24 => ?_)
          · replace hm := ipos hm c24
            refine lv_iconst (v := (-1)) hx hb dX6_number_131 (by decide) ?_
            obtain rfl := Option.some.inj hm
            exact e_WI S hr hlk hw rfl hw.1 dX6_number_132
          · replace hm := ineg hm c24
            refine lv_iload hx hb dX6_number_126 (lv_at hl 1 rfl) ?_
            refine lv_goto (tgt := 132) hx hb dX6_number_128 (by decide) ?_
            obtain rfl := Option.some.inj hm
            exact e_WI S hr hlk hw rfl hw.1 dX6_number_132
        · replace hm := ineg hm c21
          refine lv_iconst (v := 1) hx hb dX6_number_104 (by decide) ?_
          refine lv_goto (tgt := 109) hx hb dX6_number_105 (by decide) ?_
          refine lv_istore (lv' := [(5, .int (1 : Int32)), (4, .int (r6 - (48 : Int32))), (0, .ref a_md), (1, .int p0), (2, .int p1), (3, .int p2)]) hx hb dX6_number_109 hl (by decide) rfl (fun ls hl => ?_)
          refine lv_aload_n hx hb dX6_number_111 rfl (lv_at hl 2 rfl) ?_
          refine lv_dup hx hb dX6_number_112 rfl ?_
          refine f_get S hK hw.1 in_X6_number_X6 0 rfl rfl 11 (by decide) (List.mem_of_getElem? (i := 1) rfl) rfl rfl dX6_number_113 ?_
          refine lv_iconst (v := 1) hx hb dX6_number_116 (by decide) ?_
          refine lv_iadd hx hb dX6_number_117 ?_
          obtain ⟨y25, e26, hm⟩ := ob hm
          refine f_name e26 ?_
          refine f_put S hK hw in_X6_number_X6 tyX6_ok nmX6 0 rfl rfl 11 (by decide) (List.mem_of_getElem? (i := 1) rfl) rfl rfl rfl rfl (Nat.le_of_ble_eq_true rfl) (ws1 := (wd_28 cC cI cJ a_md a_md_text md_typed a_md_told a_md_draft a_md_s a_md_past md_known a_md_images md_kept a_md_seen md_sights y25 a_md_asks a_md_brings a_md_uses a_md_days a_md_tries a_md_row md_many a_md_first md_length md_set a_md_held a_md_text md_text a_md_told md_told a_md_draft md_draft a_md_s md_s a_md_past md_past a_md_images md_images a_md_seen md_seen a_md_asks md_asks a_md_brings md_brings a_md_uses md_uses a_md_days md_days a_md_tries md_tries a_md_row md_row a_md_first md_first a_md_held md_held)) rfl dX6_number_118 (fun H locs hw => ?_)
          refine lv_iload hx hb dX6_number_121 (lv_at hl 0 rfl) ?_
          refine lv_if_eq (tgt := 131) hx hb dX6_number_123 (by decide) (fun c27 => ?_) (fun c27 => ?_)
          · replace hm := ipos hm c27
            refine lv_iconst (v := (-1)) hx hb dX6_number_131 (by decide) ?_
            obtain rfl := Option.some.inj hm
            exact e_WI S hr hlk hw rfl hw.1 dX6_number_132
          · replace hm := ineg hm c27
            refine lv_iload hx hb dX6_number_126 (lv_at hl 1 rfl) ?_
            refine lv_goto (tgt := 132) hx hb dX6_number_128 (by decide) ?_
            obtain rfl := Option.some.inj hm
            exact e_WI S hr hlk hw rfl hw.1 dX6_number_132
    · replace hm := ineg hm c12
      refine lv_bipush (v := 10) hx hb dX6_number_53 (by decide) ?_
      refine lv_iload hx hb dX6_number_55 (lv_at hl 0 rfl) ?_
      refine lv_imul hx hb dX6_number_57 ?_
      refine lv_aload_n hx hb dX6_number_58 rfl (lv_at hl 1 rfl) ?_
      refine lv_aload_n hx hb dX6_number_59 rfl (lv_at hl 1 rfl) ?_
      refine f_get S hK hw.1 in_X6_number_X6 0 rfl rfl 11 (by decide) (List.mem_of_getElem? (i := 1) rfl) rfl rfl dX6_number_60 ?_
      obtain ⟨r28, h29, hm⟩ := ob hm
      refine k_rVi S hK hw.1 cal_X6_letterAt gX6_number_X6_letterAt (c_X6_letterAt l D cC cI cJ a_md a_md_text a_md_told a_md_draft a_md_s a_md_past a_md_images a_md_seen a_md_asks a_md_brings a_md_uses a_md_days a_md_tries a_md_row a_md_first a_md_held md_typed md_known md_kept md_sights (md_at + (1 : Int32)) md_many md_length md_set md_text md_told md_draft md_s md_past md_images md_seen md_asks md_brings md_uses md_days md_tries md_row md_first md_held (md_at + (1 : Int32)) r28 h29) ⟨⟨rfl, rfl⟩, Nat.le_of_ble_eq_true rfl, Nat.le_of_ble_eq_true rfl⟩ [0, 1, 2, 3, 4, 5, 6, 7, 8, 9, 10, 11, 12, 13, 14, 15] rfl 0 rfl rfl rfl hl.1 rfl (Nat.le_of_ble_eq_true rfl) dX6_number_63 ⟨Nat.zero_le _, Nat.zero_le _⟩ ?_
      refine lv_iadd hx hb dX6_number_66 ?_
      refine lv_bipush (v := 48) hx hb dX6_number_67 (by decide) ?_
      refine lv_isub hx hb dX6_number_69 ?_
      obtain ⟨y30, e31, hm⟩ := ob hm
      refine f_name e31 ?_
      refine lv_istore (lv' := [(4, .int y30), (0, .ref a_md), (1, .int p0), (2, .int p1), (3, .int p2)]) hx hb dX6_number_70 hl (by decide) rfl (fun ls hl => ?_)
      refine lv_aload_n hx hb dX6_number_72 rfl (lv_at hl 1 rfl) ?_
      refine lv_dup hx hb dX6_number_73 rfl ?_
      refine f_get S hK hw.1 in_X6_number_X6 0 rfl rfl 11 (by decide) (List.mem_of_getElem? (i := 1) rfl) rfl rfl dX6_number_74 ?_
      refine lv_iconst (v := 1) hx hb dX6_number_77 (by decide) ?_
      refine lv_iadd hx hb dX6_number_78 ?_
      obtain ⟨y32, e33, hm⟩ := ob hm
      refine f_name e33 ?_
      refine f_put S hK hw in_X6_number_X6 tyX6_ok nmX6 0 rfl rfl 11 (by decide) (List.mem_of_getElem? (i := 1) rfl) rfl rfl rfl rfl (Nat.le_of_ble_eq_true rfl) (ws1 := (wd_28 cC cI cJ a_md a_md_text md_typed a_md_told a_md_draft a_md_s a_md_past md_known a_md_images md_kept a_md_seen md_sights y32 a_md_asks a_md_brings a_md_uses a_md_days a_md_tries a_md_row md_many a_md_first md_length md_set a_md_held a_md_text md_text a_md_told md_told a_md_draft md_draft a_md_s md_s a_md_past md_past a_md_images md_images a_md_seen md_seen a_md_asks md_asks a_md_brings md_brings a_md_uses md_uses a_md_days md_days a_md_tries md_tries a_md_row md_row a_md_first md_first a_md_held md_held)) rfl dX6_number_79 (fun H locs hw => ?_)
      refine lv_aload_n hx hb dX6_number_82 rfl (lv_at hl 1 rfl) ?_
      refine lv_aload_n hx hb dX6_number_83 rfl (lv_at hl 1 rfl) ?_
      refine f_get S hK hw.1 in_X6_number_X6 0 rfl rfl 11 (by decide) (List.mem_of_getElem? (i := 1) rfl) rfl rfl dX6_number_84 ?_
      obtain ⟨r34, h35, hm⟩ := ob hm
      refine k_rVi S hK hw.1 cal_X6_letterAt gX6_number_X6_letterAt (c_X6_letterAt l D cC cI cJ a_md a_md_text a_md_told a_md_draft a_md_s a_md_past a_md_images a_md_seen a_md_asks a_md_brings a_md_uses a_md_days a_md_tries a_md_row a_md_first a_md_held md_typed md_known md_kept md_sights y32 md_many md_length md_set md_text md_told md_draft md_s md_past md_images md_seen md_asks md_brings md_uses md_days md_tries md_row md_first md_held y32 r34 h35) ⟨⟨rfl, rfl⟩, Nat.le_of_ble_eq_true rfl, Nat.le_of_ble_eq_true rfl⟩ [0, 1, 2, 3, 4, 5, 6, 7, 8, 9, 10, 11, 12, 13, 14, 15] rfl 0 rfl rfl rfl hl.1 rfl (Nat.le_of_ble_eq_true rfl) dX6_number_87 ⟨Nat.zero_le _, Nat.zero_le _⟩ ?_
      refine lv_iload_n hx hb dX6_number_90 rfl (lv_at hl 4 rfl) ?_
      refine lv_icmp_ne (tgt := 108) hx hb dX6_number_91 (by decide) (fun c36 => ?_) (fun c36 => ?_)
      · replace hm := ineg hm c36
        refine lv_iconst (v := 0) hx hb dX6_number_108 (by decide) ?_
        refine lv_istore (lv' := [(5, .int (0 : Int32)), (4, .int y30), (0, .ref a_md), (1, .int p0), (2, .int p1), (3, .int p2)]) hx hb dX6_number_109 hl (by decide) rfl (fun ls hl => ?_)
        refine lv_aload_n hx hb dX6_number_111 rfl (lv_at hl 2 rfl) ?_
        refine lv_dup hx hb dX6_number_112 rfl ?_
        refine f_get S hK hw.1 in_X6_number_X6 0 rfl rfl 11 (by decide) (List.mem_of_getElem? (i := 1) rfl) rfl rfl dX6_number_113 ?_
        refine lv_iconst (v := 1) hx hb dX6_number_116 (by decide) ?_
        refine lv_iadd hx hb dX6_number_117 ?_
        refine f_put S hK hw in_X6_number_X6 tyX6_ok nmX6 0 rfl rfl 11 (by decide) (List.mem_of_getElem? (i := 1) rfl) rfl rfl rfl rfl (Nat.le_of_ble_eq_true rfl) (ws1 := (wd_28 cC cI cJ a_md a_md_text md_typed a_md_told a_md_draft a_md_s a_md_past md_known a_md_images md_kept a_md_seen md_sights (y32 + (1 : Int32)) a_md_asks a_md_brings a_md_uses a_md_days a_md_tries a_md_row md_many a_md_first md_length md_set a_md_held a_md_text md_text a_md_told md_told a_md_draft md_draft a_md_s md_s a_md_past md_past a_md_images md_images a_md_seen md_seen a_md_asks md_asks a_md_brings md_brings a_md_uses md_uses a_md_days md_days a_md_tries md_tries a_md_row md_row a_md_first md_first a_md_held md_held)) rfl dX6_number_118 (fun H locs hw => ?_)
        refine lv_iload hx hb dX6_number_121 (lv_at hl 0 rfl) ?_
        refine lv_if_eq (tgt := 131) hx hb dX6_number_123 (by decide) (fun c37 => ?_) (fun c37 => ?_)
        · replace hm := ipos hm c37
          refine lv_iconst (v := (-1)) hx hb dX6_number_131 (by decide) ?_
          obtain rfl := Option.some.inj hm
          exact e_WI S hr hlk hw rfl hw.1 dX6_number_132
        · replace hm := ineg hm c37
          refine lv_iload hx hb dX6_number_126 (lv_at hl 1 rfl) ?_
          refine lv_goto (tgt := 132) hx hb dX6_number_128 (by decide) ?_
          obtain rfl := Option.some.inj hm
          exact e_WI S hr hlk hw rfl hw.1 dX6_number_132
      · replace hm := ipos hm c36
        refine lv_iload hx hb dX6_number_94 (lv_at hl 0 rfl) ?_
        refine lv_iload_n hx hb dX6_number_96 rfl (lv_at hl 2 rfl) ?_
        refine lv_iload_n hx hb dX6_number_97 rfl (lv_at hl 3 rfl) ?_
        obtain ⟨r38, h39, hm⟩ := ob hm
        refine k_rSi S hK hw.1 cal_X6_in gX6_number_X6_in (c_X6_in l D cC cI cJ y30 p0 p1 r38 h39) ⟨⟨rfl, rfl⟩, Nat.le_of_ble_eq_true rfl, Nat.le_of_ble_eq_true rfl⟩ [] rfl rfl hl.1 rfl (Nat.le_of_ble_eq_true rfl) dX6_number_98 ⟨Nat.zero_le _, Nat.zero_le _⟩ ?_
        refine lv_if_eq (tgt := 108) hx hb dX6_number_101 (by decide) (fun c40 => ?_) (fun c40 => ?_)
        · replace hm := ipos hm c40
          refine lv_iconst (v := 0) hx hb dX6_number_108 (by decide) ?_
          refine lv_istore (lv' := [(5, .int (0 : Int32)), (4, .int y30), (0, .ref a_md), (1, .int p0), (2, .int p1), (3, .int p2)]) hx hb dX6_number_109 hl (by decide) rfl (fun ls hl => ?_)
          refine lv_aload_n hx hb dX6_number_111 rfl (lv_at hl 2 rfl) ?_
          refine lv_dup hx hb dX6_number_112 rfl ?_
          refine f_get S hK hw.1 in_X6_number_X6 0 rfl rfl 11 (by decide) (List.mem_of_getElem? (i := 1) rfl) rfl rfl dX6_number_113 ?_
          refine lv_iconst (v := 1) hx hb dX6_number_116 (by decide) ?_
          refine lv_iadd hx hb dX6_number_117 ?_
          refine f_put S hK hw in_X6_number_X6 tyX6_ok nmX6 0 rfl rfl 11 (by decide) (List.mem_of_getElem? (i := 1) rfl) rfl rfl rfl rfl (Nat.le_of_ble_eq_true rfl) (ws1 := (wd_28 cC cI cJ a_md a_md_text md_typed a_md_told a_md_draft a_md_s a_md_past md_known a_md_images md_kept a_md_seen md_sights (y32 + (1 : Int32)) a_md_asks a_md_brings a_md_uses a_md_days a_md_tries a_md_row md_many a_md_first md_length md_set a_md_held a_md_text md_text a_md_told md_told a_md_draft md_draft a_md_s md_s a_md_past md_past a_md_images md_images a_md_seen md_seen a_md_asks md_asks a_md_brings md_brings a_md_uses md_uses a_md_days md_days a_md_tries md_tries a_md_row md_row a_md_first md_first a_md_held md_held)) rfl dX6_number_118 (fun H locs hw => ?_)
          refine lv_iload hx hb dX6_number_121 (lv_at hl 0 rfl) ?_
          refine lv_if_eq (tgt := 131) hx hb dX6_number_123 (by decide) (fun c41 => ?_) (fun c41 => ?_)
          · replace hm := ipos hm c41
            refine lv_iconst (v := (-1)) hx hb dX6_number_131 (by decide) ?_
            obtain rfl := Option.some.inj hm
            exact e_WI S hr hlk hw rfl hw.1 dX6_number_132
          · replace hm := ineg hm c41
            refine lv_iload hx hb dX6_number_126 (lv_at hl 1 rfl) ?_
            refine lv_goto (tgt := 132) hx hb dX6_number_128 (by decide) ?_
            obtain rfl := Option.some.inj hm
            exact e_WI S hr hlk hw rfl hw.1 dX6_number_132
        · replace hm := ineg hm c40
          refine lv_iconst (v := 1) hx hb dX6_number_104 (by decide) ?_
          refine lv_goto (tgt := 109) hx hb dX6_number_105 (by decide) ?_
          refine lv_istore (lv' := [(5, .int (1 : Int32)), (4, .int y30), (0, .ref a_md), (1, .int p0), (2, .int p1), (3, .int p2)]) hx hb dX6_number_109 hl (by decide) rfl (fun ls hl => ?_)
          refine lv_aload_n hx hb dX6_number_111 rfl (lv_at hl 2 rfl) ?_
          refine lv_dup hx hb dX6_number_112 rfl ?_
          refine f_get S hK hw.1 in_X6_number_X6 0 rfl rfl 11 (by decide) (List.mem_of_getElem? (i := 1) rfl) rfl rfl dX6_number_113 ?_
          refine lv_iconst (v := 1) hx hb dX6_number_116 (by decide) ?_
          refine lv_iadd hx hb dX6_number_117 ?_
          refine f_put S hK hw in_X6_number_X6 tyX6_ok nmX6 0 rfl rfl 11 (by decide) (List.mem_of_getElem? (i := 1) rfl) rfl rfl rfl rfl (Nat.le_of_ble_eq_true rfl) (ws1 := (wd_28 cC cI cJ a_md a_md_text md_typed a_md_told a_md_draft a_md_s a_md_past md_known a_md_images md_kept a_md_seen md_sights (y32 + (1 : Int32)) a_md_asks a_md_brings a_md_uses a_md_days a_md_tries a_md_row md_many a_md_first md_length md_set a_md_held a_md_text md_text a_md_told md_told a_md_draft md_draft a_md_s md_s a_md_past md_past a_md_images md_images a_md_seen md_seen a_md_asks md_asks a_md_brings md_brings a_md_uses md_uses a_md_days md_days a_md_tries md_tries a_md_row md_row a_md_first md_first a_md_held md_held)) rfl dX6_number_118 (fun H locs hw => ?_)
          refine lv_iload hx hb dX6_number_121 (lv_at hl 0 rfl) ?_
          refine lv_if_eq (tgt := 131) hx hb dX6_number_123 (by decide) (fun c42 => ?_) (fun c42 => ?_)
          · replace hm := ipos hm c42
            refine lv_iconst (v := (-1)) hx hb dX6_number_131 (by decide) ?_
            obtain rfl := Option.some.inj hm
            exact e_WI S hr hlk hw rfl hw.1 dX6_number_132
          · replace hm := ineg hm c42
            refine lv_iload hx hb dX6_number_126 (lv_at hl 1 rfl) ?_
            refine lv_goto (tgt := 132) hx hb dX6_number_128 (by decide) ?_
            obtain rfl := Option.some.inj hm
            exact e_WI S hr hlk hw rfl hw.1 dX6_number_132
  · replace hm := ipos hm c5
    refine lv_iconst (v := (-1)) hx hb dX6_number_14 (by decide) ?_
    obtain rfl := Option.some.inj hm
    exact e_WI S hr hlk hw rfl hw.1 dX6_number_15

abbrev rX6_helperOf : Room := { frames := 0, cells := 0, slots := 0, locals := 0 }
theorem cal_X6_helperOf : Cal yX6_helperOf wsX6_helperOf cX6_helperOf 4 none RX6 2 := ⟨⟨_, rfl⟩, rfl, by decide +kernel, by decide +kernel, by decide +kernel⟩
theorem in_X6_helperOf_X6 : ∀ w ∈ wsX60, w ∈ wsX6_helperOf := fun _ h => (List.mem_cons_of_mem _ (List.mem_append_right _ h))
set_option maxHeartbeats 4000000 in
set_option maxRecDepth 100000 in
theorem c_X6_helperOf (l : Launch) (D : va_G) (cC cI cJ : ClassId) (a_md : Nat) (a_md_text : Nat) (a_md_told : Nat) (a_md_draft : Nat) (a_md_s : Nat) (a_md_past : Nat) (a_md_images : Nat) (a_md_seen : Nat) (a_md_asks : Nat) (a_md_brings : Nat) (a_md_uses : Nat) (a_md_days : Nat) (a_md_tries : Nat) (a_md_row : Nat) (a_md_first : Nat) (a_md_held : Nat) (md_typed : Int32) (md_known : Int32) (md_kept : Int32) (md_sights : Int32) (md_at : Int32) (md_many : Int32) (md_length : Int32) (md_set : Int32) (md_text : (Nat → Int32)) (md_told : (Nat → Int32)) (md_draft : (Nat → Int32)) (md_s : (Nat → Int32)) (md_past : (Nat → Int32)) (md_images : (Nat → Int32)) (md_seen : (Nat → Int32)) (md_asks : (Nat → Int32)) (md_brings : (Nat → Int32)) (md_uses : (Nat → Int32)) (md_days : (Nat → Int32)) (md_tries : (Nat → Int32)) (md_row : (Nat → Int32)) (md_first : (Nat → Int32)) (md_held : (Nat → Int32)) (p0 : Int32) (p1 : Int32) (A : Nat → Prop) (hD : va_D A (wd_28 cC cI cJ a_md a_md_text md_typed a_md_told a_md_draft a_md_s a_md_past md_known a_md_images md_kept a_md_seen md_sights md_at a_md_asks a_md_brings a_md_uses a_md_days a_md_tries a_md_row md_many a_md_first md_length md_set a_md_held a_md_text md_text a_md_told md_told a_md_draft md_draft a_md_s md_s a_md_past md_past a_md_images md_images a_md_seen md_seen a_md_asks md_asks a_md_brings md_brings a_md_uses md_uses a_md_days md_days a_md_tries md_tries a_md_row md_row a_md_first md_first a_md_held md_held)) (out : (Nat → Int32)) (hm : m_X6_helperOf md_draft p0 p1 = some out) : WrV l yX6_helperOf wsX6_helperOf rX6_helperOf D (tyK cC cI cJ) [.ref a_md, .int p0, .int p1] A (wd_28 cC cI cJ a_md a_md_text md_typed a_md_told a_md_draft a_md_s a_md_past md_known a_md_images md_kept a_md_seen md_sights md_at a_md_asks a_md_brings a_md_uses a_md_days a_md_tries a_md_row md_many a_md_first md_length md_set a_md_held a_md_text md_text a_md_told md_told a_md_draft md_draft a_md_s md_s a_md_past md_past a_md_images md_images a_md_seen md_seen a_md_asks md_asks a_md_brings md_brings a_md_uses md_uses a_md_days md_days a_md_tries md_tries a_md_row md_row a_md_first md_first a_md_held md_held) (Bw0 D (wd_28 cC cI cJ a_md a_md_text md_typed a_md_told a_md_draft a_md_s a_md_past md_known a_md_images md_kept a_md_seen md_sights md_at a_md_asks a_md_brings a_md_uses a_md_days a_md_tries a_md_row md_many a_md_first md_length md_set a_md_held a_md_text md_text a_md_told md_told a_md_draft out a_md_s md_s a_md_past md_past a_md_images md_images a_md_seen md_seen a_md_asks md_asks a_md_brings md_brings a_md_uses md_uses a_md_days md_days a_md_tries md_tries a_md_row md_row a_md_first md_first a_md_held md_held)) := by
  unfold m_X6_helperOf at hm
  refine enter (cc := cX6_helperOf) (maxL := 4) (ret := none) (lv := [(0, .ref a_md), (1, .int p0), (2, .int p1)]) (by decide) rfl (Nat.le_of_ble_eq_true rfl) rfl ?_
  intro p e s m args below meth c S hr hlk hK hP ls hl
  replace S : CallFix p m c cX6_helperOf 4 s args wsX6_helperOf RX6 := S
  have hx := S.1
  have hb := S.2.1
  have hw : Wd D A s.heap (wd_28 cC cI cJ a_md a_md_text md_typed a_md_told a_md_draft a_md_s a_md_past md_known a_md_images md_kept a_md_seen md_sights md_at a_md_asks a_md_brings a_md_uses a_md_days a_md_tries a_md_row md_many a_md_first md_length md_set a_md_held a_md_text md_text a_md_told md_told a_md_draft md_draft a_md_s md_s a_md_past md_past a_md_images md_images a_md_seen md_seen a_md_asks md_asks a_md_brings md_brings a_md_uses md_uses a_md_days md_days a_md_tries md_tries a_md_row md_row a_md_first md_first a_md_held md_held) s.heap [] := ⟨hP, hD, va_S.rf⟩
  have hw0 := hw
  refine lv_aload_n hx hb dX6_helperOf_0 rfl (lv_at hl 0 rfl) ?_
  refine f_get S hK hw.1 in_X6_helperOf_X6 0 rfl rfl 3 (by decide) (List.mem_of_getElem? (i := 1) rfl) rfl rfl dX6_helperOf_1 ?_
  refine lv_iconst (v := 1) hx hb dX6_helperOf_4 (by decide) ?_
  obtain ⟨g1, hm⟩ := gdo hm
  refine f_iald S hK hw.1 3 1 rfl rfl g1 dX6_helperOf_5 ?_
  obtain ⟨y2, e3, hm⟩ := ob hm
  refine f_name e3 ?_
  refine lv_istore_n (lv' := [(3, .int y2), (0, .ref a_md), (1, .int p0), (2, .int p1)]) hx hb dX6_helperOf_6 rfl hl (by decide) rfl (fun ls hl => ?_)
  refine lv_aload_n hx hb dX6_helperOf_7 rfl (lv_at hl 1 rfl) ?_
  refine f_get S hK hw.1 in_X6_helperOf_X6 0 rfl rfl 3 (by decide) (List.mem_of_getElem? (i := 1) rfl) rfl rfl dX6_helperOf_8 ?_
  refine lv_bipush (v := 37) hx hb dX6_helperOf_11 (by decide) ?_
  refine lv_iload_n hx hb dX6_helperOf_13 rfl (lv_at hl 0 rfl) ?_
  refine lv_iadd hx hb dX6_helperOf_14 ?_
  refine lv_iload_n hx hb dX6_helperOf_15 rfl (lv_at hl 2 rfl) ?_
  obtain ⟨g4, hm⟩ := gdo hm
  refine f_iast S hK hw 3 1 rfl rfl g4 (ws1 := (wd_28 cC cI cJ a_md a_md_text md_typed a_md_told a_md_draft a_md_s a_md_past md_known a_md_images md_kept a_md_seen md_sights md_at a_md_asks a_md_brings a_md_uses a_md_days a_md_tries a_md_row md_many a_md_first md_length md_set a_md_held a_md_text md_text a_md_told md_told a_md_draft (upd md_draft (((37 : Int32) + y2)).toNatClampNeg p0) a_md_s md_s a_md_past md_past a_md_images md_images a_md_seen md_seen a_md_asks md_asks a_md_brings md_brings a_md_uses md_uses a_md_days md_days a_md_tries md_tries a_md_row md_row a_md_first md_first a_md_held md_held)) rfl dX6_helperOf_16 (fun H locs hw => ?_)
  refine lv_aload_n hx hb dX6_helperOf_17 rfl (lv_at hl 1 rfl) ?_
  refine f_get S hK hw.1 in_X6_helperOf_X6 0 rfl rfl 3 (by decide) (List.mem_of_getElem? (i := 1) rfl) rfl rfl dX6_helperOf_18 ?_
  refine lv_bipush (v := 44) hx hb dX6_helperOf_21 (by decide) ?_
  refine lv_iload_n hx hb dX6_helperOf_23 rfl (lv_at hl 0 rfl) ?_
  refine lv_iadd hx hb dX6_helperOf_24 ?_
  refine lv_iload_n hx hb dX6_helperOf_25 rfl (lv_at hl 3 rfl) ?_
  obtain ⟨g5, hm⟩ := gdo hm
  refine f_iast S hK hw 3 1 rfl rfl g5 (ws1 := (wd_28 cC cI cJ a_md a_md_text md_typed a_md_told a_md_draft a_md_s a_md_past md_known a_md_images md_kept a_md_seen md_sights md_at a_md_asks a_md_brings a_md_uses a_md_days a_md_tries a_md_row md_many a_md_first md_length md_set a_md_held a_md_text md_text a_md_told md_told a_md_draft (upd (upd md_draft (((37 : Int32) + y2)).toNatClampNeg p0) (((44 : Int32) + y2)).toNatClampNeg p1) a_md_s md_s a_md_past md_past a_md_images md_images a_md_seen md_seen a_md_asks md_asks a_md_brings md_brings a_md_uses md_uses a_md_days md_days a_md_tries md_tries a_md_row md_row a_md_first md_first a_md_held md_held)) rfl dX6_helperOf_26 (fun H locs hw => ?_)
  refine lv_aload_n hx hb dX6_helperOf_27 rfl (lv_at hl 1 rfl) ?_
  refine f_get S hK hw.1 in_X6_helperOf_X6 0 rfl rfl 3 (by decide) (List.mem_of_getElem? (i := 1) rfl) rfl rfl dX6_helperOf_28 ?_
  refine lv_iconst (v := 1) hx hb dX6_helperOf_31 (by decide) ?_
  refine lv_dup2_11 hx hb dX6_helperOf_32 rfl rfl ?_
  obtain ⟨g6, hm⟩ := gdo hm
  refine f_iald S hK hw.1 3 1 rfl rfl g6 dX6_helperOf_33 ?_
  refine lv_iconst (v := 1) hx hb dX6_helperOf_34 (by decide) ?_
  refine lv_iadd hx hb dX6_helperOf_35 ?_
  obtain ⟨y8, e9, hm⟩ := ob hm
  refine f_name e9 ?_
  obtain ⟨g7, hm⟩ := gdo hm
  refine f_iast S hK hw 3 1 rfl rfl g7 (ws1 := (wd_28 cC cI cJ a_md a_md_text md_typed a_md_told a_md_draft a_md_s a_md_past md_known a_md_images md_kept a_md_seen md_sights md_at a_md_asks a_md_brings a_md_uses a_md_days a_md_tries a_md_row md_many a_md_first md_length md_set a_md_held a_md_text md_text a_md_told md_told a_md_draft (upd (upd (upd md_draft (((37 : Int32) + y2)).toNatClampNeg p0) (((44 : Int32) + y2)).toNatClampNeg p1) ((1 : Int32)).toNatClampNeg y8) a_md_s md_s a_md_past md_past a_md_images md_images a_md_seen md_seen a_md_asks md_asks a_md_brings md_brings a_md_uses md_uses a_md_days md_days a_md_tries md_tries a_md_row md_row a_md_first md_first a_md_held md_held)) rfl dX6_helperOf_36 (fun H locs hw => ?_)
  obtain rfl := Option.some.inj hm
  exact e_WV S hr hlk hw hw.1 dX6_helperOf_37

abbrev rX6_taskOf : Room := { frames := 0, cells := 0, slots := 0, locals := 0 }
theorem cal_X6_taskOf : Cal yX6_taskOf wsX6_taskOf cX6_taskOf 6 none RX6 4 := ⟨⟨_, rfl⟩, rfl, by decide +kernel, by decide +kernel, by decide +kernel⟩
theorem in_X6_taskOf_X6 : ∀ w ∈ wsX60, w ∈ wsX6_taskOf := fun _ h => (List.mem_cons_of_mem _ (List.mem_append_right _ h))
set_option maxHeartbeats 4000000 in
set_option maxRecDepth 100000 in
theorem c_X6_taskOf (l : Launch) (D : va_G) (cC cI cJ : ClassId) (a_md : Nat) (a_md_text : Nat) (a_md_told : Nat) (a_md_draft : Nat) (a_md_s : Nat) (a_md_past : Nat) (a_md_images : Nat) (a_md_seen : Nat) (a_md_asks : Nat) (a_md_brings : Nat) (a_md_uses : Nat) (a_md_days : Nat) (a_md_tries : Nat) (a_md_row : Nat) (a_md_first : Nat) (a_md_held : Nat) (md_typed : Int32) (md_known : Int32) (md_kept : Int32) (md_sights : Int32) (md_at : Int32) (md_many : Int32) (md_length : Int32) (md_set : Int32) (md_text : (Nat → Int32)) (md_told : (Nat → Int32)) (md_draft : (Nat → Int32)) (md_s : (Nat → Int32)) (md_past : (Nat → Int32)) (md_images : (Nat → Int32)) (md_seen : (Nat → Int32)) (md_asks : (Nat → Int32)) (md_brings : (Nat → Int32)) (md_uses : (Nat → Int32)) (md_days : (Nat → Int32)) (md_tries : (Nat → Int32)) (md_row : (Nat → Int32)) (md_first : (Nat → Int32)) (md_held : (Nat → Int32)) (p0 : Int32) (p1 : Int32) (p2 : Int32) (p3 : Int32) (A : Nat → Prop) (hD : va_D A (wd_28 cC cI cJ a_md a_md_text md_typed a_md_told a_md_draft a_md_s a_md_past md_known a_md_images md_kept a_md_seen md_sights md_at a_md_asks a_md_brings a_md_uses a_md_days a_md_tries a_md_row md_many a_md_first md_length md_set a_md_held a_md_text md_text a_md_told md_told a_md_draft md_draft a_md_s md_s a_md_past md_past a_md_images md_images a_md_seen md_seen a_md_asks md_asks a_md_brings md_brings a_md_uses md_uses a_md_days md_days a_md_tries md_tries a_md_row md_row a_md_first md_first a_md_held md_held)) (out : (Nat → Int32)) (hm : m_X6_taskOf md_draft p0 p1 p2 p3 = some out) : WrV l yX6_taskOf wsX6_taskOf rX6_taskOf D (tyK cC cI cJ) [.ref a_md, .int p0, .int p1, .int p2, .int p3] A (wd_28 cC cI cJ a_md a_md_text md_typed a_md_told a_md_draft a_md_s a_md_past md_known a_md_images md_kept a_md_seen md_sights md_at a_md_asks a_md_brings a_md_uses a_md_days a_md_tries a_md_row md_many a_md_first md_length md_set a_md_held a_md_text md_text a_md_told md_told a_md_draft md_draft a_md_s md_s a_md_past md_past a_md_images md_images a_md_seen md_seen a_md_asks md_asks a_md_brings md_brings a_md_uses md_uses a_md_days md_days a_md_tries md_tries a_md_row md_row a_md_first md_first a_md_held md_held) (Bw0 D (wd_28 cC cI cJ a_md a_md_text md_typed a_md_told a_md_draft a_md_s a_md_past md_known a_md_images md_kept a_md_seen md_sights md_at a_md_asks a_md_brings a_md_uses a_md_days a_md_tries a_md_row md_many a_md_first md_length md_set a_md_held a_md_text md_text a_md_told md_told a_md_draft out a_md_s md_s a_md_past md_past a_md_images md_images a_md_seen md_seen a_md_asks md_asks a_md_brings md_brings a_md_uses md_uses a_md_days md_days a_md_tries md_tries a_md_row md_row a_md_first md_first a_md_held md_held)) := by
  unfold m_X6_taskOf at hm
  refine enter (cc := cX6_taskOf) (maxL := 6) (ret := none) (lv := [(0, .ref a_md), (1, .int p0), (2, .int p1), (3, .int p2), (4, .int p3)]) (by decide) rfl (Nat.le_of_ble_eq_true rfl) rfl ?_
  intro p e s m args below meth c S hr hlk hK hP ls hl
  replace S : CallFix p m c cX6_taskOf 6 s args wsX6_taskOf RX6 := S
  have hx := S.1
  have hb := S.2.1
  have hw : Wd D A s.heap (wd_28 cC cI cJ a_md a_md_text md_typed a_md_told a_md_draft a_md_s a_md_past md_known a_md_images md_kept a_md_seen md_sights md_at a_md_asks a_md_brings a_md_uses a_md_days a_md_tries a_md_row md_many a_md_first md_length md_set a_md_held a_md_text md_text a_md_told md_told a_md_draft md_draft a_md_s md_s a_md_past md_past a_md_images md_images a_md_seen md_seen a_md_asks md_asks a_md_brings md_brings a_md_uses md_uses a_md_days md_days a_md_tries md_tries a_md_row md_row a_md_first md_first a_md_held md_held) s.heap [] := ⟨hP, hD, va_S.rf⟩
  have hw0 := hw
  refine lv_aload_n hx hb dX6_taskOf_0 rfl (lv_at hl 0 rfl) ?_
  refine f_get S hK hw.1 in_X6_taskOf_X6 0 rfl rfl 3 (by decide) (List.mem_of_getElem? (i := 1) rfl) rfl rfl dX6_taskOf_1 ?_
  refine lv_iconst (v := 0) hx hb dX6_taskOf_4 (by decide) ?_
  obtain ⟨g1, hm⟩ := gdo hm
  refine f_iald S hK hw.1 3 1 rfl rfl g1 dX6_taskOf_5 ?_
  obtain ⟨y2, e3, hm⟩ := ob hm
  refine f_name e3 ?_
  refine lv_istore (lv' := [(5, .int y2), (0, .ref a_md), (1, .int p0), (2, .int p1), (3, .int p2), (4, .int p3)]) hx hb dX6_taskOf_6 hl (by decide) rfl (fun ls hl => ?_)
  refine lv_aload_n hx hb dX6_taskOf_8 rfl (lv_at hl 1 rfl) ?_
  refine f_get S hK hw.1 in_X6_taskOf_X6 0 rfl rfl 3 (by decide) (List.mem_of_getElem? (i := 1) rfl) rfl rfl dX6_taskOf_9 ?_
  refine lv_iconst (v := 5) hx hb dX6_taskOf_12 (by decide) ?_
  refine lv_iload hx hb dX6_taskOf_13 (lv_at hl 0 rfl) ?_
  refine lv_iadd hx hb dX6_taskOf_15 ?_
  refine lv_iload_n hx hb dX6_taskOf_16 rfl (lv_at hl 2 rfl) ?_
  obtain ⟨g4, hm⟩ := gdo hm
  refine f_iast S hK hw 3 1 rfl rfl g4 (ws1 := (wd_28 cC cI cJ a_md a_md_text md_typed a_md_told a_md_draft a_md_s a_md_past md_known a_md_images md_kept a_md_seen md_sights md_at a_md_asks a_md_brings a_md_uses a_md_days a_md_tries a_md_row md_many a_md_first md_length md_set a_md_held a_md_text md_text a_md_told md_told a_md_draft (upd md_draft (((5 : Int32) + y2)).toNatClampNeg p0) a_md_s md_s a_md_past md_past a_md_images md_images a_md_seen md_seen a_md_asks md_asks a_md_brings md_brings a_md_uses md_uses a_md_days md_days a_md_tries md_tries a_md_row md_row a_md_first md_first a_md_held md_held)) rfl dX6_taskOf_17 (fun H locs hw => ?_)
  refine lv_aload_n hx hb dX6_taskOf_18 rfl (lv_at hl 1 rfl) ?_
  refine f_get S hK hw.1 in_X6_taskOf_X6 0 rfl rfl 3 (by decide) (List.mem_of_getElem? (i := 1) rfl) rfl rfl dX6_taskOf_19 ?_
  refine lv_bipush (v := 13) hx hb dX6_taskOf_22 (by decide) ?_
  refine lv_iload hx hb dX6_taskOf_24 (lv_at hl 0 rfl) ?_
  refine lv_iadd hx hb dX6_taskOf_26 ?_
  refine lv_iload_n hx hb dX6_taskOf_27 rfl (lv_at hl 3 rfl) ?_
  obtain ⟨g5, hm⟩ := gdo hm
  refine f_iast S hK hw 3 1 rfl rfl g5 (ws1 := (wd_28 cC cI cJ a_md a_md_text md_typed a_md_told a_md_draft a_md_s a_md_past md_known a_md_images md_kept a_md_seen md_sights md_at a_md_asks a_md_brings a_md_uses a_md_days a_md_tries a_md_row md_many a_md_first md_length md_set a_md_held a_md_text md_text a_md_told md_told a_md_draft (upd (upd md_draft (((5 : Int32) + y2)).toNatClampNeg p0) (((13 : Int32) + y2)).toNatClampNeg p1) a_md_s md_s a_md_past md_past a_md_images md_images a_md_seen md_seen a_md_asks md_asks a_md_brings md_brings a_md_uses md_uses a_md_days md_days a_md_tries md_tries a_md_row md_row a_md_first md_first a_md_held md_held)) rfl dX6_taskOf_28 (fun H locs hw => ?_)
  refine lv_aload_n hx hb dX6_taskOf_29 rfl (lv_at hl 1 rfl) ?_
  refine f_get S hK hw.1 in_X6_taskOf_X6 0 rfl rfl 3 (by decide) (List.mem_of_getElem? (i := 1) rfl) rfl rfl dX6_taskOf_30 ?_
  refine lv_bipush (v := 21) hx hb dX6_taskOf_33 (by decide) ?_
  refine lv_iload hx hb dX6_taskOf_35 (lv_at hl 0 rfl) ?_
  refine lv_iadd hx hb dX6_taskOf_37 ?_
  refine lv_iload_n hx hb dX6_taskOf_38 rfl (lv_at hl 4 rfl) ?_
  obtain ⟨g6, hm⟩ := gdo hm
  refine f_iast S hK hw 3 1 rfl rfl g6 (ws1 := (wd_28 cC cI cJ a_md a_md_text md_typed a_md_told a_md_draft a_md_s a_md_past md_known a_md_images md_kept a_md_seen md_sights md_at a_md_asks a_md_brings a_md_uses a_md_days a_md_tries a_md_row md_many a_md_first md_length md_set a_md_held a_md_text md_text a_md_told md_told a_md_draft (upd (upd (upd md_draft (((5 : Int32) + y2)).toNatClampNeg p0) (((13 : Int32) + y2)).toNatClampNeg p1) (((21 : Int32) + y2)).toNatClampNeg p2) a_md_s md_s a_md_past md_past a_md_images md_images a_md_seen md_seen a_md_asks md_asks a_md_brings md_brings a_md_uses md_uses a_md_days md_days a_md_tries md_tries a_md_row md_row a_md_first md_first a_md_held md_held)) rfl dX6_taskOf_39 (fun H locs hw => ?_)
  refine lv_aload_n hx hb dX6_taskOf_40 rfl (lv_at hl 1 rfl) ?_
  refine f_get S hK hw.1 in_X6_taskOf_X6 0 rfl rfl 3 (by decide) (List.mem_of_getElem? (i := 1) rfl) rfl rfl dX6_taskOf_41 ?_
  refine lv_bipush (v := 29) hx hb dX6_taskOf_44 (by decide) ?_
  refine lv_iload hx hb dX6_taskOf_46 (lv_at hl 0 rfl) ?_
  refine lv_iadd hx hb dX6_taskOf_48 ?_
  refine lv_iload hx hb dX6_taskOf_49 (lv_at hl 5 rfl) ?_
  obtain ⟨g7, hm⟩ := gdo hm
  refine f_iast S hK hw 3 1 rfl rfl g7 (ws1 := (wd_28 cC cI cJ a_md a_md_text md_typed a_md_told a_md_draft a_md_s a_md_past md_known a_md_images md_kept a_md_seen md_sights md_at a_md_asks a_md_brings a_md_uses a_md_days a_md_tries a_md_row md_many a_md_first md_length md_set a_md_held a_md_text md_text a_md_told md_told a_md_draft (upd (upd (upd (upd md_draft (((5 : Int32) + y2)).toNatClampNeg p0) (((13 : Int32) + y2)).toNatClampNeg p1) (((21 : Int32) + y2)).toNatClampNeg p2) (((29 : Int32) + y2)).toNatClampNeg p3) a_md_s md_s a_md_past md_past a_md_images md_images a_md_seen md_seen a_md_asks md_asks a_md_brings md_brings a_md_uses md_uses a_md_days md_days a_md_tries md_tries a_md_row md_row a_md_first md_first a_md_held md_held)) rfl dX6_taskOf_51 (fun H locs hw => ?_)
  refine lv_aload_n hx hb dX6_taskOf_52 rfl (lv_at hl 1 rfl) ?_
  refine f_get S hK hw.1 in_X6_taskOf_X6 0 rfl rfl 3 (by decide) (List.mem_of_getElem? (i := 1) rfl) rfl rfl dX6_taskOf_53 ?_
  refine lv_iconst (v := 0) hx hb dX6_taskOf_56 (by decide) ?_
  refine lv_dup2_11 hx hb dX6_taskOf_57 rfl rfl ?_
  obtain ⟨g8, hm⟩ := gdo hm
  refine f_iald S hK hw.1 3 1 rfl rfl g8 dX6_taskOf_58 ?_
  refine lv_iconst (v := 1) hx hb dX6_taskOf_59 (by decide) ?_
  refine lv_iadd hx hb dX6_taskOf_60 ?_
  obtain ⟨y10, e11, hm⟩ := ob hm
  refine f_name e11 ?_
  obtain ⟨g9, hm⟩ := gdo hm
  refine f_iast S hK hw 3 1 rfl rfl g9 (ws1 := (wd_28 cC cI cJ a_md a_md_text md_typed a_md_told a_md_draft a_md_s a_md_past md_known a_md_images md_kept a_md_seen md_sights md_at a_md_asks a_md_brings a_md_uses a_md_days a_md_tries a_md_row md_many a_md_first md_length md_set a_md_held a_md_text md_text a_md_told md_told a_md_draft (upd (upd (upd (upd (upd md_draft (((5 : Int32) + y2)).toNatClampNeg p0) (((13 : Int32) + y2)).toNatClampNeg p1) (((21 : Int32) + y2)).toNatClampNeg p2) (((29 : Int32) + y2)).toNatClampNeg p3) ((0 : Int32)).toNatClampNeg y10) a_md_s md_s a_md_past md_past a_md_images md_images a_md_seen md_seen a_md_asks md_asks a_md_brings md_brings a_md_uses md_uses a_md_days md_days a_md_tries md_tries a_md_row md_row a_md_first md_first a_md_held md_held)) rfl dX6_taskOf_61 (fun H locs hw => ?_)
  obtain rfl := Option.some.inj hm
  exact e_WV S hr hlk hw hw.1 dX6_taskOf_62

abbrev rX6_readsItem : Room := { frames := 3, cells := 0, slots := 0, locals := 67 }
theorem cal_X6_readsItem : Cal yX6_readsItem wsX6_readsItem cX6_readsItem 6 (some .boolean) RX6 1 := ⟨⟨_, rfl⟩, rfl, by decide +kernel, by decide +kernel, by decide +kernel⟩
theorem in_X6_readsItem_X6 : ∀ w ∈ wsX60, w ∈ wsX6_readsItem := fun _ h => (List.mem_cons_of_mem _ (List.mem_append_right _ h))
set_option maxHeartbeats 4000000 in
set_option maxRecDepth 100000 in
theorem c_X6_readsItem (l : Launch) (D : va_G) (cC cI cJ : ClassId) (a_md : Nat) (a_md_text : Nat) (a_md_told : Nat) (a_md_draft : Nat) (a_md_s : Nat) (a_md_past : Nat) (a_md_images : Nat) (a_md_seen : Nat) (a_md_asks : Nat) (a_md_brings : Nat) (a_md_uses : Nat) (a_md_days : Nat) (a_md_tries : Nat) (a_md_row : Nat) (a_md_first : Nat) (a_md_held : Nat) (md_typed : Int32) (md_known : Int32) (md_kept : Int32) (md_sights : Int32) (md_at : Int32) (md_many : Int32) (md_length : Int32) (md_set : Int32) (md_text : (Nat → Int32)) (md_told : (Nat → Int32)) (md_draft : (Nat → Int32)) (md_s : (Nat → Int32)) (md_past : (Nat → Int32)) (md_images : (Nat → Int32)) (md_seen : (Nat → Int32)) (md_asks : (Nat → Int32)) (md_brings : (Nat → Int32)) (md_uses : (Nat → Int32)) (md_days : (Nat → Int32)) (md_tries : (Nat → Int32)) (md_row : (Nat → Int32)) (md_first : (Nat → Int32)) (md_held : (Nat → Int32)) (p0 : Int32) (A : Nat → Prop) (hD : va_D A (wd_28 cC cI cJ a_md a_md_text md_typed a_md_told a_md_draft a_md_s a_md_past md_known a_md_images md_kept a_md_seen md_sights md_at a_md_asks a_md_brings a_md_uses a_md_days a_md_tries a_md_row md_many a_md_first md_length md_set a_md_held a_md_text md_text a_md_told md_told a_md_draft md_draft a_md_s md_s a_md_past md_past a_md_images md_images a_md_seen md_seen a_md_asks md_asks a_md_brings md_brings a_md_uses md_uses a_md_days md_days a_md_tries md_tries a_md_row md_row a_md_first md_first a_md_held md_held)) (out : (Int32 × Int32 × (Nat → Int32))) (hm : m_X6_readsItem md_typed md_at md_text md_draft p0 = some out) : WrI l yX6_readsItem wsX6_readsItem rX6_readsItem D (tyK cC cI cJ) [.ref a_md, .int p0] A (wd_28 cC cI cJ a_md a_md_text md_typed a_md_told a_md_draft a_md_s a_md_past md_known a_md_images md_kept a_md_seen md_sights md_at a_md_asks a_md_brings a_md_uses a_md_days a_md_tries a_md_row md_many a_md_first md_length md_set a_md_held a_md_text md_text a_md_told md_told a_md_draft md_draft a_md_s md_s a_md_past md_past a_md_images md_images a_md_seen md_seen a_md_asks md_asks a_md_brings md_brings a_md_uses md_uses a_md_days md_days a_md_tries md_tries a_md_row md_row a_md_first md_first a_md_held md_held) (Bw0 D (wd_28 cC cI cJ a_md a_md_text md_typed a_md_told a_md_draft a_md_s a_md_past md_known a_md_images md_kept a_md_seen md_sights out.2.1 a_md_asks a_md_brings a_md_uses a_md_days a_md_tries a_md_row md_many a_md_first md_length md_set a_md_held a_md_text md_text a_md_told md_told a_md_draft out.2.2 a_md_s md_s a_md_past md_past a_md_images md_images a_md_seen md_seen a_md_asks md_asks a_md_brings md_brings a_md_uses md_uses a_md_days md_days a_md_tries md_tries a_md_row md_row a_md_first md_first a_md_held md_held)) out.1 := by
  unfold m_X6_readsItem at hm
  refine enter (cc := cX6_readsItem) (maxL := 6) (ret := (some .boolean)) (lv := [(0, .ref a_md), (1, .int p0)]) (by decide) rfl (Nat.le_of_ble_eq_true rfl) rfl ?_
  intro p e s m args below meth c S hr hlk hK hP ls hl
  replace S : CallFix p m c cX6_readsItem 6 s args wsX6_readsItem RX6 := S
  have hx := S.1
  have hb := S.2.1
  have hw : Wd D A s.heap (wd_28 cC cI cJ a_md a_md_text md_typed a_md_told a_md_draft a_md_s a_md_past md_known a_md_images md_kept a_md_seen md_sights md_at a_md_asks a_md_brings a_md_uses a_md_days a_md_tries a_md_row md_many a_md_first md_length md_set a_md_held a_md_text md_text a_md_told md_told a_md_draft md_draft a_md_s md_s a_md_past md_past a_md_images md_images a_md_seen md_seen a_md_asks md_asks a_md_brings md_brings a_md_uses md_uses a_md_days md_days a_md_tries md_tries a_md_row md_row a_md_first md_first a_md_held md_held) s.heap [] := ⟨hP, hD, va_S.rf⟩
  have hw0 := hw
  refine lv_iload_n hx hb dX6_readsItem_0 rfl (lv_at hl 1 rfl) ?_
  by_cases c1 : p0 = (97 : Int32)
  · replace hm := ipos hm c1
    refine f_look S dX6_readsItem_1 rfl (off := 198) (by rw [c1]; decide) (tgt := 199) (by decide) ?_
    refine lv_aload_n hx hb dX6_readsItem_199 rfl (lv_at hl 0 rfl) ?_
    refine lv_iconst (v := 0) hx hb dX6_readsItem_200 (by decide) ?_
    refine lv_aload_n hx hb dX6_readsItem_201 rfl (lv_at hl 0 rfl) ?_
    refine f_get S hK hw.1 in_X6_readsItem_X6 0 rfl rfl 3 (by decide) (List.mem_of_getElem? (i := 1) rfl) rfl rfl dX6_readsItem_202 ?_
    refine lv_iconst (v := 0) hx hb dX6_readsItem_205 (by decide) ?_
    obtain ⟨g2, hm⟩ := gdo hm
    refine f_iald S hK hw.1 3 1 rfl rfl g2 dX6_readsItem_206 ?_
    refine lv_iconst (v := 1) hx hb dX6_readsItem_207 (by decide) ?_
    refine lv_isub hx hb dX6_readsItem_208 ?_
    refine lv_bipush (v := 59) hx hb dX6_readsItem_209 (by decide) ?_
    obtain ⟨r3, h4, hm⟩ := ob hm
    refine k_wVi S hK hw cal_X6_number gX6_readsItem_X6_number (c_X6_number l D cC cI cJ a_md a_md_text a_md_told a_md_draft a_md_s a_md_past a_md_images a_md_seen a_md_asks a_md_brings a_md_uses a_md_days a_md_tries a_md_row a_md_first a_md_held md_typed md_known md_kept md_sights md_at md_many md_length md_set md_text md_told md_draft md_s md_past md_images md_seen md_asks md_brings md_uses md_days md_tries md_row md_first md_held (0 : Int32) ((md_draft ((0 : Int32)).toNatClampNeg) - (1 : Int32)) (59 : Int32) (aw _) (hw.own [0, 1, 2, 3, 4, 5, 6, 7, 8, 9, 10, 11, 12, 13, 14, 15] (by decide) rfl) r3 h4) ⟨⟨rfl, rfl⟩, Nat.le_of_ble_eq_true rfl, Nat.le_of_ble_eq_true rfl⟩ [0, 1, 2, 3, 4, 5, 6, 7, 8, 9, 10, 11, 12, 13, 14, 15] rfl 0 rfl rfl rfl hl.1 rfl (Nat.le_of_ble_eq_true rfl) dX6_readsItem_211 ⟨Nat.zero_le _, Nat.zero_le _⟩ (fun H locs hJ hB => ?_)
    have hw := hJ _ hB rfl
    replace hw : Wd D A _ (wd_28 cC cI cJ a_md a_md_text md_typed a_md_told a_md_draft a_md_s a_md_past md_known a_md_images md_kept a_md_seen md_sights r3.2 a_md_asks a_md_brings a_md_uses a_md_days a_md_tries a_md_row md_many a_md_first md_length md_set a_md_held a_md_text md_text a_md_told md_told a_md_draft md_draft a_md_s md_s a_md_past md_past a_md_images md_images a_md_seen md_seen a_md_asks md_asks a_md_brings md_brings a_md_uses md_uses a_md_days md_days a_md_tries md_tries a_md_row md_row a_md_first md_first a_md_held md_held) H locs := hw
    refine lv_istore_n (lv' := [(2, .int r3.1), (0, .ref a_md), (1, .int p0)]) hx hb dX6_readsItem_214 rfl hl (by decide) rfl (fun ls hl => ?_)
    refine lv_aload_n hx hb dX6_readsItem_215 rfl (lv_at hl 1 rfl) ?_
    refine f_get S hK hw.1 in_X6_readsItem_X6 0 rfl rfl 3 (by decide) (List.mem_of_getElem? (i := 1) rfl) rfl rfl dX6_readsItem_216 ?_
    refine lv_iconst (v := 4) hx hb dX6_readsItem_219 (by decide) ?_
    refine lv_dup2_11 hx hb dX6_readsItem_220 rfl rfl ?_
    obtain ⟨g5, hm⟩ := gdo hm
    refine f_iald S hK hw.1 3 1 rfl rfl g5 dX6_readsItem_221 ?_
    refine lv_iload_n hx hb dX6_readsItem_222 rfl (lv_at hl 0 rfl) ?_
    refine lv_if_ge (tgt := 230) hx hb dX6_readsItem_223 (by decide) (fun c6 => ?_) (fun c6 => ?_)
    · replace hm := ipos hm c6
      refine lv_iconst (v := 1) hx hb dX6_readsItem_230 (by decide) ?_
      refine lv_iload_n hx hb dX6_readsItem_231 rfl (lv_at hl 0 rfl) ?_
      refine lv_ishl hx hb dX6_readsItem_232 ?_
      refine lv_ior hx hb dX6_readsItem_233 ?_
      obtain ⟨y8, e9, hm⟩ := ob hm
      refine f_name e9 ?_
      obtain ⟨g7, hm⟩ := gdo hm
      refine f_iast S hK hw 3 1 rfl rfl g7 (ws1 := (wd_28 cC cI cJ a_md a_md_text md_typed a_md_told a_md_draft a_md_s a_md_past md_known a_md_images md_kept a_md_seen md_sights r3.2 a_md_asks a_md_brings a_md_uses a_md_days a_md_tries a_md_row md_many a_md_first md_length md_set a_md_held a_md_text md_text a_md_told md_told a_md_draft (upd md_draft ((4 : Int32)).toNatClampNeg y8) a_md_s md_s a_md_past md_past a_md_images md_images a_md_seen md_seen a_md_asks md_asks a_md_brings md_brings a_md_uses md_uses a_md_days md_days a_md_tries md_tries a_md_row md_row a_md_first md_first a_md_held md_held)) rfl dX6_readsItem_234 (fun H locs hw => ?_)
      refine lv_iload_n hx hb dX6_readsItem_235 rfl (lv_at hl 0 rfl) ?_
      refine lv_if_lt (tgt := 243) hx hb dX6_readsItem_236 (by decide) (fun c10 => ?_) (fun c10 => ?_)
      · replace hm := ipos hm c10
        refine lv_iconst (v := 0) hx hb dX6_readsItem_243 (by decide) ?_
        obtain rfl := Option.some.inj hm
        exact e_WZ S hr hlk hw (Or.inl rfl) rfl hw.1 dX6_readsItem_244
      · replace hm := ineg hm c10
        refine lv_iconst (v := 1) hx hb dX6_readsItem_239 (by decide) ?_
        refine lv_goto (tgt := 244) hx hb dX6_readsItem_240 (by decide) ?_
        obtain rfl := Option.some.inj hm
        exact e_WZ S hr hlk hw (Or.inr rfl) rfl hw.1 dX6_readsItem_244
    · replace hm := ineg hm c6
      refine lv_iconst (v := 0) hx hb dX6_readsItem_226 (by decide) ?_
      refine lv_goto (tgt := 233) hx hb dX6_readsItem_227 (by decide) ?_
      refine lv_ior hx hb dX6_readsItem_233 ?_
      obtain ⟨y12, e13, hm⟩ := ob hm
      refine f_name e13 ?_
      obtain ⟨g11, hm⟩ := gdo hm
      refine f_iast S hK hw 3 1 rfl rfl g11 (ws1 := (wd_28 cC cI cJ a_md a_md_text md_typed a_md_told a_md_draft a_md_s a_md_past md_known a_md_images md_kept a_md_seen md_sights r3.2 a_md_asks a_md_brings a_md_uses a_md_days a_md_tries a_md_row md_many a_md_first md_length md_set a_md_held a_md_text md_text a_md_told md_told a_md_draft (upd md_draft ((4 : Int32)).toNatClampNeg y12) a_md_s md_s a_md_past md_past a_md_images md_images a_md_seen md_seen a_md_asks md_asks a_md_brings md_brings a_md_uses md_uses a_md_days md_days a_md_tries md_tries a_md_row md_row a_md_first md_first a_md_held md_held)) rfl dX6_readsItem_234 (fun H locs hw => ?_)
      refine lv_iload_n hx hb dX6_readsItem_235 rfl (lv_at hl 0 rfl) ?_
      refine lv_if_lt (tgt := 243) hx hb dX6_readsItem_236 (by decide) (fun c14 => ?_) (fun c14 => ?_)
      · replace hm := ipos hm c14
        refine lv_iconst (v := 0) hx hb dX6_readsItem_243 (by decide) ?_
        obtain rfl := Option.some.inj hm
        exact e_WZ S hr hlk hw (Or.inl rfl) rfl hw.1 dX6_readsItem_244
      · replace hm := ineg hm c14
        refine lv_iconst (v := 1) hx hb dX6_readsItem_239 (by decide) ?_
        refine lv_goto (tgt := 244) hx hb dX6_readsItem_240 (by decide) ?_
        obtain rfl := Option.some.inj hm
        exact e_WZ S hr hlk hw (Or.inr rfl) rfl hw.1 dX6_readsItem_244
  replace hm := ineg hm c1
  by_cases c15 : p0 = (99 : Int32)
  · replace hm := ipos hm c15
    refine f_look S dX6_readsItem_1 rfl (off := 244) (by rw [c15]; decide) (tgt := 245) (by decide) ?_
    refine lv_aload_n hx hb dX6_readsItem_245 rfl (lv_at hl 0 rfl) ?_
    refine f_get S hK hw.1 in_X6_readsItem_X6 0 rfl rfl 3 (by decide) (List.mem_of_getElem? (i := 1) rfl) rfl rfl dX6_readsItem_246 ?_
    refine lv_iconst (v := 2) hx hb dX6_readsItem_249 (by decide) ?_
    refine lv_aload_n hx hb dX6_readsItem_250 rfl (lv_at hl 0 rfl) ?_
    refine lv_iconst (v := 0) hx hb dX6_readsItem_251 (by decide) ?_
    refine lv_bipush (v := 99) hx hb dX6_readsItem_252 (by decide) ?_
    refine lv_bipush (v := 59) hx hb dX6_readsItem_254 (by decide) ?_
    obtain ⟨r16, h17, hm⟩ := ob hm
    refine k_wVi S hK hw cal_X6_number gX6_readsItem_X6_number (c_X6_number l D cC cI cJ a_md a_md_text a_md_told a_md_draft a_md_s a_md_past a_md_images a_md_seen a_md_asks a_md_brings a_md_uses a_md_days a_md_tries a_md_row a_md_first a_md_held md_typed md_known md_kept md_sights md_at md_many md_length md_set md_text md_told md_draft md_s md_past md_images md_seen md_asks md_brings md_uses md_days md_tries md_row md_first md_held (0 : Int32) (99 : Int32) (59 : Int32) (aw _) (hw.own [0, 1, 2, 3, 4, 5, 6, 7, 8, 9, 10, 11, 12, 13, 14, 15] (by decide) rfl) r16 h17) ⟨⟨rfl, rfl⟩, Nat.le_of_ble_eq_true rfl, Nat.le_of_ble_eq_true rfl⟩ [0, 1, 2, 3, 4, 5, 6, 7, 8, 9, 10, 11, 12, 13, 14, 15] rfl 0 rfl rfl rfl hl.1 rfl (Nat.le_of_ble_eq_true rfl) dX6_readsItem_256 ⟨Nat.zero_le _, Nat.zero_le _⟩ (fun H locs hJ hB => ?_)
    have hw := hJ _ hB rfl
    replace hw : Wd D A _ (wd_28 cC cI cJ a_md a_md_text md_typed a_md_told a_md_draft a_md_s a_md_past md_known a_md_images md_kept a_md_seen md_sights r16.2 a_md_asks a_md_brings a_md_uses a_md_days a_md_tries a_md_row md_many a_md_first md_length md_set a_md_held a_md_text md_text a_md_told md_told a_md_draft md_draft a_md_s md_s a_md_past md_past a_md_images md_images a_md_seen md_seen a_md_asks md_asks a_md_brings md_brings a_md_uses md_uses a_md_days md_days a_md_tries md_tries a_md_row md_row a_md_first md_first a_md_held md_held) H locs := hw
    obtain ⟨g18, hm⟩ := gdo hm
    refine f_iast S hK hw 3 1 rfl rfl g18 (ws1 := (wd_28 cC cI cJ a_md a_md_text md_typed a_md_told a_md_draft a_md_s a_md_past md_known a_md_images md_kept a_md_seen md_sights r16.2 a_md_asks a_md_brings a_md_uses a_md_days a_md_tries a_md_row md_many a_md_first md_length md_set a_md_held a_md_text md_text a_md_told md_told a_md_draft (upd md_draft ((2 : Int32)).toNatClampNeg r16.1) a_md_s md_s a_md_past md_past a_md_images md_images a_md_seen md_seen a_md_asks md_asks a_md_brings md_brings a_md_uses md_uses a_md_days md_days a_md_tries md_tries a_md_row md_row a_md_first md_first a_md_held md_held)) rfl dX6_readsItem_259 (fun H locs hw => ?_)
    refine lv_aload_n hx hb dX6_readsItem_260 rfl (lv_at hl 0 rfl) ?_
    refine f_get S hK hw.1 in_X6_readsItem_X6 0 rfl rfl 3 (by decide) (List.mem_of_getElem? (i := 1) rfl) rfl rfl dX6_readsItem_261 ?_
    refine lv_iconst (v := 2) hx hb dX6_readsItem_264 (by decide) ?_
    obtain ⟨g19, hm⟩ := gdo hm
    refine f_iald S hK hw.1 3 1 rfl rfl g19 dX6_readsItem_265 ?_
    refine lv_if_lt (tgt := 273) hx hb dX6_readsItem_266 (by decide) (fun c20 => ?_) (fun c20 => ?_)
    · replace hm := ipos hm c20
      refine lv_iconst (v := 0) hx hb dX6_readsItem_273 (by decide) ?_
      obtain rfl := Option.some.inj hm
      exact e_WZ S hr hlk hw (Or.inl rfl) rfl hw.1 dX6_readsItem_274
    · replace hm := ineg hm c20
      refine lv_iconst (v := 1) hx hb dX6_readsItem_269 (by decide) ?_
      refine lv_goto (tgt := 274) hx hb dX6_readsItem_270 (by decide) ?_
      obtain rfl := Option.some.inj hm
      exact e_WZ S hr hlk hw (Or.inr rfl) rfl hw.1 dX6_readsItem_274
  replace hm := ineg hm c15
  by_cases c21 : p0 = (104 : Int32)
  · replace hm := ipos hm c21
    refine f_look S dX6_readsItem_1 rfl (off := 146) (by rw [c21]; decide) (tgt := 147) (by decide) ?_
    refine lv_aload_n hx hb dX6_readsItem_147 rfl (lv_at hl 0 rfl) ?_
    refine lv_iconst (v := 0) hx hb dX6_readsItem_148 (by decide) ?_
    refine lv_iconst (v := 4) hx hb dX6_readsItem_149 (by decide) ?_
    refine lv_bipush (v := 44) hx hb dX6_readsItem_150 (by decide) ?_
    obtain ⟨r22, h23, hm⟩ := ob hm
    refine k_wVi S hK hw cal_X6_number gX6_readsItem_X6_number (c_X6_number l D cC cI cJ a_md a_md_text a_md_told a_md_draft a_md_s a_md_past a_md_images a_md_seen a_md_asks a_md_brings a_md_uses a_md_days a_md_tries a_md_row a_md_first a_md_held md_typed md_known md_kept md_sights md_at md_many md_length md_set md_text md_told md_draft md_s md_past md_images md_seen md_asks md_brings md_uses md_days md_tries md_row md_first md_held (0 : Int32) (4 : Int32) (44 : Int32) (aw _) (hw.own [0, 1, 2, 3, 4, 5, 6, 7, 8, 9, 10, 11, 12, 13, 14, 15] (by decide) rfl) r22 h23) ⟨⟨rfl, rfl⟩, Nat.le_of_ble_eq_true rfl, Nat.le_of_ble_eq_true rfl⟩ [0, 1, 2, 3, 4, 5, 6, 7, 8, 9, 10, 11, 12, 13, 14, 15] rfl 0 rfl rfl rfl hl.1 rfl (Nat.le_of_ble_eq_true rfl) dX6_readsItem_152 ⟨Nat.zero_le _, Nat.zero_le _⟩ (fun H locs hJ hB => ?_)
    have hw := hJ _ hB rfl
    replace hw : Wd D A _ (wd_28 cC cI cJ a_md a_md_text md_typed a_md_told a_md_draft a_md_s a_md_past md_known a_md_images md_kept a_md_seen md_sights r22.2 a_md_asks a_md_brings a_md_uses a_md_days a_md_tries a_md_row md_many a_md_first md_length md_set a_md_held a_md_text md_text a_md_told md_told a_md_draft md_draft a_md_s md_s a_md_past md_past a_md_images md_images a_md_seen md_seen a_md_asks md_asks a_md_brings md_brings a_md_uses md_uses a_md_days md_days a_md_tries md_tries a_md_row md_row a_md_first md_first a_md_held md_held) H locs := hw
    refine lv_istore_n (lv' := [(2, .int r22.1), (0, .ref a_md), (1, .int p0)]) hx hb dX6_readsItem_155 rfl hl (by decide) rfl (fun ls hl => ?_)
    refine lv_iload_n hx hb dX6_readsItem_156 rfl (lv_at hl 0 rfl) ?_
    refine lv_if_ge (tgt := 164) hx hb dX6_readsItem_157 (by decide) (fun c24 => ?_) (fun c24 => ?_)
    · replace hm := ipos hm c24
      refine lv_aload_n hx hb dX6_readsItem_164 rfl (lv_at hl 1 rfl) ?_
      refine lv_iconst (v := 0) hx hb dX6_readsItem_165 (by decide) ?_
      refine lv_bipush (v := 20) hx hb dX6_readsItem_166 (by decide) ?_
      refine lv_bipush (v := 59) hx hb dX6_readsItem_168 (by decide) ?_
      obtain ⟨r25, h26, hm⟩ := ob hm
      refine k_wVi S hK hw cal_X6_number gX6_readsItem_X6_number (c_X6_number l D cC cI cJ a_md a_md_text a_md_told a_md_draft a_md_s a_md_past a_md_images a_md_seen a_md_asks a_md_brings a_md_uses a_md_days a_md_tries a_md_row a_md_first a_md_held md_typed md_known md_kept md_sights r22.2 md_many md_length md_set md_text md_told md_draft md_s md_past md_images md_seen md_asks md_brings md_uses md_days md_tries md_row md_first md_held (0 : Int32) (20 : Int32) (59 : Int32) (aw _) (hw.own [0, 1, 2, 3, 4, 5, 6, 7, 8, 9, 10, 11, 12, 13, 14, 15] (by decide) rfl) r25 h26) ⟨⟨rfl, rfl⟩, Nat.le_of_ble_eq_true rfl, Nat.le_of_ble_eq_true rfl⟩ [0, 1, 2, 3, 4, 5, 6, 7, 8, 9, 10, 11, 12, 13, 14, 15] rfl 0 rfl rfl rfl hl.1 rfl (Nat.le_of_ble_eq_true rfl) dX6_readsItem_170 ⟨Nat.zero_le _, Nat.zero_le _⟩ (fun H locs hJ hB => ?_)
      have hw := hJ _ hB rfl
      replace hw : Wd D A _ (wd_28 cC cI cJ a_md a_md_text md_typed a_md_told a_md_draft a_md_s a_md_past md_known a_md_images md_kept a_md_seen md_sights r25.2 a_md_asks a_md_brings a_md_uses a_md_days a_md_tries a_md_row md_many a_md_first md_length md_set a_md_held a_md_text md_text a_md_told md_told a_md_draft md_draft a_md_s md_s a_md_past md_past a_md_images md_images a_md_seen md_seen a_md_asks md_asks a_md_brings md_brings a_md_uses md_uses a_md_days md_days a_md_tries md_tries a_md_row md_row a_md_first md_first a_md_held md_held) H locs := hw
      refine lv_istore_n (lv' := [(3, .int r25.1), (2, .int r22.1), (0, .ref a_md), (1, .int p0)]) hx hb dX6_readsItem_173 rfl hl (by decide) rfl (fun ls hl => ?_)
      refine lv_iload_n hx hb dX6_readsItem_174 rfl (lv_at hl 0 rfl) ?_
      refine lv_if_lt (tgt := 189) hx hb dX6_readsItem_175 (by decide) (fun c27 => ?_) (fun c27 => ?_)
      · replace hm := ipos hm c27
        refine lv_iconst (v := 0) hx hb dX6_readsItem_189 (by decide) ?_
        obtain rfl := Option.some.inj hm
        exact e_WZ S hr hlk hw (Or.inl rfl) rfl hw.1 dX6_readsItem_190
      · replace hm := ineg hm c27
        refine lv_aload_n hx hb dX6_readsItem_178 rfl (lv_at hl 2 rfl) ?_
        refine f_get S hK hw.1 in_X6_readsItem_X6 0 rfl rfl 3 (by decide) (List.mem_of_getElem? (i := 1) rfl) rfl rfl dX6_readsItem_179 ?_
        refine lv_iconst (v := 1) hx hb dX6_readsItem_182 (by decide) ?_
        obtain ⟨g28, hm⟩ := gdo hm
        refine f_iald S hK hw.1 3 1 rfl rfl g28 dX6_readsItem_183 ?_
        refine lv_bipush (v := 7) hx hb dX6_readsItem_184 (by decide) ?_
        refine lv_icmp_ne (tgt := 191) hx hb dX6_readsItem_186 (by decide) (fun c29 => ?_) (fun c29 => ?_)
        · replace hm := ineg hm c29
          refine lv_aload_n hx hb dX6_readsItem_191 rfl (lv_at hl 2 rfl) ?_
          refine lv_iload_n hx hb dX6_readsItem_192 rfl (lv_at hl 1 rfl) ?_
          refine lv_iload_n hx hb dX6_readsItem_193 rfl (lv_at hl 0 rfl) ?_
          obtain ⟨r30, h31, hm⟩ := ob hm
          refine k_wVv S hK hw cal_X6_helperOf gX6_readsItem_X6_helperOf (c_X6_helperOf l D cC cI cJ a_md a_md_text a_md_told a_md_draft a_md_s a_md_past a_md_images a_md_seen a_md_asks a_md_brings a_md_uses a_md_days a_md_tries a_md_row a_md_first a_md_held md_typed md_known md_kept md_sights r25.2 md_many md_length md_set md_text md_told md_draft md_s md_past md_images md_seen md_asks md_brings md_uses md_days md_tries md_row md_first md_held r22.1 r25.1 (aw _) (hw.own [0, 1, 2, 3, 4, 5, 6, 7, 8, 9, 10, 11, 12, 13, 14, 15] (by decide) rfl) r30 h31) ⟨⟨rfl, rfl⟩, Nat.le_of_ble_eq_true rfl, Nat.le_of_ble_eq_true rfl⟩ [0, 1, 2, 3, 4, 5, 6, 7, 8, 9, 10, 11, 12, 13, 14, 15] rfl 0 rfl rfl rfl hl.1 rfl (Nat.le_of_ble_eq_true rfl) dX6_readsItem_194 ⟨Nat.zero_le _, Nat.zero_le _⟩ (fun H locs hJ hB => ?_)
          have hw := hJ _ hB rfl
          replace hw : Wd D A _ (wd_28 cC cI cJ a_md a_md_text md_typed a_md_told a_md_draft a_md_s a_md_past md_known a_md_images md_kept a_md_seen md_sights r25.2 a_md_asks a_md_brings a_md_uses a_md_days a_md_tries a_md_row md_many a_md_first md_length md_set a_md_held a_md_text md_text a_md_told md_told a_md_draft r30 a_md_s md_s a_md_past md_past a_md_images md_images a_md_seen md_seen a_md_asks md_asks a_md_brings md_brings a_md_uses md_uses a_md_days md_days a_md_tries md_tries a_md_row md_row a_md_first md_first a_md_held md_held) H locs := hw
          refine lv_iconst (v := 1) hx hb dX6_readsItem_197 (by decide) ?_
          obtain rfl := Option.some.inj hm
          exact e_WZ S hr hlk hw (Or.inr rfl) rfl hw.1 dX6_readsItem_198
        · replace hm := ipos hm c29
          refine lv_iconst (v := 0) hx hb dX6_readsItem_189 (by decide) ?_
          obtain rfl := Option.some.inj hm
          exact e_WZ S hr hlk hw (Or.inl rfl) rfl hw.1 dX6_readsItem_190
    · replace hm := ineg hm c24
      refine lv_iconst (v := (-1)) hx hb dX6_readsItem_160 (by decide) ?_
      refine lv_goto (tgt := 173) hx hb dX6_readsItem_161 (by decide) ?_
      refine lv_istore_n (lv' := [(3, .int (-1 : Int32)), (2, .int r22.1), (0, .ref a_md), (1, .int p0)]) hx hb dX6_readsItem_173 rfl hl (by decide) rfl (fun ls hl => ?_)
      refine lv_iload_n hx hb dX6_readsItem_174 rfl (lv_at hl 0 rfl) ?_
      refine lv_if_lt (tgt := 189) hx hb dX6_readsItem_175 (by decide) (fun c32 => ?_) (fun c32 => ?_)
      · replace hm := ipos hm c32
        refine lv_iconst (v := 0) hx hb dX6_readsItem_189 (by decide) ?_
        obtain rfl := Option.some.inj hm
        exact e_WZ S hr hlk hw (Or.inl rfl) rfl hw.1 dX6_readsItem_190
      · replace hm := ineg hm c32
        refine lv_aload_n hx hb dX6_readsItem_178 rfl (lv_at hl 2 rfl) ?_
        refine f_get S hK hw.1 in_X6_readsItem_X6 0 rfl rfl 3 (by decide) (List.mem_of_getElem? (i := 1) rfl) rfl rfl dX6_readsItem_179 ?_
        refine lv_iconst (v := 1) hx hb dX6_readsItem_182 (by decide) ?_
        obtain ⟨g33, hm⟩ := gdo hm
        refine f_iald S hK hw.1 3 1 rfl rfl g33 dX6_readsItem_183 ?_
        refine lv_bipush (v := 7) hx hb dX6_readsItem_184 (by decide) ?_
        refine lv_icmp_ne (tgt := 191) hx hb dX6_readsItem_186 (by decide) (fun c34 => ?_) (fun c34 => ?_)
        · replace hm := ineg hm c34
          refine lv_aload_n hx hb dX6_readsItem_191 rfl (lv_at hl 2 rfl) ?_
          refine lv_iload_n hx hb dX6_readsItem_192 rfl (lv_at hl 1 rfl) ?_
          refine lv_iload_n hx hb dX6_readsItem_193 rfl (lv_at hl 0 rfl) ?_
          obtain ⟨r35, h36, hm⟩ := ob hm
          refine k_wVv S hK hw cal_X6_helperOf gX6_readsItem_X6_helperOf (c_X6_helperOf l D cC cI cJ a_md a_md_text a_md_told a_md_draft a_md_s a_md_past a_md_images a_md_seen a_md_asks a_md_brings a_md_uses a_md_days a_md_tries a_md_row a_md_first a_md_held md_typed md_known md_kept md_sights r22.2 md_many md_length md_set md_text md_told md_draft md_s md_past md_images md_seen md_asks md_brings md_uses md_days md_tries md_row md_first md_held r22.1 (-1 : Int32) (aw _) (hw.own [0, 1, 2, 3, 4, 5, 6, 7, 8, 9, 10, 11, 12, 13, 14, 15] (by decide) rfl) r35 h36) ⟨⟨rfl, rfl⟩, Nat.le_of_ble_eq_true rfl, Nat.le_of_ble_eq_true rfl⟩ [0, 1, 2, 3, 4, 5, 6, 7, 8, 9, 10, 11, 12, 13, 14, 15] rfl 0 rfl rfl rfl hl.1 rfl (Nat.le_of_ble_eq_true rfl) dX6_readsItem_194 ⟨Nat.zero_le _, Nat.zero_le _⟩ (fun H locs hJ hB => ?_)
          have hw := hJ _ hB rfl
          replace hw : Wd D A _ (wd_28 cC cI cJ a_md a_md_text md_typed a_md_told a_md_draft a_md_s a_md_past md_known a_md_images md_kept a_md_seen md_sights r22.2 a_md_asks a_md_brings a_md_uses a_md_days a_md_tries a_md_row md_many a_md_first md_length md_set a_md_held a_md_text md_text a_md_told md_told a_md_draft r35 a_md_s md_s a_md_past md_past a_md_images md_images a_md_seen md_seen a_md_asks md_asks a_md_brings md_brings a_md_uses md_uses a_md_days md_days a_md_tries md_tries a_md_row md_row a_md_first md_first a_md_held md_held) H locs := hw
          refine lv_iconst (v := 1) hx hb dX6_readsItem_197 (by decide) ?_
          obtain rfl := Option.some.inj hm
          exact e_WZ S hr hlk hw (Or.inr rfl) rfl hw.1 dX6_readsItem_198
        · replace hm := ipos hm c34
          refine lv_iconst (v := 0) hx hb dX6_readsItem_189 (by decide) ?_
          obtain rfl := Option.some.inj hm
          exact e_WZ S hr hlk hw (Or.inl rfl) rfl hw.1 dX6_readsItem_190
  replace hm := ineg hm c21
  by_cases c37 : p0 = (108 : Int32)
  · replace hm := ipos hm c37
    refine f_look S dX6_readsItem_1 rfl (off := 274) (by rw [c37]; decide) (tgt := 275) (by decide) ?_
    refine lv_aload_n hx hb dX6_readsItem_275 rfl (lv_at hl 0 rfl) ?_
    refine f_get S hK hw.1 in_X6_readsItem_X6 0 rfl rfl 3 (by decide) (List.mem_of_getElem? (i := 1) rfl) rfl rfl dX6_readsItem_276 ?_
    refine lv_iconst (v := 3) hx hb dX6_readsItem_279 (by decide) ?_
    refine lv_aload_n hx hb dX6_readsItem_280 rfl (lv_at hl 0 rfl) ?_
    refine lv_iconst (v := 1) hx hb dX6_readsItem_281 (by decide) ?_
    refine lv_bipush (v := 60) hx hb dX6_readsItem_282 (by decide) ?_
    refine lv_bipush (v := 59) hx hb dX6_readsItem_284 (by decide) ?_
    obtain ⟨r38, h39, hm⟩ := ob hm
    refine k_wVi S hK hw cal_X6_number gX6_readsItem_X6_number (c_X6_number l D cC cI cJ a_md a_md_text a_md_told a_md_draft a_md_s a_md_past a_md_images a_md_seen a_md_asks a_md_brings a_md_uses a_md_days a_md_tries a_md_row a_md_first a_md_held md_typed md_known md_kept md_sights md_at md_many md_length md_set md_text md_told md_draft md_s md_past md_images md_seen md_asks md_brings md_uses md_days md_tries md_row md_first md_held (1 : Int32) (60 : Int32) (59 : Int32) (aw _) (hw.own [0, 1, 2, 3, 4, 5, 6, 7, 8, 9, 10, 11, 12, 13, 14, 15] (by decide) rfl) r38 h39) ⟨⟨rfl, rfl⟩, Nat.le_of_ble_eq_true rfl, Nat.le_of_ble_eq_true rfl⟩ [0, 1, 2, 3, 4, 5, 6, 7, 8, 9, 10, 11, 12, 13, 14, 15] rfl 0 rfl rfl rfl hl.1 rfl (Nat.le_of_ble_eq_true rfl) dX6_readsItem_286 ⟨Nat.zero_le _, Nat.zero_le _⟩ (fun H locs hJ hB => ?_)
    have hw := hJ _ hB rfl
    replace hw : Wd D A _ (wd_28 cC cI cJ a_md a_md_text md_typed a_md_told a_md_draft a_md_s a_md_past md_known a_md_images md_kept a_md_seen md_sights r38.2 a_md_asks a_md_brings a_md_uses a_md_days a_md_tries a_md_row md_many a_md_first md_length md_set a_md_held a_md_text md_text a_md_told md_told a_md_draft md_draft a_md_s md_s a_md_past md_past a_md_images md_images a_md_seen md_seen a_md_asks md_asks a_md_brings md_brings a_md_uses md_uses a_md_days md_days a_md_tries md_tries a_md_row md_row a_md_first md_first a_md_held md_held) H locs := hw
    obtain ⟨g40, hm⟩ := gdo hm
    refine f_iast S hK hw 3 1 rfl rfl g40 (ws1 := (wd_28 cC cI cJ a_md a_md_text md_typed a_md_told a_md_draft a_md_s a_md_past md_known a_md_images md_kept a_md_seen md_sights r38.2 a_md_asks a_md_brings a_md_uses a_md_days a_md_tries a_md_row md_many a_md_first md_length md_set a_md_held a_md_text md_text a_md_told md_told a_md_draft (upd md_draft ((3 : Int32)).toNatClampNeg r38.1) a_md_s md_s a_md_past md_past a_md_images md_images a_md_seen md_seen a_md_asks md_asks a_md_brings md_brings a_md_uses md_uses a_md_days md_days a_md_tries md_tries a_md_row md_row a_md_first md_first a_md_held md_held)) rfl dX6_readsItem_289 (fun H locs hw => ?_)
    refine lv_aload_n hx hb dX6_readsItem_290 rfl (lv_at hl 0 rfl) ?_
    refine f_get S hK hw.1 in_X6_readsItem_X6 0 rfl rfl 3 (by decide) (List.mem_of_getElem? (i := 1) rfl) rfl rfl dX6_readsItem_291 ?_
    refine lv_iconst (v := 3) hx hb dX6_readsItem_294 (by decide) ?_
    obtain ⟨g41, hm⟩ := gdo hm
    refine f_iald S hK hw.1 3 1 rfl rfl g41 dX6_readsItem_295 ?_
    refine lv_if_le (tgt := 303) hx hb dX6_readsItem_296 (by decide) (fun c42 => ?_) (fun c42 => ?_)
    · replace hm := ipos hm c42
      refine lv_iconst (v := 0) hx hb dX6_readsItem_303 (by decide) ?_
      obtain rfl := Option.some.inj hm
      exact e_WZ S hr hlk hw (Or.inl rfl) rfl hw.1 dX6_readsItem_304
    · replace hm := ineg hm c42
      refine lv_iconst (v := 1) hx hb dX6_readsItem_299 (by decide) ?_
      refine lv_goto (tgt := 304) hx hb dX6_readsItem_300 (by decide) ?_
      obtain rfl := Option.some.inj hm
      exact e_WZ S hr hlk hw (Or.inr rfl) rfl hw.1 dX6_readsItem_304
  replace hm := ineg hm c37
  by_cases c43 : p0 = (116 : Int32)
  · replace hm := ipos hm c43
    refine f_look S dX6_readsItem_1 rfl (off := 51) (by rw [c43]; decide) (tgt := 52) (by decide) ?_
    refine lv_aload_n hx hb dX6_readsItem_52 rfl (lv_at hl 0 rfl) ?_
    refine lv_iconst (v := 0) hx hb dX6_readsItem_53 (by decide) ?_
    refine lv_iconst (v := 4) hx hb dX6_readsItem_54 (by decide) ?_
    refine lv_bipush (v := 44) hx hb dX6_readsItem_55 (by decide) ?_
    obtain ⟨r44, h45, hm⟩ := ob hm
    refine k_wVi S hK hw cal_X6_number gX6_readsItem_X6_number (c_X6_number l D cC cI cJ a_md a_md_text a_md_told a_md_draft a_md_s a_md_past a_md_images a_md_seen a_md_asks a_md_brings a_md_uses a_md_days a_md_tries a_md_row a_md_first a_md_held md_typed md_known md_kept md_sights md_at md_many md_length md_set md_text md_told md_draft md_s md_past md_images md_seen md_asks md_brings md_uses md_days md_tries md_row md_first md_held (0 : Int32) (4 : Int32) (44 : Int32) (aw _) (hw.own [0, 1, 2, 3, 4, 5, 6, 7, 8, 9, 10, 11, 12, 13, 14, 15] (by decide) rfl) r44 h45) ⟨⟨rfl, rfl⟩, Nat.le_of_ble_eq_true rfl, Nat.le_of_ble_eq_true rfl⟩ [0, 1, 2, 3, 4, 5, 6, 7, 8, 9, 10, 11, 12, 13, 14, 15] rfl 0 rfl rfl rfl hl.1 rfl (Nat.le_of_ble_eq_true rfl) dX6_readsItem_57 ⟨Nat.zero_le _, Nat.zero_le _⟩ (fun H locs hJ hB => ?_)
    have hw := hJ _ hB rfl
    replace hw : Wd D A _ (wd_28 cC cI cJ a_md a_md_text md_typed a_md_told a_md_draft a_md_s a_md_past md_known a_md_images md_kept a_md_seen md_sights r44.2 a_md_asks a_md_brings a_md_uses a_md_days a_md_tries a_md_row md_many a_md_first md_length md_set a_md_held a_md_text md_text a_md_told md_told a_md_draft md_draft a_md_s md_s a_md_past md_past a_md_images md_images a_md_seen md_seen a_md_asks md_asks a_md_brings md_brings a_md_uses md_uses a_md_days md_days a_md_tries md_tries a_md_row md_row a_md_first md_first a_md_held md_held) H locs := hw
    refine lv_istore_n (lv' := [(2, .int r44.1), (0, .ref a_md), (1, .int p0)]) hx hb dX6_readsItem_60 rfl hl (by decide) rfl (fun ls hl => ?_)
    refine lv_iload_n hx hb dX6_readsItem_61 rfl (lv_at hl 0 rfl) ?_
    refine lv_if_ge (tgt := 69) hx hb dX6_readsItem_62 (by decide) (fun c46 => ?_) (fun c46 => ?_)
    · replace hm := ipos hm c46
      refine lv_aload_n hx hb dX6_readsItem_69 rfl (lv_at hl 1 rfl) ?_
      refine lv_iconst (v := 0) hx hb dX6_readsItem_70 (by decide) ?_
      refine lv_bipush (v := 9) hx hb dX6_readsItem_71 (by decide) ?_
      refine lv_bipush (v := 44) hx hb dX6_readsItem_73 (by decide) ?_
      obtain ⟨r47, h48, hm⟩ := ob hm
      refine k_wVi S hK hw cal_X6_number gX6_readsItem_X6_number (c_X6_number l D cC cI cJ a_md a_md_text a_md_told a_md_draft a_md_s a_md_past a_md_images a_md_seen a_md_asks a_md_brings a_md_uses a_md_days a_md_tries a_md_row a_md_first a_md_held md_typed md_known md_kept md_sights r44.2 md_many md_length md_set md_text md_told md_draft md_s md_past md_images md_seen md_asks md_brings md_uses md_days md_tries md_row md_first md_held (0 : Int32) (9 : Int32) (44 : Int32) (aw _) (hw.own [0, 1, 2, 3, 4, 5, 6, 7, 8, 9, 10, 11, 12, 13, 14, 15] (by decide) rfl) r47 h48) ⟨⟨rfl, rfl⟩, Nat.le_of_ble_eq_true rfl, Nat.le_of_ble_eq_true rfl⟩ [0, 1, 2, 3, 4, 5, 6, 7, 8, 9, 10, 11, 12, 13, 14, 15] rfl 0 rfl rfl rfl hl.1 rfl (Nat.le_of_ble_eq_true rfl) dX6_readsItem_75 ⟨Nat.zero_le _, Nat.zero_le _⟩ (fun H locs hJ hB => ?_)
      have hw := hJ _ hB rfl
      replace hw : Wd D A _ (wd_28 cC cI cJ a_md a_md_text md_typed a_md_told a_md_draft a_md_s a_md_past md_known a_md_images md_kept a_md_seen md_sights r47.2 a_md_asks a_md_brings a_md_uses a_md_days a_md_tries a_md_row md_many a_md_first md_length md_set a_md_held a_md_text md_text a_md_told md_told a_md_draft md_draft a_md_s md_s a_md_past md_past a_md_images md_images a_md_seen md_seen a_md_asks md_asks a_md_brings md_brings a_md_uses md_uses a_md_days md_days a_md_tries md_tries a_md_row md_row a_md_first md_first a_md_held md_held) H locs := hw
      refine lv_istore_n (lv' := [(3, .int r47.1), (2, .int r44.1), (0, .ref a_md), (1, .int p0)]) hx hb dX6_readsItem_78 rfl hl (by decide) rfl (fun ls hl => ?_)
      refine lv_iload_n hx hb dX6_readsItem_79 rfl (lv_at hl 0 rfl) ?_
      refine lv_if_ge (tgt := 87) hx hb dX6_readsItem_80 (by decide) (fun c49 => ?_) (fun c49 => ?_)
      · replace hm := ipos hm c49
        refine lv_aload_n hx hb dX6_readsItem_87 rfl (lv_at hl 2 rfl) ?_
        refine lv_iconst (v := 0) hx hb dX6_readsItem_88 (by decide) ?_
        refine lv_iconst (v := 5) hx hb dX6_readsItem_89 (by decide) ?_
        refine lv_bipush (v := 44) hx hb dX6_readsItem_90 (by decide) ?_
        obtain ⟨r50, h51, hm⟩ := ob hm
        refine k_wVi S hK hw cal_X6_number gX6_readsItem_X6_number (c_X6_number l D cC cI cJ a_md a_md_text a_md_told a_md_draft a_md_s a_md_past a_md_images a_md_seen a_md_asks a_md_brings a_md_uses a_md_days a_md_tries a_md_row a_md_first a_md_held md_typed md_known md_kept md_sights r47.2 md_many md_length md_set md_text md_told md_draft md_s md_past md_images md_seen md_asks md_brings md_uses md_days md_tries md_row md_first md_held (0 : Int32) (5 : Int32) (44 : Int32) (aw _) (hw.own [0, 1, 2, 3, 4, 5, 6, 7, 8, 9, 10, 11, 12, 13, 14, 15] (by decide) rfl) r50 h51) ⟨⟨rfl, rfl⟩, Nat.le_of_ble_eq_true rfl, Nat.le_of_ble_eq_true rfl⟩ [0, 1, 2, 3, 4, 5, 6, 7, 8, 9, 10, 11, 12, 13, 14, 15] rfl 0 rfl rfl rfl hl.1 rfl (Nat.le_of_ble_eq_true rfl) dX6_readsItem_92 ⟨Nat.zero_le _, Nat.zero_le _⟩ (fun H locs hJ hB => ?_)
        have hw := hJ _ hB rfl
        replace hw : Wd D A _ (wd_28 cC cI cJ a_md a_md_text md_typed a_md_told a_md_draft a_md_s a_md_past md_known a_md_images md_kept a_md_seen md_sights r50.2 a_md_asks a_md_brings a_md_uses a_md_days a_md_tries a_md_row md_many a_md_first md_length md_set a_md_held a_md_text md_text a_md_told md_told a_md_draft md_draft a_md_s md_s a_md_past md_past a_md_images md_images a_md_seen md_seen a_md_asks md_asks a_md_brings md_brings a_md_uses md_uses a_md_days md_days a_md_tries md_tries a_md_row md_row a_md_first md_first a_md_held md_held) H locs := hw
        refine lv_istore (lv' := [(4, .int r50.1), (3, .int r47.1), (2, .int r44.1), (0, .ref a_md), (1, .int p0)]) hx hb dX6_readsItem_95 hl (by decide) rfl (fun ls hl => ?_)
        refine lv_iload hx hb dX6_readsItem_97 (lv_at hl 0 rfl) ?_
        refine lv_if_ge (tgt := 106) hx hb dX6_readsItem_99 (by decide) (fun c52 => ?_) (fun c52 => ?_)
        · replace hm := ipos hm c52
          refine lv_aload_n hx hb dX6_readsItem_106 rfl (lv_at hl 3 rfl) ?_
          refine lv_iconst (v := 0) hx hb dX6_readsItem_107 (by decide) ?_
          refine lv_bipush (v := 7) hx hb dX6_readsItem_108 (by decide) ?_
          refine lv_bipush (v := 59) hx hb dX6_readsItem_110 (by decide) ?_
          obtain ⟨r53, h54, hm⟩ := ob hm
          refine k_wVi S hK hw cal_X6_number gX6_readsItem_X6_number (c_X6_number l D cC cI cJ a_md a_md_text a_md_told a_md_draft a_md_s a_md_past a_md_images a_md_seen a_md_asks a_md_brings a_md_uses a_md_days a_md_tries a_md_row a_md_first a_md_held md_typed md_known md_kept md_sights r50.2 md_many md_length md_set md_text md_told md_draft md_s md_past md_images md_seen md_asks md_brings md_uses md_days md_tries md_row md_first md_held (0 : Int32) (7 : Int32) (59 : Int32) (aw _) (hw.own [0, 1, 2, 3, 4, 5, 6, 7, 8, 9, 10, 11, 12, 13, 14, 15] (by decide) rfl) r53 h54) ⟨⟨rfl, rfl⟩, Nat.le_of_ble_eq_true rfl, Nat.le_of_ble_eq_true rfl⟩ [0, 1, 2, 3, 4, 5, 6, 7, 8, 9, 10, 11, 12, 13, 14, 15] rfl 0 rfl rfl rfl hl.1 rfl (Nat.le_of_ble_eq_true rfl) dX6_readsItem_112 ⟨Nat.zero_le _, Nat.zero_le _⟩ (fun H locs hJ hB => ?_)
          have hw := hJ _ hB rfl
          replace hw : Wd D A _ (wd_28 cC cI cJ a_md a_md_text md_typed a_md_told a_md_draft a_md_s a_md_past md_known a_md_images md_kept a_md_seen md_sights r53.2 a_md_asks a_md_brings a_md_uses a_md_days a_md_tries a_md_row md_many a_md_first md_length md_set a_md_held a_md_text md_text a_md_told md_told a_md_draft md_draft a_md_s md_s a_md_past md_past a_md_images md_images a_md_seen md_seen a_md_asks md_asks a_md_brings md_brings a_md_uses md_uses a_md_days md_days a_md_tries md_tries a_md_row md_row a_md_first md_first a_md_held md_held) H locs := hw
          refine lv_istore (lv' := [(5, .int r53.1), (4, .int r50.1), (3, .int r47.1), (2, .int r44.1), (0, .ref a_md), (1, .int p0)]) hx hb dX6_readsItem_115 hl (by decide) rfl (fun ls hl => ?_)
          refine lv_iload hx hb dX6_readsItem_117 (lv_at hl 0 rfl) ?_
          refine lv_if_lt (tgt := 133) hx hb dX6_readsItem_119 (by decide) (fun c55 => ?_) (fun c55 => ?_)
          · replace hm := ipos hm c55
            refine lv_iconst (v := 0) hx hb dX6_readsItem_133 (by decide) ?_
            obtain rfl := Option.some.inj hm
            exact e_WZ S hr hlk hw (Or.inl rfl) rfl hw.1 dX6_readsItem_134
          · replace hm := ineg hm c55
            refine lv_aload_n hx hb dX6_readsItem_122 rfl (lv_at hl 4 rfl) ?_
            refine f_get S hK hw.1 in_X6_readsItem_X6 0 rfl rfl 3 (by decide) (List.mem_of_getElem? (i := 1) rfl) rfl rfl dX6_readsItem_123 ?_
            refine lv_iconst (v := 0) hx hb dX6_readsItem_126 (by decide) ?_
            obtain ⟨g56, hm⟩ := gdo hm
            refine f_iald S hK hw.1 3 1 rfl rfl g56 dX6_readsItem_127 ?_
            refine lv_bipush (v := 8) hx hb dX6_readsItem_128 (by decide) ?_
            refine lv_icmp_ne (tgt := 135) hx hb dX6_readsItem_130 (by decide) (fun c57 => ?_) (fun c57 => ?_)
            · replace hm := ineg hm c57
              refine lv_aload_n hx hb dX6_readsItem_135 rfl (lv_at hl 4 rfl) ?_
              refine lv_iload_n hx hb dX6_readsItem_136 rfl (lv_at hl 3 rfl) ?_
              refine lv_iload_n hx hb dX6_readsItem_137 rfl (lv_at hl 2 rfl) ?_
              refine lv_iload hx hb dX6_readsItem_138 (lv_at hl 1 rfl) ?_
              refine lv_iload hx hb dX6_readsItem_140 (lv_at hl 0 rfl) ?_
              obtain ⟨r58, h59, hm⟩ := ob hm
              refine k_wVv S hK hw cal_X6_taskOf gX6_readsItem_X6_taskOf (c_X6_taskOf l D cC cI cJ a_md a_md_text a_md_told a_md_draft a_md_s a_md_past a_md_images a_md_seen a_md_asks a_md_brings a_md_uses a_md_days a_md_tries a_md_row a_md_first a_md_held md_typed md_known md_kept md_sights r53.2 md_many md_length md_set md_text md_told md_draft md_s md_past md_images md_seen md_asks md_brings md_uses md_days md_tries md_row md_first md_held r44.1 r47.1 r50.1 r53.1 (aw _) (hw.own [0, 1, 2, 3, 4, 5, 6, 7, 8, 9, 10, 11, 12, 13, 14, 15] (by decide) rfl) r58 h59) ⟨⟨rfl, rfl⟩, Nat.le_of_ble_eq_true rfl, Nat.le_of_ble_eq_true rfl⟩ [0, 1, 2, 3, 4, 5, 6, 7, 8, 9, 10, 11, 12, 13, 14, 15] rfl 0 rfl rfl rfl hl.1 rfl (Nat.le_of_ble_eq_true rfl) dX6_readsItem_142 ⟨Nat.zero_le _, Nat.zero_le _⟩ (fun H locs hJ hB => ?_)
              have hw := hJ _ hB rfl
              replace hw : Wd D A _ (wd_28 cC cI cJ a_md a_md_text md_typed a_md_told a_md_draft a_md_s a_md_past md_known a_md_images md_kept a_md_seen md_sights r53.2 a_md_asks a_md_brings a_md_uses a_md_days a_md_tries a_md_row md_many a_md_first md_length md_set a_md_held a_md_text md_text a_md_told md_told a_md_draft r58 a_md_s md_s a_md_past md_past a_md_images md_images a_md_seen md_seen a_md_asks md_asks a_md_brings md_brings a_md_uses md_uses a_md_days md_days a_md_tries md_tries a_md_row md_row a_md_first md_first a_md_held md_held) H locs := hw
              refine lv_iconst (v := 1) hx hb dX6_readsItem_145 (by decide) ?_
              obtain rfl := Option.some.inj hm
              exact e_WZ S hr hlk hw (Or.inr rfl) rfl hw.1 dX6_readsItem_146
            · replace hm := ipos hm c57
              refine lv_iconst (v := 0) hx hb dX6_readsItem_133 (by decide) ?_
              obtain rfl := Option.some.inj hm
              exact e_WZ S hr hlk hw (Or.inl rfl) rfl hw.1 dX6_readsItem_134
        · replace hm := ineg hm c52
          refine lv_iconst (v := (-1)) hx hb dX6_readsItem_102 (by decide) ?_
          refine lv_goto (tgt := 115) hx hb dX6_readsItem_103 (by decide) ?_
          refine lv_istore (lv' := [(5, .int (-1 : Int32)), (4, .int r50.1), (3, .int r47.1), (2, .int r44.1), (0, .ref a_md), (1, .int p0)]) hx hb dX6_readsItem_115 hl (by decide) rfl (fun ls hl => ?_)
          refine lv_iload hx hb dX6_readsItem_117 (lv_at hl 0 rfl) ?_
          refine lv_if_lt (tgt := 133) hx hb dX6_readsItem_119 (by decide) (fun c60 => ?_) (fun c60 => ?_)
          · replace hm := ipos hm c60
            refine lv_iconst (v := 0) hx hb dX6_readsItem_133 (by decide) ?_
            obtain rfl := Option.some.inj hm
            exact e_WZ S hr hlk hw (Or.inl rfl) rfl hw.1 dX6_readsItem_134
          · replace hm := ineg hm c60
            refine lv_aload_n hx hb dX6_readsItem_122 rfl (lv_at hl 4 rfl) ?_
            refine f_get S hK hw.1 in_X6_readsItem_X6 0 rfl rfl 3 (by decide) (List.mem_of_getElem? (i := 1) rfl) rfl rfl dX6_readsItem_123 ?_
            refine lv_iconst (v := 0) hx hb dX6_readsItem_126 (by decide) ?_
            obtain ⟨g61, hm⟩ := gdo hm
            refine f_iald S hK hw.1 3 1 rfl rfl g61 dX6_readsItem_127 ?_
            refine lv_bipush (v := 8) hx hb dX6_readsItem_128 (by decide) ?_
            refine lv_icmp_ne (tgt := 135) hx hb dX6_readsItem_130 (by decide) (fun c62 => ?_) (fun c62 => ?_)
            · replace hm := ineg hm c62
              refine lv_aload_n hx hb dX6_readsItem_135 rfl (lv_at hl 4 rfl) ?_
              refine lv_iload_n hx hb dX6_readsItem_136 rfl (lv_at hl 3 rfl) ?_
              refine lv_iload_n hx hb dX6_readsItem_137 rfl (lv_at hl 2 rfl) ?_
              refine lv_iload hx hb dX6_readsItem_138 (lv_at hl 1 rfl) ?_
              refine lv_iload hx hb dX6_readsItem_140 (lv_at hl 0 rfl) ?_
              obtain ⟨r63, h64, hm⟩ := ob hm
              refine k_wVv S hK hw cal_X6_taskOf gX6_readsItem_X6_taskOf (c_X6_taskOf l D cC cI cJ a_md a_md_text a_md_told a_md_draft a_md_s a_md_past a_md_images a_md_seen a_md_asks a_md_brings a_md_uses a_md_days a_md_tries a_md_row a_md_first a_md_held md_typed md_known md_kept md_sights r50.2 md_many md_length md_set md_text md_told md_draft md_s md_past md_images md_seen md_asks md_brings md_uses md_days md_tries md_row md_first md_held r44.1 r47.1 r50.1 (-1 : Int32) (aw _) (hw.own [0, 1, 2, 3, 4, 5, 6, 7, 8, 9, 10, 11, 12, 13, 14, 15] (by decide) rfl) r63 h64) ⟨⟨rfl, rfl⟩, Nat.le_of_ble_eq_true rfl, Nat.le_of_ble_eq_true rfl⟩ [0, 1, 2, 3, 4, 5, 6, 7, 8, 9, 10, 11, 12, 13, 14, 15] rfl 0 rfl rfl rfl hl.1 rfl (Nat.le_of_ble_eq_true rfl) dX6_readsItem_142 ⟨Nat.zero_le _, Nat.zero_le _⟩ (fun H locs hJ hB => ?_)
              have hw := hJ _ hB rfl
              replace hw : Wd D A _ (wd_28 cC cI cJ a_md a_md_text md_typed a_md_told a_md_draft a_md_s a_md_past md_known a_md_images md_kept a_md_seen md_sights r50.2 a_md_asks a_md_brings a_md_uses a_md_days a_md_tries a_md_row md_many a_md_first md_length md_set a_md_held a_md_text md_text a_md_told md_told a_md_draft r63 a_md_s md_s a_md_past md_past a_md_images md_images a_md_seen md_seen a_md_asks md_asks a_md_brings md_brings a_md_uses md_uses a_md_days md_days a_md_tries md_tries a_md_row md_row a_md_first md_first a_md_held md_held) H locs := hw
              refine lv_iconst (v := 1) hx hb dX6_readsItem_145 (by decide) ?_
              obtain rfl := Option.some.inj hm
              exact e_WZ S hr hlk hw (Or.inr rfl) rfl hw.1 dX6_readsItem_146
            · replace hm := ipos hm c62
              refine lv_iconst (v := 0) hx hb dX6_readsItem_133 (by decide) ?_
              obtain rfl := Option.some.inj hm
              exact e_WZ S hr hlk hw (Or.inl rfl) rfl hw.1 dX6_readsItem_134
      · replace hm := ineg hm c49
        refine lv_iconst (v := (-1)) hx hb dX6_readsItem_83 (by decide) ?_
        refine lv_goto (tgt := 95) hx hb dX6_readsItem_84 (by decide) ?_
        refine lv_istore (lv' := [(4, .int (-1 : Int32)), (3, .int r47.1), (2, .int r44.1), (0, .ref a_md), (1, .int p0)]) hx hb dX6_readsItem_95 hl (by decide) rfl (fun ls hl => ?_)
        refine lv_iload hx hb dX6_readsItem_97 (lv_at hl 0 rfl) ?_
        refine lv_if_ge (tgt := 106) hx hb dX6_readsItem_99 (by decide) (fun c65 => ?_) (fun c65 => ?_)
        · replace hm := ipos hm c65
          refine lv_aload_n hx hb dX6_readsItem_106 rfl (lv_at hl 3 rfl) ?_
          refine lv_iconst (v := 0) hx hb dX6_readsItem_107 (by decide) ?_
          refine lv_bipush (v := 7) hx hb dX6_readsItem_108 (by decide) ?_
          refine lv_bipush (v := 59) hx hb dX6_readsItem_110 (by decide) ?_
          obtain ⟨r66, h67, hm⟩ := ob hm
          refine k_wVi S hK hw cal_X6_number gX6_readsItem_X6_number (c_X6_number l D cC cI cJ a_md a_md_text a_md_told a_md_draft a_md_s a_md_past a_md_images a_md_seen a_md_asks a_md_brings a_md_uses a_md_days a_md_tries a_md_row a_md_first a_md_held md_typed md_known md_kept md_sights r47.2 md_many md_length md_set md_text md_told md_draft md_s md_past md_images md_seen md_asks md_brings md_uses md_days md_tries md_row md_first md_held (0 : Int32) (7 : Int32) (59 : Int32) (aw _) (hw.own [0, 1, 2, 3, 4, 5, 6, 7, 8, 9, 10, 11, 12, 13, 14, 15] (by decide) rfl) r66 h67) ⟨⟨rfl, rfl⟩, Nat.le_of_ble_eq_true rfl, Nat.le_of_ble_eq_true rfl⟩ [0, 1, 2, 3, 4, 5, 6, 7, 8, 9, 10, 11, 12, 13, 14, 15] rfl 0 rfl rfl rfl hl.1 rfl (Nat.le_of_ble_eq_true rfl) dX6_readsItem_112 ⟨Nat.zero_le _, Nat.zero_le _⟩ (fun H locs hJ hB => ?_)
          have hw := hJ _ hB rfl
          replace hw : Wd D A _ (wd_28 cC cI cJ a_md a_md_text md_typed a_md_told a_md_draft a_md_s a_md_past md_known a_md_images md_kept a_md_seen md_sights r66.2 a_md_asks a_md_brings a_md_uses a_md_days a_md_tries a_md_row md_many a_md_first md_length md_set a_md_held a_md_text md_text a_md_told md_told a_md_draft md_draft a_md_s md_s a_md_past md_past a_md_images md_images a_md_seen md_seen a_md_asks md_asks a_md_brings md_brings a_md_uses md_uses a_md_days md_days a_md_tries md_tries a_md_row md_row a_md_first md_first a_md_held md_held) H locs := hw
          refine lv_istore (lv' := [(5, .int r66.1), (4, .int (-1 : Int32)), (3, .int r47.1), (2, .int r44.1), (0, .ref a_md), (1, .int p0)]) hx hb dX6_readsItem_115 hl (by decide) rfl (fun ls hl => ?_)
          refine lv_iload hx hb dX6_readsItem_117 (lv_at hl 0 rfl) ?_
          refine lv_if_lt (tgt := 133) hx hb dX6_readsItem_119 (by decide) (fun c68 => ?_) (fun c68 => ?_)
          · replace hm := ipos hm c68
            refine lv_iconst (v := 0) hx hb dX6_readsItem_133 (by decide) ?_
            obtain rfl := Option.some.inj hm
            exact e_WZ S hr hlk hw (Or.inl rfl) rfl hw.1 dX6_readsItem_134
          · replace hm := ineg hm c68
            refine lv_aload_n hx hb dX6_readsItem_122 rfl (lv_at hl 4 rfl) ?_
            refine f_get S hK hw.1 in_X6_readsItem_X6 0 rfl rfl 3 (by decide) (List.mem_of_getElem? (i := 1) rfl) rfl rfl dX6_readsItem_123 ?_
            refine lv_iconst (v := 0) hx hb dX6_readsItem_126 (by decide) ?_
            obtain ⟨g69, hm⟩ := gdo hm
            refine f_iald S hK hw.1 3 1 rfl rfl g69 dX6_readsItem_127 ?_
            refine lv_bipush (v := 8) hx hb dX6_readsItem_128 (by decide) ?_
            refine lv_icmp_ne (tgt := 135) hx hb dX6_readsItem_130 (by decide) (fun c70 => ?_) (fun c70 => ?_)
            · replace hm := ineg hm c70
              refine lv_aload_n hx hb dX6_readsItem_135 rfl (lv_at hl 4 rfl) ?_
              refine lv_iload_n hx hb dX6_readsItem_136 rfl (lv_at hl 3 rfl) ?_
              refine lv_iload_n hx hb dX6_readsItem_137 rfl (lv_at hl 2 rfl) ?_
              refine lv_iload hx hb dX6_readsItem_138 (lv_at hl 1 rfl) ?_
              refine lv_iload hx hb dX6_readsItem_140 (lv_at hl 0 rfl) ?_
              obtain ⟨r71, h72, hm⟩ := ob hm
              refine k_wVv S hK hw cal_X6_taskOf gX6_readsItem_X6_taskOf (c_X6_taskOf l D cC cI cJ a_md a_md_text a_md_told a_md_draft a_md_s a_md_past a_md_images a_md_seen a_md_asks a_md_brings a_md_uses a_md_days a_md_tries a_md_row a_md_first a_md_held md_typed md_known md_kept md_sights r66.2 md_many md_length md_set md_text md_told md_draft md_s md_past md_images md_seen md_asks md_brings md_uses md_days md_tries md_row md_first md_held r44.1 r47.1 (-1 : Int32) r66.1 (aw _) (hw.own [0, 1, 2, 3, 4, 5, 6, 7, 8, 9, 10, 11, 12, 13, 14, 15] (by decide) rfl) r71 h72) ⟨⟨rfl, rfl⟩, Nat.le_of_ble_eq_true rfl, Nat.le_of_ble_eq_true rfl⟩ [0, 1, 2, 3, 4, 5, 6, 7, 8, 9, 10, 11, 12, 13, 14, 15] rfl 0 rfl rfl rfl hl.1 rfl (Nat.le_of_ble_eq_true rfl) dX6_readsItem_142 ⟨Nat.zero_le _, Nat.zero_le _⟩ (fun H locs hJ hB => ?_)
              have hw := hJ _ hB rfl
              replace hw : Wd D A _ (wd_28 cC cI cJ a_md a_md_text md_typed a_md_told a_md_draft a_md_s a_md_past md_known a_md_images md_kept a_md_seen md_sights r66.2 a_md_asks a_md_brings a_md_uses a_md_days a_md_tries a_md_row md_many a_md_first md_length md_set a_md_held a_md_text md_text a_md_told md_told a_md_draft r71 a_md_s md_s a_md_past md_past a_md_images md_images a_md_seen md_seen a_md_asks md_asks a_md_brings md_brings a_md_uses md_uses a_md_days md_days a_md_tries md_tries a_md_row md_row a_md_first md_first a_md_held md_held) H locs := hw
              refine lv_iconst (v := 1) hx hb dX6_readsItem_145 (by decide) ?_
              obtain rfl := Option.some.inj hm
              exact e_WZ S hr hlk hw (Or.inr rfl) rfl hw.1 dX6_readsItem_146
            · replace hm := ipos hm c70
              refine lv_iconst (v := 0) hx hb dX6_readsItem_133 (by decide) ?_
              obtain rfl := Option.some.inj hm
              exact e_WZ S hr hlk hw (Or.inl rfl) rfl hw.1 dX6_readsItem_134
        · replace hm := ineg hm c65
          refine lv_iconst (v := (-1)) hx hb dX6_readsItem_102 (by decide) ?_
          refine lv_goto (tgt := 115) hx hb dX6_readsItem_103 (by decide) ?_
          refine lv_istore (lv' := [(5, .int (-1 : Int32)), (4, .int (-1 : Int32)), (3, .int r47.1), (2, .int r44.1), (0, .ref a_md), (1, .int p0)]) hx hb dX6_readsItem_115 hl (by decide) rfl (fun ls hl => ?_)
          refine lv_iload hx hb dX6_readsItem_117 (lv_at hl 0 rfl) ?_
          refine lv_if_lt (tgt := 133) hx hb dX6_readsItem_119 (by decide) (fun c73 => ?_) (fun c73 => ?_)
          · replace hm := ipos hm c73
            refine lv_iconst (v := 0) hx hb dX6_readsItem_133 (by decide) ?_
            obtain rfl := Option.some.inj hm
            exact e_WZ S hr hlk hw (Or.inl rfl) rfl hw.1 dX6_readsItem_134
          · replace hm := ineg hm c73
            refine lv_aload_n hx hb dX6_readsItem_122 rfl (lv_at hl 4 rfl) ?_
            refine f_get S hK hw.1 in_X6_readsItem_X6 0 rfl rfl 3 (by decide) (List.mem_of_getElem? (i := 1) rfl) rfl rfl dX6_readsItem_123 ?_
            refine lv_iconst (v := 0) hx hb dX6_readsItem_126 (by decide) ?_
            obtain ⟨g74, hm⟩ := gdo hm
            refine f_iald S hK hw.1 3 1 rfl rfl g74 dX6_readsItem_127 ?_
            refine lv_bipush (v := 8) hx hb dX6_readsItem_128 (by decide) ?_
            refine lv_icmp_ne (tgt := 135) hx hb dX6_readsItem_130 (by decide) (fun c75 => ?_) (fun c75 => ?_)
            · replace hm := ineg hm c75
              refine lv_aload_n hx hb dX6_readsItem_135 rfl (lv_at hl 4 rfl) ?_
              refine lv_iload_n hx hb dX6_readsItem_136 rfl (lv_at hl 3 rfl) ?_
              refine lv_iload_n hx hb dX6_readsItem_137 rfl (lv_at hl 2 rfl) ?_
              refine lv_iload hx hb dX6_readsItem_138 (lv_at hl 1 rfl) ?_
              refine lv_iload hx hb dX6_readsItem_140 (lv_at hl 0 rfl) ?_
              obtain ⟨r76, h77, hm⟩ := ob hm
              refine k_wVv S hK hw cal_X6_taskOf gX6_readsItem_X6_taskOf (c_X6_taskOf l D cC cI cJ a_md a_md_text a_md_told a_md_draft a_md_s a_md_past a_md_images a_md_seen a_md_asks a_md_brings a_md_uses a_md_days a_md_tries a_md_row a_md_first a_md_held md_typed md_known md_kept md_sights r47.2 md_many md_length md_set md_text md_told md_draft md_s md_past md_images md_seen md_asks md_brings md_uses md_days md_tries md_row md_first md_held r44.1 r47.1 (-1 : Int32) (-1 : Int32) (aw _) (hw.own [0, 1, 2, 3, 4, 5, 6, 7, 8, 9, 10, 11, 12, 13, 14, 15] (by decide) rfl) r76 h77) ⟨⟨rfl, rfl⟩, Nat.le_of_ble_eq_true rfl, Nat.le_of_ble_eq_true rfl⟩ [0, 1, 2, 3, 4, 5, 6, 7, 8, 9, 10, 11, 12, 13, 14, 15] rfl 0 rfl rfl rfl hl.1 rfl (Nat.le_of_ble_eq_true rfl) dX6_readsItem_142 ⟨Nat.zero_le _, Nat.zero_le _⟩ (fun H locs hJ hB => ?_)
              have hw := hJ _ hB rfl
              replace hw : Wd D A _ (wd_28 cC cI cJ a_md a_md_text md_typed a_md_told a_md_draft a_md_s a_md_past md_known a_md_images md_kept a_md_seen md_sights r47.2 a_md_asks a_md_brings a_md_uses a_md_days a_md_tries a_md_row md_many a_md_first md_length md_set a_md_held a_md_text md_text a_md_told md_told a_md_draft r76 a_md_s md_s a_md_past md_past a_md_images md_images a_md_seen md_seen a_md_asks md_asks a_md_brings md_brings a_md_uses md_uses a_md_days md_days a_md_tries md_tries a_md_row md_row a_md_first md_first a_md_held md_held) H locs := hw
              refine lv_iconst (v := 1) hx hb dX6_readsItem_145 (by decide) ?_
              obtain rfl := Option.some.inj hm
              exact e_WZ S hr hlk hw (Or.inr rfl) rfl hw.1 dX6_readsItem_146
            · replace hm := ipos hm c75
              refine lv_iconst (v := 0) hx hb dX6_readsItem_133 (by decide) ?_
              obtain rfl := Option.some.inj hm
              exact e_WZ S hr hlk hw (Or.inl rfl) rfl hw.1 dX6_readsItem_134
    · replace hm := ineg hm c46
      refine lv_iconst (v := (-1)) hx hb dX6_readsItem_65 (by decide) ?_
      refine lv_goto (tgt := 78) hx hb dX6_readsItem_66 (by decide) ?_
      refine lv_istore_n (lv' := [(3, .int (-1 : Int32)), (2, .int r44.1), (0, .ref a_md), (1, .int p0)]) hx hb dX6_readsItem_78 rfl hl (by decide) rfl (fun ls hl => ?_)
      refine lv_iload_n hx hb dX6_readsItem_79 rfl (lv_at hl 0 rfl) ?_
      refine lv_if_ge (tgt := 87) hx hb dX6_readsItem_80 (by decide) (fun c78 => ?_) (fun c78 => ?_)
      · replace hm := ipos hm c78
        refine lv_aload_n hx hb dX6_readsItem_87 rfl (lv_at hl 2 rfl) ?_
        refine lv_iconst (v := 0) hx hb dX6_readsItem_88 (by decide) ?_
        refine lv_iconst (v := 5) hx hb dX6_readsItem_89 (by decide) ?_
        refine lv_bipush (v := 44) hx hb dX6_readsItem_90 (by decide) ?_
        obtain ⟨r79, h80, hm⟩ := ob hm
        refine k_wVi S hK hw cal_X6_number gX6_readsItem_X6_number (c_X6_number l D cC cI cJ a_md a_md_text a_md_told a_md_draft a_md_s a_md_past a_md_images a_md_seen a_md_asks a_md_brings a_md_uses a_md_days a_md_tries a_md_row a_md_first a_md_held md_typed md_known md_kept md_sights r44.2 md_many md_length md_set md_text md_told md_draft md_s md_past md_images md_seen md_asks md_brings md_uses md_days md_tries md_row md_first md_held (0 : Int32) (5 : Int32) (44 : Int32) (aw _) (hw.own [0, 1, 2, 3, 4, 5, 6, 7, 8, 9, 10, 11, 12, 13, 14, 15] (by decide) rfl) r79 h80) ⟨⟨rfl, rfl⟩, Nat.le_of_ble_eq_true rfl, Nat.le_of_ble_eq_true rfl⟩ [0, 1, 2, 3, 4, 5, 6, 7, 8, 9, 10, 11, 12, 13, 14, 15] rfl 0 rfl rfl rfl hl.1 rfl (Nat.le_of_ble_eq_true rfl) dX6_readsItem_92 ⟨Nat.zero_le _, Nat.zero_le _⟩ (fun H locs hJ hB => ?_)
        have hw := hJ _ hB rfl
        replace hw : Wd D A _ (wd_28 cC cI cJ a_md a_md_text md_typed a_md_told a_md_draft a_md_s a_md_past md_known a_md_images md_kept a_md_seen md_sights r79.2 a_md_asks a_md_brings a_md_uses a_md_days a_md_tries a_md_row md_many a_md_first md_length md_set a_md_held a_md_text md_text a_md_told md_told a_md_draft md_draft a_md_s md_s a_md_past md_past a_md_images md_images a_md_seen md_seen a_md_asks md_asks a_md_brings md_brings a_md_uses md_uses a_md_days md_days a_md_tries md_tries a_md_row md_row a_md_first md_first a_md_held md_held) H locs := hw
        refine lv_istore (lv' := [(4, .int r79.1), (3, .int (-1 : Int32)), (2, .int r44.1), (0, .ref a_md), (1, .int p0)]) hx hb dX6_readsItem_95 hl (by decide) rfl (fun ls hl => ?_)
        refine lv_iload hx hb dX6_readsItem_97 (lv_at hl 0 rfl) ?_
        refine lv_if_ge (tgt := 106) hx hb dX6_readsItem_99 (by decide) (fun c81 => ?_) (fun c81 => ?_)
        · replace hm := ipos hm c81
          refine lv_aload_n hx hb dX6_readsItem_106 rfl (lv_at hl 3 rfl) ?_
          refine lv_iconst (v := 0) hx hb dX6_readsItem_107 (by decide) ?_
          refine lv_bipush (v := 7) hx hb dX6_readsItem_108 (by decide) ?_
          refine lv_bipush (v := 59) hx hb dX6_readsItem_110 (by decide) ?_
          obtain ⟨r82, h83, hm⟩ := ob hm
          refine k_wVi S hK hw cal_X6_number gX6_readsItem_X6_number (c_X6_number l D cC cI cJ a_md a_md_text a_md_told a_md_draft a_md_s a_md_past a_md_images a_md_seen a_md_asks a_md_brings a_md_uses a_md_days a_md_tries a_md_row a_md_first a_md_held md_typed md_known md_kept md_sights r79.2 md_many md_length md_set md_text md_told md_draft md_s md_past md_images md_seen md_asks md_brings md_uses md_days md_tries md_row md_first md_held (0 : Int32) (7 : Int32) (59 : Int32) (aw _) (hw.own [0, 1, 2, 3, 4, 5, 6, 7, 8, 9, 10, 11, 12, 13, 14, 15] (by decide) rfl) r82 h83) ⟨⟨rfl, rfl⟩, Nat.le_of_ble_eq_true rfl, Nat.le_of_ble_eq_true rfl⟩ [0, 1, 2, 3, 4, 5, 6, 7, 8, 9, 10, 11, 12, 13, 14, 15] rfl 0 rfl rfl rfl hl.1 rfl (Nat.le_of_ble_eq_true rfl) dX6_readsItem_112 ⟨Nat.zero_le _, Nat.zero_le _⟩ (fun H locs hJ hB => ?_)
          have hw := hJ _ hB rfl
          replace hw : Wd D A _ (wd_28 cC cI cJ a_md a_md_text md_typed a_md_told a_md_draft a_md_s a_md_past md_known a_md_images md_kept a_md_seen md_sights r82.2 a_md_asks a_md_brings a_md_uses a_md_days a_md_tries a_md_row md_many a_md_first md_length md_set a_md_held a_md_text md_text a_md_told md_told a_md_draft md_draft a_md_s md_s a_md_past md_past a_md_images md_images a_md_seen md_seen a_md_asks md_asks a_md_brings md_brings a_md_uses md_uses a_md_days md_days a_md_tries md_tries a_md_row md_row a_md_first md_first a_md_held md_held) H locs := hw
          refine lv_istore (lv' := [(5, .int r82.1), (4, .int r79.1), (3, .int (-1 : Int32)), (2, .int r44.1), (0, .ref a_md), (1, .int p0)]) hx hb dX6_readsItem_115 hl (by decide) rfl (fun ls hl => ?_)
          refine lv_iload hx hb dX6_readsItem_117 (lv_at hl 0 rfl) ?_
          refine lv_if_lt (tgt := 133) hx hb dX6_readsItem_119 (by decide) (fun c84 => ?_) (fun c84 => ?_)
          · replace hm := ipos hm c84
            refine lv_iconst (v := 0) hx hb dX6_readsItem_133 (by decide) ?_
            obtain rfl := Option.some.inj hm
            exact e_WZ S hr hlk hw (Or.inl rfl) rfl hw.1 dX6_readsItem_134
          · replace hm := ineg hm c84
            refine lv_aload_n hx hb dX6_readsItem_122 rfl (lv_at hl 4 rfl) ?_
            refine f_get S hK hw.1 in_X6_readsItem_X6 0 rfl rfl 3 (by decide) (List.mem_of_getElem? (i := 1) rfl) rfl rfl dX6_readsItem_123 ?_
            refine lv_iconst (v := 0) hx hb dX6_readsItem_126 (by decide) ?_
            obtain ⟨g85, hm⟩ := gdo hm
            refine f_iald S hK hw.1 3 1 rfl rfl g85 dX6_readsItem_127 ?_
            refine lv_bipush (v := 8) hx hb dX6_readsItem_128 (by decide) ?_
            refine lv_icmp_ne (tgt := 135) hx hb dX6_readsItem_130 (by decide) (fun c86 => ?_) (fun c86 => ?_)
            · replace hm := ineg hm c86
              refine lv_aload_n hx hb dX6_readsItem_135 rfl (lv_at hl 4 rfl) ?_
              refine lv_iload_n hx hb dX6_readsItem_136 rfl (lv_at hl 3 rfl) ?_
              refine lv_iload_n hx hb dX6_readsItem_137 rfl (lv_at hl 2 rfl) ?_
              refine lv_iload hx hb dX6_readsItem_138 (lv_at hl 1 rfl) ?_
              refine lv_iload hx hb dX6_readsItem_140 (lv_at hl 0 rfl) ?_
              obtain ⟨r87, h88, hm⟩ := ob hm
              refine k_wVv S hK hw cal_X6_taskOf gX6_readsItem_X6_taskOf (c_X6_taskOf l D cC cI cJ a_md a_md_text a_md_told a_md_draft a_md_s a_md_past a_md_images a_md_seen a_md_asks a_md_brings a_md_uses a_md_days a_md_tries a_md_row a_md_first a_md_held md_typed md_known md_kept md_sights r82.2 md_many md_length md_set md_text md_told md_draft md_s md_past md_images md_seen md_asks md_brings md_uses md_days md_tries md_row md_first md_held r44.1 (-1 : Int32) r79.1 r82.1 (aw _) (hw.own [0, 1, 2, 3, 4, 5, 6, 7, 8, 9, 10, 11, 12, 13, 14, 15] (by decide) rfl) r87 h88) ⟨⟨rfl, rfl⟩, Nat.le_of_ble_eq_true rfl, Nat.le_of_ble_eq_true rfl⟩ [0, 1, 2, 3, 4, 5, 6, 7, 8, 9, 10, 11, 12, 13, 14, 15] rfl 0 rfl rfl rfl hl.1 rfl (Nat.le_of_ble_eq_true rfl) dX6_readsItem_142 ⟨Nat.zero_le _, Nat.zero_le _⟩ (fun H locs hJ hB => ?_)
              have hw := hJ _ hB rfl
              replace hw : Wd D A _ (wd_28 cC cI cJ a_md a_md_text md_typed a_md_told a_md_draft a_md_s a_md_past md_known a_md_images md_kept a_md_seen md_sights r82.2 a_md_asks a_md_brings a_md_uses a_md_days a_md_tries a_md_row md_many a_md_first md_length md_set a_md_held a_md_text md_text a_md_told md_told a_md_draft r87 a_md_s md_s a_md_past md_past a_md_images md_images a_md_seen md_seen a_md_asks md_asks a_md_brings md_brings a_md_uses md_uses a_md_days md_days a_md_tries md_tries a_md_row md_row a_md_first md_first a_md_held md_held) H locs := hw
              refine lv_iconst (v := 1) hx hb dX6_readsItem_145 (by decide) ?_
              obtain rfl := Option.some.inj hm
              exact e_WZ S hr hlk hw (Or.inr rfl) rfl hw.1 dX6_readsItem_146
            · replace hm := ipos hm c86
              refine lv_iconst (v := 0) hx hb dX6_readsItem_133 (by decide) ?_
              obtain rfl := Option.some.inj hm
              exact e_WZ S hr hlk hw (Or.inl rfl) rfl hw.1 dX6_readsItem_134
        · replace hm := ineg hm c81
          refine lv_iconst (v := (-1)) hx hb dX6_readsItem_102 (by decide) ?_
          refine lv_goto (tgt := 115) hx hb dX6_readsItem_103 (by decide) ?_
          refine lv_istore (lv' := [(5, .int (-1 : Int32)), (4, .int r79.1), (3, .int (-1 : Int32)), (2, .int r44.1), (0, .ref a_md), (1, .int p0)]) hx hb dX6_readsItem_115 hl (by decide) rfl (fun ls hl => ?_)
          refine lv_iload hx hb dX6_readsItem_117 (lv_at hl 0 rfl) ?_
          refine lv_if_lt (tgt := 133) hx hb dX6_readsItem_119 (by decide) (fun c89 => ?_) (fun c89 => ?_)
          · replace hm := ipos hm c89
            refine lv_iconst (v := 0) hx hb dX6_readsItem_133 (by decide) ?_
            obtain rfl := Option.some.inj hm
            exact e_WZ S hr hlk hw (Or.inl rfl) rfl hw.1 dX6_readsItem_134
          · replace hm := ineg hm c89
            refine lv_aload_n hx hb dX6_readsItem_122 rfl (lv_at hl 4 rfl) ?_
            refine f_get S hK hw.1 in_X6_readsItem_X6 0 rfl rfl 3 (by decide) (List.mem_of_getElem? (i := 1) rfl) rfl rfl dX6_readsItem_123 ?_
            refine lv_iconst (v := 0) hx hb dX6_readsItem_126 (by decide) ?_
            obtain ⟨g90, hm⟩ := gdo hm
            refine f_iald S hK hw.1 3 1 rfl rfl g90 dX6_readsItem_127 ?_
            refine lv_bipush (v := 8) hx hb dX6_readsItem_128 (by decide) ?_
            refine lv_icmp_ne (tgt := 135) hx hb dX6_readsItem_130 (by decide) (fun c91 => ?_) (fun c91 => ?_)
            · replace hm := ineg hm c91
              refine lv_aload_n hx hb dX6_readsItem_135 rfl (lv_at hl 4 rfl) ?_
              refine lv_iload_n hx hb dX6_readsItem_136 rfl (lv_at hl 3 rfl) ?_
              refine lv_iload_n hx hb dX6_readsItem_137 rfl (lv_at hl 2 rfl) ?_
              refine lv_iload hx hb dX6_readsItem_138 (lv_at hl 1 rfl) ?_
              refine lv_iload hx hb dX6_readsItem_140 (lv_at hl 0 rfl) ?_
              obtain ⟨r92, h93, hm⟩ := ob hm
              refine k_wVv S hK hw cal_X6_taskOf gX6_readsItem_X6_taskOf (c_X6_taskOf l D cC cI cJ a_md a_md_text a_md_told a_md_draft a_md_s a_md_past a_md_images a_md_seen a_md_asks a_md_brings a_md_uses a_md_days a_md_tries a_md_row a_md_first a_md_held md_typed md_known md_kept md_sights r79.2 md_many md_length md_set md_text md_told md_draft md_s md_past md_images md_seen md_asks md_brings md_uses md_days md_tries md_row md_first md_held r44.1 (-1 : Int32) r79.1 (-1 : Int32) (aw _) (hw.own [0, 1, 2, 3, 4, 5, 6, 7, 8, 9, 10, 11, 12, 13, 14, 15] (by decide) rfl) r92 h93) ⟨⟨rfl, rfl⟩, Nat.le_of_ble_eq_true rfl, Nat.le_of_ble_eq_true rfl⟩ [0, 1, 2, 3, 4, 5, 6, 7, 8, 9, 10, 11, 12, 13, 14, 15] rfl 0 rfl rfl rfl hl.1 rfl (Nat.le_of_ble_eq_true rfl) dX6_readsItem_142 ⟨Nat.zero_le _, Nat.zero_le _⟩ (fun H locs hJ hB => ?_)
              have hw := hJ _ hB rfl
              replace hw : Wd D A _ (wd_28 cC cI cJ a_md a_md_text md_typed a_md_told a_md_draft a_md_s a_md_past md_known a_md_images md_kept a_md_seen md_sights r79.2 a_md_asks a_md_brings a_md_uses a_md_days a_md_tries a_md_row md_many a_md_first md_length md_set a_md_held a_md_text md_text a_md_told md_told a_md_draft r92 a_md_s md_s a_md_past md_past a_md_images md_images a_md_seen md_seen a_md_asks md_asks a_md_brings md_brings a_md_uses md_uses a_md_days md_days a_md_tries md_tries a_md_row md_row a_md_first md_first a_md_held md_held) H locs := hw
              refine lv_iconst (v := 1) hx hb dX6_readsItem_145 (by decide) ?_
              obtain rfl := Option.some.inj hm
              exact e_WZ S hr hlk hw (Or.inr rfl) rfl hw.1 dX6_readsItem_146
            · replace hm := ipos hm c91
              refine lv_iconst (v := 0) hx hb dX6_readsItem_133 (by decide) ?_
              obtain rfl := Option.some.inj hm
              exact e_WZ S hr hlk hw (Or.inl rfl) rfl hw.1 dX6_readsItem_134
      · replace hm := ineg hm c78
        refine lv_iconst (v := (-1)) hx hb dX6_readsItem_83 (by decide) ?_
        refine lv_goto (tgt := 95) hx hb dX6_readsItem_84 (by decide) ?_
        refine lv_istore (lv' := [(4, .int (-1 : Int32)), (3, .int (-1 : Int32)), (2, .int r44.1), (0, .ref a_md), (1, .int p0)]) hx hb dX6_readsItem_95 hl (by decide) rfl (fun ls hl => ?_)
        refine lv_iload hx hb dX6_readsItem_97 (lv_at hl 0 rfl) ?_
        refine lv_if_ge (tgt := 106) hx hb dX6_readsItem_99 (by decide) (fun c94 => ?_) (fun c94 => ?_)
        · replace hm := ipos hm c94
          refine lv_aload_n hx hb dX6_readsItem_106 rfl (lv_at hl 3 rfl) ?_
          refine lv_iconst (v := 0) hx hb dX6_readsItem_107 (by decide) ?_
          refine lv_bipush (v := 7) hx hb dX6_readsItem_108 (by decide) ?_
          refine lv_bipush (v := 59) hx hb dX6_readsItem_110 (by decide) ?_
          obtain ⟨r95, h96, hm⟩ := ob hm
          refine k_wVi S hK hw cal_X6_number gX6_readsItem_X6_number (c_X6_number l D cC cI cJ a_md a_md_text a_md_told a_md_draft a_md_s a_md_past a_md_images a_md_seen a_md_asks a_md_brings a_md_uses a_md_days a_md_tries a_md_row a_md_first a_md_held md_typed md_known md_kept md_sights r44.2 md_many md_length md_set md_text md_told md_draft md_s md_past md_images md_seen md_asks md_brings md_uses md_days md_tries md_row md_first md_held (0 : Int32) (7 : Int32) (59 : Int32) (aw _) (hw.own [0, 1, 2, 3, 4, 5, 6, 7, 8, 9, 10, 11, 12, 13, 14, 15] (by decide) rfl) r95 h96) ⟨⟨rfl, rfl⟩, Nat.le_of_ble_eq_true rfl, Nat.le_of_ble_eq_true rfl⟩ [0, 1, 2, 3, 4, 5, 6, 7, 8, 9, 10, 11, 12, 13, 14, 15] rfl 0 rfl rfl rfl hl.1 rfl (Nat.le_of_ble_eq_true rfl) dX6_readsItem_112 ⟨Nat.zero_le _, Nat.zero_le _⟩ (fun H locs hJ hB => ?_)
          have hw := hJ _ hB rfl
          replace hw : Wd D A _ (wd_28 cC cI cJ a_md a_md_text md_typed a_md_told a_md_draft a_md_s a_md_past md_known a_md_images md_kept a_md_seen md_sights r95.2 a_md_asks a_md_brings a_md_uses a_md_days a_md_tries a_md_row md_many a_md_first md_length md_set a_md_held a_md_text md_text a_md_told md_told a_md_draft md_draft a_md_s md_s a_md_past md_past a_md_images md_images a_md_seen md_seen a_md_asks md_asks a_md_brings md_brings a_md_uses md_uses a_md_days md_days a_md_tries md_tries a_md_row md_row a_md_first md_first a_md_held md_held) H locs := hw
          refine lv_istore (lv' := [(5, .int r95.1), (4, .int (-1 : Int32)), (3, .int (-1 : Int32)), (2, .int r44.1), (0, .ref a_md), (1, .int p0)]) hx hb dX6_readsItem_115 hl (by decide) rfl (fun ls hl => ?_)
          refine lv_iload hx hb dX6_readsItem_117 (lv_at hl 0 rfl) ?_
          refine lv_if_lt (tgt := 133) hx hb dX6_readsItem_119 (by decide) (fun c97 => ?_) (fun c97 => ?_)
          · replace hm := ipos hm c97
            refine lv_iconst (v := 0) hx hb dX6_readsItem_133 (by decide) ?_
            obtain rfl := Option.some.inj hm
            exact e_WZ S hr hlk hw (Or.inl rfl) rfl hw.1 dX6_readsItem_134
          · replace hm := ineg hm c97
            refine lv_aload_n hx hb dX6_readsItem_122 rfl (lv_at hl 4 rfl) ?_
            refine f_get S hK hw.1 in_X6_readsItem_X6 0 rfl rfl 3 (by decide) (List.mem_of_getElem? (i := 1) rfl) rfl rfl dX6_readsItem_123 ?_
            refine lv_iconst (v := 0) hx hb dX6_readsItem_126 (by decide) ?_
            obtain ⟨g98, hm⟩ := gdo hm
            refine f_iald S hK hw.1 3 1 rfl rfl g98 dX6_readsItem_127 ?_
            refine lv_bipush (v := 8) hx hb dX6_readsItem_128 (by decide) ?_
            refine lv_icmp_ne (tgt := 135) hx hb dX6_readsItem_130 (by decide) (fun c99 => ?_) (fun c99 => ?_)
            · replace hm := ineg hm c99
              refine lv_aload_n hx hb dX6_readsItem_135 rfl (lv_at hl 4 rfl) ?_
              refine lv_iload_n hx hb dX6_readsItem_136 rfl (lv_at hl 3 rfl) ?_
              refine lv_iload_n hx hb dX6_readsItem_137 rfl (lv_at hl 2 rfl) ?_
              refine lv_iload hx hb dX6_readsItem_138 (lv_at hl 1 rfl) ?_
              refine lv_iload hx hb dX6_readsItem_140 (lv_at hl 0 rfl) ?_
              obtain ⟨r100, h101, hm⟩ := ob hm
              refine k_wVv S hK hw cal_X6_taskOf gX6_readsItem_X6_taskOf (c_X6_taskOf l D cC cI cJ a_md a_md_text a_md_told a_md_draft a_md_s a_md_past a_md_images a_md_seen a_md_asks a_md_brings a_md_uses a_md_days a_md_tries a_md_row a_md_first a_md_held md_typed md_known md_kept md_sights r95.2 md_many md_length md_set md_text md_told md_draft md_s md_past md_images md_seen md_asks md_brings md_uses md_days md_tries md_row md_first md_held r44.1 (-1 : Int32) (-1 : Int32) r95.1 (aw _) (hw.own [0, 1, 2, 3, 4, 5, 6, 7, 8, 9, 10, 11, 12, 13, 14, 15] (by decide) rfl) r100 h101) ⟨⟨rfl, rfl⟩, Nat.le_of_ble_eq_true rfl, Nat.le_of_ble_eq_true rfl⟩ [0, 1, 2, 3, 4, 5, 6, 7, 8, 9, 10, 11, 12, 13, 14, 15] rfl 0 rfl rfl rfl hl.1 rfl (Nat.le_of_ble_eq_true rfl) dX6_readsItem_142 ⟨Nat.zero_le _, Nat.zero_le _⟩ (fun H locs hJ hB => ?_)
              have hw := hJ _ hB rfl
              replace hw : Wd D A _ (wd_28 cC cI cJ a_md a_md_text md_typed a_md_told a_md_draft a_md_s a_md_past md_known a_md_images md_kept a_md_seen md_sights r95.2 a_md_asks a_md_brings a_md_uses a_md_days a_md_tries a_md_row md_many a_md_first md_length md_set a_md_held a_md_text md_text a_md_told md_told a_md_draft r100 a_md_s md_s a_md_past md_past a_md_images md_images a_md_seen md_seen a_md_asks md_asks a_md_brings md_brings a_md_uses md_uses a_md_days md_days a_md_tries md_tries a_md_row md_row a_md_first md_first a_md_held md_held) H locs := hw
              refine lv_iconst (v := 1) hx hb dX6_readsItem_145 (by decide) ?_
              obtain rfl := Option.some.inj hm
              exact e_WZ S hr hlk hw (Or.inr rfl) rfl hw.1 dX6_readsItem_146
            · replace hm := ipos hm c99
              refine lv_iconst (v := 0) hx hb dX6_readsItem_133 (by decide) ?_
              obtain rfl := Option.some.inj hm
              exact e_WZ S hr hlk hw (Or.inl rfl) rfl hw.1 dX6_readsItem_134
        · replace hm := ineg hm c94
          refine lv_iconst (v := (-1)) hx hb dX6_readsItem_102 (by decide) ?_
          refine lv_goto (tgt := 115) hx hb dX6_readsItem_103 (by decide) ?_
          refine lv_istore (lv' := [(5, .int (-1 : Int32)), (4, .int (-1 : Int32)), (3, .int (-1 : Int32)), (2, .int r44.1), (0, .ref a_md), (1, .int p0)]) hx hb dX6_readsItem_115 hl (by decide) rfl (fun ls hl => ?_)
          refine lv_iload hx hb dX6_readsItem_117 (lv_at hl 0 rfl) ?_
          refine lv_if_lt (tgt := 133) hx hb dX6_readsItem_119 (by decide) (fun c102 => ?_) (fun c102 => ?_)
          · replace hm := ipos hm c102
            refine lv_iconst (v := 0) hx hb dX6_readsItem_133 (by decide) ?_
            obtain rfl := Option.some.inj hm
            exact e_WZ S hr hlk hw (Or.inl rfl) rfl hw.1 dX6_readsItem_134
          · replace hm := ineg hm c102
            refine lv_aload_n hx hb dX6_readsItem_122 rfl (lv_at hl 4 rfl) ?_
            refine f_get S hK hw.1 in_X6_readsItem_X6 0 rfl rfl 3 (by decide) (List.mem_of_getElem? (i := 1) rfl) rfl rfl dX6_readsItem_123 ?_
            refine lv_iconst (v := 0) hx hb dX6_readsItem_126 (by decide) ?_
            obtain ⟨g103, hm⟩ := gdo hm
            refine f_iald S hK hw.1 3 1 rfl rfl g103 dX6_readsItem_127 ?_
            refine lv_bipush (v := 8) hx hb dX6_readsItem_128 (by decide) ?_
            refine lv_icmp_ne (tgt := 135) hx hb dX6_readsItem_130 (by decide) (fun c104 => ?_) (fun c104 => ?_)
            · replace hm := ineg hm c104
              refine lv_aload_n hx hb dX6_readsItem_135 rfl (lv_at hl 4 rfl) ?_
              refine lv_iload_n hx hb dX6_readsItem_136 rfl (lv_at hl 3 rfl) ?_
              refine lv_iload_n hx hb dX6_readsItem_137 rfl (lv_at hl 2 rfl) ?_
              refine lv_iload hx hb dX6_readsItem_138 (lv_at hl 1 rfl) ?_
              refine lv_iload hx hb dX6_readsItem_140 (lv_at hl 0 rfl) ?_
              obtain ⟨r105, h106, hm⟩ := ob hm
              refine k_wVv S hK hw cal_X6_taskOf gX6_readsItem_X6_taskOf (c_X6_taskOf l D cC cI cJ a_md a_md_text a_md_told a_md_draft a_md_s a_md_past a_md_images a_md_seen a_md_asks a_md_brings a_md_uses a_md_days a_md_tries a_md_row a_md_first a_md_held md_typed md_known md_kept md_sights r44.2 md_many md_length md_set md_text md_told md_draft md_s md_past md_images md_seen md_asks md_brings md_uses md_days md_tries md_row md_first md_held r44.1 (-1 : Int32) (-1 : Int32) (-1 : Int32) (aw _) (hw.own [0, 1, 2, 3, 4, 5, 6, 7, 8, 9, 10, 11, 12, 13, 14, 15] (by decide) rfl) r105 h106) ⟨⟨rfl, rfl⟩, Nat.le_of_ble_eq_true rfl, Nat.le_of_ble_eq_true rfl⟩ [0, 1, 2, 3, 4, 5, 6, 7, 8, 9, 10, 11, 12, 13, 14, 15] rfl 0 rfl rfl rfl hl.1 rfl (Nat.le_of_ble_eq_true rfl) dX6_readsItem_142 ⟨Nat.zero_le _, Nat.zero_le _⟩ (fun H locs hJ hB => ?_)
              have hw := hJ _ hB rfl
              replace hw : Wd D A _ (wd_28 cC cI cJ a_md a_md_text md_typed a_md_told a_md_draft a_md_s a_md_past md_known a_md_images md_kept a_md_seen md_sights r44.2 a_md_asks a_md_brings a_md_uses a_md_days a_md_tries a_md_row md_many a_md_first md_length md_set a_md_held a_md_text md_text a_md_told md_told a_md_draft r105 a_md_s md_s a_md_past md_past a_md_images md_images a_md_seen md_seen a_md_asks md_asks a_md_brings md_brings a_md_uses md_uses a_md_days md_days a_md_tries md_tries a_md_row md_row a_md_first md_first a_md_held md_held) H locs := hw
              refine lv_iconst (v := 1) hx hb dX6_readsItem_145 (by decide) ?_
              obtain rfl := Option.some.inj hm
              exact e_WZ S hr hlk hw (Or.inr rfl) rfl hw.1 dX6_readsItem_146
            · replace hm := ipos hm c104
              refine lv_iconst (v := 0) hx hb dX6_readsItem_133 (by decide) ?_
              obtain rfl := Option.some.inj hm
              exact e_WZ S hr hlk hw (Or.inl rfl) rfl hw.1 dX6_readsItem_134
  replace hm := ineg hm c43
  have nc1 := toInt_ne c1 (n := 97) (by decide)
  have nc15 := toInt_ne c15 (n := 99) (by decide)
  have nc21 := toInt_ne c21 (n := 104) (by decide)
  have nc37 := toInt_ne c37 (n := 108) (by decide)
  have nc43 := toInt_ne c43 (n := 116) (by decide)
  refine f_look S dX6_readsItem_1 rfl (off := 304) (by simp only [Op.lookupswitch.offset, if_neg nc1, if_neg nc15, if_neg nc21, if_neg nc37, if_neg nc43, if_false]) (tgt := 305) (by decide) ?_
  refine lv_iconst (v := 0) hx hb dX6_readsItem_305 (by decide) ?_
  obtain rfl := Option.some.inj hm
  exact e_WZ S hr hlk hw (Or.inl rfl) rfl hw.1 dX6_readsItem_306

abbrev rX6_readsAll : Room := { frames := 4, cells := 0, slots := 0, locals := 92 }
theorem cal_X6_readsAll : Cal yX6_readsAll wsX6_readsAll cX6_readsAll 2 (some .int) RX6 0 := ⟨⟨_, rfl⟩, rfl, by decide +kernel, by decide +kernel, by decide +kernel⟩
theorem in_X6_readsAll_X6 : ∀ w ∈ wsX60, w ∈ wsX6_readsAll := fun _ h => (List.mem_cons_of_mem _ (List.mem_append_right _ h))
set_option maxHeartbeats 4000000 in
set_option maxRecDepth 100000 in
theorem t_X6_readsAll_9 {p : Program} {e : Env} {s : State} {m : MethodId} {args : Array Value} {below : List Frame} {meth : Method} {c : Code} {Q : State → Prop} (l : Launch) {D : va_G} {cC cI cJ : ClassId} {A : Nat → Prop} {H0 : Heap} (S : CallFix p m c cX6_readsAll 2 s args wsX6_readsAll RX6) (hK : KK D (tyK cC cI cJ) s) (a_md : Nat) (a_md_text : Nat) (a_md_told : Nat) (a_md_draft : Nat) (a_md_s : Nat) (a_md_past : Nat) (a_md_images : Nat) (a_md_seen : Nat) (a_md_asks : Nat) (a_md_brings : Nat) (a_md_uses : Nat) (a_md_days : Nat) (a_md_tries : Nat) (a_md_row : Nat) (a_md_first : Nat) (a_md_held : Nat) (md_typed : Int32) (md_known : Int32) (md_kept : Int32) (md_sights : Int32) (md_many : Int32) (md_length : Int32) (md_set : Int32) (md_text : (Nat → Int32)) (md_told : (Nat → Int32)) (md_s : (Nat → Int32)) (md_past : (Nat → Int32)) (md_images : (Nat → Int32)) (md_seen : (Nat → Int32)) (md_asks : (Nat → Int32)) (md_brings : (Nat → Int32)) (md_uses : (Nat → Int32)) (md_days : (Nat → Int32)) (md_tries : (Nat → Int32)) (md_row : (Nat → Int32)) (md_first : (Nat → Int32)) (md_held : (Nat → Int32)) : ∀ (n : Nat) (md_at : Int32) (md_draft : (Nat → Int32)) (out : ((Int32 × (Nat → Int32)) ⊕ (Int32 × Int32 × (Nat → Int32)))), lp_X6_readsAll_9 md_typed md_text n md_at md_draft = some out → ∀ (H : Heap) (locs : List Loc) (ls : Array Slot), Wd D A H0 (wd_28 cC cI cJ a_md a_md_text md_typed a_md_told a_md_draft a_md_s a_md_past md_known a_md_images md_kept a_md_seen md_sights md_at a_md_asks a_md_brings a_md_uses a_md_days a_md_tries a_md_row md_many a_md_first md_length md_set a_md_held a_md_text md_text a_md_told md_told a_md_draft md_draft a_md_s md_s a_md_past md_past a_md_images md_images a_md_seen md_seen a_md_asks md_asks a_md_brings md_brings a_md_uses md_uses a_md_days md_days a_md_tries md_tries a_md_row md_row a_md_first md_first a_md_held md_held) H locs → lv_has ls 2 [(0, .ref a_md)] → (∀ (u : (Int32 × (Nat → Int32))), out = (Sum.inl u) → ∀ (H : Heap) (locs : List Loc) (ls : Array Slot), Wd D A H0 (wd_28 cC cI cJ a_md a_md_text md_typed a_md_told a_md_draft a_md_s a_md_past md_known a_md_images md_kept a_md_seen md_sights u.1 a_md_asks a_md_brings a_md_uses a_md_days a_md_tries a_md_row md_many a_md_first md_length md_set a_md_held a_md_text md_text a_md_told md_told a_md_draft u.2 a_md_s md_s a_md_past md_past a_md_images md_images a_md_seen md_seen a_md_asks md_asks a_md_brings md_brings a_md_uses md_uses a_md_days md_days a_md_tries md_tries a_md_row md_row a_md_first md_first a_md_held md_held) H locs → lv_has ls 2 [] → W p l e rX6_readsAll s m args below meth c H locs 0 0 Q (F0 m 53 ls [])) → (∀ (u : (Int32 × Int32 × (Nat → Int32))), out = (Sum.inr u) → ∀ (H : Heap) (locs : List Loc) (ls : Array Slot), Wd D A H0 (wd_28 cC cI cJ a_md a_md_text md_typed a_md_told a_md_draft a_md_s a_md_past md_known a_md_images md_kept a_md_seen md_sights u.2.1 a_md_asks a_md_brings a_md_uses a_md_days a_md_tries a_md_row md_many a_md_first md_length md_set a_md_held a_md_text md_text a_md_told md_told a_md_draft u.2.2 a_md_s md_s a_md_past md_past a_md_images md_images a_md_seen md_seen a_md_asks md_asks a_md_brings md_brings a_md_uses md_uses a_md_days md_days a_md_tries md_tries a_md_row md_row a_md_first md_first a_md_held md_held) H locs → lv_has ls 2 [(1, .int u.1)] → W p l e rX6_readsAll s m args below meth c H locs 0 0 Q (F0 m 48 ls [])) → W p l e rX6_readsAll s m args below meth c H locs 0 0 Q (F0 m 9 ls []) := by
  have hx := S.1
  have hb := S.2.1
  intro n
  induction n with
  | zero => intro md_at md_draft out hm; cases (show (none : Option ((Int32 × (Nat → Int32)) ⊕ (Int32 × Int32 × (Nat → Int32)))) = some out from hm)
  | succ n ih =>
    intro md_at md_draft out hm  H locs ls hw hl K0 K1
    rw [lp_X6_readsAll_9] at hm
    refine lv_aload_n hx hb dX6_readsAll_9 rfl (lv_at hl 0 rfl) ?_
    refine f_get S hK hw.1 in_X6_readsAll_X6 0 rfl rfl 11 (by decide) (List.mem_of_getElem? (i := 1) rfl) rfl rfl dX6_readsAll_10 ?_
    refine lv_aload_n hx hb dX6_readsAll_13 rfl (lv_at hl 0 rfl) ?_
    refine f_get S hK hw.1 in_X6_readsAll_X6 0 rfl rfl 1 (by decide) (List.mem_of_getElem? (i := 2) rfl) rfl rfl dX6_readsAll_14 ?_
    refine lv_icmp_ge (tgt := 53) hx hb dX6_readsAll_17 (by decide) (fun c3 => ?_) (fun c3 => ?_)
    · replace hm := ipos hm c3
      obtain rfl := Option.some.inj hm
      exact K0 _ rfl  _ _ ls hw (lv_sub hl [] rfl)
    · replace hm := ineg hm c3
      refine lv_aload_n hx hb dX6_readsAll_20 rfl (lv_at hl 0 rfl) ?_
      refine f_get S hK hw.1 in_X6_readsAll_X6 0 rfl rfl 11 (by decide) (List.mem_of_getElem? (i := 1) rfl) rfl rfl dX6_readsAll_21 ?_
      refine lv_istore_n (lv' := [(1, .int md_at), (0, .ref a_md)]) hx hb dX6_readsAll_24 rfl hl (by decide) rfl (fun ls hl => ?_)
      refine lv_aload_n hx hb dX6_readsAll_25 rfl (lv_at hl 1 rfl) ?_
      refine lv_dup hx hb dX6_readsAll_26 rfl ?_
      refine f_get S hK hw.1 in_X6_readsAll_X6 0 rfl rfl 11 (by decide) (List.mem_of_getElem? (i := 1) rfl) rfl rfl dX6_readsAll_27 ?_
      refine lv_iconst (v := 1) hx hb dX6_readsAll_30 (by decide) ?_
      refine lv_iadd hx hb dX6_readsAll_31 ?_
      refine f_put S hK hw in_X6_readsAll_X6 tyX6_ok nmX6 0 rfl rfl 11 (by decide) (List.mem_of_getElem? (i := 1) rfl) rfl rfl rfl rfl (Nat.le_of_ble_eq_true rfl) (ws1 := (wd_28 cC cI cJ a_md a_md_text md_typed a_md_told a_md_draft a_md_s a_md_past md_known a_md_images md_kept a_md_seen md_sights (md_at + (1 : Int32)) a_md_asks a_md_brings a_md_uses a_md_days a_md_tries a_md_row md_many a_md_first md_length md_set a_md_held a_md_text md_text a_md_told md_told a_md_draft md_draft a_md_s md_s a_md_past md_past a_md_images md_images a_md_seen md_seen a_md_asks md_asks a_md_brings md_brings a_md_uses md_uses a_md_days md_days a_md_tries md_tries a_md_row md_row a_md_first md_first a_md_held md_held)) rfl dX6_readsAll_32 (fun H locs hw => ?_)
      refine lv_aload_n hx hb dX6_readsAll_35 rfl (lv_at hl 1 rfl) ?_
      refine lv_aload_n hx hb dX6_readsAll_36 rfl (lv_at hl 1 rfl) ?_
      refine f_get S hK hw.1 in_X6_readsAll_X6 0 rfl rfl 0 (by decide) (List.mem_of_getElem? (i := 3) rfl) rfl rfl dX6_readsAll_37 ?_
      refine lv_iload_n hx hb dX6_readsAll_40 rfl (lv_at hl 0 rfl) ?_
      obtain ⟨g4, hm⟩ := gdo hm
      refine f_iald S hK hw.1 1 1 rfl rfl g4 dX6_readsAll_41 ?_
      obtain ⟨r5, h6, hm⟩ := ob hm
      refine k_wVi S hK hw cal_X6_readsItem gX6_readsAll_X6_readsItem (c_X6_readsItem l D cC cI cJ a_md a_md_text a_md_told a_md_draft a_md_s a_md_past a_md_images a_md_seen a_md_asks a_md_brings a_md_uses a_md_days a_md_tries a_md_row a_md_first a_md_held md_typed md_known md_kept md_sights (md_at + (1 : Int32)) md_many md_length md_set md_text md_told md_draft md_s md_past md_images md_seen md_asks md_brings md_uses md_days md_tries md_row md_first md_held (md_text (md_at).toNatClampNeg) (aw _) (hw.own [0, 1, 2, 3, 4, 5, 6, 7, 8, 9, 10, 11, 12, 13, 14, 15] (by decide) rfl) r5 h6) ⟨⟨rfl, rfl⟩, Nat.le_of_ble_eq_true rfl, Nat.le_of_ble_eq_true rfl⟩ [0, 1, 2, 3, 4, 5, 6, 7, 8, 9, 10, 11, 12, 13, 14, 15] rfl 0 rfl rfl rfl hl.1 rfl (Nat.le_of_ble_eq_true rfl) dX6_readsAll_42 ⟨Nat.zero_le _, Nat.zero_le _⟩ (fun H locs hJ hB => ?_)
      have hw := hJ _ hB rfl
      replace hw : Wd D A _ (wd_28 cC cI cJ a_md a_md_text md_typed a_md_told a_md_draft a_md_s a_md_past md_known a_md_images md_kept a_md_seen md_sights r5.2.1 a_md_asks a_md_brings a_md_uses a_md_days a_md_tries a_md_row md_many a_md_first md_length md_set a_md_held a_md_text md_text a_md_told md_told a_md_draft r5.2.2 a_md_s md_s a_md_past md_past a_md_images md_images a_md_seen md_seen a_md_asks md_asks a_md_brings md_brings a_md_uses md_uses a_md_days md_days a_md_tries md_tries a_md_row md_row a_md_first md_first a_md_held md_held) H locs := hw
      refine lv_if_ne (tgt := 50) hx hb dX6_readsAll_45 (by decide) (fun c7 => ?_) (fun c7 => ?_)
      · replace hm := ineg hm c7
        refine lv_goto (tgt := 9) hx hb dX6_readsAll_50 (by decide) ?_
        exact ih r5.2.1 r5.2.2 _ hm  _ _ ls hw (lv_sub hl [1] rfl) K0 K1
      · replace hm := ipos hm c7
        obtain rfl := Option.some.inj hm
        exact K1 _ rfl  _ _ ls hw (lv_sub hl [0] rfl)
set_option maxHeartbeats 4000000 in
set_option maxRecDepth 100000 in
theorem c_X6_readsAll (l : Launch) (D : va_G) (cC cI cJ : ClassId) (a_md : Nat) (a_md_text : Nat) (a_md_told : Nat) (a_md_draft : Nat) (a_md_s : Nat) (a_md_past : Nat) (a_md_images : Nat) (a_md_seen : Nat) (a_md_asks : Nat) (a_md_brings : Nat) (a_md_uses : Nat) (a_md_days : Nat) (a_md_tries : Nat) (a_md_row : Nat) (a_md_first : Nat) (a_md_held : Nat) (md_typed : Int32) (md_known : Int32) (md_kept : Int32) (md_sights : Int32) (md_at : Int32) (md_many : Int32) (md_length : Int32) (md_set : Int32) (md_text : (Nat → Int32)) (md_told : (Nat → Int32)) (md_draft : (Nat → Int32)) (md_s : (Nat → Int32)) (md_past : (Nat → Int32)) (md_images : (Nat → Int32)) (md_seen : (Nat → Int32)) (md_asks : (Nat → Int32)) (md_brings : (Nat → Int32)) (md_uses : (Nat → Int32)) (md_days : (Nat → Int32)) (md_tries : (Nat → Int32)) (md_row : (Nat → Int32)) (md_first : (Nat → Int32)) (md_held : (Nat → Int32)) (N : Nat) (A : Nat → Prop) (hD : va_D A (wd_28 cC cI cJ a_md a_md_text md_typed a_md_told a_md_draft a_md_s a_md_past md_known a_md_images md_kept a_md_seen md_sights md_at a_md_asks a_md_brings a_md_uses a_md_days a_md_tries a_md_row md_many a_md_first md_length md_set a_md_held a_md_text md_text a_md_told md_told a_md_draft md_draft a_md_s md_s a_md_past md_past a_md_images md_images a_md_seen md_seen a_md_asks md_asks a_md_brings md_brings a_md_uses md_uses a_md_days md_days a_md_tries md_tries a_md_row md_row a_md_first md_first a_md_held md_held)) (out : (Int32 × Int32 × (Nat → Int32))) (hm : m_X6_readsAll N md_typed md_text md_draft = some out) : WrI l yX6_readsAll wsX6_readsAll rX6_readsAll D (tyK cC cI cJ) [.ref a_md] A (wd_28 cC cI cJ a_md a_md_text md_typed a_md_told a_md_draft a_md_s a_md_past md_known a_md_images md_kept a_md_seen md_sights md_at a_md_asks a_md_brings a_md_uses a_md_days a_md_tries a_md_row md_many a_md_first md_length md_set a_md_held a_md_text md_text a_md_told md_told a_md_draft md_draft a_md_s md_s a_md_past md_past a_md_images md_images a_md_seen md_seen a_md_asks md_asks a_md_brings md_brings a_md_uses md_uses a_md_days md_days a_md_tries md_tries a_md_row md_row a_md_first md_first a_md_held md_held) (Bw0 D (wd_28 cC cI cJ a_md a_md_text md_typed a_md_told a_md_draft a_md_s a_md_past md_known a_md_images md_kept a_md_seen md_sights out.2.1 a_md_asks a_md_brings a_md_uses a_md_days a_md_tries a_md_row md_many a_md_first md_length md_set a_md_held a_md_text md_text a_md_told md_told a_md_draft out.2.2 a_md_s md_s a_md_past md_past a_md_images md_images a_md_seen md_seen a_md_asks md_asks a_md_brings md_brings a_md_uses md_uses a_md_days md_days a_md_tries md_tries a_md_row md_row a_md_first md_first a_md_held md_held)) out.1 := by
  unfold m_X6_readsAll at hm
  refine enter (cc := cX6_readsAll) (maxL := 2) (ret := (some .int)) (lv := [(0, .ref a_md)]) (by decide) rfl (Nat.le_of_ble_eq_true rfl) rfl ?_
  intro p e s m args below meth c S hr hlk hK hP ls hl
  replace S : CallFix p m c cX6_readsAll 2 s args wsX6_readsAll RX6 := S
  have hx := S.1
  have hb := S.2.1
  have hw : Wd D A s.heap (wd_28 cC cI cJ a_md a_md_text md_typed a_md_told a_md_draft a_md_s a_md_past md_known a_md_images md_kept a_md_seen md_sights md_at a_md_asks a_md_brings a_md_uses a_md_days a_md_tries a_md_row md_many a_md_first md_length md_set a_md_held a_md_text md_text a_md_told md_told a_md_draft md_draft a_md_s md_s a_md_past md_past a_md_images md_images a_md_seen md_seen a_md_asks md_asks a_md_brings md_brings a_md_uses md_uses a_md_days md_days a_md_tries md_tries a_md_row md_row a_md_first md_first a_md_held md_held) s.heap [] := ⟨hP, hD, va_S.rf⟩
  have hw0 := hw
  refine lv_aload_n hx hb dX6_readsAll_0 rfl (lv_at hl 0 rfl) ?_
  obtain ⟨r1, h2, hm⟩ := ob hm
  refine k_wVv S hK hw cal_X6_begins gX6_readsAll_X6_begins (c_X6_begins l D cC cI cJ a_md a_md_text a_md_told a_md_draft a_md_s a_md_past a_md_images a_md_seen a_md_asks a_md_brings a_md_uses a_md_days a_md_tries a_md_row a_md_first a_md_held md_typed md_known md_kept md_sights md_at md_many md_length md_set md_text md_told md_draft md_s md_past md_images md_seen md_asks md_brings md_uses md_days md_tries md_row md_first md_held N (aw _) (hw.own [0, 1, 2, 3, 4, 5, 6, 7, 8, 9, 10, 11, 12, 13, 14, 15] (by decide) rfl) r1 h2) ⟨⟨rfl, rfl⟩, Nat.le_of_ble_eq_true rfl, Nat.le_of_ble_eq_true rfl⟩ [0, 1, 2, 3, 4, 5, 6, 7, 8, 9, 10, 11, 12, 13, 14, 15] rfl 0 rfl rfl rfl hl.1 rfl (Nat.le_of_ble_eq_true rfl) dX6_readsAll_1 ⟨Nat.zero_le _, Nat.zero_le _⟩ (fun H locs hJ hB => ?_)
  have hw := hJ _ hB rfl
  replace hw : Wd D A _ (wd_28 cC cI cJ a_md a_md_text md_typed a_md_told a_md_draft a_md_s a_md_past md_known a_md_images md_kept a_md_seen md_sights md_at a_md_asks a_md_brings a_md_uses a_md_days a_md_tries a_md_row md_many a_md_first md_length md_set a_md_held a_md_text md_text a_md_told md_told a_md_draft r1 a_md_s md_s a_md_past md_past a_md_images md_images a_md_seen md_seen a_md_asks md_asks a_md_brings md_brings a_md_uses md_uses a_md_days md_days a_md_tries md_tries a_md_row md_row a_md_first md_first a_md_held md_held) H locs := hw
  refine lv_aload_n hx hb dX6_readsAll_4 rfl (lv_at hl 0 rfl) ?_
  refine lv_iconst (v := 0) hx hb dX6_readsAll_5 (by decide) ?_
  refine f_put S hK hw in_X6_readsAll_X6 tyX6_ok nmX6 0 rfl rfl 11 (by decide) (List.mem_of_getElem? (i := 1) rfl) rfl rfl rfl rfl (Nat.le_of_ble_eq_true rfl) (ws1 := (wd_28 cC cI cJ a_md a_md_text md_typed a_md_told a_md_draft a_md_s a_md_past md_known a_md_images md_kept a_md_seen md_sights (0 : Int32) a_md_asks a_md_brings a_md_uses a_md_days a_md_tries a_md_row md_many a_md_first md_length md_set a_md_held a_md_text md_text a_md_told md_told a_md_draft r1 a_md_s md_s a_md_past md_past a_md_images md_images a_md_seen md_seen a_md_asks md_asks a_md_brings md_brings a_md_uses md_uses a_md_days md_days a_md_tries md_tries a_md_row md_row a_md_first md_first a_md_held md_held)) rfl dX6_readsAll_6 (fun H locs hw => ?_)
  obtain ⟨r8, h9, hm⟩ := ob hm
  refine t_X6_readsAll_9 l S hK a_md a_md_text a_md_told a_md_draft a_md_s a_md_past a_md_images a_md_seen a_md_asks a_md_brings a_md_uses a_md_days a_md_tries a_md_row a_md_first a_md_held md_typed md_known md_kept md_sights md_many md_length md_set md_text md_told md_s md_past md_images md_seen md_asks md_brings md_uses md_days md_tries md_row md_first md_held N (0 : Int32) r1 r8 h9  _ _ ls hw (lv_sub hl [0] rfl) (fun u10 hu H locs ls hw hl => ?_) (fun u11 hu H locs ls hw hl => ?_)
  · subst hu
    replace hm := seL hm
    refine lv_bipush (v := (-4)) hx hb dX6_readsAll_53 (by decide) ?_
    obtain rfl := Option.some.inj hm
    exact e_WI S hr hlk hw rfl hw.1 dX6_readsAll_55
  · subst hu
    replace hm := seR hm
    refine lv_iload_n hx hb dX6_readsAll_48 rfl (lv_at hl 0 rfl) ?_
    obtain rfl := Option.some.inj hm
    exact e_WI S hr hlk hw rfl hw.1 dX6_readsAll_49

abbrev rX6_fault : Room := { frames := 5, cells := 0, slots := 0, locals := 113 }
theorem cal_X6_fault : Cal yX6_fault wsX6_fault cX6_fault 1 (some .int) RX6 0 := ⟨⟨_, rfl⟩, rfl, by decide +kernel, by decide +kernel, by decide +kernel⟩
set_option maxHeartbeats 4000000 in
set_option maxRecDepth 100000 in
theorem c_X6_fault (l : Launch) (D : va_G) (cC cI cJ : ClassId) (a_md : Nat) (a_md_text : Nat) (a_md_told : Nat) (a_md_draft : Nat) (a_md_s : Nat) (a_md_past : Nat) (a_md_images : Nat) (a_md_seen : Nat) (a_md_asks : Nat) (a_md_brings : Nat) (a_md_uses : Nat) (a_md_days : Nat) (a_md_tries : Nat) (a_md_row : Nat) (a_md_first : Nat) (a_md_held : Nat) (md_typed : Int32) (md_known : Int32) (md_kept : Int32) (md_sights : Int32) (md_at : Int32) (md_many : Int32) (md_length : Int32) (md_set : Int32) (md_text : (Nat → Int32)) (md_told : (Nat → Int32)) (md_draft : (Nat → Int32)) (md_s : (Nat → Int32)) (md_past : (Nat → Int32)) (md_images : (Nat → Int32)) (md_seen : (Nat → Int32)) (md_asks : (Nat → Int32)) (md_brings : (Nat → Int32)) (md_uses : (Nat → Int32)) (md_days : (Nat → Int32)) (md_tries : (Nat → Int32)) (md_row : (Nat → Int32)) (md_first : (Nat → Int32)) (md_held : (Nat → Int32)) (N : Nat) (A : Nat → Prop) (hD : va_D A (wd_28 cC cI cJ a_md a_md_text md_typed a_md_told a_md_draft a_md_s a_md_past md_known a_md_images md_kept a_md_seen md_sights md_at a_md_asks a_md_brings a_md_uses a_md_days a_md_tries a_md_row md_many a_md_first md_length md_set a_md_held a_md_text md_text a_md_told md_told a_md_draft md_draft a_md_s md_s a_md_past md_past a_md_images md_images a_md_seen md_seen a_md_asks md_asks a_md_brings md_brings a_md_uses md_uses a_md_days md_days a_md_tries md_tries a_md_row md_row a_md_first md_first a_md_held md_held)) (out : (Int32 × Int32 × (Nat → Int32))) (hm : m_X6_fault N md_typed md_text md_draft = some out) : WrI l yX6_fault wsX6_fault rX6_fault D (tyK cC cI cJ) [.ref a_md] A (wd_28 cC cI cJ a_md a_md_text md_typed a_md_told a_md_draft a_md_s a_md_past md_known a_md_images md_kept a_md_seen md_sights md_at a_md_asks a_md_brings a_md_uses a_md_days a_md_tries a_md_row md_many a_md_first md_length md_set a_md_held a_md_text md_text a_md_told md_told a_md_draft md_draft a_md_s md_s a_md_past md_past a_md_images md_images a_md_seen md_seen a_md_asks md_asks a_md_brings md_brings a_md_uses md_uses a_md_days md_days a_md_tries md_tries a_md_row md_row a_md_first md_first a_md_held md_held) (Bw0 D (wd_28 cC cI cJ a_md a_md_text md_typed a_md_told a_md_draft a_md_s a_md_past md_known a_md_images md_kept a_md_seen md_sights out.2.1 a_md_asks a_md_brings a_md_uses a_md_days a_md_tries a_md_row md_many a_md_first md_length md_set a_md_held a_md_text md_text a_md_told md_told a_md_draft out.2.2 a_md_s md_s a_md_past md_past a_md_images md_images a_md_seen md_seen a_md_asks md_asks a_md_brings md_brings a_md_uses md_uses a_md_days md_days a_md_tries md_tries a_md_row md_row a_md_first md_first a_md_held md_held)) out.1 := by
  unfold m_X6_fault at hm
  refine enter (cc := cX6_fault) (maxL := 1) (ret := (some .int)) (lv := [(0, .ref a_md)]) (by decide) rfl (Nat.le_of_ble_eq_true rfl) rfl ?_
  intro p e s m args below meth c S hr hlk hK hP ls hl
  replace S : CallFix p m c cX6_fault 1 s args wsX6_fault RX6 := S
  have hx := S.1
  have hb := S.2.1
  have hw : Wd D A s.heap (wd_28 cC cI cJ a_md a_md_text md_typed a_md_told a_md_draft a_md_s a_md_past md_known a_md_images md_kept a_md_seen md_sights md_at a_md_asks a_md_brings a_md_uses a_md_days a_md_tries a_md_row md_many a_md_first md_length md_set a_md_held a_md_text md_text a_md_told md_told a_md_draft md_draft a_md_s md_s a_md_past md_past a_md_images md_images a_md_seen md_seen a_md_asks md_asks a_md_brings md_brings a_md_uses md_uses a_md_days md_days a_md_tries md_tries a_md_row md_row a_md_first md_first a_md_held md_held) s.heap [] := ⟨hP, hD, va_S.rf⟩
  have hw0 := hw
  refine lv_aload_n hx hb dX6_fault_0 rfl (lv_at hl 0 rfl) ?_
  obtain ⟨r1, h2, hm⟩ := ob hm
  refine k_wVi S hK hw cal_X6_readsAll gX6_fault_X6_readsAll (c_X6_readsAll l D cC cI cJ a_md a_md_text a_md_told a_md_draft a_md_s a_md_past a_md_images a_md_seen a_md_asks a_md_brings a_md_uses a_md_days a_md_tries a_md_row a_md_first a_md_held md_typed md_known md_kept md_sights md_at md_many md_length md_set md_text md_told md_draft md_s md_past md_images md_seen md_asks md_brings md_uses md_days md_tries md_row md_first md_held N (aw _) (hw.own [0, 1, 2, 3, 4, 5, 6, 7, 8, 9, 10, 11, 12, 13, 14, 15] (by decide) rfl) r1 h2) ⟨⟨rfl, rfl⟩, Nat.le_of_ble_eq_true rfl, Nat.le_of_ble_eq_true rfl⟩ [0, 1, 2, 3, 4, 5, 6, 7, 8, 9, 10, 11, 12, 13, 14, 15] rfl 0 rfl rfl rfl hl.1 rfl (Nat.le_of_ble_eq_true rfl) dX6_fault_1 ⟨Nat.zero_le _, Nat.zero_le _⟩ (fun H locs hJ hB => ?_)
  have hw := hJ _ hB rfl
  replace hw : Wd D A _ (wd_28 cC cI cJ a_md a_md_text md_typed a_md_told a_md_draft a_md_s a_md_past md_known a_md_images md_kept a_md_seen md_sights r1.2.1 a_md_asks a_md_brings a_md_uses a_md_days a_md_tries a_md_row md_many a_md_first md_length md_set a_md_held a_md_text md_text a_md_told md_told a_md_draft r1.2.2 a_md_s md_s a_md_past md_past a_md_images md_images a_md_seen md_seen a_md_asks md_asks a_md_brings md_brings a_md_uses md_uses a_md_days md_days a_md_tries md_tries a_md_row md_row a_md_first md_first a_md_held md_held) H locs := hw
  obtain rfl := Option.some.inj hm
  exact e_WI S hr hlk hw rfl hw.1 dX6_fault_4

abbrev rX6_lowest : Room := { frames := 0, cells := 0, slots := 0, locals := 0 }
theorem cal_X6_lowest : Cal yX6_lowest wsX6_lowest cX6_lowest 5 (some .int) RX6 2 := ⟨⟨_, rfl⟩, rfl, by decide +kernel, by decide +kernel, by decide +kernel⟩
theorem in_X6_lowest_X6 : ∀ w ∈ wsX60, w ∈ wsX6_lowest := fun _ h => (List.mem_cons_of_mem _ (List.mem_append_right _ h))
set_option maxHeartbeats 4000000 in
set_option maxRecDepth 100000 in
theorem t_X6_lowest_12 {p : Program} {e : Env} {s : State} {m : MethodId} {args : Array Value} {below : List Frame} {meth : Method} {c : Code} {Q : State → Prop} {H : Heap} {locs : List Loc} (l : Launch) {D : va_G} {cC cI cJ : ClassId} (S : CallFix p m c cX6_lowest 5 s args wsX6_lowest RX6) (hK : KK D (tyK cC cI cJ) s) (a_md : Nat) (a_md_text : Nat) (a_md_told : Nat) (a_md_draft : Nat) (a_md_s : Nat) (a_md_past : Nat) (a_md_images : Nat) (a_md_seen : Nat) (a_md_asks : Nat) (a_md_brings : Nat) (a_md_uses : Nat) (a_md_days : Nat) (a_md_tries : Nat) (a_md_row : Nat) (a_md_first : Nat) (a_md_held : Nat) (v1 : Int32) (v2 : Int32) (md_typed : Int32) (md_known : Int32) (md_kept : Int32) (md_sights : Int32) (md_at : Int32) (md_many : Int32) (md_length : Int32) (md_set : Int32) (md_text : (Nat → Int32)) (md_told : (Nat → Int32)) (md_draft : (Nat → Int32)) (md_s : (Nat → Int32)) (md_past : (Nat → Int32)) (md_images : (Nat → Int32)) (md_seen : (Nat → Int32)) (md_asks : (Nat → Int32)) (md_brings : (Nat → Int32)) (md_uses : (Nat → Int32)) (md_days : (Nat → Int32)) (md_tries : (Nat → Int32)) (md_row : (Nat → Int32)) (md_first : (Nat → Int32)) (md_held : (Nat → Int32)) (hP : va_P D vwCl (wd_28 cC cI cJ a_md a_md_text md_typed a_md_told a_md_draft a_md_s a_md_past md_known a_md_images md_kept a_md_seen md_sights md_at a_md_asks a_md_brings a_md_uses a_md_days a_md_tries a_md_row md_many a_md_first md_length md_set a_md_held a_md_text md_text a_md_told md_told a_md_draft md_draft a_md_s md_s a_md_past md_past a_md_images md_images a_md_seen md_seen a_md_asks md_asks a_md_brings md_brings a_md_uses md_uses a_md_days md_days a_md_tries md_tries a_md_row md_row a_md_first md_first a_md_held md_held) H) : ∀ (n : Nat) (v3 : Int32) (v4 : Int32) (out : Int32), lp_X6_lowest_12 v1 v2 md_told n v3 v4 = some out → ∀ (ls : Array Slot), lv_has ls 5 [(0, .ref a_md), (1, .int v1), (2, .int v2), (3, .int v3), (4, .int v4)] → (∀ (ls : Array Slot), lv_has ls 5 [(3, .int out)] → W p l e rX6_lowest s m args below meth c H locs 0 0 Q (F0 m 60 ls [])) → W p l e rX6_lowest s m args below meth c H locs 0 0 Q (F0 m 12 ls []) := by
  have hx := S.1
  have hb := S.2.1
  intro n
  induction n with
  | zero => intro v3 v4 out hm; cases (show (none : Option Int32) = some out from hm)
  | succ n ih =>
    intro v3 v4 out hm  ls hl K0
    rw [lp_X6_lowest_12] at hm
    refine lv_iload hx hb dX6_lowest_12 (lv_at hl 4 rfl) ?_
    refine lv_if_lt (tgt := 60) hx hb dX6_lowest_14 (by decide) (fun c4 => ?_) (fun c4 => ?_)
    · replace hm := ipos hm c4
      obtain rfl := Option.some.inj hm
      exact K0  ls (lv_sub hl [3] rfl)
    · replace hm := ineg hm c4
      refine lv_iload_n hx hb dX6_lowest_17 rfl (lv_at hl 1 rfl) ?_
      refine lv_iload hx hb dX6_lowest_18 (lv_at hl 4 rfl) ?_
      refine lv_ishr hx hb dX6_lowest_20 ?_
      refine lv_iconst (v := 1) hx hb dX6_lowest_21 (by decide) ?_
      refine lv_iand hx hb dX6_lowest_22 ?_
      refine lv_iconst (v := 1) hx hb dX6_lowest_23 (by decide) ?_
      refine lv_icmp_ne (tgt := 52) hx hb dX6_lowest_24 (by decide) (fun c5 => ?_) (fun c5 => ?_)
      · replace hm := ineg hm c5
        refine lv_iload_n hx hb dX6_lowest_52 rfl (lv_at hl 3 rfl) ?_
        refine lv_istore_n (lv' := [(3, .int v3), (0, .ref a_md), (1, .int v1), (2, .int v2), (4, .int v4)]) hx hb dX6_lowest_53 rfl hl (by decide) rfl (fun ls hl => ?_)
        refine lv_iinc (v := (v4 + (-1))) (lv' := [(4, .int (v4 + (-1))), (3, .int v3), (0, .ref a_md), (1, .int v1), (2, .int v2)]) hx hb dX6_lowest_54 hl (k := 4) rfl (by rw [ofi_m1]) (by decide) rfl (fun ls hl => ?_)
        refine lv_goto (tgt := 12) hx hb dX6_lowest_57 (by decide) ?_
        exact ih v3 (v4 + (-1)) _ hm  ls (lv_sub hl [2, 3, 4, 1, 0] rfl) K0
      · replace hm := ipos hm c5
        refine lv_iload_n hx hb dX6_lowest_27 rfl (lv_at hl 2 rfl) ?_
        refine lv_if_lt (tgt := 45) hx hb dX6_lowest_28 (by decide) (fun c6 => ?_) (fun c6 => ?_)
        · replace hm := ipos hm c6
          refine lv_iconst (v := 1) hx hb dX6_lowest_45 (by decide) ?_
          refine lv_iload hx hb dX6_lowest_46 (lv_at hl 4 rfl) ?_
          refine lv_ishl hx hb dX6_lowest_48 ?_
          refine lv_goto (tgt := 53) hx hb dX6_lowest_49 (by decide) ?_
          refine lv_istore_n (lv' := [(3, .int ((1 : Int32) <<< (v4 &&& 31))), (0, .ref a_md), (1, .int v1), (2, .int v2), (4, .int v4)]) hx hb dX6_lowest_53 rfl hl (by decide) rfl (fun ls hl => ?_)
          refine lv_iinc (v := (v4 + (-1))) (lv' := [(4, .int (v4 + (-1))), (3, .int ((1 : Int32) <<< (v4 &&& 31))), (0, .ref a_md), (1, .int v1), (2, .int v2)]) hx hb dX6_lowest_54 hl (k := 4) rfl (by rw [ofi_m1]) (by decide) rfl (fun ls hl => ?_)
          refine lv_goto (tgt := 12) hx hb dX6_lowest_57 (by decide) ?_
          exact ih ((1 : Int32) <<< (v4 &&& 31)) (v4 + (-1)) _ hm  ls (lv_sub hl [2, 3, 4, 1, 0] rfl) K0
        · replace hm := ineg hm c6
          refine lv_aload_n hx hb dX6_lowest_31 rfl (lv_at hl 0 rfl) ?_
          refine f_get S hK hP in_X6_lowest_X6 0 rfl rfl 2 (by decide) (List.mem_of_getElem? (i := 1) rfl) rfl rfl dX6_lowest_32 ?_
          refine lv_bipush (v := 37) hx hb dX6_lowest_35 (by decide) ?_
          refine lv_iload hx hb dX6_lowest_37 (lv_at hl 4 rfl) ?_
          refine lv_iadd hx hb dX6_lowest_39 ?_
          obtain ⟨g7, hm⟩ := gdo hm
          refine f_iald S hK hP 2 1 rfl rfl g7 dX6_lowest_40 ?_
          refine lv_iload_n hx hb dX6_lowest_41 rfl (lv_at hl 2 rfl) ?_
          refine lv_icmp_ne (tgt := 52) hx hb dX6_lowest_42 (by decide) (fun c8 => ?_) (fun c8 => ?_)
          · replace hm := ineg hm c8
            refine lv_iload_n hx hb dX6_lowest_52 rfl (lv_at hl 3 rfl) ?_
            refine lv_istore_n (lv' := [(3, .int v3), (0, .ref a_md), (1, .int v1), (2, .int v2), (4, .int v4)]) hx hb dX6_lowest_53 rfl hl (by decide) rfl (fun ls hl => ?_)
            refine lv_iinc (v := (v4 + (-1))) (lv' := [(4, .int (v4 + (-1))), (3, .int v3), (0, .ref a_md), (1, .int v1), (2, .int v2)]) hx hb dX6_lowest_54 hl (k := 4) rfl (by rw [ofi_m1]) (by decide) rfl (fun ls hl => ?_)
            refine lv_goto (tgt := 12) hx hb dX6_lowest_57 (by decide) ?_
            exact ih v3 (v4 + (-1)) _ hm  ls (lv_sub hl [2, 3, 4, 1, 0] rfl) K0
          · replace hm := ipos hm c8
            refine lv_iconst (v := 1) hx hb dX6_lowest_45 (by decide) ?_
            refine lv_iload hx hb dX6_lowest_46 (lv_at hl 4 rfl) ?_
            refine lv_ishl hx hb dX6_lowest_48 ?_
            refine lv_goto (tgt := 53) hx hb dX6_lowest_49 (by decide) ?_
            refine lv_istore_n (lv' := [(3, .int ((1 : Int32) <<< (v4 &&& 31))), (0, .ref a_md), (1, .int v1), (2, .int v2), (4, .int v4)]) hx hb dX6_lowest_53 rfl hl (by decide) rfl (fun ls hl => ?_)
            refine lv_iinc (v := (v4 + (-1))) (lv' := [(4, .int (v4 + (-1))), (3, .int ((1 : Int32) <<< (v4 &&& 31))), (0, .ref a_md), (1, .int v1), (2, .int v2)]) hx hb dX6_lowest_54 hl (k := 4) rfl (by rw [ofi_m1]) (by decide) rfl (fun ls hl => ?_)
            refine lv_goto (tgt := 12) hx hb dX6_lowest_57 (by decide) ?_
            exact ih ((1 : Int32) <<< (v4 &&& 31)) (v4 + (-1)) _ hm  ls (lv_sub hl [2, 3, 4, 1, 0] rfl) K0
set_option maxHeartbeats 4000000 in
set_option maxRecDepth 100000 in
theorem c_X6_lowest (l : Launch) (D : va_G) (cC cI cJ : ClassId) (a_md : Nat) (a_md_text : Nat) (a_md_told : Nat) (a_md_draft : Nat) (a_md_s : Nat) (a_md_past : Nat) (a_md_images : Nat) (a_md_seen : Nat) (a_md_asks : Nat) (a_md_brings : Nat) (a_md_uses : Nat) (a_md_days : Nat) (a_md_tries : Nat) (a_md_row : Nat) (a_md_first : Nat) (a_md_held : Nat) (md_typed : Int32) (md_known : Int32) (md_kept : Int32) (md_sights : Int32) (md_at : Int32) (md_many : Int32) (md_length : Int32) (md_set : Int32) (md_text : (Nat → Int32)) (md_told : (Nat → Int32)) (md_draft : (Nat → Int32)) (md_s : (Nat → Int32)) (md_past : (Nat → Int32)) (md_images : (Nat → Int32)) (md_seen : (Nat → Int32)) (md_asks : (Nat → Int32)) (md_brings : (Nat → Int32)) (md_uses : (Nat → Int32)) (md_days : (Nat → Int32)) (md_tries : (Nat → Int32)) (md_row : (Nat → Int32)) (md_first : (Nat → Int32)) (md_held : (Nat → Int32)) (p0 : Int32) (p1 : Int32) (N : Nat) (out : Int32) (hm : m_X6_lowest N md_told p0 p1 = some out) : RdI l yX6_lowest wsX6_lowest rX6_lowest D (tyK cC cI cJ) [.ref a_md, .int p0, .int p1] (wd_28 cC cI cJ a_md a_md_text md_typed a_md_told a_md_draft a_md_s a_md_past md_known a_md_images md_kept a_md_seen md_sights md_at a_md_asks a_md_brings a_md_uses a_md_days a_md_tries a_md_row md_many a_md_first md_length md_set a_md_held a_md_text md_text a_md_told md_told a_md_draft md_draft a_md_s md_s a_md_past md_past a_md_images md_images a_md_seen md_seen a_md_asks md_asks a_md_brings md_brings a_md_uses md_uses a_md_days md_days a_md_tries md_tries a_md_row md_row a_md_first md_first a_md_held md_held) out := by
  unfold m_X6_lowest at hm
  refine enter (cc := cX6_lowest) (maxL := 5) (ret := (some .int)) (lv := [(0, .ref a_md), (1, .int p0), (2, .int p1)]) (by decide) rfl (Nat.le_of_ble_eq_true rfl) rfl ?_
  intro p e s m args below meth c S hr hlk hK hP ls hl
  replace S : CallFix p m c cX6_lowest 5 s args wsX6_lowest RX6 := S
  have hx := S.1
  have hb := S.2.1
  refine lv_iconst (v := 0) hx hb dX6_lowest_0 (by decide) ?_
  refine lv_istore_n (lv' := [(3, .int (0 : Int32)), (0, .ref a_md), (1, .int p0), (2, .int p1)]) hx hb dX6_lowest_1 rfl hl (by decide) rfl (fun ls hl => ?_)
  refine lv_aload_n hx hb dX6_lowest_2 rfl (lv_at hl 1 rfl) ?_
  refine f_get S hK hP in_X6_lowest_X6 0 rfl rfl 2 (by decide) (List.mem_of_getElem? (i := 1) rfl) rfl rfl dX6_lowest_3 ?_
  refine lv_iconst (v := 1) hx hb dX6_lowest_6 (by decide) ?_
  obtain ⟨g1, hm⟩ := gdo hm
  refine f_iald S hK hP 2 1 rfl rfl g1 dX6_lowest_7 ?_
  refine lv_iconst (v := 1) hx hb dX6_lowest_8 (by decide) ?_
  refine lv_isub hx hb dX6_lowest_9 ?_
  obtain ⟨y2, e3, hm⟩ := ob hm
  refine f_name e3 ?_
  refine lv_istore (lv' := [(4, .int y2), (3, .int (0 : Int32)), (0, .ref a_md), (1, .int p0), (2, .int p1)]) hx hb dX6_lowest_10 hl (by decide) rfl (fun ls hl => ?_)
  obtain ⟨r9, h10, hm⟩ := ob hm
  refine t_X6_lowest_12 l S hK a_md a_md_text a_md_told a_md_draft a_md_s a_md_past a_md_images a_md_seen a_md_asks a_md_brings a_md_uses a_md_days a_md_tries a_md_row a_md_first a_md_held p0 p1 md_typed md_known md_kept md_sights md_at md_many md_length md_set md_text md_told md_draft md_s md_past md_images md_seen md_asks md_brings md_uses md_days md_tries md_row md_first md_held hP N (0 : Int32) y2 r9 h10  ls (lv_sub hl [2, 3, 4, 1, 0] rfl) (fun ls hl => ?_)
  refine lv_iload_n hx hb dX6_lowest_60 rfl (lv_at hl 0 rfl) ?_
  exact e_RI S hr hlk (Option.some.inj hm) dX6_lowest_61
