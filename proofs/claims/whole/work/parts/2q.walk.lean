/-! walks: X6_worth X6_write -/
abbrev rX6_worth : Room := { frames := 4, cells := 0, slots := 0, locals := 102 }
theorem cal_X6_worth : Cal yX6_worth wsX6_worth cX6_worth 7 (some .int) RX6 2 := ⟨⟨_, rfl⟩, rfl, by decide +kernel, by decide +kernel, by decide +kernel⟩
theorem in_X6_worth_X6 : ∀ w ∈ wsX60, w ∈ wsX6_worth := fun _ h => (List.mem_cons_of_mem _ (List.mem_append_right _ h))
set_option maxHeartbeats 4000000 in
set_option maxRecDepth 100000 in
theorem c_X6_worth (l : Launch) (D : va_G) (cC cI cJ : ClassId) (a_md : Nat) (a_md_text : Nat) (a_md_told : Nat) (a_md_draft : Nat) (a_md_s : Nat) (a_md_past : Nat) (a_md_images : Nat) (a_md_seen : Nat) (a_md_asks : Nat) (a_md_brings : Nat) (a_md_uses : Nat) (a_md_days : Nat) (a_md_tries : Nat) (a_md_row : Nat) (a_md_first : Nat) (a_md_held : Nat) (md_typed : Int32) (md_known : Int32) (md_kept : Int32) (md_sights : Int32) (md_at : Int32) (md_many : Int32) (md_length : Int32) (md_set : Int32) (md_text : (Nat → Int32)) (md_told : (Nat → Int32)) (md_draft : (Nat → Int32)) (md_s : (Nat → Int32)) (md_past : (Nat → Int32)) (md_images : (Nat → Int32)) (md_seen : (Nat → Int32)) (md_asks : (Nat → Int32)) (md_brings : (Nat → Int32)) (md_uses : (Nat → Int32)) (md_days : (Nat → Int32)) (md_tries : (Nat → Int32)) (md_row : (Nat → Int32)) (md_first : (Nat → Int32)) (md_held : (Nat → Int32)) (p0 : Int32) (p1 : Int32) (N : Nat) (A : Nat → Prop) (hD : va_D A (wd_28 cC cI cJ a_md a_md_text md_typed a_md_told a_md_draft a_md_s a_md_past md_known a_md_images md_kept a_md_seen md_sights md_at a_md_asks a_md_brings a_md_uses a_md_days a_md_tries a_md_row md_many a_md_first md_length md_set a_md_held a_md_text md_text a_md_told md_told a_md_draft md_draft a_md_s md_s a_md_past md_past a_md_images md_images a_md_seen md_seen a_md_asks md_asks a_md_brings md_brings a_md_uses md_uses a_md_days md_days a_md_tries md_tries a_md_row md_row a_md_first md_first a_md_held md_held)) (out : (Int32 × Int32 × Int32 × Int32 × (Nat → Int32) × (Nat → Int32) × (Nat → Int32) × (Nat → Int32) × (Nat → Int32) × (Nat → Int32) × (Nat → Int32) × (Nat → Int32))) (hm : m_X6_worth N md_sights md_many md_length md_set md_told md_s md_seen md_asks md_brings md_uses md_days md_tries md_row md_first p0 p1 = some out) : WrI l yX6_worth wsX6_worth rX6_worth D (tyK cC cI cJ) [.ref a_md, .int p0, .int p1] A (wd_28 cC cI cJ a_md a_md_text md_typed a_md_told a_md_draft a_md_s a_md_past md_known a_md_images md_kept a_md_seen md_sights md_at a_md_asks a_md_brings a_md_uses a_md_days a_md_tries a_md_row md_many a_md_first md_length md_set a_md_held a_md_text md_text a_md_told md_told a_md_draft md_draft a_md_s md_s a_md_past md_past a_md_images md_images a_md_seen md_seen a_md_asks md_asks a_md_brings md_brings a_md_uses md_uses a_md_days md_days a_md_tries md_tries a_md_row md_row a_md_first md_first a_md_held md_held) (Bw0 D (wd_28 cC cI cJ a_md a_md_text md_typed a_md_told a_md_draft a_md_s a_md_past md_known a_md_images md_kept a_md_seen md_sights md_at a_md_asks a_md_brings a_md_uses a_md_days a_md_tries a_md_row out.2.1 a_md_first out.2.2.1 out.2.2.2.1 a_md_held a_md_text md_text a_md_told md_told a_md_draft md_draft a_md_s out.2.2.2.2.1 a_md_past md_past a_md_images md_images a_md_seen md_seen a_md_asks out.2.2.2.2.2.1 a_md_brings out.2.2.2.2.2.2.1 a_md_uses out.2.2.2.2.2.2.2.1 a_md_days out.2.2.2.2.2.2.2.2.1 a_md_tries out.2.2.2.2.2.2.2.2.2.1 a_md_row out.2.2.2.2.2.2.2.2.2.2.1 a_md_first out.2.2.2.2.2.2.2.2.2.2.2 a_md_held md_held)) out.1 := by
  unfold m_X6_worth at hm
  refine enter (cc := cX6_worth) (maxL := 7) (ret := (some .int)) (lv := [(0, .ref a_md), (1, .int p0), (2, .int p1)]) (by decide) rfl (Nat.le_of_ble_eq_true rfl) rfl ?_
  intro p e s m args below meth c S hr hlk hK hP ls hl
  replace S : CallFix p m c cX6_worth 7 s args wsX6_worth RX6 := S
  have hx := S.1
  have hb := S.2.1
  have hw : Wd D A s.heap (wd_28 cC cI cJ a_md a_md_text md_typed a_md_told a_md_draft a_md_s a_md_past md_known a_md_images md_kept a_md_seen md_sights md_at a_md_asks a_md_brings a_md_uses a_md_days a_md_tries a_md_row md_many a_md_first md_length md_set a_md_held a_md_text md_text a_md_told md_told a_md_draft md_draft a_md_s md_s a_md_past md_past a_md_images md_images a_md_seen md_seen a_md_asks md_asks a_md_brings md_brings a_md_uses md_uses a_md_days md_days a_md_tries md_tries a_md_row md_row a_md_first md_first a_md_held md_held) s.heap [] := ⟨hP, hD, va_S.rf⟩
  have hw0 := hw
  refine lv_aload_n hx hb dX6_worth_0 rfl (lv_at hl 0 rfl) ?_
  refine lv_iload_n hx hb dX6_worth_1 rfl (lv_at hl 1 rfl) ?_
  obtain ⟨r1, h2, hm⟩ := ob hm
  refine k_rVi S hK hw.1 cal_X6_isHelper gX6_worth_X6_isHelper (c_X6_isHelper l D cC cI cJ a_md a_md_text a_md_told a_md_draft a_md_s a_md_past a_md_images a_md_seen a_md_asks a_md_brings a_md_uses a_md_days a_md_tries a_md_row a_md_first a_md_held md_typed md_known md_kept md_sights md_at md_many md_length md_set md_text md_told md_draft md_s md_past md_images md_seen md_asks md_brings md_uses md_days md_tries md_row md_first md_held p0 r1 h2) ⟨⟨rfl, rfl⟩, Nat.le_of_ble_eq_true rfl, Nat.le_of_ble_eq_true rfl⟩ [0, 1, 2, 3, 4, 5, 6, 7, 8, 9, 10, 11, 12, 13, 14, 15] rfl 0 rfl rfl rfl hl.1 rfl (Nat.le_of_ble_eq_true rfl) dX6_worth_2 ⟨Nat.zero_le _, Nat.zero_le _⟩ ?_
  refine lv_if_eq (tgt := 17) hx hb dX6_worth_5 (by decide) (fun c3 => ?_) (fun c3 => ?_)
  · replace hm := ipos hm c3
    refine lv_iconst (v := (-1)) hx hb dX6_worth_17 (by decide) ?_
    obtain rfl := Option.some.inj hm
    exact e_WI S hr hlk hw rfl hw.1 dX6_worth_18
  · replace hm := ineg hm c3
    refine lv_iload_n hx hb dX6_worth_8 rfl (lv_at hl 2 rfl) ?_
    refine lv_iconst (v := 0) hx hb dX6_worth_9 (by decide) ?_
    refine lv_iconst (v := 1) hx hb dX6_worth_10 (by decide) ?_
    obtain ⟨r4, h5, hm⟩ := ob hm
    refine k_rSi S hK hw.1 cal_X6_in gX6_worth_X6_in (c_X6_in l D cC cI cJ p1 (0 : Int32) (1 : Int32) r4 h5) ⟨⟨rfl, rfl⟩, Nat.le_of_ble_eq_true rfl, Nat.le_of_ble_eq_true rfl⟩ [] rfl rfl hl.1 rfl (Nat.le_of_ble_eq_true rfl) dX6_worth_11 ⟨Nat.zero_le _, Nat.zero_le _⟩ ?_
    refine lv_if_ne (tgt := 19) hx hb dX6_worth_14 (by decide) (fun c6 => ?_) (fun c6 => ?_)
    · replace hm := ineg hm c6
      refine lv_aload_n hx hb dX6_worth_19 rfl (lv_at hl 0 rfl) ?_
      refine f_get S hK hw.1 in_X6_worth_X6 0 rfl rfl 4 (by decide) (List.mem_of_getElem? (i := 1) rfl) rfl rfl dX6_worth_20 ?_
      refine lv_iconst (v := 2) hx hb dX6_worth_23 (by decide) ?_
      refine f_ialdK S hK hw.1 4 1 rfl rfl 2 (by decide) (by decide) (v := (md_s 2)) rfl dX6_worth_24 ?_
      refine lv_iload_n hx hb dX6_worth_25 rfl (lv_at hl 1 rfl) ?_
      refine lv_ishr hx hb dX6_worth_26 ?_
      refine lv_iconst (v := 1) hx hb dX6_worth_27 (by decide) ?_
      refine lv_iand hx hb dX6_worth_28 ?_
      refine lv_iconst (v := 1) hx hb dX6_worth_29 (by decide) ?_
      refine lv_icmp_ne (tgt := 36) hx hb dX6_worth_30 (by decide) (fun c8 => ?_) (fun c8 => ?_)
      · replace hm := ineg hm c8
        refine lv_aload_n hx hb dX6_worth_36 rfl (lv_at hl 0 rfl) ?_
        refine lv_iconst (v := 0) hx hb dX6_worth_37 (by decide) ?_
        refine lv_iconst (v := 0) hx hb dX6_worth_38 (by decide) ?_
        obtain ⟨r9, h10, hm⟩ := ob hm
        refine k_wVv S hK hw cal_X6_walks gX6_worth_X6_walks (c_X6_walks l D cC cI cJ a_md a_md_text a_md_told a_md_draft a_md_s a_md_past a_md_images a_md_seen a_md_asks a_md_brings a_md_uses a_md_days a_md_tries a_md_row a_md_first a_md_held md_typed md_known md_kept md_sights md_at md_many md_length md_set md_text md_told md_draft md_s md_past md_images md_seen md_asks md_brings md_uses md_days md_tries md_row md_first md_held (0 : Int32) (0 : Int32) N (aw _) (hw.own [0, 1, 2, 3, 4, 5, 6, 7, 8, 9, 10, 11, 12, 13, 14, 15] (by decide) rfl) r9 h10) ⟨⟨rfl, rfl⟩, Nat.le_of_ble_eq_true rfl, Nat.le_of_ble_eq_true rfl⟩ [0, 1, 2, 3, 4, 5, 6, 7, 8, 9, 10, 11, 12, 13, 14, 15] rfl 0 rfl rfl rfl hl.1 rfl (Nat.le_of_ble_eq_true rfl) dX6_worth_39 ⟨Nat.zero_le _, Nat.zero_le _⟩ (fun H locs hJ hB => ?_)
        have hw := hJ _ hB rfl
        replace hw : Wd D A _ (wd_28 cC cI cJ a_md a_md_text md_typed a_md_told a_md_draft a_md_s a_md_past md_known a_md_images md_kept a_md_seen md_sights md_at a_md_asks a_md_brings a_md_uses a_md_days a_md_tries a_md_row r9.1 a_md_first r9.2.1 md_set a_md_held a_md_text md_text a_md_told md_told a_md_draft md_draft a_md_s md_s a_md_past md_past a_md_images md_images a_md_seen md_seen a_md_asks r9.2.2.1 a_md_brings r9.2.2.2.1 a_md_uses r9.2.2.2.2.1 a_md_days r9.2.2.2.2.2.1 a_md_tries r9.2.2.2.2.2.2.1 a_md_row r9.2.2.2.2.2.2.2.1 a_md_first r9.2.2.2.2.2.2.2.2 a_md_held md_held) H locs := hw
        refine lv_aload_n hx hb dX6_worth_42 rfl (lv_at hl 0 rfl) ?_
        refine f_get S hK hw.1 in_X6_worth_X6 0 rfl rfl 18 (by decide) (List.mem_of_getElem? (i := 2) rfl) rfl rfl dX6_worth_43 ?_
        refine lv_istore_n (lv' := [(3, .int r9.1), (0, .ref a_md), (1, .int p0), (2, .int p1)]) hx hb dX6_worth_46 rfl hl (by decide) rfl (fun ls hl => ?_)
        refine lv_aload_n hx hb dX6_worth_47 rfl (lv_at hl 1 rfl) ?_
        obtain ⟨r11, h12, hm⟩ := ob hm
        refine k_wVi S hK hw cal_X6_few gX6_worth_X6_few (c_X6_few l D cC cI cJ a_md a_md_text a_md_told a_md_draft a_md_s a_md_past a_md_images a_md_seen a_md_asks a_md_brings a_md_uses a_md_days a_md_tries a_md_row a_md_first a_md_held md_typed md_known md_kept md_sights md_at r9.1 r9.2.1 md_set md_text md_told md_draft md_s md_past md_images md_seen r9.2.2.1 r9.2.2.2.1 r9.2.2.2.2.1 r9.2.2.2.2.2.1 r9.2.2.2.2.2.2.1 r9.2.2.2.2.2.2.2.1 r9.2.2.2.2.2.2.2.2 md_held N (aw _) (hw.own [0, 1, 2, 3, 4, 5, 6, 7, 8, 9, 10, 11, 12, 13, 14, 15] (by decide) rfl) r11 h12) ⟨⟨rfl, rfl⟩, Nat.le_of_ble_eq_true rfl, Nat.le_of_ble_eq_true rfl⟩ [0, 1, 2, 3, 4, 5, 6, 7, 8, 9, 10, 11, 12, 13, 14, 15] rfl 0 rfl rfl rfl hl.1 rfl (Nat.le_of_ble_eq_true rfl) dX6_worth_48 ⟨Nat.zero_le _, Nat.zero_le _⟩ (fun H locs hJ hB => ?_)
        have hw := hJ _ hB rfl
        replace hw : Wd D A _ (wd_28 cC cI cJ a_md a_md_text md_typed a_md_told a_md_draft a_md_s a_md_past md_known a_md_images md_kept a_md_seen md_sights md_at a_md_asks a_md_brings a_md_uses a_md_days a_md_tries a_md_row r11.2.1 a_md_first r11.2.2.1 r11.2.2.2.1 a_md_held a_md_text md_text a_md_told md_told a_md_draft md_draft a_md_s r11.2.2.2.2.1 a_md_past md_past a_md_images md_images a_md_seen md_seen a_md_asks r11.2.2.2.2.2.1 a_md_brings r11.2.2.2.2.2.2.1 a_md_uses r11.2.2.2.2.2.2.2.1 a_md_days r11.2.2.2.2.2.2.2.2.1 a_md_tries r11.2.2.2.2.2.2.2.2.2.1 a_md_row r11.2.2.2.2.2.2.2.2.2.2.1 a_md_first r11.2.2.2.2.2.2.2.2.2.2.2 a_md_held md_held) H locs := hw
        refine lv_istore (lv' := [(4, .int r11.1), (3, .int r9.1), (0, .ref a_md), (1, .int p0), (2, .int p1)]) hx hb dX6_worth_51 hl (by decide) rfl (fun ls hl => ?_)
        refine lv_aload_n hx hb dX6_worth_53 rfl (lv_at hl 2 rfl) ?_
        refine f_get S hK hw.1 in_X6_worth_X6 0 rfl rfl 4 (by decide) (List.mem_of_getElem? (i := 1) rfl) rfl rfl dX6_worth_54 ?_
        refine lv_iconst (v := 2) hx hb dX6_worth_57 (by decide) ?_
        refine lv_dup2_11 hx hb dX6_worth_58 rfl rfl ?_
        refine f_ialdK S hK hw.1 4 1 rfl rfl 2 (by decide) (by decide) (v := (r11.2.2.2.2.1 2)) rfl dX6_worth_59 ?_
        refine lv_iconst (v := 1) hx hb dX6_worth_60 (by decide) ?_
        refine lv_iload_n hx hb dX6_worth_61 rfl (lv_at hl 3 rfl) ?_
        refine lv_ishl hx hb dX6_worth_62 ?_
        refine lv_ior hx hb dX6_worth_63 ?_
        obtain ⟨y15, e16, hm⟩ := ob hm
        refine f_name e16 ?_
        refine f_iastK S hK hw 4 1 rfl rfl 2 (by decide) (by decide) (ws1 := (wd_28 cC cI cJ a_md a_md_text md_typed a_md_told a_md_draft a_md_s a_md_past md_known a_md_images md_kept a_md_seen md_sights md_at a_md_asks a_md_brings a_md_uses a_md_days a_md_tries a_md_row r11.2.1 a_md_first r11.2.2.1 r11.2.2.2.1 a_md_held a_md_text md_text a_md_told md_told a_md_draft md_draft a_md_s (upd r11.2.2.2.2.1 2 y15) a_md_past md_past a_md_images md_images a_md_seen md_seen a_md_asks r11.2.2.2.2.2.1 a_md_brings r11.2.2.2.2.2.2.1 a_md_uses r11.2.2.2.2.2.2.2.1 a_md_days r11.2.2.2.2.2.2.2.2.1 a_md_tries r11.2.2.2.2.2.2.2.2.2.1 a_md_row r11.2.2.2.2.2.2.2.2.2.2.1 a_md_first r11.2.2.2.2.2.2.2.2.2.2.2 a_md_held md_held)) rfl dX6_worth_64 (fun H locs hw => ?_)
        refine lv_aload_n hx hb dX6_worth_65 rfl (lv_at hl 2 rfl) ?_
        refine lv_iconst (v := 0) hx hb dX6_worth_66 (by decide) ?_
        refine lv_iconst (v := 0) hx hb dX6_worth_67 (by decide) ?_
        obtain ⟨r17, h18, hm⟩ := ob hm
        refine k_wVv S hK hw cal_X6_walks gX6_worth_X6_walks (c_X6_walks l D cC cI cJ a_md a_md_text a_md_told a_md_draft a_md_s a_md_past a_md_images a_md_seen a_md_asks a_md_brings a_md_uses a_md_days a_md_tries a_md_row a_md_first a_md_held md_typed md_known md_kept md_sights md_at r11.2.1 r11.2.2.1 r11.2.2.2.1 md_text md_told md_draft (upd r11.2.2.2.2.1 2 y15) md_past md_images md_seen r11.2.2.2.2.2.1 r11.2.2.2.2.2.2.1 r11.2.2.2.2.2.2.2.1 r11.2.2.2.2.2.2.2.2.1 r11.2.2.2.2.2.2.2.2.2.1 r11.2.2.2.2.2.2.2.2.2.2.1 r11.2.2.2.2.2.2.2.2.2.2.2 md_held (0 : Int32) (0 : Int32) N (aw _) (hw.own [0, 1, 2, 3, 4, 5, 6, 7, 8, 9, 10, 11, 12, 13, 14, 15] (by decide) rfl) r17 h18) ⟨⟨rfl, rfl⟩, Nat.le_of_ble_eq_true rfl, Nat.le_of_ble_eq_true rfl⟩ [0, 1, 2, 3, 4, 5, 6, 7, 8, 9, 10, 11, 12, 13, 14, 15] rfl 0 rfl rfl rfl hl.1 rfl (Nat.le_of_ble_eq_true rfl) dX6_worth_68 ⟨Nat.zero_le _, Nat.zero_le _⟩ (fun H locs hJ hB => ?_)
        have hw := hJ _ hB rfl
        replace hw : Wd D A _ (wd_28 cC cI cJ a_md a_md_text md_typed a_md_told a_md_draft a_md_s a_md_past md_known a_md_images md_kept a_md_seen md_sights md_at a_md_asks a_md_brings a_md_uses a_md_days a_md_tries a_md_row r17.1 a_md_first r17.2.1 r11.2.2.2.1 a_md_held a_md_text md_text a_md_told md_told a_md_draft md_draft a_md_s (upd r11.2.2.2.2.1 2 y15) a_md_past md_past a_md_images md_images a_md_seen md_seen a_md_asks r17.2.2.1 a_md_brings r17.2.2.2.1 a_md_uses r17.2.2.2.2.1 a_md_days r17.2.2.2.2.2.1 a_md_tries r17.2.2.2.2.2.2.1 a_md_row r17.2.2.2.2.2.2.2.1 a_md_first r17.2.2.2.2.2.2.2.2 a_md_held md_held) H locs := hw
        refine lv_aload_n hx hb dX6_worth_71 rfl (lv_at hl 2 rfl) ?_
        refine f_get S hK hw.1 in_X6_worth_X6 0 rfl rfl 18 (by decide) (List.mem_of_getElem? (i := 2) rfl) rfl rfl dX6_worth_72 ?_
        refine lv_iload_n hx hb dX6_worth_75 rfl (lv_at hl 1 rfl) ?_
        refine lv_isub hx hb dX6_worth_76 ?_
        refine lv_istore (lv' := [(5, .int (r17.1 - r9.1)), (4, .int r11.1), (3, .int r9.1), (0, .ref a_md), (1, .int p0), (2, .int p1)]) hx hb dX6_worth_77 hl (by decide) rfl (fun ls hl => ?_)
        refine lv_aload_n hx hb dX6_worth_79 rfl (lv_at hl 3 rfl) ?_
        obtain ⟨r19, h20, hm⟩ := ob hm
        refine k_wVi S hK hw cal_X6_few gX6_worth_X6_few (c_X6_few l D cC cI cJ a_md a_md_text a_md_told a_md_draft a_md_s a_md_past a_md_images a_md_seen a_md_asks a_md_brings a_md_uses a_md_days a_md_tries a_md_row a_md_first a_md_held md_typed md_known md_kept md_sights md_at r17.1 r17.2.1 r11.2.2.2.1 md_text md_told md_draft (upd r11.2.2.2.2.1 2 y15) md_past md_images md_seen r17.2.2.1 r17.2.2.2.1 r17.2.2.2.2.1 r17.2.2.2.2.2.1 r17.2.2.2.2.2.2.1 r17.2.2.2.2.2.2.2.1 r17.2.2.2.2.2.2.2.2 md_held N (aw _) (hw.own [0, 1, 2, 3, 4, 5, 6, 7, 8, 9, 10, 11, 12, 13, 14, 15] (by decide) rfl) r19 h20) ⟨⟨rfl, rfl⟩, Nat.le_of_ble_eq_true rfl, Nat.le_of_ble_eq_true rfl⟩ [0, 1, 2, 3, 4, 5, 6, 7, 8, 9, 10, 11, 12, 13, 14, 15] rfl 0 rfl rfl rfl hl.1 rfl (Nat.le_of_ble_eq_true rfl) dX6_worth_80 ⟨Nat.zero_le _, Nat.zero_le _⟩ (fun H locs hJ hB => ?_)
        have hw := hJ _ hB rfl
        replace hw : Wd D A _ (wd_28 cC cI cJ a_md a_md_text md_typed a_md_told a_md_draft a_md_s a_md_past md_known a_md_images md_kept a_md_seen md_sights md_at a_md_asks a_md_brings a_md_uses a_md_days a_md_tries a_md_row r19.2.1 a_md_first r19.2.2.1 r19.2.2.2.1 a_md_held a_md_text md_text a_md_told md_told a_md_draft md_draft a_md_s r19.2.2.2.2.1 a_md_past md_past a_md_images md_images a_md_seen md_seen a_md_asks r19.2.2.2.2.2.1 a_md_brings r19.2.2.2.2.2.2.1 a_md_uses r19.2.2.2.2.2.2.2.1 a_md_days r19.2.2.2.2.2.2.2.2.1 a_md_tries r19.2.2.2.2.2.2.2.2.2.1 a_md_row r19.2.2.2.2.2.2.2.2.2.2.1 a_md_first r19.2.2.2.2.2.2.2.2.2.2.2 a_md_held md_held) H locs := hw
        refine lv_istore (lv' := [(6, .int r19.1), (5, .int (r17.1 - r9.1)), (4, .int r11.1), (3, .int r9.1), (0, .ref a_md), (1, .int p0), (2, .int p1)]) hx hb dX6_worth_83 hl (by decide) rfl (fun ls hl => ?_)
        refine lv_aload_n hx hb dX6_worth_85 rfl (lv_at hl 4 rfl) ?_
        refine f_get S hK hw.1 in_X6_worth_X6 0 rfl rfl 4 (by decide) (List.mem_of_getElem? (i := 1) rfl) rfl rfl dX6_worth_86 ?_
        refine lv_iconst (v := 2) hx hb dX6_worth_89 (by decide) ?_
        refine lv_dup2_11 hx hb dX6_worth_90 rfl rfl ?_
        refine f_ialdK S hK hw.1 4 1 rfl rfl 2 (by decide) (by decide) (v := (r19.2.2.2.2.1 2)) rfl dX6_worth_91 ?_
        refine lv_iconst (v := 1) hx hb dX6_worth_92 (by decide) ?_
        refine lv_iload_n hx hb dX6_worth_93 rfl (lv_at hl 5 rfl) ?_
        refine lv_ishl hx hb dX6_worth_94 ?_
        refine lv_iconst (v := (-1)) hx hb dX6_worth_95 (by decide) ?_
        refine lv_ixor hx hb dX6_worth_96 ?_
        refine lv_iand hx hb dX6_worth_97 ?_
        obtain ⟨y23, e24, hm⟩ := ob hm
        refine f_name e24 ?_
        refine f_iastK S hK hw 4 1 rfl rfl 2 (by decide) (by decide) (ws1 := (wd_28 cC cI cJ a_md a_md_text md_typed a_md_told a_md_draft a_md_s a_md_past md_known a_md_images md_kept a_md_seen md_sights md_at a_md_asks a_md_brings a_md_uses a_md_days a_md_tries a_md_row r19.2.1 a_md_first r19.2.2.1 r19.2.2.2.1 a_md_held a_md_text md_text a_md_told md_told a_md_draft md_draft a_md_s (upd r19.2.2.2.2.1 2 y23) a_md_past md_past a_md_images md_images a_md_seen md_seen a_md_asks r19.2.2.2.2.2.1 a_md_brings r19.2.2.2.2.2.2.1 a_md_uses r19.2.2.2.2.2.2.2.1 a_md_days r19.2.2.2.2.2.2.2.2.1 a_md_tries r19.2.2.2.2.2.2.2.2.2.1 a_md_row r19.2.2.2.2.2.2.2.2.2.2.1 a_md_first r19.2.2.2.2.2.2.2.2.2.2.2 a_md_held md_held)) rfl dX6_worth_98 (fun H locs hw => ?_)
        refine lv_iload_n hx hb dX6_worth_99 rfl (lv_at hl 6 rfl) ?_
        refine lv_if_ne (tgt := 115) hx hb dX6_worth_100 (by decide) (fun c25 => ?_) (fun c25 => ?_)
        · replace hm := ineg hm c25
          refine lv_iload hx hb dX6_worth_115 (lv_at hl 2 rfl) ?_
          refine lv_bipush (v := (-4)) hx hb dX6_worth_117 (by decide) ?_
          refine lv_icmp_eq (tgt := 129) hx hb dX6_worth_119 (by decide) (fun c26 => ?_) (fun c26 => ?_)
          · replace hm := ipos hm c26
            refine lv_bipush (v := (-4)) hx hb dX6_worth_129 (by decide) ?_
            refine lv_goto (tgt := 139) hx hb dX6_worth_131 (by decide) ?_
            obtain rfl := Option.some.inj hm
            exact e_WI S hr hlk hw rfl hw.1 dX6_worth_139
          · replace hm := ineg hm c26
            refine lv_iload hx hb dX6_worth_122 (lv_at hl 0 rfl) ?_
            refine lv_bipush (v := (-4)) hx hb dX6_worth_124 (by decide) ?_
            refine lv_icmp_ne (tgt := 134) hx hb dX6_worth_126 (by decide) (fun c27 => ?_) (fun c27 => ?_)
            · replace hm := ineg hm c27
              refine lv_iload hx hb dX6_worth_134 (lv_at hl 2 rfl) ?_
              refine lv_iload hx hb dX6_worth_136 (lv_at hl 0 rfl) ?_
              refine lv_isub hx hb dX6_worth_138 ?_
              obtain rfl := Option.some.inj hm
              exact e_WI S hr hlk hw rfl hw.1 dX6_worth_139
            · replace hm := ipos hm c27
              refine lv_bipush (v := (-4)) hx hb dX6_worth_129 (by decide) ?_
              refine lv_goto (tgt := 139) hx hb dX6_worth_131 (by decide) ?_
              obtain rfl := Option.some.inj hm
              exact e_WI S hr hlk hw rfl hw.1 dX6_worth_139
        · replace hm := ipos hm c25
          refine lv_iload hx hb dX6_worth_103 (lv_at hl 1 rfl) ?_
          refine lv_if_ge (tgt := 112) hx hb dX6_worth_105 (by decide) (fun c28 => ?_) (fun c28 => ?_)
          · replace hm := ipos hm c28
            refine lv_iload hx hb dX6_worth_112 (lv_at hl 1 rfl) ?_
            obtain rfl := Option.some.inj hm
            exact e_WI S hr hlk hw rfl hw.1 dX6_worth_114
          · replace hm := ineg hm c28
            refine lv_iconst (v := 0) hx hb dX6_worth_108 (by decide) ?_
            refine lv_goto (tgt := 114) hx hb dX6_worth_109 (by decide) ?_
            obtain rfl := Option.some.inj hm
            exact e_WI S hr hlk hw rfl hw.1 dX6_worth_114
      · replace hm := ipos hm c8
        refine lv_bipush (v := (-2)) hx hb dX6_worth_33 (by decide) ?_
        obtain rfl := Option.some.inj hm
        exact e_WI S hr hlk hw rfl hw.1 dX6_worth_35
    · replace hm := ipos hm c6
      refine lv_iconst (v := (-1)) hx hb dX6_worth_17 (by decide) ?_
      obtain rfl := Option.some.inj hm
      exact e_WI S hr hlk hw rfl hw.1 dX6_worth_18

abbrev rX6_write : Room := { frames := 1, cells := 0, slots := 0, locals := 22 }
theorem cal_X6_write : Cal yX6_write wsX6_write cX6_write 2 (some .int) RX6 1 := ⟨⟨_, rfl⟩, rfl, by decide +kernel, by decide +kernel, by decide +kernel⟩
theorem in_X6_write_X6 : ∀ w ∈ wsX60, w ∈ wsX6_write := fun _ h => (List.mem_cons_of_mem _ (List.mem_append_right _ h))
set_option maxHeartbeats 4000000 in
set_option maxRecDepth 100000 in
theorem c_X6_write (l : Launch) (D : va_G) (cC cI cJ : ClassId) (a_md : Nat) (a_md_text : Nat) (a_md_told : Nat) (a_md_draft : Nat) (a_md_s : Nat) (a_md_past : Nat) (a_md_images : Nat) (a_md_seen : Nat) (a_md_asks : Nat) (a_md_brings : Nat) (a_md_uses : Nat) (a_md_days : Nat) (a_md_tries : Nat) (a_md_row : Nat) (a_md_first : Nat) (a_md_held : Nat) (md_typed : Int32) (md_known : Int32) (md_kept : Int32) (md_sights : Int32) (md_at : Int32) (md_many : Int32) (md_length : Int32) (md_set : Int32) (md_text : (Nat → Int32)) (md_told : (Nat → Int32)) (md_draft : (Nat → Int32)) (md_s : (Nat → Int32)) (md_past : (Nat → Int32)) (md_images : (Nat → Int32)) (md_seen : (Nat → Int32)) (md_asks : (Nat → Int32)) (md_brings : (Nat → Int32)) (md_uses : (Nat → Int32)) (md_days : (Nat → Int32)) (md_tries : (Nat → Int32)) (md_row : (Nat → Int32)) (md_first : (Nat → Int32)) (md_held : (Nat → Int32)) (p0 : Int32) (A : Nat → Prop) (hD : va_D A (wd_28 cC cI cJ a_md a_md_text md_typed a_md_told a_md_draft a_md_s a_md_past md_known a_md_images md_kept a_md_seen md_sights md_at a_md_asks a_md_brings a_md_uses a_md_days a_md_tries a_md_row md_many a_md_first md_length md_set a_md_held a_md_text md_text a_md_told md_told a_md_draft md_draft a_md_s md_s a_md_past md_past a_md_images md_images a_md_seen md_seen a_md_asks md_asks a_md_brings md_brings a_md_uses md_uses a_md_days md_days a_md_tries md_tries a_md_row md_row a_md_first md_first a_md_held md_held)) (out : (Int32 × Int32 × (Nat → Int32))) (hm : m_X6_write md_typed md_text p0 = some out) : WrI l yX6_write wsX6_write rX6_write D (tyK cC cI cJ) [.ref a_md, .int p0] A (wd_28 cC cI cJ a_md a_md_text md_typed a_md_told a_md_draft a_md_s a_md_past md_known a_md_images md_kept a_md_seen md_sights md_at a_md_asks a_md_brings a_md_uses a_md_days a_md_tries a_md_row md_many a_md_first md_length md_set a_md_held a_md_text md_text a_md_told md_told a_md_draft md_draft a_md_s md_s a_md_past md_past a_md_images md_images a_md_seen md_seen a_md_asks md_asks a_md_brings md_brings a_md_uses md_uses a_md_days md_days a_md_tries md_tries a_md_row md_row a_md_first md_first a_md_held md_held) (Bw0 D (wd_28 cC cI cJ a_md a_md_text out.2.1 a_md_told a_md_draft a_md_s a_md_past md_known a_md_images md_kept a_md_seen md_sights md_at a_md_asks a_md_brings a_md_uses a_md_days a_md_tries a_md_row md_many a_md_first md_length md_set a_md_held a_md_text out.2.2 a_md_told md_told a_md_draft md_draft a_md_s md_s a_md_past md_past a_md_images md_images a_md_seen md_seen a_md_asks md_asks a_md_brings md_brings a_md_uses md_uses a_md_days md_days a_md_tries md_tries a_md_row md_row a_md_first md_first a_md_held md_held)) out.1 := by
  unfold m_X6_write at hm
  refine enter (cc := cX6_write) (maxL := 2) (ret := (some .int)) (lv := [(0, .ref a_md), (1, .int p0)]) (by decide) rfl (Nat.le_of_ble_eq_true rfl) rfl ?_
  intro p e s m args below meth c S hr hlk hK hP ls hl
  replace S : CallFix p m c cX6_write 2 s args wsX6_write RX6 := S
  have hx := S.1
  have hb := S.2.1
  have hw : Wd D A s.heap (wd_28 cC cI cJ a_md a_md_text md_typed a_md_told a_md_draft a_md_s a_md_past md_known a_md_images md_kept a_md_seen md_sights md_at a_md_asks a_md_brings a_md_uses a_md_days a_md_tries a_md_row md_many a_md_first md_length md_set a_md_held a_md_text md_text a_md_told md_told a_md_draft md_draft a_md_s md_s a_md_past md_past a_md_images md_images a_md_seen md_seen a_md_asks md_asks a_md_brings md_brings a_md_uses md_uses a_md_days md_days a_md_tries md_tries a_md_row md_row a_md_first md_first a_md_held md_held) s.heap [] := ⟨hP, hD, va_S.rf⟩
  have hw0 := hw
  refine lv_iload_n hx hb dX6_write_0 rfl (lv_at hl 1 rfl) ?_
  refine lv_bipush (v := 32) hx hb dX6_write_1 (by decide) ?_
  refine lv_bipush (v := 126) hx hb dX6_write_3 (by decide) ?_
  obtain ⟨r1, h2, hm⟩ := ob hm
  refine k_rSi S hK hw.1 cal_X6_in gX6_write_X6_in (c_X6_in l D cC cI cJ p0 (32 : Int32) (126 : Int32) r1 h2) ⟨⟨rfl, rfl⟩, Nat.le_of_ble_eq_true rfl, Nat.le_of_ble_eq_true rfl⟩ [] rfl rfl hl.1 rfl (Nat.le_of_ble_eq_true rfl) dX6_write_5 ⟨Nat.zero_le _, Nat.zero_le _⟩ ?_
  refine lv_if_ne (tgt := 13) hx hb dX6_write_8 (by decide) (fun c3 => ?_) (fun c3 => ?_)
  · replace hm := ineg hm c3
    refine lv_aload_n hx hb dX6_write_13 rfl (lv_at hl 0 rfl) ?_
    refine f_get S hK hw.1 in_X6_write_X6 0 rfl rfl 1 (by decide) (List.mem_of_getElem? (i := 1) rfl) rfl rfl dX6_write_14 ?_
    refine lv_sipush (v := 200) hx hb dX6_write_17 (by decide) ?_
    refine lv_icmp_ne (tgt := 26) hx hb dX6_write_20 (by decide) (fun c4 => ?_) (fun c4 => ?_)
    · replace hm := ineg hm c4
      refine lv_aload_n hx hb dX6_write_26 rfl (lv_at hl 0 rfl) ?_
      refine f_get S hK hw.1 in_X6_write_X6 0 rfl rfl 0 (by decide) (List.mem_of_getElem? (i := 2) rfl) rfl rfl dX6_write_27 ?_
      refine lv_aload_n hx hb dX6_write_30 rfl (lv_at hl 0 rfl) ?_
      refine f_get S hK hw.1 in_X6_write_X6 0 rfl rfl 1 (by decide) (List.mem_of_getElem? (i := 1) rfl) rfl rfl dX6_write_31 ?_
      refine lv_iload_n hx hb dX6_write_34 rfl (lv_at hl 1 rfl) ?_
      obtain ⟨g5, hm⟩ := gdo hm
      refine f_iast S hK hw 1 1 rfl rfl g5 (ws1 := (wd_28 cC cI cJ a_md a_md_text md_typed a_md_told a_md_draft a_md_s a_md_past md_known a_md_images md_kept a_md_seen md_sights md_at a_md_asks a_md_brings a_md_uses a_md_days a_md_tries a_md_row md_many a_md_first md_length md_set a_md_held a_md_text (upd md_text (md_typed).toNatClampNeg p0) a_md_told md_told a_md_draft md_draft a_md_s md_s a_md_past md_past a_md_images md_images a_md_seen md_seen a_md_asks md_asks a_md_brings md_brings a_md_uses md_uses a_md_days md_days a_md_tries md_tries a_md_row md_row a_md_first md_first a_md_held md_held)) rfl dX6_write_35 (fun H locs hw => ?_)
      refine lv_aload_n hx hb dX6_write_36 rfl (lv_at hl 0 rfl) ?_
      refine lv_dup hx hb dX6_write_37 rfl ?_
      refine f_get S hK hw.1 in_X6_write_X6 0 rfl rfl 1 (by decide) (List.mem_of_getElem? (i := 1) rfl) rfl rfl dX6_write_38 ?_
      refine lv_iconst (v := 1) hx hb dX6_write_41 (by decide) ?_
      refine lv_iadd hx hb dX6_write_42 ?_
      refine f_put S hK hw in_X6_write_X6 tyX6_ok nmX6 0 rfl rfl 1 (by decide) (List.mem_of_getElem? (i := 1) rfl) rfl rfl rfl rfl (Nat.le_of_ble_eq_true rfl) (ws1 := (wd_28 cC cI cJ a_md a_md_text (md_typed + (1 : Int32)) a_md_told a_md_draft a_md_s a_md_past md_known a_md_images md_kept a_md_seen md_sights md_at a_md_asks a_md_brings a_md_uses a_md_days a_md_tries a_md_row md_many a_md_first md_length md_set a_md_held a_md_text (upd md_text (md_typed).toNatClampNeg p0) a_md_told md_told a_md_draft md_draft a_md_s md_s a_md_past md_past a_md_images md_images a_md_seen md_seen a_md_asks md_asks a_md_brings md_brings a_md_uses md_uses a_md_days md_days a_md_tries md_tries a_md_row md_row a_md_first md_first a_md_held md_held)) rfl dX6_write_43 (fun H locs hw => ?_)
      refine lv_aload_n hx hb dX6_write_46 rfl (lv_at hl 0 rfl) ?_
      refine f_get S hK hw.1 in_X6_write_X6 0 rfl rfl 1 (by decide) (List.mem_of_getElem? (i := 1) rfl) rfl rfl dX6_write_47 ?_
      obtain rfl := Option.some.inj hm
      exact e_WI S hr hlk hw rfl hw.1 dX6_write_50
    · replace hm := ipos hm c4
      refine lv_bipush (v := (-3)) hx hb dX6_write_23 (by decide) ?_
      obtain rfl := Option.some.inj hm
      exact e_WI S hr hlk hw rfl hw.1 dX6_write_25
  · replace hm := ipos hm c3
    refine lv_iconst (v := (-1)) hx hb dX6_write_11 (by decide) ?_
    obtain rfl := Option.some.inj hm
    exact e_WI S hr hlk hw rfl hw.1 dX6_write_12
