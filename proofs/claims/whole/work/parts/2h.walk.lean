/-! walks: X6_helpFor -/
abbrev rX6_helpFor : Room := { frames := 1, cells := 0, slots := 0, locals := 24 }
theorem cal_X6_helpFor : Cal yX6_helpFor wsX6_helpFor cX6_helpFor 8 (some .int) RX6 3 := ⟨⟨_, rfl⟩, rfl, by decide +kernel, by decide +kernel, by decide +kernel⟩
theorem in_X6_helpFor_X6 : ∀ w ∈ wsX60, w ∈ wsX6_helpFor := fun _ h => (List.mem_cons_of_mem _ (List.mem_append_right _ h))
set_option maxHeartbeats 4000000 in
set_option maxRecDepth 100000 in
theorem c_X6_helpFor (l : Launch) (D : va_G) (cC cI cJ : ClassId) (a_md : Nat) (a_md_text : Nat) (a_md_told : Nat) (a_md_draft : Nat) (a_md_s : Nat) (a_md_past : Nat) (a_md_images : Nat) (a_md_seen : Nat) (a_md_asks : Nat) (a_md_brings : Nat) (a_md_uses : Nat) (a_md_days : Nat) (a_md_tries : Nat) (a_md_row : Nat) (a_md_first : Nat) (a_md_held : Nat) (md_typed : Int32) (md_known : Int32) (md_kept : Int32) (md_sights : Int32) (md_at : Int32) (md_many : Int32) (md_length : Int32) (md_set : Int32) (md_text : (Nat → Int32)) (md_told : (Nat → Int32)) (md_draft : (Nat → Int32)) (md_s : (Nat → Int32)) (md_past : (Nat → Int32)) (md_images : (Nat → Int32)) (md_seen : (Nat → Int32)) (md_asks : (Nat → Int32)) (md_brings : (Nat → Int32)) (md_uses : (Nat → Int32)) (md_days : (Nat → Int32)) (md_tries : (Nat → Int32)) (md_row : (Nat → Int32)) (md_first : (Nat → Int32)) (md_held : (Nat → Int32)) (p0 : Int32) (p1 : Int32) (p2 : Int32) (N : Nat) (out : Int32) (hm : m_X6_helpFor N md_told p0 p1 p2 = some out) : RdI l yX6_helpFor wsX6_helpFor rX6_helpFor D (tyK cC cI cJ) [.ref a_md, .int p0, .int p1, .int p2] (wd_28 cC cI cJ a_md a_md_text md_typed a_md_told a_md_draft a_md_s a_md_past md_known a_md_images md_kept a_md_seen md_sights md_at a_md_asks a_md_brings a_md_uses a_md_days a_md_tries a_md_row md_many a_md_first md_length md_set a_md_held a_md_text md_text a_md_told md_told a_md_draft md_draft a_md_s md_s a_md_past md_past a_md_images md_images a_md_seen md_seen a_md_asks md_asks a_md_brings md_brings a_md_uses md_uses a_md_days md_days a_md_tries md_tries a_md_row md_row a_md_first md_first a_md_held md_held) out := by
  unfold m_X6_helpFor at hm
  refine enter (cc := cX6_helpFor) (maxL := 8) (ret := (some .int)) (lv := [(0, .ref a_md), (1, .int p0), (2, .int p1), (3, .int p2)]) (by decide) rfl (Nat.le_of_ble_eq_true rfl) rfl ?_
  intro p e s m args below meth c S hr hlk hK hP ls hl
  replace S : CallFix p m c cX6_helpFor 8 s args wsX6_helpFor RX6 := S
  have hx := S.1
  have hb := S.2.1
  refine lv_aload_n hx hb dX6_helpFor_0 rfl (lv_at hl 0 rfl) ?_
  refine f_get S hK hP in_X6_helpFor_X6 0 rfl rfl 2 (by decide) (List.mem_of_getElem? (i := 1) rfl) rfl rfl dX6_helpFor_1 ?_
  refine lv_iconst (v := 5) hx hb dX6_helpFor_4 (by decide) ?_
  refine lv_iload_n hx hb dX6_helpFor_5 rfl (lv_at hl 1 rfl) ?_
  refine lv_iadd hx hb dX6_helpFor_6 ?_
  obtain ⟨g1, hm⟩ := gdo hm
  refine f_iald S hK hP 2 1 rfl rfl g1 dX6_helpFor_7 ?_
  obtain ⟨y2, e3, hm⟩ := ob hm
  refine f_name e3 ?_
  refine lv_istore (lv' := [(4, .int y2), (0, .ref a_md), (1, .int p0), (2, .int p1), (3, .int p2)]) hx hb dX6_helpFor_8 hl (by decide) rfl (fun ls hl => ?_)
  refine lv_aload_n hx hb dX6_helpFor_10 rfl (lv_at hl 1 rfl) ?_
  refine f_get S hK hP in_X6_helpFor_X6 0 rfl rfl 2 (by decide) (List.mem_of_getElem? (i := 1) rfl) rfl rfl dX6_helpFor_11 ?_
  refine lv_bipush (v := 21) hx hb dX6_helpFor_14 (by decide) ?_
  refine lv_iload_n hx hb dX6_helpFor_16 rfl (lv_at hl 2 rfl) ?_
  refine lv_iadd hx hb dX6_helpFor_17 ?_
  obtain ⟨g4, hm⟩ := gdo hm
  refine f_iald S hK hP 2 1 rfl rfl g4 dX6_helpFor_18 ?_
  obtain ⟨y5, e6, hm⟩ := ob hm
  refine f_name e6 ?_
  refine lv_istore (lv' := [(5, .int y5), (4, .int y2), (0, .ref a_md), (1, .int p0), (2, .int p1), (3, .int p2)]) hx hb dX6_helpFor_19 hl (by decide) rfl (fun ls hl => ?_)
  refine lv_iload hx hb dX6_helpFor_21 (lv_at hl 1 rfl) ?_
  refine lv_iconst (v := 2) hx hb dX6_helpFor_23 (by decide) ?_
  refine lv_icmp_ne (tgt := 29) hx hb dX6_helpFor_24 (by decide) (fun c7 => ?_) (fun c7 => ?_)
  · replace hm := ineg hm c7
    refine lv_iload hx hb dX6_helpFor_29 (lv_at hl 1 rfl) ?_
    refine lv_iconst (v := 4) hx hb dX6_helpFor_31 (by decide) ?_
    refine lv_icmp_ne (tgt := 43) hx hb dX6_helpFor_32 (by decide) (fun c8 => ?_) (fun c8 => ?_)
    · replace hm := ineg hm c8
      refine lv_iload hx hb dX6_helpFor_43 (lv_at hl 0 rfl) ?_
      refine lv_iconst (v := 5) hx hb dX6_helpFor_45 (by decide) ?_
      refine lv_icmp_ne (tgt := 53) hx hb dX6_helpFor_46 (by decide) (fun c9 => ?_) (fun c9 => ?_)
      · replace hm := ineg hm c9
        refine lv_aload_n hx hb dX6_helpFor_53 rfl (lv_at hl 2 rfl) ?_
        refine lv_iload_n hx hb dX6_helpFor_54 rfl (lv_at hl 4 rfl) ?_
        refine lv_iload hx hb dX6_helpFor_55 (lv_at hl 0 rfl) ?_
        obtain ⟨r10, h11, hm⟩ := ob hm
        refine k_rVi S hK hP cal_X6_lowest gX6_helpFor_X6_lowest (c_X6_lowest l D cC cI cJ a_md a_md_text a_md_told a_md_draft a_md_s a_md_past a_md_images a_md_seen a_md_asks a_md_brings a_md_uses a_md_days a_md_tries a_md_row a_md_first a_md_held md_typed md_known md_kept md_sights md_at md_many md_length md_set md_text md_told md_draft md_s md_past md_images md_seen md_asks md_brings md_uses md_days md_tries md_row md_first md_held p1 y5 N r10 h11) ⟨⟨rfl, rfl⟩, Nat.le_of_ble_eq_true rfl, Nat.le_of_ble_eq_true rfl⟩ [0, 1, 2, 3, 4, 5, 6, 7, 8, 9, 10, 11, 12, 13, 14, 15] rfl 0 rfl rfl rfl hl.1 rfl (Nat.le_of_ble_eq_true rfl) dX6_helpFor_57 ⟨Nat.zero_le _, Nat.zero_le _⟩ ?_
        refine lv_istore (lv' := [(6, .int r10), (5, .int y5), (4, .int y2), (0, .ref a_md), (1, .int p0), (2, .int p1), (3, .int p2)]) hx hb dX6_helpFor_60 hl (by decide) rfl (fun ls hl => ?_)
        refine lv_iload hx hb dX6_helpFor_62 (lv_at hl 1 rfl) ?_
        refine lv_iconst (v := 5) hx hb dX6_helpFor_64 (by decide) ?_
        refine lv_icmp_eq (tgt := 75) hx hb dX6_helpFor_65 (by decide) (fun c12 => ?_) (fun c12 => ?_)
        · replace hm := ipos hm c12
          refine lv_iload hx hb dX6_helpFor_75 (lv_at hl 2 rfl) ?_
          refine lv_iconst (v := 3) hx hb dX6_helpFor_77 (by decide) ?_
          refine lv_icmp_eq (tgt := 93) hx hb dX6_helpFor_78 (by decide) (fun c13 => ?_) (fun c13 => ?_)
          · replace hm := ipos hm c13
            refine lv_aload_n hx hb dX6_helpFor_93 rfl (lv_at hl 3 rfl) ?_
            refine lv_iload_n hx hb dX6_helpFor_94 rfl (lv_at hl 5 rfl) ?_
            refine lv_iload hx hb dX6_helpFor_95 (lv_at hl 0 rfl) ?_
            refine lv_iconst (v := (-1)) hx hb dX6_helpFor_97 (by decide) ?_
            refine lv_ixor hx hb dX6_helpFor_98 ?_
            refine lv_iand hx hb dX6_helpFor_99 ?_
            refine lv_iload hx hb dX6_helpFor_100 (lv_at hl 2 rfl) ?_
            refine lv_iconst (v := 3) hx hb dX6_helpFor_102 (by decide) ?_
            refine lv_icmp_ne (tgt := 110) hx hb dX6_helpFor_103 (by decide) (fun c14 => ?_) (fun c14 => ?_)
            · replace hm := ineg hm c14
              refine lv_iload hx hb dX6_helpFor_110 (lv_at hl 1 rfl) ?_
              obtain ⟨r15, h16, hm⟩ := ob hm
              refine k_rVi S hK hP cal_X6_lowest gX6_helpFor_X6_lowest (c_X6_lowest l D cC cI cJ a_md a_md_text a_md_told a_md_draft a_md_s a_md_past a_md_images a_md_seen a_md_asks a_md_brings a_md_uses a_md_days a_md_tries a_md_row a_md_first a_md_held md_typed md_known md_kept md_sights md_at md_many md_length md_set md_text md_told md_draft md_s md_past md_images md_seen md_asks md_brings md_uses md_days md_tries md_row md_first md_held (p1 &&& (r10 ^^^ (-1 : Int32))) y5 N r15 h16) ⟨⟨rfl, rfl⟩, Nat.le_of_ble_eq_true rfl, Nat.le_of_ble_eq_true rfl⟩ [0, 1, 2, 3, 4, 5, 6, 7, 8, 9, 10, 11, 12, 13, 14, 15] rfl 0 rfl rfl rfl hl.1 rfl (Nat.le_of_ble_eq_true rfl) dX6_helpFor_112 ⟨Nat.zero_le _, Nat.zero_le _⟩ ?_
              refine lv_istore (lv' := [(7, .int r15), (6, .int r10), (5, .int y5), (4, .int y2), (0, .ref a_md), (1, .int p0), (2, .int p1), (3, .int p2)]) hx hb dX6_helpFor_115 hl (by decide) rfl (fun ls hl => ?_)
              refine lv_iload hx hb dX6_helpFor_117 (lv_at hl 0 rfl) ?_
              refine lv_if_ne (tgt := 126) hx hb dX6_helpFor_119 (by decide) (fun c17 => ?_) (fun c17 => ?_)
              · replace hm := ineg hm c17
                refine lv_iload hx hb dX6_helpFor_126 (lv_at hl 1 rfl) ?_
                refine lv_iload hx hb dX6_helpFor_128 (lv_at hl 0 rfl) ?_
                refine lv_ior hx hb dX6_helpFor_130 ?_
                exact e_RI S hr hlk (Option.some.inj hm) dX6_helpFor_131
              · replace hm := ipos hm c17
                refine lv_iconst (v := (-1)) hx hb dX6_helpFor_122 (by decide) ?_
                refine lv_goto (tgt := 131) hx hb dX6_helpFor_123 (by decide) ?_
                exact e_RI S hr hlk (Option.some.inj hm) dX6_helpFor_131
            · replace hm := ipos hm c14
              refine lv_iconst (v := (-1)) hx hb dX6_helpFor_106 (by decide) ?_
              refine lv_goto (tgt := 112) hx hb dX6_helpFor_107 (by decide) ?_
              obtain ⟨r18, h19, hm⟩ := ob hm
              refine k_rVi S hK hP cal_X6_lowest gX6_helpFor_X6_lowest (c_X6_lowest l D cC cI cJ a_md a_md_text a_md_told a_md_draft a_md_s a_md_past a_md_images a_md_seen a_md_asks a_md_brings a_md_uses a_md_days a_md_tries a_md_row a_md_first a_md_held md_typed md_known md_kept md_sights md_at md_many md_length md_set md_text md_told md_draft md_s md_past md_images md_seen md_asks md_brings md_uses md_days md_tries md_row md_first md_held (p1 &&& (r10 ^^^ (-1 : Int32))) (-1 : Int32) N r18 h19) ⟨⟨rfl, rfl⟩, Nat.le_of_ble_eq_true rfl, Nat.le_of_ble_eq_true rfl⟩ [0, 1, 2, 3, 4, 5, 6, 7, 8, 9, 10, 11, 12, 13, 14, 15] rfl 0 rfl rfl rfl hl.1 rfl (Nat.le_of_ble_eq_true rfl) dX6_helpFor_112 ⟨Nat.zero_le _, Nat.zero_le _⟩ ?_
              refine lv_istore (lv' := [(7, .int r18), (6, .int r10), (5, .int y5), (4, .int y2), (0, .ref a_md), (1, .int p0), (2, .int p1), (3, .int p2)]) hx hb dX6_helpFor_115 hl (by decide) rfl (fun ls hl => ?_)
              refine lv_iload hx hb dX6_helpFor_117 (lv_at hl 0 rfl) ?_
              refine lv_if_ne (tgt := 126) hx hb dX6_helpFor_119 (by decide) (fun c20 => ?_) (fun c20 => ?_)
              · replace hm := ineg hm c20
                refine lv_iload hx hb dX6_helpFor_126 (lv_at hl 1 rfl) ?_
                refine lv_iload hx hb dX6_helpFor_128 (lv_at hl 0 rfl) ?_
                refine lv_ior hx hb dX6_helpFor_130 ?_
                exact e_RI S hr hlk (Option.some.inj hm) dX6_helpFor_131
              · replace hm := ipos hm c20
                refine lv_iconst (v := (-1)) hx hb dX6_helpFor_122 (by decide) ?_
                refine lv_goto (tgt := 131) hx hb dX6_helpFor_123 (by decide) ?_
                exact e_RI S hr hlk (Option.some.inj hm) dX6_helpFor_131
          · replace hm := ineg hm c13
            refine lv_iload hx hb dX6_helpFor_81 (lv_at hl 2 rfl) ?_
            refine lv_iconst (v := 1) hx hb dX6_helpFor_83 (by decide) ?_
            refine lv_icmp_ne (tgt := 132) hx hb dX6_helpFor_84 (by decide) (fun c21 => ?_) (fun c21 => ?_)
            · replace hm := ineg hm c21
              refine lv_iload hx hb dX6_helpFor_132 (lv_at hl 0 rfl) ?_
              exact e_RI S hr hlk (Option.some.inj hm) dX6_helpFor_134
            · replace hm := ipos hm c21
              refine lv_iload hx hb dX6_helpFor_87 (lv_at hl 1 rfl) ?_
              refine lv_iconst (v := 5) hx hb dX6_helpFor_89 (by decide) ?_
              refine lv_icmp_eq (tgt := 132) hx hb dX6_helpFor_90 (by decide) (fun c22 => ?_) (fun c22 => ?_)
              · replace hm := ipos hm c22
                refine lv_iload hx hb dX6_helpFor_132 (lv_at hl 0 rfl) ?_
                exact e_RI S hr hlk (Option.some.inj hm) dX6_helpFor_134
              · replace hm := ineg hm c22
                refine lv_aload_n hx hb dX6_helpFor_93 rfl (lv_at hl 3 rfl) ?_
                refine lv_iload_n hx hb dX6_helpFor_94 rfl (lv_at hl 5 rfl) ?_
                refine lv_iload hx hb dX6_helpFor_95 (lv_at hl 0 rfl) ?_
                refine lv_iconst (v := (-1)) hx hb dX6_helpFor_97 (by decide) ?_
                refine lv_ixor hx hb dX6_helpFor_98 ?_
                refine lv_iand hx hb dX6_helpFor_99 ?_
                refine lv_iload hx hb dX6_helpFor_100 (lv_at hl 2 rfl) ?_
                refine lv_iconst (v := 3) hx hb dX6_helpFor_102 (by decide) ?_
                refine lv_icmp_ne (tgt := 110) hx hb dX6_helpFor_103 (by decide) (fun c23 => ?_) (fun c23 => ?_)
                · replace hm := ineg hm c23
                  refine lv_iload hx hb dX6_helpFor_110 (lv_at hl 1 rfl) ?_
                  obtain ⟨r24, h25, hm⟩ := ob hm
                  refine k_rVi S hK hP cal_X6_lowest gX6_helpFor_X6_lowest (c_X6_lowest l D cC cI cJ a_md a_md_text a_md_told a_md_draft a_md_s a_md_past a_md_images a_md_seen a_md_asks a_md_brings a_md_uses a_md_days a_md_tries a_md_row a_md_first a_md_held md_typed md_known md_kept md_sights md_at md_many md_length md_set md_text md_told md_draft md_s md_past md_images md_seen md_asks md_brings md_uses md_days md_tries md_row md_first md_held (p1 &&& (r10 ^^^ (-1 : Int32))) y5 N r24 h25) ⟨⟨rfl, rfl⟩, Nat.le_of_ble_eq_true rfl, Nat.le_of_ble_eq_true rfl⟩ [0, 1, 2, 3, 4, 5, 6, 7, 8, 9, 10, 11, 12, 13, 14, 15] rfl 0 rfl rfl rfl hl.1 rfl (Nat.le_of_ble_eq_true rfl) dX6_helpFor_112 ⟨Nat.zero_le _, Nat.zero_le _⟩ ?_
                  refine lv_istore (lv' := [(7, .int r24), (6, .int r10), (5, .int y5), (4, .int y2), (0, .ref a_md), (1, .int p0), (2, .int p1), (3, .int p2)]) hx hb dX6_helpFor_115 hl (by decide) rfl (fun ls hl => ?_)
                  refine lv_iload hx hb dX6_helpFor_117 (lv_at hl 0 rfl) ?_
                  refine lv_if_ne (tgt := 126) hx hb dX6_helpFor_119 (by decide) (fun c26 => ?_) (fun c26 => ?_)
                  · replace hm := ineg hm c26
                    refine lv_iload hx hb dX6_helpFor_126 (lv_at hl 1 rfl) ?_
                    refine lv_iload hx hb dX6_helpFor_128 (lv_at hl 0 rfl) ?_
                    refine lv_ior hx hb dX6_helpFor_130 ?_
                    exact e_RI S hr hlk (Option.some.inj hm) dX6_helpFor_131
                  · replace hm := ipos hm c26
                    refine lv_iconst (v := (-1)) hx hb dX6_helpFor_122 (by decide) ?_
                    refine lv_goto (tgt := 131) hx hb dX6_helpFor_123 (by decide) ?_
                    exact e_RI S hr hlk (Option.some.inj hm) dX6_helpFor_131
                · replace hm := ipos hm c23
                  refine lv_iconst (v := (-1)) hx hb dX6_helpFor_106 (by decide) ?_
                  refine lv_goto (tgt := 112) hx hb dX6_helpFor_107 (by decide) ?_
                  obtain ⟨r27, h28, hm⟩ := ob hm
                  refine k_rVi S hK hP cal_X6_lowest gX6_helpFor_X6_lowest (c_X6_lowest l D cC cI cJ a_md a_md_text a_md_told a_md_draft a_md_s a_md_past a_md_images a_md_seen a_md_asks a_md_brings a_md_uses a_md_days a_md_tries a_md_row a_md_first a_md_held md_typed md_known md_kept md_sights md_at md_many md_length md_set md_text md_told md_draft md_s md_past md_images md_seen md_asks md_brings md_uses md_days md_tries md_row md_first md_held (p1 &&& (r10 ^^^ (-1 : Int32))) (-1 : Int32) N r27 h28) ⟨⟨rfl, rfl⟩, Nat.le_of_ble_eq_true rfl, Nat.le_of_ble_eq_true rfl⟩ [0, 1, 2, 3, 4, 5, 6, 7, 8, 9, 10, 11, 12, 13, 14, 15] rfl 0 rfl rfl rfl hl.1 rfl (Nat.le_of_ble_eq_true rfl) dX6_helpFor_112 ⟨Nat.zero_le _, Nat.zero_le _⟩ ?_
                  refine lv_istore (lv' := [(7, .int r27), (6, .int r10), (5, .int y5), (4, .int y2), (0, .ref a_md), (1, .int p0), (2, .int p1), (3, .int p2)]) hx hb dX6_helpFor_115 hl (by decide) rfl (fun ls hl => ?_)
                  refine lv_iload hx hb dX6_helpFor_117 (lv_at hl 0 rfl) ?_
                  refine lv_if_ne (tgt := 126) hx hb dX6_helpFor_119 (by decide) (fun c29 => ?_) (fun c29 => ?_)
                  · replace hm := ineg hm c29
                    refine lv_iload hx hb dX6_helpFor_126 (lv_at hl 1 rfl) ?_
                    refine lv_iload hx hb dX6_helpFor_128 (lv_at hl 0 rfl) ?_
                    refine lv_ior hx hb dX6_helpFor_130 ?_
                    exact e_RI S hr hlk (Option.some.inj hm) dX6_helpFor_131
                  · replace hm := ipos hm c29
                    refine lv_iconst (v := (-1)) hx hb dX6_helpFor_122 (by decide) ?_
                    refine lv_goto (tgt := 131) hx hb dX6_helpFor_123 (by decide) ?_
                    exact e_RI S hr hlk (Option.some.inj hm) dX6_helpFor_131
        · replace hm := ineg hm c12
          refine lv_iload hx hb dX6_helpFor_68 (lv_at hl 0 rfl) ?_
          refine lv_if_ne (tgt := 75) hx hb dX6_helpFor_70 (by decide) (fun c30 => ?_) (fun c30 => ?_)
          · replace hm := ineg hm c30
            refine lv_iload hx hb dX6_helpFor_75 (lv_at hl 2 rfl) ?_
            refine lv_iconst (v := 3) hx hb dX6_helpFor_77 (by decide) ?_
            refine lv_icmp_eq (tgt := 93) hx hb dX6_helpFor_78 (by decide) (fun c31 => ?_) (fun c31 => ?_)
            · replace hm := ipos hm c31
              refine lv_aload_n hx hb dX6_helpFor_93 rfl (lv_at hl 3 rfl) ?_
              refine lv_iload_n hx hb dX6_helpFor_94 rfl (lv_at hl 5 rfl) ?_
              refine lv_iload hx hb dX6_helpFor_95 (lv_at hl 0 rfl) ?_
              refine lv_iconst (v := (-1)) hx hb dX6_helpFor_97 (by decide) ?_
              refine lv_ixor hx hb dX6_helpFor_98 ?_
              refine lv_iand hx hb dX6_helpFor_99 ?_
              refine lv_iload hx hb dX6_helpFor_100 (lv_at hl 2 rfl) ?_
              refine lv_iconst (v := 3) hx hb dX6_helpFor_102 (by decide) ?_
              refine lv_icmp_ne (tgt := 110) hx hb dX6_helpFor_103 (by decide) (fun c32 => ?_) (fun c32 => ?_)
              · replace hm := ineg hm c32
                refine lv_iload hx hb dX6_helpFor_110 (lv_at hl 1 rfl) ?_
                obtain ⟨r33, h34, hm⟩ := ob hm
                refine k_rVi S hK hP cal_X6_lowest gX6_helpFor_X6_lowest (c_X6_lowest l D cC cI cJ a_md a_md_text a_md_told a_md_draft a_md_s a_md_past a_md_images a_md_seen a_md_asks a_md_brings a_md_uses a_md_days a_md_tries a_md_row a_md_first a_md_held md_typed md_known md_kept md_sights md_at md_many md_length md_set md_text md_told md_draft md_s md_past md_images md_seen md_asks md_brings md_uses md_days md_tries md_row md_first md_held (p1 &&& (r10 ^^^ (-1 : Int32))) y5 N r33 h34) ⟨⟨rfl, rfl⟩, Nat.le_of_ble_eq_true rfl, Nat.le_of_ble_eq_true rfl⟩ [0, 1, 2, 3, 4, 5, 6, 7, 8, 9, 10, 11, 12, 13, 14, 15] rfl 0 rfl rfl rfl hl.1 rfl (Nat.le_of_ble_eq_true rfl) dX6_helpFor_112 ⟨Nat.zero_le _, Nat.zero_le _⟩ ?_
                refine lv_istore (lv' := [(7, .int r33), (6, .int r10), (5, .int y5), (4, .int y2), (0, .ref a_md), (1, .int p0), (2, .int p1), (3, .int p2)]) hx hb dX6_helpFor_115 hl (by decide) rfl (fun ls hl => ?_)
                refine lv_iload hx hb dX6_helpFor_117 (lv_at hl 0 rfl) ?_
                refine lv_if_ne (tgt := 126) hx hb dX6_helpFor_119 (by decide) (fun c35 => ?_) (fun c35 => ?_)
                · replace hm := ineg hm c35
                  refine lv_iload hx hb dX6_helpFor_126 (lv_at hl 1 rfl) ?_
                  refine lv_iload hx hb dX6_helpFor_128 (lv_at hl 0 rfl) ?_
                  refine lv_ior hx hb dX6_helpFor_130 ?_
                  exact e_RI S hr hlk (Option.some.inj hm) dX6_helpFor_131
                · replace hm := ipos hm c35
                  refine lv_iconst (v := (-1)) hx hb dX6_helpFor_122 (by decide) ?_
                  refine lv_goto (tgt := 131) hx hb dX6_helpFor_123 (by decide) ?_
                  exact e_RI S hr hlk (Option.some.inj hm) dX6_helpFor_131
              · replace hm := ipos hm c32
                refine lv_iconst (v := (-1)) hx hb dX6_helpFor_106 (by decide) ?_
                refine lv_goto (tgt := 112) hx hb dX6_helpFor_107 (by decide) ?_
                obtain ⟨r36, h37, hm⟩ := ob hm
                refine k_rVi S hK hP cal_X6_lowest gX6_helpFor_X6_lowest (c_X6_lowest l D cC cI cJ a_md a_md_text a_md_told a_md_draft a_md_s a_md_past a_md_images a_md_seen a_md_asks a_md_brings a_md_uses a_md_days a_md_tries a_md_row a_md_first a_md_held md_typed md_known md_kept md_sights md_at md_many md_length md_set md_text md_told md_draft md_s md_past md_images md_seen md_asks md_brings md_uses md_days md_tries md_row md_first md_held (p1 &&& (r10 ^^^ (-1 : Int32))) (-1 : Int32) N r36 h37) ⟨⟨rfl, rfl⟩, Nat.le_of_ble_eq_true rfl, Nat.le_of_ble_eq_true rfl⟩ [0, 1, 2, 3, 4, 5, 6, 7, 8, 9, 10, 11, 12, 13, 14, 15] rfl 0 rfl rfl rfl hl.1 rfl (Nat.le_of_ble_eq_true rfl) dX6_helpFor_112 ⟨Nat.zero_le _, Nat.zero_le _⟩ ?_
                refine lv_istore (lv' := [(7, .int r36), (6, .int r10), (5, .int y5), (4, .int y2), (0, .ref a_md), (1, .int p0), (2, .int p1), (3, .int p2)]) hx hb dX6_helpFor_115 hl (by decide) rfl (fun ls hl => ?_)
                refine lv_iload hx hb dX6_helpFor_117 (lv_at hl 0 rfl) ?_
                refine lv_if_ne (tgt := 126) hx hb dX6_helpFor_119 (by decide) (fun c38 => ?_) (fun c38 => ?_)
                · replace hm := ineg hm c38
                  refine lv_iload hx hb dX6_helpFor_126 (lv_at hl 1 rfl) ?_
                  refine lv_iload hx hb dX6_helpFor_128 (lv_at hl 0 rfl) ?_
                  refine lv_ior hx hb dX6_helpFor_130 ?_
                  exact e_RI S hr hlk (Option.some.inj hm) dX6_helpFor_131
                · replace hm := ipos hm c38
                  refine lv_iconst (v := (-1)) hx hb dX6_helpFor_122 (by decide) ?_
                  refine lv_goto (tgt := 131) hx hb dX6_helpFor_123 (by decide) ?_
                  exact e_RI S hr hlk (Option.some.inj hm) dX6_helpFor_131
            · replace hm := ineg hm c31
              refine lv_iload hx hb dX6_helpFor_81 (lv_at hl 2 rfl) ?_
              refine lv_iconst (v := 1) hx hb dX6_helpFor_83 (by decide) ?_
              refine lv_icmp_ne (tgt := 132) hx hb dX6_helpFor_84 (by decide) (fun c39 => ?_) (fun c39 => ?_)
              · replace hm := ineg hm c39
                refine lv_iload hx hb dX6_helpFor_132 (lv_at hl 0 rfl) ?_
                exact e_RI S hr hlk (Option.some.inj hm) dX6_helpFor_134
              · replace hm := ipos hm c39
                refine lv_iload hx hb dX6_helpFor_87 (lv_at hl 1 rfl) ?_
                refine lv_iconst (v := 5) hx hb dX6_helpFor_89 (by decide) ?_
                refine lv_icmp_eq (tgt := 132) hx hb dX6_helpFor_90 (by decide) (fun c40 => ?_) (fun c40 => ?_)
                · replace hm := ipos hm c40
                  refine lv_iload hx hb dX6_helpFor_132 (lv_at hl 0 rfl) ?_
                  exact e_RI S hr hlk (Option.some.inj hm) dX6_helpFor_134
                · replace hm := ineg hm c40
                  refine lv_aload_n hx hb dX6_helpFor_93 rfl (lv_at hl 3 rfl) ?_
                  refine lv_iload_n hx hb dX6_helpFor_94 rfl (lv_at hl 5 rfl) ?_
                  refine lv_iload hx hb dX6_helpFor_95 (lv_at hl 0 rfl) ?_
                  refine lv_iconst (v := (-1)) hx hb dX6_helpFor_97 (by decide) ?_
                  refine lv_ixor hx hb dX6_helpFor_98 ?_
                  refine lv_iand hx hb dX6_helpFor_99 ?_
                  refine lv_iload hx hb dX6_helpFor_100 (lv_at hl 2 rfl) ?_
                  refine lv_iconst (v := 3) hx hb dX6_helpFor_102 (by decide) ?_
                  refine lv_icmp_ne (tgt := 110) hx hb dX6_helpFor_103 (by decide) (fun c41 => ?_) (fun c41 => ?_)
                  · replace hm := ineg hm c41
                    refine lv_iload hx hb dX6_helpFor_110 (lv_at hl 1 rfl) ?_
                    obtain ⟨r42, h43, hm⟩ := ob hm
                    refine k_rVi S hK hP cal_X6_lowest gX6_helpFor_X6_lowest (c_X6_lowest l D cC cI cJ a_md a_md_text a_md_told a_md_draft a_md_s a_md_past a_md_images a_md_seen a_md_asks a_md_brings a_md_uses a_md_days a_md_tries a_md_row a_md_first a_md_held md_typed md_known md_kept md_sights md_at md_many md_length md_set md_text md_told md_draft md_s md_past md_images md_seen md_asks md_brings md_uses md_days md_tries md_row md_first md_held (p1 &&& (r10 ^^^ (-1 : Int32))) y5 N r42 h43) ⟨⟨rfl, rfl⟩, Nat.le_of_ble_eq_true rfl, Nat.le_of_ble_eq_true rfl⟩ [0, 1, 2, 3, 4, 5, 6, 7, 8, 9, 10, 11, 12, 13, 14, 15] rfl 0 rfl rfl rfl hl.1 rfl (Nat.le_of_ble_eq_true rfl) dX6_helpFor_112 ⟨Nat.zero_le _, Nat.zero_le _⟩ ?_
                    refine lv_istore (lv' := [(7, .int r42), (6, .int r10), (5, .int y5), (4, .int y2), (0, .ref a_md), (1, .int p0), (2, .int p1), (3, .int p2)]) hx hb dX6_helpFor_115 hl (by decide) rfl (fun ls hl => ?_)
                    refine lv_iload hx hb dX6_helpFor_117 (lv_at hl 0 rfl) ?_
                    refine lv_if_ne (tgt := 126) hx hb dX6_helpFor_119 (by decide) (fun c44 => ?_) (fun c44 => ?_)
                    · replace hm := ineg hm c44
                      refine lv_iload hx hb dX6_helpFor_126 (lv_at hl 1 rfl) ?_
                      refine lv_iload hx hb dX6_helpFor_128 (lv_at hl 0 rfl) ?_
                      refine lv_ior hx hb dX6_helpFor_130 ?_
                      exact e_RI S hr hlk (Option.some.inj hm) dX6_helpFor_131
                    · replace hm := ipos hm c44
                      refine lv_iconst (v := (-1)) hx hb dX6_helpFor_122 (by decide) ?_
                      refine lv_goto (tgt := 131) hx hb dX6_helpFor_123 (by decide) ?_
                      exact e_RI S hr hlk (Option.some.inj hm) dX6_helpFor_131
                  · replace hm := ipos hm c41
                    refine lv_iconst (v := (-1)) hx hb dX6_helpFor_106 (by decide) ?_
                    refine lv_goto (tgt := 112) hx hb dX6_helpFor_107 (by decide) ?_
                    obtain ⟨r45, h46, hm⟩ := ob hm
                    refine k_rVi S hK hP cal_X6_lowest gX6_helpFor_X6_lowest (c_X6_lowest l D cC cI cJ a_md a_md_text a_md_told a_md_draft a_md_s a_md_past a_md_images a_md_seen a_md_asks a_md_brings a_md_uses a_md_days a_md_tries a_md_row a_md_first a_md_held md_typed md_known md_kept md_sights md_at md_many md_length md_set md_text md_told md_draft md_s md_past md_images md_seen md_asks md_brings md_uses md_days md_tries md_row md_first md_held (p1 &&& (r10 ^^^ (-1 : Int32))) (-1 : Int32) N r45 h46) ⟨⟨rfl, rfl⟩, Nat.le_of_ble_eq_true rfl, Nat.le_of_ble_eq_true rfl⟩ [0, 1, 2, 3, 4, 5, 6, 7, 8, 9, 10, 11, 12, 13, 14, 15] rfl 0 rfl rfl rfl hl.1 rfl (Nat.le_of_ble_eq_true rfl) dX6_helpFor_112 ⟨Nat.zero_le _, Nat.zero_le _⟩ ?_
                    refine lv_istore (lv' := [(7, .int r45), (6, .int r10), (5, .int y5), (4, .int y2), (0, .ref a_md), (1, .int p0), (2, .int p1), (3, .int p2)]) hx hb dX6_helpFor_115 hl (by decide) rfl (fun ls hl => ?_)
                    refine lv_iload hx hb dX6_helpFor_117 (lv_at hl 0 rfl) ?_
                    refine lv_if_ne (tgt := 126) hx hb dX6_helpFor_119 (by decide) (fun c47 => ?_) (fun c47 => ?_)
                    · replace hm := ineg hm c47
                      refine lv_iload hx hb dX6_helpFor_126 (lv_at hl 1 rfl) ?_
                      refine lv_iload hx hb dX6_helpFor_128 (lv_at hl 0 rfl) ?_
                      refine lv_ior hx hb dX6_helpFor_130 ?_
                      exact e_RI S hr hlk (Option.some.inj hm) dX6_helpFor_131
                    · replace hm := ipos hm c47
                      refine lv_iconst (v := (-1)) hx hb dX6_helpFor_122 (by decide) ?_
                      refine lv_goto (tgt := 131) hx hb dX6_helpFor_123 (by decide) ?_
                      exact e_RI S hr hlk (Option.some.inj hm) dX6_helpFor_131
          · replace hm := ipos hm c30
            refine lv_iconst (v := (-1)) hx hb dX6_helpFor_73 (by decide) ?_
            exact e_RI S hr hlk (Option.some.inj hm) dX6_helpFor_74
      · replace hm := ipos hm c9
        refine lv_iconst (v := 0) hx hb dX6_helpFor_49 (by decide) ?_
        refine lv_goto (tgt := 60) hx hb dX6_helpFor_50 (by decide) ?_
        refine lv_istore (lv' := [(6, .int (0 : Int32)), (5, .int y5), (4, .int y2), (0, .ref a_md), (1, .int p0), (2, .int p1), (3, .int p2)]) hx hb dX6_helpFor_60 hl (by decide) rfl (fun ls hl => ?_)
        refine lv_iload hx hb dX6_helpFor_62 (lv_at hl 1 rfl) ?_
        refine lv_iconst (v := 5) hx hb dX6_helpFor_64 (by decide) ?_
        refine lv_icmp_eq (tgt := 75) hx hb dX6_helpFor_65 (by decide) (fun c48 => ?_) (fun c48 => ?_)
        · replace hm := ipos hm c48
          refine lv_iload hx hb dX6_helpFor_75 (lv_at hl 2 rfl) ?_
          refine lv_iconst (v := 3) hx hb dX6_helpFor_77 (by decide) ?_
          refine lv_icmp_eq (tgt := 93) hx hb dX6_helpFor_78 (by decide) (fun c49 => ?_) (fun c49 => ?_)
          · replace hm := ipos hm c49
            refine lv_aload_n hx hb dX6_helpFor_93 rfl (lv_at hl 3 rfl) ?_
            refine lv_iload_n hx hb dX6_helpFor_94 rfl (lv_at hl 5 rfl) ?_
            refine lv_iload hx hb dX6_helpFor_95 (lv_at hl 0 rfl) ?_
            refine lv_iconst (v := (-1)) hx hb dX6_helpFor_97 (by decide) ?_
            refine lv_ixor hx hb dX6_helpFor_98 ?_
            refine lv_iand hx hb dX6_helpFor_99 ?_
            refine lv_iload hx hb dX6_helpFor_100 (lv_at hl 2 rfl) ?_
            refine lv_iconst (v := 3) hx hb dX6_helpFor_102 (by decide) ?_
            refine lv_icmp_ne (tgt := 110) hx hb dX6_helpFor_103 (by decide) (fun c50 => ?_) (fun c50 => ?_)
            · replace hm := ineg hm c50
              refine lv_iload hx hb dX6_helpFor_110 (lv_at hl 1 rfl) ?_
              obtain ⟨r51, h52, hm⟩ := ob hm
              refine k_rVi S hK hP cal_X6_lowest gX6_helpFor_X6_lowest (c_X6_lowest l D cC cI cJ a_md a_md_text a_md_told a_md_draft a_md_s a_md_past a_md_images a_md_seen a_md_asks a_md_brings a_md_uses a_md_days a_md_tries a_md_row a_md_first a_md_held md_typed md_known md_kept md_sights md_at md_many md_length md_set md_text md_told md_draft md_s md_past md_images md_seen md_asks md_brings md_uses md_days md_tries md_row md_first md_held (p1 &&& ((0 : Int32) ^^^ (-1 : Int32))) y5 N r51 h52) ⟨⟨rfl, rfl⟩, Nat.le_of_ble_eq_true rfl, Nat.le_of_ble_eq_true rfl⟩ [0, 1, 2, 3, 4, 5, 6, 7, 8, 9, 10, 11, 12, 13, 14, 15] rfl 0 rfl rfl rfl hl.1 rfl (Nat.le_of_ble_eq_true rfl) dX6_helpFor_112 ⟨Nat.zero_le _, Nat.zero_le _⟩ ?_
              refine lv_istore (lv' := [(7, .int r51), (6, .int (0 : Int32)), (5, .int y5), (4, .int y2), (0, .ref a_md), (1, .int p0), (2, .int p1), (3, .int p2)]) hx hb dX6_helpFor_115 hl (by decide) rfl (fun ls hl => ?_)
              refine lv_iload hx hb dX6_helpFor_117 (lv_at hl 0 rfl) ?_
              refine lv_if_ne (tgt := 126) hx hb dX6_helpFor_119 (by decide) (fun c53 => ?_) (fun c53 => ?_)
              · replace hm := ineg hm c53
                refine lv_iload hx hb dX6_helpFor_126 (lv_at hl 1 rfl) ?_
                refine lv_iload hx hb dX6_helpFor_128 (lv_at hl 0 rfl) ?_
                refine lv_ior hx hb dX6_helpFor_130 ?_
                exact e_RI S hr hlk (Option.some.inj hm) dX6_helpFor_131
              · replace hm := ipos hm c53
                refine lv_iconst (v := (-1)) hx hb dX6_helpFor_122 (by decide) ?_
                refine lv_goto (tgt := 131) hx hb dX6_helpFor_123 (by decide) ?_
                exact e_RI S hr hlk (Option.some.inj hm) dX6_helpFor_131
            · replace hm := ipos hm c50
              refine lv_iconst (v := (-1)) hx hb dX6_helpFor_106 (by decide) ?_
              refine lv_goto (tgt := 112) hx hb dX6_helpFor_107 (by decide) ?_
              obtain ⟨r54, h55, hm⟩ := ob hm
              refine k_rVi S hK hP cal_X6_lowest gX6_helpFor_X6_lowest (c_X6_lowest l D cC cI cJ a_md a_md_text a_md_told a_md_draft a_md_s a_md_past a_md_images a_md_seen a_md_asks a_md_brings a_md_uses a_md_days a_md_tries a_md_row a_md_first a_md_held md_typed md_known md_kept md_sights md_at md_many md_length md_set md_text md_told md_draft md_s md_past md_images md_seen md_asks md_brings md_uses md_days md_tries md_row md_first md_held (p1 &&& ((0 : Int32) ^^^ (-1 : Int32))) (-1 : Int32) N r54 h55) ⟨⟨rfl, rfl⟩, Nat.le_of_ble_eq_true rfl, Nat.le_of_ble_eq_true rfl⟩ [0, 1, 2, 3, 4, 5, 6, 7, 8, 9, 10, 11, 12, 13, 14, 15] rfl 0 rfl rfl rfl hl.1 rfl (Nat.le_of_ble_eq_true rfl) dX6_helpFor_112 ⟨Nat.zero_le _, Nat.zero_le _⟩ ?_
              refine lv_istore (lv' := [(7, .int r54), (6, .int (0 : Int32)), (5, .int y5), (4, .int y2), (0, .ref a_md), (1, .int p0), (2, .int p1), (3, .int p2)]) hx hb dX6_helpFor_115 hl (by decide) rfl (fun ls hl => ?_)
              refine lv_iload hx hb dX6_helpFor_117 (lv_at hl 0 rfl) ?_
              refine lv_if_ne (tgt := 126) hx hb dX6_helpFor_119 (by decide) (fun c56 => ?_) (fun c56 => ?_)
              · replace hm := ineg hm c56
                refine lv_iload hx hb dX6_helpFor_126 (lv_at hl 1 rfl) ?_
                refine lv_iload hx hb dX6_helpFor_128 (lv_at hl 0 rfl) ?_
                refine lv_ior hx hb dX6_helpFor_130 ?_
                exact e_RI S hr hlk (Option.some.inj hm) dX6_helpFor_131
              · replace hm := ipos hm c56
                refine lv_iconst (v := (-1)) hx hb dX6_helpFor_122 (by decide) ?_
                refine lv_goto (tgt := 131) hx hb dX6_helpFor_123 (by decide) ?_
                exact e_RI S hr hlk (Option.some.inj hm) dX6_helpFor_131
          · replace hm := ineg hm c49
            refine lv_iload hx hb dX6_helpFor_81 (lv_at hl 2 rfl) ?_
            refine lv_iconst (v := 1) hx hb dX6_helpFor_83 (by decide) ?_
            refine lv_icmp_ne (tgt := 132) hx hb dX6_helpFor_84 (by decide) (fun c57 => ?_) (fun c57 => ?_)
            · replace hm := ineg hm c57
              refine lv_iload hx hb dX6_helpFor_132 (lv_at hl 0 rfl) ?_
              exact e_RI S hr hlk (Option.some.inj hm) dX6_helpFor_134
            · replace hm := ipos hm c57
              refine lv_iload hx hb dX6_helpFor_87 (lv_at hl 1 rfl) ?_
              refine lv_iconst (v := 5) hx hb dX6_helpFor_89 (by decide) ?_
              refine lv_icmp_eq (tgt := 132) hx hb dX6_helpFor_90 (by decide) (fun c58 => ?_) (fun c58 => ?_)
              · replace hm := ipos hm c58
                refine lv_iload hx hb dX6_helpFor_132 (lv_at hl 0 rfl) ?_
                exact e_RI S hr hlk (Option.some.inj hm) dX6_helpFor_134
              · replace hm := ineg hm c58
                refine lv_aload_n hx hb dX6_helpFor_93 rfl (lv_at hl 3 rfl) ?_
                refine lv_iload_n hx hb dX6_helpFor_94 rfl (lv_at hl 5 rfl) ?_
                refine lv_iload hx hb dX6_helpFor_95 (lv_at hl 0 rfl) ?_
                refine lv_iconst (v := (-1)) hx hb dX6_helpFor_97 (by decide) ?_
                refine lv_ixor hx hb dX6_helpFor_98 ?_
                refine lv_iand hx hb dX6_helpFor_99 ?_
                refine lv_iload hx hb dX6_helpFor_100 (lv_at hl 2 rfl) ?_
                refine lv_iconst (v := 3) hx hb dX6_helpFor_102 (by decide) ?_
                refine lv_icmp_ne (tgt := 110) hx hb dX6_helpFor_103 (by decide) (fun c59 => ?_) (fun c59 => ?_)
                · replace hm := ineg hm c59
                  refine lv_iload hx hb dX6_helpFor_110 (lv_at hl 1 rfl) ?_
                  obtain ⟨r60, h61, hm⟩ := ob hm
                  refine k_rVi S hK hP cal_X6_lowest gX6_helpFor_X6_lowest (c_X6_lowest l D cC cI cJ a_md a_md_text a_md_told a_md_draft a_md_s a_md_past a_md_images a_md_seen a_md_asks a_md_brings a_md_uses a_md_days a_md_tries a_md_row a_md_first a_md_held md_typed md_known md_kept md_sights md_at md_many md_length md_set md_text md_told md_draft md_s md_past md_images md_seen md_asks md_brings md_uses md_days md_tries md_row md_first md_held (p1 &&& ((0 : Int32) ^^^ (-1 : Int32))) y5 N r60 h61) ⟨⟨rfl, rfl⟩, Nat.le_of_ble_eq_true rfl, Nat.le_of_ble_eq_true rfl⟩ [0, 1, 2, 3, 4, 5, 6, 7, 8, 9, 10, 11, 12, 13, 14, 15] rfl 0 rfl rfl rfl hl.1 rfl (Nat.le_of_ble_eq_true rfl) dX6_helpFor_112 ⟨Nat.zero_le _, Nat.zero_le _⟩ ?_
                  refine lv_istore (lv' := [(7, .int r60), (6, .int (0 : Int32)), (5, .int y5), (4, .int y2), (0, .ref a_md), (1, .int p0), (2, .int p1), (3, .int p2)]) hx hb dX6_helpFor_115 hl (by decide) rfl (fun ls hl => ?_)
                  refine lv_iload hx hb dX6_helpFor_117 (lv_at hl 0 rfl) ?_
                  refine lv_if_ne (tgt := 126) hx hb dX6_helpFor_119 (by decide) (fun c62 => ?_) (fun c62 => ?_)
                  · replace hm := ineg hm c62
                    refine lv_iload hx hb dX6_helpFor_126 (lv_at hl 1 rfl) ?_
                    refine lv_iload hx hb dX6_helpFor_128 (lv_at hl 0 rfl) ?_
                    refine lv_ior hx hb dX6_helpFor_130 ?_
                    exact e_RI S hr hlk (Option.some.inj hm) dX6_helpFor_131
                  · replace hm := ipos hm c62
                    refine lv_iconst (v := (-1)) hx hb dX6_helpFor_122 (by decide) ?_
                    refine lv_goto (tgt := 131) hx hb dX6_helpFor_123 (by decide) ?_
                    exact e_RI S hr hlk (Option.some.inj hm) dX6_helpFor_131
                · replace hm := ipos hm c59
                  refine lv_iconst (v := (-1)) hx hb dX6_helpFor_106 (by decide) ?_
                  refine lv_goto (tgt := 112) hx hb dX6_helpFor_107 (by decide) ?_
                  obtain ⟨r63, h64, hm⟩ := ob hm
                  refine k_rVi S hK hP cal_X6_lowest gX6_helpFor_X6_lowest (c_X6_lowest l D cC cI cJ a_md a_md_text a_md_told a_md_draft a_md_s a_md_past a_md_images a_md_seen a_md_asks a_md_brings a_md_uses a_md_days a_md_tries a_md_row a_md_first a_md_held md_typed md_known md_kept md_sights md_at md_many md_length md_set md_text md_told md_draft md_s md_past md_images md_seen md_asks md_brings md_uses md_days md_tries md_row md_first md_held (p1 &&& ((0 : Int32) ^^^ (-1 : Int32))) (-1 : Int32) N r63 h64) ⟨⟨rfl, rfl⟩, Nat.le_of_ble_eq_true rfl, Nat.le_of_ble_eq_true rfl⟩ [0, 1, 2, 3, 4, 5, 6, 7, 8, 9, 10, 11, 12, 13, 14, 15] rfl 0 rfl rfl rfl hl.1 rfl (Nat.le_of_ble_eq_true rfl) dX6_helpFor_112 ⟨Nat.zero_le _, Nat.zero_le _⟩ ?_
                  refine lv_istore (lv' := [(7, .int r63), (6, .int (0 : Int32)), (5, .int y5), (4, .int y2), (0, .ref a_md), (1, .int p0), (2, .int p1), (3, .int p2)]) hx hb dX6_helpFor_115 hl (by decide) rfl (fun ls hl => ?_)
                  refine lv_iload hx hb dX6_helpFor_117 (lv_at hl 0 rfl) ?_
                  refine lv_if_ne (tgt := 126) hx hb dX6_helpFor_119 (by decide) (fun c65 => ?_) (fun c65 => ?_)
                  · replace hm := ineg hm c65
                    refine lv_iload hx hb dX6_helpFor_126 (lv_at hl 1 rfl) ?_
                    refine lv_iload hx hb dX6_helpFor_128 (lv_at hl 0 rfl) ?_
                    refine lv_ior hx hb dX6_helpFor_130 ?_
                    exact e_RI S hr hlk (Option.some.inj hm) dX6_helpFor_131
                  · replace hm := ipos hm c65
                    refine lv_iconst (v := (-1)) hx hb dX6_helpFor_122 (by decide) ?_
                    refine lv_goto (tgt := 131) hx hb dX6_helpFor_123 (by decide) ?_
                    exact e_RI S hr hlk (Option.some.inj hm) dX6_helpFor_131
        · replace hm := ineg hm c48
          refine lv_iload hx hb dX6_helpFor_68 (lv_at hl 0 rfl) ?_
          refine lv_if_ne (tgt := 75) hx hb dX6_helpFor_70 (by decide) (fun c66 => ?_) (fun c66 => ?_)
          · replace hm := ineg hm c66
            refine lv_iload hx hb dX6_helpFor_75 (lv_at hl 2 rfl) ?_
            refine lv_iconst (v := 3) hx hb dX6_helpFor_77 (by decide) ?_
            refine lv_icmp_eq (tgt := 93) hx hb dX6_helpFor_78 (by decide) (fun c67 => ?_) (fun c67 => ?_)
            · replace hm := ipos hm c67
              refine lv_aload_n hx hb dX6_helpFor_93 rfl (lv_at hl 3 rfl) ?_
              refine lv_iload_n hx hb dX6_helpFor_94 rfl (lv_at hl 5 rfl) ?_
              refine lv_iload hx hb dX6_helpFor_95 (lv_at hl 0 rfl) ?_
              refine lv_iconst (v := (-1)) hx hb dX6_helpFor_97 (by decide) ?_
              refine lv_ixor hx hb dX6_helpFor_98 ?_
              refine lv_iand hx hb dX6_helpFor_99 ?_
              refine lv_iload hx hb dX6_helpFor_100 (lv_at hl 2 rfl) ?_
              refine lv_iconst (v := 3) hx hb dX6_helpFor_102 (by decide) ?_
              refine lv_icmp_ne (tgt := 110) hx hb dX6_helpFor_103 (by decide) (fun c68 => ?_) (fun c68 => ?_)
              · replace hm := ineg hm c68
                refine lv_iload hx hb dX6_helpFor_110 (lv_at hl 1 rfl) ?_
                obtain ⟨r69, h70, hm⟩ := ob hm
                refine k_rVi S hK hP cal_X6_lowest gX6_helpFor_X6_lowest (c_X6_lowest l D cC cI cJ a_md a_md_text a_md_told a_md_draft a_md_s a_md_past a_md_images a_md_seen a_md_asks a_md_brings a_md_uses a_md_days a_md_tries a_md_row a_md_first a_md_held md_typed md_known md_kept md_sights md_at md_many md_length md_set md_text md_told md_draft md_s md_past md_images md_seen md_asks md_brings md_uses md_days md_tries md_row md_first md_held (p1 &&& ((0 : Int32) ^^^ (-1 : Int32))) y5 N r69 h70) ⟨⟨rfl, rfl⟩, Nat.le_of_ble_eq_true rfl, Nat.le_of_ble_eq_true rfl⟩ [0, 1, 2, 3, 4, 5, 6, 7, 8, 9, 10, 11, 12, 13, 14, 15] rfl 0 rfl rfl rfl hl.1 rfl (Nat.le_of_ble_eq_true rfl) dX6_helpFor_112 ⟨Nat.zero_le _, Nat.zero_le _⟩ ?_
                refine lv_istore (lv' := [(7, .int r69), (6, .int (0 : Int32)), (5, .int y5), (4, .int y2), (0, .ref a_md), (1, .int p0), (2, .int p1), (3, .int p2)]) hx hb dX6_helpFor_115 hl (by decide) rfl (fun ls hl => ?_)
                refine lv_iload hx hb dX6_helpFor_117 (lv_at hl 0 rfl) ?_
                refine lv_if_ne (tgt := 126) hx hb dX6_helpFor_119 (by decide) (fun c71 => ?_) (fun c71 => ?_)
                · replace hm := ineg hm c71
                  refine lv_iload hx hb dX6_helpFor_126 (lv_at hl 1 rfl) ?_
                  refine lv_iload hx hb dX6_helpFor_128 (lv_at hl 0 rfl) ?_
                  refine lv_ior hx hb dX6_helpFor_130 ?_
                  exact e_RI S hr hlk (Option.some.inj hm) dX6_helpFor_131
                · replace hm := ipos hm c71
                  refine lv_iconst (v := (-1)) hx hb dX6_helpFor_122 (by decide) ?_
                  refine lv_goto (tgt := 131) hx hb dX6_helpFor_123 (by decide) ?_
                  exact e_RI S hr hlk (Option.some.inj hm) dX6_helpFor_131
              · replace hm := ipos hm c68
                refine lv_iconst (v := (-1)) hx hb dX6_helpFor_106 (by decide) ?_
                refine lv_goto (tgt := 112) hx hb dX6_helpFor_107 (by decide) ?_
                obtain ⟨r72, h73, hm⟩ := ob hm
                refine k_rVi S hK hP cal_X6_lowest gX6_helpFor_X6_lowest (c_X6_lowest l D cC cI cJ a_md a_md_text a_md_told a_md_draft a_md_s a_md_past a_md_images a_md_seen a_md_asks a_md_brings a_md_uses a_md_days a_md_tries a_md_row a_md_first a_md_held md_typed md_known md_kept md_sights md_at md_many md_length md_set md_text md_told md_draft md_s md_past md_images md_seen md_asks md_brings md_uses md_days md_tries md_row md_first md_held (p1 &&& ((0 : Int32) ^^^ (-1 : Int32))) (-1 : Int32) N r72 h73) ⟨⟨rfl, rfl⟩, Nat.le_of_ble_eq_true rfl, Nat.le_of_ble_eq_true rfl⟩ [0, 1, 2, 3, 4, 5, 6, 7, 8, 9, 10, 11, 12, 13, 14, 15] rfl 0 rfl rfl rfl hl.1 rfl (Nat.le_of_ble_eq_true rfl) dX6_helpFor_112 ⟨Nat.zero_le _, Nat.zero_le _⟩ ?_
                refine lv_istore (lv' := [(7, .int r72), (6, .int (0 : Int32)), (5, .int y5), (4, .int y2), (0, .ref a_md), (1, .int p0), (2, .int p1), (3, .int p2)]) hx hb dX6_helpFor_115 hl (by decide) rfl (fun ls hl => ?_)
                refine lv_iload hx hb dX6_helpFor_117 (lv_at hl 0 rfl) ?_
                refine lv_if_ne (tgt := 126) hx hb dX6_helpFor_119 (by decide) (fun c74 => ?_) (fun c74 => ?_)
                · replace hm := ineg hm c74
                  refine lv_iload hx hb dX6_helpFor_126 (lv_at hl 1 rfl) ?_
                  refine lv_iload hx hb dX6_helpFor_128 (lv_at hl 0 rfl) ?_
                  refine lv_ior hx hb dX6_helpFor_130 ?_
                  exact e_RI S hr hlk (Option.some.inj hm) dX6_helpFor_131
                · replace hm := ipos hm c74
                  refine lv_iconst (v := (-1)) hx hb dX6_helpFor_122 (by decide) ?_
                  refine lv_goto (tgt := 131) hx hb dX6_helpFor_123 (by decide) ?_
                  exact e_RI S hr hlk (Option.some.inj hm) dX6_helpFor_131
            · replace hm := ineg hm c67
              refine lv_iload hx hb dX6_helpFor_81 (lv_at hl 2 rfl) ?_
              refine lv_iconst (v := 1) hx hb dX6_helpFor_83 (by decide) ?_
              refine lv_icmp_ne (tgt := 132) hx hb dX6_helpFor_84 (by decide) (fun c75 => ?_) (fun c75 => ?_)
              · replace hm := ineg hm c75
                refine lv_iload hx hb dX6_helpFor_132 (lv_at hl 0 rfl) ?_
                exact e_RI S hr hlk (Option.some.inj hm) dX6_helpFor_134
              · replace hm := ipos hm c75
                refine lv_iload hx hb dX6_helpFor_87 (lv_at hl 1 rfl) ?_
                refine lv_iconst (v := 5) hx hb dX6_helpFor_89 (by decide) ?_
                refine lv_icmp_eq (tgt := 132) hx hb dX6_helpFor_90 (by decide) (fun c76 => ?_) (fun c76 => ?_)
                · replace hm := ipos hm c76
                  refine lv_iload hx hb dX6_helpFor_132 (lv_at hl 0 rfl) ?_
                  exact e_RI S hr hlk (Option.some.inj hm) dX6_helpFor_134
                · replace hm := ineg hm c76
                  refine lv_aload_n hx hb dX6_helpFor_93 rfl (lv_at hl 3 rfl) ?_
                  refine lv_iload_n hx hb dX6_helpFor_94 rfl (lv_at hl 5 rfl) ?_
                  refine lv_iload hx hb dX6_helpFor_95 (lv_at hl 0 rfl) ?_
                  refine lv_iconst (v := (-1)) hx hb dX6_helpFor_97 (by decide) ?_
                  refine lv_ixor hx hb dX6_helpFor_98 ?_
                  refine lv_iand hx hb dX6_helpFor_99 ?_
                  refine lv_iload hx hb dX6_helpFor_100 (lv_at hl 2 rfl) ?_
                  refine lv_iconst (v := 3) hx hb dX6_helpFor_102 (by decide) ?_
                  refine lv_icmp_ne (tgt := 110) hx hb dX6_helpFor_103 (by decide) (fun c77 => ?_) (fun c77 => ?_)
                  · replace hm := ineg hm c77
                    refine lv_iload hx hb dX6_helpFor_110 (lv_at hl 1 rfl) ?_
                    obtain ⟨r78, h79, hm⟩ := ob hm
                    refine k_rVi S hK hP cal_X6_lowest gX6_helpFor_X6_lowest (c_X6_lowest l D cC cI cJ a_md a_md_text a_md_told a_md_draft a_md_s a_md_past a_md_images a_md_seen a_md_asks a_md_brings a_md_uses a_md_days a_md_tries a_md_row a_md_first a_md_held md_typed md_known md_kept md_sights md_at md_many md_length md_set md_text md_told md_draft md_s md_past md_images md_seen md_asks md_brings md_uses md_days md_tries md_row md_first md_held (p1 &&& ((0 : Int32) ^^^ (-1 : Int32))) y5 N r78 h79) ⟨⟨rfl, rfl⟩, Nat.le_of_ble_eq_true rfl, Nat.le_of_ble_eq_true rfl⟩ [0, 1, 2, 3, 4, 5, 6, 7, 8, 9, 10, 11, 12, 13, 14, 15] rfl 0 rfl rfl rfl hl.1 rfl (Nat.le_of_ble_eq_true rfl) dX6_helpFor_112 ⟨Nat.zero_le _, Nat.zero_le _⟩ ?_
                    refine lv_istore (lv' := [(7, .int r78), (6, .int (0 : Int32)), (5, .int y5), (4, .int y2), (0, .ref a_md), (1, .int p0), (2, .int p1), (3, .int p2)]) hx hb dX6_helpFor_115 hl (by decide) rfl (fun ls hl => ?_)
                    refine lv_iload hx hb dX6_helpFor_117 (lv_at hl 0 rfl) ?_
                    refine lv_if_ne (tgt := 126) hx hb dX6_helpFor_119 (by decide) (fun c80 => ?_) (fun c80 => ?_)
                    · replace hm := ineg hm c80
                      refine lv_iload hx hb dX6_helpFor_126 (lv_at hl 1 rfl) ?_
                      refine lv_iload hx hb dX6_helpFor_128 (lv_at hl 0 rfl) ?_
                      refine lv_ior hx hb dX6_helpFor_130 ?_
                      exact e_RI S hr hlk (Option.some.inj hm) dX6_helpFor_131
                    · replace hm := ipos hm c80
                      refine lv_iconst (v := (-1)) hx hb dX6_helpFor_122 (by decide) ?_
                      refine lv_goto (tgt := 131) hx hb dX6_helpFor_123 (by decide) ?_
                      exact e_RI S hr hlk (Option.some.inj hm) dX6_helpFor_131
                  · replace hm := ipos hm c77
                    refine lv_iconst (v := (-1)) hx hb dX6_helpFor_106 (by decide) ?_
                    refine lv_goto (tgt := 112) hx hb dX6_helpFor_107 (by decide) ?_
                    obtain ⟨r81, h82, hm⟩ := ob hm
                    refine k_rVi S hK hP cal_X6_lowest gX6_helpFor_X6_lowest (c_X6_lowest l D cC cI cJ a_md a_md_text a_md_told a_md_draft a_md_s a_md_past a_md_images a_md_seen a_md_asks a_md_brings a_md_uses a_md_days a_md_tries a_md_row a_md_first a_md_held md_typed md_known md_kept md_sights md_at md_many md_length md_set md_text md_told md_draft md_s md_past md_images md_seen md_asks md_brings md_uses md_days md_tries md_row md_first md_held (p1 &&& ((0 : Int32) ^^^ (-1 : Int32))) (-1 : Int32) N r81 h82) ⟨⟨rfl, rfl⟩, Nat.le_of_ble_eq_true rfl, Nat.le_of_ble_eq_true rfl⟩ [0, 1, 2, 3, 4, 5, 6, 7, 8, 9, 10, 11, 12, 13, 14, 15] rfl 0 rfl rfl rfl hl.1 rfl (Nat.le_of_ble_eq_true rfl) dX6_helpFor_112 ⟨Nat.zero_le _, Nat.zero_le _⟩ ?_
                    refine lv_istore (lv' := [(7, .int r81), (6, .int (0 : Int32)), (5, .int y5), (4, .int y2), (0, .ref a_md), (1, .int p0), (2, .int p1), (3, .int p2)]) hx hb dX6_helpFor_115 hl (by decide) rfl (fun ls hl => ?_)
                    refine lv_iload hx hb dX6_helpFor_117 (lv_at hl 0 rfl) ?_
                    refine lv_if_ne (tgt := 126) hx hb dX6_helpFor_119 (by decide) (fun c83 => ?_) (fun c83 => ?_)
                    · replace hm := ineg hm c83
                      refine lv_iload hx hb dX6_helpFor_126 (lv_at hl 1 rfl) ?_
                      refine lv_iload hx hb dX6_helpFor_128 (lv_at hl 0 rfl) ?_
                      refine lv_ior hx hb dX6_helpFor_130 ?_
                      exact e_RI S hr hlk (Option.some.inj hm) dX6_helpFor_131
                    · replace hm := ipos hm c83
                      refine lv_iconst (v := (-1)) hx hb dX6_helpFor_122 (by decide) ?_
                      refine lv_goto (tgt := 131) hx hb dX6_helpFor_123 (by decide) ?_
                      exact e_RI S hr hlk (Option.some.inj hm) dX6_helpFor_131
          · replace hm := ipos hm c66
            refine lv_iconst (v := (-1)) hx hb dX6_helpFor_73 (by decide) ?_
            exact e_RI S hr hlk (Option.some.inj hm) dX6_helpFor_74
    · replace hm := ipos hm c8
      refine lv_iload_n hx hb dX6_helpFor_35 rfl (lv_at hl 5 rfl) ?_
      refine lv_bipush (v := 10) hx hb dX6_helpFor_36 (by decide) ?_
      refine lv_icmp_le (tgt := 43) hx hb dX6_helpFor_38 (by decide) (fun c84 => ?_) (fun c84 => ?_)
      · replace hm := ipos hm c84
        refine lv_iload hx hb dX6_helpFor_43 (lv_at hl 0 rfl) ?_
        refine lv_iconst (v := 5) hx hb dX6_helpFor_45 (by decide) ?_
        refine lv_icmp_ne (tgt := 53) hx hb dX6_helpFor_46 (by decide) (fun c85 => ?_) (fun c85 => ?_)
        · replace hm := ineg hm c85
          refine lv_aload_n hx hb dX6_helpFor_53 rfl (lv_at hl 2 rfl) ?_
          refine lv_iload_n hx hb dX6_helpFor_54 rfl (lv_at hl 4 rfl) ?_
          refine lv_iload hx hb dX6_helpFor_55 (lv_at hl 0 rfl) ?_
          obtain ⟨r86, h87, hm⟩ := ob hm
          refine k_rVi S hK hP cal_X6_lowest gX6_helpFor_X6_lowest (c_X6_lowest l D cC cI cJ a_md a_md_text a_md_told a_md_draft a_md_s a_md_past a_md_images a_md_seen a_md_asks a_md_brings a_md_uses a_md_days a_md_tries a_md_row a_md_first a_md_held md_typed md_known md_kept md_sights md_at md_many md_length md_set md_text md_told md_draft md_s md_past md_images md_seen md_asks md_brings md_uses md_days md_tries md_row md_first md_held p1 y5 N r86 h87) ⟨⟨rfl, rfl⟩, Nat.le_of_ble_eq_true rfl, Nat.le_of_ble_eq_true rfl⟩ [0, 1, 2, 3, 4, 5, 6, 7, 8, 9, 10, 11, 12, 13, 14, 15] rfl 0 rfl rfl rfl hl.1 rfl (Nat.le_of_ble_eq_true rfl) dX6_helpFor_57 ⟨Nat.zero_le _, Nat.zero_le _⟩ ?_
          refine lv_istore (lv' := [(6, .int r86), (5, .int y5), (4, .int y2), (0, .ref a_md), (1, .int p0), (2, .int p1), (3, .int p2)]) hx hb dX6_helpFor_60 hl (by decide) rfl (fun ls hl => ?_)
          refine lv_iload hx hb dX6_helpFor_62 (lv_at hl 1 rfl) ?_
          refine lv_iconst (v := 5) hx hb dX6_helpFor_64 (by decide) ?_
          refine lv_icmp_eq (tgt := 75) hx hb dX6_helpFor_65 (by decide) (fun c88 => ?_) (fun c88 => ?_)
          · replace hm := ipos hm c88
            refine lv_iload hx hb dX6_helpFor_75 (lv_at hl 2 rfl) ?_
            refine lv_iconst (v := 3) hx hb dX6_helpFor_77 (by decide) ?_
            refine lv_icmp_eq (tgt := 93) hx hb dX6_helpFor_78 (by decide) (fun c89 => ?_) (fun c89 => ?_)
            · replace hm := ipos hm c89
              refine lv_aload_n hx hb dX6_helpFor_93 rfl (lv_at hl 3 rfl) ?_
              refine lv_iload_n hx hb dX6_helpFor_94 rfl (lv_at hl 5 rfl) ?_
              refine lv_iload hx hb dX6_helpFor_95 (lv_at hl 0 rfl) ?_
              refine lv_iconst (v := (-1)) hx hb dX6_helpFor_97 (by decide) ?_
              refine lv_ixor hx hb dX6_helpFor_98 ?_
              refine lv_iand hx hb dX6_helpFor_99 ?_
              refine lv_iload hx hb dX6_helpFor_100 (lv_at hl 2 rfl) ?_
              refine lv_iconst (v := 3) hx hb dX6_helpFor_102 (by decide) ?_
              refine lv_icmp_ne (tgt := 110) hx hb dX6_helpFor_103 (by decide) (fun c90 => ?_) (fun c90 => ?_)
              · replace hm := ineg hm c90
                refine lv_iload hx hb dX6_helpFor_110 (lv_at hl 1 rfl) ?_
                obtain ⟨r91, h92, hm⟩ := ob hm
                refine k_rVi S hK hP cal_X6_lowest gX6_helpFor_X6_lowest (c_X6_lowest l D cC cI cJ a_md a_md_text a_md_told a_md_draft a_md_s a_md_past a_md_images a_md_seen a_md_asks a_md_brings a_md_uses a_md_days a_md_tries a_md_row a_md_first a_md_held md_typed md_known md_kept md_sights md_at md_many md_length md_set md_text md_told md_draft md_s md_past md_images md_seen md_asks md_brings md_uses md_days md_tries md_row md_first md_held (p1 &&& (r86 ^^^ (-1 : Int32))) y5 N r91 h92) ⟨⟨rfl, rfl⟩, Nat.le_of_ble_eq_true rfl, Nat.le_of_ble_eq_true rfl⟩ [0, 1, 2, 3, 4, 5, 6, 7, 8, 9, 10, 11, 12, 13, 14, 15] rfl 0 rfl rfl rfl hl.1 rfl (Nat.le_of_ble_eq_true rfl) dX6_helpFor_112 ⟨Nat.zero_le _, Nat.zero_le _⟩ ?_
                refine lv_istore (lv' := [(7, .int r91), (6, .int r86), (5, .int y5), (4, .int y2), (0, .ref a_md), (1, .int p0), (2, .int p1), (3, .int p2)]) hx hb dX6_helpFor_115 hl (by decide) rfl (fun ls hl => ?_)
                refine lv_iload hx hb dX6_helpFor_117 (lv_at hl 0 rfl) ?_
                refine lv_if_ne (tgt := 126) hx hb dX6_helpFor_119 (by decide) (fun c93 => ?_) (fun c93 => ?_)
                · replace hm := ineg hm c93
                  refine lv_iload hx hb dX6_helpFor_126 (lv_at hl 1 rfl) ?_
                  refine lv_iload hx hb dX6_helpFor_128 (lv_at hl 0 rfl) ?_
                  refine lv_ior hx hb dX6_helpFor_130 ?_
                  exact e_RI S hr hlk (Option.some.inj hm) dX6_helpFor_131
                · replace hm := ipos hm c93
                  refine lv_iconst (v := (-1)) hx hb dX6_helpFor_122 (by decide) ?_
                  refine lv_goto (tgt := 131) hx hb dX6_helpFor_123 (by decide) ?_
                  exact e_RI S hr hlk (Option.some.inj hm) dX6_helpFor_131
              · replace hm := ipos hm c90
                refine lv_iconst (v := (-1)) hx hb dX6_helpFor_106 (by decide) ?_
                refine lv_goto (tgt := 112) hx hb dX6_helpFor_107 (by decide) ?_
                obtain ⟨r94, h95, hm⟩ := ob hm
                refine k_rVi S hK hP cal_X6_lowest gX6_helpFor_X6_lowest (c_X6_lowest l D cC cI cJ a_md a_md_text a_md_told a_md_draft a_md_s a_md_past a_md_images a_md_seen a_md_asks a_md_brings a_md_uses a_md_days a_md_tries a_md_row a_md_first a_md_held md_typed md_known md_kept md_sights md_at md_many md_length md_set md_text md_told md_draft md_s md_past md_images md_seen md_asks md_brings md_uses md_days md_tries md_row md_first md_held (p1 &&& (r86 ^^^ (-1 : Int32))) (-1 : Int32) N r94 h95) ⟨⟨rfl, rfl⟩, Nat.le_of_ble_eq_true rfl, Nat.le_of_ble_eq_true rfl⟩ [0, 1, 2, 3, 4, 5, 6, 7, 8, 9, 10, 11, 12, 13, 14, 15] rfl 0 rfl rfl rfl hl.1 rfl (Nat.le_of_ble_eq_true rfl) dX6_helpFor_112 ⟨Nat.zero_le _, Nat.zero_le _⟩ ?_
                refine lv_istore (lv' := [(7, .int r94), (6, .int r86), (5, .int y5), (4, .int y2), (0, .ref a_md), (1, .int p0), (2, .int p1), (3, .int p2)]) hx hb dX6_helpFor_115 hl (by decide) rfl (fun ls hl => ?_)
                refine lv_iload hx hb dX6_helpFor_117 (lv_at hl 0 rfl) ?_
                refine lv_if_ne (tgt := 126) hx hb dX6_helpFor_119 (by decide) (fun c96 => ?_) (fun c96 => ?_)
                · replace hm := ineg hm c96
                  refine lv_iload hx hb dX6_helpFor_126 (lv_at hl 1 rfl) ?_
                  refine lv_iload hx hb dX6_helpFor_128 (lv_at hl 0 rfl) ?_
                  refine lv_ior hx hb dX6_helpFor_130 ?_
                  exact e_RI S hr hlk (Option.some.inj hm) dX6_helpFor_131
                · replace hm := ipos hm c96
                  refine lv_iconst (v := (-1)) hx hb dX6_helpFor_122 (by decide) ?_
                  refine lv_goto (tgt := 131) hx hb dX6_helpFor_123 (by decide) ?_
                  exact e_RI S hr hlk (Option.some.inj hm) dX6_helpFor_131
            · replace hm := ineg hm c89
              refine lv_iload hx hb dX6_helpFor_81 (lv_at hl 2 rfl) ?_
              refine lv_iconst (v := 1) hx hb dX6_helpFor_83 (by decide) ?_
              refine lv_icmp_ne (tgt := 132) hx hb dX6_helpFor_84 (by decide) (fun c97 => ?_) (fun c97 => ?_)
              · replace hm := ineg hm c97
                refine lv_iload hx hb dX6_helpFor_132 (lv_at hl 0 rfl) ?_
                exact e_RI S hr hlk (Option.some.inj hm) dX6_helpFor_134
              · replace hm := ipos hm c97
                refine lv_iload hx hb dX6_helpFor_87 (lv_at hl 1 rfl) ?_
                refine lv_iconst (v := 5) hx hb dX6_helpFor_89 (by decide) ?_
                refine lv_icmp_eq (tgt := 132) hx hb dX6_helpFor_90 (by decide) (fun c98 => ?_) (fun c98 => ?_)
                · replace hm := ipos hm c98
                  refine lv_iload hx hb dX6_helpFor_132 (lv_at hl 0 rfl) ?_
                  exact e_RI S hr hlk (Option.some.inj hm) dX6_helpFor_134
                · replace hm := ineg hm c98
                  refine lv_aload_n hx hb dX6_helpFor_93 rfl (lv_at hl 3 rfl) ?_
                  refine lv_iload_n hx hb dX6_helpFor_94 rfl (lv_at hl 5 rfl) ?_
                  refine lv_iload hx hb dX6_helpFor_95 (lv_at hl 0 rfl) ?_
                  refine lv_iconst (v := (-1)) hx hb dX6_helpFor_97 (by decide) ?_
                  refine lv_ixor hx hb dX6_helpFor_98 ?_
                  refine lv_iand hx hb dX6_helpFor_99 ?_
                  refine lv_iload hx hb dX6_helpFor_100 (lv_at hl 2 rfl) ?_
                  refine lv_iconst (v := 3) hx hb dX6_helpFor_102 (by decide) ?_
                  refine lv_icmp_ne (tgt := 110) hx hb dX6_helpFor_103 (by decide) (fun c99 => ?_) (fun c99 => ?_)
                  · replace hm := ineg hm c99
                    refine lv_iload hx hb dX6_helpFor_110 (lv_at hl 1 rfl) ?_
                    obtain ⟨r100, h101, hm⟩ := ob hm
                    refine k_rVi S hK hP cal_X6_lowest gX6_helpFor_X6_lowest (c_X6_lowest l D cC cI cJ a_md a_md_text a_md_told a_md_draft a_md_s a_md_past a_md_images a_md_seen a_md_asks a_md_brings a_md_uses a_md_days a_md_tries a_md_row a_md_first a_md_held md_typed md_known md_kept md_sights md_at md_many md_length md_set md_text md_told md_draft md_s md_past md_images md_seen md_asks md_brings md_uses md_days md_tries md_row md_first md_held (p1 &&& (r86 ^^^ (-1 : Int32))) y5 N r100 h101) ⟨⟨rfl, rfl⟩, Nat.le_of_ble_eq_true rfl, Nat.le_of_ble_eq_true rfl⟩ [0, 1, 2, 3, 4, 5, 6, 7, 8, 9, 10, 11, 12, 13, 14, 15] rfl 0 rfl rfl rfl hl.1 rfl (Nat.le_of_ble_eq_true rfl) dX6_helpFor_112 ⟨Nat.zero_le _, Nat.zero_le _⟩ ?_
                    refine lv_istore (lv' := [(7, .int r100), (6, .int r86), (5, .int y5), (4, .int y2), (0, .ref a_md), (1, .int p0), (2, .int p1), (3, .int p2)]) hx hb dX6_helpFor_115 hl (by decide) rfl (fun ls hl => ?_)
                    refine lv_iload hx hb dX6_helpFor_117 (lv_at hl 0 rfl) ?_
                    refine lv_if_ne (tgt := 126) hx hb dX6_helpFor_119 (by decide) (fun c102 => ?_) (fun c102 => ?_)
                    · replace hm := ineg hm c102
                      refine lv_iload hx hb dX6_helpFor_126 (lv_at hl 1 rfl) ?_
                      refine lv_iload hx hb dX6_helpFor_128 (lv_at hl 0 rfl) ?_
                      refine lv_ior hx hb dX6_helpFor_130 ?_
                      exact e_RI S hr hlk (Option.some.inj hm) dX6_helpFor_131
                    · replace hm := ipos hm c102
                      refine lv_iconst (v := (-1)) hx hb dX6_helpFor_122 (by decide) ?_
                      refine lv_goto (tgt := 131) hx hb dX6_helpFor_123 (by decide) ?_
                      exact e_RI S hr hlk (Option.some.inj hm) dX6_helpFor_131
                  · replace hm := ipos hm c99
                    refine lv_iconst (v := (-1)) hx hb dX6_helpFor_106 (by decide) ?_
                    refine lv_goto (tgt := 112) hx hb dX6_helpFor_107 (by decide) ?_
                    obtain ⟨r103, h104, hm⟩ := ob hm
                    refine k_rVi S hK hP cal_X6_lowest gX6_helpFor_X6_lowest (c_X6_lowest l D cC cI cJ a_md a_md_text a_md_told a_md_draft a_md_s a_md_past a_md_images a_md_seen a_md_asks a_md_brings a_md_uses a_md_days a_md_tries a_md_row a_md_first a_md_held md_typed md_known md_kept md_sights md_at md_many md_length md_set md_text md_told md_draft md_s md_past md_images md_seen md_asks md_brings md_uses md_days md_tries md_row md_first md_held (p1 &&& (r86 ^^^ (-1 : Int32))) (-1 : Int32) N r103 h104) ⟨⟨rfl, rfl⟩, Nat.le_of_ble_eq_true rfl, Nat.le_of_ble_eq_true rfl⟩ [0, 1, 2, 3, 4, 5, 6, 7, 8, 9, 10, 11, 12, 13, 14, 15] rfl 0 rfl rfl rfl hl.1 rfl (Nat.le_of_ble_eq_true rfl) dX6_helpFor_112 ⟨Nat.zero_le _, Nat.zero_le _⟩ ?_
                    refine lv_istore (lv' := [(7, .int r103), (6, .int r86), (5, .int y5), (4, .int y2), (0, .ref a_md), (1, .int p0), (2, .int p1), (3, .int p2)]) hx hb dX6_helpFor_115 hl (by decide) rfl (fun ls hl => ?_)
                    refine lv_iload hx hb dX6_helpFor_117 (lv_at hl 0 rfl) ?_
                    refine lv_if_ne (tgt := 126) hx hb dX6_helpFor_119 (by decide) (fun c105 => ?_) (fun c105 => ?_)
                    · replace hm := ineg hm c105
                      refine lv_iload hx hb dX6_helpFor_126 (lv_at hl 1 rfl) ?_
                      refine lv_iload hx hb dX6_helpFor_128 (lv_at hl 0 rfl) ?_
                      refine lv_ior hx hb dX6_helpFor_130 ?_
                      exact e_RI S hr hlk (Option.some.inj hm) dX6_helpFor_131
                    · replace hm := ipos hm c105
                      refine lv_iconst (v := (-1)) hx hb dX6_helpFor_122 (by decide) ?_
                      refine lv_goto (tgt := 131) hx hb dX6_helpFor_123 (by decide) ?_
                      exact e_RI S hr hlk (Option.some.inj hm) dX6_helpFor_131
          · replace hm := ineg hm c88
            refine lv_iload hx hb dX6_helpFor_68 (lv_at hl 0 rfl) ?_
            refine lv_if_ne (tgt := 75) hx hb dX6_helpFor_70 (by decide) (fun c106 => ?_) (fun c106 => ?_)
            · replace hm := ineg hm c106
              refine lv_iload hx hb dX6_helpFor_75 (lv_at hl 2 rfl) ?_
              refine lv_iconst (v := 3) hx hb dX6_helpFor_77 (by decide) ?_
              refine lv_icmp_eq (tgt := 93) hx hb dX6_helpFor_78 (by decide) (fun c107 => ?_) (fun c107 => ?_)
              · replace hm := ipos hm c107
                refine lv_aload_n hx hb dX6_helpFor_93 rfl (lv_at hl 3 rfl) ?_
                refine lv_iload_n hx hb dX6_helpFor_94 rfl (lv_at hl 5 rfl) ?_
                refine lv_iload hx hb dX6_helpFor_95 (lv_at hl 0 rfl) ?_
                refine lv_iconst (v := (-1)) hx hb dX6_helpFor_97 (by decide) ?_
                refine lv_ixor hx hb dX6_helpFor_98 ?_
                refine lv_iand hx hb dX6_helpFor_99 ?_
                refine lv_iload hx hb dX6_helpFor_100 (lv_at hl 2 rfl) ?_
                refine lv_iconst (v := 3) hx hb dX6_helpFor_102 (by decide) ?_
                refine lv_icmp_ne (tgt := 110) hx hb dX6_helpFor_103 (by decide) (fun c108 => ?_) (fun c108 => ?_)
                · replace hm := ineg hm c108
                  refine lv_iload hx hb dX6_helpFor_110 (lv_at hl 1 rfl) ?_
                  obtain ⟨r109, h110, hm⟩ := ob hm
                  refine k_rVi S hK hP cal_X6_lowest gX6_helpFor_X6_lowest (c_X6_lowest l D cC cI cJ a_md a_md_text a_md_told a_md_draft a_md_s a_md_past a_md_images a_md_seen a_md_asks a_md_brings a_md_uses a_md_days a_md_tries a_md_row a_md_first a_md_held md_typed md_known md_kept md_sights md_at md_many md_length md_set md_text md_told md_draft md_s md_past md_images md_seen md_asks md_brings md_uses md_days md_tries md_row md_first md_held (p1 &&& (r86 ^^^ (-1 : Int32))) y5 N r109 h110) ⟨⟨rfl, rfl⟩, Nat.le_of_ble_eq_true rfl, Nat.le_of_ble_eq_true rfl⟩ [0, 1, 2, 3, 4, 5, 6, 7, 8, 9, 10, 11, 12, 13, 14, 15] rfl 0 rfl rfl rfl hl.1 rfl (Nat.le_of_ble_eq_true rfl) dX6_helpFor_112 ⟨Nat.zero_le _, Nat.zero_le _⟩ ?_
                  refine lv_istore (lv' := [(7, .int r109), (6, .int r86), (5, .int y5), (4, .int y2), (0, .ref a_md), (1, .int p0), (2, .int p1), (3, .int p2)]) hx hb dX6_helpFor_115 hl (by decide) rfl (fun ls hl => ?_)
                  refine lv_iload hx hb dX6_helpFor_117 (lv_at hl 0 rfl) ?_
                  refine lv_if_ne (tgt := 126) hx hb dX6_helpFor_119 (by decide) (fun c111 => ?_) (fun c111 => ?_)
                  · replace hm := ineg hm c111
                    refine lv_iload hx hb dX6_helpFor_126 (lv_at hl 1 rfl) ?_
                    refine lv_iload hx hb dX6_helpFor_128 (lv_at hl 0 rfl) ?_
                    refine lv_ior hx hb dX6_helpFor_130 ?_
                    exact e_RI S hr hlk (Option.some.inj hm) dX6_helpFor_131
                  · replace hm := ipos hm c111
                    refine lv_iconst (v := (-1)) hx hb dX6_helpFor_122 (by decide) ?_
                    refine lv_goto (tgt := 131) hx hb dX6_helpFor_123 (by decide) ?_
                    exact e_RI S hr hlk (Option.some.inj hm) dX6_helpFor_131
                · replace hm := ipos hm c108
                  refine lv_iconst (v := (-1)) hx hb dX6_helpFor_106 (by decide) ?_
                  refine lv_goto (tgt := 112) hx hb dX6_helpFor_107 (by decide) ?_
                  obtain ⟨r112, h113, hm⟩ := ob hm
                  refine k_rVi S hK hP cal_X6_lowest gX6_helpFor_X6_lowest (c_X6_lowest l D cC cI cJ a_md a_md_text a_md_told a_md_draft a_md_s a_md_past a_md_images a_md_seen a_md_asks a_md_brings a_md_uses a_md_days a_md_tries a_md_row a_md_first a_md_held md_typed md_known md_kept md_sights md_at md_many md_length md_set md_text md_told md_draft md_s md_past md_images md_seen md_asks md_brings md_uses md_days md_tries md_row md_first md_held (p1 &&& (r86 ^^^ (-1 : Int32))) (-1 : Int32) N r112 h113) ⟨⟨rfl, rfl⟩, Nat.le_of_ble_eq_true rfl, Nat.le_of_ble_eq_true rfl⟩ [0, 1, 2, 3, 4, 5, 6, 7, 8, 9, 10, 11, 12, 13, 14, 15] rfl 0 rfl rfl rfl hl.1 rfl (Nat.le_of_ble_eq_true rfl) dX6_helpFor_112 ⟨Nat.zero_le _, Nat.zero_le _⟩ ?_
                  refine lv_istore (lv' := [(7, .int r112), (6, .int r86), (5, .int y5), (4, .int y2), (0, .ref a_md), (1, .int p0), (2, .int p1), (3, .int p2)]) hx hb dX6_helpFor_115 hl (by decide) rfl (fun ls hl => ?_)
                  refine lv_iload hx hb dX6_helpFor_117 (lv_at hl 0 rfl) ?_
                  refine lv_if_ne (tgt := 126) hx hb dX6_helpFor_119 (by decide) (fun c114 => ?_) (fun c114 => ?_)
                  · replace hm := ineg hm c114
                    refine lv_iload hx hb dX6_helpFor_126 (lv_at hl 1 rfl) ?_
                    refine lv_iload hx hb dX6_helpFor_128 (lv_at hl 0 rfl) ?_
                    refine lv_ior hx hb dX6_helpFor_130 ?_
                    exact e_RI S hr hlk (Option.some.inj hm) dX6_helpFor_131
                  · replace hm := ipos hm c114
                    refine lv_iconst (v := (-1)) hx hb dX6_helpFor_122 (by decide) ?_
                    refine lv_goto (tgt := 131) hx hb dX6_helpFor_123 (by decide) ?_
                    exact e_RI S hr hlk (Option.some.inj hm) dX6_helpFor_131
              · replace hm := ineg hm c107
                refine lv_iload hx hb dX6_helpFor_81 (lv_at hl 2 rfl) ?_
                refine lv_iconst (v := 1) hx hb dX6_helpFor_83 (by decide) ?_
                refine lv_icmp_ne (tgt := 132) hx hb dX6_helpFor_84 (by decide) (fun c115 => ?_) (fun c115 => ?_)
                · replace hm := ineg hm c115
                  refine lv_iload hx hb dX6_helpFor_132 (lv_at hl 0 rfl) ?_
                  exact e_RI S hr hlk (Option.some.inj hm) dX6_helpFor_134
                · replace hm := ipos hm c115
                  refine lv_iload hx hb dX6_helpFor_87 (lv_at hl 1 rfl) ?_
                  refine lv_iconst (v := 5) hx hb dX6_helpFor_89 (by decide) ?_
                  refine lv_icmp_eq (tgt := 132) hx hb dX6_helpFor_90 (by decide) (fun c116 => ?_) (fun c116 => ?_)
                  · replace hm := ipos hm c116
                    refine lv_iload hx hb dX6_helpFor_132 (lv_at hl 0 rfl) ?_
                    exact e_RI S hr hlk (Option.some.inj hm) dX6_helpFor_134
                  · replace hm := ineg hm c116
                    refine lv_aload_n hx hb dX6_helpFor_93 rfl (lv_at hl 3 rfl) ?_
                    refine lv_iload_n hx hb dX6_helpFor_94 rfl (lv_at hl 5 rfl) ?_
                    refine lv_iload hx hb dX6_helpFor_95 (lv_at hl 0 rfl) ?_
                    refine lv_iconst (v := (-1)) hx hb dX6_helpFor_97 (by decide) ?_
                    refine lv_ixor hx hb dX6_helpFor_98 ?_
                    refine lv_iand hx hb dX6_helpFor_99 ?_
                    refine lv_iload hx hb dX6_helpFor_100 (lv_at hl 2 rfl) ?_
                    refine lv_iconst (v := 3) hx hb dX6_helpFor_102 (by decide) ?_
                    refine lv_icmp_ne (tgt := 110) hx hb dX6_helpFor_103 (by decide) (fun c117 => ?_) (fun c117 => ?_)
                    · replace hm := ineg hm c117
                      refine lv_iload hx hb dX6_helpFor_110 (lv_at hl 1 rfl) ?_
                      obtain ⟨r118, h119, hm⟩ := ob hm
                      refine k_rVi S hK hP cal_X6_lowest gX6_helpFor_X6_lowest (c_X6_lowest l D cC cI cJ a_md a_md_text a_md_told a_md_draft a_md_s a_md_past a_md_images a_md_seen a_md_asks a_md_brings a_md_uses a_md_days a_md_tries a_md_row a_md_first a_md_held md_typed md_known md_kept md_sights md_at md_many md_length md_set md_text md_told md_draft md_s md_past md_images md_seen md_asks md_brings md_uses md_days md_tries md_row md_first md_held (p1 &&& (r86 ^^^ (-1 : Int32))) y5 N r118 h119) ⟨⟨rfl, rfl⟩, Nat.le_of_ble_eq_true rfl, Nat.le_of_ble_eq_true rfl⟩ [0, 1, 2, 3, 4, 5, 6, 7, 8, 9, 10, 11, 12, 13, 14, 15] rfl 0 rfl rfl rfl hl.1 rfl (Nat.le_of_ble_eq_true rfl) dX6_helpFor_112 ⟨Nat.zero_le _, Nat.zero_le _⟩ ?_
                      refine lv_istore (lv' := [(7, .int r118), (6, .int r86), (5, .int y5), (4, .int y2), (0, .ref a_md), (1, .int p0), (2, .int p1), (3, .int p2)]) hx hb dX6_helpFor_115 hl (by decide) rfl (fun ls hl => ?_)
                      refine lv_iload hx hb dX6_helpFor_117 (lv_at hl 0 rfl) ?_
                      refine lv_if_ne (tgt := 126) hx hb dX6_helpFor_119 (by decide) (fun c120 => ?_) (fun c120 => ?_)
                      · replace hm := ineg hm c120
                        refine lv_iload hx hb dX6_helpFor_126 (lv_at hl 1 rfl) ?_
                        refine lv_iload hx hb dX6_helpFor_128 (lv_at hl 0 rfl) ?_
                        refine lv_ior hx hb dX6_helpFor_130 ?_
                        exact e_RI S hr hlk (Option.some.inj hm) dX6_helpFor_131
                      · replace hm := ipos hm c120
                        refine lv_iconst (v := (-1)) hx hb dX6_helpFor_122 (by decide) ?_
                        refine lv_goto (tgt := 131) hx hb dX6_helpFor_123 (by decide) ?_
                        exact e_RI S hr hlk (Option.some.inj hm) dX6_helpFor_131
                    · replace hm := ipos hm c117
                      refine lv_iconst (v := (-1)) hx hb dX6_helpFor_106 (by decide) ?_
                      refine lv_goto (tgt := 112) hx hb dX6_helpFor_107 (by decide) ?_
                      obtain ⟨r121, h122, hm⟩ := ob hm
                      refine k_rVi S hK hP cal_X6_lowest gX6_helpFor_X6_lowest (c_X6_lowest l D cC cI cJ a_md a_md_text a_md_told a_md_draft a_md_s a_md_past a_md_images a_md_seen a_md_asks a_md_brings a_md_uses a_md_days a_md_tries a_md_row a_md_first a_md_held md_typed md_known md_kept md_sights md_at md_many md_length md_set md_text md_told md_draft md_s md_past md_images md_seen md_asks md_brings md_uses md_days md_tries md_row md_first md_held (p1 &&& (r86 ^^^ (-1 : Int32))) (-1 : Int32) N r121 h122) ⟨⟨rfl, rfl⟩, Nat.le_of_ble_eq_true rfl, Nat.le_of_ble_eq_true rfl⟩ [0, 1, 2, 3, 4, 5, 6, 7, 8, 9, 10, 11, 12, 13, 14, 15] rfl 0 rfl rfl rfl hl.1 rfl (Nat.le_of_ble_eq_true rfl) dX6_helpFor_112 ⟨Nat.zero_le _, Nat.zero_le _⟩ ?_
                      refine lv_istore (lv' := [(7, .int r121), (6, .int r86), (5, .int y5), (4, .int y2), (0, .ref a_md), (1, .int p0), (2, .int p1), (3, .int p2)]) hx hb dX6_helpFor_115 hl (by decide) rfl (fun ls hl => ?_)
                      refine lv_iload hx hb dX6_helpFor_117 (lv_at hl 0 rfl) ?_
                      refine lv_if_ne (tgt := 126) hx hb dX6_helpFor_119 (by decide) (fun c123 => ?_) (fun c123 => ?_)
                      · replace hm := ineg hm c123
                        refine lv_iload hx hb dX6_helpFor_126 (lv_at hl 1 rfl) ?_
                        refine lv_iload hx hb dX6_helpFor_128 (lv_at hl 0 rfl) ?_
                        refine lv_ior hx hb dX6_helpFor_130 ?_
                        exact e_RI S hr hlk (Option.some.inj hm) dX6_helpFor_131
                      · replace hm := ipos hm c123
                        refine lv_iconst (v := (-1)) hx hb dX6_helpFor_122 (by decide) ?_
                        refine lv_goto (tgt := 131) hx hb dX6_helpFor_123 (by decide) ?_
                        exact e_RI S hr hlk (Option.some.inj hm) dX6_helpFor_131
            · replace hm := ipos hm c106
              refine lv_iconst (v := (-1)) hx hb dX6_helpFor_73 (by decide) ?_
              exact e_RI S hr hlk (Option.some.inj hm) dX6_helpFor_74
        · replace hm := ipos hm c85
          refine lv_iconst (v := 0) hx hb dX6_helpFor_49 (by decide) ?_
          refine lv_goto (tgt := 60) hx hb dX6_helpFor_50 (by decide) ?_
          refine lv_istore (lv' := [(6, .int (0 : Int32)), (5, .int y5), (4, .int y2), (0, .ref a_md), (1, .int p0), (2, .int p1), (3, .int p2)]) hx hb dX6_helpFor_60 hl (by decide) rfl (fun ls hl => ?_)
          refine lv_iload hx hb dX6_helpFor_62 (lv_at hl 1 rfl) ?_
          refine lv_iconst (v := 5) hx hb dX6_helpFor_64 (by decide) ?_
          refine lv_icmp_eq (tgt := 75) hx hb dX6_helpFor_65 (by decide) (fun c124 => ?_) (fun c124 => ?_)
          · replace hm := ipos hm c124
            refine lv_iload hx hb dX6_helpFor_75 (lv_at hl 2 rfl) ?_
            refine lv_iconst (v := 3) hx hb dX6_helpFor_77 (by decide) ?_
            refine lv_icmp_eq (tgt := 93) hx hb dX6_helpFor_78 (by decide) (fun c125 => ?_) (fun c125 => ?_)
            · replace hm := ipos hm c125
              refine lv_aload_n hx hb dX6_helpFor_93 rfl (lv_at hl 3 rfl) ?_
              refine lv_iload_n hx hb dX6_helpFor_94 rfl (lv_at hl 5 rfl) ?_
              refine lv_iload hx hb dX6_helpFor_95 (lv_at hl 0 rfl) ?_
              refine lv_iconst (v := (-1)) hx hb dX6_helpFor_97 (by decide) ?_
              refine lv_ixor hx hb dX6_helpFor_98 ?_
              refine lv_iand hx hb dX6_helpFor_99 ?_
              refine lv_iload hx hb dX6_helpFor_100 (lv_at hl 2 rfl) ?_
              refine lv_iconst (v := 3) hx hb dX6_helpFor_102 (by decide) ?_
              refine lv_icmp_ne (tgt := 110) hx hb dX6_helpFor_103 (by decide) (fun c126 => ?_) (fun c126 => ?_)
              · replace hm := ineg hm c126
                refine lv_iload hx hb dX6_helpFor_110 (lv_at hl 1 rfl) ?_
                obtain ⟨r127, h128, hm⟩ := ob hm
                refine k_rVi S hK hP cal_X6_lowest gX6_helpFor_X6_lowest (c_X6_lowest l D cC cI cJ a_md a_md_text a_md_told a_md_draft a_md_s a_md_past a_md_images a_md_seen a_md_asks a_md_brings a_md_uses a_md_days a_md_tries a_md_row a_md_first a_md_held md_typed md_known md_kept md_sights md_at md_many md_length md_set md_text md_told md_draft md_s md_past md_images md_seen md_asks md_brings md_uses md_days md_tries md_row md_first md_held (p1 &&& ((0 : Int32) ^^^ (-1 : Int32))) y5 N r127 h128) ⟨⟨rfl, rfl⟩, Nat.le_of_ble_eq_true rfl, Nat.le_of_ble_eq_true rfl⟩ [0, 1, 2, 3, 4, 5, 6, 7, 8, 9, 10, 11, 12, 13, 14, 15] rfl 0 rfl rfl rfl hl.1 rfl (Nat.le_of_ble_eq_true rfl) dX6_helpFor_112 ⟨Nat.zero_le _, Nat.zero_le _⟩ ?_
                refine lv_istore (lv' := [(7, .int r127), (6, .int (0 : Int32)), (5, .int y5), (4, .int y2), (0, .ref a_md), (1, .int p0), (2, .int p1), (3, .int p2)]) hx hb dX6_helpFor_115 hl (by decide) rfl (fun ls hl => ?_)
                refine lv_iload hx hb dX6_helpFor_117 (lv_at hl 0 rfl) ?_
                refine lv_if_ne (tgt := 126) hx hb dX6_helpFor_119 (by decide) (fun c129 => ?_) (fun c129 => ?_)
                · replace hm := ineg hm c129
                  refine lv_iload hx hb dX6_helpFor_126 (lv_at hl 1 rfl) ?_
                  refine lv_iload hx hb dX6_helpFor_128 (lv_at hl 0 rfl) ?_
                  refine lv_ior hx hb dX6_helpFor_130 ?_
                  exact e_RI S hr hlk (Option.some.inj hm) dX6_helpFor_131
                · replace hm := ipos hm c129
                  refine lv_iconst (v := (-1)) hx hb dX6_helpFor_122 (by decide) ?_
                  refine lv_goto (tgt := 131) hx hb dX6_helpFor_123 (by decide) ?_
                  exact e_RI S hr hlk (Option.some.inj hm) dX6_helpFor_131
              · replace hm := ipos hm c126
                refine lv_iconst (v := (-1)) hx hb dX6_helpFor_106 (by decide) ?_
                refine lv_goto (tgt := 112) hx hb dX6_helpFor_107 (by decide) ?_
                obtain ⟨r130, h131, hm⟩ := ob hm
                refine k_rVi S hK hP cal_X6_lowest gX6_helpFor_X6_lowest (c_X6_lowest l D cC cI cJ a_md a_md_text a_md_told a_md_draft a_md_s a_md_past a_md_images a_md_seen a_md_asks a_md_brings a_md_uses a_md_days a_md_tries a_md_row a_md_first a_md_held md_typed md_known md_kept md_sights md_at md_many md_length md_set md_text md_told md_draft md_s md_past md_images md_seen md_asks md_brings md_uses md_days md_tries md_row md_first md_held (p1 &&& ((0 : Int32) ^^^ (-1 : Int32))) (-1 : Int32) N r130 h131) ⟨⟨rfl, rfl⟩, Nat.le_of_ble_eq_true rfl, Nat.le_of_ble_eq_true rfl⟩ [0, 1, 2, 3, 4, 5, 6, 7, 8, 9, 10, 11, 12, 13, 14, 15] rfl 0 rfl rfl rfl hl.1 rfl (Nat.le_of_ble_eq_true rfl) dX6_helpFor_112 ⟨Nat.zero_le _, Nat.zero_le _⟩ ?_
                refine lv_istore (lv' := [(7, .int r130), (6, .int (0 : Int32)), (5, .int y5), (4, .int y2), (0, .ref a_md), (1, .int p0), (2, .int p1), (3, .int p2)]) hx hb dX6_helpFor_115 hl (by decide) rfl (fun ls hl => ?_)
                refine lv_iload hx hb dX6_helpFor_117 (lv_at hl 0 rfl) ?_
                refine lv_if_ne (tgt := 126) hx hb dX6_helpFor_119 (by decide) (fun c132 => ?_) (fun c132 => ?_)
                · replace hm := ineg hm c132
                  refine lv_iload hx hb dX6_helpFor_126 (lv_at hl 1 rfl) ?_
                  refine lv_iload hx hb dX6_helpFor_128 (lv_at hl 0 rfl) ?_
                  refine lv_ior hx hb dX6_helpFor_130 ?_
                  exact e_RI S hr hlk (Option.some.inj hm) dX6_helpFor_131
                · replace hm := ipos hm c132
                  refine lv_iconst (v := (-1)) hx hb dX6_helpFor_122 (by decide) ?_
                  refine lv_goto (tgt := 131) hx hb dX6_helpFor_123 (by decide) ?_
                  exact e_RI S hr hlk (Option.some.inj hm) dX6_helpFor_131
            · replace hm := ineg hm c125
              refine lv_iload hx hb dX6_helpFor_81 (lv_at hl 2 rfl) ?_
              refine lv_iconst (v := 1) hx hb dX6_helpFor_83 (by decide) ?_
              refine lv_icmp_ne (tgt := 132) hx hb dX6_helpFor_84 (by decide) (fun c133 => ?_) (fun c133 => ?_)
              · replace hm := ineg hm c133
                refine lv_iload hx hb dX6_helpFor_132 (lv_at hl 0 rfl) ?_
                exact e_RI S hr hlk (Option.some.inj hm) dX6_helpFor_134
              · replace hm := ipos hm c133
                refine lv_iload hx hb dX6_helpFor_87 (lv_at hl 1 rfl) ?_
                refine lv_iconst (v := 5) hx hb dX6_helpFor_89 (by decide) ?_
                refine lv_icmp_eq (tgt := 132) hx hb dX6_helpFor_90 (by decide) (fun c134 => ?_) (fun c134 => ?_)
                · replace hm := ipos hm c134
                  refine lv_iload hx hb dX6_helpFor_132 (lv_at hl 0 rfl) ?_
                  exact e_RI S hr hlk (Option.some.inj hm) dX6_helpFor_134
                · replace hm := ineg hm c134
                  refine lv_aload_n hx hb dX6_helpFor_93 rfl (lv_at hl 3 rfl) ?_
                  refine lv_iload_n hx hb dX6_helpFor_94 rfl (lv_at hl 5 rfl) ?_
                  refine lv_iload hx hb dX6_helpFor_95 (lv_at hl 0 rfl) ?_
                  refine lv_iconst (v := (-1)) hx hb dX6_helpFor_97 (by decide) ?_
                  refine lv_ixor hx hb dX6_helpFor_98 ?_
                  refine lv_iand hx hb dX6_helpFor_99 ?_
                  refine lv_iload hx hb dX6_helpFor_100 (lv_at hl 2 rfl) ?_
                  refine lv_iconst (v := 3) hx hb dX6_helpFor_102 (by decide) ?_
                  refine lv_icmp_ne (tgt := 110) hx hb dX6_helpFor_103 (by decide) (fun c135 => ?_) (fun c135 => ?_)
                  · replace hm := ineg hm c135
                    refine lv_iload hx hb dX6_helpFor_110 (lv_at hl 1 rfl) ?_
                    obtain ⟨r136, h137, hm⟩ := ob hm
                    refine k_rVi S hK hP cal_X6_lowest gX6_helpFor_X6_lowest (c_X6_lowest l D cC cI cJ a_md a_md_text a_md_told a_md_draft a_md_s a_md_past a_md_images a_md_seen a_md_asks a_md_brings a_md_uses a_md_days a_md_tries a_md_row a_md_first a_md_held md_typed md_known md_kept md_sights md_at md_many md_length md_set md_text md_told md_draft md_s md_past md_images md_seen md_asks md_brings md_uses md_days md_tries md_row md_first md_held (p1 &&& ((0 : Int32) ^^^ (-1 : Int32))) y5 N r136 h137) ⟨⟨rfl, rfl⟩, Nat.le_of_ble_eq_true rfl, Nat.le_of_ble_eq_true rfl⟩ [0, 1, 2, 3, 4, 5, 6, 7, 8, 9, 10, 11, 12, 13, 14, 15] rfl 0 rfl rfl rfl hl.1 rfl (Nat.le_of_ble_eq_true rfl) dX6_helpFor_112 ⟨Nat.zero_le _, Nat.zero_le _⟩ ?_
                    refine lv_istore (lv' := [(7, .int r136), (6, .int (0 : Int32)), (5, .int y5), (4, .int y2), (0, .ref a_md), (1, .int p0), (2, .int p1), (3, .int p2)]) hx hb dX6_helpFor_115 hl (by decide) rfl (fun ls hl => ?_)
                    refine lv_iload hx hb dX6_helpFor_117 (lv_at hl 0 rfl) ?_
                    refine lv_if_ne (tgt := 126) hx hb dX6_helpFor_119 (by decide) (fun c138 => ?_) (fun c138 => ?_)
                    · replace hm := ineg hm c138
                      refine lv_iload hx hb dX6_helpFor_126 (lv_at hl 1 rfl) ?_
                      refine lv_iload hx hb dX6_helpFor_128 (lv_at hl 0 rfl) ?_
                      refine lv_ior hx hb dX6_helpFor_130 ?_
                      exact e_RI S hr hlk (Option.some.inj hm) dX6_helpFor_131
                    · replace hm := ipos hm c138
                      refine lv_iconst (v := (-1)) hx hb dX6_helpFor_122 (by decide) ?_
                      refine lv_goto (tgt := 131) hx hb dX6_helpFor_123 (by decide) ?_
                      exact e_RI S hr hlk (Option.some.inj hm) dX6_helpFor_131
                  · replace hm := ipos hm c135
                    refine lv_iconst (v := (-1)) hx hb dX6_helpFor_106 (by decide) ?_
                    refine lv_goto (tgt := 112) hx hb dX6_helpFor_107 (by decide) ?_
                    obtain ⟨r139, h140, hm⟩ := ob hm
                    refine k_rVi S hK hP cal_X6_lowest gX6_helpFor_X6_lowest (c_X6_lowest l D cC cI cJ a_md a_md_text a_md_told a_md_draft a_md_s a_md_past a_md_images a_md_seen a_md_asks a_md_brings a_md_uses a_md_days a_md_tries a_md_row a_md_first a_md_held md_typed md_known md_kept md_sights md_at md_many md_length md_set md_text md_told md_draft md_s md_past md_images md_seen md_asks md_brings md_uses md_days md_tries md_row md_first md_held (p1 &&& ((0 : Int32) ^^^ (-1 : Int32))) (-1 : Int32) N r139 h140) ⟨⟨rfl, rfl⟩, Nat.le_of_ble_eq_true rfl, Nat.le_of_ble_eq_true rfl⟩ [0, 1, 2, 3, 4, 5, 6, 7, 8, 9, 10, 11, 12, 13, 14, 15] rfl 0 rfl rfl rfl hl.1 rfl (Nat.le_of_ble_eq_true rfl) dX6_helpFor_112 ⟨Nat.zero_le _, Nat.zero_le _⟩ ?_
                    refine lv_istore (lv' := [(7, .int r139), (6, .int (0 : Int32)), (5, .int y5), (4, .int y2), (0, .ref a_md), (1, .int p0), (2, .int p1), (3, .int p2)]) hx hb dX6_helpFor_115 hl (by decide) rfl (fun ls hl => ?_)
                    refine lv_iload hx hb dX6_helpFor_117 (lv_at hl 0 rfl) ?_
                    refine lv_if_ne (tgt := 126) hx hb dX6_helpFor_119 (by decide) (fun c141 => ?_) (fun c141 => ?_)
                    · replace hm := ineg hm c141
                      refine lv_iload hx hb dX6_helpFor_126 (lv_at hl 1 rfl) ?_
                      refine lv_iload hx hb dX6_helpFor_128 (lv_at hl 0 rfl) ?_
                      refine lv_ior hx hb dX6_helpFor_130 ?_
                      exact e_RI S hr hlk (Option.some.inj hm) dX6_helpFor_131
                    · replace hm := ipos hm c141
                      refine lv_iconst (v := (-1)) hx hb dX6_helpFor_122 (by decide) ?_
                      refine lv_goto (tgt := 131) hx hb dX6_helpFor_123 (by decide) ?_
                      exact e_RI S hr hlk (Option.some.inj hm) dX6_helpFor_131
          · replace hm := ineg hm c124
            refine lv_iload hx hb dX6_helpFor_68 (lv_at hl 0 rfl) ?_
            refine lv_if_ne (tgt := 75) hx hb dX6_helpFor_70 (by decide) (fun c142 => ?_) (fun c142 => ?_)
            · replace hm := ineg hm c142
              refine lv_iload hx hb dX6_helpFor_75 (lv_at hl 2 rfl) ?_
              refine lv_iconst (v := 3) hx hb dX6_helpFor_77 (by decide) ?_
              refine lv_icmp_eq (tgt := 93) hx hb dX6_helpFor_78 (by decide) (fun c143 => ?_) (fun c143 => ?_)
              · replace hm := ipos hm c143
                refine lv_aload_n hx hb dX6_helpFor_93 rfl (lv_at hl 3 rfl) ?_
                refine lv_iload_n hx hb dX6_helpFor_94 rfl (lv_at hl 5 rfl) ?_
                refine lv_iload hx hb dX6_helpFor_95 (lv_at hl 0 rfl) ?_
                refine lv_iconst (v := (-1)) hx hb dX6_helpFor_97 (by decide) ?_
                refine lv_ixor hx hb dX6_helpFor_98 ?_
                refine lv_iand hx hb dX6_helpFor_99 ?_
                refine lv_iload hx hb dX6_helpFor_100 (lv_at hl 2 rfl) ?_
                refine lv_iconst (v := 3) hx hb dX6_helpFor_102 (by decide) ?_
                refine lv_icmp_ne (tgt := 110) hx hb dX6_helpFor_103 (by decide) (fun c144 => ?_) (fun c144 => ?_)
                · replace hm := ineg hm c144
                  refine lv_iload hx hb dX6_helpFor_110 (lv_at hl 1 rfl) ?_
                  obtain ⟨r145, h146, hm⟩ := ob hm
                  refine k_rVi S hK hP cal_X6_lowest gX6_helpFor_X6_lowest (c_X6_lowest l D cC cI cJ a_md a_md_text a_md_told a_md_draft a_md_s a_md_past a_md_images a_md_seen a_md_asks a_md_brings a_md_uses a_md_days a_md_tries a_md_row a_md_first a_md_held md_typed md_known md_kept md_sights md_at md_many md_length md_set md_text md_told md_draft md_s md_past md_images md_seen md_asks md_brings md_uses md_days md_tries md_row md_first md_held (p1 &&& ((0 : Int32) ^^^ (-1 : Int32))) y5 N r145 h146) ⟨⟨rfl, rfl⟩, Nat.le_of_ble_eq_true rfl, Nat.le_of_ble_eq_true rfl⟩ [0, 1, 2, 3, 4, 5, 6, 7, 8, 9, 10, 11, 12, 13, 14, 15] rfl 0 rfl rfl rfl hl.1 rfl (Nat.le_of_ble_eq_true rfl) dX6_helpFor_112 ⟨Nat.zero_le _, Nat.zero_le _⟩ ?_
                  refine lv_istore (lv' := [(7, .int r145), (6, .int (0 : Int32)), (5, .int y5), (4, .int y2), (0, .ref a_md), (1, .int p0), (2, .int p1), (3, .int p2)]) hx hb dX6_helpFor_115 hl (by decide) rfl (fun ls hl => ?_)
                  refine lv_iload hx hb dX6_helpFor_117 (lv_at hl 0 rfl) ?_
                  refine lv_if_ne (tgt := 126) hx hb dX6_helpFor_119 (by decide) (fun c147 => ?_) (fun c147 => ?_)
                  · replace hm := ineg hm c147
                    refine lv_iload hx hb dX6_helpFor_126 (lv_at hl 1 rfl) ?_
                    refine lv_iload hx hb dX6_helpFor_128 (lv_at hl 0 rfl) ?_
                    refine lv_ior hx hb dX6_helpFor_130 ?_
                    exact e_RI S hr hlk (Option.some.inj hm) dX6_helpFor_131
                  · replace hm := ipos hm c147
                    refine lv_iconst (v := (-1)) hx hb dX6_helpFor_122 (by decide) ?_
                    refine lv_goto (tgt := 131) hx hb dX6_helpFor_123 (by decide) ?_
                    exact e_RI S hr hlk (Option.some.inj hm) dX6_helpFor_131
                · replace hm := ipos hm c144
                  refine lv_iconst (v := (-1)) hx hb dX6_helpFor_106 (by decide) ?_
                  refine lv_goto (tgt := 112) hx hb dX6_helpFor_107 (by decide) ?_
                  obtain ⟨r148, h149, hm⟩ := ob hm
                  refine k_rVi S hK hP cal_X6_lowest gX6_helpFor_X6_lowest (c_X6_lowest l D cC cI cJ a_md a_md_text a_md_told a_md_draft a_md_s a_md_past a_md_images a_md_seen a_md_asks a_md_brings a_md_uses a_md_days a_md_tries a_md_row a_md_first a_md_held md_typed md_known md_kept md_sights md_at md_many md_length md_set md_text md_told md_draft md_s md_past md_images md_seen md_asks md_brings md_uses md_days md_tries md_row md_first md_held (p1 &&& ((0 : Int32) ^^^ (-1 : Int32))) (-1 : Int32) N r148 h149) ⟨⟨rfl, rfl⟩, Nat.le_of_ble_eq_true rfl, Nat.le_of_ble_eq_true rfl⟩ [0, 1, 2, 3, 4, 5, 6, 7, 8, 9, 10, 11, 12, 13, 14, 15] rfl 0 rfl rfl rfl hl.1 rfl (Nat.le_of_ble_eq_true rfl) dX6_helpFor_112 ⟨Nat.zero_le _, Nat.zero_le _⟩ ?_
                  refine lv_istore (lv' := [(7, .int r148), (6, .int (0 : Int32)), (5, .int y5), (4, .int y2), (0, .ref a_md), (1, .int p0), (2, .int p1), (3, .int p2)]) hx hb dX6_helpFor_115 hl (by decide) rfl (fun ls hl => ?_)
                  refine lv_iload hx hb dX6_helpFor_117 (lv_at hl 0 rfl) ?_
                  refine lv_if_ne (tgt := 126) hx hb dX6_helpFor_119 (by decide) (fun c150 => ?_) (fun c150 => ?_)
                  · replace hm := ineg hm c150
                    refine lv_iload hx hb dX6_helpFor_126 (lv_at hl 1 rfl) ?_
                    refine lv_iload hx hb dX6_helpFor_128 (lv_at hl 0 rfl) ?_
                    refine lv_ior hx hb dX6_helpFor_130 ?_
                    exact e_RI S hr hlk (Option.some.inj hm) dX6_helpFor_131
                  · replace hm := ipos hm c150
                    refine lv_iconst (v := (-1)) hx hb dX6_helpFor_122 (by decide) ?_
                    refine lv_goto (tgt := 131) hx hb dX6_helpFor_123 (by decide) ?_
                    exact e_RI S hr hlk (Option.some.inj hm) dX6_helpFor_131
              · replace hm := ineg hm c143
                refine lv_iload hx hb dX6_helpFor_81 (lv_at hl 2 rfl) ?_
                refine lv_iconst (v := 1) hx hb dX6_helpFor_83 (by decide) ?_
                refine lv_icmp_ne (tgt := 132) hx hb dX6_helpFor_84 (by decide) (fun c151 => ?_) (fun c151 => ?_)
                · replace hm := ineg hm c151
                  refine lv_iload hx hb dX6_helpFor_132 (lv_at hl 0 rfl) ?_
                  exact e_RI S hr hlk (Option.some.inj hm) dX6_helpFor_134
                · replace hm := ipos hm c151
                  refine lv_iload hx hb dX6_helpFor_87 (lv_at hl 1 rfl) ?_
                  refine lv_iconst (v := 5) hx hb dX6_helpFor_89 (by decide) ?_
                  refine lv_icmp_eq (tgt := 132) hx hb dX6_helpFor_90 (by decide) (fun c152 => ?_) (fun c152 => ?_)
                  · replace hm := ipos hm c152
                    refine lv_iload hx hb dX6_helpFor_132 (lv_at hl 0 rfl) ?_
                    exact e_RI S hr hlk (Option.some.inj hm) dX6_helpFor_134
                  · replace hm := ineg hm c152
                    refine lv_aload_n hx hb dX6_helpFor_93 rfl (lv_at hl 3 rfl) ?_
                    refine lv_iload_n hx hb dX6_helpFor_94 rfl (lv_at hl 5 rfl) ?_
                    refine lv_iload hx hb dX6_helpFor_95 (lv_at hl 0 rfl) ?_
                    refine lv_iconst (v := (-1)) hx hb dX6_helpFor_97 (by decide) ?_
                    refine lv_ixor hx hb dX6_helpFor_98 ?_
                    refine lv_iand hx hb dX6_helpFor_99 ?_
                    refine lv_iload hx hb dX6_helpFor_100 (lv_at hl 2 rfl) ?_
                    refine lv_iconst (v := 3) hx hb dX6_helpFor_102 (by decide) ?_
                    refine lv_icmp_ne (tgt := 110) hx hb dX6_helpFor_103 (by decide) (fun c153 => ?_) (fun c153 => ?_)
                    · replace hm := ineg hm c153
                      refine lv_iload hx hb dX6_helpFor_110 (lv_at hl 1 rfl) ?_
                      obtain ⟨r154, h155, hm⟩ := ob hm
                      refine k_rVi S hK hP cal_X6_lowest gX6_helpFor_X6_lowest (c_X6_lowest l D cC cI cJ a_md a_md_text a_md_told a_md_draft a_md_s a_md_past a_md_images a_md_seen a_md_asks a_md_brings a_md_uses a_md_days a_md_tries a_md_row a_md_first a_md_held md_typed md_known md_kept md_sights md_at md_many md_length md_set md_text md_told md_draft md_s md_past md_images md_seen md_asks md_brings md_uses md_days md_tries md_row md_first md_held (p1 &&& ((0 : Int32) ^^^ (-1 : Int32))) y5 N r154 h155) ⟨⟨rfl, rfl⟩, Nat.le_of_ble_eq_true rfl, Nat.le_of_ble_eq_true rfl⟩ [0, 1, 2, 3, 4, 5, 6, 7, 8, 9, 10, 11, 12, 13, 14, 15] rfl 0 rfl rfl rfl hl.1 rfl (Nat.le_of_ble_eq_true rfl) dX6_helpFor_112 ⟨Nat.zero_le _, Nat.zero_le _⟩ ?_
                      refine lv_istore (lv' := [(7, .int r154), (6, .int (0 : Int32)), (5, .int y5), (4, .int y2), (0, .ref a_md), (1, .int p0), (2, .int p1), (3, .int p2)]) hx hb dX6_helpFor_115 hl (by decide) rfl (fun ls hl => ?_)
                      refine lv_iload hx hb dX6_helpFor_117 (lv_at hl 0 rfl) ?_
                      refine lv_if_ne (tgt := 126) hx hb dX6_helpFor_119 (by decide) (fun c156 => ?_) (fun c156 => ?_)
                      · replace hm := ineg hm c156
                        refine lv_iload hx hb dX6_helpFor_126 (lv_at hl 1 rfl) ?_
                        refine lv_iload hx hb dX6_helpFor_128 (lv_at hl 0 rfl) ?_
                        refine lv_ior hx hb dX6_helpFor_130 ?_
                        exact e_RI S hr hlk (Option.some.inj hm) dX6_helpFor_131
                      · replace hm := ipos hm c156
                        refine lv_iconst (v := (-1)) hx hb dX6_helpFor_122 (by decide) ?_
                        refine lv_goto (tgt := 131) hx hb dX6_helpFor_123 (by decide) ?_
                        exact e_RI S hr hlk (Option.some.inj hm) dX6_helpFor_131
                    · replace hm := ipos hm c153
                      refine lv_iconst (v := (-1)) hx hb dX6_helpFor_106 (by decide) ?_
                      refine lv_goto (tgt := 112) hx hb dX6_helpFor_107 (by decide) ?_
                      obtain ⟨r157, h158, hm⟩ := ob hm
                      refine k_rVi S hK hP cal_X6_lowest gX6_helpFor_X6_lowest (c_X6_lowest l D cC cI cJ a_md a_md_text a_md_told a_md_draft a_md_s a_md_past a_md_images a_md_seen a_md_asks a_md_brings a_md_uses a_md_days a_md_tries a_md_row a_md_first a_md_held md_typed md_known md_kept md_sights md_at md_many md_length md_set md_text md_told md_draft md_s md_past md_images md_seen md_asks md_brings md_uses md_days md_tries md_row md_first md_held (p1 &&& ((0 : Int32) ^^^ (-1 : Int32))) (-1 : Int32) N r157 h158) ⟨⟨rfl, rfl⟩, Nat.le_of_ble_eq_true rfl, Nat.le_of_ble_eq_true rfl⟩ [0, 1, 2, 3, 4, 5, 6, 7, 8, 9, 10, 11, 12, 13, 14, 15] rfl 0 rfl rfl rfl hl.1 rfl (Nat.le_of_ble_eq_true rfl) dX6_helpFor_112 ⟨Nat.zero_le _, Nat.zero_le _⟩ ?_
                      refine lv_istore (lv' := [(7, .int r157), (6, .int (0 : Int32)), (5, .int y5), (4, .int y2), (0, .ref a_md), (1, .int p0), (2, .int p1), (3, .int p2)]) hx hb dX6_helpFor_115 hl (by decide) rfl (fun ls hl => ?_)
                      refine lv_iload hx hb dX6_helpFor_117 (lv_at hl 0 rfl) ?_
                      refine lv_if_ne (tgt := 126) hx hb dX6_helpFor_119 (by decide) (fun c159 => ?_) (fun c159 => ?_)
                      · replace hm := ineg hm c159
                        refine lv_iload hx hb dX6_helpFor_126 (lv_at hl 1 rfl) ?_
                        refine lv_iload hx hb dX6_helpFor_128 (lv_at hl 0 rfl) ?_
                        refine lv_ior hx hb dX6_helpFor_130 ?_
                        exact e_RI S hr hlk (Option.some.inj hm) dX6_helpFor_131
                      · replace hm := ipos hm c159
                        refine lv_iconst (v := (-1)) hx hb dX6_helpFor_122 (by decide) ?_
                        refine lv_goto (tgt := 131) hx hb dX6_helpFor_123 (by decide) ?_
                        exact e_RI S hr hlk (Option.some.inj hm) dX6_helpFor_131
            · replace hm := ipos hm c142
              refine lv_iconst (v := (-1)) hx hb dX6_helpFor_73 (by decide) ?_
              exact e_RI S hr hlk (Option.some.inj hm) dX6_helpFor_74
      · replace hm := ineg hm c84
        refine lv_iconst (v := (-1)) hx hb dX6_helpFor_41 (by decide) ?_
        exact e_RI S hr hlk (Option.some.inj hm) dX6_helpFor_42
  · replace hm := ipos hm c7
    refine lv_iconst (v := 0) hx hb dX6_helpFor_27 (by decide) ?_
    exact e_RI S hr hlk (Option.some.inj hm) dX6_helpFor_28
