/-! walks: X6_helpFor -/
abbrev rX6_helpFor : Room := { frames := 1, cells := 0, slots := 0, locals := 24 }
theorem cal_X6_helpFor : Cal yX6_helpFor wsX6_helpFor cX6_helpFor 8 (some .int) RX6 3 := ⟨⟨_, rfl⟩, rfl, by decide +kernel, by decide +kernel, by decide +kernel⟩
theorem in_X6_helpFor_X6 : ∀ w ∈ wsX60, w ∈ wsX6_helpFor := fun _ h => (List.mem_cons_of_mem _ (List.mem_append_right _ h))
set_option maxHeartbeats 4000000 in
set_option maxRecDepth 100000 in
theorem c_X6_helpFor (l : Launch) (D : va_G) (cC cI cJ : ClassId) (a_md : Nat) (a_md_text : Nat) (a_md_told : Nat) (a_md_draft : Nat) (a_md_s : Nat) (a_md_past : Nat) (a_md_images : Nat) (a_md_seen : Nat) (a_md_asks : Nat) (a_md_brings : Nat) (a_md_uses : Nat) (a_md_days : Nat) (a_md_tries : Nat) (a_md_row : Nat) (a_md_first : Nat) (a_md_held : Nat) (md_typed : Int32) (md_known : Int32) (md_kept : Int32) (md_sights : Int32) (md_at : Int32) (md_many : Int32) (md_length : Int32) (md_set : Int32) (md_text : (Nat → Int32)) (md_told : (Nat → Int32)) (md_draft : (Nat → Int32)) (md_s : (Nat → Int32)) (md_past : (Nat → Int32)) (md_images : (Nat → Int32)) (md_seen : (Nat → Int32)) (md_asks : (Nat → Int32)) (md_brings : (Nat → Int32)) (md_uses : (Nat → Int32)) (md_days : (Nat → Int32)) (md_tries : (Nat → Int32)) (md_row : (Nat → Int32)) (md_first : (Nat → Int32)) (md_held : (Nat → Int32)) (p0 : Int32) (p1 : Int32) (p2 : Int32) (N : Nat) (out : Int32) (hm : m_X6_helpFor N md_told p0 p1 p2 = some out) : RdI l yX6_helpFor wsX6_helpFor rX6_helpFor D (tyK cC cI cJ) [.ref a_md, .int p0, .int p1, .int p2] (wd_28 cC cI cJ a_md a_md_text md_typed a_md_told a_md_draft a_md_s a_md_past md_known a_md_images md_kept a_md_seen md_sights md_at a_md_asks a_md_brings a_md_uses a_md_days a_md_tries a_md_row md_many a_md_first md_length md_set a_md_held a_md_text md_text a_md_told md_told a_md_draft md_draft a_md_s md_s a_md_past md_past a_md_images md_images a_md_seen md_seen a_md_asks md_asks a_md_brings md_brings a_md_uses md_uses a_md_days md_days a_md_tries md_tries a_md_row md_row a_md_first md_first a_md_held md_held) out := by
  unfold m_X6_helpFor at hm
  refine enter (cc := cX6_helpFor) (maxL := 8) (ret := (some .int)) (lv := [(0, .ref a_md), (1, .int p0), (2, .int p1), (3, .int p2)]) (by decide) rfl (Nat.le_of_ble_eq_true rfl) rfl ?_
  intro p e s m args below meth c S hr hlk hK hP ls hl
  replace S : CallFix p m c cX6_helpFor 8 s args wsX6_helpFor RX6 := S
  have hx := S.1
  have hb := S.2.1
  refine lv_aload_n hx hb dX6_helpFor_0 rfl (lv_at hl 0 rfl) ?_
  refine f_get S hK hP in_X6_helpFor_X6 0 rfl rfl 2 (by decide) (List.mem_of_getElem? (i := 1) rfl) rfl rfl dX6_helpFor_1 ?_
  refine lv_iconst (v := 5) hx hb dX6_helpFor_4 (by decide) ?_
  refine lv_iload_n hx hb dX6_helpFor_5 rfl (lv_at hl 1 rfl) ?_
  refine lv_iadd hx hb dX6_helpFor_6 ?_
  obtain ⟨g1, hm⟩ := gdo hm
  refine f_iald S hK hP 2 1 rfl rfl g1 dX6_helpFor_7 ?_
  obtain ⟨y2, e3, hm⟩ := ob hm
  refine f_name e3 ?_
  refine lv_istore (lv' := [(4, .int y2), (0, .ref a_md), (1, .int p0), (2, .int p1), (3, .int p2)]) hx hb dX6_helpFor_8 hl (by decide) rfl (fun ls hl => ?_)
  refine lv_aload_n hx hb dX6_helpFor_10 rfl (lv_at hl 1 rfl) ?_
  refine f_get S hK hP in_X6_helpFor_X6 0 rfl rfl 2 (by decide) (List.mem_of_getElem? (i := 1) rfl) rfl rfl dX6_helpFor_11 ?_
  refine lv_bipush (v := 21) hx hb dX6_helpFor_14 (by decide) ?_
  refine lv_iload_n hx hb dX6_helpFor_16 rfl (lv_at hl 2 rfl) ?_
  refine lv_iadd hx hb dX6_helpFor_17 ?_
  obtain ⟨g4, hm⟩ := gdo hm
  refine f_iald S hK hP 2 1 rfl rfl g4 dX6_helpFor_18 ?_
  obtain ⟨y5, e6, hm⟩ := ob hm
  refine f_name e6 ?_
  refine lv_istore (lv' := [(5, .int y5), (4, .int y2), (0, .ref a_md), (1, .int p0), (2, .int p1), (3, .int p2)]) hx hb dX6_helpFor_19 hl (by decide) rfl (fun ls hl => ?_)
  refine lv_iload hx hb dX6_helpFor_21 (lv_at hl 1 rfl) ?_
  refine lv_iconst (v := 2) hx hb dX6_helpFor_23 (by decide) ?_
  refine lv_icmp_ne (tgt := 29) hx hb dX6_helpFor_24 (by decide) (fun c7 => ?_) (fun c7 => ?_)
  · replace hm := ineg hm c7
    refine lv_iload hx hb dX6_helpFor_29 (lv_at hl 1 rfl) ?_
    refine lv_iconst (v := 4) hx hb dX6_helpFor_31 (by decide) ?_
    refine lv_icmp_ne (tgt := 43) hx hb dX6_helpFor_32 (by decide) (fun c8 => ?_) (fun c8 => ?_)
    · replace hm := ineg hm c8
      refine lv_iload hx hb dX6_helpFor_43 (lv_at hl 0 rfl) ?_
      refine lv_iconst (v := 5) hx hb dX6_helpFor_45 (by decide) ?_
      refine lv_icmp_ne (tgt := 53) hx hb dX6_helpFor_46 (by decide) (fun c9 => ?_) (fun c9 => ?_)
      · replace hm := ineg hm c9
        refine lv_aload_n hx hb dX6_helpFor_53 rfl (lv_at hl 2 rfl) ?_
        refine lv_iload_n hx hb dX6_helpFor_54 rfl (lv_at hl 4 rfl) ?_
        refine lv_iload hx hb dX6_helpFor_55 (lv_at hl 0 rfl) ?_
        obtain ⟨r10, h11, hm⟩ := ob hm
        refine k_rVi S hK hP cal_X6_lowest gX6_helpFor_X6_lowest (c_X6_lowest l D cC cI cJ a_md a_md_text a_md_told a_md_draft a_md_s a_md_past a_md_images a_md_seen a_md_asks a_md_brings a_md_uses a_md_days a_md_tries a_md_row a_md_first a_md_held md_typed md_known md_kept md_sights md_at md_many md_length md_set md_text md_told md_draft md_s md_past md_images md_seen md_asks md_brings md_uses md_days md_tries md_row md_first md_held p1 y5 N r10 h11) ⟨⟨rfl, rfl⟩, Nat.le_of_ble_eq_true rfl, Nat.le_of_ble_eq_true rfl⟩ [0, 1, 2, 3, 4, 5, 6, 7, 8, 9, 10, 11, 12, 13, 14, 15] rfl 0 rfl rfl rfl hl.1 rfl (Nat.le_of_ble_eq_true rfl) dX6_helpFor_57 ⟨Nat.zero_le _, Nat.zero_le _⟩ ?_
        refine lv_istore (lv' := [(6, .int r10), (5, .int y5), (4, .int y2), (0, .ref a_md), (1, .int p0), (2, .int p1), (3, .int p2)]) hx hb dX6_helpFor_60 hl (by decide) rfl (fun ls hl => ?_)
        refine lv_iload hx hb dX6_helpFor_62 (lv_at hl 1 rfl) ?_
        refine lv_iconst (v := 5) hx hb dX6_helpFor_64 (by decide) ?_
        refine lv_icmp_eq (tgt := 75) hx hb dX6_helpFor_65 (by decide) (fun c12 => ?_) (fun c12 => ?_)
        · exact absurd c12 c9
        · skip
          refine lv_iload hx hb dX6_helpFor_68 (lv_at hl 0 rfl) ?_
          refine lv_if_ne (tgt := 75) hx hb dX6_helpFor_70 (by decide) (fun c13 => ?_) (fun c13 => ?_)
          · replace hm := ineg hm c13
            refine lv_iload hx hb dX6_helpFor_75 (lv_at hl 2 rfl) ?_
            refine lv_iconst (v := 3) hx hb dX6_helpFor_77 (by decide) ?_
            refine lv_icmp_eq (tgt := 93) hx hb dX6_helpFor_78 (by decide) (fun c14 => ?_) (fun c14 => ?_)
            · replace hm := ipos hm c14
              refine lv_aload_n hx hb dX6_helpFor_93 rfl (lv_at hl 3 rfl) ?_
              refine lv_iload_n hx hb dX6_helpFor_94 rfl (lv_at hl 5 rfl) ?_
              refine lv_iload hx hb dX6_helpFor_95 (lv_at hl 0 rfl) ?_
              refine lv_iconst (v := (-1)) hx hb dX6_helpFor_97 (by decide) ?_
              refine lv_ixor hx hb dX6_helpFor_98 ?_
              refine lv_iand hx hb dX6_helpFor_99 ?_
              refine lv_iload hx hb dX6_helpFor_100 (lv_at hl 2 rfl) ?_
              refine lv_iconst (v := 3) hx hb dX6_helpFor_102 (by decide) ?_
              refine lv_icmp_ne (tgt := 110) hx hb dX6_helpFor_103 (by decide) (fun c15 => ?_) (fun c15 => ?_)
              · exact absurd c14 c15
              · skip
                refine lv_iconst (v := (-1)) hx hb dX6_helpFor_106 (by decide) ?_
                refine lv_goto (tgt := 112) hx hb dX6_helpFor_107 (by decide) ?_
                obtain ⟨r16, h17, hm⟩ := ob hm
                refine k_rVi S hK hP cal_X6_lowest gX6_helpFor_X6_lowest (c_X6_lowest l D cC cI cJ a_md a_md_text a_md_told a_md_draft a_md_s a_md_past a_md_images a_md_seen a_md_asks a_md_brings a_md_uses a_md_days a_md_tries a_md_row a_md_first a_md_held md_typed md_known md_kept md_sights md_at md_many md_length md_set md_text md_told md_draft md_s md_past md_images md_seen md_asks md_brings md_uses md_days md_tries md_row md_first md_held (p1 &&& (r10 ^^^ (-1 : Int32))) (-1 : Int32) N r16 h17) ⟨⟨rfl, rfl⟩, Nat.le_of_ble_eq_true rfl, Nat.le_of_ble_eq_true rfl⟩ [0, 1, 2, 3, 4, 5, 6, 7, 8, 9, 10, 11, 12, 13, 14, 15] rfl 0 rfl rfl rfl hl.1 rfl (Nat.le_of_ble_eq_true rfl) dX6_helpFor_112 ⟨Nat.zero_le _, Nat.zero_le _⟩ ?_
                refine lv_istore (lv' := [(7, .int r16), (6, .int r10), (5, .int y5), (4, .int y2), (0, .ref a_md), (1, .int p0), (2, .int p1), (3, .int p2)]) hx hb dX6_helpFor_115 hl (by decide) rfl (fun ls hl => ?_)
                refine lv_iload hx hb dX6_helpFor_117 (lv_at hl 0 rfl) ?_
                refine lv_if_ne (tgt := 126) hx hb dX6_helpFor_119 (by decide) (fun c18 => ?_) (fun c18 => ?_)
                · replace hm := ineg hm c18
                  refine lv_iload hx hb dX6_helpFor_126 (lv_at hl 1 rfl) ?_
                  refine lv_iload hx hb dX6_helpFor_128 (lv_at hl 0 rfl) ?_
                  refine lv_ior hx hb dX6_helpFor_130 ?_
                  exact e_RI S hr hlk (Option.some.inj hm) dX6_helpFor_131
                · replace hm := ipos hm c18
                  refine lv_iconst (v := (-1)) hx hb dX6_helpFor_122 (by decide) ?_
                  refine lv_goto (tgt := 131) hx hb dX6_helpFor_123 (by decide) ?_
                  exact e_RI S hr hlk (Option.some.inj hm) dX6_helpFor_131
            · replace hm := ineg hm c14
              refine lv_iload hx hb dX6_helpFor_81 (lv_at hl 2 rfl) ?_
              refine lv_iconst (v := 1) hx hb dX6_helpFor_83 (by decide) ?_
              refine lv_icmp_ne (tgt := 132) hx hb dX6_helpFor_84 (by decide) (fun c19 => ?_) (fun c19 => ?_)
              · replace hm := ineg hm c19
                refine lv_iload hx hb dX6_helpFor_132 (lv_at hl 0 rfl) ?_
                exact e_RI S hr hlk (Option.some.inj hm) dX6_helpFor_134
              · replace hm := ipos hm c19
                refine lv_iload hx hb dX6_helpFor_87 (lv_at hl 1 rfl) ?_
                refine lv_iconst (v := 5) hx hb dX6_helpFor_89 (by decide) ?_
                refine lv_icmp_eq (tgt := 132) hx hb dX6_helpFor_90 (by decide) (fun c20 => ?_) (fun c20 => ?_)
                · exact absurd c20 c9
                · skip
                  refine lv_aload_n hx hb dX6_helpFor_93 rfl (lv_at hl 3 rfl) ?_
                  refine lv_iload_n hx hb dX6_helpFor_94 rfl (lv_at hl 5 rfl) ?_
                  refine lv_iload hx hb dX6_helpFor_95 (lv_at hl 0 rfl) ?_
                  refine lv_iconst (v := (-1)) hx hb dX6_helpFor_97 (by decide) ?_
                  refine lv_ixor hx hb dX6_helpFor_98 ?_
                  refine lv_iand hx hb dX6_helpFor_99 ?_
                  refine lv_iload hx hb dX6_helpFor_100 (lv_at hl 2 rfl) ?_
                  refine lv_iconst (v := 3) hx hb dX6_helpFor_102 (by decide) ?_
                  refine lv_icmp_ne (tgt := 110) hx hb dX6_helpFor_103 (by decide) (fun c21 => ?_) (fun c21 => ?_)
                  · skip
                    refine lv_iload hx hb dX6_helpFor_110 (lv_at hl 1 rfl) ?_
                    obtain ⟨r22, h23, hm⟩ := ob hm
                    refine k_rVi S hK hP cal_X6_lowest gX6_helpFor_X6_lowest (c_X6_lowest l D cC cI cJ a_md a_md_text a_md_told a_md_draft a_md_s a_md_past a_md_images a_md_seen a_md_asks a_md_brings a_md_uses a_md_days a_md_tries a_md_row a_md_first a_md_held md_typed md_known md_kept md_sights md_at md_many md_length md_set md_text md_told md_draft md_s md_past md_images md_seen md_asks md_brings md_uses md_days md_tries md_row md_first md_held (p1 &&& (r10 ^^^ (-1 : Int32))) y5 N r22 h23) ⟨⟨rfl, rfl⟩, Nat.le_of_ble_eq_true rfl, Nat.le_of_ble_eq_true rfl⟩ [0, 1, 2, 3, 4, 5, 6, 7, 8, 9, 10, 11, 12, 13, 14, 15] rfl 0 rfl rfl rfl hl.1 rfl (Nat.le_of_ble_eq_true rfl) dX6_helpFor_112 ⟨Nat.zero_le _, Nat.zero_le _⟩ ?_
                    refine lv_istore (lv' := [(7, .int r22), (6, .int r10), (5, .int y5), (4, .int y2), (0, .ref a_md), (1, .int p0), (2, .int p1), (3, .int p2)]) hx hb dX6_helpFor_115 hl (by decide) rfl (fun ls hl => ?_)
                    refine lv_iload hx hb dX6_helpFor_117 (lv_at hl 0 rfl) ?_
                    refine lv_if_ne (tgt := 126) hx hb dX6_helpFor_119 (by decide) (fun c24 => ?_) (fun c24 => ?_)
                    · replace hm := ineg hm c24
                      refine lv_iload hx hb dX6_helpFor_126 (lv_at hl 1 rfl) ?_
                      refine lv_iload hx hb dX6_helpFor_128 (lv_at hl 0 rfl) ?_
                      refine lv_ior hx hb dX6_helpFor_130 ?_
                      exact e_RI S hr hlk (Option.some.inj hm) dX6_helpFor_131
                    · replace hm := ipos hm c24
                      refine lv_iconst (v := (-1)) hx hb dX6_helpFor_122 (by decide) ?_
                      refine lv_goto (tgt := 131) hx hb dX6_helpFor_123 (by decide) ?_
                      exact e_RI S hr hlk (Option.some.inj hm) dX6_helpFor_131
                  · exact absurd c21 c14
          · replace hm := ipos hm c13
            refine lv_iconst (v := (-1)) hx hb dX6_helpFor_73 (by decide) ?_
            exact e_RI S hr hlk (Option.some.inj hm) dX6_helpFor_74
      · replace hm := ipos hm c9
        refine lv_iconst (v := 0) hx hb dX6_helpFor_49 (by decide) ?_
        refine lv_goto (tgt := 60) hx hb dX6_helpFor_50 (by decide) ?_
        refine lv_istore (lv' := [(6, .int (0 : Int32)), (5, .int y5), (4, .int y2), (0, .ref a_md), (1, .int p0), (2, .int p1), (3, .int p2)]) hx hb dX6_helpFor_60 hl (by decide) rfl (fun ls hl => ?_)
        refine lv_iload hx hb dX6_helpFor_62 (lv_at hl 1 rfl) ?_
        refine lv_iconst (v := 5) hx hb dX6_helpFor_64 (by decide) ?_
        refine lv_icmp_eq (tgt := 75) hx hb dX6_helpFor_65 (by decide) (fun c25 => ?_) (fun c25 => ?_)
        · skip
          refine lv_iload hx hb dX6_helpFor_75 (lv_at hl 2 rfl) ?_
          refine lv_iconst (v := 3) hx hb dX6_helpFor_77 (by decide) ?_
          refine lv_icmp_eq (tgt := 93) hx hb dX6_helpFor_78 (by decide) (fun c26 => ?_) (fun c26 => ?_)
          · replace hm := ipos hm c26
            refine lv_aload_n hx hb dX6_helpFor_93 rfl (lv_at hl 3 rfl) ?_
            refine lv_iload_n hx hb dX6_helpFor_94 rfl (lv_at hl 5 rfl) ?_
            refine lv_iload hx hb dX6_helpFor_95 (lv_at hl 0 rfl) ?_
            refine lv_iconst (v := (-1)) hx hb dX6_helpFor_97 (by decide) ?_
            refine lv_ixor hx hb dX6_helpFor_98 ?_
            refine lv_iand hx hb dX6_helpFor_99 ?_
            refine lv_iload hx hb dX6_helpFor_100 (lv_at hl 2 rfl) ?_
            refine lv_iconst (v := 3) hx hb dX6_helpFor_102 (by decide) ?_
            refine lv_icmp_ne (tgt := 110) hx hb dX6_helpFor_103 (by decide) (fun c27 => ?_) (fun c27 => ?_)
            · exact absurd c26 c27
            · skip
              refine lv_iconst (v := (-1)) hx hb dX6_helpFor_106 (by decide) ?_
              refine lv_goto (tgt := 112) hx hb dX6_helpFor_107 (by decide) ?_
              obtain ⟨r28, h29, hm⟩ := ob hm
              refine k_rVi S hK hP cal_X6_lowest gX6_helpFor_X6_lowest (c_X6_lowest l D cC cI cJ a_md a_md_text a_md_told a_md_draft a_md_s a_md_past a_md_images a_md_seen a_md_asks a_md_brings a_md_uses a_md_days a_md_tries a_md_row a_md_first a_md_held md_typed md_known md_kept md_sights md_at md_many md_length md_set md_text md_told md_draft md_s md_past md_images md_seen md_asks md_brings md_uses md_days md_tries md_row md_first md_held (p1 &&& ((0 : Int32) ^^^ (-1 : Int32))) (-1 : Int32) N r28 h29) ⟨⟨rfl, rfl⟩, Nat.le_of_ble_eq_true rfl, Nat.le_of_ble_eq_true rfl⟩ [0, 1, 2, 3, 4, 5, 6, 7, 8, 9, 10, 11, 12, 13, 14, 15] rfl 0 rfl rfl rfl hl.1 rfl (Nat.le_of_ble_eq_true rfl) dX6_helpFor_112 ⟨Nat.zero_le _, Nat.zero_le _⟩ ?_
              refine lv_istore (lv' := [(7, .int r28), (6, .int (0 : Int32)), (5, .int y5), (4, .int y2), (0, .ref a_md), (1, .int p0), (2, .int p1), (3, .int p2)]) hx hb dX6_helpFor_115 hl (by decide) rfl (fun ls hl => ?_)
              refine lv_iload hx hb dX6_helpFor_117 (lv_at hl 0 rfl) ?_
              refine lv_if_ne (tgt := 126) hx hb dX6_helpFor_119 (by decide) (fun c30 => ?_) (fun c30 => ?_)
              · replace hm := ineg hm c30
                refine lv_iload hx hb dX6_helpFor_126 (lv_at hl 1 rfl) ?_
                refine lv_iload hx hb dX6_helpFor_128 (lv_at hl 0 rfl) ?_
                refine lv_ior hx hb dX6_helpFor_130 ?_
                exact e_RI S hr hlk (Option.some.inj hm) dX6_helpFor_131
              · replace hm := ipos hm c30
                refine lv_iconst (v := (-1)) hx hb dX6_helpFor_122 (by decide) ?_
                refine lv_goto (tgt := 131) hx hb dX6_helpFor_123 (by decide) ?_
                exact e_RI S hr hlk (Option.some.inj hm) dX6_helpFor_131
          · replace hm := ineg hm c26
            refine lv_iload hx hb dX6_helpFor_81 (lv_at hl 2 rfl) ?_
            refine lv_iconst (v := 1) hx hb dX6_helpFor_83 (by decide) ?_
            refine lv_icmp_ne (tgt := 132) hx hb dX6_helpFor_84 (by decide) (fun c31 => ?_) (fun c31 => ?_)
            · replace hm := ineg hm c31
              refine lv_iload hx hb dX6_helpFor_132 (lv_at hl 0 rfl) ?_
              exact e_RI S hr hlk (Option.some.inj hm) dX6_helpFor_134
            · replace hm := ipos hm c31
              refine lv_iload hx hb dX6_helpFor_87 (lv_at hl 1 rfl) ?_
              refine lv_iconst (v := 5) hx hb dX6_helpFor_89 (by decide) ?_
              refine lv_icmp_eq (tgt := 132) hx hb dX6_helpFor_90 (by decide) (fun c32 => ?_) (fun c32 => ?_)
              · skip
                refine lv_iload hx hb dX6_helpFor_132 (lv_at hl 0 rfl) ?_
                exact e_RI S hr hlk (Option.some.inj hm) dX6_helpFor_134
              · exact absurd c9 c32
        · exact absurd c9 c25
    · replace hm := ipos hm c8
      refine lv_iload_n hx hb dX6_helpFor_35 rfl (lv_at hl 5 rfl) ?_
      refine lv_bipush (v := 10) hx hb dX6_helpFor_36 (by decide) ?_
      refine lv_icmp_le (tgt := 43) hx hb dX6_helpFor_38 (by decide) (fun c33 => ?_) (fun c33 => ?_)
      · replace hm := ipos hm c33
        refine lv_iload hx hb dX6_helpFor_43 (lv_at hl 0 rfl) ?_
        refine lv_iconst (v := 5) hx hb dX6_helpFor_45 (by decide) ?_
        refine lv_icmp_ne (tgt := 53) hx hb dX6_helpFor_46 (by decide) (fun c34 => ?_) (fun c34 => ?_)
        · replace hm := ineg hm c34
          refine lv_aload_n hx hb dX6_helpFor_53 rfl (lv_at hl 2 rfl) ?_
          refine lv_iload_n hx hb dX6_helpFor_54 rfl (lv_at hl 4 rfl) ?_
          refine lv_iload hx hb dX6_helpFor_55 (lv_at hl 0 rfl) ?_
          obtain ⟨r35, h36, hm⟩ := ob hm
          refine k_rVi S hK hP cal_X6_lowest gX6_helpFor_X6_lowest (c_X6_lowest l D cC cI cJ a_md a_md_text a_md_told a_md_draft a_md_s a_md_past a_md_images a_md_seen a_md_asks a_md_brings a_md_uses a_md_days a_md_tries a_md_row a_md_first a_md_held md_typed md_known md_kept md_sights md_at md_many md_length md_set md_text md_told md_draft md_s md_past md_images md_seen md_asks md_brings md_uses md_days md_tries md_row md_first md_held p1 y5 N r35 h36) ⟨⟨rfl, rfl⟩, Nat.le_of_ble_eq_true rfl, Nat.le_of_ble_eq_true rfl⟩ [0, 1, 2, 3, 4, 5, 6, 7, 8, 9, 10, 11, 12, 13, 14, 15] rfl 0 rfl rfl rfl hl.1 rfl (Nat.le_of_ble_eq_true rfl) dX6_helpFor_57 ⟨Nat.zero_le _, Nat.zero_le _⟩ ?_
          refine lv_istore (lv' := [(6, .int r35), (5, .int y5), (4, .int y2), (0, .ref a_md), (1, .int p0), (2, .int p1), (3, .int p2)]) hx hb dX6_helpFor_60 hl (by decide) rfl (fun ls hl => ?_)
          refine lv_iload hx hb dX6_helpFor_62 (lv_at hl 1 rfl) ?_
          refine lv_iconst (v := 5) hx hb dX6_helpFor_64 (by decide) ?_
          refine lv_icmp_eq (tgt := 75) hx hb dX6_helpFor_65 (by decide) (fun c37 => ?_) (fun c37 => ?_)
          · exact absurd c37 c34
          · skip
            refine lv_iload hx hb dX6_helpFor_68 (lv_at hl 0 rfl) ?_
            refine lv_if_ne (tgt := 75) hx hb dX6_helpFor_70 (by decide) (fun c38 => ?_) (fun c38 => ?_)
            · replace hm := ineg hm c38
              refine lv_iload hx hb dX6_helpFor_75 (lv_at hl 2 rfl) ?_
              refine lv_iconst (v := 3) hx hb dX6_helpFor_77 (by decide) ?_
              refine lv_icmp_eq (tgt := 93) hx hb dX6_helpFor_78 (by decide) (fun c39 => ?_) (fun c39 => ?_)
              · replace hm := ipos hm c39
                refine lv_aload_n hx hb dX6_helpFor_93 rfl (lv_at hl 3 rfl) ?_
                refine lv_iload_n hx hb dX6_helpFor_94 rfl (lv_at hl 5 rfl) ?_
                refine lv_iload hx hb dX6_helpFor_95 (lv_at hl 0 rfl) ?_
                refine lv_iconst (v := (-1)) hx hb dX6_helpFor_97 (by decide) ?_
                refine lv_ixor hx hb dX6_helpFor_98 ?_
                refine lv_iand hx hb dX6_helpFor_99 ?_
                refine lv_iload hx hb dX6_helpFor_100 (lv_at hl 2 rfl) ?_
                refine lv_iconst (v := 3) hx hb dX6_helpFor_102 (by decide) ?_
                refine lv_icmp_ne (tgt := 110) hx hb dX6_helpFor_103 (by decide) (fun c40 => ?_) (fun c40 => ?_)
                · exact absurd c39 c40
                · skip
                  refine lv_iconst (v := (-1)) hx hb dX6_helpFor_106 (by decide) ?_
                  refine lv_goto (tgt := 112) hx hb dX6_helpFor_107 (by decide) ?_
                  obtain ⟨r41, h42, hm⟩ := ob hm
                  refine k_rVi S hK hP cal_X6_lowest gX6_helpFor_X6_lowest (c_X6_lowest l D cC cI cJ a_md a_md_text a_md_told a_md_draft a_md_s a_md_past a_md_images a_md_seen a_md_asks a_md_brings a_md_uses a_md_days a_md_tries a_md_row a_md_first a_md_held md_typed md_known md_kept md_sights md_at md_many md_length md_set md_text md_told md_draft md_s md_past md_images md_seen md_asks md_brings md_uses md_days md_tries md_row md_first md_held (p1 &&& (r35 ^^^ (-1 : Int32))) (-1 : Int32) N r41 h42) ⟨⟨rfl, rfl⟩, Nat.le_of_ble_eq_true rfl, Nat.le_of_ble_eq_true rfl⟩ [0, 1, 2, 3, 4, 5, 6, 7, 8, 9, 10, 11, 12, 13, 14, 15] rfl 0 rfl rfl rfl hl.1 rfl (Nat.le_of_ble_eq_true rfl) dX6_helpFor_112 ⟨Nat.zero_le _, Nat.zero_le _⟩ ?_
                  refine lv_istore (lv' := [(7, .int r41), (6, .int r35), (5, .int y5), (4, .int y2), (0, .ref a_md), (1, .int p0), (2, .int p1), (3, .int p2)]) hx hb dX6_helpFor_115 hl (by decide) rfl (fun ls hl => ?_)
                  refine lv_iload hx hb dX6_helpFor_117 (lv_at hl 0 rfl) ?_
                  refine lv_if_ne (tgt := 126) hx hb dX6_helpFor_119 (by decide) (fun c43 => ?_) (fun c43 => ?_)
                  · replace hm := ineg hm c43
                    refine lv_iload hx hb dX6_helpFor_126 (lv_at hl 1 rfl) ?_
                    refine lv_iload hx hb dX6_helpFor_128 (lv_at hl 0 rfl) ?_
                    refine lv_ior hx hb dX6_helpFor_130 ?_
                    exact e_RI S hr hlk (Option.some.inj hm) dX6_helpFor_131
                  · replace hm := ipos hm c43
                    refine lv_iconst (v := (-1)) hx hb dX6_helpFor_122 (by decide) ?_
                    refine lv_goto (tgt := 131) hx hb dX6_helpFor_123 (by decide) ?_
                    exact e_RI S hr hlk (Option.some.inj hm) dX6_helpFor_131
              · replace hm := ineg hm c39
                refine lv_iload hx hb dX6_helpFor_81 (lv_at hl 2 rfl) ?_
                refine lv_iconst (v := 1) hx hb dX6_helpFor_83 (by decide) ?_
                refine lv_icmp_ne (tgt := 132) hx hb dX6_helpFor_84 (by decide) (fun c44 => ?_) (fun c44 => ?_)
                · replace hm := ineg hm c44
                  refine lv_iload hx hb dX6_helpFor_132 (lv_at hl 0 rfl) ?_
                  exact e_RI S hr hlk (Option.some.inj hm) dX6_helpFor_134
                · replace hm := ipos hm c44
                  refine lv_iload hx hb dX6_helpFor_87 (lv_at hl 1 rfl) ?_
                  refine lv_iconst (v := 5) hx hb dX6_helpFor_89 (by decide) ?_
                  refine lv_icmp_eq (tgt := 132) hx hb dX6_helpFor_90 (by decide) (fun c45 => ?_) (fun c45 => ?_)
                  · exact absurd c45 c34
                  · skip
                    refine lv_aload_n hx hb dX6_helpFor_93 rfl (lv_at hl 3 rfl) ?_
                    refine lv_iload_n hx hb dX6_helpFor_94 rfl (lv_at hl 5 rfl) ?_
                    refine lv_iload hx hb dX6_helpFor_95 (lv_at hl 0 rfl) ?_
                    refine lv_iconst (v := (-1)) hx hb dX6_helpFor_97 (by decide) ?_
                    refine lv_ixor hx hb dX6_helpFor_98 ?_
                    refine lv_iand hx hb dX6_helpFor_99 ?_
                    refine lv_iload hx hb dX6_helpFor_100 (lv_at hl 2 rfl) ?_
                    refine lv_iconst (v := 3) hx hb dX6_helpFor_102 (by decide) ?_
                    refine lv_icmp_ne (tgt := 110) hx hb dX6_helpFor_103 (by decide) (fun c46 => ?_) (fun c46 => ?_)
                    · skip
                      refine lv_iload hx hb dX6_helpFor_110 (lv_at hl 1 rfl) ?_
                      obtain ⟨r47, h48, hm⟩ := ob hm
                      refine k_rVi S hK hP cal_X6_lowest gX6_helpFor_X6_lowest (c_X6_lowest l D cC cI cJ a_md a_md_text a_md_told a_md_draft a_md_s a_md_past a_md_images a_md_seen a_md_asks a_md_brings a_md_uses a_md_days a_md_tries a_md_row a_md_first a_md_held md_typed md_known md_kept md_sights md_at md_many md_length md_set md_text md_told md_draft md_s md_past md_images md_seen md_asks md_brings md_uses md_days md_tries md_row md_first md_held (p1 &&& (r35 ^^^ (-1 : Int32))) y5 N r47 h48) ⟨⟨rfl, rfl⟩, Nat.le_of_ble_eq_true rfl, Nat.le_of_ble_eq_true rfl⟩ [0, 1, 2, 3, 4, 5, 6, 7, 8, 9, 10, 11, 12, 13, 14, 15] rfl 0 rfl rfl rfl hl.1 rfl (Nat.le_of_ble_eq_true rfl) dX6_helpFor_112 ⟨Nat.zero_le _, Nat.zero_le _⟩ ?_
                      refine lv_istore (lv' := [(7, .int r47), (6, .int r35), (5, .int y5), (4, .int y2), (0, .ref a_md), (1, .int p0), (2, .int p1), (3, .int p2)]) hx hb dX6_helpFor_115 hl (by decide) rfl (fun ls hl => ?_)
                      refine lv_iload hx hb dX6_helpFor_117 (lv_at hl 0 rfl) ?_
                      refine lv_if_ne (tgt := 126) hx hb dX6_helpFor_119 (by decide) (fun c49 => ?_) (fun c49 => ?_)
                      · replace hm := ineg hm c49
                        refine lv_iload hx hb dX6_helpFor_126 (lv_at hl 1 rfl) ?_
                        refine lv_iload hx hb dX6_helpFor_128 (lv_at hl 0 rfl) ?_
                        refine lv_ior hx hb dX6_helpFor_130 ?_
                        exact e_RI S hr hlk (Option.some.inj hm) dX6_helpFor_131
                      · replace hm := ipos hm c49
                        refine lv_iconst (v := (-1)) hx hb dX6_helpFor_122 (by decide) ?_
                        refine lv_goto (tgt := 131) hx hb dX6_helpFor_123 (by decide) ?_
                        exact e_RI S hr hlk (Option.some.inj hm) dX6_helpFor_131
                    · exact absurd c46 c39
            · replace hm := ipos hm c38
              refine lv_iconst (v := (-1)) hx hb dX6_helpFor_73 (by decide) ?_
              exact e_RI S hr hlk (Option.some.inj hm) dX6_helpFor_74
        · replace hm := ipos hm c34
          refine lv_iconst (v := 0) hx hb dX6_helpFor_49 (by decide) ?_
          refine lv_goto (tgt := 60) hx hb dX6_helpFor_50 (by decide) ?_
          refine lv_istore (lv' := [(6, .int (0 : Int32)), (5, .int y5), (4, .int y2), (0, .ref a_md), (1, .int p0), (2, .int p1), (3, .int p2)]) hx hb dX6_helpFor_60 hl (by decide) rfl (fun ls hl => ?_)
          refine lv_iload hx hb dX6_helpFor_62 (lv_at hl 1 rfl) ?_
          refine lv_iconst (v := 5) hx hb dX6_helpFor_64 (by decide) ?_
          refine lv_icmp_eq (tgt := 75) hx hb dX6_helpFor_65 (by decide) (fun c50 => ?_) (fun c50 => ?_)
          · skip
            refine lv_iload hx hb dX6_helpFor_75 (lv_at hl 2 rfl) ?_
            refine lv_iconst (v := 3) hx hb dX6_helpFor_77 (by decide) ?_
            refine lv_icmp_eq (tgt := 93) hx hb dX6_helpFor_78 (by decide) (fun c51 => ?_) (fun c51 => ?_)
            · replace hm := ipos hm c51
              refine lv_aload_n hx hb dX6_helpFor_93 rfl (lv_at hl 3 rfl) ?_
              refine lv_iload_n hx hb dX6_helpFor_94 rfl (lv_at hl 5 rfl) ?_
              refine lv_iload hx hb dX6_helpFor_95 (lv_at hl 0 rfl) ?_
              refine lv_iconst (v := (-1)) hx hb dX6_helpFor_97 (by decide) ?_
              refine lv_ixor hx hb dX6_helpFor_98 ?_
              refine lv_iand hx hb dX6_helpFor_99 ?_
              refine lv_iload hx hb dX6_helpFor_100 (lv_at hl 2 rfl) ?_
              refine lv_iconst (v := 3) hx hb dX6_helpFor_102 (by decide) ?_
              refine lv_icmp_ne (tgt := 110) hx hb dX6_helpFor_103 (by decide) (fun c52 => ?_) (fun c52 => ?_)
              · exact absurd c51 c52
              · skip
                refine lv_iconst (v := (-1)) hx hb dX6_helpFor_106 (by decide) ?_
                refine lv_goto (tgt := 112) hx hb dX6_helpFor_107 (by decide) ?_
                obtain ⟨r53, h54, hm⟩ := ob hm
                refine k_rVi S hK hP cal_X6_lowest gX6_helpFor_X6_lowest (c_X6_lowest l D cC cI cJ a_md a_md_text a_md_told a_md_draft a_md_s a_md_past a_md_images a_md_seen a_md_asks a_md_brings a_md_uses a_md_days a_md_tries a_md_row a_md_first a_md_held md_typed md_known md_kept md_sights md_at md_many md_length md_set md_text md_told md_draft md_s md_past md_images md_seen md_asks md_brings md_uses md_days md_tries md_row md_first md_held (p1 &&& ((0 : Int32) ^^^ (-1 : Int32))) (-1 : Int32) N r53 h54) ⟨⟨rfl, rfl⟩, Nat.le_of_ble_eq_true rfl, Nat.le_of_ble_eq_true rfl⟩ [0, 1, 2, 3, 4, 5, 6, 7, 8, 9, 10, 11, 12, 13, 14, 15] rfl 0 rfl rfl rfl hl.1 rfl (Nat.le_of_ble_eq_true rfl) dX6_helpFor_112 ⟨Nat.zero_le _, Nat.zero_le _⟩ ?_
                refine lv_istore (lv' := [(7, .int r53), (6, .int (0 : Int32)), (5, .int y5), (4, .int y2), (0, .ref a_md), (1, .int p0), (2, .int p1), (3, .int p2)]) hx hb dX6_helpFor_115 hl (by decide) rfl (fun ls hl => ?_)
                refine lv_iload hx hb dX6_helpFor_117 (lv_at hl 0 rfl) ?_
                refine lv_if_ne (tgt := 126) hx hb dX6_helpFor_119 (by decide) (fun c55 => ?_) (fun c55 => ?_)
                · replace hm := ineg hm c55
                  refine lv_iload hx hb dX6_helpFor_126 (lv_at hl 1 rfl) ?_
                  refine lv_iload hx hb dX6_helpFor_128 (lv_at hl 0 rfl) ?_
                  refine lv_ior hx hb dX6_helpFor_130 ?_
                  exact e_RI S hr hlk (Option.some.inj hm) dX6_helpFor_131
                · replace hm := ipos hm c55
                  refine lv_iconst (v := (-1)) hx hb dX6_helpFor_122 (by decide) ?_
                  refine lv_goto (tgt := 131) hx hb dX6_helpFor_123 (by decide) ?_
                  exact e_RI S hr hlk (Option.some.inj hm) dX6_helpFor_131
            · replace hm := ineg hm c51
              refine lv_iload hx hb dX6_helpFor_81 (lv_at hl 2 rfl) ?_
              refine lv_iconst (v := 1) hx hb dX6_helpFor_83 (by decide) ?_
              refine lv_icmp_ne (tgt := 132) hx hb dX6_helpFor_84 (by decide) (fun c56 => ?_) (fun c56 => ?_)
              · replace hm := ineg hm c56
                refine lv_iload hx hb dX6_helpFor_132 (lv_at hl 0 rfl) ?_
                exact e_RI S hr hlk (Option.some.inj hm) dX6_helpFor_134
              · replace hm := ipos hm c56
                refine lv_iload hx hb dX6_helpFor_87 (lv_at hl 1 rfl) ?_
                refine lv_iconst (v := 5) hx hb dX6_helpFor_89 (by decide) ?_
                refine lv_icmp_eq (tgt := 132) hx hb dX6_helpFor_90 (by decide) (fun c57 => ?_) (fun c57 => ?_)
                · skip
                  refine lv_iload hx hb dX6_helpFor_132 (lv_at hl 0 rfl) ?_
                  exact e_RI S hr hlk (Option.some.inj hm) dX6_helpFor_134
                · exact absurd c34 c57
          · exact absurd c34 c50
      · replace hm := ineg hm c33
        refine lv_iconst (v := (-1)) hx hb dX6_helpFor_41 (by decide) ?_
        exact e_RI S hr hlk (Option.some.inj hm) dX6_helpFor_42
  · replace hm := ipos hm c7
    refine lv_iconst (v := 0) hx hb dX6_helpFor_27 (by decide) ?_
    exact e_RI S hr hlk (Option.some.inj hm) dX6_helpFor_28
