/-! walks: X6_forWhat X6_forget X6_silent X6_grooms X6_handUp X6_helpNow X6_help X6_helper -/
abbrev rX6_forWhat : Room := { frames := 2, cells := 0, slots := 0, locals := 43 }
theorem cal_X6_forWhat : Cal yX6_forWhat wsX6_forWhat cX6_forWhat 4 (some .int) RX6 1 := ⟨⟨_, rfl⟩, rfl, by decide +kernel, by decide +kernel, by decide +kernel⟩
theorem in_X6_forWhat_X6 : ∀ w ∈ wsX60, w ∈ wsX6_forWhat := fun _ h => (List.mem_cons_of_mem _ (List.mem_append_right _ h))
set_option maxHeartbeats 4000000 in
set_option maxRecDepth 100000 in
theorem t_X6_forWhat_49 {p : Program} {e : Env} {s : State} {m : MethodId} {args : Array Value} {below : List Frame} {meth : Method} {c : Code} {Q : State → Prop} {H : Heap} {locs : List Loc} (l : Launch) {D : va_G} {cC cI cJ : ClassId} (S : CallFix p m c cX6_forWhat 4 s args wsX6_forWhat RX6) (hK : KK D (tyK cC cI cJ) s) (a_md : Nat) (a_md_text : Nat) (a_md_told : Nat) (a_md_draft : Nat) (a_md_s : Nat) (a_md_past : Nat) (a_md_images : Nat) (a_md_seen : Nat) (a_md_asks : Nat) (a_md_brings : Nat) (a_md_uses : Nat) (a_md_days : Nat) (a_md_tries : Nat) (a_md_row : Nat) (a_md_first : Nat) (a_md_held : Nat) (N : Nat) (v1 : Int32) (md_typed : Int32) (md_known : Int32) (md_kept : Int32) (md_sights : Int32) (md_at : Int32) (md_many : Int32) (md_length : Int32) (md_set : Int32) (md_text : (Nat → Int32)) (md_told : (Nat → Int32)) (md_draft : (Nat → Int32)) (md_s : (Nat → Int32)) (md_past : (Nat → Int32)) (md_images : (Nat → Int32)) (md_seen : (Nat → Int32)) (md_asks : (Nat → Int32)) (md_brings : (Nat → Int32)) (md_uses : (Nat → Int32)) (md_days : (Nat → Int32)) (md_tries : (Nat → Int32)) (md_row : (Nat → Int32)) (md_first : (Nat → Int32)) (md_held : (Nat → Int32)) (hP : va_P D vwCl (wd_28 cC cI cJ a_md a_md_text md_typed a_md_told a_md_draft a_md_s a_md_past md_known a_md_images md_kept a_md_seen md_sights md_at a_md_asks a_md_brings a_md_uses a_md_days a_md_tries a_md_row md_many a_md_first md_length md_set a_md_held a_md_text md_text a_md_told md_told a_md_draft md_draft a_md_s md_s a_md_past md_past a_md_images md_images a_md_seen md_seen a_md_asks md_asks a_md_brings md_brings a_md_uses md_uses a_md_days md_days a_md_tries md_tries a_md_row md_row a_md_first md_first a_md_held md_held) H) : ∀ (n : Nat) (v2 : Int32) (v3 : Int32) (out : Int32), lp_X6_forWhat_49 N v1 md_told md_s n v2 v3 = some out → ∀ (ls : Array Slot), lv_has ls 4 [(0, .ref a_md), (1, .int v1), (2, .int v2), (3, .int v3)] → (∀ (ls : Array Slot), lv_has ls 4 [(2, .int out)] → W p l e rX6_forWhat s m args below meth c H locs 0 0 Q (F0 m 105 ls [])) → W p l e rX6_forWhat s m args below meth c H locs 0 0 Q (F0 m 49 ls []) := by
  have hx := S.1
  have hb := S.2.1
  intro n
  induction n with
  | zero => intro v2 v3 out hm; cases (show (none : Option Int32) = some out from hm)
  | succ n ih =>
    intro v2 v3 out hm  ls hl K0
    rw [lp_X6_forWhat_49] at hm
    refine lv_iload_n hx hb dX6_forWhat_49 rfl (lv_at hl 3 rfl) ?_
    refine lv_aload_n hx hb dX6_forWhat_50 rfl (lv_at hl 0 rfl) ?_
    refine f_get S hK hP in_X6_forWhat_X6 0 rfl rfl 2 (by decide) (List.mem_of_getElem? (i := 2) rfl) rfl rfl dX6_forWhat_51 ?_
    refine lv_iconst (v := 0) hx hb dX6_forWhat_54 (by decide) ?_
    refine f_ialdK S hK hP 2 1 rfl rfl 0 (by decide) (by decide) (v := (md_told 0)) rfl dX6_forWhat_55 ?_
    refine lv_icmp_ge (tgt := 105) hx hb dX6_forWhat_56 (by decide) (fun c9 => ?_) (fun c9 => ?_)
    · replace hm := ipos hm c9
      obtain rfl := Option.some.inj hm
      exact K0  ls (lv_sub hl [2] rfl)
    · replace hm := ineg hm c9
      refine lv_iload_n hx hb dX6_forWhat_59 rfl (lv_at hl 2 rfl) ?_
      refine lv_iload_n hx hb dX6_forWhat_60 rfl (lv_at hl 3 rfl) ?_
      refine lv_iload_n hx hb dX6_forWhat_61 rfl (lv_at hl 1 rfl) ?_
      refine lv_icmp_eq (tgt := 96) hx hb dX6_forWhat_62 (by decide) (fun c10 => ?_) (fun c10 => ?_)
      · replace hm := ipos hm c10
        refine lv_iconst (v := 0) hx hb dX6_forWhat_96 (by decide) ?_
        refine lv_ior hx hb dX6_forWhat_97 ?_
        refine lv_istore_n (lv' := [(2, .int (v2 ||| (0 : Int32))), (0, .ref a_md), (1, .int v1), (3, .int v3)]) hx hb dX6_forWhat_98 rfl hl (by decide) rfl (fun ls hl => ?_)
        refine lv_iinc (v := (v3 + 1)) (lv' := [(3, .int (v3 + 1)), (2, .int (v2 ||| (0 : Int32))), (0, .ref a_md), (1, .int v1)]) hx hb dX6_forWhat_99 hl (k := 3) rfl (by rw [ofi_1]) (by decide) rfl (fun ls hl => ?_)
        refine lv_goto (tgt := 49) hx hb dX6_forWhat_102 (by decide) ?_
        exact ih (v2 ||| (0 : Int32)) (v3 + 1) _ hm  ls (lv_sub hl [2, 3, 1, 0] rfl) K0
      · replace hm := ineg hm c10
        refine lv_aload_n hx hb dX6_forWhat_65 rfl (lv_at hl 0 rfl) ?_
        obtain ⟨r11, h12, hm⟩ := ob hm
        refine k_rVi S hK hP cal_X6_comes gX6_forWhat_X6_comes (c_X6_comes l D cC cI cJ a_md a_md_text a_md_told a_md_draft a_md_s a_md_past a_md_images a_md_seen a_md_asks a_md_brings a_md_uses a_md_days a_md_tries a_md_row a_md_first a_md_held md_typed md_known md_kept md_sights md_at md_many md_length md_set md_text md_told md_draft md_s md_past md_images md_seen md_asks md_brings md_uses md_days md_tries md_row md_first md_held N r11 h12) ⟨⟨rfl, rfl⟩, Nat.le_of_ble_eq_true rfl, Nat.le_of_ble_eq_true rfl⟩ [0, 1, 2, 3, 4, 5, 6, 7, 8, 9, 10, 11, 12, 13, 14, 15] rfl 0 rfl rfl rfl hl.1 rfl (Nat.le_of_ble_eq_true rfl) dX6_forWhat_66 ⟨Nat.zero_le _, Nat.zero_le _⟩ ?_
        refine lv_iload_n hx hb dX6_forWhat_69 rfl (lv_at hl 3 rfl) ?_
        refine lv_ishr hx hb dX6_forWhat_70 ?_
        refine lv_iconst (v := 1) hx hb dX6_forWhat_71 (by decide) ?_
        refine lv_iand hx hb dX6_forWhat_72 ?_
        refine lv_iconst (v := 1) hx hb dX6_forWhat_73 (by decide) ?_
        refine lv_icmp_ne (tgt := 96) hx hb dX6_forWhat_74 (by decide) (fun c13 => ?_) (fun c13 => ?_)
        · replace hm := ineg hm c13
          refine lv_iconst (v := 0) hx hb dX6_forWhat_96 (by decide) ?_
          refine lv_ior hx hb dX6_forWhat_97 ?_
          refine lv_istore_n (lv' := [(2, .int (v2 ||| (0 : Int32))), (0, .ref a_md), (1, .int v1), (3, .int v3)]) hx hb dX6_forWhat_98 rfl hl (by decide) rfl (fun ls hl => ?_)
          refine lv_iinc (v := (v3 + 1)) (lv' := [(3, .int (v3 + 1)), (2, .int (v2 ||| (0 : Int32))), (0, .ref a_md), (1, .int v1)]) hx hb dX6_forWhat_99 hl (k := 3) rfl (by rw [ofi_1]) (by decide) rfl (fun ls hl => ?_)
          refine lv_goto (tgt := 49) hx hb dX6_forWhat_102 (by decide) ?_
          exact ih (v2 ||| (0 : Int32)) (v3 + 1) _ hm  ls (lv_sub hl [2, 3, 1, 0] rfl) K0
        · replace hm := ipos hm c13
          refine lv_aload_n hx hb dX6_forWhat_77 rfl (lv_at hl 0 rfl) ?_
          refine f_get S hK hP in_X6_forWhat_X6 0 rfl rfl 2 (by decide) (List.mem_of_getElem? (i := 2) rfl) rfl rfl dX6_forWhat_78 ?_
          refine lv_bipush (v := 29) hx hb dX6_forWhat_81 (by decide) ?_
          refine lv_iload_n hx hb dX6_forWhat_83 rfl (lv_at hl 3 rfl) ?_
          refine lv_iadd hx hb dX6_forWhat_84 ?_
          obtain ⟨g14, hm⟩ := gdo hm
          refine f_iald S hK hP 2 1 rfl rfl g14 dX6_forWhat_85 ?_
          refine lv_iload_n hx hb dX6_forWhat_86 rfl (lv_at hl 1 rfl) ?_
          refine lv_icmp_ne (tgt := 96) hx hb dX6_forWhat_87 (by decide) (fun c15 => ?_) (fun c15 => ?_)
          · replace hm := ineg hm c15
            refine lv_iconst (v := 0) hx hb dX6_forWhat_96 (by decide) ?_
            refine lv_ior hx hb dX6_forWhat_97 ?_
            refine lv_istore_n (lv' := [(2, .int (v2 ||| (0 : Int32))), (0, .ref a_md), (1, .int v1), (3, .int v3)]) hx hb dX6_forWhat_98 rfl hl (by decide) rfl (fun ls hl => ?_)
            refine lv_iinc (v := (v3 + 1)) (lv' := [(3, .int (v3 + 1)), (2, .int (v2 ||| (0 : Int32))), (0, .ref a_md), (1, .int v1)]) hx hb dX6_forWhat_99 hl (k := 3) rfl (by rw [ofi_1]) (by decide) rfl (fun ls hl => ?_)
            refine lv_goto (tgt := 49) hx hb dX6_forWhat_102 (by decide) ?_
            exact ih (v2 ||| (0 : Int32)) (v3 + 1) _ hm  ls (lv_sub hl [2, 3, 1, 0] rfl) K0
          · replace hm := ipos hm c15
            refine lv_iconst (v := 1) hx hb dX6_forWhat_90 (by decide) ?_
            refine lv_iload_n hx hb dX6_forWhat_91 rfl (lv_at hl 3 rfl) ?_
            refine lv_ishl hx hb dX6_forWhat_92 ?_
            refine lv_goto (tgt := 97) hx hb dX6_forWhat_93 (by decide) ?_
            refine lv_ior hx hb dX6_forWhat_97 ?_
            obtain ⟨y16, e17, hm⟩ := ob hm
            refine f_name e17 ?_
            refine lv_istore_n (lv' := [(2, .int y16), (0, .ref a_md), (1, .int v1), (3, .int v3)]) hx hb dX6_forWhat_98 rfl hl (by decide) rfl (fun ls hl => ?_)
            refine lv_iinc (v := (v3 + 1)) (lv' := [(3, .int (v3 + 1)), (2, .int y16), (0, .ref a_md), (1, .int v1)]) hx hb dX6_forWhat_99 hl (k := 3) rfl (by rw [ofi_1]) (by decide) rfl (fun ls hl => ?_)
            refine lv_goto (tgt := 49) hx hb dX6_forWhat_102 (by decide) ?_
            exact ih y16 (v3 + 1) _ hm  ls (lv_sub hl [2, 3, 1, 0] rfl) K0
set_option maxHeartbeats 4000000 in
set_option maxRecDepth 100000 in
theorem c_X6_forWhat (l : Launch) (D : va_G) (cC cI cJ : ClassId) (a_md : Nat) (a_md_text : Nat) (a_md_told : Nat) (a_md_draft : Nat) (a_md_s : Nat) (a_md_past : Nat) (a_md_images : Nat) (a_md_seen : Nat) (a_md_asks : Nat) (a_md_brings : Nat) (a_md_uses : Nat) (a_md_days : Nat) (a_md_tries : Nat) (a_md_row : Nat) (a_md_first : Nat) (a_md_held : Nat) (md_typed : Int32) (md_known : Int32) (md_kept : Int32) (md_sights : Int32) (md_at : Int32) (md_many : Int32) (md_length : Int32) (md_set : Int32) (md_text : (Nat → Int32)) (md_told : (Nat → Int32)) (md_draft : (Nat → Int32)) (md_s : (Nat → Int32)) (md_past : (Nat → Int32)) (md_images : (Nat → Int32)) (md_seen : (Nat → Int32)) (md_asks : (Nat → Int32)) (md_brings : (Nat → Int32)) (md_uses : (Nat → Int32)) (md_days : (Nat → Int32)) (md_tries : (Nat → Int32)) (md_row : (Nat → Int32)) (md_first : (Nat → Int32)) (md_held : (Nat → Int32)) (p0 : Int32) (N : Nat) (out : Int32) (hm : m_X6_forWhat N md_told md_s p0 = some out) : RdI l yX6_forWhat wsX6_forWhat rX6_forWhat D (tyK cC cI cJ) [.ref a_md, .int p0] (wd_28 cC cI cJ a_md a_md_text md_typed a_md_told a_md_draft a_md_s a_md_past md_known a_md_images md_kept a_md_seen md_sights md_at a_md_asks a_md_brings a_md_uses a_md_days a_md_tries a_md_row md_many a_md_first md_length md_set a_md_held a_md_text md_text a_md_told md_told a_md_draft md_draft a_md_s md_s a_md_past md_past a_md_images md_images a_md_seen md_seen a_md_asks md_asks a_md_brings md_brings a_md_uses md_uses a_md_days md_days a_md_tries md_tries a_md_row md_row a_md_first md_first a_md_held md_held) out := by
  unfold m_X6_forWhat at hm
  refine enter (cc := cX6_forWhat) (maxL := 4) (ret := (some .int)) (lv := [(0, .ref a_md), (1, .int p0)]) (by decide) rfl (Nat.le_of_ble_eq_true rfl) rfl ?_
  intro p e s m args below meth c S hr hlk hK hP ls hl
  replace S : CallFix p m c cX6_forWhat 4 s args wsX6_forWhat RX6 := S
  have hx := S.1
  have hb := S.2.1
  refine lv_aload_n hx hb dX6_forWhat_0 rfl (lv_at hl 0 rfl) ?_
  refine lv_iload_n hx hb dX6_forWhat_1 rfl (lv_at hl 1 rfl) ?_
  obtain ⟨r1, h2, hm⟩ := ob hm
  refine k_rVi S hK hP cal_X6_isTask gX6_forWhat_X6_isTask (c_X6_isTask l D cC cI cJ a_md a_md_text a_md_told a_md_draft a_md_s a_md_past a_md_images a_md_seen a_md_asks a_md_brings a_md_uses a_md_days a_md_tries a_md_row a_md_first a_md_held md_typed md_known md_kept md_sights md_at md_many md_length md_set md_text md_told md_draft md_s md_past md_images md_seen md_asks md_brings md_uses md_days md_tries md_row md_first md_held p0 r1 h2) ⟨⟨rfl, rfl⟩, Nat.le_of_ble_eq_true rfl, Nat.le_of_ble_eq_true rfl⟩ [0, 1, 2, 3, 4, 5, 6, 7, 8, 9, 10, 11, 12, 13, 14, 15] rfl 0 rfl rfl rfl hl.1 rfl (Nat.le_of_ble_eq_true rfl) dX6_forWhat_2 ⟨Nat.zero_le _, Nat.zero_le _⟩ ?_
  refine lv_if_ne (tgt := 10) hx hb dX6_forWhat_5 (by decide) (fun c3 => ?_) (fun c3 => ?_)
  · replace hm := ineg hm c3
    refine lv_aload_n hx hb dX6_forWhat_10 rfl (lv_at hl 0 rfl) ?_
    refine f_get S hK hP in_X6_forWhat_X6 0 rfl rfl 4 (by decide) (List.mem_of_getElem? (i := 1) rfl) rfl rfl dX6_forWhat_11 ?_
    refine lv_iconst (v := 1) hx hb dX6_forWhat_14 (by decide) ?_
    refine f_ialdK S hK hP 4 1 rfl rfl 1 (by decide) (by decide) (v := (md_s 1)) rfl dX6_forWhat_15 ?_
    refine lv_iload_n hx hb dX6_forWhat_16 rfl (lv_at hl 1 rfl) ?_
    refine lv_ishr hx hb dX6_forWhat_17 ?_
    refine lv_iconst (v := 1) hx hb dX6_forWhat_18 (by decide) ?_
    refine lv_iand hx hb dX6_forWhat_19 ?_
    refine lv_iconst (v := 1) hx hb dX6_forWhat_20 (by decide) ?_
    refine lv_icmp_ne (tgt := 27) hx hb dX6_forWhat_21 (by decide) (fun c5 => ?_) (fun c5 => ?_)
    · replace hm := ineg hm c5
      refine lv_aload_n hx hb dX6_forWhat_27 rfl (lv_at hl 0 rfl) ?_
      refine f_get S hK hP in_X6_forWhat_X6 0 rfl rfl 4 (by decide) (List.mem_of_getElem? (i := 1) rfl) rfl rfl dX6_forWhat_28 ?_
      refine lv_iconst (v := 0) hx hb dX6_forWhat_31 (by decide) ?_
      refine f_ialdK S hK hP 4 1 rfl rfl 0 (by decide) (by decide) (v := (md_s 0)) rfl dX6_forWhat_32 ?_
      refine lv_iload_n hx hb dX6_forWhat_33 rfl (lv_at hl 1 rfl) ?_
      refine lv_ishr hx hb dX6_forWhat_34 ?_
      refine lv_iconst (v := 1) hx hb dX6_forWhat_35 (by decide) ?_
      refine lv_iand hx hb dX6_forWhat_36 ?_
      refine lv_iconst (v := 1) hx hb dX6_forWhat_37 (by decide) ?_
      refine lv_icmp_ne (tgt := 45) hx hb dX6_forWhat_38 (by decide) (fun c7 => ?_) (fun c7 => ?_)
      · replace hm := ineg hm c7
        refine lv_iconst (v := 0) hx hb dX6_forWhat_45 (by decide) ?_
        refine lv_istore_n (lv' := [(2, .int (0 : Int32)), (0, .ref a_md), (1, .int p0)]) hx hb dX6_forWhat_46 rfl hl (by decide) rfl (fun ls hl => ?_)
        refine lv_iconst (v := 0) hx hb dX6_forWhat_47 (by decide) ?_
        refine lv_istore_n (lv' := [(3, .int (0 : Int32)), (2, .int (0 : Int32)), (0, .ref a_md), (1, .int p0)]) hx hb dX6_forWhat_48 rfl hl (by decide) rfl (fun ls hl => ?_)
        obtain ⟨r18, h19, hm⟩ := ob hm
        refine t_X6_forWhat_49 l S hK a_md a_md_text a_md_told a_md_draft a_md_s a_md_past a_md_images a_md_seen a_md_asks a_md_brings a_md_uses a_md_days a_md_tries a_md_row a_md_first a_md_held N p0 md_typed md_known md_kept md_sights md_at md_many md_length md_set md_text md_told md_draft md_s md_past md_images md_seen md_asks md_brings md_uses md_days md_tries md_row md_first md_held hP N (0 : Int32) (0 : Int32) r18 h19  ls (lv_sub hl [2, 3, 1, 0] rfl) (fun ls hl => ?_)
        refine lv_iload_n hx hb dX6_forWhat_105 rfl (lv_at hl 0 rfl) ?_
        exact e_RI S hr hlk (Option.some.inj hm) dX6_forWhat_106
      · replace hm := ipos hm c7
        refine lv_iconst (v := 1) hx hb dX6_forWhat_41 (by decide) ?_
        refine lv_iload_n hx hb dX6_forWhat_42 rfl (lv_at hl 1 rfl) ?_
        refine lv_ishl hx hb dX6_forWhat_43 ?_
        exact e_RI S hr hlk (Option.some.inj hm) dX6_forWhat_44
    · replace hm := ipos hm c5
      refine lv_bipush (v := (-2)) hx hb dX6_forWhat_24 (by decide) ?_
      exact e_RI S hr hlk (Option.some.inj hm) dX6_forWhat_26
  · replace hm := ipos hm c3
    refine lv_iconst (v := (-1)) hx hb dX6_forWhat_8 (by decide) ?_
    exact e_RI S hr hlk (Option.some.inj hm) dX6_forWhat_9

abbrev rX6_forget : Room := { frames := 0, cells := 0, slots := 0, locals := 0 }
theorem cal_X6_forget : Cal yX6_forget wsX6_forget cX6_forget 2 (some .int) RX6 0 := ⟨⟨_, rfl⟩, rfl, by decide +kernel, by decide +kernel, by decide +kernel⟩
theorem in_X6_forget_X6 : ∀ w ∈ wsX60, w ∈ wsX6_forget := fun _ h => (List.mem_cons_of_mem _ (List.mem_append_right _ h))
set_option maxHeartbeats 4000000 in
set_option maxRecDepth 100000 in
theorem c_X6_forget (l : Launch) (D : va_G) (cC cI cJ : ClassId) (a_md : Nat) (a_md_text : Nat) (a_md_told : Nat) (a_md_draft : Nat) (a_md_s : Nat) (a_md_past : Nat) (a_md_images : Nat) (a_md_seen : Nat) (a_md_asks : Nat) (a_md_brings : Nat) (a_md_uses : Nat) (a_md_days : Nat) (a_md_tries : Nat) (a_md_row : Nat) (a_md_first : Nat) (a_md_held : Nat) (md_typed : Int32) (md_known : Int32) (md_kept : Int32) (md_sights : Int32) (md_at : Int32) (md_many : Int32) (md_length : Int32) (md_set : Int32) (md_text : (Nat → Int32)) (md_told : (Nat → Int32)) (md_draft : (Nat → Int32)) (md_s : (Nat → Int32)) (md_past : (Nat → Int32)) (md_images : (Nat → Int32)) (md_seen : (Nat → Int32)) (md_asks : (Nat → Int32)) (md_brings : (Nat → Int32)) (md_uses : (Nat → Int32)) (md_days : (Nat → Int32)) (md_tries : (Nat → Int32)) (md_row : (Nat → Int32)) (md_first : (Nat → Int32)) (md_held : (Nat → Int32)) (A : Nat → Prop) (hD : va_D A (wd_28 cC cI cJ a_md a_md_text md_typed a_md_told a_md_draft a_md_s a_md_past md_known a_md_images md_kept a_md_seen md_sights md_at a_md_asks a_md_brings a_md_uses a_md_days a_md_tries a_md_row md_many a_md_first md_length md_set a_md_held a_md_text md_text a_md_told md_told a_md_draft md_draft a_md_s md_s a_md_past md_past a_md_images md_images a_md_seen md_seen a_md_asks md_asks a_md_brings md_brings a_md_uses md_uses a_md_days md_days a_md_tries md_tries a_md_row md_row a_md_first md_first a_md_held md_held)) (out : (Int32 × Int32)) (hm : m_X6_forget md_sights = some out) : WrI l yX6_forget wsX6_forget rX6_forget D (tyK cC cI cJ) [.ref a_md] A (wd_28 cC cI cJ a_md a_md_text md_typed a_md_told a_md_draft a_md_s a_md_past md_known a_md_images md_kept a_md_seen md_sights md_at a_md_asks a_md_brings a_md_uses a_md_days a_md_tries a_md_row md_many a_md_first md_length md_set a_md_held a_md_text md_text a_md_told md_told a_md_draft md_draft a_md_s md_s a_md_past md_past a_md_images md_images a_md_seen md_seen a_md_asks md_asks a_md_brings md_brings a_md_uses md_uses a_md_days md_days a_md_tries md_tries a_md_row md_row a_md_first md_first a_md_held md_held) (Bw0 D (wd_28 cC cI cJ a_md a_md_text md_typed a_md_told a_md_draft a_md_s a_md_past md_known a_md_images md_kept a_md_seen out.2 md_at a_md_asks a_md_brings a_md_uses a_md_days a_md_tries a_md_row md_many a_md_first md_length md_set a_md_held a_md_text md_text a_md_told md_told a_md_draft md_draft a_md_s md_s a_md_past md_past a_md_images md_images a_md_seen md_seen a_md_asks md_asks a_md_brings md_brings a_md_uses md_uses a_md_days md_days a_md_tries md_tries a_md_row md_row a_md_first md_first a_md_held md_held)) out.1 := by
  unfold m_X6_forget at hm
  refine enter (cc := cX6_forget) (maxL := 2) (ret := (some .int)) (lv := [(0, .ref a_md)]) (by decide) rfl (Nat.le_of_ble_eq_true rfl) rfl ?_
  intro p e s m args below meth c S hr hlk hK hP ls hl
  replace S : CallFix p m c cX6_forget 2 s args wsX6_forget RX6 := S
  have hx := S.1
  have hb := S.2.1
  have hw : Wd D A s.heap (wd_28 cC cI cJ a_md a_md_text md_typed a_md_told a_md_draft a_md_s a_md_past md_known a_md_images md_kept a_md_seen md_sights md_at a_md_asks a_md_brings a_md_uses a_md_days a_md_tries a_md_row md_many a_md_first md_length md_set a_md_held a_md_text md_text a_md_told md_told a_md_draft md_draft a_md_s md_s a_md_past md_past a_md_images md_images a_md_seen md_seen a_md_asks md_asks a_md_brings md_brings a_md_uses md_uses a_md_days md_days a_md_tries md_tries a_md_row md_row a_md_first md_first a_md_held md_held) s.heap [] := ⟨hP, hD, va_S.rf⟩
  have hw0 := hw
  refine lv_aload_n hx hb dX6_forget_0 rfl (lv_at hl 0 rfl) ?_
  refine f_get S hK hw.1 in_X6_forget_X6 0 rfl rfl 10 (by decide) (List.mem_of_getElem? (i := 1) rfl) rfl rfl dX6_forget_1 ?_
  refine lv_istore_n (lv' := [(1, .int md_sights), (0, .ref a_md)]) hx hb dX6_forget_4 rfl hl (by decide) rfl (fun ls hl => ?_)
  refine lv_aload_n hx hb dX6_forget_5 rfl (lv_at hl 1 rfl) ?_
  refine lv_iconst (v := 0) hx hb dX6_forget_6 (by decide) ?_
  refine f_put S hK hw in_X6_forget_X6 tyX6_ok nmX6 0 rfl rfl 10 (by decide) (List.mem_of_getElem? (i := 1) rfl) rfl rfl rfl rfl (Nat.le_of_ble_eq_true rfl) (ws1 := (wd_28 cC cI cJ a_md a_md_text md_typed a_md_told a_md_draft a_md_s a_md_past md_known a_md_images md_kept a_md_seen (0 : Int32) md_at a_md_asks a_md_brings a_md_uses a_md_days a_md_tries a_md_row md_many a_md_first md_length md_set a_md_held a_md_text md_text a_md_told md_told a_md_draft md_draft a_md_s md_s a_md_past md_past a_md_images md_images a_md_seen md_seen a_md_asks md_asks a_md_brings md_brings a_md_uses md_uses a_md_days md_days a_md_tries md_tries a_md_row md_row a_md_first md_first a_md_held md_held)) rfl dX6_forget_7 (fun H locs hw => ?_)
  refine lv_iload_n hx hb dX6_forget_10 rfl (lv_at hl 0 rfl) ?_
  obtain rfl := Option.some.inj hm
  exact e_WI S hr hlk hw rfl hw.1 dX6_forget_11

abbrev rX6_silent : Room := { frames := 1, cells := 0, slots := 0, locals := 20 }
theorem cal_X6_silent : Cal yX6_silent wsX6_silent cX6_silent 1 (some .int) RX6 0 := ⟨⟨_, rfl⟩, rfl, by decide +kernel, by decide +kernel, by decide +kernel⟩
theorem in_X6_silent_X6 : ∀ w ∈ wsX60, w ∈ wsX6_silent := fun _ h => (List.mem_cons_of_mem _ (List.mem_append_right _ h))
set_option maxHeartbeats 4000000 in
set_option maxRecDepth 100000 in
theorem c_X6_silent (l : Launch) (D : va_G) (cC cI cJ : ClassId) (a_md : Nat) (a_md_text : Nat) (a_md_told : Nat) (a_md_draft : Nat) (a_md_s : Nat) (a_md_past : Nat) (a_md_images : Nat) (a_md_seen : Nat) (a_md_asks : Nat) (a_md_brings : Nat) (a_md_uses : Nat) (a_md_days : Nat) (a_md_tries : Nat) (a_md_row : Nat) (a_md_first : Nat) (a_md_held : Nat) (md_typed : Int32) (md_known : Int32) (md_kept : Int32) (md_sights : Int32) (md_at : Int32) (md_many : Int32) (md_length : Int32) (md_set : Int32) (md_text : (Nat → Int32)) (md_told : (Nat → Int32)) (md_draft : (Nat → Int32)) (md_s : (Nat → Int32)) (md_past : (Nat → Int32)) (md_images : (Nat → Int32)) (md_seen : (Nat → Int32)) (md_asks : (Nat → Int32)) (md_brings : (Nat → Int32)) (md_uses : (Nat → Int32)) (md_days : (Nat → Int32)) (md_tries : (Nat → Int32)) (md_row : (Nat → Int32)) (md_first : (Nat → Int32)) (md_held : (Nat → Int32)) (out : Int32) (hm : m_X6_silent md_told md_s = some out) : RdI l yX6_silent wsX6_silent rX6_silent D (tyK cC cI cJ) [.ref a_md] (wd_28 cC cI cJ a_md a_md_text md_typed a_md_told a_md_draft a_md_s a_md_past md_known a_md_images md_kept a_md_seen md_sights md_at a_md_asks a_md_brings a_md_uses a_md_days a_md_tries a_md_row md_many a_md_first md_length md_set a_md_held a_md_text md_text a_md_told md_told a_md_draft md_draft a_md_s md_s a_md_past md_past a_md_images md_images a_md_seen md_seen a_md_asks md_asks a_md_brings md_brings a_md_uses md_uses a_md_days md_days a_md_tries md_tries a_md_row md_row a_md_first md_first a_md_held md_held) out := by
  unfold m_X6_silent at hm
  refine enter (cc := cX6_silent) (maxL := 1) (ret := (some .int)) (lv := [(0, .ref a_md)]) (by decide) rfl (Nat.le_of_ble_eq_true rfl) rfl ?_
  intro p e s m args below meth c S hr hlk hK hP ls hl
  replace S : CallFix p m c cX6_silent 1 s args wsX6_silent RX6 := S
  have hx := S.1
  have hb := S.2.1
  refine lv_aload_n hx hb dX6_silent_0 rfl (lv_at hl 0 rfl) ?_
  obtain ⟨r1, h2, hm⟩ := ob hm
  refine k_rVi S hK hP cal_X6_isLost gX6_silent_X6_isLost (c_X6_isLost l D cC cI cJ a_md a_md_text a_md_told a_md_draft a_md_s a_md_past a_md_images a_md_seen a_md_asks a_md_brings a_md_uses a_md_days a_md_tries a_md_row a_md_first a_md_held md_typed md_known md_kept md_sights md_at md_many md_length md_set md_text md_told md_draft md_s md_past md_images md_seen md_asks md_brings md_uses md_days md_tries md_row md_first md_held r1 h2) ⟨⟨rfl, rfl⟩, Nat.le_of_ble_eq_true rfl, Nat.le_of_ble_eq_true rfl⟩ [0, 1, 2, 3, 4, 5, 6, 7, 8, 9, 10, 11, 12, 13, 14, 15] rfl 0 rfl rfl rfl hl.1 rfl (Nat.le_of_ble_eq_true rfl) dX6_silent_1 ⟨Nat.zero_le _, Nat.zero_le _⟩ ?_
  refine lv_if_eq (tgt := 11) hx hb dX6_silent_4 (by decide) (fun c3 => ?_) (fun c3 => ?_)
  · replace hm := ipos hm c3
    refine lv_iconst (v := 1) hx hb dX6_silent_11 (by decide) ?_
    refine lv_aload_n hx hb dX6_silent_12 rfl (lv_at hl 0 rfl) ?_
    refine f_get S hK hP in_X6_silent_X6 0 rfl rfl 2 (by decide) (List.mem_of_getElem? (i := 1) rfl) rfl rfl dX6_silent_13 ?_
    refine lv_iconst (v := 0) hx hb dX6_silent_16 (by decide) ?_
    refine f_ialdK S hK hP 2 1 rfl rfl 0 (by decide) (by decide) (v := (md_told 0)) rfl dX6_silent_17 ?_
    refine lv_ishl hx hb dX6_silent_18 ?_
    refine lv_iconst (v := 1) hx hb dX6_silent_19 (by decide) ?_
    refine lv_isub hx hb dX6_silent_20 ?_
    refine lv_aload_n hx hb dX6_silent_21 rfl (lv_at hl 0 rfl) ?_
    refine f_get S hK hP in_X6_silent_X6 0 rfl rfl 4 (by decide) (List.mem_of_getElem? (i := 2) rfl) rfl rfl dX6_silent_22 ?_
    refine lv_iconst (v := 0) hx hb dX6_silent_25 (by decide) ?_
    refine f_ialdK S hK hP 4 1 rfl rfl 0 (by decide) (by decide) (v := (md_s 0)) rfl dX6_silent_26 ?_
    refine lv_iconst (v := (-1)) hx hb dX6_silent_27 (by decide) ?_
    refine lv_ixor hx hb dX6_silent_28 ?_
    refine lv_iand hx hb dX6_silent_29 ?_
    refine lv_aload_n hx hb dX6_silent_30 rfl (lv_at hl 0 rfl) ?_
    refine f_get S hK hP in_X6_silent_X6 0 rfl rfl 4 (by decide) (List.mem_of_getElem? (i := 2) rfl) rfl rfl dX6_silent_31 ?_
    refine lv_iconst (v := 1) hx hb dX6_silent_34 (by decide) ?_
    refine f_ialdK S hK hP 4 1 rfl rfl 1 (by decide) (by decide) (v := (md_s 1)) rfl dX6_silent_35 ?_
    refine lv_iconst (v := (-1)) hx hb dX6_silent_36 (by decide) ?_
    refine lv_ixor hx hb dX6_silent_37 ?_
    refine lv_iand hx hb dX6_silent_38 ?_
    exact e_RI S hr hlk (Option.some.inj hm) dX6_silent_39
  · replace hm := ineg hm c3
    refine lv_iconst (v := 0) hx hb dX6_silent_7 (by decide) ?_
    refine lv_goto (tgt := 39) hx hb dX6_silent_8 (by decide) ?_
    exact e_RI S hr hlk (Option.some.inj hm) dX6_silent_39

abbrev rX6_grooms : Room := { frames := 3, cells := 0, slots := 0, locals := 77 }
theorem cal_X6_grooms : Cal yX6_grooms wsX6_grooms cX6_grooms 10 (some .int) RX6 2 := ⟨⟨_, rfl⟩, rfl, by decide +kernel, by decide +kernel, by decide +kernel⟩
theorem in_X6_grooms_X6 : ∀ w ∈ wsX60, w ∈ wsX6_grooms := fun _ h => (List.mem_cons_of_mem _ (List.mem_append_right _ h))
set_option maxHeartbeats 4000000 in
set_option maxRecDepth 100000 in
theorem t_X6_grooms_43 {p : Program} {e : Env} {s : State} {m : MethodId} {args : Array Value} {below : List Frame} {meth : Method} {c : Code} {Q : State → Prop} (l : Launch) {D : va_G} {cC cI cJ : ClassId} {A : Nat → Prop} {H0 : Heap} (S : CallFix p m c cX6_grooms 10 s args wsX6_grooms RX6) (hK : KK D (tyK cC cI cJ) s) (a_md : Nat) (a_md_text : Nat) (a_md_told : Nat) (a_md_draft : Nat) (a_md_s : Nat) (a_md_past : Nat) (a_md_images : Nat) (a_md_seen : Nat) (a_md_asks : Nat) (a_md_brings : Nat) (a_md_uses : Nat) (a_md_days : Nat) (a_md_tries : Nat) (a_md_row : Nat) (a_md_first : Nat) (a_md_held : Nat) (N : Nat) (v1 : Int32) (v2 : Int32) (v3 : Int32) (v4 : Int32) (v5 : Int32) (md_typed : Int32) (md_known : Int32) (md_kept : Int32) (md_sights : Int32) (md_at : Int32) (md_many : Int32) (md_length : Int32) (md_set : Int32) (md_text : (Nat → Int32)) (md_told : (Nat → Int32)) (md_draft : (Nat → Int32)) (md_s : (Nat → Int32)) (md_past : (Nat → Int32)) (md_images : (Nat → Int32)) (md_seen : (Nat → Int32)) (md_asks : (Nat → Int32)) (md_brings : (Nat → Int32)) (md_uses : (Nat → Int32)) (md_days : (Nat → Int32)) (md_tries : (Nat → Int32)) (md_row : (Nat → Int32)) (md_first : (Nat → Int32)) (md_held : (Nat → Int32)) : ∀ (n : Nat) (v6 : Int32) (v7 : Int32) (out : Int32), lp_X6_grooms_43 N v3 n v6 v7 = some out → ∀ (H : Heap) (locs : List Loc) (ls : Array Slot), Wd D A H0 (wd_28 cC cI cJ a_md a_md_text md_typed a_md_told a_md_draft a_md_s a_md_past md_known a_md_images md_kept a_md_seen md_sights md_at a_md_asks a_md_brings a_md_uses a_md_days a_md_tries a_md_row md_many a_md_first md_length md_set a_md_held a_md_text md_text a_md_told md_told a_md_draft md_draft a_md_s md_s a_md_past md_past a_md_images md_images a_md_seen md_seen a_md_asks md_asks a_md_brings md_brings a_md_uses md_uses a_md_days md_days a_md_tries md_tries a_md_row md_row a_md_first md_first a_md_held md_held) H locs → lv_has ls 10 [(0, .ref a_md), (1, .int v1), (2, .int v2), (3, .int v3), (4, .int v4), (5, .int v5), (6, .int v6), (7, .int v7)] → (∀ (H : Heap) (locs : List Loc) (ls : Array Slot), Wd D A H0 (wd_28 cC cI cJ a_md a_md_text md_typed a_md_told a_md_draft a_md_s a_md_past md_known a_md_images md_kept a_md_seen md_sights md_at a_md_asks a_md_brings a_md_uses a_md_days a_md_tries a_md_row md_many a_md_first md_length md_set a_md_held a_md_text md_text a_md_told md_told a_md_draft md_draft a_md_s md_s a_md_past md_past a_md_images md_images a_md_seen md_seen a_md_asks md_asks a_md_brings md_brings a_md_uses md_uses a_md_days md_days a_md_tries md_tries a_md_row md_row a_md_first md_first a_md_held md_held) H locs → lv_has ls 10 [(0, .ref a_md), (1, .int v1), (2, .int v2), (3, .int v3), (4, .int v4), (5, .int v5), (6, .int out)] → W p l e rX6_grooms s m args below meth c H locs 0 0 Q (F0 m 65 ls [])) → W p l e rX6_grooms s m args below meth c H locs 0 0 Q (F0 m 43 ls []) := by
  have hx := S.1
  have hb := S.2.1
  intro n
  induction n with
  | zero => intro v6 v7 out hm; cases (show (none : Option Int32) = some out from hm)
  | succ n ih =>
    intro v6 v7 out hm  H locs ls hw hl K0
    rw [lp_X6_grooms_43] at hm
    refine lv_iload hx hb dX6_grooms_43 (lv_at hl 7 rfl) ?_
    refine lv_iload_n hx hb dX6_grooms_45 rfl (lv_at hl 3 rfl) ?_
    obtain ⟨r10, h11, hm⟩ := ob hm
    refine k_rSi S hK hw.1 cal_X6_ones gX6_grooms_X6_ones (c_X6_ones l D cC cI cJ v3 N r10 h11) ⟨⟨rfl, rfl⟩, Nat.le_of_ble_eq_true rfl, Nat.le_of_ble_eq_true rfl⟩ [] rfl rfl hl.1 rfl (Nat.le_of_ble_eq_true rfl) dX6_grooms_46 ⟨Nat.zero_le _, Nat.zero_le _⟩ ?_
    refine lv_icmp_ge (tgt := 65) hx hb dX6_grooms_49 (by decide) (fun c12 => ?_) (fun c12 => ?_)
    · replace hm := ipos hm c12
      obtain rfl := Option.some.inj hm
      exact K0  _ _ ls hw (lv_sub hl [0, 1, 2, 3, 4, 5, 6] rfl)
    · replace hm := ineg hm c12
      refine lv_iload hx hb dX6_grooms_52 (lv_at hl 6 rfl) ?_
      refine lv_bipush (v := 10) hx hb dX6_grooms_54 (by decide) ?_
      refine lv_imul hx hb dX6_grooms_56 ?_
      refine lv_istore (lv' := [(6, .int (v6 * (10 : Int32))), (0, .ref a_md), (1, .int v1), (2, .int v2), (3, .int v3), (4, .int v4), (5, .int v5), (7, .int v7)]) hx hb dX6_grooms_57 hl (by decide) rfl (fun ls hl => ?_)
      refine lv_iinc (v := (v7 + 1)) (lv' := [(7, .int (v7 + 1)), (6, .int (v6 * (10 : Int32))), (0, .ref a_md), (1, .int v1), (2, .int v2), (3, .int v3), (4, .int v4), (5, .int v5)]) hx hb dX6_grooms_59 hl (k := 7) rfl (by rw [ofi_1]) (by decide) rfl (fun ls hl => ?_)
      refine lv_goto (tgt := 43) hx hb dX6_grooms_62 (by decide) ?_
      exact ih (v6 * (10 : Int32)) (v7 + 1) _ hm  _ _ ls hw (lv_sub hl [2, 3, 4, 5, 6, 7, 1, 0] rfl) K0
set_option maxHeartbeats 4000000 in
set_option maxRecDepth 100000 in
theorem t_X6_grooms_96 {p : Program} {e : Env} {s : State} {m : MethodId} {args : Array Value} {below : List Frame} {meth : Method} {c : Code} {Q : State → Prop} (l : Launch) {D : va_G} {cC cI cJ : ClassId} {A : Nat → Prop} {H0 : Heap} (S : CallFix p m c cX6_grooms 10 s args wsX6_grooms RX6) (hK : KK D (tyK cC cI cJ) s) (a_md : Nat) (a_md_text : Nat) (a_md_told : Nat) (a_md_draft : Nat) (a_md_s : Nat) (a_md_past : Nat) (a_md_images : Nat) (a_md_seen : Nat) (a_md_asks : Nat) (a_md_brings : Nat) (a_md_uses : Nat) (a_md_days : Nat) (a_md_tries : Nat) (a_md_row : Nat) (a_md_first : Nat) (a_md_held : Nat) (v1 : Int32) (v2 : Int32) (v3 : Int32) (v4 : Int32) (v5 : Int32) (v6 : Int32) (v7 : Int32) (md_typed : Int32) (md_known : Int32) (md_kept : Int32) (md_sights : Int32) (md_at : Int32) (md_many : Int32) (md_length : Int32) (md_set : Int32) (md_text : (Nat → Int32)) (md_told : (Nat → Int32)) (md_draft : (Nat → Int32)) (md_s : (Nat → Int32)) (md_past : (Nat → Int32)) (md_images : (Nat → Int32)) (md_seen : (Nat → Int32)) (md_asks : (Nat → Int32)) (md_brings : (Nat → Int32)) (md_uses : (Nat → Int32)) (md_days : (Nat → Int32)) (md_tries : (Nat → Int32)) (md_row : (Nat → Int32)) (md_first : (Nat → Int32)) (md_held : (Nat → Int32)) : ∀ (n : Nat) (v8 : Int32) (v9 : Int32) (out : Int32), lp_X6_grooms_96 v1 v3 v7 md_told n v8 v9 = some out → ∀ (H : Heap) (locs : List Loc) (ls : Array Slot), Wd D A H0 (wd_28 cC cI cJ a_md a_md_text md_typed a_md_told a_md_draft a_md_s a_md_past md_known a_md_images md_kept a_md_seen md_sights md_at a_md_asks a_md_brings a_md_uses a_md_days a_md_tries a_md_row md_many a_md_first md_length md_set a_md_held a_md_text md_text a_md_told md_told a_md_draft md_draft a_md_s md_s a_md_past md_past a_md_images md_images a_md_seen md_seen a_md_asks md_asks a_md_brings md_brings a_md_uses md_uses a_md_days md_days a_md_tries md_tries a_md_row md_row a_md_first md_first a_md_held md_held) H locs → lv_has ls 10 [(0, .ref a_md), (1, .int v1), (2, .int v2), (3, .int v3), (4, .int v4), (5, .int v5), (6, .int v6), (7, .int v7), (8, .int v8), (9, .int v9)] → (∀ (H : Heap) (locs : List Loc) (ls : Array Slot), Wd D A H0 (wd_28 cC cI cJ a_md a_md_text md_typed a_md_told a_md_draft a_md_s a_md_past md_known a_md_images md_kept a_md_seen md_sights md_at a_md_asks a_md_brings a_md_uses a_md_days a_md_tries a_md_row md_many a_md_first md_length md_set a_md_held a_md_text md_text a_md_told md_told a_md_draft md_draft a_md_s md_s a_md_past md_past a_md_images md_images a_md_seen md_seen a_md_asks md_asks a_md_brings md_brings a_md_uses md_uses a_md_days md_days a_md_tries md_tries a_md_row md_row a_md_first md_first a_md_held md_held) H locs → lv_has ls 10 [(0, .ref a_md), (1, .int v1), (2, .int v2), (3, .int v3), (4, .int v4), (5, .int v5), (6, .int v6), (7, .int v7), (8, .int out)] → W p l e rX6_grooms s m args below meth c H locs 0 0 Q (F0 m 150 ls [])) → W p l e rX6_grooms s m args below meth c H locs 0 0 Q (F0 m 96 ls []) := by
  have hx := S.1
  have hb := S.2.1
  intro n
  induction n with
  | zero => intro v8 v9 out hm; cases (show (none : Option Int32) = some out from hm)
  | succ n ih =>
    intro v8 v9 out hm  H locs ls hw hl K0
    rw [lp_X6_grooms_96] at hm
    refine lv_iload hx hb dX6_grooms_96 (lv_at hl 9 rfl) ?_
    refine lv_aload_n hx hb dX6_grooms_98 rfl (lv_at hl 0 rfl) ?_
    refine f_get S hK hw.1 in_X6_grooms_X6 0 rfl rfl 2 (by decide) (List.mem_of_getElem? (i := 2) rfl) rfl rfl dX6_grooms_99 ?_
    refine lv_iconst (v := 0) hx hb dX6_grooms_102 (by decide) ?_
    refine f_ialdK S hK hw.1 2 1 rfl rfl 0 (by decide) (by decide) (v := (md_told 0)) rfl dX6_grooms_103 ?_
    refine lv_icmp_ge (tgt := 150) hx hb dX6_grooms_104 (by decide) (fun c19 => ?_) (fun c19 => ?_)
    · replace hm := ipos hm c19
      obtain rfl := Option.some.inj hm
      exact K0  _ _ ls hw (lv_sub hl [0, 1, 2, 3, 4, 5, 6, 7, 8] rfl)
    · replace hm := ineg hm c19
      refine lv_iload hx hb dX6_grooms_107 (lv_at hl 8 rfl) ?_
      refine lv_iload_n hx hb dX6_grooms_109 rfl (lv_at hl 3 rfl) ?_
      refine lv_iload hx hb dX6_grooms_110 (lv_at hl 9 rfl) ?_
      refine lv_ishr hx hb dX6_grooms_112 ?_
      refine lv_iconst (v := 1) hx hb dX6_grooms_113 (by decide) ?_
      refine lv_iand hx hb dX6_grooms_114 ?_
      refine lv_if_ne (tgt := 122) hx hb dX6_grooms_115 (by decide) (fun c20 => ?_) (fun c20 => ?_)
      · replace hm := ineg hm c20
        refine lv_iload hx hb dX6_grooms_122 (lv_at hl 7 rfl) ?_
        refine lv_iload hx hb dX6_grooms_124 (lv_at hl 9 rfl) ?_
        refine lv_ishr hx hb dX6_grooms_126 ?_
        refine lv_iconst (v := 1) hx hb dX6_grooms_127 (by decide) ?_
        refine lv_iand hx hb dX6_grooms_128 ?_
        refine lv_iconst (v := 1) hx hb dX6_grooms_129 (by decide) ?_
        refine lv_icmp_ne (tgt := 137) hx hb dX6_grooms_130 (by decide) (fun c21 => ?_) (fun c21 => ?_)
        · replace hm := ineg hm c21
          refine lv_bipush (v := 10) hx hb dX6_grooms_137 (by decide) ?_
          refine lv_iload_n hx hb dX6_grooms_139 rfl (lv_at hl 1 rfl) ?_
          refine lv_isub hx hb dX6_grooms_140 ?_
          refine lv_imul hx hb dX6_grooms_141 ?_
          refine lv_istore (lv' := [(8, .int (v8 * ((10 : Int32) - v1))), (0, .ref a_md), (1, .int v1), (2, .int v2), (3, .int v3), (4, .int v4), (5, .int v5), (6, .int v6), (7, .int v7), (9, .int v9)]) hx hb dX6_grooms_142 hl (by decide) rfl (fun ls hl => ?_)
          refine lv_iinc (v := (v9 + 1)) (lv' := [(9, .int (v9 + 1)), (8, .int (v8 * ((10 : Int32) - v1))), (0, .ref a_md), (1, .int v1), (2, .int v2), (3, .int v3), (4, .int v4), (5, .int v5), (6, .int v6), (7, .int v7)]) hx hb dX6_grooms_144 hl (k := 9) rfl (by rw [ofi_1]) (by decide) rfl (fun ls hl => ?_)
          refine lv_goto (tgt := 96) hx hb dX6_grooms_147 (by decide) ?_
          exact ih (v8 * ((10 : Int32) - v1)) (v9 + 1) _ hm  _ _ ls hw (lv_sub hl [2, 3, 4, 5, 6, 7, 8, 9, 1, 0] rfl) K0
        · replace hm := ipos hm c21
          refine lv_iload_n hx hb dX6_grooms_133 rfl (lv_at hl 1 rfl) ?_
          refine lv_goto (tgt := 141) hx hb dX6_grooms_134 (by decide) ?_
          refine lv_imul hx hb dX6_grooms_141 ?_
          refine lv_istore (lv' := [(8, .int (v8 * v1)), (0, .ref a_md), (1, .int v1), (2, .int v2), (3, .int v3), (4, .int v4), (5, .int v5), (6, .int v6), (7, .int v7), (9, .int v9)]) hx hb dX6_grooms_142 hl (by decide) rfl (fun ls hl => ?_)
          refine lv_iinc (v := (v9 + 1)) (lv' := [(9, .int (v9 + 1)), (8, .int (v8 * v1)), (0, .ref a_md), (1, .int v1), (2, .int v2), (3, .int v3), (4, .int v4), (5, .int v5), (6, .int v6), (7, .int v7)]) hx hb dX6_grooms_144 hl (k := 9) rfl (by rw [ofi_1]) (by decide) rfl (fun ls hl => ?_)
          refine lv_goto (tgt := 96) hx hb dX6_grooms_147 (by decide) ?_
          exact ih (v8 * v1) (v9 + 1) _ hm  _ _ ls hw (lv_sub hl [2, 3, 4, 5, 6, 7, 8, 9, 1, 0] rfl) K0
      · replace hm := ipos hm c20
        refine lv_iconst (v := 1) hx hb dX6_grooms_118 (by decide) ?_
        refine lv_goto (tgt := 141) hx hb dX6_grooms_119 (by decide) ?_
        refine lv_imul hx hb dX6_grooms_141 ?_
        refine lv_istore (lv' := [(8, .int (v8 * (1 : Int32))), (0, .ref a_md), (1, .int v1), (2, .int v2), (3, .int v3), (4, .int v4), (5, .int v5), (6, .int v6), (7, .int v7), (9, .int v9)]) hx hb dX6_grooms_142 hl (by decide) rfl (fun ls hl => ?_)
        refine lv_iinc (v := (v9 + 1)) (lv' := [(9, .int (v9 + 1)), (8, .int (v8 * (1 : Int32))), (0, .ref a_md), (1, .int v1), (2, .int v2), (3, .int v3), (4, .int v4), (5, .int v5), (6, .int v6), (7, .int v7)]) hx hb dX6_grooms_144 hl (k := 9) rfl (by rw [ofi_1]) (by decide) rfl (fun ls hl => ?_)
        refine lv_goto (tgt := 96) hx hb dX6_grooms_147 (by decide) ?_
        exact ih (v8 * (1 : Int32)) (v9 + 1) _ hm  _ _ ls hw (lv_sub hl [2, 3, 4, 5, 6, 7, 8, 9, 1, 0] rfl) K0
set_option maxHeartbeats 4000000 in
set_option maxRecDepth 100000 in
theorem t_X6_grooms_68 {p : Program} {e : Env} {s : State} {m : MethodId} {args : Array Value} {below : List Frame} {meth : Method} {c : Code} {Q : State → Prop} (l : Launch) {D : va_G} {cC cI cJ : ClassId} {A : Nat → Prop} {H0 : Heap} (S : CallFix p m c cX6_grooms 10 s args wsX6_grooms RX6) (hK : KK D (tyK cC cI cJ) s) (a_md : Nat) (a_md_text : Nat) (a_md_told : Nat) (a_md_draft : Nat) (a_md_s : Nat) (a_md_past : Nat) (a_md_images : Nat) (a_md_seen : Nat) (a_md_asks : Nat) (a_md_brings : Nat) (a_md_uses : Nat) (a_md_days : Nat) (a_md_tries : Nat) (a_md_row : Nat) (a_md_first : Nat) (a_md_held : Nat) (N : Nat) (v1 : Int32) (v2 : Int32) (v3 : Int32) (v4 : Int32) (v6 : Int32) (md_typed : Int32) (md_known : Int32) (md_kept : Int32) (md_sights : Int32) (md_at : Int32) (md_set : Int32) (md_text : (Nat → Int32)) (md_told : (Nat → Int32)) (md_draft : (Nat → Int32)) (md_past : (Nat → Int32)) (md_images : (Nat → Int32)) (md_seen : (Nat → Int32)) (md_held : (Nat → Int32)) : ∀ (n : Nat) (v5 : Int32) (v7 : Int32) (md_many : Int32) (md_length : Int32) (md_s : (Nat → Int32)) (md_asks : (Nat → Int32)) (md_brings : (Nat → Int32)) (md_uses : (Nat → Int32)) (md_days : (Nat → Int32)) (md_tries : (Nat → Int32)) (md_row : (Nat → Int32)) (md_first : (Nat → Int32)) (out : (Int32 × Int32 × Int32 × (Nat → Int32) × (Nat → Int32) × (Nat → Int32) × (Nat → Int32) × (Nat → Int32) × (Nat → Int32) × (Nat → Int32) × (Nat → Int32))), lp_X6_grooms_68 N v1 v3 v4 md_sights md_told md_seen n v5 v7 md_many md_length md_s md_asks md_brings md_uses md_days md_tries md_row md_first = some out → ∀ (H : Heap) (locs : List Loc) (ls : Array Slot), Wd D A H0 (wd_28 cC cI cJ a_md a_md_text md_typed a_md_told a_md_draft a_md_s a_md_past md_known a_md_images md_kept a_md_seen md_sights md_at a_md_asks a_md_brings a_md_uses a_md_days a_md_tries a_md_row md_many a_md_first md_length md_set a_md_held a_md_text md_text a_md_told md_told a_md_draft md_draft a_md_s md_s a_md_past md_past a_md_images md_images a_md_seen md_seen a_md_asks md_asks a_md_brings md_brings a_md_uses md_uses a_md_days md_days a_md_tries md_tries a_md_row md_row a_md_first md_first a_md_held md_held) H locs → lv_has ls 10 [(0, .ref a_md), (1, .int v1), (2, .int v2), (3, .int v3), (4, .int v4), (5, .int v5), (6, .int v6), (7, .int v7)] → (∀ (H : Heap) (locs : List Loc) (ls : Array Slot), Wd D A H0 (wd_28 cC cI cJ a_md a_md_text md_typed a_md_told a_md_draft a_md_s a_md_past md_known a_md_images md_kept a_md_seen md_sights md_at a_md_asks a_md_brings a_md_uses a_md_days a_md_tries a_md_row out.2.1 a_md_first out.2.2.1 md_set a_md_held a_md_text md_text a_md_told md_told a_md_draft md_draft a_md_s out.2.2.2.1 a_md_past md_past a_md_images md_images a_md_seen md_seen a_md_asks out.2.2.2.2.1 a_md_brings out.2.2.2.2.2.1 a_md_uses out.2.2.2.2.2.2.1 a_md_days out.2.2.2.2.2.2.2.1 a_md_tries out.2.2.2.2.2.2.2.2.1 a_md_row out.2.2.2.2.2.2.2.2.2.1 a_md_first out.2.2.2.2.2.2.2.2.2.2 a_md_held md_held) H locs → lv_has ls 10 [(0, .ref a_md), (2, .int v2), (4, .int v4), (5, .int out.1), (6, .int v6)] → W p l e rX6_grooms s m args below meth c H locs 0 0 Q (F0 m 191 ls [])) → W p l e rX6_grooms s m args below meth c H locs 0 0 Q (F0 m 68 ls []) := by
  have hx := S.1
  have hb := S.2.1
  intro n
  induction n with
  | zero => intro v5 v7 md_many md_length md_s md_asks md_brings md_uses md_days md_tries md_row md_first out hm; cases (show (none : Option (Int32 × Int32 × Int32 × (Nat → Int32) × (Nat → Int32) × (Nat → Int32) × (Nat → Int32) × (Nat → Int32) × (Nat → Int32) × (Nat → Int32) × (Nat → Int32))) = some out from hm)
  | succ n ih =>
    intro v5 v7 md_many md_length md_s md_asks md_brings md_uses md_days md_tries md_row md_first out hm  H locs ls hw hl K0
    rw [lp_X6_grooms_68] at hm
    refine lv_iload hx hb dX6_grooms_68 (lv_at hl 7 rfl) ?_
    refine lv_iconst (v := 1) hx hb dX6_grooms_70 (by decide) ?_
    refine lv_aload_n hx hb dX6_grooms_71 rfl (lv_at hl 0 rfl) ?_
    refine f_get S hK hw.1 in_X6_grooms_X6 0 rfl rfl 2 (by decide) (List.mem_of_getElem? (i := 2) rfl) rfl rfl dX6_grooms_72 ?_
    refine lv_iconst (v := 0) hx hb dX6_grooms_75 (by decide) ?_
    refine f_ialdK S hK hw.1 2 1 rfl rfl 0 (by decide) (by decide) (v := (md_told 0)) rfl dX6_grooms_76 ?_
    refine lv_ishl hx hb dX6_grooms_77 ?_
    refine lv_icmp_ge (tgt := 191) hx hb dX6_grooms_78 (by decide) (fun c16 => ?_) (fun c16 => ?_)
    · replace hm := ipos hm c16
      obtain rfl := Option.some.inj hm
      exact K0  _ _ ls hw (lv_sub hl [0, 2, 4, 5, 6] rfl)
    · replace hm := ineg hm c16
      refine lv_iload hx hb dX6_grooms_81 (lv_at hl 7 rfl) ?_
      refine lv_iload_n hx hb dX6_grooms_83 rfl (lv_at hl 3 rfl) ?_
      refine lv_iconst (v := (-1)) hx hb dX6_grooms_84 (by decide) ?_
      refine lv_ixor hx hb dX6_grooms_85 ?_
      refine lv_iand hx hb dX6_grooms_86 ?_
      refine lv_if_ne (tgt := 185) hx hb dX6_grooms_87 (by decide) (fun c17 => ?_) (fun c17 => ?_)
      · replace hm := ineg hm c17
        refine lv_iinc (v := (v7 + 1)) (lv' := [(7, .int (v7 + 1)), (0, .ref a_md), (1, .int v1), (2, .int v2), (3, .int v3), (4, .int v4), (5, .int v5), (6, .int v6)]) hx hb dX6_grooms_185 hl (k := 7) rfl (by rw [ofi_1]) (by decide) rfl (fun ls hl => ?_)
        refine lv_goto (tgt := 68) hx hb dX6_grooms_188 (by decide) ?_
        exact ih v5 (v7 + 1) md_many md_length md_s md_asks md_brings md_uses md_days md_tries md_row md_first _ hm  _ _ ls hw (lv_sub hl [1, 2, 3, 4, 5, 6, 7, 0] rfl) K0
      · replace hm := ipos hm c17
        refine lv_iconst (v := 1) hx hb dX6_grooms_90 (by decide) ?_
        refine lv_istore (lv' := [(8, .int (1 : Int32)), (0, .ref a_md), (1, .int v1), (2, .int v2), (3, .int v3), (4, .int v4), (5, .int v5), (6, .int v6), (7, .int v7)]) hx hb dX6_grooms_91 hl (by decide) rfl (fun ls hl => ?_)
        refine lv_iconst (v := 0) hx hb dX6_grooms_93 (by decide) ?_
        refine lv_istore (lv' := [(9, .int (0 : Int32)), (8, .int (1 : Int32)), (0, .ref a_md), (1, .int v1), (2, .int v2), (3, .int v3), (4, .int v4), (5, .int v5), (6, .int v6), (7, .int v7)]) hx hb dX6_grooms_94 hl (by decide) rfl (fun ls hl => ?_)
        obtain ⟨r22, h23, hm⟩ := ob hm
        refine t_X6_grooms_96 l S hK a_md a_md_text a_md_told a_md_draft a_md_s a_md_past a_md_images a_md_seen a_md_asks a_md_brings a_md_uses a_md_days a_md_tries a_md_row a_md_first a_md_held v1 v2 v3 v4 v5 v6 v7 md_typed md_known md_kept md_sights md_at md_many md_length md_set md_text md_told md_draft md_s md_past md_images md_seen md_asks md_brings md_uses md_days md_tries md_row md_first md_held N (1 : Int32) (0 : Int32) r22 h23  _ _ ls hw (lv_sub hl [2, 3, 4, 5, 6, 7, 8, 9, 1, 0] rfl) (fun H locs ls hw hl => ?_)
        refine lv_aload_n hx hb dX6_grooms_150 rfl (lv_at hl 0 rfl) ?_
        refine f_get S hK hw.1 in_X6_grooms_X6 0 rfl rfl 4 (by decide) (List.mem_of_getElem? (i := 1) rfl) rfl rfl dX6_grooms_151 ?_
        refine lv_iconst (v := 0) hx hb dX6_grooms_154 (by decide) ?_
        refine lv_iload hx hb dX6_grooms_155 (lv_at hl 4 rfl) ?_
        refine lv_iload hx hb dX6_grooms_157 (lv_at hl 7 rfl) ?_
        refine lv_ior hx hb dX6_grooms_159 ?_
        refine f_iastK S hK hw 4 1 rfl rfl 0 (by decide) (by decide) (ws1 := (wd_28 cC cI cJ a_md a_md_text md_typed a_md_told a_md_draft a_md_s a_md_past md_known a_md_images md_kept a_md_seen md_sights md_at a_md_asks a_md_brings a_md_uses a_md_days a_md_tries a_md_row md_many a_md_first md_length md_set a_md_held a_md_text md_text a_md_told md_told a_md_draft md_draft a_md_s (upd md_s 0 (v4 ||| v7)) a_md_past md_past a_md_images md_images a_md_seen md_seen a_md_asks md_asks a_md_brings md_brings a_md_uses md_uses a_md_days md_days a_md_tries md_tries a_md_row md_row a_md_first md_first a_md_held md_held)) rfl dX6_grooms_160 (fun H locs hw => ?_)
        refine lv_aload_n hx hb dX6_grooms_161 rfl (lv_at hl 0 rfl) ?_
        refine lv_iconst (v := 0) hx hb dX6_grooms_162 (by decide) ?_
        refine lv_iconst (v := 1) hx hb dX6_grooms_163 (by decide) ?_
        obtain ⟨r25, h26, hm⟩ := ob hm
        refine k_wVv S hK hw cal_X6_walks gX6_grooms_X6_walks (c_X6_walks l D cC cI cJ a_md a_md_text a_md_told a_md_draft a_md_s a_md_past a_md_images a_md_seen a_md_asks a_md_brings a_md_uses a_md_days a_md_tries a_md_row a_md_first a_md_held md_typed md_known md_kept md_sights md_at md_many md_length md_set md_text md_told md_draft (upd md_s 0 (v4 ||| v7)) md_past md_images md_seen md_asks md_brings md_uses md_days md_tries md_row md_first md_held (0 : Int32) (1 : Int32) N (aw _) (hw.own [0, 1, 2, 3, 4, 5, 6, 7, 8, 9, 10, 11, 12, 13, 14, 15] (by decide) rfl) r25 h26) ⟨⟨rfl, rfl⟩, Nat.le_of_ble_eq_true rfl, Nat.le_of_ble_eq_true rfl⟩ [0, 1, 2, 3, 4, 5, 6, 7, 8, 9, 10, 11, 12, 13, 14, 15] rfl 0 rfl rfl rfl hl.1 rfl (Nat.le_of_ble_eq_true rfl) dX6_grooms_164 ⟨Nat.zero_le _, Nat.zero_le _⟩ (fun H locs hJ hB => ?_)
        have hw := hJ _ hB rfl
        replace hw : Wd D A _ (wd_28 cC cI cJ a_md a_md_text md_typed a_md_told a_md_draft a_md_s a_md_past md_known a_md_images md_kept a_md_seen md_sights md_at a_md_asks a_md_brings a_md_uses a_md_days a_md_tries a_md_row r25.1 a_md_first r25.2.1 md_set a_md_held a_md_text md_text a_md_told md_told a_md_draft md_draft a_md_s (upd md_s 0 (v4 ||| v7)) a_md_past md_past a_md_images md_images a_md_seen md_seen a_md_asks r25.2.2.1 a_md_brings r25.2.2.2.1 a_md_uses r25.2.2.2.2.1 a_md_days r25.2.2.2.2.2.1 a_md_tries r25.2.2.2.2.2.2.1 a_md_row r25.2.2.2.2.2.2.2.1 a_md_first r25.2.2.2.2.2.2.2.2 a_md_held md_held) H locs := hw
        refine lv_iload hx hb dX6_grooms_167 (lv_at hl 5 rfl) ?_
        refine lv_aload_n hx hb dX6_grooms_169 rfl (lv_at hl 0 rfl) ?_
        refine f_get S hK hw.1 in_X6_grooms_X6 0 rfl rfl 18 (by decide) (List.mem_of_getElem? (i := 3) rfl) rfl rfl dX6_grooms_170 ?_
        refine lv_if_le (tgt := 181) hx hb dX6_grooms_173 (by decide) (fun c27 => ?_) (fun c27 => ?_)
        · replace hm := ipos hm c27
          refine lv_iconst (v := 0) hx hb dX6_grooms_181 (by decide) ?_
          refine lv_iadd hx hb dX6_grooms_182 ?_
          refine lv_istore (lv' := [(5, .int (v5 + (0 : Int32))), (0, .ref a_md), (1, .int v1), (2, .int v2), (3, .int v3), (4, .int v4), (6, .int v6), (7, .int v7), (8, .int r22)]) hx hb dX6_grooms_183 hl (by decide) rfl (fun ls hl => ?_)
          refine lv_iinc (v := (v7 + 1)) (lv' := [(7, .int (v7 + 1)), (5, .int (v5 + (0 : Int32))), (0, .ref a_md), (1, .int v1), (2, .int v2), (3, .int v3), (4, .int v4), (6, .int v6), (8, .int r22)]) hx hb dX6_grooms_185 hl (k := 7) rfl (by rw [ofi_1]) (by decide) rfl (fun ls hl => ?_)
          refine lv_goto (tgt := 68) hx hb dX6_grooms_188 (by decide) ?_
          exact ih (v5 + (0 : Int32)) (v7 + 1) r25.1 r25.2.1 (upd md_s 0 (v4 ||| v7)) r25.2.2.1 r25.2.2.2.1 r25.2.2.2.2.1 r25.2.2.2.2.2.1 r25.2.2.2.2.2.2.1 r25.2.2.2.2.2.2.2.1 r25.2.2.2.2.2.2.2.2 _ hm  _ _ ls hw (lv_sub hl [2, 3, 4, 5, 6, 1, 7, 0] rfl) K0
        · replace hm := ineg hm c27
          refine lv_iload hx hb dX6_grooms_176 (lv_at hl 8 rfl) ?_
          refine lv_goto (tgt := 182) hx hb dX6_grooms_178 (by decide) ?_
          refine lv_iadd hx hb dX6_grooms_182 ?_
          refine lv_istore (lv' := [(5, .int (v5 + r22)), (0, .ref a_md), (1, .int v1), (2, .int v2), (3, .int v3), (4, .int v4), (6, .int v6), (7, .int v7), (8, .int r22)]) hx hb dX6_grooms_183 hl (by decide) rfl (fun ls hl => ?_)
          refine lv_iinc (v := (v7 + 1)) (lv' := [(7, .int (v7 + 1)), (5, .int (v5 + r22)), (0, .ref a_md), (1, .int v1), (2, .int v2), (3, .int v3), (4, .int v4), (6, .int v6), (8, .int r22)]) hx hb dX6_grooms_185 hl (k := 7) rfl (by rw [ofi_1]) (by decide) rfl (fun ls hl => ?_)
          refine lv_goto (tgt := 68) hx hb dX6_grooms_188 (by decide) ?_
          exact ih (v5 + r22) (v7 + 1) r25.1 r25.2.1 (upd md_s 0 (v4 ||| v7)) r25.2.2.1 r25.2.2.2.1 r25.2.2.2.2.1 r25.2.2.2.2.2.1 r25.2.2.2.2.2.2.1 r25.2.2.2.2.2.2.2.1 r25.2.2.2.2.2.2.2.2 _ hm  _ _ ls hw (lv_sub hl [2, 3, 4, 5, 6, 1, 7, 0] rfl) K0
set_option maxHeartbeats 4000000 in
set_option maxRecDepth 100000 in
theorem t_X6_grooms_207 {p : Program} {e : Env} {s : State} {m : MethodId} {args : Array Value} {below : List Frame} {meth : Method} {c : Code} {Q : State → Prop} (l : Launch) {D : va_G} {cC cI cJ : ClassId} {A : Nat → Prop} {H0 : Heap} (S : CallFix p m c cX6_grooms 10 s args wsX6_grooms RX6) (hK : KK D (tyK cC cI cJ) s) (a_md : Nat) (a_md_text : Nat) (a_md_told : Nat) (a_md_draft : Nat) (a_md_s : Nat) (a_md_past : Nat) (a_md_images : Nat) (a_md_seen : Nat) (a_md_asks : Nat) (a_md_brings : Nat) (a_md_uses : Nat) (a_md_days : Nat) (a_md_tries : Nat) (a_md_row : Nat) (a_md_first : Nat) (a_md_held : Nat) (v2 : Int32) (v5 : Int32) (v6 : Int32) (md_typed : Int32) (md_known : Int32) (md_kept : Int32) (md_sights : Int32) (md_at : Int32) (md_many : Int32) (md_length : Int32) (md_set : Int32) (md_text : (Nat → Int32)) (md_told : (Nat → Int32)) (md_draft : (Nat → Int32)) (md_s : (Nat → Int32)) (md_past : (Nat → Int32)) (md_images : (Nat → Int32)) (md_seen : (Nat → Int32)) (md_asks : (Nat → Int32)) (md_brings : (Nat → Int32)) (md_uses : (Nat → Int32)) (md_days : (Nat → Int32)) (md_tries : (Nat → Int32)) (md_row : (Nat → Int32)) (md_first : (Nat → Int32)) (md_held : (Nat → Int32)) : ∀ (n : Nat) (v7 : Int32) (v8 : Int32) (out : Int32), lp_X6_grooms_207  n v7 v8 = some out → ∀ (H : Heap) (locs : List Loc) (ls : Array Slot), Wd D A H0 (wd_28 cC cI cJ a_md a_md_text md_typed a_md_told a_md_draft a_md_s a_md_past md_known a_md_images md_kept a_md_seen md_sights md_at a_md_asks a_md_brings a_md_uses a_md_days a_md_tries a_md_row md_many a_md_first md_length md_set a_md_held a_md_text md_text a_md_told md_told a_md_draft md_draft a_md_s md_s a_md_past md_past a_md_images md_images a_md_seen md_seen a_md_asks md_asks a_md_brings md_brings a_md_uses md_uses a_md_days md_days a_md_tries md_tries a_md_row md_row a_md_first md_first a_md_held md_held) H locs → lv_has ls 10 [(2, .int v2), (5, .int v5), (6, .int v6), (7, .int v7), (8, .int v8)] → (∀ (H : Heap) (locs : List Loc) (ls : Array Slot), Wd D A H0 (wd_28 cC cI cJ a_md a_md_text md_typed a_md_told a_md_draft a_md_s a_md_past md_known a_md_images md_kept a_md_seen md_sights md_at a_md_asks a_md_brings a_md_uses a_md_days a_md_tries a_md_row md_many a_md_first md_length md_set a_md_held a_md_text md_text a_md_told md_told a_md_draft md_draft a_md_s md_s a_md_past md_past a_md_images md_images a_md_seen md_seen a_md_asks md_asks a_md_brings md_brings a_md_uses md_uses a_md_days md_days a_md_tries md_tries a_md_row md_row a_md_first md_first a_md_held md_held) H locs → lv_has ls 10 [(2, .int v2), (5, .int v5), (6, .int v6), (7, .int out)] → W p l e rX6_grooms s m args below meth c H locs 0 0 Q (F0 m 230 ls [])) → W p l e rX6_grooms s m args below meth c H locs 0 0 Q (F0 m 207 ls []) := by
  have hx := S.1
  have hb := S.2.1
  intro n
  induction n with
  | zero => intro v7 v8 out hm; cases (show (none : Option Int32) = some out from hm)
  | succ n ih =>
    intro v7 v8 out hm  H locs ls hw hl K0
    rw [lp_X6_grooms_207] at hm
    refine lv_iload hx hb dX6_grooms_207 (lv_at hl 4 rfl) ?_
    refine lv_if_le (tgt := 230) hx hb dX6_grooms_209 (by decide) (fun c31 => ?_) (fun c31 => ?_)
    · replace hm := ipos hm c31
      obtain rfl := Option.some.inj hm
      exact K0  _ _ ls hw (lv_sub hl [0, 1, 2, 3] rfl)
    · replace hm := ineg hm c31
      refine lv_iload hx hb dX6_grooms_212 (lv_at hl 3 rfl) ?_
      refine lv_iload hx hb dX6_grooms_214 (lv_at hl 4 rfl) ?_
      obtain ⟨g32, hm⟩ := gdo hm
      refine lv_irem hx hb dX6_grooms_216 g32 ?_
      refine lv_istore (lv' := [(9, .int (v7 - v7 / v8 * v8)), (2, .int v2), (5, .int v5), (6, .int v6), (7, .int v7), (8, .int v8)]) hx hb dX6_grooms_217 hl (by decide) rfl (fun ls hl => ?_)
      refine lv_iload hx hb dX6_grooms_219 (lv_at hl 5 rfl) ?_
      refine lv_istore (lv' := [(7, .int v8), (9, .int (v7 - v7 / v8 * v8)), (2, .int v2), (5, .int v5), (6, .int v6), (8, .int v8)]) hx hb dX6_grooms_221 hl (by decide) rfl (fun ls hl => ?_)
      refine lv_iload hx hb dX6_grooms_223 (lv_at hl 1 rfl) ?_
      refine lv_istore (lv' := [(8, .int (v7 - v7 / v8 * v8)), (7, .int v8), (9, .int (v7 - v7 / v8 * v8)), (2, .int v2), (5, .int v5), (6, .int v6)]) hx hb dX6_grooms_225 hl (by decide) rfl (fun ls hl => ?_)
      refine lv_goto (tgt := 207) hx hb dX6_grooms_227 (by decide) ?_
      exact ih v8 (v7 - v7 / v8 * v8) _ hm  _ _ ls hw (lv_sub hl [3, 4, 5, 1, 0] rfl) K0
set_option maxHeartbeats 4000000 in
set_option maxRecDepth 100000 in
theorem c_X6_grooms (l : Launch) (D : va_G) (cC cI cJ : ClassId) (a_md : Nat) (a_md_text : Nat) (a_md_told : Nat) (a_md_draft : Nat) (a_md_s : Nat) (a_md_past : Nat) (a_md_images : Nat) (a_md_seen : Nat) (a_md_asks : Nat) (a_md_brings : Nat) (a_md_uses : Nat) (a_md_days : Nat) (a_md_tries : Nat) (a_md_row : Nat) (a_md_first : Nat) (a_md_held : Nat) (md_typed : Int32) (md_known : Int32) (md_kept : Int32) (md_sights : Int32) (md_at : Int32) (md_many : Int32) (md_length : Int32) (md_set : Int32) (md_text : (Nat → Int32)) (md_told : (Nat → Int32)) (md_draft : (Nat → Int32)) (md_s : (Nat → Int32)) (md_past : (Nat → Int32)) (md_images : (Nat → Int32)) (md_seen : (Nat → Int32)) (md_asks : (Nat → Int32)) (md_brings : (Nat → Int32)) (md_uses : (Nat → Int32)) (md_days : (Nat → Int32)) (md_tries : (Nat → Int32)) (md_row : (Nat → Int32)) (md_first : (Nat → Int32)) (md_held : (Nat → Int32)) (p0 : Int32) (p1 : Int32) (N : Nat) (A : Nat → Prop) (hD : va_D A (wd_28 cC cI cJ a_md a_md_text md_typed a_md_told a_md_draft a_md_s a_md_past md_known a_md_images md_kept a_md_seen md_sights md_at a_md_asks a_md_brings a_md_uses a_md_days a_md_tries a_md_row md_many a_md_first md_length md_set a_md_held a_md_text md_text a_md_told md_told a_md_draft md_draft a_md_s md_s a_md_past md_past a_md_images md_images a_md_seen md_seen a_md_asks md_asks a_md_brings md_brings a_md_uses md_uses a_md_days md_days a_md_tries md_tries a_md_row md_row a_md_first md_first a_md_held md_held)) (out : (Int32 × Int32 × Int32 × (Nat → Int32) × (Nat → Int32) × (Nat → Int32) × (Nat → Int32) × (Nat → Int32) × (Nat → Int32) × (Nat → Int32) × (Nat → Int32))) (hm : m_X6_grooms N md_sights md_many md_length md_told md_s md_seen md_asks md_brings md_uses md_days md_tries md_row md_first p0 p1 = some out) : WrI l yX6_grooms wsX6_grooms rX6_grooms D (tyK cC cI cJ) [.ref a_md, .int p0, .int p1] A (wd_28 cC cI cJ a_md a_md_text md_typed a_md_told a_md_draft a_md_s a_md_past md_known a_md_images md_kept a_md_seen md_sights md_at a_md_asks a_md_brings a_md_uses a_md_days a_md_tries a_md_row md_many a_md_first md_length md_set a_md_held a_md_text md_text a_md_told md_told a_md_draft md_draft a_md_s md_s a_md_past md_past a_md_images md_images a_md_seen md_seen a_md_asks md_asks a_md_brings md_brings a_md_uses md_uses a_md_days md_days a_md_tries md_tries a_md_row md_row a_md_first md_first a_md_held md_held) (Bw0 D (wd_28 cC cI cJ a_md a_md_text md_typed a_md_told a_md_draft a_md_s a_md_past md_known a_md_images md_kept a_md_seen md_sights md_at a_md_asks a_md_brings a_md_uses a_md_days a_md_tries a_md_row out.2.1 a_md_first out.2.2.1 md_set a_md_held a_md_text md_text a_md_told md_told a_md_draft md_draft a_md_s out.2.2.2.1 a_md_past md_past a_md_images md_images a_md_seen md_seen a_md_asks out.2.2.2.2.1 a_md_brings out.2.2.2.2.2.1 a_md_uses out.2.2.2.2.2.2.1 a_md_days out.2.2.2.2.2.2.2.1 a_md_tries out.2.2.2.2.2.2.2.2.1 a_md_row out.2.2.2.2.2.2.2.2.2.1 a_md_first out.2.2.2.2.2.2.2.2.2.2 a_md_held md_held)) out.1 := by
  unfold m_X6_grooms at hm
  refine enter (cc := cX6_grooms) (maxL := 10) (ret := (some .int)) (lv := [(0, .ref a_md), (1, .int p0), (2, .int p1)]) (by decide) rfl (Nat.le_of_ble_eq_true rfl) rfl ?_
  intro p e s m args below meth c S hr hlk hK hP ls hl
  replace S : CallFix p m c cX6_grooms 10 s args wsX6_grooms RX6 := S
  have hx := S.1
  have hb := S.2.1
  have hw : Wd D A s.heap (wd_28 cC cI cJ a_md a_md_text md_typed a_md_told a_md_draft a_md_s a_md_past md_known a_md_images md_kept a_md_seen md_sights md_at a_md_asks a_md_brings a_md_uses a_md_days a_md_tries a_md_row md_many a_md_first md_length md_set a_md_held a_md_text md_text a_md_told md_told a_md_draft md_draft a_md_s md_s a_md_past md_past a_md_images md_images a_md_seen md_seen a_md_asks md_asks a_md_brings md_brings a_md_uses md_uses a_md_days md_days a_md_tries md_tries a_md_row md_row a_md_first md_first a_md_held md_held) s.heap [] := ⟨hP, hD, va_S.rf⟩
  have hw0 := hw
  refine lv_iload_n hx hb dX6_grooms_0 rfl (lv_at hl 1 rfl) ?_
  refine lv_iconst (v := 0) hx hb dX6_grooms_1 (by decide) ?_
  refine lv_bipush (v := 10) hx hb dX6_grooms_2 (by decide) ?_
  obtain ⟨r1, h2, hm⟩ := ob hm
  refine k_rSi S hK hw.1 cal_X6_in gX6_grooms_X6_in (c_X6_in l D cC cI cJ p0 (0 : Int32) (10 : Int32) r1 h2) ⟨⟨rfl, rfl⟩, Nat.le_of_ble_eq_true rfl, Nat.le_of_ble_eq_true rfl⟩ [] rfl rfl hl.1 rfl (Nat.le_of_ble_eq_true rfl) dX6_grooms_4 ⟨Nat.zero_le _, Nat.zero_le _⟩ ?_
  refine lv_if_eq (tgt := 19) hx hb dX6_grooms_7 (by decide) (fun c3 => ?_) (fun c3 => ?_)
  · replace hm := ipos hm c3
    refine lv_iconst (v := (-1)) hx hb dX6_grooms_19 (by decide) ?_
    obtain rfl := Option.some.inj hm
    exact e_WI S hr hlk hw rfl hw.1 dX6_grooms_20
  · replace hm := ineg hm c3
    refine lv_iload_n hx hb dX6_grooms_10 rfl (lv_at hl 2 rfl) ?_
    refine lv_iconst (v := 0) hx hb dX6_grooms_11 (by decide) ?_
    refine lv_iconst (v := 1) hx hb dX6_grooms_12 (by decide) ?_
    obtain ⟨r4, h5, hm⟩ := ob hm
    refine k_rSi S hK hw.1 cal_X6_in gX6_grooms_X6_in (c_X6_in l D cC cI cJ p1 (0 : Int32) (1 : Int32) r4 h5) ⟨⟨rfl, rfl⟩, Nat.le_of_ble_eq_true rfl, Nat.le_of_ble_eq_true rfl⟩ [] rfl rfl hl.1 rfl (Nat.le_of_ble_eq_true rfl) dX6_grooms_13 ⟨Nat.zero_le _, Nat.zero_le _⟩ ?_
    refine lv_if_ne (tgt := 21) hx hb dX6_grooms_16 (by decide) (fun c6 => ?_) (fun c6 => ?_)
    · replace hm := ineg hm c6
      refine lv_aload_n hx hb dX6_grooms_21 rfl (lv_at hl 0 rfl) ?_
      obtain ⟨r7, h8, hm⟩ := ob hm
      refine k_rVi S hK hw.1 cal_X6_silent gX6_grooms_X6_silent (c_X6_silent l D cC cI cJ a_md a_md_text a_md_told a_md_draft a_md_s a_md_past a_md_images a_md_seen a_md_asks a_md_brings a_md_uses a_md_days a_md_tries a_md_row a_md_first a_md_held md_typed md_known md_kept md_sights md_at md_many md_length md_set md_text md_told md_draft md_s md_past md_images md_seen md_asks md_brings md_uses md_days md_tries md_row md_first md_held r7 h8) ⟨⟨rfl, rfl⟩, Nat.le_of_ble_eq_true rfl, Nat.le_of_ble_eq_true rfl⟩ [0, 1, 2, 3, 4, 5, 6, 7, 8, 9, 10, 11, 12, 13, 14, 15] rfl 0 rfl rfl rfl hl.1 rfl (Nat.le_of_ble_eq_true rfl) dX6_grooms_22 ⟨Nat.zero_le _, Nat.zero_le _⟩ ?_
      refine lv_istore_n (lv' := [(3, .int r7), (0, .ref a_md), (1, .int p0), (2, .int p1)]) hx hb dX6_grooms_25 rfl hl (by decide) rfl (fun ls hl => ?_)
      refine lv_aload_n hx hb dX6_grooms_26 rfl (lv_at hl 1 rfl) ?_
      refine f_get S hK hw.1 in_X6_grooms_X6 0 rfl rfl 4 (by decide) (List.mem_of_getElem? (i := 1) rfl) rfl rfl dX6_grooms_27 ?_
      refine lv_iconst (v := 0) hx hb dX6_grooms_30 (by decide) ?_
      refine f_ialdK S hK hw.1 4 1 rfl rfl 0 (by decide) (by decide) (v := (md_s 0)) rfl dX6_grooms_31 ?_
      refine lv_istore (lv' := [(4, .int (md_s 0)), (3, .int r7), (0, .ref a_md), (1, .int p0), (2, .int p1)]) hx hb dX6_grooms_32 hl (by decide) rfl (fun ls hl => ?_)
      refine lv_iconst (v := 0) hx hb dX6_grooms_34 (by decide) ?_
      refine lv_istore (lv' := [(5, .int (0 : Int32)), (4, .int (md_s 0)), (3, .int r7), (0, .ref a_md), (1, .int p0), (2, .int p1)]) hx hb dX6_grooms_35 hl (by decide) rfl (fun ls hl => ?_)
      refine lv_iconst (v := 1) hx hb dX6_grooms_37 (by decide) ?_
      refine lv_istore (lv' := [(6, .int (1 : Int32)), (5, .int (0 : Int32)), (4, .int (md_s 0)), (3, .int r7), (0, .ref a_md), (1, .int p0), (2, .int p1)]) hx hb dX6_grooms_38 hl (by decide) rfl (fun ls hl => ?_)
      refine lv_iconst (v := 0) hx hb dX6_grooms_40 (by decide) ?_
      refine lv_istore (lv' := [(7, .int (0 : Int32)), (6, .int (1 : Int32)), (5, .int (0 : Int32)), (4, .int (md_s 0)), (3, .int r7), (0, .ref a_md), (1, .int p0), (2, .int p1)]) hx hb dX6_grooms_41 hl (by decide) rfl (fun ls hl => ?_)
      obtain ⟨r13, h14, hm⟩ := ob hm
      refine t_X6_grooms_43 l S hK a_md a_md_text a_md_told a_md_draft a_md_s a_md_past a_md_images a_md_seen a_md_asks a_md_brings a_md_uses a_md_days a_md_tries a_md_row a_md_first a_md_held N p0 p1 r7 (md_s 0) (0 : Int32) md_typed md_known md_kept md_sights md_at md_many md_length md_set md_text md_told md_draft md_s md_past md_images md_seen md_asks md_brings md_uses md_days md_tries md_row md_first md_held N (1 : Int32) (0 : Int32) r13 h14  _ _ ls hw (lv_sub hl [5, 6, 7, 4, 3, 2, 1, 0] rfl) (fun H locs ls hw hl => ?_)
      refine lv_iconst (v := 0) hx hb dX6_grooms_65 (by decide) ?_
      refine lv_istore (lv' := [(7, .int (0 : Int32)), (0, .ref a_md), (1, .int p0), (2, .int p1), (3, .int r7), (4, .int (md_s 0)), (5, .int (0 : Int32)), (6, .int r13)]) hx hb dX6_grooms_66 hl (by decide) rfl (fun ls hl => ?_)
      obtain ⟨r28, h29, hm⟩ := ob hm
      refine t_X6_grooms_68 l S hK a_md a_md_text a_md_told a_md_draft a_md_s a_md_past a_md_images a_md_seen a_md_asks a_md_brings a_md_uses a_md_days a_md_tries a_md_row a_md_first a_md_held N p0 p1 r7 (md_s 0) r13 md_typed md_known md_kept md_sights md_at md_set md_text md_told md_draft md_past md_images md_seen md_held N (0 : Int32) (0 : Int32) md_many md_length md_s md_asks md_brings md_uses md_days md_tries md_row md_first r28 h29  _ _ ls hw (lv_sub hl [1, 2, 3, 4, 5, 6, 7, 0] rfl) (fun H locs ls hw hl => ?_)
      refine lv_aload_n hx hb dX6_grooms_191 rfl (lv_at hl 0 rfl) ?_
      refine f_get S hK hw.1 in_X6_grooms_X6 0 rfl rfl 4 (by decide) (List.mem_of_getElem? (i := 1) rfl) rfl rfl dX6_grooms_192 ?_
      refine lv_iconst (v := 0) hx hb dX6_grooms_195 (by decide) ?_
      refine lv_iload hx hb dX6_grooms_196 (lv_at hl 2 rfl) ?_
      refine f_iastK S hK hw 4 1 rfl rfl 0 (by decide) (by decide) (ws1 := (wd_28 cC cI cJ a_md a_md_text md_typed a_md_told a_md_draft a_md_s a_md_past md_known a_md_images md_kept a_md_seen md_sights md_at a_md_asks a_md_brings a_md_uses a_md_days a_md_tries a_md_row r28.2.1 a_md_first r28.2.2.1 md_set a_md_held a_md_text md_text a_md_told md_told a_md_draft md_draft a_md_s (upd r28.2.2.2.1 0 (md_s 0)) a_md_past md_past a_md_images md_images a_md_seen md_seen a_md_asks r28.2.2.2.2.1 a_md_brings r28.2.2.2.2.2.1 a_md_uses r28.2.2.2.2.2.2.1 a_md_days r28.2.2.2.2.2.2.2.1 a_md_tries r28.2.2.2.2.2.2.2.2.1 a_md_row r28.2.2.2.2.2.2.2.2.2.1 a_md_first r28.2.2.2.2.2.2.2.2.2.2 a_md_held md_held)) rfl dX6_grooms_198 (fun H locs hw => ?_)
      refine lv_iload hx hb dX6_grooms_199 (lv_at hl 3 rfl) ?_
      refine lv_istore (lv' := [(7, .int r28.1), (0, .ref a_md), (2, .int p1), (4, .int (md_s 0)), (5, .int r28.1), (6, .int r13)]) hx hb dX6_grooms_201 hl (by decide) rfl (fun ls hl => ?_)
      refine lv_iload hx hb dX6_grooms_203 (lv_at hl 5 rfl) ?_
      refine lv_istore (lv' := [(8, .int r13), (7, .int r28.1), (0, .ref a_md), (2, .int p1), (4, .int (md_s 0)), (5, .int r28.1), (6, .int r13)]) hx hb dX6_grooms_205 hl (by decide) rfl (fun ls hl => ?_)
      obtain ⟨r33, h34, hm⟩ := ob hm
      refine t_X6_grooms_207 l S hK a_md a_md_text a_md_told a_md_draft a_md_s a_md_past a_md_images a_md_seen a_md_asks a_md_brings a_md_uses a_md_days a_md_tries a_md_row a_md_first a_md_held p1 r28.1 r13 md_typed md_known md_kept md_sights md_at r28.2.1 r28.2.2.1 md_set md_text md_told md_draft (upd r28.2.2.2.1 0 (md_s 0)) md_past md_images md_seen r28.2.2.2.2.1 r28.2.2.2.2.2.1 r28.2.2.2.2.2.2.1 r28.2.2.2.2.2.2.2.1 r28.2.2.2.2.2.2.2.2.1 r28.2.2.2.2.2.2.2.2.2.1 r28.2.2.2.2.2.2.2.2.2.2 md_held N r28.1 r13 r33 h34  _ _ ls hw (lv_sub hl [3, 5, 6, 1, 0] rfl) (fun H locs ls hw hl => ?_)
      refine lv_iload_n hx hb dX6_grooms_230 rfl (lv_at hl 0 rfl) ?_
      refine lv_if_ne (tgt := 242) hx hb dX6_grooms_231 (by decide) (fun c35 => ?_) (fun c35 => ?_)
      · replace hm := ineg hm c35
        refine lv_iload hx hb dX6_grooms_242 (lv_at hl 2 rfl) ?_
        refine lv_iload hx hb dX6_grooms_244 (lv_at hl 3 rfl) ?_
        obtain ⟨g36, hm⟩ := gdo hm
        refine lv_idiv hx hb dX6_grooms_246 g36 ?_
        obtain rfl := Option.some.inj hm
        exact e_WI S hr hlk hw rfl hw.1 dX6_grooms_247
      · replace hm := ipos hm c35
        refine lv_iload hx hb dX6_grooms_234 (lv_at hl 1 rfl) ?_
        refine lv_iload hx hb dX6_grooms_236 (lv_at hl 3 rfl) ?_
        obtain ⟨g37, hm⟩ := gdo hm
        refine lv_idiv hx hb dX6_grooms_238 g37 ?_
        refine lv_goto (tgt := 247) hx hb dX6_grooms_239 (by decide) ?_
        obtain rfl := Option.some.inj hm
        exact e_WI S hr hlk hw rfl hw.1 dX6_grooms_247
    · replace hm := ipos hm c6
      refine lv_iconst (v := (-1)) hx hb dX6_grooms_19 (by decide) ?_
      obtain rfl := Option.some.inj hm
      exact e_WI S hr hlk hw rfl hw.1 dX6_grooms_20

abbrev rX6_handUp : Room := { frames := 2, cells := 0, slots := 0, locals := 43 }
theorem cal_X6_handUp : Cal yX6_handUp wsX6_handUp cX6_handUp 2 (some .int) RX6 1 := ⟨⟨_, rfl⟩, rfl, by decide +kernel, by decide +kernel, by decide +kernel⟩
theorem in_X6_handUp_X6 : ∀ w ∈ wsX60, w ∈ wsX6_handUp := fun _ h => (List.mem_cons_of_mem _ (List.mem_append_right _ h))
set_option maxHeartbeats 4000000 in
set_option maxRecDepth 100000 in
theorem c_X6_handUp (l : Launch) (D : va_G) (cC cI cJ : ClassId) (a_md : Nat) (a_md_text : Nat) (a_md_told : Nat) (a_md_draft : Nat) (a_md_s : Nat) (a_md_past : Nat) (a_md_images : Nat) (a_md_seen : Nat) (a_md_asks : Nat) (a_md_brings : Nat) (a_md_uses : Nat) (a_md_days : Nat) (a_md_tries : Nat) (a_md_row : Nat) (a_md_first : Nat) (a_md_held : Nat) (md_typed : Int32) (md_known : Int32) (md_kept : Int32) (md_sights : Int32) (md_at : Int32) (md_many : Int32) (md_length : Int32) (md_set : Int32) (md_text : (Nat → Int32)) (md_told : (Nat → Int32)) (md_draft : (Nat → Int32)) (md_s : (Nat → Int32)) (md_past : (Nat → Int32)) (md_images : (Nat → Int32)) (md_seen : (Nat → Int32)) (md_asks : (Nat → Int32)) (md_brings : (Nat → Int32)) (md_uses : (Nat → Int32)) (md_days : (Nat → Int32)) (md_tries : (Nat → Int32)) (md_row : (Nat → Int32)) (md_first : (Nat → Int32)) (md_held : (Nat → Int32)) (p0 : Int32) (N : Nat) (A : Nat → Prop) (hD : va_D A (wd_28 cC cI cJ a_md a_md_text md_typed a_md_told a_md_draft a_md_s a_md_past md_known a_md_images md_kept a_md_seen md_sights md_at a_md_asks a_md_brings a_md_uses a_md_days a_md_tries a_md_row md_many a_md_first md_length md_set a_md_held a_md_text md_text a_md_told md_told a_md_draft md_draft a_md_s md_s a_md_past md_past a_md_images md_images a_md_seen md_seen a_md_asks md_asks a_md_brings md_brings a_md_uses md_uses a_md_days md_days a_md_tries md_tries a_md_row md_row a_md_first md_first a_md_held md_held)) (out : (Int32 × Int32 × (Nat → Int32) × (Nat → Int32))) (hm : m_X6_handUp N md_known md_told md_s md_past p0 = some out) : WrI l yX6_handUp wsX6_handUp rX6_handUp D (tyK cC cI cJ) [.ref a_md, .int p0] A (wd_28 cC cI cJ a_md a_md_text md_typed a_md_told a_md_draft a_md_s a_md_past md_known a_md_images md_kept a_md_seen md_sights md_at a_md_asks a_md_brings a_md_uses a_md_days a_md_tries a_md_row md_many a_md_first md_length md_set a_md_held a_md_text md_text a_md_told md_told a_md_draft md_draft a_md_s md_s a_md_past md_past a_md_images md_images a_md_seen md_seen a_md_asks md_asks a_md_brings md_brings a_md_uses md_uses a_md_days md_days a_md_tries md_tries a_md_row md_row a_md_first md_first a_md_held md_held) (Bw0 D (wd_28 cC cI cJ a_md a_md_text md_typed a_md_told a_md_draft a_md_s a_md_past out.2.1 a_md_images md_kept a_md_seen md_sights md_at a_md_asks a_md_brings a_md_uses a_md_days a_md_tries a_md_row md_many a_md_first md_length md_set a_md_held a_md_text md_text a_md_told md_told a_md_draft md_draft a_md_s out.2.2.1 a_md_past out.2.2.2 a_md_images md_images a_md_seen md_seen a_md_asks md_asks a_md_brings md_brings a_md_uses md_uses a_md_days md_days a_md_tries md_tries a_md_row md_row a_md_first md_first a_md_held md_held)) out.1 := by
  unfold m_X6_handUp at hm
  refine enter (cc := cX6_handUp) (maxL := 2) (ret := (some .int)) (lv := [(0, .ref a_md), (1, .int p0)]) (by decide) rfl (Nat.le_of_ble_eq_true rfl) rfl ?_
  intro p e s m args below meth c S hr hlk hK hP ls hl
  replace S : CallFix p m c cX6_handUp 2 s args wsX6_handUp RX6 := S
  have hx := S.1
  have hb := S.2.1
  have hw : Wd D A s.heap (wd_28 cC cI cJ a_md a_md_text md_typed a_md_told a_md_draft a_md_s a_md_past md_known a_md_images md_kept a_md_seen md_sights md_at a_md_asks a_md_brings a_md_uses a_md_days a_md_tries a_md_row md_many a_md_first md_length md_set a_md_held a_md_text md_text a_md_told md_told a_md_draft md_draft a_md_s md_s a_md_past md_past a_md_images md_images a_md_seen md_seen a_md_asks md_asks a_md_brings md_brings a_md_uses md_uses a_md_days md_days a_md_tries md_tries a_md_row md_row a_md_first md_first a_md_held md_held) s.heap [] := ⟨hP, hD, va_S.rf⟩
  have hw0 := hw
  refine lv_aload_n hx hb dX6_handUp_0 rfl (lv_at hl 0 rfl) ?_
  refine lv_iload_n hx hb dX6_handUp_1 rfl (lv_at hl 1 rfl) ?_
  obtain ⟨r1, h2, hm⟩ := ob hm
  refine k_rVi S hK hw.1 cal_X6_isTask gX6_handUp_X6_isTask (c_X6_isTask l D cC cI cJ a_md a_md_text a_md_told a_md_draft a_md_s a_md_past a_md_images a_md_seen a_md_asks a_md_brings a_md_uses a_md_days a_md_tries a_md_row a_md_first a_md_held md_typed md_known md_kept md_sights md_at md_many md_length md_set md_text md_told md_draft md_s md_past md_images md_seen md_asks md_brings md_uses md_days md_tries md_row md_first md_held p0 r1 h2) ⟨⟨rfl, rfl⟩, Nat.le_of_ble_eq_true rfl, Nat.le_of_ble_eq_true rfl⟩ [0, 1, 2, 3, 4, 5, 6, 7, 8, 9, 10, 11, 12, 13, 14, 15] rfl 0 rfl rfl rfl hl.1 rfl (Nat.le_of_ble_eq_true rfl) dX6_handUp_2 ⟨Nat.zero_le _, Nat.zero_le _⟩ ?_
  refine lv_if_ne (tgt := 10) hx hb dX6_handUp_5 (by decide) (fun c3 => ?_) (fun c3 => ?_)
  · replace hm := ineg hm c3
    refine lv_aload_n hx hb dX6_handUp_10 rfl (lv_at hl 0 rfl) ?_
    obtain ⟨r4, h5, hm⟩ := ob hm
    refine k_rVi S hK hw.1 cal_X6_isLost gX6_handUp_X6_isLost (c_X6_isLost l D cC cI cJ a_md a_md_text a_md_told a_md_draft a_md_s a_md_past a_md_images a_md_seen a_md_asks a_md_brings a_md_uses a_md_days a_md_tries a_md_row a_md_first a_md_held md_typed md_known md_kept md_sights md_at md_many md_length md_set md_text md_told md_draft md_s md_past md_images md_seen md_asks md_brings md_uses md_days md_tries md_row md_first md_held r4 h5) ⟨⟨rfl, rfl⟩, Nat.le_of_ble_eq_true rfl, Nat.le_of_ble_eq_true rfl⟩ [0, 1, 2, 3, 4, 5, 6, 7, 8, 9, 10, 11, 12, 13, 14, 15] rfl 0 rfl rfl rfl hl.1 rfl (Nat.le_of_ble_eq_true rfl) dX6_handUp_11 ⟨Nat.zero_le _, Nat.zero_le _⟩ ?_
    refine lv_if_ne (tgt := 28) hx hb dX6_handUp_14 (by decide) (fun c6 => ?_) (fun c6 => ?_)
    · replace hm := ineg hm c6
      refine lv_bipush (v := (-2)) hx hb dX6_handUp_28 (by decide) ?_
      obtain rfl := Option.some.inj hm
      exact e_WI S hr hlk hw rfl hw.1 dX6_handUp_30
    · replace hm := ipos hm c6
      refine lv_aload_n hx hb dX6_handUp_17 rfl (lv_at hl 0 rfl) ?_
      obtain ⟨r7, h8, hm⟩ := ob hm
      refine k_rVi S hK hw.1 cal_X6_open gX6_handUp_X6_open (c_X6_open l D cC cI cJ a_md a_md_text a_md_told a_md_draft a_md_s a_md_past a_md_images a_md_seen a_md_asks a_md_brings a_md_uses a_md_days a_md_tries a_md_row a_md_first a_md_held md_typed md_known md_kept md_sights md_at md_many md_length md_set md_text md_told md_draft md_s md_past md_images md_seen md_asks md_brings md_uses md_days md_tries md_row md_first md_held r7 h8) ⟨⟨rfl, rfl⟩, Nat.le_of_ble_eq_true rfl, Nat.le_of_ble_eq_true rfl⟩ [0, 1, 2, 3, 4, 5, 6, 7, 8, 9, 10, 11, 12, 13, 14, 15] rfl 0 rfl rfl rfl hl.1 rfl (Nat.le_of_ble_eq_true rfl) dX6_handUp_18 ⟨Nat.zero_le _, Nat.zero_le _⟩ ?_
      refine lv_iload_n hx hb dX6_handUp_21 rfl (lv_at hl 1 rfl) ?_
      refine lv_ishr hx hb dX6_handUp_22 ?_
      refine lv_iconst (v := 1) hx hb dX6_handUp_23 (by decide) ?_
      refine lv_iand hx hb dX6_handUp_24 ?_
      refine lv_if_ne (tgt := 31) hx hb dX6_handUp_25 (by decide) (fun c9 => ?_) (fun c9 => ?_)
      · replace hm := ineg hm c9
        refine lv_aload_n hx hb dX6_handUp_31 rfl (lv_at hl 0 rfl) ?_
        obtain ⟨r10, h11, hm⟩ := ob hm
        refine k_wVv S hK hw cal_X6_keeps gX6_handUp_X6_keeps (c_X6_keeps l D cC cI cJ a_md a_md_text a_md_told a_md_draft a_md_s a_md_past a_md_images a_md_seen a_md_asks a_md_brings a_md_uses a_md_days a_md_tries a_md_row a_md_first a_md_held md_typed md_known md_kept md_sights md_at md_many md_length md_set md_text md_told md_draft md_s md_past md_images md_seen md_asks md_brings md_uses md_days md_tries md_row md_first md_held N (aw _) (hw.own [0, 1, 2, 3, 4, 5, 6, 7, 8, 9, 10, 11, 12, 13, 14, 15] (by decide) rfl) r10 h11) ⟨⟨rfl, rfl⟩, Nat.le_of_ble_eq_true rfl, Nat.le_of_ble_eq_true rfl⟩ [0, 1, 2, 3, 4, 5, 6, 7, 8, 9, 10, 11, 12, 13, 14, 15] rfl 0 rfl rfl rfl hl.1 rfl (Nat.le_of_ble_eq_true rfl) dX6_handUp_32 ⟨Nat.zero_le _, Nat.zero_le _⟩ (fun H locs hJ hB => ?_)
        have hw := hJ _ hB rfl
        replace hw : Wd D A _ (wd_28 cC cI cJ a_md a_md_text md_typed a_md_told a_md_draft a_md_s a_md_past r10.1 a_md_images md_kept a_md_seen md_sights md_at a_md_asks a_md_brings a_md_uses a_md_days a_md_tries a_md_row md_many a_md_first md_length md_set a_md_held a_md_text md_text a_md_told md_told a_md_draft md_draft a_md_s md_s a_md_past r10.2 a_md_images md_images a_md_seen md_seen a_md_asks md_asks a_md_brings md_brings a_md_uses md_uses a_md_days md_days a_md_tries md_tries a_md_row md_row a_md_first md_first a_md_held md_held) H locs := hw
        refine lv_aload_n hx hb dX6_handUp_35 rfl (lv_at hl 0 rfl) ?_
        refine f_get S hK hw.1 in_X6_handUp_X6 0 rfl rfl 4 (by decide) (List.mem_of_getElem? (i := 1) rfl) rfl rfl dX6_handUp_36 ?_
        refine lv_iconst (v := 5) hx hb dX6_handUp_39 (by decide) ?_
        refine lv_dup2_11 hx hb dX6_handUp_40 rfl rfl ?_
        refine f_ialdK S hK hw.1 4 1 rfl rfl 5 (by decide) (by decide) (v := (md_s 5)) rfl dX6_handUp_41 ?_
        refine lv_iconst (v := 2) hx hb dX6_handUp_42 (by decide) ?_
        refine lv_aload_n hx hb dX6_handUp_43 rfl (lv_at hl 0 rfl) ?_
        refine f_get S hK hw.1 in_X6_handUp_X6 0 rfl rfl 2 (by decide) (List.mem_of_getElem? (i := 2) rfl) rfl rfl dX6_handUp_44 ?_
        refine lv_bipush (v := 13) hx hb dX6_handUp_47 (by decide) ?_
        refine lv_iload_n hx hb dX6_handUp_49 rfl (lv_at hl 1 rfl) ?_
        refine lv_iadd hx hb dX6_handUp_50 ?_
        obtain ⟨g13, hm⟩ := gdo hm
        refine f_iald S hK hw.1 2 1 rfl rfl g13 dX6_handUp_51 ?_
        refine lv_imul hx hb dX6_handUp_52 ?_
        refine lv_iconst (v := 1) hx hb dX6_handUp_53 (by decide) ?_
        refine lv_iadd hx hb dX6_handUp_54 ?_
        refine lv_iadd hx hb dX6_handUp_55 ?_
        obtain ⟨y15, e16, hm⟩ := ob hm
        refine f_name e16 ?_
        refine f_iastK S hK hw 4 1 rfl rfl 5 (by decide) (by decide) (ws1 := (wd_28 cC cI cJ a_md a_md_text md_typed a_md_told a_md_draft a_md_s a_md_past r10.1 a_md_images md_kept a_md_seen md_sights md_at a_md_asks a_md_brings a_md_uses a_md_days a_md_tries a_md_row md_many a_md_first md_length md_set a_md_held a_md_text md_text a_md_told md_told a_md_draft md_draft a_md_s (upd md_s 5 y15) a_md_past r10.2 a_md_images md_images a_md_seen md_seen a_md_asks md_asks a_md_brings md_brings a_md_uses md_uses a_md_days md_days a_md_tries md_tries a_md_row md_row a_md_first md_first a_md_held md_held)) rfl dX6_handUp_56 (fun H locs hw => ?_)
        refine lv_aload_n hx hb dX6_handUp_57 rfl (lv_at hl 0 rfl) ?_
        refine f_get S hK hw.1 in_X6_handUp_X6 0 rfl rfl 4 (by decide) (List.mem_of_getElem? (i := 1) rfl) rfl rfl dX6_handUp_58 ?_
        refine lv_iconst (v := 1) hx hb dX6_handUp_61 (by decide) ?_
        refine lv_dup2_11 hx hb dX6_handUp_62 rfl rfl ?_
        refine f_ialdK S hK hw.1 4 1 rfl rfl 1 (by decide) (by decide) (v := (md_s 1)) rfl dX6_handUp_63 ?_
        refine lv_iconst (v := 1) hx hb dX6_handUp_64 (by decide) ?_
        refine lv_iload_n hx hb dX6_handUp_65 rfl (lv_at hl 1 rfl) ?_
        refine lv_ishl hx hb dX6_handUp_66 ?_
        refine lv_ior hx hb dX6_handUp_67 ?_
        obtain ⟨y19, e20, hm⟩ := ob hm
        refine f_name e20 ?_
        refine f_iastK S hK hw 4 1 rfl rfl 1 (by decide) (by decide) (ws1 := (wd_28 cC cI cJ a_md a_md_text md_typed a_md_told a_md_draft a_md_s a_md_past r10.1 a_md_images md_kept a_md_seen md_sights md_at a_md_asks a_md_brings a_md_uses a_md_days a_md_tries a_md_row md_many a_md_first md_length md_set a_md_held a_md_text md_text a_md_told md_told a_md_draft md_draft a_md_s (upd (upd md_s 5 y15) 1 y19) a_md_past r10.2 a_md_images md_images a_md_seen md_seen a_md_asks md_asks a_md_brings md_brings a_md_uses md_uses a_md_days md_days a_md_tries md_tries a_md_row md_row a_md_first md_first a_md_held md_held)) rfl dX6_handUp_68 (fun H locs hw => ?_)
        refine lv_aload_n hx hb dX6_handUp_69 rfl (lv_at hl 0 rfl) ?_
        refine f_get S hK hw.1 in_X6_handUp_X6 0 rfl rfl 4 (by decide) (List.mem_of_getElem? (i := 1) rfl) rfl rfl dX6_handUp_70 ?_
        refine lv_iconst (v := 5) hx hb dX6_handUp_73 (by decide) ?_
        refine f_ialdK S hK hw.1 4 1 rfl rfl 5 (by decide) (by decide) (v := y15) rfl dX6_handUp_74 ?_
        obtain rfl := Option.some.inj hm
        exact e_WI S hr hlk hw rfl hw.1 dX6_handUp_75
      · replace hm := ipos hm c9
        refine lv_bipush (v := (-2)) hx hb dX6_handUp_28 (by decide) ?_
        obtain rfl := Option.some.inj hm
        exact e_WI S hr hlk hw rfl hw.1 dX6_handUp_30
  · replace hm := ipos hm c3
    refine lv_iconst (v := (-1)) hx hb dX6_handUp_8 (by decide) ?_
    obtain rfl := Option.some.inj hm
    exact e_WI S hr hlk hw rfl hw.1 dX6_handUp_9

abbrev rX6_helpNow : Room := { frames := 2, cells := 0, slots := 0, locals := 51 }
theorem cal_X6_helpNow : Cal yX6_helpNow wsX6_helpNow cX6_helpNow 2 (some .int) RX6 1 := ⟨⟨_, rfl⟩, rfl, by decide +kernel, by decide +kernel, by decide +kernel⟩
theorem in_X6_helpNow_X6 : ∀ w ∈ wsX60, w ∈ wsX6_helpNow := fun _ h => (List.mem_cons_of_mem _ (List.mem_append_right _ h))
set_option maxHeartbeats 4000000 in
set_option maxRecDepth 100000 in
theorem c_X6_helpNow (l : Launch) (D : va_G) (cC cI cJ : ClassId) (a_md : Nat) (a_md_text : Nat) (a_md_told : Nat) (a_md_draft : Nat) (a_md_s : Nat) (a_md_past : Nat) (a_md_images : Nat) (a_md_seen : Nat) (a_md_asks : Nat) (a_md_brings : Nat) (a_md_uses : Nat) (a_md_days : Nat) (a_md_tries : Nat) (a_md_row : Nat) (a_md_first : Nat) (a_md_held : Nat) (md_typed : Int32) (md_known : Int32) (md_kept : Int32) (md_sights : Int32) (md_at : Int32) (md_many : Int32) (md_length : Int32) (md_set : Int32) (md_text : (Nat → Int32)) (md_told : (Nat → Int32)) (md_draft : (Nat → Int32)) (md_s : (Nat → Int32)) (md_past : (Nat → Int32)) (md_images : (Nat → Int32)) (md_seen : (Nat → Int32)) (md_asks : (Nat → Int32)) (md_brings : (Nat → Int32)) (md_uses : (Nat → Int32)) (md_days : (Nat → Int32)) (md_tries : (Nat → Int32)) (md_row : (Nat → Int32)) (md_first : (Nat → Int32)) (md_held : (Nat → Int32)) (p0 : Int32) (N : Nat) (out : Int32) (hm : m_X6_helpNow N md_told md_s p0 = some out) : RdI l yX6_helpNow wsX6_helpNow rX6_helpNow D (tyK cC cI cJ) [.ref a_md, .int p0] (wd_28 cC cI cJ a_md a_md_text md_typed a_md_told a_md_draft a_md_s a_md_past md_known a_md_images md_kept a_md_seen md_sights md_at a_md_asks a_md_brings a_md_uses a_md_days a_md_tries a_md_row md_many a_md_first md_length md_set a_md_held a_md_text md_text a_md_told md_told a_md_draft md_draft a_md_s md_s a_md_past md_past a_md_images md_images a_md_seen md_seen a_md_asks md_asks a_md_brings md_brings a_md_uses md_uses a_md_days md_days a_md_tries md_tries a_md_row md_row a_md_first md_first a_md_held md_held) out := by
  unfold m_X6_helpNow at hm
  refine enter (cc := cX6_helpNow) (maxL := 2) (ret := (some .int)) (lv := [(0, .ref a_md), (1, .int p0)]) (by decide) rfl (Nat.le_of_ble_eq_true rfl) rfl ?_
  intro p e s m args below meth c S hr hlk hK hP ls hl
  replace S : CallFix p m c cX6_helpNow 2 s args wsX6_helpNow RX6 := S
  have hx := S.1
  have hb := S.2.1
  refine lv_aload_n hx hb dX6_helpNow_0 rfl (lv_at hl 0 rfl) ?_
  obtain ⟨r1, h2, hm⟩ := ob hm
  refine k_rVi S hK hP cal_X6_isLost gX6_helpNow_X6_isLost (c_X6_isLost l D cC cI cJ a_md a_md_text a_md_told a_md_draft a_md_s a_md_past a_md_images a_md_seen a_md_asks a_md_brings a_md_uses a_md_days a_md_tries a_md_row a_md_first a_md_held md_typed md_known md_kept md_sights md_at md_many md_length md_set md_text md_told md_draft md_s md_past md_images md_seen md_asks md_brings md_uses md_days md_tries md_row md_first md_held r1 h2) ⟨⟨rfl, rfl⟩, Nat.le_of_ble_eq_true rfl, Nat.le_of_ble_eq_true rfl⟩ [0, 1, 2, 3, 4, 5, 6, 7, 8, 9, 10, 11, 12, 13, 14, 15] rfl 0 rfl rfl rfl hl.1 rfl (Nat.le_of_ble_eq_true rfl) dX6_helpNow_1 ⟨Nat.zero_le _, Nat.zero_le _⟩ ?_
  refine lv_if_ne (tgt := 18) hx hb dX6_helpNow_4 (by decide) (fun c3 => ?_) (fun c3 => ?_)
  · replace hm := ineg hm c3
    refine lv_iconst (v := (-1)) hx hb dX6_helpNow_18 (by decide) ?_
    refine lv_goto (tgt := 48) hx hb dX6_helpNow_19 (by decide) ?_
    exact e_RI S hr hlk (Option.some.inj hm) dX6_helpNow_48
  · replace hm := ipos hm c3
    refine lv_aload_n hx hb dX6_helpNow_7 rfl (lv_at hl 0 rfl) ?_
    obtain ⟨r4, h5, hm⟩ := ob hm
    refine k_rVi S hK hP cal_X6_open gX6_helpNow_X6_open (c_X6_open l D cC cI cJ a_md a_md_text a_md_told a_md_draft a_md_s a_md_past a_md_images a_md_seen a_md_asks a_md_brings a_md_uses a_md_days a_md_tries a_md_row a_md_first a_md_held md_typed md_known md_kept md_sights md_at md_many md_length md_set md_text md_told md_draft md_s md_past md_images md_seen md_asks md_brings md_uses md_days md_tries md_row md_first md_held r4 h5) ⟨⟨rfl, rfl⟩, Nat.le_of_ble_eq_true rfl, Nat.le_of_ble_eq_true rfl⟩ [0, 1, 2, 3, 4, 5, 6, 7, 8, 9, 10, 11, 12, 13, 14, 15] rfl 0 rfl rfl rfl hl.1 rfl (Nat.le_of_ble_eq_true rfl) dX6_helpNow_8 ⟨Nat.zero_le _, Nat.zero_le _⟩ ?_
    refine lv_iload_n hx hb dX6_helpNow_11 rfl (lv_at hl 1 rfl) ?_
    refine lv_ishr hx hb dX6_helpNow_12 ?_
    refine lv_iconst (v := 1) hx hb dX6_helpNow_13 (by decide) ?_
    refine lv_iand hx hb dX6_helpNow_14 ?_
    refine lv_if_ne (tgt := 22) hx hb dX6_helpNow_15 (by decide) (fun c6 => ?_) (fun c6 => ?_)
    · replace hm := ineg hm c6
      refine lv_aload_n hx hb dX6_helpNow_22 rfl (lv_at hl 0 rfl) ?_
      refine lv_iload_n hx hb dX6_helpNow_23 rfl (lv_at hl 1 rfl) ?_
      refine lv_aload_n hx hb dX6_helpNow_24 rfl (lv_at hl 0 rfl) ?_
      refine f_get S hK hP in_X6_helpNow_X6 0 rfl rfl 4 (by decide) (List.mem_of_getElem? (i := 1) rfl) rfl rfl dX6_helpNow_25 ?_
      refine lv_iconst (v := 2) hx hb dX6_helpNow_28 (by decide) ?_
      refine f_ialdK S hK hP 4 1 rfl rfl 2 (by decide) (by decide) (v := (md_s 2)) rfl dX6_helpNow_29 ?_
      refine lv_aload_n hx hb dX6_helpNow_30 rfl (lv_at hl 0 rfl) ?_
      refine f_get S hK hP in_X6_helpNow_X6 0 rfl rfl 4 (by decide) (List.mem_of_getElem? (i := 1) rfl) rfl rfl dX6_helpNow_31 ?_
      refine lv_iconst (v := 3) hx hb dX6_helpNow_34 (by decide) ?_
      refine f_ialdK S hK hP 4 1 rfl rfl 3 (by decide) (by decide) (v := (md_s 3)) rfl dX6_helpNow_35 ?_
      refine lv_iconst (v := (-1)) hx hb dX6_helpNow_36 (by decide) ?_
      refine lv_ixor hx hb dX6_helpNow_37 ?_
      refine lv_iand hx hb dX6_helpNow_38 ?_
      refine lv_aload_n hx hb dX6_helpNow_39 rfl (lv_at hl 0 rfl) ?_
      refine f_get S hK hP in_X6_helpNow_X6 0 rfl rfl 4 (by decide) (List.mem_of_getElem? (i := 1) rfl) rfl rfl dX6_helpNow_40 ?_
      refine lv_iconst (v := 5) hx hb dX6_helpNow_43 (by decide) ?_
      refine f_ialdK S hK hP 4 1 rfl rfl 5 (by decide) (by decide) (v := (md_s 5)) rfl dX6_helpNow_44 ?_
      obtain ⟨r10, h11, hm⟩ := ob hm
      refine k_rVi S hK hP cal_X6_helpFor gX6_helpNow_X6_helpFor (c_X6_helpFor l D cC cI cJ a_md a_md_text a_md_told a_md_draft a_md_s a_md_past a_md_images a_md_seen a_md_asks a_md_brings a_md_uses a_md_days a_md_tries a_md_row a_md_first a_md_held md_typed md_known md_kept md_sights md_at md_many md_length md_set md_text md_told md_draft md_s md_past md_images md_seen md_asks md_brings md_uses md_days md_tries md_row md_first md_held p0 ((md_s 2) &&& ((md_s 3) ^^^ (-1 : Int32))) (md_s 5) N r10 h11) ⟨⟨rfl, rfl⟩, Nat.le_of_ble_eq_true rfl, Nat.le_of_ble_eq_true rfl⟩ [0, 1, 2, 3, 4, 5, 6, 7, 8, 9, 10, 11, 12, 13, 14, 15] rfl 0 rfl rfl rfl hl.1 rfl (Nat.le_of_ble_eq_true rfl) dX6_helpNow_45 ⟨Nat.zero_le _, Nat.zero_le _⟩ ?_
      exact e_RI S hr hlk (Option.some.inj hm) dX6_helpNow_48
    · replace hm := ipos hm c6
      refine lv_iconst (v := (-1)) hx hb dX6_helpNow_18 (by decide) ?_
      refine lv_goto (tgt := 48) hx hb dX6_helpNow_19 (by decide) ?_
      exact e_RI S hr hlk (Option.some.inj hm) dX6_helpNow_48

abbrev rX6_help : Room := { frames := 3, cells := 0, slots := 0, locals := 72 }
theorem cal_X6_help : Cal yX6_help wsX6_help cX6_help 3 (some .int) RX6 1 := ⟨⟨_, rfl⟩, rfl, by decide +kernel, by decide +kernel, by decide +kernel⟩
set_option maxHeartbeats 4000000 in
set_option maxRecDepth 100000 in
theorem c_X6_help (l : Launch) (D : va_G) (cC cI cJ : ClassId) (a_md : Nat) (a_md_text : Nat) (a_md_told : Nat) (a_md_draft : Nat) (a_md_s : Nat) (a_md_past : Nat) (a_md_images : Nat) (a_md_seen : Nat) (a_md_asks : Nat) (a_md_brings : Nat) (a_md_uses : Nat) (a_md_days : Nat) (a_md_tries : Nat) (a_md_row : Nat) (a_md_first : Nat) (a_md_held : Nat) (md_typed : Int32) (md_known : Int32) (md_kept : Int32) (md_sights : Int32) (md_at : Int32) (md_many : Int32) (md_length : Int32) (md_set : Int32) (md_text : (Nat → Int32)) (md_told : (Nat → Int32)) (md_draft : (Nat → Int32)) (md_s : (Nat → Int32)) (md_past : (Nat → Int32)) (md_images : (Nat → Int32)) (md_seen : (Nat → Int32)) (md_asks : (Nat → Int32)) (md_brings : (Nat → Int32)) (md_uses : (Nat → Int32)) (md_days : (Nat → Int32)) (md_tries : (Nat → Int32)) (md_row : (Nat → Int32)) (md_first : (Nat → Int32)) (md_held : (Nat → Int32)) (p0 : Int32) (N : Nat) (out : Int32) (hm : m_X6_help N md_told md_s p0 = some out) : RdI l yX6_help wsX6_help rX6_help D (tyK cC cI cJ) [.ref a_md, .int p0] (wd_28 cC cI cJ a_md a_md_text md_typed a_md_told a_md_draft a_md_s a_md_past md_known a_md_images md_kept a_md_seen md_sights md_at a_md_asks a_md_brings a_md_uses a_md_days a_md_tries a_md_row md_many a_md_first md_length md_set a_md_held a_md_text md_text a_md_told md_told a_md_draft md_draft a_md_s md_s a_md_past md_past a_md_images md_images a_md_seen md_seen a_md_asks md_asks a_md_brings md_brings a_md_uses md_uses a_md_days md_days a_md_tries md_tries a_md_row md_row a_md_first md_first a_md_held md_held) out := by
  unfold m_X6_help at hm
  refine enter (cc := cX6_help) (maxL := 3) (ret := (some .int)) (lv := [(0, .ref a_md), (1, .int p0)]) (by decide) rfl (Nat.le_of_ble_eq_true rfl) rfl ?_
  intro p e s m args below meth c S hr hlk hK hP ls hl
  replace S : CallFix p m c cX6_help 3 s args wsX6_help RX6 := S
  have hx := S.1
  have hb := S.2.1
  refine lv_aload_n hx hb dX6_help_0 rfl (lv_at hl 0 rfl) ?_
  refine lv_iload_n hx hb dX6_help_1 rfl (lv_at hl 1 rfl) ?_
  obtain ⟨r1, h2, hm⟩ := ob hm
  refine k_rVi S hK hP cal_X6_isTask gX6_help_X6_isTask (c_X6_isTask l D cC cI cJ a_md a_md_text a_md_told a_md_draft a_md_s a_md_past a_md_images a_md_seen a_md_asks a_md_brings a_md_uses a_md_days a_md_tries a_md_row a_md_first a_md_held md_typed md_known md_kept md_sights md_at md_many md_length md_set md_text md_told md_draft md_s md_past md_images md_seen md_asks md_brings md_uses md_days md_tries md_row md_first md_held p0 r1 h2) ⟨⟨rfl, rfl⟩, Nat.le_of_ble_eq_true rfl, Nat.le_of_ble_eq_true rfl⟩ [0, 1, 2, 3, 4, 5, 6, 7, 8, 9, 10, 11, 12, 13, 14, 15] rfl 0 rfl rfl rfl hl.1 rfl (Nat.le_of_ble_eq_true rfl) dX6_help_2 ⟨Nat.zero_le _, Nat.zero_le _⟩ ?_
  refine lv_if_ne (tgt := 10) hx hb dX6_help_5 (by decide) (fun c3 => ?_) (fun c3 => ?_)
  · replace hm := ineg hm c3
    refine lv_aload_n hx hb dX6_help_10 rfl (lv_at hl 0 rfl) ?_
    refine lv_iload_n hx hb dX6_help_11 rfl (lv_at hl 1 rfl) ?_
    obtain ⟨r4, h5, hm⟩ := ob hm
    refine k_rVi S hK hP cal_X6_helpNow gX6_help_X6_helpNow (c_X6_helpNow l D cC cI cJ a_md a_md_text a_md_told a_md_draft a_md_s a_md_past a_md_images a_md_seen a_md_asks a_md_brings a_md_uses a_md_days a_md_tries a_md_row a_md_first a_md_held md_typed md_known md_kept md_sights md_at md_many md_length md_set md_text md_told md_draft md_s md_past md_images md_seen md_asks md_brings md_uses md_days md_tries md_row md_first md_held p0 N r4 h5) ⟨⟨rfl, rfl⟩, Nat.le_of_ble_eq_true rfl, Nat.le_of_ble_eq_true rfl⟩ [0, 1, 2, 3, 4, 5, 6, 7, 8, 9, 10, 11, 12, 13, 14, 15] rfl 0 rfl rfl rfl hl.1 rfl (Nat.le_of_ble_eq_true rfl) dX6_help_12 ⟨Nat.zero_le _, Nat.zero_le _⟩ ?_
    refine lv_istore_n (lv' := [(2, .int r4), (0, .ref a_md), (1, .int p0)]) hx hb dX6_help_15 rfl hl (by decide) rfl (fun ls hl => ?_)
    refine lv_iload_n hx hb dX6_help_16 rfl (lv_at hl 0 rfl) ?_
    refine lv_if_ge (tgt := 25) hx hb dX6_help_17 (by decide) (fun c6 => ?_) (fun c6 => ?_)
    · replace hm := ipos hm c6
      refine lv_iload_n hx hb dX6_help_25 rfl (lv_at hl 0 rfl) ?_
      exact e_RI S hr hlk (Option.some.inj hm) dX6_help_26
    · replace hm := ineg hm c6
      refine lv_bipush (v := (-2)) hx hb dX6_help_20 (by decide) ?_
      refine lv_goto (tgt := 26) hx hb dX6_help_22 (by decide) ?_
      exact e_RI S hr hlk (Option.some.inj hm) dX6_help_26
  · replace hm := ipos hm c3
    refine lv_iconst (v := (-1)) hx hb dX6_help_8 (by decide) ?_
    exact e_RI S hr hlk (Option.some.inj hm) dX6_help_9

abbrev rX6_helper : Room := { frames := 2, cells := 0, slots := 0, locals := 43 }
theorem cal_X6_helper : Cal yX6_helper wsX6_helper cX6_helper 3 (some .int) RX6 2 := ⟨⟨_, rfl⟩, rfl, by decide +kernel, by decide +kernel, by decide +kernel⟩
theorem in_X6_helper_X6 : ∀ w ∈ wsX60, w ∈ wsX6_helper := fun _ h => (List.mem_cons_of_mem _ (List.mem_append_right _ h))
set_option maxHeartbeats 4000000 in
set_option maxRecDepth 100000 in
theorem c_X6_helper (l : Launch) (D : va_G) (cC cI cJ : ClassId) (a_md : Nat) (a_md_text : Nat) (a_md_told : Nat) (a_md_draft : Nat) (a_md_s : Nat) (a_md_past : Nat) (a_md_images : Nat) (a_md_seen : Nat) (a_md_asks : Nat) (a_md_brings : Nat) (a_md_uses : Nat) (a_md_days : Nat) (a_md_tries : Nat) (a_md_row : Nat) (a_md_first : Nat) (a_md_held : Nat) (md_typed : Int32) (md_known : Int32) (md_kept : Int32) (md_sights : Int32) (md_at : Int32) (md_many : Int32) (md_length : Int32) (md_set : Int32) (md_text : (Nat → Int32)) (md_told : (Nat → Int32)) (md_draft : (Nat → Int32)) (md_s : (Nat → Int32)) (md_past : (Nat → Int32)) (md_images : (Nat → Int32)) (md_seen : (Nat → Int32)) (md_asks : (Nat → Int32)) (md_brings : (Nat → Int32)) (md_uses : (Nat → Int32)) (md_days : (Nat → Int32)) (md_tries : (Nat → Int32)) (md_row : (Nat → Int32)) (md_first : (Nat → Int32)) (md_held : (Nat → Int32)) (p0 : Int32) (p1 : Int32) (out : Int32) (hm : m_X6_helper md_told md_s p0 p1 = some out) : RdI l yX6_helper wsX6_helper rX6_helper D (tyK cC cI cJ) [.ref a_md, .int p0, .int p1] (wd_28 cC cI cJ a_md a_md_text md_typed a_md_told a_md_draft a_md_s a_md_past md_known a_md_images md_kept a_md_seen md_sights md_at a_md_asks a_md_brings a_md_uses a_md_days a_md_tries a_md_row md_many a_md_first md_length md_set a_md_held a_md_text md_text a_md_told md_told a_md_draft md_draft a_md_s md_s a_md_past md_past a_md_images md_images a_md_seen md_seen a_md_asks md_asks a_md_brings md_brings a_md_uses md_uses a_md_days md_days a_md_tries md_tries a_md_row md_row a_md_first md_first a_md_held md_held) out := by
  unfold m_X6_helper at hm
  refine enter (cc := cX6_helper) (maxL := 3) (ret := (some .int)) (lv := [(0, .ref a_md), (1, .int p0), (2, .int p1)]) (by decide) rfl (Nat.le_of_ble_eq_true rfl) rfl ?_
  intro p e s m args below meth c S hr hlk hK hP ls hl
  replace S : CallFix p m c cX6_helper 3 s args wsX6_helper RX6 := S
  have hx := S.1
  have hb := S.2.1
  refine lv_aload_n hx hb dX6_helper_0 rfl (lv_at hl 0 rfl) ?_
  refine lv_iload_n hx hb dX6_helper_1 rfl (lv_at hl 1 rfl) ?_
  obtain ⟨r1, h2, hm⟩ := ob hm
  refine k_rVi S hK hP cal_X6_isHelper gX6_helper_X6_isHelper (c_X6_isHelper l D cC cI cJ a_md a_md_text a_md_told a_md_draft a_md_s a_md_past a_md_images a_md_seen a_md_asks a_md_brings a_md_uses a_md_days a_md_tries a_md_row a_md_first a_md_held md_typed md_known md_kept md_sights md_at md_many md_length md_set md_text md_told md_draft md_s md_past md_images md_seen md_asks md_brings md_uses md_days md_tries md_row md_first md_held p0 r1 h2) ⟨⟨rfl, rfl⟩, Nat.le_of_ble_eq_true rfl, Nat.le_of_ble_eq_true rfl⟩ [0, 1, 2, 3, 4, 5, 6, 7, 8, 9, 10, 11, 12, 13, 14, 15] rfl 0 rfl rfl rfl hl.1 rfl (Nat.le_of_ble_eq_true rfl) dX6_helper_2 ⟨Nat.zero_le _, Nat.zero_le _⟩ ?_
  refine lv_if_ne (tgt := 10) hx hb dX6_helper_5 (by decide) (fun c3 => ?_) (fun c3 => ?_)
  · replace hm := ineg hm c3
    refine lv_iload_n hx hb dX6_helper_10 rfl (lv_at hl 2 rfl) ?_
    by_cases c4 : p1 = (0 : Int32)
    · replace hm := ipos hm c4
      refine f_tabIn S c4 dX6_helper_11 (off := 29) (by decide) (by decide) (by decide) (tgt := 40) (by decide) ?_
      refine lv_aload_n hx hb dX6_helper_40 rfl (lv_at hl 0 rfl) ?_
      refine f_get S hK hP in_X6_helper_X6 0 rfl rfl 2 (by decide) (List.mem_of_getElem? (i := 1) rfl) rfl rfl dX6_helper_41 ?_
      refine lv_bipush (v := 37) hx hb dX6_helper_44 (by decide) ?_
      refine lv_iload_n hx hb dX6_helper_46 rfl (lv_at hl 1 rfl) ?_
      refine lv_iadd hx hb dX6_helper_47 ?_
      obtain ⟨g5, hm⟩ := gdo hm
      refine f_iald S hK hP 2 1 rfl rfl g5 dX6_helper_48 ?_
      exact e_RI S hr hlk (Option.some.inj hm) dX6_helper_49
    replace hm := ineg hm c4
    by_cases c6 : p1 = (1 : Int32)
    · replace hm := ipos hm c6
      refine f_tabIn S c6 dX6_helper_11 (off := 39) (by decide) (by decide) (by decide) (tgt := 50) (by decide) ?_
      refine lv_aload_n hx hb dX6_helper_50 rfl (lv_at hl 0 rfl) ?_
      refine f_get S hK hP in_X6_helper_X6 0 rfl rfl 2 (by decide) (List.mem_of_getElem? (i := 1) rfl) rfl rfl dX6_helper_51 ?_
      refine lv_bipush (v := 44) hx hb dX6_helper_54 (by decide) ?_
      refine lv_iload_n hx hb dX6_helper_56 rfl (lv_at hl 1 rfl) ?_
      refine lv_iadd hx hb dX6_helper_57 ?_
      obtain ⟨g7, hm⟩ := gdo hm
      refine f_iald S hK hP 2 1 rfl rfl g7 dX6_helper_58 ?_
      exact e_RI S hr hlk (Option.some.inj hm) dX6_helper_59
    replace hm := ineg hm c6
    by_cases c8 : p1 = (2 : Int32)
    · replace hm := ipos hm c8
      refine f_tabIn S c8 dX6_helper_11 (off := 49) (by decide) (by decide) (by decide) (tgt := 60) (by decide) ?_
      refine lv_aload_n hx hb dX6_helper_60 rfl (lv_at hl 0 rfl) ?_
      refine f_get S hK hP in_X6_helper_X6 0 rfl rfl 4 (by decide) (List.mem_of_getElem? (i := 2) rfl) rfl rfl dX6_helper_61 ?_
      refine lv_iconst (v := 2) hx hb dX6_helper_64 (by decide) ?_
      refine f_ialdK S hK hP 4 1 rfl rfl 2 (by decide) (by decide) (v := (md_s 2)) rfl dX6_helper_65 ?_
      refine lv_iload_n hx hb dX6_helper_66 rfl (lv_at hl 1 rfl) ?_
      refine lv_ishr hx hb dX6_helper_67 ?_
      refine lv_iconst (v := 1) hx hb dX6_helper_68 (by decide) ?_
      refine lv_iand hx hb dX6_helper_69 ?_
      exact e_RI S hr hlk (Option.some.inj hm) dX6_helper_70
    replace hm := ineg hm c8
    by_cases c10 : p1 = (3 : Int32)
    · replace hm := ipos hm c10
      refine f_tabIn S c10 dX6_helper_11 (off := 60) (by decide) (by decide) (by decide) (tgt := 71) (by decide) ?_
      refine lv_aload_n hx hb dX6_helper_71 rfl (lv_at hl 0 rfl) ?_
      refine f_get S hK hP in_X6_helper_X6 0 rfl rfl 4 (by decide) (List.mem_of_getElem? (i := 2) rfl) rfl rfl dX6_helper_72 ?_
      refine lv_iconst (v := 3) hx hb dX6_helper_75 (by decide) ?_
      refine f_ialdK S hK hP 4 1 rfl rfl 3 (by decide) (by decide) (v := (md_s 3)) rfl dX6_helper_76 ?_
      refine lv_iload_n hx hb dX6_helper_77 rfl (lv_at hl 1 rfl) ?_
      refine lv_ishr hx hb dX6_helper_78 ?_
      refine lv_iconst (v := 1) hx hb dX6_helper_79 (by decide) ?_
      refine lv_iand hx hb dX6_helper_80 ?_
      exact e_RI S hr hlk (Option.some.inj hm) dX6_helper_81
    replace hm := ineg hm c10
    have nc4 := toInt_ne c4 (n := 0) (by decide)
    have nc6 := toInt_ne c6 (n := 1) (by decide)
    have nc8 := toInt_ne c8 (n := 2) (by decide)
    have nc10 := toInt_ne c10 (n := 3) (by decide)
    refine f_tabOut S dX6_helper_11 (by omega) (tgt := 82) (by decide) ?_
    refine lv_iconst (v := (-1)) hx hb dX6_helper_82 (by decide) ?_
    exact e_RI S hr hlk (Option.some.inj hm) dX6_helper_83
  · replace hm := ipos hm c3
    refine lv_iconst (v := (-1)) hx hb dX6_helper_8 (by decide) ?_
    exact e_RI S hr hlk (Option.some.inj hm) dX6_helper_9
