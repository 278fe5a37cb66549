/-! walks: X6_count X6_isSeen X6_counts X6_daysOf X6_letterAt X6_isFigure X6_number X6_helperOf X6_taskOf -/
abbrev rX6_count : Room := { frames := 1, cells := 0, slots := 0, locals := 22 }
theorem cal_X6_count : Cal yX6_count wsX6_count cX6_count 2 (some .int) RX6 1 := ⟨⟨_, rfl⟩, rfl, by decide +kernel, by decide +kernel, by decide +kernel⟩
theorem in_X6_count_X6 : ∀ w ∈ wsX60, w ∈ wsX6_count := fun _ h => (List.mem_cons_of_mem _ (List.mem_append_right _ h))
set_option maxHeartbeats 4000000 in
set_option maxRecDepth 100000 in
theorem c_X6_count (l : Launch) (D : va_G) (cC cI cJ : ClassId) (a_md : Nat) (a_md_text : Nat) (a_md_told : Nat) (a_md_draft : Nat) (a_md_s : Nat) (a_md_past : Nat) (a_md_images : Nat) (a_md_seen : Nat) (a_md_asks : Nat) (a_md_brings : Nat) (a_md_uses : Nat) (a_md_days : Nat) (a_md_tries : Nat) (a_md_row : Nat) (a_md_first : Nat) (a_md_held : Nat) (md_typed : Int32) (md_known : Int32) (md_kept : Int32) (md_sights : Int32) (md_at : Int32) (md_many : Int32) (md_length : Int32) (md_set : Int32) (md_text : (Nat → Int32)) (md_told : (Nat → Int32)) (md_draft : (Nat → Int32)) (md_s : (Nat → Int32)) (md_past : (Nat → Int32)) (md_images : (Nat → Int32)) (md_seen : (Nat → Int32)) (md_asks : (Nat → Int32)) (md_brings : (Nat → Int32)) (md_uses : (Nat → Int32)) (md_days : (Nat → Int32)) (md_tries : (Nat → Int32)) (md_row : (Nat → Int32)) (md_first : (Nat → Int32)) (md_held : (Nat → Int32)) (p0 : Int32) (N : Nat) (out : Int32) (hm : m_X6_count N md_typed md_known md_kept md_sights md_told md_s p0 = some out) : RdI l yX6_count wsX6_count rX6_count D (tyK cC cI cJ) [.ref a_md, .int p0] (wd_28 cC cI cJ a_md a_md_text md_typed a_md_told a_md_draft a_md_s a_md_past md_known a_md_images md_kept a_md_seen md_sights md_at a_md_asks a_md_brings a_md_uses a_md_days a_md_tries a_md_row md_many a_md_first md_length md_set a_md_held a_md_text md_text a_md_told md_told a_md_draft md_draft a_md_s md_s a_md_past md_past a_md_images md_images a_md_seen md_seen a_md_asks md_asks a_md_brings md_brings a_md_uses md_uses a_md_days md_days a_md_tries md_tries a_md_row md_row a_md_first md_first a_md_held md_held) out := by
  unfold m_X6_count at hm
  refine enter (cc := cX6_count) (maxL := 2) (ret := (some .int)) (lv := [(0, .ref a_md), (1, .int p0)]) (by decide) rfl (Nat.le_of_ble_eq_true rfl) rfl ?_
  intro p e s m args below meth c S hr hlk hK hP ls hl
  replace S : CallFix p m c cX6_count 2 s args wsX6_count RX6 := S
  have hx := S.1
  have hb := S.2.1
  refine lv_iload_n hx hb dX6_count_0 rfl (lv_at hl 1 rfl) ?_
  by_cases c1 : p0 = (0 : Int32)
  · replace hm := ipos hm c1
    refine f_tabIn S c1 dX6_count_1 (off := 63) (by decide) (by decide) (by decide) (tgt := 64) (by decide) ?_
    refine lv_aload_n hx hb dX6_count_64 rfl (lv_at hl 0 rfl) ?_
    refine f_get S hK hP in_X6_count_X6 0 rfl rfl 2 (by decide) (List.mem_of_getElem? (i := 1) rfl) rfl rfl dX6_count_65 ?_
    refine lv_iconst (v := 0) hx hb dX6_count_68 (by decide) ?_
    refine f_ialdK S hK hP 2 1 rfl rfl 0 (by decide) (by decide) (v := (md_told 0)) rfl dX6_count_69 ?_
    exact e_RI S hr hlk (Option.some.inj hm) dX6_count_70
  replace hm := ineg hm c1
  by_cases c3 : p0 = (1 : Int32)
  · replace hm := ipos hm c3
    refine f_tabIn S c3 dX6_count_1 (off := 70) (by decide) (by decide) (by decide) (tgt := 71) (by decide) ?_
    refine lv_aload_n hx hb dX6_count_71 rfl (lv_at hl 0 rfl) ?_
    refine f_get S hK hP in_X6_count_X6 0 rfl rfl 2 (by decide) (List.mem_of_getElem? (i := 1) rfl) rfl rfl dX6_count_72 ?_
    refine lv_iconst (v := 1) hx hb dX6_count_75 (by decide) ?_
    refine f_ialdK S hK hP 2 1 rfl rfl 1 (by decide) (by decide) (v := (md_told 1)) rfl dX6_count_76 ?_
    exact e_RI S hr hlk (Option.some.inj hm) dX6_count_77
  replace hm := ineg hm c3
  by_cases c5 : p0 = (2 : Int32)
  · replace hm := ipos hm c5
    refine f_tabIn S c5 dX6_count_1 (off := 77) (by decide) (by decide) (by decide) (tgt := 78) (by decide) ?_
    refine lv_aload_n hx hb dX6_count_78 rfl (lv_at hl 0 rfl) ?_
    obtain ⟨r6, h7, hm⟩ := ob hm
    refine k_rVi S hK hP cal_X6_open gX6_count_X6_open (c_X6_open l D cC cI cJ a_md a_md_text a_md_told a_md_draft a_md_s a_md_past a_md_images a_md_seen a_md_asks a_md_brings a_md_uses a_md_days a_md_tries a_md_row a_md_first a_md_held md_typed md_known md_kept md_sights md_at md_many md_length md_set md_text md_told md_draft md_s md_past md_images md_seen md_asks md_brings md_uses md_days md_tries md_row md_first md_held r6 h7) ⟨⟨rfl, rfl⟩, Nat.le_of_ble_eq_true rfl, Nat.le_of_ble_eq_true rfl⟩ [0, 1, 2, 3, 4, 5, 6, 7, 8, 9, 10, 11, 12, 13, 14, 15] rfl 0 rfl rfl rfl hl.1 rfl (Nat.le_of_ble_eq_true rfl) dX6_count_79 ⟨Nat.zero_le _, Nat.zero_le _⟩ ?_
    obtain ⟨r8, h9, hm⟩ := ob hm
    refine k_rSi S hK hP cal_X6_ones gX6_count_X6_ones (c_X6_ones l D cC cI cJ r6 N r8 h9) ⟨⟨rfl, rfl⟩, Nat.le_of_ble_eq_true rfl, Nat.le_of_ble_eq_true rfl⟩ [] rfl rfl hl.1 rfl (Nat.le_of_ble_eq_true rfl) dX6_count_82 ⟨Nat.zero_le _, Nat.zero_le _⟩ ?_
    exact e_RI S hr hlk (Option.some.inj hm) dX6_count_85
  replace hm := ineg hm c5
  by_cases c10 : p0 = (3 : Int32)
  · replace hm := ipos hm c10
    refine f_tabIn S c10 dX6_count_1 (off := 85) (by decide) (by decide) (by decide) (tgt := 86) (by decide) ?_
    refine lv_aload_n hx hb dX6_count_86 rfl (lv_at hl 0 rfl) ?_
    refine f_get S hK hP in_X6_count_X6 0 rfl rfl 4 (by decide) (List.mem_of_getElem? (i := 2) rfl) rfl rfl dX6_count_87 ?_
    refine lv_iconst (v := 1) hx hb dX6_count_90 (by decide) ?_
    refine f_ialdK S hK hP 4 1 rfl rfl 1 (by decide) (by decide) (v := (md_s 1)) rfl dX6_count_91 ?_
    obtain ⟨r12, h13, hm⟩ := ob hm
    refine k_rSi S hK hP cal_X6_ones gX6_count_X6_ones (c_X6_ones l D cC cI cJ (md_s 1) N r12 h13) ⟨⟨rfl, rfl⟩, Nat.le_of_ble_eq_true rfl, Nat.le_of_ble_eq_true rfl⟩ [] rfl rfl hl.1 rfl (Nat.le_of_ble_eq_true rfl) dX6_count_92 ⟨Nat.zero_le _, Nat.zero_le _⟩ ?_
    exact e_RI S hr hlk (Option.some.inj hm) dX6_count_95
  replace hm := ineg hm c10
  by_cases c14 : p0 = (4 : Int32)
  · replace hm := ipos hm c14
    refine f_tabIn S c14 dX6_count_1 (off := 95) (by decide) (by decide) (by decide) (tgt := 96) (by decide) ?_
    refine lv_aload_n hx hb dX6_count_96 rfl (lv_at hl 0 rfl) ?_
    refine f_get S hK hP in_X6_count_X6 0 rfl rfl 4 (by decide) (List.mem_of_getElem? (i := 2) rfl) rfl rfl dX6_count_97 ?_
    refine lv_iconst (v := 2) hx hb dX6_count_100 (by decide) ?_
    refine f_ialdK S hK hP 4 1 rfl rfl 2 (by decide) (by decide) (v := (md_s 2)) rfl dX6_count_101 ?_
    refine lv_aload_n hx hb dX6_count_102 rfl (lv_at hl 0 rfl) ?_
    refine f_get S hK hP in_X6_count_X6 0 rfl rfl 4 (by decide) (List.mem_of_getElem? (i := 2) rfl) rfl rfl dX6_count_103 ?_
    refine lv_iconst (v := 3) hx hb dX6_count_106 (by decide) ?_
    refine f_ialdK S hK hP 4 1 rfl rfl 3 (by decide) (by decide) (v := (md_s 3)) rfl dX6_count_107 ?_
    refine lv_iconst (v := (-1)) hx hb dX6_count_108 (by decide) ?_
    refine lv_ixor hx hb dX6_count_109 ?_
    refine lv_iand hx hb dX6_count_110 ?_
    obtain ⟨r17, h18, hm⟩ := ob hm
    refine k_rSi S hK hP cal_X6_ones gX6_count_X6_ones (c_X6_ones l D cC cI cJ ((md_s 2) &&& ((md_s 3) ^^^ (-1 : Int32))) N r17 h18) ⟨⟨rfl, rfl⟩, Nat.le_of_ble_eq_true rfl, Nat.le_of_ble_eq_true rfl⟩ [] rfl rfl hl.1 rfl (Nat.le_of_ble_eq_true rfl) dX6_count_111 ⟨Nat.zero_le _, Nat.zero_le _⟩ ?_
    exact e_RI S hr hlk (Option.some.inj hm) dX6_count_114
  replace hm := ineg hm c14
  by_cases c19 : p0 = (5 : Int32)
  · replace hm := ipos hm c19
    refine f_tabIn S c19 dX6_count_1 (off := 114) (by decide) (by decide) (by decide) (tgt := 115) (by decide) ?_
    refine lv_aload_n hx hb dX6_count_115 rfl (lv_at hl 0 rfl) ?_
    refine f_get S hK hP in_X6_count_X6 0 rfl rfl 4 (by decide) (List.mem_of_getElem? (i := 2) rfl) rfl rfl dX6_count_116 ?_
    refine lv_iconst (v := 4) hx hb dX6_count_119 (by decide) ?_
    refine f_ialdK S hK hP 4 1 rfl rfl 4 (by decide) (by decide) (v := (md_s 4)) rfl dX6_count_120 ?_
    exact e_RI S hr hlk (Option.some.inj hm) dX6_count_121
  replace hm := ineg hm c19
  by_cases c21 : p0 = (6 : Int32)
  · replace hm := ipos hm c21
    refine f_tabIn S c21 dX6_count_1 (off := 121) (by decide) (by decide) (by decide) (tgt := 122) (by decide) ?_
    refine lv_aload_n hx hb dX6_count_122 rfl (lv_at hl 0 rfl) ?_
    refine f_get S hK hP in_X6_count_X6 0 rfl rfl 4 (by decide) (List.mem_of_getElem? (i := 2) rfl) rfl rfl dX6_count_123 ?_
    refine lv_iconst (v := 5) hx hb dX6_count_126 (by decide) ?_
    refine f_ialdK S hK hP 4 1 rfl rfl 5 (by decide) (by decide) (v := (md_s 5)) rfl dX6_count_127 ?_
    exact e_RI S hr hlk (Option.some.inj hm) dX6_count_128
  replace hm := ineg hm c21
  by_cases c23 : p0 = (7 : Int32)
  · replace hm := ipos hm c23
    refine f_tabIn S c23 dX6_count_1 (off := 128) (by decide) (by decide) (by decide) (tgt := 129) (by decide) ?_
    refine lv_aload_n hx hb dX6_count_129 rfl (lv_at hl 0 rfl) ?_
    obtain ⟨r24, h25, hm⟩ := ob hm
    refine k_rVi S hK hP cal_X6_isLost gX6_count_X6_isLost (c_X6_isLost l D cC cI cJ a_md a_md_text a_md_told a_md_draft a_md_s a_md_past a_md_images a_md_seen a_md_asks a_md_brings a_md_uses a_md_days a_md_tries a_md_row a_md_first a_md_held md_typed md_known md_kept md_sights md_at md_many md_length md_set md_text md_told md_draft md_s md_past md_images md_seen md_asks md_brings md_uses md_days md_tries md_row md_first md_held r24 h25) ⟨⟨rfl, rfl⟩, Nat.le_of_ble_eq_true rfl, Nat.le_of_ble_eq_true rfl⟩ [0, 1, 2, 3, 4, 5, 6, 7, 8, 9, 10, 11, 12, 13, 14, 15] rfl 0 rfl rfl rfl hl.1 rfl (Nat.le_of_ble_eq_true rfl) dX6_count_130 ⟨Nat.zero_le _, Nat.zero_le _⟩ ?_
    refine lv_if_eq (tgt := 140) hx hb dX6_count_133 (by decide) (fun c26 => ?_) (fun c26 => ?_)
    · replace hm := ipos hm c26
      refine lv_iconst (v := 0) hx hb dX6_count_140 (by decide) ?_
      exact e_RI S hr hlk (Option.some.inj hm) dX6_count_141
    · replace hm := ineg hm c26
      refine lv_iconst (v := 1) hx hb dX6_count_136 (by decide) ?_
      refine lv_goto (tgt := 141) hx hb dX6_count_137 (by decide) ?_
      exact e_RI S hr hlk (Option.some.inj hm) dX6_count_141
  replace hm := ineg hm c23
  by_cases c27 : p0 = (8 : Int32)
  · replace hm := ipos hm c27
    refine f_tabIn S c27 dX6_count_1 (off := 141) (by decide) (by decide) (by decide) (tgt := 142) (by decide) ?_
    refine lv_aload_n hx hb dX6_count_142 rfl (lv_at hl 0 rfl) ?_
    refine f_get S hK hP in_X6_count_X6 0 rfl rfl 10 (by decide) (List.mem_of_getElem? (i := 3) rfl) rfl rfl dX6_count_143 ?_
    exact e_RI S hr hlk (Option.some.inj hm) dX6_count_146
  replace hm := ineg hm c27
  by_cases c28 : p0 = (9 : Int32)
  · replace hm := ipos hm c28
    refine f_tabIn S c28 dX6_count_1 (off := 146) (by decide) (by decide) (by decide) (tgt := 147) (by decide) ?_
    refine lv_aload_n hx hb dX6_count_147 rfl (lv_at hl 0 rfl) ?_
    refine f_get S hK hP in_X6_count_X6 0 rfl rfl 6 (by decide) (List.mem_of_getElem? (i := 4) rfl) rfl rfl dX6_count_148 ?_
    exact e_RI S hr hlk (Option.some.inj hm) dX6_count_151
  replace hm := ineg hm c28
  by_cases c29 : p0 = (10 : Int32)
  · replace hm := ipos hm c29
    refine f_tabIn S c29 dX6_count_1 (off := 151) (by decide) (by decide) (by decide) (tgt := 152) (by decide) ?_
    refine lv_aload_n hx hb dX6_count_152 rfl (lv_at hl 0 rfl) ?_
    refine f_get S hK hP in_X6_count_X6 0 rfl rfl 8 (by decide) (List.mem_of_getElem? (i := 5) rfl) rfl rfl dX6_count_153 ?_
    exact e_RI S hr hlk (Option.some.inj hm) dX6_count_156
  replace hm := ineg hm c29
  by_cases c30 : p0 = (11 : Int32)
  · replace hm := ipos hm c30
    refine f_tabIn S c30 dX6_count_1 (off := 156) (by decide) (by decide) (by decide) (tgt := 157) (by decide) ?_
    refine lv_aload_n hx hb dX6_count_157 rfl (lv_at hl 0 rfl) ?_
    refine f_get S hK hP in_X6_count_X6 0 rfl rfl 1 (by decide) (List.mem_of_getElem? (i := 6) rfl) rfl rfl dX6_count_158 ?_
    exact e_RI S hr hlk (Option.some.inj hm) dX6_count_161
  replace hm := ineg hm c30
  have nc1 := toInt_ne c1 (n := 0) (by decide)
  have nc3 := toInt_ne c3 (n := 1) (by decide)
  have nc5 := toInt_ne c5 (n := 2) (by decide)
  have nc10 := toInt_ne c10 (n := 3) (by decide)
  have nc14 := toInt_ne c14 (n := 4) (by decide)
  have nc19 := toInt_ne c19 (n := 5) (by decide)
  have nc21 := toInt_ne c21 (n := 6) (by decide)
  have nc23 := toInt_ne c23 (n := 7) (by decide)
  have nc27 := toInt_ne c27 (n := 8) (by decide)
  have nc28 := toInt_ne c28 (n := 9) (by decide)
  have nc29 := toInt_ne c29 (n := 10) (by decide)
  have nc30 := toInt_ne c30 (n := 11) (by decide)
  refine f_tabOut S dX6_count_1 (by omega) (tgt := 162) (by decide) ?_
  refine lv_iconst (v := (-1)) hx hb dX6_count_162 (by decide) ?_
  exact e_RI S hr hlk (Option.some.inj hm) dX6_count_163

abbrev rX6_isSeen : Room := { frames := 0, cells := 0, slots := 0, locals := 0 }
theorem cal_X6_isSeen : Cal yX6_isSeen wsX6_isSeen cX6_isSeen 5 (some .boolean) RX6 1 := ⟨⟨_, rfl⟩, rfl, by decide +kernel, by decide +kernel, by decide +kernel⟩
theorem in_X6_isSeen_X6 : ∀ w ∈ wsX60, w ∈ wsX6_isSeen := fun _ h => (List.mem_cons_of_mem _ (List.mem_append_right _ h))
set_option maxHeartbeats 4000000 in
set_option maxRecDepth 100000 in
theorem t_X6_isSeen_4 {p : Program} {e : Env} {s : State} {m : MethodId} {args : Array Value} {below : List Frame} {meth : Method} {c : Code} {Q : State → Prop} {H : Heap} {locs : List Loc} (l : Launch) {D : va_G} {cC cI cJ : ClassId} (S : CallFix p m c cX6_isSeen 5 s args wsX6_isSeen RX6) (hK : KK D (tyK cC cI cJ) s) (a_md : Nat) (a_md_text : Nat) (a_md_told : Nat) (a_md_draft : Nat) (a_md_s : Nat) (a_md_past : Nat) (a_md_images : Nat) (a_md_seen : Nat) (a_md_asks : Nat) (a_md_brings : Nat) (a_md_uses : Nat) (a_md_days : Nat) (a_md_tries : Nat) (a_md_row : Nat) (a_md_first : Nat) (a_md_held : Nat) (v1 : Int32) (md_typed : Int32) (md_known : Int32) (md_kept : Int32) (md_sights : Int32) (md_at : Int32) (md_many : Int32) (md_length : Int32) (md_set : Int32) (md_text : (Nat → Int32)) (md_told : (Nat → Int32)) (md_draft : (Nat → Int32)) (md_s : (Nat → Int32)) (md_past : (Nat → Int32)) (md_images : (Nat → Int32)) (md_seen : (Nat → Int32)) (md_asks : (Nat → Int32)) (md_brings : (Nat → Int32)) (md_uses : (Nat → Int32)) (md_days : (Nat → Int32)) (md_tries : (Nat → Int32)) (md_row : (Nat → Int32)) (md_first : (Nat → Int32)) (md_held : (Nat → Int32)) (hP : va_P D vwCl (wd_28 cC cI cJ a_md a_md_text md_typed a_md_told a_md_draft a_md_s a_md_past md_known a_md_images md_kept a_md_seen md_sights md_at a_md_asks a_md_brings a_md_uses a_md_days a_md_tries a_md_row md_many a_md_first md_length md_set a_md_held a_md_text md_text a_md_told md_told a_md_draft md_draft a_md_s md_s a_md_past md_past a_md_images md_images a_md_seen md_seen a_md_asks md_asks a_md_brings md_brings a_md_uses md_uses a_md_days md_days a_md_tries md_tries a_md_row md_row a_md_first md_first a_md_held md_held) H) : ∀ (n : Nat) (v2 : Int32) (v3 : Int32) (out : Int32), lp_X6_isSeen_4 v1 md_sights md_seen md_row n v2 v3 = some out → ∀ (ls : Array Slot), lv_has ls 5 [(0, .ref a_md), (1, .int v1), (2, .int v2), (3, .int v3)] → (∀ (ls : Array Slot), lv_has ls 5 [(2, .int out)] → W p l e rX6_isSeen s m args below meth c H locs 0 0 Q (F0 m 76 ls [])) → W p l e rX6_isSeen s m args below meth c H locs 0 0 Q (F0 m 4 ls []) := by
  have hx := S.1
  have hb := S.2.1
  intro n
  induction n with
  | zero => intro v2 v3 out hm; cases (show (none : Option Int32) = some out from hm)
  | succ n ih =>
    intro v2 v3 out hm  ls hl K0
    rw [lp_X6_isSeen_4] at hm
    refine lv_iload_n hx hb dX6_isSeen_4 rfl (lv_at hl 3 rfl) ?_
    refine lv_aload_n hx hb dX6_isSeen_5 rfl (lv_at hl 0 rfl) ?_
    refine f_get S hK hP in_X6_isSeen_X6 0 rfl rfl 10 (by decide) (List.mem_of_getElem? (i := 1) rfl) rfl rfl dX6_isSeen_6 ?_
    refine lv_icmp_ge (tgt := 76) hx hb dX6_isSeen_9 (by decide) (fun c1 => ?_) (fun c1 => ?_)
    · replace hm := ipos hm c1
      obtain rfl := Option.some.inj hm
      exact K0  ls (lv_sub hl [2] rfl)
    · replace hm := ineg hm c1
      refine lv_aload_n hx hb dX6_isSeen_12 rfl (lv_at hl 0 rfl) ?_
      refine f_get S hK hP in_X6_isSeen_X6 0 rfl rfl 9 (by decide) (List.mem_of_getElem? (i := 2) rfl) rfl rfl dX6_isSeen_13 ?_
      refine lv_iload_n hx hb dX6_isSeen_16 rfl (lv_at hl 3 rfl) ?_
      obtain ⟨g2, hm⟩ := gdo hm
      refine f_iald S hK hP 7 1 rfl rfl g2 dX6_isSeen_17 ?_
      refine lv_bipush (v := 10) hx hb dX6_isSeen_18 (by decide) ?_
      refine lv_irem hx hb dX6_isSeen_20 (by decide) ?_
      refine lv_iconst (v := 1) hx hb dX6_isSeen_21 (by decide) ?_
      refine lv_isub hx hb dX6_isSeen_22 ?_
      obtain ⟨y4, e5, hm⟩ := ob hm
      refine f_name e5 ?_
      refine lv_istore (lv' := [(4, .int y4), (0, .ref a_md), (1, .int v1), (2, .int v2), (3, .int v3)]) hx hb dX6_isSeen_23 hl (by decide) rfl (fun ls hl => ?_)
      refine lv_iload_n hx hb dX6_isSeen_25 rfl (lv_at hl 3 rfl) ?_
      refine lv_if_eq (tgt := 68) hx hb dX6_isSeen_26 (by decide) (fun c6 => ?_) (fun c6 => ?_)
      · replace hm := ipos hm c6
        refine lv_iconst (v := 0) hx hb dX6_isSeen_68 (by decide) ?_
        refine lv_istore_n (lv' := [(2, .int (0 : Int32)), (4, .int y4), (0, .ref a_md), (1, .int v1), (3, .int v3)]) hx hb dX6_isSeen_69 rfl hl (by decide) rfl (fun ls hl => ?_)
        refine lv_iinc (v := (v3 + 1)) (lv' := [(3, .int (v3 + 1)), (2, .int (0 : Int32)), (4, .int y4), (0, .ref a_md), (1, .int v1)]) hx hb dX6_isSeen_70 hl (k := 4) rfl (by rw [ofi_1]) (by decide) rfl (fun ls hl => ?_)
        refine lv_goto (tgt := 4) hx hb dX6_isSeen_73 (by decide) ?_
        exact ih (0 : Int32) (v3 + 1) _ hm  ls (lv_sub hl [3, 4, 1, 0] rfl) K0
      · replace hm := ineg hm c6
        refine lv_iload hx hb dX6_isSeen_29 (lv_at hl 0 rfl) ?_
        refine lv_iload_n hx hb dX6_isSeen_31 rfl (lv_at hl 2 rfl) ?_
        refine lv_icmp_ge (tgt := 68) hx hb dX6_isSeen_32 (by decide) (fun c7 => ?_) (fun c7 => ?_)
        · replace hm := ipos hm c7
          refine lv_iconst (v := 0) hx hb dX6_isSeen_68 (by decide) ?_
          refine lv_istore_n (lv' := [(2, .int (0 : Int32)), (4, .int y4), (0, .ref a_md), (1, .int v1), (3, .int v3)]) hx hb dX6_isSeen_69 rfl hl (by decide) rfl (fun ls hl => ?_)
          refine lv_iinc (v := (v3 + 1)) (lv' := [(3, .int (v3 + 1)), (2, .int (0 : Int32)), (4, .int y4), (0, .ref a_md), (1, .int v1)]) hx hb dX6_isSeen_70 hl (k := 4) rfl (by rw [ofi_1]) (by decide) rfl (fun ls hl => ?_)
          refine lv_goto (tgt := 4) hx hb dX6_isSeen_73 (by decide) ?_
          exact ih (0 : Int32) (v3 + 1) _ hm  ls (lv_sub hl [3, 4, 1, 0] rfl) K0
        · replace hm := ineg hm c7
          refine lv_aload_n hx hb dX6_isSeen_35 rfl (lv_at hl 1 rfl) ?_
          refine f_get S hK hP in_X6_isSeen_X6 0 rfl rfl 17 (by decide) (List.mem_of_getElem? (i := 3) rfl) rfl rfl dX6_isSeen_36 ?_
          refine lv_iload hx hb dX6_isSeen_39 (lv_at hl 0 rfl) ?_
          refine lv_iload_n hx hb dX6_isSeen_41 rfl (lv_at hl 2 rfl) ?_
          refine lv_icmp_ge (tgt := 50) hx hb dX6_isSeen_42 (by decide) (fun c8 => ?_) (fun c8 => ?_)
          · exact absurd c8 c7
          · skip
            refine lv_iload hx hb dX6_isSeen_45 (lv_at hl 0 rfl) ?_
            refine lv_goto (tgt := 51) hx hb dX6_isSeen_47 (by decide) ?_
            obtain ⟨g9, hm⟩ := gdo hm
            refine f_iald S hK hP 13 1 rfl rfl g9 dX6_isSeen_51 ?_
            refine lv_aload_n hx hb dX6_isSeen_52 rfl (lv_at hl 1 rfl) ?_
            refine f_get S hK hP in_X6_isSeen_X6 0 rfl rfl 9 (by decide) (List.mem_of_getElem? (i := 2) rfl) rfl rfl dX6_isSeen_53 ?_
            refine lv_iload_n hx hb dX6_isSeen_56 rfl (lv_at hl 4 rfl) ?_
            refine f_iald S hK hP 7 1 rfl rfl g2 dX6_isSeen_57 ?_
            refine lv_bipush (v := 10) hx hb dX6_isSeen_58 (by decide) ?_
            refine lv_idiv hx hb dX6_isSeen_60 (by decide) ?_
            refine lv_icmp_ne (tgt := 68) hx hb dX6_isSeen_61 (by decide) (fun c12 => ?_) (fun c12 => ?_)
            · replace hm := ineg hm c12
              refine lv_iconst (v := 0) hx hb dX6_isSeen_68 (by decide) ?_
              refine lv_istore_n (lv' := [(2, .int (0 : Int32)), (4, .int y4), (0, .ref a_md), (1, .int v1), (3, .int v3)]) hx hb dX6_isSeen_69 rfl hl (by decide) rfl (fun ls hl => ?_)
              refine lv_iinc (v := (v3 + 1)) (lv' := [(3, .int (v3 + 1)), (2, .int (0 : Int32)), (4, .int y4), (0, .ref a_md), (1, .int v1)]) hx hb dX6_isSeen_70 hl (k := 4) rfl (by rw [ofi_1]) (by decide) rfl (fun ls hl => ?_)
              refine lv_goto (tgt := 4) hx hb dX6_isSeen_73 (by decide) ?_
              exact ih (0 : Int32) (v3 + 1) _ hm  ls (lv_sub hl [3, 4, 1, 0] rfl) K0
            · replace hm := ipos hm c12
              refine lv_iconst (v := 1) hx hb dX6_isSeen_64 (by decide) ?_
              refine lv_goto (tgt := 69) hx hb dX6_isSeen_65 (by decide) ?_
              refine lv_istore_n (lv' := [(2, .int (1 : Int32)), (4, .int y4), (0, .ref a_md), (1, .int v1), (3, .int v3)]) hx hb dX6_isSeen_69 rfl hl (by decide) rfl (fun ls hl => ?_)
              refine lv_iinc (v := (v3 + 1)) (lv' := [(3, .int (v3 + 1)), (2, .int (1 : Int32)), (4, .int y4), (0, .ref a_md), (1, .int v1)]) hx hb dX6_isSeen_70 hl (k := 4) rfl (by rw [ofi_1]) (by decide) rfl (fun ls hl => ?_)
              refine lv_goto (tgt := 4) hx hb dX6_isSeen_73 (by decide) ?_
              exact ih (1 : Int32) (v3 + 1) _ hm  ls (lv_sub hl [3, 4, 1, 0] rfl) K0
set_option maxHeartbeats 4000000 in
set_option maxRecDepth 100000 in
theorem c_X6_isSeen (l : Launch) (D : va_G) (cC cI cJ : ClassId) (a_md : Nat) (a_md_text : Nat) (a_md_told : Nat) (a_md_draft : Nat) (a_md_s : Nat) (a_md_past : Nat) (a_md_images : Nat) (a_md_seen : Nat) (a_md_asks : Nat) (a_md_brings : Nat) (a_md_uses : Nat) (a_md_days : Nat) (a_md_tries : Nat) (a_md_row : Nat) (a_md_first : Nat) (a_md_held : Nat) (md_typed : Int32) (md_known : Int32) (md_kept : Int32) (md_sights : Int32) (md_at : Int32) (md_many : Int32) (md_length : Int32) (md_set : Int32) (md_text : (Nat → Int32)) (md_told : (Nat → Int32)) (md_draft : (Nat → Int32)) (md_s : (Nat → Int32)) (md_past : (Nat → Int32)) (md_images : (Nat → Int32)) (md_seen : (Nat → Int32)) (md_asks : (Nat → Int32)) (md_brings : (Nat → Int32)) (md_uses : (Nat → Int32)) (md_days : (Nat → Int32)) (md_tries : (Nat → Int32)) (md_row : (Nat → Int32)) (md_first : (Nat → Int32)) (md_held : (Nat → Int32)) (p0 : Int32) (N : Nat) (out : Int32) (hm : m_X6_isSeen N md_sights md_seen md_row p0 = some out) : RdI l yX6_isSeen wsX6_isSeen rX6_isSeen D (tyK cC cI cJ) [.ref a_md, .int p0] (wd_28 cC cI cJ a_md a_md_text md_typed a_md_told a_md_draft a_md_s a_md_past md_known a_md_images md_kept a_md_seen md_sights md_at a_md_asks a_md_brings a_md_uses a_md_days a_md_tries a_md_row md_many a_md_first md_length md_set a_md_held a_md_text md_text a_md_told md_told a_md_draft md_draft a_md_s md_s a_md_past md_past a_md_images md_images a_md_seen md_seen a_md_asks md_asks a_md_brings md_brings a_md_uses md_uses a_md_days md_days a_md_tries md_tries a_md_row md_row a_md_first md_first a_md_held md_held) out := by
  unfold m_X6_isSeen at hm
  refine enter (cc := cX6_isSeen) (maxL := 5) (ret := (some .boolean)) (lv := [(0, .ref a_md), (1, .int p0)]) (by decide) rfl (Nat.le_of_ble_eq_true rfl) rfl ?_
  intro p e s m args below meth c S hr hlk hK hP ls hl
  replace S : CallFix p m c cX6_isSeen 5 s args wsX6_isSeen RX6 := S
  have hx := S.1
  have hb := S.2.1
  refine lv_iconst (v := 1) hx hb dX6_isSeen_0 (by decide) ?_
  refine lv_istore_n (lv' := [(2, .int (1 : Int32)), (0, .ref a_md), (1, .int p0)]) hx hb dX6_isSeen_1 rfl hl (by decide) rfl (fun ls hl => ?_)
  refine lv_iconst (v := 0) hx hb dX6_isSeen_2 (by decide) ?_
  refine lv_istore_n (lv' := [(3, .int (0 : Int32)), (2, .int (1 : Int32)), (0, .ref a_md), (1, .int p0)]) hx hb dX6_isSeen_3 rfl hl (by decide) rfl (fun ls hl => ?_)
  obtain ⟨r13, h14, hm⟩ := ob hm
  refine t_X6_isSeen_4 l S hK a_md a_md_text a_md_told a_md_draft a_md_s a_md_past a_md_images a_md_seen a_md_asks a_md_brings a_md_uses a_md_days a_md_tries a_md_row a_md_first a_md_held p0 md_typed md_known md_kept md_sights md_at md_many md_length md_set md_text md_told md_draft md_s md_past md_images md_seen md_asks md_brings md_uses md_days md_tries md_row md_first md_held hP N (1 : Int32) (0 : Int32) r13 h14  ls (lv_sub hl [2, 3, 1, 0] rfl) (fun ls hl => ?_)
  refine lv_iload_n hx hb dX6_isSeen_76 rfl (lv_at hl 0 rfl) ?_
  obtain ⟨hz, hm⟩ := gdo hm
  exact e_RZ S hr hlk hz (Option.some.inj hm) dX6_isSeen_77

abbrev rX6_counts : Room := { frames := 1, cells := 0, slots := 0, locals := 24 }
theorem cal_X6_counts : Cal yX6_counts wsX6_counts cX6_counts 4 none RX6 2 := ⟨⟨_, rfl⟩, rfl, by decide +kernel, by decide +kernel, by decide +kernel⟩
theorem in_X6_counts_X6 : ∀ w ∈ wsX60, w ∈ wsX6_counts := fun _ h => (List.mem_cons_of_mem _ (List.mem_append_right _ h))
set_option maxHeartbeats 4000000 in
set_option maxRecDepth 100000 in
theorem t_X6_counts_27 {p : Program} {e : Env} {s : State} {m : MethodId} {args : Array Value} {below : List Frame} {meth : Method} {c : Code} {Q : State → Prop} (l : Launch) {D : va_G} {cC cI cJ : ClassId} {A : Nat → Prop} {H0 : Heap} (S : CallFix p m c cX6_counts 4 s args wsX6_counts RX6) (hK : KK D (tyK cC cI cJ) s) (a_md : Nat) (a_md_text : Nat) (a_md_told : Nat) (a_md_draft : Nat) (a_md_s : Nat) (a_md_past : Nat) (a_md_images : Nat) (a_md_seen : Nat) (a_md_asks : Nat) (a_md_brings : Nat) (a_md_uses : Nat) (a_md_days : Nat) (a_md_tries : Nat) (a_md_row : Nat) (a_md_first : Nat) (a_md_held : Nat) (v1 : Int32) (md_typed : Int32) (md_known : Int32) (md_kept : Int32) (md_sights : Int32) (md_at : Int32) (md_many : Int32) (md_length : Int32) (md_set : Int32) (md_text : (Nat → Int32)) (md_told : (Nat → Int32)) (md_draft : (Nat → Int32)) (md_s : (Nat → Int32)) (md_past : (Nat → Int32)) (md_images : (Nat → Int32)) (md_seen : (Nat → Int32)) (md_asks : (Nat → Int32)) (md_brings : (Nat → Int32)) (md_uses : (Nat → Int32)) (md_days : (Nat → Int32)) (md_tries : (Nat → Int32)) (md_row : (Nat → Int32)) (md_held : (Nat → Int32)) : ∀ (n : Nat) (v3 : Int32) (md_first : (Nat → Int32)) (out : (Nat → Int32)), lp_X6_counts_27 v1 md_row n v3 md_first = some out → ∀ (H : Heap) (locs : List Loc) (ls : Array Slot), Wd D A H0 (wd_28 cC cI cJ a_md a_md_text md_typed a_md_told a_md_draft a_md_s a_md_past md_known a_md_images md_kept a_md_seen md_sights md_at a_md_asks a_md_brings a_md_uses a_md_days a_md_tries a_md_row md_many a_md_first md_length md_set a_md_held a_md_text md_text a_md_told md_told a_md_draft md_draft a_md_s md_s a_md_past md_past a_md_images md_images a_md_seen md_seen a_md_asks md_asks a_md_brings md_brings a_md_uses md_uses a_md_days md_days a_md_tries md_tries a_md_row md_row a_md_first md_first a_md_held md_held) H locs → lv_has ls 4 [(0, .ref a_md), (1, .int v1), (3, .int v3)] → (∀ (H : Heap) (locs : List Loc) (ls : Array Slot), Wd D A H0 (wd_28 cC cI cJ a_md a_md_text md_typed a_md_told a_md_draft a_md_s a_md_past md_known a_md_images md_kept a_md_seen md_sights md_at a_md_asks a_md_brings a_md_uses a_md_days a_md_tries a_md_row md_many a_md_first md_length md_set a_md_held a_md_text md_text a_md_told md_told a_md_draft md_draft a_md_s md_s a_md_past md_past a_md_images md_images a_md_seen md_seen a_md_asks md_asks a_md_brings md_brings a_md_uses md_uses a_md_days md_days a_md_tries md_tries a_md_row md_row a_md_first out a_md_held md_held) H locs → lv_has ls 4 [(0, .ref a_md)] → W p l e rX6_counts s m args below meth c H locs 0 0 Q (F0 m 50 ls [])) → W p l e rX6_counts s m args below meth c H locs 0 0 Q (F0 m 27 ls []) := by
  have hx := S.1
  have hb := S.2.1
  intro n
  induction n with
  | zero => intro v3 md_first out hm; cases (show (none : Option (Nat → Int32)) = some out from hm)
  | succ n ih =>
    intro v3 md_first out hm  H locs ls hw hl K0
    rw [lp_X6_counts_27] at hm
    refine lv_iload_n hx hb dX6_counts_27 rfl (lv_at hl 2 rfl) ?_
    refine lv_iload_n hx hb dX6_counts_28 rfl (lv_at hl 1 rfl) ?_
    refine lv_icmp_ge (tgt := 50) hx hb dX6_counts_29 (by decide) (fun c3 => ?_) (fun c3 => ?_)
    · replace hm := ipos hm c3
      obtain rfl := Option.some.inj hm
      exact K0  _ _ ls hw (lv_sub hl [0] rfl)
    · replace hm := ineg hm c3
      refine lv_aload_n hx hb dX6_counts_32 rfl (lv_at hl 0 rfl) ?_
      refine f_get S hK hw.1 in_X6_counts_X6 0 rfl rfl 19 (by decide) (List.mem_of_getElem? (i := 3) rfl) rfl rfl dX6_counts_33 ?_
      refine lv_iload_n hx hb dX6_counts_36 rfl (lv_at hl 2 rfl) ?_
      refine lv_aload_n hx hb dX6_counts_37 rfl (lv_at hl 0 rfl) ?_
      refine f_get S hK hw.1 in_X6_counts_X6 0 rfl rfl 17 (by decide) (List.mem_of_getElem? (i := 4) rfl) rfl rfl dX6_counts_38 ?_
      refine lv_iload_n hx hb dX6_counts_41 rfl (lv_at hl 2 rfl) ?_
      obtain ⟨g4, hm⟩ := gdo hm
      refine f_iald S hK hw.1 13 1 rfl rfl g4 dX6_counts_42 ?_
      refine f_iast S hK hw 14 1 rfl rfl g4 (ws1 := (wd_28 cC cI cJ a_md a_md_text md_typed a_md_told a_md_draft a_md_s a_md_past md_known a_md_images md_kept a_md_seen md_sights md_at a_md_asks a_md_brings a_md_uses a_md_days a_md_tries a_md_row md_many a_md_first md_length md_set a_md_held a_md_text md_text a_md_told md_told a_md_draft md_draft a_md_s md_s a_md_past md_past a_md_images md_images a_md_seen md_seen a_md_asks md_asks a_md_brings md_brings a_md_uses md_uses a_md_days md_days a_md_tries md_tries a_md_row md_row a_md_first (upd md_first (v3).toNatClampNeg (md_row (v3).toNatClampNeg)) a_md_held md_held)) rfl dX6_counts_43 (fun H locs hw => ?_)
      refine lv_iinc (v := (v3 + 1)) (lv' := [(3, .int (v3 + 1)), (0, .ref a_md), (1, .int v1)]) hx hb dX6_counts_44 hl (k := 2) rfl (by rw [ofi_1]) (by decide) rfl (fun ls hl => ?_)
      refine lv_goto (tgt := 27) hx hb dX6_counts_47 (by decide) ?_
      exact ih (v3 + 1) (upd md_first (v3).toNatClampNeg (md_row (v3).toNatClampNeg)) _ hm  _ _ ls hw (lv_sub hl [1, 2, 0] rfl) K0
set_option maxHeartbeats 4000000 in
set_option maxRecDepth 100000 in
theorem c_X6_counts (l : Launch) (D : va_G) (cC cI cJ : ClassId) (a_md : Nat) (a_md_text : Nat) (a_md_told : Nat) (a_md_draft : Nat) (a_md_s : Nat) (a_md_past : Nat) (a_md_images : Nat) (a_md_seen : Nat) (a_md_asks : Nat) (a_md_brings : Nat) (a_md_uses : Nat) (a_md_days : Nat) (a_md_tries : Nat) (a_md_row : Nat) (a_md_first : Nat) (a_md_held : Nat) (md_typed : Int32) (md_known : Int32) (md_kept : Int32) (md_sights : Int32) (md_at : Int32) (md_many : Int32) (md_length : Int32) (md_set : Int32) (md_text : (Nat → Int32)) (md_told : (Nat → Int32)) (md_draft : (Nat → Int32)) (md_s : (Nat → Int32)) (md_past : (Nat → Int32)) (md_images : (Nat → Int32)) (md_seen : (Nat → Int32)) (md_asks : (Nat → Int32)) (md_brings : (Nat → Int32)) (md_uses : (Nat → Int32)) (md_days : (Nat → Int32)) (md_tries : (Nat → Int32)) (md_row : (Nat → Int32)) (md_first : (Nat → Int32)) (md_held : (Nat → Int32)) (p0 : Int32) (p1 : Int32) (N : Nat) (A : Nat → Prop) (hD : va_D A (wd_28 cC cI cJ a_md a_md_text md_typed a_md_told a_md_draft a_md_s a_md_past md_known a_md_images md_kept a_md_seen md_sights md_at a_md_asks a_md_brings a_md_uses a_md_days a_md_tries a_md_row md_many a_md_first md_length md_set a_md_held a_md_text md_text a_md_told md_told a_md_draft md_draft a_md_s md_s a_md_past md_past a_md_images md_images a_md_seen md_seen a_md_asks md_asks a_md_brings md_brings a_md_uses md_uses a_md_days md_days a_md_tries md_tries a_md_row md_row a_md_first md_first a_md_held md_held)) (out : (Int32 × Int32 × (Nat → Int32))) (hm : m_X6_counts N md_sights md_many md_length md_seen md_row md_first p0 p1 = some out) : WrV l yX6_counts wsX6_counts rX6_counts D (tyK cC cI cJ) [.ref a_md, .int p0, .int p1] A (wd_28 cC cI cJ a_md a_md_text md_typed a_md_told a_md_draft a_md_s a_md_past md_known a_md_images md_kept a_md_seen md_sights md_at a_md_asks a_md_brings a_md_uses a_md_days a_md_tries a_md_row md_many a_md_first md_length md_set a_md_held a_md_text md_text a_md_told md_told a_md_draft md_draft a_md_s md_s a_md_past md_past a_md_images md_images a_md_seen md_seen a_md_asks md_asks a_md_brings md_brings a_md_uses md_uses a_md_days md_days a_md_tries md_tries a_md_row md_row a_md_first md_first a_md_held md_held) (Bw0 D (wd_28 cC cI cJ a_md a_md_text md_typed a_md_told a_md_draft a_md_s a_md_past md_known a_md_images md_kept a_md_seen md_sights md_at a_md_asks a_md_brings a_md_uses a_md_days a_md_tries a_md_row out.1 a_md_first out.2.1 md_set a_md_held a_md_text md_text a_md_told md_told a_md_draft md_draft a_md_s md_s a_md_past md_past a_md_images md_images a_md_seen md_seen a_md_asks md_asks a_md_brings md_brings a_md_uses md_uses a_md_days md_days a_md_tries md_tries a_md_row md_row a_md_first out.2.2 a_md_held md_held)) := by
  unfold m_X6_counts at hm
  refine enter (cc := cX6_counts) (maxL := 4) (ret := none) (lv := [(0, .ref a_md), (1, .int p0), (2, .int p1)]) (by decide) rfl (Nat.le_of_ble_eq_true rfl) rfl ?_
  intro p e s m args below meth c S hr hlk hK hP ls hl
  replace S : CallFix p m c cX6_counts 4 s args wsX6_counts RX6 := S
  have hx := S.1
  have hb := S.2.1
  have hw : Wd D A s.heap (wd_28 cC cI cJ a_md a_md_text md_typed a_md_told a_md_draft a_md_s a_md_past md_known a_md_images md_kept a_md_seen md_sights md_at a_md_asks a_md_brings a_md_uses a_md_days a_md_tries a_md_row md_many a_md_first md_length md_set a_md_held a_md_text md_text a_md_told md_told a_md_draft md_draft a_md_s md_s a_md_past md_past a_md_images md_images a_md_seen md_seen a_md_asks md_asks a_md_brings md_brings a_md_uses md_uses a_md_days md_days a_md_tries md_tries a_md_row md_row a_md_first md_first a_md_held md_held) s.heap [] := ⟨hP, hD, va_S.rf⟩
  have hw0 := hw
  refine lv_iload_n hx hb dX6_counts_0 rfl (lv_at hl 2 rfl) ?_
  refine lv_if_eq (tgt := 13) hx hb dX6_counts_1 (by decide) (fun c1 => ?_) (fun c1 => ?_)
  · replace hm := ipos hm c1
    refine lv_aload_n hx hb dX6_counts_13 rfl (lv_at hl 0 rfl) ?_
    refine f_get S hK hw.1 in_X6_counts_X6 0 rfl rfl 18 (by decide) (List.mem_of_getElem? (i := 1) rfl) rfl rfl dX6_counts_14 ?_
    refine lv_if_ne (tgt := 50) hx hb dX6_counts_17 (by decide) (fun c2 => ?_) (fun c2 => ?_)
    · replace hm := ineg hm c2
      refine lv_aload_n hx hb dX6_counts_50 rfl (lv_at hl 0 rfl) ?_
      refine lv_dup hx hb dX6_counts_51 rfl ?_
      refine f_get S hK hw.1 in_X6_counts_X6 0 rfl rfl 18 (by decide) (List.mem_of_getElem? (i := 1) rfl) rfl rfl dX6_counts_52 ?_
      refine lv_iconst (v := 1) hx hb dX6_counts_55 (by decide) ?_
      refine lv_iadd hx hb dX6_counts_56 ?_
      refine f_put S hK hw in_X6_counts_X6 tyX6_ok nmX6 0 rfl rfl 18 (by decide) (List.mem_of_getElem? (i := 1) rfl) rfl rfl rfl rfl (Nat.le_of_ble_eq_true rfl) (ws1 := (wd_28 cC cI cJ a_md a_md_text md_typed a_md_told a_md_draft a_md_s a_md_past md_known a_md_images md_kept a_md_seen md_sights md_at a_md_asks a_md_brings a_md_uses a_md_days a_md_tries a_md_row (md_many + (1 : Int32)) a_md_first md_length md_set a_md_held a_md_text md_text a_md_told md_told a_md_draft md_draft a_md_s md_s a_md_past md_past a_md_images md_images a_md_seen md_seen a_md_asks md_asks a_md_brings md_brings a_md_uses md_uses a_md_days md_days a_md_tries md_tries a_md_row md_row a_md_first md_first a_md_held md_held)) rfl dX6_counts_57 (fun H locs hw => ?_)
      obtain rfl := Option.some.inj hm
      exact e_WV S hr hlk hw hw.1 dX6_counts_60
    · replace hm := ipos hm c2
      refine lv_aload_n hx hb dX6_counts_20 rfl (lv_at hl 0 rfl) ?_
      refine lv_iload_n hx hb dX6_counts_21 rfl (lv_at hl 1 rfl) ?_
      refine f_put S hK hw in_X6_counts_X6 tyX6_ok nmX6 0 rfl rfl 20 (by decide) (List.mem_of_getElem? (i := 2) rfl) rfl rfl rfl rfl (Nat.le_of_ble_eq_true rfl) (ws1 := (wd_28 cC cI cJ a_md a_md_text md_typed a_md_told a_md_draft a_md_s a_md_past md_known a_md_images md_kept a_md_seen md_sights md_at a_md_asks a_md_brings a_md_uses a_md_days a_md_tries a_md_row md_many a_md_first p0 md_set a_md_held a_md_text md_text a_md_told md_told a_md_draft md_draft a_md_s md_s a_md_past md_past a_md_images md_images a_md_seen md_seen a_md_asks md_asks a_md_brings md_brings a_md_uses md_uses a_md_days md_days a_md_tries md_tries a_md_row md_row a_md_first md_first a_md_held md_held)) rfl dX6_counts_22 (fun H locs hw => ?_)
      refine lv_iconst (v := 0) hx hb dX6_counts_25 (by decide) ?_
      refine lv_istore_n (lv' := [(3, .int (0 : Int32)), (0, .ref a_md), (1, .int p0), (2, .int p1)]) hx hb dX6_counts_26 rfl hl (by decide) rfl (fun ls hl => ?_)
      obtain ⟨r6, h7, hm⟩ := ob hm
      refine t_X6_counts_27 l S hK a_md a_md_text a_md_told a_md_draft a_md_s a_md_past a_md_images a_md_seen a_md_asks a_md_brings a_md_uses a_md_days a_md_tries a_md_row a_md_first a_md_held p0 md_typed md_known md_kept md_sights md_at md_many p0 md_set md_text md_told md_draft md_s md_past md_images md_seen md_asks md_brings md_uses md_days md_tries md_row md_held N (0 : Int32) md_first r6 h7  _ _ ls hw (lv_sub hl [1, 2, 0] rfl) (fun H locs ls hw hl => ?_)
      refine lv_aload_n hx hb dX6_counts_50 rfl (lv_at hl 0 rfl) ?_
      refine lv_dup hx hb dX6_counts_51 rfl ?_
      refine f_get S hK hw.1 in_X6_counts_X6 0 rfl rfl 18 (by decide) (List.mem_of_getElem? (i := 1) rfl) rfl rfl dX6_counts_52 ?_
      refine lv_iconst (v := 1) hx hb dX6_counts_55 (by decide) ?_
      refine lv_iadd hx hb dX6_counts_56 ?_
      refine f_put S hK hw in_X6_counts_X6 tyX6_ok nmX6 0 rfl rfl 18 (by decide) (List.mem_of_getElem? (i := 1) rfl) rfl rfl rfl rfl (Nat.le_of_ble_eq_true rfl) (ws1 := (wd_28 cC cI cJ a_md a_md_text md_typed a_md_told a_md_draft a_md_s a_md_past md_known a_md_images md_kept a_md_seen md_sights md_at a_md_asks a_md_brings a_md_uses a_md_days a_md_tries a_md_row (md_many + (1 : Int32)) a_md_first p0 md_set a_md_held a_md_text md_text a_md_told md_told a_md_draft md_draft a_md_s md_s a_md_past md_past a_md_images md_images a_md_seen md_seen a_md_asks md_asks a_md_brings md_brings a_md_uses md_uses a_md_days md_days a_md_tries md_tries a_md_row md_row a_md_first r6 a_md_held md_held)) rfl dX6_counts_57 (fun H locs hw => ?_)
      obtain rfl := Option.some.inj hm
      exact e_WV S hr hlk hw hw.1 dX6_counts_60
  · replace hm := ineg hm c1
    refine lv_aload_n hx hb dX6_counts_4 rfl (lv_at hl 0 rfl) ?_
    refine lv_iload_n hx hb dX6_counts_5 rfl (lv_at hl 1 rfl) ?_
    obtain ⟨r8, h9, hm⟩ := ob hm
    refine k_rVi S hK hw.1 cal_X6_isSeen gX6_counts_X6_isSeen (c_X6_isSeen l D cC cI cJ a_md a_md_text a_md_told a_md_draft a_md_s a_md_past a_md_images a_md_seen a_md_asks a_md_brings a_md_uses a_md_days a_md_tries a_md_row a_md_first a_md_held md_typed md_known md_kept md_sights md_at md_many md_length md_set md_text md_told md_draft md_s md_past md_images md_seen md_asks md_brings md_uses md_days md_tries md_row md_first md_held p0 N r8 h9) ⟨⟨rfl, rfl⟩, Nat.le_of_ble_eq_true rfl, Nat.le_of_ble_eq_true rfl⟩ [0, 1, 2, 3, 4, 5, 6, 7, 8, 9, 10, 11, 12, 13, 14, 15] rfl 0 rfl rfl rfl hl.1 rfl (Nat.le_of_ble_eq_true rfl) dX6_counts_6 ⟨Nat.zero_le _, Nat.zero_le _⟩ ?_
    refine lv_if_ne (tgt := 13) hx hb dX6_counts_9 (by decide) (fun c10 => ?_) (fun c10 => ?_)
    · replace hm := ineg hm c10
      refine lv_aload_n hx hb dX6_counts_13 rfl (lv_at hl 0 rfl) ?_
      refine f_get S hK hw.1 in_X6_counts_X6 0 rfl rfl 18 (by decide) (List.mem_of_getElem? (i := 1) rfl) rfl rfl dX6_counts_14 ?_
      refine lv_if_ne (tgt := 50) hx hb dX6_counts_17 (by decide) (fun c11 => ?_) (fun c11 => ?_)
      · replace hm := ineg hm c11
        refine lv_aload_n hx hb dX6_counts_50 rfl (lv_at hl 0 rfl) ?_
        refine lv_dup hx hb dX6_counts_51 rfl ?_
        refine f_get S hK hw.1 in_X6_counts_X6 0 rfl rfl 18 (by decide) (List.mem_of_getElem? (i := 1) rfl) rfl rfl dX6_counts_52 ?_
        refine lv_iconst (v := 1) hx hb dX6_counts_55 (by decide) ?_
        refine lv_iadd hx hb dX6_counts_56 ?_
        refine f_put S hK hw in_X6_counts_X6 tyX6_ok nmX6 0 rfl rfl 18 (by decide) (List.mem_of_getElem? (i := 1) rfl) rfl rfl rfl rfl (Nat.le_of_ble_eq_true rfl) (ws1 := (wd_28 cC cI cJ a_md a_md_text md_typed a_md_told a_md_draft a_md_s a_md_past md_known a_md_images md_kept a_md_seen md_sights md_at a_md_asks a_md_brings a_md_uses a_md_days a_md_tries a_md_row (md_many + (1 : Int32)) a_md_first md_length md_set a_md_held a_md_text md_text a_md_told md_told a_md_draft md_draft a_md_s md_s a_md_past md_past a_md_images md_images a_md_seen md_seen a_md_asks md_asks a_md_brings md_brings a_md_uses md_uses a_md_days md_days a_md_tries md_tries a_md_row md_row a_md_first md_first a_md_held md_held)) rfl dX6_counts_57 (fun H locs hw => ?_)
        obtain rfl := Option.some.inj hm
        exact e_WV S hr hlk hw hw.1 dX6_counts_60
      · replace hm := ipos hm c11
        refine lv_aload_n hx hb dX6_counts_20 rfl (lv_at hl 0 rfl) ?_
        refine lv_iload_n hx hb dX6_counts_21 rfl (lv_at hl 1 rfl) ?_
        refine f_put S hK hw in_X6_counts_X6 tyX6_ok nmX6 0 rfl rfl 20 (by decide) (List.mem_of_getElem? (i := 2) rfl) rfl rfl rfl rfl (Nat.le_of_ble_eq_true rfl) (ws1 := (wd_28 cC cI cJ a_md a_md_text md_typed a_md_told a_md_draft a_md_s a_md_past md_known a_md_images md_kept a_md_seen md_sights md_at a_md_asks a_md_brings a_md_uses a_md_days a_md_tries a_md_row md_many a_md_first p0 md_set a_md_held a_md_text md_text a_md_told md_told a_md_draft md_draft a_md_s md_s a_md_past md_past a_md_images md_images a_md_seen md_seen a_md_asks md_asks a_md_brings md_brings a_md_uses md_uses a_md_days md_days a_md_tries md_tries a_md_row md_row a_md_first md_first a_md_held md_held)) rfl dX6_counts_22 (fun H locs hw => ?_)
        refine lv_iconst (v := 0) hx hb dX6_counts_25 (by decide) ?_
        refine lv_istore_n (lv' := [(3, .int (0 : Int32)), (0, .ref a_md), (1, .int p0), (2, .int p1)]) hx hb dX6_counts_26 rfl hl (by decide) rfl (fun ls hl => ?_)
        obtain ⟨r12, h13, hm⟩ := ob hm
        refine t_X6_counts_27 l S hK a_md a_md_text a_md_told a_md_draft a_md_s a_md_past a_md_images a_md_seen a_md_asks a_md_brings a_md_uses a_md_days a_md_tries a_md_row a_md_first a_md_held p0 md_typed md_known md_kept md_sights md_at md_many p0 md_set md_text md_told md_draft md_s md_past md_images md_seen md_asks md_brings md_uses md_days md_tries md_row md_held N (0 : Int32) md_first r12 h13  _ _ ls hw (lv_sub hl [1, 2, 0] rfl) (fun H locs ls hw hl => ?_)
        refine lv_aload_n hx hb dX6_counts_50 rfl (lv_at hl 0 rfl) ?_
        refine lv_dup hx hb dX6_counts_51 rfl ?_
        refine f_get S hK hw.1 in_X6_counts_X6 0 rfl rfl 18 (by decide) (List.mem_of_getElem? (i := 1) rfl) rfl rfl dX6_counts_52 ?_
        refine lv_iconst (v := 1) hx hb dX6_counts_55 (by decide) ?_
        refine lv_iadd hx hb dX6_counts_56 ?_
        refine f_put S hK hw in_X6_counts_X6 tyX6_ok nmX6 0 rfl rfl 18 (by decide) (List.mem_of_getElem? (i := 1) rfl) rfl rfl rfl rfl (Nat.le_of_ble_eq_true rfl) (ws1 := (wd_28 cC cI cJ a_md a_md_text md_typed a_md_told a_md_draft a_md_s a_md_past md_known a_md_images md_kept a_md_seen md_sights md_at a_md_asks a_md_brings a_md_uses a_md_days a_md_tries a_md_row (md_many + (1 : Int32)) a_md_first p0 md_set a_md_held a_md_text md_text a_md_told md_told a_md_draft md_draft a_md_s md_s a_md_past md_past a_md_images md_images a_md_seen md_seen a_md_asks md_asks a_md_brings md_brings a_md_uses md_uses a_md_days md_days a_md_tries md_tries a_md_row md_row a_md_first r12 a_md_held md_held)) rfl dX6_counts_57 (fun H locs hw => ?_)
        obtain rfl := Option.some.inj hm
        exact e_WV S hr hlk hw hw.1 dX6_counts_60
    · replace hm := ipos hm c10
      obtain rfl := Option.some.inj hm
      exact e_WV S hr hlk hw hw.1 dX6_counts_12

abbrev rX6_daysOf : Room := { frames := 0, cells := 0, slots := 0, locals := 0 }
theorem cal_X6_daysOf : Cal yX6_daysOf wsX6_daysOf cX6_daysOf 2 (some .int) RX6 1 := ⟨⟨_, rfl⟩, rfl, by decide +kernel, by decide +kernel, by decide +kernel⟩
theorem in_X6_daysOf_X6 : ∀ w ∈ wsX60, w ∈ wsX6_daysOf := fun _ h => (List.mem_cons_of_mem _ (List.mem_append_right _ h))
set_option maxHeartbeats 4000000 in
set_option maxRecDepth 100000 in
theorem c_X6_daysOf (l : Launch) (D : va_G) (cC cI cJ : ClassId) (a_md : Nat) (a_md_text : Nat) (a_md_told : Nat) (a_md_draft : Nat) (a_md_s : Nat) (a_md_past : Nat) (a_md_images : Nat) (a_md_seen : Nat) (a_md_asks : Nat) (a_md_brings : Nat) (a_md_uses : Nat) (a_md_days : Nat) (a_md_tries : Nat) (a_md_row : Nat) (a_md_first : Nat) (a_md_held : Nat) (md_typed : Int32) (md_known : Int32) (md_kept : Int32) (md_sights : Int32) (md_at : Int32) (md_many : Int32) (md_length : Int32) (md_set : Int32) (md_text : (Nat → Int32)) (md_told : (Nat → Int32)) (md_draft : (Nat → Int32)) (md_s : (Nat → Int32)) (md_past : (Nat → Int32)) (md_images : (Nat → Int32)) (md_seen : (Nat → Int32)) (md_asks : (Nat → Int32)) (md_brings : (Nat → Int32)) (md_uses : (Nat → Int32)) (md_days : (Nat → Int32)) (md_tries : (Nat → Int32)) (md_row : (Nat → Int32)) (md_first : (Nat → Int32)) (md_held : (Nat → Int32)) (p0 : Int32) (out : Int32) (hm : m_X6_daysOf md_told p0 = some out) : RdI l yX6_daysOf wsX6_daysOf rX6_daysOf D (tyK cC cI cJ) [.ref a_md, .int p0] (wd_28 cC cI cJ a_md a_md_text md_typed a_md_told a_md_draft a_md_s a_md_past md_known a_md_images md_kept a_md_seen md_sights md_at a_md_asks a_md_brings a_md_uses a_md_days a_md_tries a_md_row md_many a_md_first md_length md_set a_md_held a_md_text md_text a_md_told md_told a_md_draft md_draft a_md_s md_s a_md_past md_past a_md_images md_images a_md_seen md_seen a_md_asks md_asks a_md_brings md_brings a_md_uses md_uses a_md_days md_days a_md_tries md_tries a_md_row md_row a_md_first md_first a_md_held md_held) out := by
  unfold m_X6_daysOf at hm
  refine enter (cc := cX6_daysOf) (maxL := 2) (ret := (some .int)) (lv := [(0, .ref a_md), (1, .int p0)]) (by decide) rfl (Nat.le_of_ble_eq_true rfl) rfl ?_
  intro p e s m args below meth c S hr hlk hK hP ls hl
  replace S : CallFix p m c cX6_daysOf 2 s args wsX6_daysOf RX6 := S
  have hx := S.1
  have hb := S.2.1
  refine lv_aload_n hx hb dX6_daysOf_0 rfl (lv_at hl 0 rfl) ?_
  refine f_get S hK hP in_X6_daysOf_X6 0 rfl rfl 2 (by decide) (List.mem_of_getElem? (i := 1) rfl) rfl rfl dX6_daysOf_1 ?_
  refine lv_iconst (v := 5) hx hb dX6_daysOf_4 (by decide) ?_
  refine lv_iload_n hx hb dX6_daysOf_5 rfl (lv_at hl 1 rfl) ?_
  refine lv_iadd hx hb dX6_daysOf_6 ?_
  obtain ⟨g1, hm⟩ := gdo hm
  refine f_iald S hK hP 2 1 rfl rfl g1 dX6_daysOf_7 ?_
  refine lv_iconst (v := 2) hx hb dX6_daysOf_8 (by decide) ?_
  refine lv_icmp_ne (tgt := 16) hx hb dX6_daysOf_9 (by decide) (fun c2 => ?_) (fun c2 => ?_)
  · replace hm := ineg hm c2
    refine lv_aload_n hx hb dX6_daysOf_16 rfl (lv_at hl 0 rfl) ?_
    refine f_get S hK hP in_X6_daysOf_X6 0 rfl rfl 2 (by decide) (List.mem_of_getElem? (i := 1) rfl) rfl rfl dX6_daysOf_17 ?_
    refine lv_bipush (v := 13) hx hb dX6_daysOf_20 (by decide) ?_
    refine lv_iload_n hx hb dX6_daysOf_22 rfl (lv_at hl 1 rfl) ?_
    refine lv_iadd hx hb dX6_daysOf_23 ?_
    obtain ⟨g3, hm⟩ := gdo hm
    refine f_iald S hK hP 2 1 rfl rfl g3 dX6_daysOf_24 ?_
    exact e_RI S hr hlk (Option.some.inj hm) dX6_daysOf_25
  · replace hm := ipos hm c2
    refine lv_iconst (v := 0) hx hb dX6_daysOf_12 (by decide) ?_
    refine lv_goto (tgt := 25) hx hb dX6_daysOf_13 (by decide) ?_
    exact e_RI S hr hlk (Option.some.inj hm) dX6_daysOf_25

abbrev rX6_letterAt : Room := { frames := 0, cells := 0, slots := 0, locals := 0 }
theorem cal_X6_letterAt : Cal yX6_letterAt wsX6_letterAt cX6_letterAt 2 (some .int) RX6 1 := ⟨⟨_, rfl⟩, rfl, by decide +kernel, by decide +kernel, by decide +kernel⟩
theorem in_X6_letterAt_X6 : ∀ w ∈ wsX60, w ∈ wsX6_letterAt := fun _ h => (List.mem_cons_of_mem _ (List.mem_append_right _ h))
set_option maxHeartbeats 4000000 in
set_option maxRecDepth 100000 in
theorem c_X6_letterAt (l : Launch) (D : va_G) (cC cI cJ : ClassId) (a_md : Nat) (a_md_text : Nat) (a_md_told : Nat) (a_md_draft : Nat) (a_md_s : Nat) (a_md_past : Nat) (a_md_images : Nat) (a_md_seen : Nat) (a_md_asks : Nat) (a_md_brings : Nat) (a_md_uses : Nat) (a_md_days : Nat) (a_md_tries : Nat) (a_md_row : Nat) (a_md_first : Nat) (a_md_held : Nat) (md_typed : Int32) (md_known : Int32) (md_kept : Int32) (md_sights : Int32) (md_at : Int32) (md_many : Int32) (md_length : Int32) (md_set : Int32) (md_text : (Nat → Int32)) (md_told : (Nat → Int32)) (md_draft : (Nat → Int32)) (md_s : (Nat → Int32)) (md_past : (Nat → Int32)) (md_images : (Nat → Int32)) (md_seen : (Nat → Int32)) (md_asks : (Nat → Int32)) (md_brings : (Nat → Int32)) (md_uses : (Nat → Int32)) (md_days : (Nat → Int32)) (md_tries : (Nat → Int32)) (md_row : (Nat → Int32)) (md_first : (Nat → Int32)) (md_held : (Nat → Int32)) (p0 : Int32) (out : Int32) (hm : m_X6_letterAt md_typed md_text p0 = some out) : RdI l yX6_letterAt wsX6_letterAt rX6_letterAt D (tyK cC cI cJ) [.ref a_md, .int p0] (wd_28 cC cI cJ a_md a_md_text md_typed a_md_told a_md_draft a_md_s a_md_past md_known a_md_images md_kept a_md_seen md_sights md_at a_md_asks a_md_brings a_md_uses a_md_days a_md_tries a_md_row md_many a_md_first md_length md_set a_md_held a_md_text md_text a_md_told md_told a_md_draft md_draft a_md_s md_s a_md_past md_past a_md_images md_images a_md_seen md_seen a_md_asks md_asks a_md_brings md_brings a_md_uses md_uses a_md_days md_days a_md_tries md_tries a_md_row md_row a_md_first md_first a_md_held md_held) out := by
  unfold m_X6_letterAt at hm
  refine enter (cc := cX6_letterAt) (maxL := 2) (ret := (some .int)) (lv := [(0, .ref a_md), (1, .int p0)]) (by decide) rfl (Nat.le_of_ble_eq_true rfl) rfl ?_
  intro p e s m args below meth c S hr hlk hK hP ls hl
  replace S : CallFix p m c cX6_letterAt 2 s args wsX6_letterAt RX6 := S
  have hx := S.1
  have hb := S.2.1
  refine lv_iload_n hx hb dX6_letterAt_0 rfl (lv_at hl 1 rfl) ?_
  refine lv_aload_n hx hb dX6_letterAt_1 rfl (lv_at hl 0 rfl) ?_
  refine f_get S hK hP in_X6_letterAt_X6 0 rfl rfl 1 (by decide) (List.mem_of_getElem? (i := 1) rfl) rfl rfl dX6_letterAt_2 ?_
  refine lv_icmp_ge (tgt := 17) hx hb dX6_letterAt_5 (by decide) (fun c1 => ?_) (fun c1 => ?_)
  · replace hm := ipos hm c1
    refine lv_iconst (v := (-1)) hx hb dX6_letterAt_17 (by decide) ?_
    exact e_RI S hr hlk (Option.some.inj hm) dX6_letterAt_18
  · replace hm := ineg hm c1
    refine lv_aload_n hx hb dX6_letterAt_8 rfl (lv_at hl 0 rfl) ?_
    refine f_get S hK hP in_X6_letterAt_X6 0 rfl rfl 0 (by decide) (List.mem_of_getElem? (i := 2) rfl) rfl rfl dX6_letterAt_9 ?_
    refine lv_iload_n hx hb dX6_letterAt_12 rfl (lv_at hl 1 rfl) ?_
    obtain ⟨g2, hm⟩ := gdo hm
    refine f_iald S hK hP 1 1 rfl rfl g2 dX6_letterAt_13 ?_
    refine lv_goto (tgt := 18) hx hb dX6_letterAt_14 (by decide) ?_
    exact e_RI S hr hlk (Option.some.inj hm) dX6_letterAt_18

abbrev rX6_isFigure : Room := { frames := 1, cells := 0, slots := 0, locals := 22 }
theorem cal_X6_isFigure : Cal yX6_isFigure wsX6_isFigure cX6_isFigure 1 (some .boolean) RX6 1 := ⟨⟨_, rfl⟩, rfl, by decide +kernel, by decide +kernel, by decide +kernel⟩
set_option maxHeartbeats 4000000 in
set_option maxRecDepth 100000 in
theorem c_X6_isFigure (l : Launch) (D : va_G) (cC cI cJ : ClassId)  (p0 : Int32) (out : Int32) (hm : m_X6_isFigure p0 = some out) : RdI l yX6_isFigure wsX6_isFigure rX6_isFigure D (tyK cC cI cJ) [.int p0] [] out := by
  unfold m_X6_isFigure at hm
  refine enter (cc := cX6_isFigure) (maxL := 1) (ret := (some .boolean)) (lv := [(0, .int p0)]) (by decide) rfl (Nat.le_of_ble_eq_true rfl) rfl ?_
  intro p e s m args below meth c S hr hlk hK hP ls hl
  replace S : CallFix p m c cX6_isFigure 1 s args wsX6_isFigure RX6 := S
  have hx := S.1
  have hb := S.2.1
  refine lv_iload_n hx hb dX6_isFigure_0 rfl (lv_at hl 0 rfl) ?_
  refine lv_bipush (v := 48) hx hb dX6_isFigure_1 (by decide) ?_
  refine lv_bipush (v := 57) hx hb dX6_isFigure_3 (by decide) ?_
  obtain ⟨r1, h2, hm⟩ := ob hm
  refine k_rSi S hK hP cal_X6_in gX6_isFigure_X6_in (c_X6_in l D cC cI cJ p0 (48 : Int32) (57 : Int32) r1 h2) ⟨⟨rfl, rfl⟩, Nat.le_of_ble_eq_true rfl, Nat.le_of_ble_eq_true rfl⟩ [] rfl rfl hl.1 rfl (Nat.le_of_ble_eq_true rfl) dX6_isFigure_5 ⟨Nat.zero_le _, Nat.zero_le _⟩ ?_
  obtain ⟨hz, hm⟩ := gdo hm
  exact e_RZ S hr hlk hz (Option.some.inj hm) dX6_isFigure_8

abbrev rX6_number : Room := { frames := 2, cells := 0, slots := 0, locals := 42 }
theorem cal_X6_number : Cal yX6_number wsX6_number cX6_number 6 (some .int) RX6 3 := ⟨⟨_, rfl⟩, rfl, by decide +kernel, by decide +kernel, by decide +kernel⟩
theorem in_X6_number_X6 : ∀ w ∈ wsX60, w ∈ wsX6_number := fun _ h => (List.mem_cons_of_mem _ (List.mem_append_right _ h))
set_option maxHeartbeats 4000000 in
set_option maxRecDepth 100000 in
theorem c_X6_number (l : Launch) (D : va_G) (cC cI cJ : ClassId) (a_md : Nat) (a_md_text : Nat) (a_md_told : Nat) (a_md_draft : Nat) (a_md_s : Nat) (a_md_past : Nat) (a_md_images : Nat) (a_md_seen : Nat) (a_md_asks : Nat) (a_md_brings : Nat) (a_md_uses : Nat) (a_md_days : Nat) (a_md_tries : Nat) (a_md_row : Nat) (a_md_first : Nat) (a_md_held : Nat) (md_typed : Int32) (md_known : Int32) (md_kept : Int32) (md_sights : Int32) (md_at : Int32) (md_many : Int32) (md_length : Int32) (md_set : Int32) (md_text : (Nat → Int32)) (md_told : (Nat → Int32)) (md_draft : (Nat → Int32)) (md_s : (Nat → Int32)) (md_past : (Nat → Int32)) (md_images : (Nat → Int32)) (md_seen : (Nat → Int32)) (md_asks : (Nat → Int32)) (md_brings : (Nat → Int32)) (md_uses : (Nat → Int32)) (md_days : (Nat → Int32)) (md_tries : (Nat → Int32)) (md_row : (Nat → Int32)) (md_first : (Nat → Int32)) (md_held : (Nat → Int32)) (p0 : Int32) (p1 : Int32) (p2 : Int32) (A : Nat → Prop) (hD : va_D A (wd_28 cC cI cJ a_md a_md_text md_typed a_md_told a_md_draft a_md_s a_md_past md_known a_md_images md_kept a_md_seen md_sights md_at a_md_asks a_md_brings a_md_uses a_md_days a_md_tries a_md_row md_many a_md_first md_length md_set a_md_held a_md_text md_text a_md_told md_told a_md_draft md_draft a_md_s md_s a_md_past md_past a_md_images md_images a_md_seen md_seen a_md_asks md_asks a_md_brings md_brings a_md_uses md_uses a_md_days md_days a_md_tries md_tries a_md_row md_row a_md_first md_first a_md_held md_held)) (out : (Int32 × Int32)) (hm : m_X6_number md_typed md_at md_text p0 p1 p2 = some out) : WrI l yX6_number wsX6_number rX6_number D (tyK cC cI cJ) [.ref a_md, .int p0, .int p1, .int p2] A (wd_28 cC cI cJ a_md a_md_text md_typed a_md_told a_md_draft a_md_s a_md_past md_known a_md_images md_kept a_md_seen md_sights md_at a_md_asks a_md_brings a_md_uses a_md_days a_md_tries a_md_row md_many a_md_first md_length md_set a_md_held a_md_text md_text a_md_told md_told a_md_draft md_draft a_md_s md_s a_md_past md_past a_md_images md_images a_md_seen md_seen a_md_asks md_asks a_md_brings md_brings a_md_uses md_uses a_md_days md_days a_md_tries md_tries a_md_row md_row a_md_first md_first a_md_held md_held) (Bw0 D (wd_28 cC cI cJ a_md a_md_text md_typed a_md_told a_md_draft a_md_s a_md_past md_known a_md_images md_kept a_md_seen md_sights out.2 a_md_asks a_md_brings a_md_uses a_md_days a_md_tries a_md_row md_many a_md_first md_length md_set a_md_held a_md_text md_text a_md_told md_told a_md_draft md_draft a_md_s md_s a_md_past md_past a_md_images md_images a_md_seen md_seen a_md_asks md_asks a_md_brings md_brings a_md_uses md_uses a_md_days md_days a_md_tries md_tries a_md_row md_row a_md_first md_first a_md_held md_held)) out.1 := by
  unfold m_X6_number at hm
  refine enter (cc := cX6_number) (maxL := 6) (ret := (some .int)) (lv := [(0, .ref a_md), (1, .int p0), (2, .int p1), (3, .int p2)]) (by decide) rfl (Nat.le_of_ble_eq_true rfl) rfl ?_
  intro p e s m args below meth c S hr hlk hK hP ls hl
  replace S : CallFix p m c cX6_number 6 s args wsX6_number RX6 := S
  have hx := S.1
  have hb := S.2.1
  have hw : Wd D A s.heap (wd_28 cC cI cJ a_md a_md_text md_typed a_md_told a_md_draft a_md_s a_md_past md_known a_md_images md_kept a_md_seen md_sights md_at a_md_asks a_md_brings a_md_uses a_md_days a_md_tries a_md_row md_many a_md_first md_length md_set a_md_held a_md_text md_text a_md_told md_told a_md_draft md_draft a_md_s md_s a_md_past md_past a_md_images md_images a_md_seen md_seen a_md_asks md_asks a_md_brings md_brings a_md_uses md_uses a_md_days md_days a_md_tries md_tries a_md_row md_row a_md_first md_first a_md_held md_held) s.heap [] := ⟨hP, hD, va_S.rf⟩
  have hw0 := hw
  refine lv_aload_n hx hb dX6_number_0 rfl (lv_at hl 0 rfl) ?_
  refine lv_aload_n hx hb dX6_number_1 rfl (lv_at hl 0 rfl) ?_
  refine f_get S hK hw.1 in_X6_number_X6 0 rfl rfl 11 (by decide) (List.mem_of_getElem? (i := 1) rfl) rfl rfl dX6_number_2 ?_
  obtain ⟨r1, h2, hm⟩ := ob hm
  refine k_rVi S hK hw.1 cal_X6_letterAt gX6_number_X6_letterAt (c_X6_letterAt l D cC cI cJ a_md a_md_text a_md_told a_md_draft a_md_s a_md_past a_md_images a_md_seen a_md_asks a_md_brings a_md_uses a_md_days a_md_tries a_md_row a_md_first a_md_held md_typed md_known md_kept md_sights md_at md_many md_length md_set md_text md_told md_draft md_s md_past md_images md_seen md_asks md_brings md_uses md_days md_tries md_row md_first md_held md_at r1 h2) ⟨⟨rfl, rfl⟩, Nat.le_of_ble_eq_true rfl, Nat.le_of_ble_eq_true rfl⟩ [0, 1, 2, 3, 4, 5, 6, 7, 8, 9, 10, 11, 12, 13, 14, 15] rfl 0 rfl rfl rfl hl.1 rfl (Nat.le_of_ble_eq_true rfl) dX6_number_5 ⟨Nat.zero_le _, Nat.zero_le _⟩ ?_
  obtain ⟨r3, h4, hm⟩ := ob hm
  refine k_rSi S hK hw.1 cal_X6_isFigure gX6_number_X6_isFigure (c_X6_isFigure l D cC cI cJ r1 r3 h4) ⟨⟨rfl, rfl⟩, Nat.le_of_ble_eq_true rfl, Nat.le_of_ble_eq_true rfl⟩ [] rfl rfl hl.1 rfl (Nat.le_of_ble_eq_true rfl) dX6_number_8 ⟨Nat.zero_le _, Nat.zero_le _⟩ ?_
  refine lv_if_ne (tgt := 16) hx hb dX6_number_11 (by decide) (fun c5 => ?_) (fun c5 => ?_)
  · replace hm := ineg hm c5
    refine lv_aload_n hx hb dX6_number_16 rfl (lv_at hl 0 rfl) ?_
    refine lv_aload_n hx hb dX6_number_17 rfl (lv_at hl 0 rfl) ?_
    refine f_get S hK hw.1 in_X6_number_X6 0 rfl rfl 11 (by decide) (List.mem_of_getElem? (i := 1) rfl) rfl rfl dX6_number_18 ?_
    obtain ⟨r6, h7, hm⟩ := ob hm
    refine k_rVi S hK hw.1 cal_X6_letterAt gX6_number_X6_letterAt (c_X6_letterAt l D cC cI cJ a_md a_md_text a_md_told a_md_draft a_md_s a_md_past a_md_images a_md_seen a_md_asks a_md_brings a_md_uses a_md_days a_md_tries a_md_row a_md_first a_md_held md_typed md_known md_kept md_sights md_at md_many md_length md_set md_text md_told md_draft md_s md_past md_images md_seen md_asks md_brings md_uses md_days md_tries md_row md_first md_held md_at r6 h7) ⟨⟨rfl, rfl⟩, Nat.le_of_ble_eq_true rfl, Nat.le_of_ble_eq_true rfl⟩ [0, 1, 2, 3, 4, 5, 6, 7, 8, 9, 10, 11, 12, 13, 14, 15] rfl 0 rfl rfl rfl hl.1 rfl (Nat.le_of_ble_eq_true rfl) dX6_number_21 ⟨Nat.zero_le _, Nat.zero_le _⟩ ?_
    refine lv_bipush (v := 48) hx hb dX6_number_24 (by decide) ?_
    refine lv_isub hx hb dX6_number_26 ?_
    refine lv_istore (lv' := [(4, .int (r6 - (48 : Int32))), (0, .ref a_md), (1, .int p0), (2, .int p1), (3, .int p2)]) hx hb dX6_number_27 hl (by decide) rfl (fun ls hl => ?_)
    refine lv_aload_n hx hb dX6_number_29 rfl (lv_at hl 1 rfl) ?_
    refine lv_dup hx hb dX6_number_30 rfl ?_
    refine f_get S hK hw.1 in_X6_number_X6 0 rfl rfl 11 (by decide) (List.mem_of_getElem? (i := 1) rfl) rfl rfl dX6_number_31 ?_
    refine lv_iconst (v := 1) hx hb dX6_number_34 (by decide) ?_
    refine lv_iadd hx hb dX6_number_35 ?_
    refine f_put S hK hw in_X6_number_X6 tyX6_ok nmX6 0 rfl rfl 11 (by decide) (List.mem_of_getElem? (i := 1) rfl) rfl rfl rfl rfl (Nat.le_of_ble_eq_true rfl) (ws1 := (wd_28 cC cI cJ a_md a_md_text md_typed a_md_told a_md_draft a_md_s a_md_past md_known a_md_images md_kept a_md_seen md_sights (md_at + (1 : Int32)) a_md_asks a_md_brings a_md_uses a_md_days a_md_tries a_md_row md_many a_md_first md_length md_set a_md_held a_md_text md_text a_md_told md_told a_md_draft md_draft a_md_s md_s a_md_past md_past a_md_images md_images a_md_seen md_seen a_md_asks md_asks a_md_brings md_brings a_md_uses md_uses a_md_days md_days a_md_tries md_tries a_md_row md_row a_md_first md_first a_md_held md_held)) rfl dX6_number_36 (fun H locs hw => ?_)
    refine lv_aload_n hx hb dX6_number_39 rfl (lv_at hl 1 rfl) ?_
    refine lv_aload_n hx hb dX6_number_40 rfl (lv_at hl 1 rfl) ?_
    refine f_get S hK hw.1 in_X6_number_X6 0 rfl rfl 11 (by decide) (List.mem_of_getElem? (i := 1) rfl) rfl rfl dX6_number_41 ?_
    obtain ⟨r8, h9, hm⟩ := ob hm
    refine k_rVi S hK hw.1 cal_X6_letterAt gX6_number_X6_letterAt (c_X6_letterAt l D cC cI cJ a_md a_md_text a_md_told a_md_draft a_md_s a_md_past a_md_images a_md_seen a_md_asks a_md_brings a_md_uses a_md_days a_md_tries a_md_row a_md_first a_md_held md_typed md_known md_kept md_sights (md_at + (1 : Int32)) md_many md_length md_set md_text md_told md_draft md_s md_past md_images md_seen md_asks md_brings md_uses md_days md_tries md_row md_first md_held (md_at + (1 : Int32)) r8 h9) ⟨⟨rfl, rfl⟩, Nat.le_of_ble_eq_true rfl, Nat.le_of_ble_eq_true rfl⟩ [0, 1, 2, 3, 4, 5, 6, 7, 8, 9, 10, 11, 12, 13, 14, 15] rfl 0 rfl rfl rfl hl.1 rfl (Nat.le_of_ble_eq_true rfl) dX6_number_44 ⟨Nat.zero_le _, Nat.zero_le _⟩ ?_
    obtain ⟨r10, h11, hm⟩ := ob hm
    refine k_rSi S hK hw.1 cal_X6_isFigure gX6_number_X6_isFigure (c_X6_isFigure l D cC cI cJ r8 r10 h11) ⟨⟨rfl, rfl⟩, Nat.le_of_ble_eq_true rfl, Nat.le_of_ble_eq_true rfl⟩ [] rfl rfl hl.1 rfl (Nat.le_of_ble_eq_true rfl) dX6_number_47 ⟨Nat.zero_le _, Nat.zero_le _⟩ ?_
    refine lv_if_eq (tgt := 82) hx hb dX6_number_50 (by decide) (fun c12 => ?_) (fun c12 => ?_)
    · replace hm := ipos hm c12
      refine lv_aload_n hx hb dX6_number_82 rfl (lv_at hl 1 rfl) ?_
      refine lv_aload_n hx hb dX6_number_83 rfl (lv_at hl 1 rfl) ?_
      refine f_get S hK hw.1 in_X6_number_X6 0 rfl rfl 11 (by decide) (List.mem_of_getElem? (i := 1) rfl) rfl rfl dX6_number_84 ?_
      obtain ⟨r13, h14, hm⟩ := ob hm
      refine k_rVi S hK hw.1 cal_X6_letterAt gX6_number_X6_letterAt (c_X6_letterAt l D cC cI cJ a_md a_md_text a_md_told a_md_draft a_md_s a_md_past a_md_images a_md_seen a_md_asks a_md_brings a_md_uses a_md_days a_md_tries a_md_row a_md_first a_md_held md_typed md_known md_kept md_sights (md_at + (1 : Int32)) md_many md_length md_set md_text md_told md_draft md_s md_past md_images md_seen md_asks md_brings md_uses md_days md_tries md_row md_first md_held (md_at + (1 : Int32)) r13 h14) ⟨⟨rfl, rfl⟩, Nat.le_of_ble_eq_true rfl, Nat.le_of_ble_eq_true rfl⟩ [0, 1, 2, 3, 4, 5, 6, 7, 8, 9, 10, 11, 12, 13, 14, 15] rfl 0 rfl rfl rfl hl.1 rfl (Nat.le_of_ble_eq_true rfl) dX6_number_87 ⟨Nat.zero_le _, Nat.zero_le _⟩ ?_
      refine lv_iload_n hx hb dX6_number_90 rfl (lv_at hl 4 rfl) ?_
      refine lv_icmp_ne (tgt := 108) hx hb dX6_number_91 (by decide) (fun c15 => ?_) (fun c15 => ?_)
      · replace hm := ineg hm c15
        refine lv_iconst (v := 0) hx hb dX6_number_108 (by decide) ?_
        refine lv_istore (lv' := [(5, .int (0 : Int32)), (4, .int (r6 - (48 : Int32))), (0, .ref a_md), (1, .int p0), (2, .int p1), (3, .int p2)]) hx hb dX6_number_109 hl (by decide) rfl (fun ls hl => ?_)
        refine lv_aload_n hx hb dX6_number_111 rfl (lv_at hl 2 rfl) ?_
        refine lv_dup hx hb dX6_number_112 rfl ?_
        refine f_get S hK hw.1 in_X6_number_X6 0 rfl rfl 11 (by decide) (List.mem_of_getElem? (i := 1) rfl) rfl rfl dX6_number_113 ?_
        refine lv_iconst (v := 1) hx hb dX6_number_116 (by decide) ?_
        refine lv_iadd hx hb dX6_number_117 ?_
        obtain ⟨y16, e17, hm⟩ := ob hm
        refine f_name e17 ?_
        refine f_put S hK hw in_X6_number_X6 tyX6_ok nmX6 0 rfl rfl 11 (by decide) (List.mem_of_getElem? (i := 1) rfl) rfl rfl rfl rfl (Nat.le_of_ble_eq_true rfl) (ws1 := (wd_28 cC cI cJ a_md a_md_text md_typed a_md_told a_md_draft a_md_s a_md_past md_known a_md_images md_kept a_md_seen md_sights y16 a_md_asks a_md_brings a_md_uses a_md_days a_md_tries a_md_row md_many a_md_first md_length md_set a_md_held a_md_text md_text a_md_told md_told a_md_draft md_draft a_md_s md_s a_md_past md_past a_md_images md_images a_md_seen md_seen a_md_asks md_asks a_md_brings md_brings a_md_uses md_uses a_md_days md_days a_md_tries md_tries a_md_row md_row a_md_first md_first a_md_held md_held)) rfl dX6_number_118 (fun H locs hw => ?_)
        refine lv_iload hx hb dX6_number_121 (lv_at hl 0 rfl) ?_
        refine lv_if_eq (tgt := 131) hx hb dX6_number_123 (by decide) (fun c18 => ?_) (fun c18 => ?_)
        · skip
          refine lv_iconst (v := (-1)) hx hb dX6_number_131 (by decide) ?_
          obtain rfl := Option.some.inj hm
          exact e_WI S hr hlk hw rfl hw.1 dX6_number_132
        · exact absurd (by decide) c18
      · replace hm := ipos hm c15
        refine lv_iload hx hb dX6_number_94 (lv_at hl 0 rfl) ?_
        refine lv_iload_n hx hb dX6_number_96 rfl (lv_at hl 2 rfl) ?_
        refine lv_iload_n hx hb dX6_number_97 rfl (lv_at hl 3 rfl) ?_
        obtain ⟨r19, h20, hm⟩ := ob hm
        refine k_rSi S hK hw.1 cal_X6_in gX6_number_X6_in (c_X6_in l D cC cI cJ (r6 - (48 : Int32)) p0 p1 r19 h20) ⟨⟨rfl, rfl⟩, Nat.le_of_ble_eq_true rfl, Nat.le_of_ble_eq_true rfl⟩ [] rfl rfl hl.1 rfl (Nat.le_of_ble_eq_true rfl) dX6_number_98 ⟨Nat.zero_le _, Nat.zero_le _⟩ ?_
        refine lv_if_eq (tgt := 108) hx hb dX6_number_101 (by decide) (fun c21 => ?_) (fun c21 => ?_)
        · replace hm := ipos hm c21
          refine lv_iconst (v := 0) hx hb dX6_number_108 (by decide) ?_
          refine lv_istore (lv' := [(5, .int (0 : Int32)), (4, .int (r6 - (48 : Int32))), (0, .ref a_md), (1, .int p0), (2, .int p1), (3, .int p2)]) hx hb dX6_number_109 hl (by decide) rfl (fun ls hl => ?_)
          refine lv_aload_n hx hb dX6_number_111 rfl (lv_at hl 2 rfl) ?_
          refine lv_dup hx hb dX6_number_112 rfl ?_
          refine f_get S hK hw.1 in_X6_number_X6 0 rfl rfl 11 (by decide) (List.mem_of_getElem? (i := 1) rfl) rfl rfl dX6_number_113 ?_
          refine lv_iconst (v := 1) hx hb dX6_number_116 (by decide) ?_
          refine lv_iadd hx hb dX6_number_117 ?_
          obtain ⟨y22, e23, hm⟩ := ob hm
          refine f_name e23 ?_
          refine f_put S hK hw in_X6_number_X6 tyX6_ok nmX6 0 rfl rfl 11 (by decide) (List.mem_of_getElem? (i := 1) rfl) rfl rfl rfl rfl (Nat.le_of_ble_eq_true rfl) (ws1 := (wd_28 cC cI cJ a_md a_md_text md_typed a_md_told a_md_draft a_md_s a_md_past md_known a_md_images md_kept a_md_seen md_sights y22 a_md_asks a_md_brings a_md_uses a_md_days a_md_tries a_md_row md_many a_md_first md_length md_set a_md_held a_md_text md_text a_md_told md_told a_md_draft md_draft a_md_s md_s a_md_past md_past a_md_images md_images a_md_seen md_seen a_md_asks md_asks a_md_brings md_brings a_md_uses md_uses a_md_days md_days a_md_tries md_tries a_md_row md_row a_md_first md_first a_md_held md_held)) rfl dX6_number_118 (fun H locs hw => ?_)
          refine lv_iload hx hb dX6_number_121 (lv_at hl 0 rfl) ?_
          refine lv_if_eq (tgt := 131) hx hb dX6_number_123 (by decide) (fun c24 => ?_) (fun c24 => ?_)
          · skip
            refine lv_iconst (v := (-1)) hx hb dX6_number_131 (by decide) ?_
            obtain rfl := Option.some.inj hm
            exact e_WI S hr hlk hw rfl hw.1 dX6_number_132
          · exact absurd (by decide) c24
        · replace hm := ineg hm c21
          refine lv_iconst (v := 1) hx hb dX6_number_104 (by decide) ?_
          refine lv_goto (tgt := 109) hx hb dX6_number_105 (by decide) ?_
          refine lv_istore (lv' := [(5, .int (1 : Int32)), (4, .int (r6 - (48 : Int32))), (0, .ref a_md), (1, .int p0), (2, .int p1), (3, .int p2)]) hx hb dX6_number_109 hl (by decide) rfl (fun ls hl => ?_)
          refine lv_aload_n hx hb dX6_number_111 rfl (lv_at hl 2 rfl) ?_
          refine lv_dup hx hb dX6_number_112 rfl ?_
          refine f_get S hK hw.1 in_X6_number_X6 0 rfl rfl 11 (by decide) (List.mem_of_getElem? (i := 1) rfl) rfl rfl dX6_number_113 ?_
          refine lv_iconst (v := 1) hx hb dX6_number_116 (by decide) ?_
          refine lv_iadd hx hb dX6_number_117 ?_
          obtain ⟨y25, e26, hm⟩ := ob hm
          refine f_name e26 ?_
          refine f_put S hK hw in_X6_number_X6 tyX6_ok nmX6 0 rfl rfl 11 (by decide) (List.mem_of_getElem? (i := 1) rfl) rfl rfl rfl rfl (Nat.le_of_ble_eq_true rfl) (ws1 := (wd_28 cC cI cJ a_md a_md_text md_typed a_md_told a_md_draft a_md_s a_md_past md_known a_md_images md_kept a_md_seen md_sights y25 a_md_asks a_md_brings a_md_uses a_md_days a_md_tries a_md_row md_many a_md_first md_length md_set a_md_held a_md_text md_text a_md_told md_told a_md_draft md_draft a_md_s md_s a_md_past md_past a_md_images md_images a_md_seen md_seen a_md_asks md_asks a_md_brings md_brings a_md_uses md_uses a_md_days md_days a_md_tries md_tries a_md_row md_row a_md_first md_first a_md_held md_held)) rfl dX6_number_118 (fun H locs hw => ?_)
          refine lv_iload hx hb dX6_number_121 (lv_at hl 0 rfl) ?_
          refine lv_if_eq (tgt := 131) hx hb dX6_number_123 (by decide) (fun c27 => ?_) (fun c27 => ?_)
          · exact absurd c27 (by decide)
          · skip
            refine lv_iload hx hb dX6_number_126 (lv_at hl 1 rfl) ?_
            refine lv_goto (tgt := 132) hx hb dX6_number_128 (by decide) ?_
            obtain rfl := Option.some.inj hm
            exact e_WI S hr hlk hw rfl hw.1 dX6_number_132
    · replace hm := ineg hm c12
      refine lv_bipush (v := 10) hx hb dX6_number_53 (by decide) ?_
      refine lv_iload hx hb dX6_number_55 (lv_at hl 0 rfl) ?_
      refine lv_imul hx hb dX6_number_57 ?_
      refine lv_aload_n hx hb dX6_number_58 rfl (lv_at hl 1 rfl) ?_
      refine lv_aload_n hx hb dX6_number_59 rfl (lv_at hl 1 rfl) ?_
      refine f_get S hK hw.1 in_X6_number_X6 0 rfl rfl 11 (by decide) (List.mem_of_getElem? (i := 1) rfl) rfl rfl dX6_number_60 ?_
      obtain ⟨r28, h29, hm⟩ := ob hm
      refine k_rVi S hK hw.1 cal_X6_letterAt gX6_number_X6_letterAt (c_X6_letterAt l D cC cI cJ a_md a_md_text a_md_told a_md_draft a_md_s a_md_past a_md_images a_md_seen a_md_asks a_md_brings a_md_uses a_md_days a_md_tries a_md_row a_md_first a_md_held md_typed md_known md_kept md_sights (md_at + (1 : Int32)) md_many md_length md_set md_text md_told md_draft md_s md_past md_images md_seen md_asks md_brings md_uses md_days md_tries md_row md_first md_held (md_at + (1 : Int32)) r28 h29) ⟨⟨rfl, rfl⟩, Nat.le_of_ble_eq_true rfl, Nat.le_of_ble_eq_true rfl⟩ [0, 1, 2, 3, 4, 5, 6, 7, 8, 9, 10, 11, 12, 13, 14, 15] rfl 0 rfl rfl rfl hl.1 rfl (Nat.le_of_ble_eq_true rfl) dX6_number_63 ⟨Nat.zero_le _, Nat.zero_le _⟩ ?_
      refine lv_iadd hx hb dX6_number_66 ?_
      refine lv_bipush (v := 48) hx hb dX6_number_67 (by decide) ?_
      refine lv_isub hx hb dX6_number_69 ?_
      obtain ⟨y30, e31, hm⟩ := ob hm
      refine f_name e31 ?_
      refine lv_istore (lv' := [(4, .int y30), (0, .ref a_md), (1, .int p0), (2, .int p1), (3, .int p2)]) hx hb dX6_number_70 hl (by decide) rfl (fun ls hl => ?_)
      refine lv_aload_n hx hb dX6_number_72 rfl (lv_at hl 1 rfl) ?_
      refine lv_dup hx hb dX6_number_73 rfl ?_
      refine f_get S hK hw.1 in_X6_number_X6 0 rfl rfl 11 (by decide) (List.mem_of_getElem? (i := 1) rfl) rfl rfl dX6_number_74 ?_
      refine lv_iconst (v := 1) hx hb dX6_number_77 (by decide) ?_
      refine lv_iadd hx hb dX6_number_78 ?_
      obtain ⟨y32, e33, hm⟩ := ob hm
      refine f_name e33 ?_
      refine f_put S hK hw in_X6_number_X6 tyX6_ok nmX6 0 rfl rfl 11 (by decide) (List.mem_of_getElem? (i := 1) rfl) rfl rfl rfl rfl (Nat.le_of_ble_eq_true rfl) (ws1 := (wd_28 cC cI cJ a_md a_md_text md_typed a_md_told a_md_draft a_md_s a_md_past md_known a_md_images md_kept a_md_seen md_sights y32 a_md_asks a_md_brings a_md_uses a_md_days a_md_tries a_md_row md_many a_md_first md_length md_set a_md_held a_md_text md_text a_md_told md_told a_md_draft md_draft a_md_s md_s a_md_past md_past a_md_images md_images a_md_seen md_seen a_md_asks md_asks a_md_brings md_brings a_md_uses md_uses a_md_days md_days a_md_tries md_tries a_md_row md_row a_md_first md_first a_md_held md_held)) rfl dX6_number_79 (fun H locs hw => ?_)
      refine lv_aload_n hx hb dX6_number_82 rfl (lv_at hl 1 rfl) ?_
      refine lv_aload_n hx hb dX6_number_83 rfl (lv_at hl 1 rfl) ?_
      refine f_get S hK hw.1 in_X6_number_X6 0 rfl rfl 11 (by decide) (List.mem_of_getElem? (i := 1) rfl) rfl rfl dX6_number_84 ?_
      obtain ⟨r34, h35, hm⟩ := ob hm
      refine k_rVi S hK hw.1 cal_X6_letterAt gX6_number_X6_letterAt (c_X6_letterAt l D cC cI cJ a_md a_md_text a_md_told a_md_draft a_md_s a_md_past a_md_images a_md_seen a_md_asks a_md_brings a_md_uses a_md_days a_md_tries a_md_row a_md_first a_md_held md_typed md_known md_kept md_sights y32 md_many md_length md_set md_text md_told md_draft md_s md_past md_images md_seen md_asks md_brings md_uses md_days md_tries md_row md_first md_held y32 r34 h35) ⟨⟨rfl, rfl⟩, Nat.le_of_ble_eq_true rfl, Nat.le_of_ble_eq_true rfl⟩ [0, 1, 2, 3, 4, 5, 6, 7, 8, 9, 10, 11, 12, 13, 14, 15] rfl 0 rfl rfl rfl hl.1 rfl (Nat.le_of_ble_eq_true rfl) dX6_number_87 ⟨Nat.zero_le _, Nat.zero_le _⟩ ?_
      refine lv_iload_n hx hb dX6_number_90 rfl (lv_at hl 4 rfl) ?_
      refine lv_icmp_ne (tgt := 108) hx hb dX6_number_91 (by decide) (fun c36 => ?_) (fun c36 => ?_)
      · replace hm := ineg hm c36
        refine lv_iconst (v := 0) hx hb dX6_number_108 (by decide) ?_
        refine lv_istore (lv' := [(5, .int (0 : Int32)), (4, .int y30), (0, .ref a_md), (1, .int p0), (2, .int p1), (3, .int p2)]) hx hb dX6_number_109 hl (by decide) rfl (fun ls hl => ?_)
        refine lv_aload_n hx hb dX6_number_111 rfl (lv_at hl 2 rfl) ?_
        refine lv_dup hx hb dX6_number_112 rfl ?_
        refine f_get S hK hw.1 in_X6_number_X6 0 rfl rfl 11 (by decide) (List.mem_of_getElem? (i := 1) rfl) rfl rfl dX6_number_113 ?_
        refine lv_iconst (v := 1) hx hb dX6_number_116 (by decide) ?_
        refine lv_iadd hx hb dX6_number_117 ?_
        refine f_put S hK hw in_X6_number_X6 tyX6_ok nmX6 0 rfl rfl 11 (by decide) (List.mem_of_getElem? (i := 1) rfl) rfl rfl rfl rfl (Nat.le_of_ble_eq_true rfl) (ws1 := (wd_28 cC cI cJ a_md a_md_text md_typed a_md_told a_md_draft a_md_s a_md_past md_known a_md_images md_kept a_md_seen md_sights (y32 + (1 : Int32)) a_md_asks a_md_brings a_md_uses a_md_days a_md_tries a_md_row md_many a_md_first md_length md_set a_md_held a_md_text md_text a_md_told md_told a_md_draft md_draft a_md_s md_s a_md_past md_past a_md_images md_images a_md_seen md_seen a_md_asks md_asks a_md_brings md_brings a_md_uses md_uses a_md_days md_days a_md_tries md_tries a_md_row md_row a_md_first md_first a_md_held md_held)) rfl dX6_number_118 (fun H locs hw => ?_)
        refine lv_iload hx hb dX6_number_121 (lv_at hl 0 rfl) ?_
        refine lv_if_eq (tgt := 131) hx hb dX6_number_123 (by decide) (fun c37 => ?_) (fun c37 => ?_)
        · skip
          refine lv_iconst (v := (-1)) hx hb dX6_number_131 (by decide) ?_
          obtain rfl := Option.some.inj hm
          exact e_WI S hr hlk hw rfl hw.1 dX6_number_132
        · exact absurd (by decide) c37
      · replace hm := ipos hm c36
        refine lv_iload hx hb dX6_number_94 (lv_at hl 0 rfl) ?_
        refine lv_iload_n hx hb dX6_number_96 rfl (lv_at hl 2 rfl) ?_
        refine lv_iload_n hx hb dX6_number_97 rfl (lv_at hl 3 rfl) ?_
        obtain ⟨r38, h39, hm⟩ := ob hm
        refine k_rSi S hK hw.1 cal_X6_in gX6_number_X6_in (c_X6_in l D cC cI cJ y30 p0 p1 r38 h39) ⟨⟨rfl, rfl⟩, Nat.le_of_ble_eq_true rfl, Nat.le_of_ble_eq_true rfl⟩ [] rfl rfl hl.1 rfl (Nat.le_of_ble_eq_true rfl) dX6_number_98 ⟨Nat.zero_le _, Nat.zero_le _⟩ ?_
        refine lv_if_eq (tgt := 108) hx hb dX6_number_101 (by decide) (fun c40 => ?_) (fun c40 => ?_)
        · replace hm := ipos hm c40
          refine lv_iconst (v := 0) hx hb dX6_number_108 (by decide) ?_
          refine lv_istore (lv' := [(5, .int (0 : Int32)), (4, .int y30), (0, .ref a_md), (1, .int p0), (2, .int p1), (3, .int p2)]) hx hb dX6_number_109 hl (by decide) rfl (fun ls hl => ?_)
          refine lv_aload_n hx hb dX6_number_111 rfl (lv_at hl 2 rfl) ?_
          refine lv_dup hx hb dX6_number_112 rfl ?_
          refine f_get S hK hw.1 in_X6_number_X6 0 rfl rfl 11 (by decide) (List.mem_of_getElem? (i := 1) rfl) rfl rfl dX6_number_113 ?_
          refine lv_iconst (v := 1) hx hb dX6_number_116 (by decide) ?_
          refine lv_iadd hx hb dX6_number_117 ?_
          refine f_put S hK hw in_X6_number_X6 tyX6_ok nmX6 0 rfl rfl 11 (by decide) (List.mem_of_getElem? (i := 1) rfl) rfl rfl rfl rfl (Nat.le_of_ble_eq_true rfl) (ws1 := (wd_28 cC cI cJ a_md a_md_text md_typed a_md_told a_md_draft a_md_s a_md_past md_known a_md_images md_kept a_md_seen md_sights (y32 + (1 : Int32)) a_md_asks a_md_brings a_md_uses a_md_days a_md_tries a_md_row md_many a_md_first md_length md_set a_md_held a_md_text md_text a_md_told md_told a_md_draft md_draft a_md_s md_s a_md_past md_past a_md_images md_images a_md_seen md_seen a_md_asks md_asks a_md_brings md_brings a_md_uses md_uses a_md_days md_days a_md_tries md_tries a_md_row md_row a_md_first md_first a_md_held md_held)) rfl dX6_number_118 (fun H locs hw => ?_)
          refine lv_iload hx hb dX6_number_121 (lv_at hl 0 rfl) ?_
          refine lv_if_eq (tgt := 131) hx hb dX6_number_123 (by decide) (fun c41 => ?_) (fun c41 => ?_)
          · skip
            refine lv_iconst (v := (-1)) hx hb dX6_number_131 (by decide) ?_
            obtain rfl := Option.some.inj hm
            exact e_WI S hr hlk hw rfl hw.1 dX6_number_132
          · exact absurd (by decide) c41
        · replace hm := ineg hm c40
          refine lv_iconst (v := 1) hx hb dX6_number_104 (by decide) ?_
          refine lv_goto (tgt := 109) hx hb dX6_number_105 (by decide) ?_
          refine lv_istore (lv' := [(5, .int (1 : Int32)), (4, .int y30), (0, .ref a_md), (1, .int p0), (2, .int p1), (3, .int p2)]) hx hb dX6_number_109 hl (by decide) rfl (fun ls hl => ?_)
          refine lv_aload_n hx hb dX6_number_111 rfl (lv_at hl 2 rfl) ?_
          refine lv_dup hx hb dX6_number_112 rfl ?_
          refine f_get S hK hw.1 in_X6_number_X6 0 rfl rfl 11 (by decide) (List.mem_of_getElem? (i := 1) rfl) rfl rfl dX6_number_113 ?_
          refine lv_iconst (v := 1) hx hb dX6_number_116 (by decide) ?_
          refine lv_iadd hx hb dX6_number_117 ?_
          refine f_put S hK hw in_X6_number_X6 tyX6_ok nmX6 0 rfl rfl 11 (by decide) (List.mem_of_getElem? (i := 1) rfl) rfl rfl rfl rfl (Nat.le_of_ble_eq_true rfl) (ws1 := (wd_28 cC cI cJ a_md a_md_text md_typed a_md_told a_md_draft a_md_s a_md_past md_known a_md_images md_kept a_md_seen md_sights (y32 + (1 : Int32)) a_md_asks a_md_brings a_md_uses a_md_days a_md_tries a_md_row md_many a_md_first md_length md_set a_md_held a_md_text md_text a_md_told md_told a_md_draft md_draft a_md_s md_s a_md_past md_past a_md_images md_images a_md_seen md_seen a_md_asks md_asks a_md_brings md_brings a_md_uses md_uses a_md_days md_days a_md_tries md_tries a_md_row md_row a_md_first md_first a_md_held md_held)) rfl dX6_number_118 (fun H locs hw => ?_)
          refine lv_iload hx hb dX6_number_121 (lv_at hl 0 rfl) ?_
          refine lv_if_eq (tgt := 131) hx hb dX6_number_123 (by decide) (fun c42 => ?_) (fun c42 => ?_)
          · exact absurd c42 (by decide)
          · skip
            refine lv_iload hx hb dX6_number_126 (lv_at hl 1 rfl) ?_
            refine lv_goto (tgt := 132) hx hb dX6_number_128 (by decide) ?_
            obtain rfl := Option.some.inj hm
            exact e_WI S hr hlk hw rfl hw.1 dX6_number_132
  · replace hm := ipos hm c5
    refine lv_iconst (v := (-1)) hx hb dX6_number_14 (by decide) ?_
    obtain rfl := Option.some.inj hm
    exact e_WI S hr hlk hw rfl hw.1 dX6_number_15

abbrev rX6_helperOf : Room := { frames := 0, cells := 0, slots := 0, locals := 0 }
theorem cal_X6_helperOf : Cal yX6_helperOf wsX6_helperOf cX6_helperOf 4 none RX6 2 := ⟨⟨_, rfl⟩, rfl, by decide +kernel, by decide +kernel, by decide +kernel⟩
theorem in_X6_helperOf_X6 : ∀ w ∈ wsX60, w ∈ wsX6_helperOf := fun _ h => (List.mem_cons_of_mem _ (List.mem_append_right _ h))
set_option maxHeartbeats 4000000 in
set_option maxRecDepth 100000 in
theorem c_X6_helperOf (l : Launch) (D : va_G) (cC cI cJ : ClassId) (a_md : Nat) (a_md_text : Nat) (a_md_told : Nat) (a_md_draft : Nat) (a_md_s : Nat) (a_md_past : Nat) (a_md_images : Nat) (a_md_seen : Nat) (a_md_asks : Nat) (a_md_brings : Nat) (a_md_uses : Nat) (a_md_days : Nat) (a_md_tries : Nat) (a_md_row : Nat) (a_md_first : Nat) (a_md_held : Nat) (md_typed : Int32) (md_known : Int32) (md_kept : Int32) (md_sights : Int32) (md_at : Int32) (md_many : Int32) (md_length : Int32) (md_set : Int32) (md_text : (Nat → Int32)) (md_told : (Nat → Int32)) (md_draft : (Nat → Int32)) (md_s : (Nat → Int32)) (md_past : (Nat → Int32)) (md_images : (Nat → Int32)) (md_seen : (Nat → Int32)) (md_asks : (Nat → Int32)) (md_brings : (Nat → Int32)) (md_uses : (Nat → Int32)) (md_days : (Nat → Int32)) (md_tries : (Nat → Int32)) (md_row : (Nat → Int32)) (md_first : (Nat → Int32)) (md_held : (Nat → Int32)) (p0 : Int32) (p1 : Int32) (A : Nat → Prop) (hD : va_D A (wd_28 cC cI cJ a_md a_md_text md_typed a_md_told a_md_draft a_md_s a_md_past md_known a_md_images md_kept a_md_seen md_sights md_at a_md_asks a_md_brings a_md_uses a_md_days a_md_tries a_md_row md_many a_md_first md_length md_set a_md_held a_md_text md_text a_md_told md_told a_md_draft md_draft a_md_s md_s a_md_past md_past a_md_images md_images a_md_seen md_seen a_md_asks md_asks a_md_brings md_brings a_md_uses md_uses a_md_days md_days a_md_tries md_tries a_md_row md_row a_md_first md_first a_md_held md_held)) (out : (Nat → Int32)) (hm : m_X6_helperOf md_draft p0 p1 = some out) : WrV l yX6_helperOf wsX6_helperOf rX6_helperOf D (tyK cC cI cJ) [.ref a_md, .int p0, .int p1] A (wd_28 cC cI cJ a_md a_md_text md_typed a_md_told a_md_draft a_md_s a_md_past md_known a_md_images md_kept a_md_seen md_sights md_at a_md_asks a_md_brings a_md_uses a_md_days a_md_tries a_md_row md_many a_md_first md_length md_set a_md_held a_md_text md_text a_md_told md_told a_md_draft md_draft a_md_s md_s a_md_past md_past a_md_images md_images a_md_seen md_seen a_md_asks md_asks a_md_brings md_brings a_md_uses md_uses a_md_days md_days a_md_tries md_tries a_md_row md_row a_md_first md_first a_md_held md_held) (Bw0 D (wd_28 cC cI cJ a_md a_md_text md_typed a_md_told a_md_draft a_md_s a_md_past md_known a_md_images md_kept a_md_seen md_sights md_at a_md_asks a_md_brings a_md_uses a_md_days a_md_tries a_md_row md_many a_md_first md_length md_set a_md_held a_md_text md_text a_md_told md_told a_md_draft out a_md_s md_s a_md_past md_past a_md_images md_images a_md_seen md_seen a_md_asks md_asks a_md_brings md_brings a_md_uses md_uses a_md_days md_days a_md_tries md_tries a_md_row md_row a_md_first md_first a_md_held md_held)) := by
  unfold m_X6_helperOf at hm
  refine enter (cc := cX6_helperOf) (maxL := 4) (ret := none) (lv := [(0, .ref a_md), (1, .int p0), (2, .int p1)]) (by decide) rfl (Nat.le_of_ble_eq_true rfl) rfl ?_
  intro p e s m args below meth c S hr hlk hK hP ls hl
  replace S : CallFix p m c cX6_helperOf 4 s args wsX6_helperOf RX6 := S
  have hx := S.1
  have hb := S.2.1
  have hw : Wd D A s.heap (wd_28 cC cI cJ a_md a_md_text md_typed a_md_told a_md_draft a_md_s a_md_past md_known a_md_images md_kept a_md_seen md_sights md_at a_md_asks a_md_brings a_md_uses a_md_days a_md_tries a_md_row md_many a_md_first md_length md_set a_md_held a_md_text md_text a_md_told md_told a_md_draft md_draft a_md_s md_s a_md_past md_past a_md_images md_images a_md_seen md_seen a_md_asks md_asks a_md_brings md_brings a_md_uses md_uses a_md_days md_days a_md_tries md_tries a_md_row md_row a_md_first md_first a_md_held md_held) s.heap [] := ⟨hP, hD, va_S.rf⟩
  have hw0 := hw
  refine lv_aload_n hx hb dX6_helperOf_0 rfl (lv_at hl 0 rfl) ?_
  refine f_get S hK hw.1 in_X6_helperOf_X6 0 rfl rfl 3 (by decide) (List.mem_of_getElem? (i := 1) rfl) rfl rfl dX6_helperOf_1 ?_
  refine lv_iconst (v := 1) hx hb dX6_helperOf_4 (by decide) ?_
  refine f_ialdK S hK hw.1 3 1 rfl rfl 1 (by decide) (by decide) (v := (md_draft 1)) rfl dX6_helperOf_5 ?_
  refine lv_istore_n (lv' := [(3, .int (md_draft 1)), (0, .ref a_md), (1, .int p0), (2, .int p1)]) hx hb dX6_helperOf_6 rfl hl (by decide) rfl (fun ls hl => ?_)
  refine lv_aload_n hx hb dX6_helperOf_7 rfl (lv_at hl 1 rfl) ?_
  refine f_get S hK hw.1 in_X6_helperOf_X6 0 rfl rfl 3 (by decide) (List.mem_of_getElem? (i := 1) rfl) rfl rfl dX6_helperOf_8 ?_
  refine lv_bipush (v := 37) hx hb dX6_helperOf_11 (by decide) ?_
  refine lv_iload_n hx hb dX6_helperOf_13 rfl (lv_at hl 0 rfl) ?_
  refine lv_iadd hx hb dX6_helperOf_14 ?_
  refine lv_iload_n hx hb dX6_helperOf_15 rfl (lv_at hl 2 rfl) ?_
  obtain ⟨g2, hm⟩ := gdo hm
  refine f_iast S hK hw 3 1 rfl rfl g2 (ws1 := (wd_28 cC cI cJ a_md a_md_text md_typed a_md_told a_md_draft a_md_s a_md_past md_known a_md_images md_kept a_md_seen md_sights md_at a_md_asks a_md_brings a_md_uses a_md_days a_md_tries a_md_row md_many a_md_first md_length md_set a_md_held a_md_text md_text a_md_told md_told a_md_draft (upd md_draft (((37 : Int32) + (md_draft 1))).toNatClampNeg p0) a_md_s md_s a_md_past md_past a_md_images md_images a_md_seen md_seen a_md_asks md_asks a_md_brings md_brings a_md_uses md_uses a_md_days md_days a_md_tries md_tries a_md_row md_row a_md_first md_first a_md_held md_held)) rfl dX6_helperOf_16 (fun H locs hw => ?_)
  refine lv_aload_n hx hb dX6_helperOf_17 rfl (lv_at hl 1 rfl) ?_
  refine f_get S hK hw.1 in_X6_helperOf_X6 0 rfl rfl 3 (by decide) (List.mem_of_getElem? (i := 1) rfl) rfl rfl dX6_helperOf_18 ?_
  refine lv_bipush (v := 44) hx hb dX6_helperOf_21 (by decide) ?_
  refine lv_iload_n hx hb dX6_helperOf_23 rfl (lv_at hl 0 rfl) ?_
  refine lv_iadd hx hb dX6_helperOf_24 ?_
  refine lv_iload_n hx hb dX6_helperOf_25 rfl (lv_at hl 3 rfl) ?_
  obtain ⟨g3, hm⟩ := gdo hm
  refine f_iast S hK hw 3 1 rfl rfl g3 (ws1 := (wd_28 cC cI cJ a_md a_md_text md_typed a_md_told a_md_draft a_md_s a_md_past md_known a_md_images md_kept a_md_seen md_sights md_at a_md_asks a_md_brings a_md_uses a_md_days a_md_tries a_md_row md_many a_md_first md_length md_set a_md_held a_md_text md_text a_md_told md_told a_md_draft (upd (upd md_draft (((37 : Int32) + (md_draft 1))).toNatClampNeg p0) (((44 : Int32) + (md_draft 1))).toNatClampNeg p1) a_md_s md_s a_md_past md_past a_md_images md_images a_md_seen md_seen a_md_asks md_asks a_md_brings md_brings a_md_uses md_uses a_md_days md_days a_md_tries md_tries a_md_row md_row a_md_first md_first a_md_held md_held)) rfl dX6_helperOf_26 (fun H locs hw => ?_)
  refine lv_aload_n hx hb dX6_helperOf_27 rfl (lv_at hl 1 rfl) ?_
  refine f_get S hK hw.1 in_X6_helperOf_X6 0 rfl rfl 3 (by decide) (List.mem_of_getElem? (i := 1) rfl) rfl rfl dX6_helperOf_28 ?_
  refine lv_iconst (v := 1) hx hb dX6_helperOf_31 (by decide) ?_
  refine lv_dup2_11 hx hb dX6_helperOf_32 rfl rfl ?_
  refine f_ialdK S hK hw.1 3 1 rfl rfl 1 (by decide) (by decide) (v := ((upd (upd md_draft (((37 : Int32) + (md_draft 1))).toNatClampNeg p0) (((44 : Int32) + (md_draft 1))).toNatClampNeg p1) 1)) rfl dX6_helperOf_33 ?_
  refine lv_iconst (v := 1) hx hb dX6_helperOf_34 (by decide) ?_
  refine lv_iadd hx hb dX6_helperOf_35 ?_
  obtain ⟨y6, e7, hm⟩ := ob hm
  refine f_name e7 ?_
  refine f_iastK S hK hw 3 1 rfl rfl 1 (by decide) (by decide) (ws1 := (wd_28 cC cI cJ a_md a_md_text md_typed a_md_told a_md_draft a_md_s a_md_past md_known a_md_images md_kept a_md_seen md_sights md_at a_md_asks a_md_brings a_md_uses a_md_days a_md_tries a_md_row md_many a_md_first md_length md_set a_md_held a_md_text md_text a_md_told md_told a_md_draft (upd (upd (upd md_draft (((37 : Int32) + (md_draft 1))).toNatClampNeg p0) (((44 : Int32) + (md_draft 1))).toNatClampNeg p1) 1 y6) a_md_s md_s a_md_past md_past a_md_images md_images a_md_seen md_seen a_md_asks md_asks a_md_brings md_brings a_md_uses md_uses a_md_days md_days a_md_tries md_tries a_md_row md_row a_md_first md_first a_md_held md_held)) rfl dX6_helperOf_36 (fun H locs hw => ?_)
  obtain rfl := Option.some.inj hm
  exact e_WV S hr hlk hw hw.1 dX6_helperOf_37

abbrev rX6_taskOf : Room := { frames := 0, cells := 0, slots := 0, locals := 0 }
theorem cal_X6_taskOf : Cal yX6_taskOf wsX6_taskOf cX6_taskOf 6 none RX6 4 := ⟨⟨_, rfl⟩, rfl, by decide +kernel, by decide +kernel, by decide +kernel⟩
theorem in_X6_taskOf_X6 : ∀ w ∈ wsX60, w ∈ wsX6_taskOf := fun _ h => (List.mem_cons_of_mem _ (List.mem_append_right _ h))
set_option maxHeartbeats 4000000 in
set_option maxRecDepth 100000 in
theorem c_X6_taskOf (l : Launch) (D : va_G) (cC cI cJ : ClassId) (a_md : Nat) (a_md_text : Nat) (a_md_told : Nat) (a_md_draft : Nat) (a_md_s : Nat) (a_md_past : Nat) (a_md_images : Nat) (a_md_seen : Nat) (a_md_asks : Nat) (a_md_brings : Nat) (a_md_uses : Nat) (a_md_days : Nat) (a_md_tries : Nat) (a_md_row : Nat) (a_md_first : Nat) (a_md_held : Nat) (md_typed : Int32) (md_known : Int32) (md_kept : Int32) (md_sights : Int32) (md_at : Int32) (md_many : Int32) (md_length : Int32) (md_set : Int32) (md_text : (Nat → Int32)) (md_told : (Nat → Int32)) (md_draft : (Nat → Int32)) (md_s : (Nat → Int32)) (md_past : (Nat → Int32)) (md_images : (Nat → Int32)) (md_seen : (Nat → Int32)) (md_asks : (Nat → Int32)) (md_brings : (Nat → Int32)) (md_uses : (Nat → Int32)) (md_days : (Nat → Int32)) (md_tries : (Nat → Int32)) (md_row : (Nat → Int32)) (md_first : (Nat → Int32)) (md_held : (Nat → Int32)) (p0 : Int32) (p1 : Int32) (p2 : Int32) (p3 : Int32) (A : Nat → Prop) (hD : va_D A (wd_28 cC cI cJ a_md a_md_text md_typed a_md_told a_md_draft a_md_s a_md_past md_known a_md_images md_kept a_md_seen md_sights md_at a_md_asks a_md_brings a_md_uses a_md_days a_md_tries a_md_row md_many a_md_first md_length md_set a_md_held a_md_text md_text a_md_told md_told a_md_draft md_draft a_md_s md_s a_md_past md_past a_md_images md_images a_md_seen md_seen a_md_asks md_asks a_md_brings md_brings a_md_uses md_uses a_md_days md_days a_md_tries md_tries a_md_row md_row a_md_first md_first a_md_held md_held)) (out : (Nat → Int32)) (hm : m_X6_taskOf md_draft p0 p1 p2 p3 = some out) : WrV l yX6_taskOf wsX6_taskOf rX6_taskOf D (tyK cC cI cJ) [.ref a_md, .int p0, .int p1, .int p2, .int p3] A (wd_28 cC cI cJ a_md a_md_text md_typed a_md_told a_md_draft a_md_s a_md_past md_known a_md_images md_kept a_md_seen md_sights md_at a_md_asks a_md_brings a_md_uses a_md_days a_md_tries a_md_row md_many a_md_first md_length md_set a_md_held a_md_text md_text a_md_told md_told a_md_draft md_draft a_md_s md_s a_md_past md_past a_md_images md_images a_md_seen md_seen a_md_asks md_asks a_md_brings md_brings a_md_uses md_uses a_md_days md_days a_md_tries md_tries a_md_row md_row a_md_first md_first a_md_held md_held) (Bw0 D (wd_28 cC cI cJ a_md a_md_text md_typed a_md_told a_md_draft a_md_s a_md_past md_known a_md_images md_kept a_md_seen md_sights md_at a_md_asks a_md_brings a_md_uses a_md_days a_md_tries a_md_row md_many a_md_first md_length md_set a_md_held a_md_text md_text a_md_told md_told a_md_draft out a_md_s md_s a_md_past md_past a_md_images md_images a_md_seen md_seen a_md_asks md_asks a_md_brings md_brings a_md_uses md_uses a_md_days md_days a_md_tries md_tries a_md_row md_row a_md_first md_first a_md_held md_held)) := by
  unfold m_X6_taskOf at hm
  refine enter (cc := cX6_taskOf) (maxL := 6) (ret := none) (lv := [(0, .ref a_md), (1, .int p0), (2, .int p1), (3, .int p2), (4, .int p3)]) (by decide) rfl (Nat.le_of_ble_eq_true rfl) rfl ?_
  intro p e s m args below meth c S hr hlk hK hP ls hl
  replace S : CallFix p m c cX6_taskOf 6 s args wsX6_taskOf RX6 := S
  have hx := S.1
  have hb := S.2.1
  have hw : Wd D A s.heap (wd_28 cC cI cJ a_md a_md_text md_typed a_md_told a_md_draft a_md_s a_md_past md_known a_md_images md_kept a_md_seen md_sights md_at a_md_asks a_md_brings a_md_uses a_md_days a_md_tries a_md_row md_many a_md_first md_length md_set a_md_held a_md_text md_text a_md_told md_told a_md_draft md_draft a_md_s md_s a_md_past md_past a_md_images md_images a_md_seen md_seen a_md_asks md_asks a_md_brings md_brings a_md_uses md_uses a_md_days md_days a_md_tries md_tries a_md_row md_row a_md_first md_first a_md_held md_held) s.heap [] := ⟨hP, hD, va_S.rf⟩
  have hw0 := hw
  refine lv_aload_n hx hb dX6_taskOf_0 rfl (lv_at hl 0 rfl) ?_
  refine f_get S hK hw.1 in_X6_taskOf_X6 0 rfl rfl 3 (by decide) (List.mem_of_getElem? (i := 1) rfl) rfl rfl dX6_taskOf_1 ?_
  refine lv_iconst (v := 0) hx hb dX6_taskOf_4 (by decide) ?_
  refine f_ialdK S hK hw.1 3 1 rfl rfl 0 (by decide) (by decide) (v := (md_draft 0)) rfl dX6_taskOf_5 ?_
  refine lv_istore (lv' := [(5, .int (md_draft 0)), (0, .ref a_md), (1, .int p0), (2, .int p1), (3, .int p2), (4, .int p3)]) hx hb dX6_taskOf_6 hl (by decide) rfl (fun ls hl => ?_)
  refine lv_aload_n hx hb dX6_taskOf_8 rfl (lv_at hl 1 rfl) ?_
  refine f_get S hK hw.1 in_X6_taskOf_X6 0 rfl rfl 3 (by decide) (List.mem_of_getElem? (i := 1) rfl) rfl rfl dX6_taskOf_9 ?_
  refine lv_iconst (v := 5) hx hb dX6_taskOf_12 (by decide) ?_
  refine lv_iload hx hb dX6_taskOf_13 (lv_at hl 0 rfl) ?_
  refine lv_iadd hx hb dX6_taskOf_15 ?_
  refine lv_iload_n hx hb dX6_taskOf_16 rfl (lv_at hl 2 rfl) ?_
  obtain ⟨g2, hm⟩ := gdo hm
  refine f_iast S hK hw 3 1 rfl rfl g2 (ws1 := (wd_28 cC cI cJ a_md a_md_text md_typed a_md_told a_md_draft a_md_s a_md_past md_known a_md_images md_kept a_md_seen md_sights md_at a_md_asks a_md_brings a_md_uses a_md_days a_md_tries a_md_row md_many a_md_first md_length md_set a_md_held a_md_text md_text a_md_told md_told a_md_draft (upd md_draft (((5 : Int32) + (md_draft 0))).toNatClampNeg p0) a_md_s md_s a_md_past md_past a_md_images md_images a_md_seen md_seen a_md_asks md_asks a_md_brings md_brings a_md_uses md_uses a_md_days md_days a_md_tries md_tries a_md_row md_row a_md_first md_first a_md_held md_held)) rfl dX6_taskOf_17 (fun H locs hw => ?_)
  refine lv_aload_n hx hb dX6_taskOf_18 rfl (lv_at hl 1 rfl) ?_
  refine f_get S hK hw.1 in_X6_taskOf_X6 0 rfl rfl 3 (by decide) (List.mem_of_getElem? (i := 1) rfl) rfl rfl dX6_taskOf_19 ?_
  refine lv_bipush (v := 13) hx hb dX6_taskOf_22 (by decide) ?_
  refine lv_iload hx hb dX6_taskOf_24 (lv_at hl 0 rfl) ?_
  refine lv_iadd hx hb dX6_taskOf_26 ?_
  refine lv_iload_n hx hb dX6_taskOf_27 rfl (lv_at hl 3 rfl) ?_
  obtain ⟨g3, hm⟩ := gdo hm
  refine f_iast S hK hw 3 1 rfl rfl g3 (ws1 := (wd_28 cC cI cJ a_md a_md_text md_typed a_md_told a_md_draft a_md_s a_md_past md_known a_md_images md_kept a_md_seen md_sights md_at a_md_asks a_md_brings a_md_uses a_md_days a_md_tries a_md_row md_many a_md_first md_length md_set a_md_held a_md_text md_text a_md_told md_told a_md_draft (upd (upd md_draft (((5 : Int32) + (md_draft 0))).toNatClampNeg p0) (((13 : Int32) + (md_draft 0))).toNatClampNeg p1) a_md_s md_s a_md_past md_past a_md_images md_images a_md_seen md_seen a_md_asks md_asks a_md_brings md_brings a_md_uses md_uses a_md_days md_days a_md_tries md_tries a_md_row md_row a_md_first md_first a_md_held md_held)) rfl dX6_taskOf_28 (fun H locs hw => ?_)
  refine lv_aload_n hx hb dX6_taskOf_29 rfl (lv_at hl 1 rfl) ?_
  refine f_get S hK hw.1 in_X6_taskOf_X6 0 rfl rfl 3 (by decide) (List.mem_of_getElem? (i := 1) rfl) rfl rfl dX6_taskOf_30 ?_
  refine lv_bipush (v := 21) hx hb dX6_taskOf_33 (by decide) ?_
  refine lv_iload hx hb dX6_taskOf_35 (lv_at hl 0 rfl) ?_
  refine lv_iadd hx hb dX6_taskOf_37 ?_
  refine lv_iload_n hx hb dX6_taskOf_38 rfl (lv_at hl 4 rfl) ?_
  obtain ⟨g4, hm⟩ := gdo hm
  refine f_iast S hK hw 3 1 rfl rfl g4 (ws1 := (wd_28 cC cI cJ a_md a_md_text md_typed a_md_told a_md_draft a_md_s a_md_past md_known a_md_images md_kept a_md_seen md_sights md_at a_md_asks a_md_brings a_md_uses a_md_days a_md_tries a_md_row md_many a_md_first md_length md_set a_md_held a_md_text md_text a_md_told md_told a_md_draft (upd (upd (upd md_draft (((5 : Int32) + (md_draft 0))).toNatClampNeg p0) (((13 : Int32) + (md_draft 0))).toNatClampNeg p1) (((21 : Int32) + (md_draft 0))).toNatClampNeg p2) a_md_s md_s a_md_past md_past a_md_images md_images a_md_seen md_seen a_md_asks md_asks a_md_brings md_brings a_md_uses md_uses a_md_days md_days a_md_tries md_tries a_md_row md_row a_md_first md_first a_md_held md_held)) rfl dX6_taskOf_39 (fun H locs hw => ?_)
  refine lv_aload_n hx hb dX6_taskOf_40 rfl (lv_at hl 1 rfl) ?_
  refine f_get S hK hw.1 in_X6_taskOf_X6 0 rfl rfl 3 (by decide) (List.mem_of_getElem? (i := 1) rfl) rfl rfl dX6_taskOf_41 ?_
  refine lv_bipush (v := 29) hx hb dX6_taskOf_44 (by decide) ?_
  refine lv_iload hx hb dX6_taskOf_46 (lv_at hl 0 rfl) ?_
  refine lv_iadd hx hb dX6_taskOf_48 ?_
  refine lv_iload hx hb dX6_taskOf_49 (lv_at hl 5 rfl) ?_
  obtain ⟨g5, hm⟩ := gdo hm
  refine f_iast S hK hw 3 1 rfl rfl g5 (ws1 := (wd_28 cC cI cJ a_md a_md_text md_typed a_md_told a_md_draft a_md_s a_md_past md_known a_md_images md_kept a_md_seen md_sights md_at a_md_asks a_md_brings a_md_uses a_md_days a_md_tries a_md_row md_many a_md_first md_length md_set a_md_held a_md_text md_text a_md_told md_told a_md_draft (upd (upd (upd (upd md_draft (((5 : Int32) + (md_draft 0))).toNatClampNeg p0) (((13 : Int32) + (md_draft 0))).toNatClampNeg p1) (((21 : Int32) + (md_draft 0))).toNatClampNeg p2) (((29 : Int32) + (md_draft 0))).toNatClampNeg p3) a_md_s md_s a_md_past md_past a_md_images md_images a_md_seen md_seen a_md_asks md_asks a_md_brings md_brings a_md_uses md_uses a_md_days md_days a_md_tries md_tries a_md_row md_row a_md_first md_first a_md_held md_held)) rfl dX6_taskOf_51 (fun H locs hw => ?_)
  refine lv_aload_n hx hb dX6_taskOf_52 rfl (lv_at hl 1 rfl) ?_
  refine f_get S hK hw.1 in_X6_taskOf_X6 0 rfl rfl 3 (by decide) (List.mem_of_getElem? (i := 1) rfl) rfl rfl dX6_taskOf_53 ?_
  refine lv_iconst (v := 0) hx hb dX6_taskOf_56 (by decide) ?_
  refine lv_dup2_11 hx hb dX6_taskOf_57 rfl rfl ?_
  refine f_ialdK S hK hw.1 3 1 rfl rfl 0 (by decide) (by decide) (v := ((upd (upd (upd (upd md_draft (((5 : Int32) + (md_draft 0))).toNatClampNeg p0) (((13 : Int32) + (md_draft 0))).toNatClampNeg p1) (((21 : Int32) + (md_draft 0))).toNatClampNeg p2) (((29 : Int32) + (md_draft 0))).toNatClampNeg p3) 0)) rfl dX6_taskOf_58 ?_
  refine lv_iconst (v := 1) hx hb dX6_taskOf_59 (by decide) ?_
  refine lv_iadd hx hb dX6_taskOf_60 ?_
  obtain ⟨y8, e9, hm⟩ := ob hm
  refine f_name e9 ?_
  refine f_iastK S hK hw 3 1 rfl rfl 0 (by decide) (by decide) (ws1 := (wd_28 cC cI cJ a_md a_md_text md_typed a_md_told a_md_draft a_md_s a_md_past md_known a_md_images md_kept a_md_seen md_sights md_at a_md_asks a_md_brings a_md_uses a_md_days a_md_tries a_md_row md_many a_md_first md_length md_set a_md_held a_md_text md_text a_md_told md_told a_md_draft (upd (upd (upd (upd (upd md_draft (((5 : Int32) + (md_draft 0))).toNatClampNeg p0) (((13 : Int32) + (md_draft 0))).toNatClampNeg p1) (((21 : Int32) + (md_draft 0))).toNatClampNeg p2) (((29 : Int32) + (md_draft 0))).toNatClampNeg p3) 0 y8) a_md_s md_s a_md_past md_past a_md_images md_images a_md_seen md_seen a_md_asks md_asks a_md_brings md_brings a_md_uses md_uses a_md_days md_days a_md_tries md_tries a_md_row md_row a_md_first md_first a_md_held md_held)) rfl dX6_taskOf_61 (fun H locs hw => ?_)
  obtain rfl := Option.some.inj hm
  exact e_WV S hr hlk hw hw.1 dX6_taskOf_62
