/-! walks: X6_keep X6_rides X6_steps X6_king X6_lays -/
abbrev rX6_keep : Room := { frames := 0, cells := 0, slots := 0, locals := 0 }
theorem cal_X6_keep : Cal yX6_keep wsX6_keep cX6_keep 2 (some .int) RX6 0 := ⟨⟨_, rfl⟩, rfl, by decide +kernel, by decide +kernel, by decide +kernel⟩
theorem in_X6_keep_X6 : ∀ w ∈ wsX60, w ∈ wsX6_keep := fun _ h => (List.mem_cons_of_mem _ (List.mem_append_right _ h))
set_option maxHeartbeats 4000000 in
set_option maxRecDepth 100000 in
theorem t_X6_keep_13 {p : Program} {e : Env} {s : State} {m : MethodId} {args : Array Value} {below : List Frame} {meth : Method} {c : Code} {Q : State → Prop} (l : Launch) {D : va_G} {cC cI cJ : ClassId} {A : Nat → Prop} {H0 : Heap} (S : CallFix p m c cX6_keep 2 s args wsX6_keep RX6) (hK : KK D (tyK cC cI cJ) s) (a_md : Nat) (a_md_text : Nat) (a_md_told : Nat) (a_md_draft : Nat) (a_md_s : Nat) (a_md_past : Nat) (a_md_images : Nat) (a_md_seen : Nat) (a_md_asks : Nat) (a_md_brings : Nat) (a_md_uses : Nat) (a_md_days : Nat) (a_md_tries : Nat) (a_md_row : Nat) (a_md_first : Nat) (a_md_held : Nat) (md_typed : Int32) (md_known : Int32) (md_kept : Int32) (md_sights : Int32) (md_at : Int32) (md_many : Int32) (md_length : Int32) (md_set : Int32) (md_text : (Nat → Int32)) (md_told : (Nat → Int32)) (md_draft : (Nat → Int32)) (md_s : (Nat → Int32)) (md_past : (Nat → Int32)) (md_seen : (Nat → Int32)) (md_asks : (Nat → Int32)) (md_brings : (Nat → Int32)) (md_uses : (Nat → Int32)) (md_days : (Nat → Int32)) (md_tries : (Nat → Int32)) (md_row : (Nat → Int32)) (md_first : (Nat → Int32)) (md_held : (Nat → Int32)) : ∀ (n : Nat) (v1 : Int32) (md_images : (Nat → Int32)) (out : (Nat → Int32)), lp_X6_keep_13 md_kept md_s n v1 md_images = some out → ∀ (H : Heap) (locs : List Loc) (ls : Array Slot), Wd D A H0 (wd_28 cC cI cJ a_md a_md_text md_typed a_md_told a_md_draft a_md_s a_md_past md_known a_md_images md_kept a_md_seen md_sights md_at a_md_asks a_md_brings a_md_uses a_md_days a_md_tries a_md_row md_many a_md_first md_length md_set a_md_held a_md_text md_text a_md_told md_told a_md_draft md_draft a_md_s md_s a_md_past md_past a_md_images md_images a_md_seen md_seen a_md_asks md_asks a_md_brings md_brings a_md_uses md_uses a_md_days md_days a_md_tries md_tries a_md_row md_row a_md_first md_first a_md_held md_held) H locs → lv_has ls 2 [(0, .ref a_md), (1, .int v1)] → (∀ (H : Heap) (locs : List Loc) (ls : Array Slot), Wd D A H0 (wd_28 cC cI cJ a_md a_md_text md_typed a_md_told a_md_draft a_md_s a_md_past md_known a_md_images md_kept a_md_seen md_sights md_at a_md_asks a_md_brings a_md_uses a_md_days a_md_tries a_md_row md_many a_md_first md_length md_set a_md_held a_md_text md_text a_md_told md_told a_md_draft md_draft a_md_s md_s a_md_past md_past a_md_images out a_md_seen md_seen a_md_asks md_asks a_md_brings md_brings a_md_uses md_uses a_md_days md_days a_md_tries md_tries a_md_row md_row a_md_first md_first a_md_held md_held) H locs → lv_has ls 2 [(0, .ref a_md)] → W p l e rX6_keep s m args below meth c H locs 0 0 Q (F0 m 45 ls [])) → W p l e rX6_keep s m args below meth c H locs 0 0 Q (F0 m 13 ls []) := by
  have hx := S.1
  have hb := S.2.1
  intro n
  induction n with
  | zero => intro v1 md_images out hm; cases (show (none : Option (Nat → Int32)) = some out from hm)
  | succ n ih =>
    intro v1 md_images out hm  H locs ls hw hl K0
    rw [lp_X6_keep_13] at hm
    refine lv_iload_n hx hb dX6_keep_13 rfl (lv_at hl 1 rfl) ?_
    refine lv_bipush (v := 6) hx hb dX6_keep_14 (by decide) ?_
    refine lv_icmp_ge (tgt := 45) hx hb dX6_keep_16 (by decide) (fun c2 => ?_) (fun c2 => ?_)
    · replace hm := ipos hm c2
      obtain rfl := Option.some.inj hm
      exact K0  _ _ ls hw (lv_sub hl [0] rfl)
    · replace hm := ineg hm c2
      refine lv_aload_n hx hb dX6_keep_19 rfl (lv_at hl 0 rfl) ?_
      refine f_get S hK hw.1 in_X6_keep_X6 0 rfl rfl 7 (by decide) (List.mem_of_getElem? (i := 2) rfl) rfl rfl dX6_keep_20 ?_
      refine lv_bipush (v := 6) hx hb dX6_keep_23 (by decide) ?_
      refine lv_aload_n hx hb dX6_keep_25 rfl (lv_at hl 0 rfl) ?_
      refine f_get S hK hw.1 in_X6_keep_X6 0 rfl rfl 8 (by decide) (List.mem_of_getElem? (i := 1) rfl) rfl rfl dX6_keep_26 ?_
      refine lv_imul hx hb dX6_keep_29 ?_
      refine lv_iload_n hx hb dX6_keep_30 rfl (lv_at hl 1 rfl) ?_
      refine lv_iadd hx hb dX6_keep_31 ?_
      refine lv_aload_n hx hb dX6_keep_32 rfl (lv_at hl 0 rfl) ?_
      refine f_get S hK hw.1 in_X6_keep_X6 0 rfl rfl 4 (by decide) (List.mem_of_getElem? (i := 3) rfl) rfl rfl dX6_keep_33 ?_
      refine lv_iload_n hx hb dX6_keep_36 rfl (lv_at hl 1 rfl) ?_
      obtain ⟨g3, hm⟩ := gdo hm
      refine f_iald S hK hw.1 4 1 rfl rfl g3 dX6_keep_37 ?_
      obtain ⟨g4, hm⟩ := gdo hm
      refine f_iast S hK hw 6 1 rfl rfl g4 (ws1 := (wd_28 cC cI cJ a_md a_md_text md_typed a_md_told a_md_draft a_md_s a_md_past md_known a_md_images md_kept a_md_seen md_sights md_at a_md_asks a_md_brings a_md_uses a_md_days a_md_tries a_md_row md_many a_md_first md_length md_set a_md_held a_md_text md_text a_md_told md_told a_md_draft md_draft a_md_s md_s a_md_past md_past a_md_images (upd md_images ((((6 : Int32) * md_kept) + v1)).toNatClampNeg (md_s (v1).toNatClampNeg)) a_md_seen md_seen a_md_asks md_asks a_md_brings md_brings a_md_uses md_uses a_md_days md_days a_md_tries md_tries a_md_row md_row a_md_first md_first a_md_held md_held)) rfl dX6_keep_38 (fun H locs hw => ?_)
      refine lv_iinc (v := (v1 + 1)) (lv' := [(1, .int (v1 + 1)), (0, .ref a_md)]) hx hb dX6_keep_39 hl (k := 1) rfl (by rw [ofi_1]) (by decide) rfl (fun ls hl => ?_)
      refine lv_goto (tgt := 13) hx hb dX6_keep_42 (by decide) ?_
      exact ih (v1 + 1) (upd md_images ((((6 : Int32) * md_kept) + v1)).toNatClampNeg (md_s (v1).toNatClampNeg)) _ hm  _ _ ls hw (lv_sub hl [1, 0] rfl) K0
set_option maxHeartbeats 4000000 in
set_option maxRecDepth 100000 in
theorem c_X6_keep (l : Launch) (D : va_G) (cC cI cJ : ClassId) (a_md : Nat) (a_md_text : Nat) (a_md_told : Nat) (a_md_draft : Nat) (a_md_s : Nat) (a_md_past : Nat) (a_md_images : Nat) (a_md_seen : Nat) (a_md_asks : Nat) (a_md_brings : Nat) (a_md_uses : Nat) (a_md_days : Nat) (a_md_tries : Nat) (a_md_row : Nat) (a_md_first : Nat) (a_md_held : Nat) (md_typed : Int32) (md_known : Int32) (md_kept : Int32) (md_sights : Int32) (md_at : Int32) (md_many : Int32) (md_length : Int32) (md_set : Int32) (md_text : (Nat → Int32)) (md_told : (Nat → Int32)) (md_draft : (Nat → Int32)) (md_s : (Nat → Int32)) (md_past : (Nat → Int32)) (md_images : (Nat → Int32)) (md_seen : (Nat → Int32)) (md_asks : (Nat → Int32)) (md_brings : (Nat → Int32)) (md_uses : (Nat → Int32)) (md_days : (Nat → Int32)) (md_tries : (Nat → Int32)) (md_row : (Nat → Int32)) (md_first : (Nat → Int32)) (md_held : (Nat → Int32)) (N : Nat) (A : Nat → Prop) (hD : va_D A (wd_28 cC cI cJ a_md a_md_text md_typed a_md_told a_md_draft a_md_s a_md_past md_known a_md_images md_kept a_md_seen md_sights md_at a_md_asks a_md_brings a_md_uses a_md_days a_md_tries a_md_row md_many a_md_first md_length md_set a_md_held a_md_text md_text a_md_told md_told a_md_draft md_draft a_md_s md_s a_md_past md_past a_md_images md_images a_md_seen md_seen a_md_asks md_asks a_md_brings md_brings a_md_uses md_uses a_md_days md_days a_md_tries md_tries a_md_row md_row a_md_first md_first a_md_held md_held)) (out : (Int32 × Int32 × (Nat → Int32))) (hm : m_X6_keep N md_kept md_s md_images = some out) : WrI l yX6_keep wsX6_keep rX6_keep D (tyK cC cI cJ) [.ref a_md] A (wd_28 cC cI cJ a_md a_md_text md_typed a_md_told a_md_draft a_md_s a_md_past md_known a_md_images md_kept a_md_seen md_sights md_at a_md_asks a_md_brings a_md_uses a_md_days a_md_tries a_md_row md_many a_md_first md_length md_set a_md_held a_md_text md_text a_md_told md_told a_md_draft md_draft a_md_s md_s a_md_past md_past a_md_images md_images a_md_seen md_seen a_md_asks md_asks a_md_brings md_brings a_md_uses md_uses a_md_days md_days a_md_tries md_tries a_md_row md_row a_md_first md_first a_md_held md_held) (Bw0 D (wd_28 cC cI cJ a_md a_md_text md_typed a_md_told a_md_draft a_md_s a_md_past md_known a_md_images out.2.1 a_md_seen md_sights md_at a_md_asks a_md_brings a_md_uses a_md_days a_md_tries a_md_row md_many a_md_first md_length md_set a_md_held a_md_text md_text a_md_told md_told a_md_draft md_draft a_md_s md_s a_md_past md_past a_md_images out.2.2 a_md_seen md_seen a_md_asks md_asks a_md_brings md_brings a_md_uses md_uses a_md_days md_days a_md_tries md_tries a_md_row md_row a_md_first md_first a_md_held md_held)) out.1 := by
  unfold m_X6_keep at hm
  refine enter (cc := cX6_keep) (maxL := 2) (ret := (some .int)) (lv := [(0, .ref a_md)]) (by decide) rfl (Nat.le_of_ble_eq_true rfl) rfl ?_
  intro p e s m args below meth c S hr hlk hK hP ls hl
  replace S : CallFix p m c cX6_keep 2 s args wsX6_keep RX6 := S
  have hx := S.1
  have hb := S.2.1
  have hw : Wd D A s.heap (wd_28 cC cI cJ a_md a_md_text md_typed a_md_told a_md_draft a_md_s a_md_past md_known a_md_images md_kept a_md_seen md_sights md_at a_md_asks a_md_brings a_md_uses a_md_days a_md_tries a_md_row md_many a_md_first md_length md_set a_md_held a_md_text md_text a_md_told md_told a_md_draft md_draft a_md_s md_s a_md_past md_past a_md_images md_images a_md_seen md_seen a_md_asks md_asks a_md_brings md_brings a_md_uses md_uses a_md_days md_days a_md_tries md_tries a_md_row md_row a_md_first md_first a_md_held md_held) s.heap [] := ⟨hP, hD, va_S.rf⟩
  have hw0 := hw
  refine lv_aload_n hx hb dX6_keep_0 rfl (lv_at hl 0 rfl) ?_
  refine f_get S hK hw.1 in_X6_keep_X6 0 rfl rfl 8 (by decide) (List.mem_of_getElem? (i := 1) rfl) rfl rfl dX6_keep_1 ?_
  refine lv_iconst (v := 2) hx hb dX6_keep_4 (by decide) ?_
  refine lv_icmp_ne (tgt := 11) hx hb dX6_keep_5 (by decide) (fun c1 => ?_) (fun c1 => ?_)
  · replace hm := ineg hm c1
    refine lv_iconst (v := 0) hx hb dX6_keep_11 (by decide) ?_
    refine lv_istore_n (lv' := [(1, .int (0 : Int32)), (0, .ref a_md)]) hx hb dX6_keep_12 rfl hl (by decide) rfl (fun ls hl => ?_)
    obtain ⟨r5, h6, hm⟩ := ob hm
    refine t_X6_keep_13 l S hK a_md a_md_text a_md_told a_md_draft a_md_s a_md_past a_md_images a_md_seen a_md_asks a_md_brings a_md_uses a_md_days a_md_tries a_md_row a_md_first a_md_held md_typed md_known md_kept md_sights md_at md_many md_length md_set md_text md_told md_draft md_s md_past md_seen md_asks md_brings md_uses md_days md_tries md_row md_first md_held N (0 : Int32) md_images r5 h6  _ _ ls hw (lv_sub hl [1, 0] rfl) (fun H locs ls hw hl => ?_)
    refine lv_aload_n hx hb dX6_keep_45 rfl (lv_at hl 0 rfl) ?_
    refine lv_dup hx hb dX6_keep_46 rfl ?_
    refine f_get S hK hw.1 in_X6_keep_X6 0 rfl rfl 8 (by decide) (List.mem_of_getElem? (i := 1) rfl) rfl rfl dX6_keep_47 ?_
    refine lv_iconst (v := 1) hx hb dX6_keep_50 (by decide) ?_
    refine lv_iadd hx hb dX6_keep_51 ?_
    refine f_put S hK hw in_X6_keep_X6 tyX6_ok nmX6 0 rfl rfl 8 (by decide) (List.mem_of_getElem? (i := 1) rfl) rfl rfl rfl rfl (Nat.le_of_ble_eq_true rfl) (ws1 := (wd_28 cC cI cJ a_md a_md_text md_typed a_md_told a_md_draft a_md_s a_md_past md_known a_md_images (md_kept + (1 : Int32)) a_md_seen md_sights md_at a_md_asks a_md_brings a_md_uses a_md_days a_md_tries a_md_row md_many a_md_first md_length md_set a_md_held a_md_text md_text a_md_told md_told a_md_draft md_draft a_md_s md_s a_md_past md_past a_md_images r5 a_md_seen md_seen a_md_asks md_asks a_md_brings md_brings a_md_uses md_uses a_md_days md_days a_md_tries md_tries a_md_row md_row a_md_first md_first a_md_held md_held)) rfl dX6_keep_52 (fun H locs hw => ?_)
    refine lv_aload_n hx hb dX6_keep_55 rfl (lv_at hl 0 rfl) ?_
    refine f_get S hK hw.1 in_X6_keep_X6 0 rfl rfl 8 (by decide) (List.mem_of_getElem? (i := 1) rfl) rfl rfl dX6_keep_56 ?_
    obtain rfl := Option.some.inj hm
    exact e_WI S hr hlk hw rfl hw.1 dX6_keep_59
  · replace hm := ipos hm c1
    refine lv_bipush (v := (-3)) hx hb dX6_keep_8 (by decide) ?_
    obtain rfl := Option.some.inj hm
    exact e_WI S hr hlk hw rfl hw.1 dX6_keep_10

abbrev rX6_rides : Room := { frames := 3, cells := 0, slots := 0, locals := 72 }
theorem cal_X6_rides : Cal yX6_rides wsX6_rides cX6_rides 2 none RX6 1 := ⟨⟨_, rfl⟩, rfl, by decide +kernel, by decide +kernel, by decide +kernel⟩
theorem in_X6_rides_X6 : ∀ w ∈ wsX60, w ∈ wsX6_rides := fun _ h => (List.mem_cons_of_mem _ (List.mem_append_right _ h))
set_option maxHeartbeats 4000000 in
set_option maxRecDepth 100000 in
theorem c_X6_rides (l : Launch) (D : va_G) (cC cI cJ : ClassId) (a_md : Nat) (a_md_text : Nat) (a_md_told : Nat) (a_md_draft : Nat) (a_md_s : Nat) (a_md_past : Nat) (a_md_images : Nat) (a_md_seen : Nat) (a_md_asks : Nat) (a_md_brings : Nat) (a_md_uses : Nat) (a_md_days : Nat) (a_md_tries : Nat) (a_md_row : Nat) (a_md_first : Nat) (a_md_held : Nat) (md_typed : Int32) (md_known : Int32) (md_kept : Int32) (md_sights : Int32) (md_at : Int32) (md_many : Int32) (md_length : Int32) (md_set : Int32) (md_text : (Nat → Int32)) (md_told : (Nat → Int32)) (md_draft : (Nat → Int32)) (md_s : (Nat → Int32)) (md_past : (Nat → Int32)) (md_images : (Nat → Int32)) (md_seen : (Nat → Int32)) (md_asks : (Nat → Int32)) (md_brings : (Nat → Int32)) (md_uses : (Nat → Int32)) (md_days : (Nat → Int32)) (md_tries : (Nat → Int32)) (md_row : (Nat → Int32)) (md_first : (Nat → Int32)) (md_held : (Nat → Int32)) (p0 : Int32) (N : Nat) (A : Nat → Prop) (hD : va_D A (wd_28 cC cI cJ a_md a_md_text md_typed a_md_told a_md_draft a_md_s a_md_past md_known a_md_images md_kept a_md_seen md_sights md_at a_md_asks a_md_brings a_md_uses a_md_days a_md_tries a_md_row md_many a_md_first md_length md_set a_md_held a_md_text md_text a_md_told md_told a_md_draft md_draft a_md_s md_s a_md_past md_past a_md_images md_images a_md_seen md_seen a_md_asks md_asks a_md_brings md_brings a_md_uses md_uses a_md_days md_days a_md_tries md_tries a_md_row md_row a_md_first md_first a_md_held md_held)) (out : (Nat → Int32)) (hm : m_X6_rides N md_told md_s p0 = some out) : WrV l yX6_rides wsX6_rides rX6_rides D (tyK cC cI cJ) [.ref a_md, .int p0] A (wd_28 cC cI cJ a_md a_md_text md_typed a_md_told a_md_draft a_md_s a_md_past md_known a_md_images md_kept a_md_seen md_sights md_at a_md_asks a_md_brings a_md_uses a_md_days a_md_tries a_md_row md_many a_md_first md_length md_set a_md_held a_md_text md_text a_md_told md_told a_md_draft md_draft a_md_s md_s a_md_past md_past a_md_images md_images a_md_seen md_seen a_md_asks md_asks a_md_brings md_brings a_md_uses md_uses a_md_days md_days a_md_tries md_tries a_md_row md_row a_md_first md_first a_md_held md_held) (Bw0 D (wd_28 cC cI cJ a_md a_md_text md_typed a_md_told a_md_draft a_md_s a_md_past md_known a_md_images md_kept a_md_seen md_sights md_at a_md_asks a_md_brings a_md_uses a_md_days a_md_tries a_md_row md_many a_md_first md_length md_set a_md_held a_md_text md_text a_md_told md_told a_md_draft md_draft a_md_s out a_md_past md_past a_md_images md_images a_md_seen md_seen a_md_asks md_asks a_md_brings md_brings a_md_uses md_uses a_md_days md_days a_md_tries md_tries a_md_row md_row a_md_first md_first a_md_held md_held)) := by
  unfold m_X6_rides at hm
  refine enter (cc := cX6_rides) (maxL := 2) (ret := none) (lv := [(0, .ref a_md), (1, .int p0)]) (by decide) rfl (Nat.le_of_ble_eq_true rfl) rfl ?_
  intro p e s m args below meth c S hr hlk hK hP ls hl
  replace S : CallFix p m c cX6_rides 2 s args wsX6_rides RX6 := S
  have hx := S.1
  have hb := S.2.1
  have hw : Wd D A s.heap (wd_28 cC cI cJ a_md a_md_text md_typed a_md_told a_md_draft a_md_s a_md_past md_known a_md_images md_kept a_md_seen md_sights md_at a_md_asks a_md_brings a_md_uses a_md_days a_md_tries a_md_row md_many a_md_first md_length md_set a_md_held a_md_text md_text a_md_told md_told a_md_draft md_draft a_md_s md_s a_md_past md_past a_md_images md_images a_md_seen md_seen a_md_asks md_asks a_md_brings md_brings a_md_uses md_uses a_md_days md_days a_md_tries md_tries a_md_row md_row a_md_first md_first a_md_held md_held) s.heap [] := ⟨hP, hD, va_S.rf⟩
  have hw0 := hw
  refine lv_aload_n hx hb dX6_rides_0 rfl (lv_at hl 0 rfl) ?_
  refine f_get S hK hw.1 in_X6_rides_X6 0 rfl rfl 4 (by decide) (List.mem_of_getElem? (i := 1) rfl) rfl rfl dX6_rides_1 ?_
  refine lv_iconst (v := 3) hx hb dX6_rides_4 (by decide) ?_
  refine lv_dup2_11 hx hb dX6_rides_5 rfl rfl ?_
  refine f_ialdK S hK hw.1 4 1 rfl rfl 3 (by decide) (by decide) (v := (md_s 3)) rfl dX6_rides_6 ?_
  refine lv_aload_n hx hb dX6_rides_7 rfl (lv_at hl 0 rfl) ?_
  refine lv_iload_n hx hb dX6_rides_8 rfl (lv_at hl 1 rfl) ?_
  obtain ⟨r2, h3, hm⟩ := ob hm
  refine k_rVi S hK hw.1 cal_X6_helpNow gX6_rides_X6_helpNow (c_X6_helpNow l D cC cI cJ a_md a_md_text a_md_told a_md_draft a_md_s a_md_past a_md_images a_md_seen a_md_asks a_md_brings a_md_uses a_md_days a_md_tries a_md_row a_md_first a_md_held md_typed md_known md_kept md_sights md_at md_many md_length md_set md_text md_told md_draft md_s md_past md_images md_seen md_asks md_brings md_uses md_days md_tries md_row md_first md_held p0 N r2 h3) ⟨⟨rfl, rfl⟩, Nat.le_of_ble_eq_true rfl, Nat.le_of_ble_eq_true rfl⟩ [0, 1, 2, 3, 4, 5, 6, 7, 8, 9, 10, 11, 12, 13, 14, 15] rfl 0 rfl rfl rfl hl.1 rfl (Nat.le_of_ble_eq_true rfl) dX6_rides_9 ⟨Nat.zero_le _, Nat.zero_le _⟩ ?_
  refine lv_ior hx hb dX6_rides_12 ?_
  refine f_iastK S hK hw 4 1 rfl rfl 3 (by decide) (by decide) (ws1 := (wd_28 cC cI cJ a_md a_md_text md_typed a_md_told a_md_draft a_md_s a_md_past md_known a_md_images md_kept a_md_seen md_sights md_at a_md_asks a_md_brings a_md_uses a_md_days a_md_tries a_md_row md_many a_md_first md_length md_set a_md_held a_md_text md_text a_md_told md_told a_md_draft md_draft a_md_s (upd md_s 3 ((md_s 3) ||| r2)) a_md_past md_past a_md_images md_images a_md_seen md_seen a_md_asks md_asks a_md_brings md_brings a_md_uses md_uses a_md_days md_days a_md_tries md_tries a_md_row md_row a_md_first md_first a_md_held md_held)) rfl dX6_rides_13 (fun H locs hw => ?_)
  refine lv_aload_n hx hb dX6_rides_14 rfl (lv_at hl 0 rfl) ?_
  refine f_get S hK hw.1 in_X6_rides_X6 0 rfl rfl 4 (by decide) (List.mem_of_getElem? (i := 1) rfl) rfl rfl dX6_rides_15 ?_
  refine lv_iconst (v := 5) hx hb dX6_rides_18 (by decide) ?_
  refine lv_dup2_11 hx hb dX6_rides_19 rfl rfl ?_
  refine f_ialdK S hK hw.1 4 1 rfl rfl 5 (by decide) (by decide) (v := (md_s 5)) rfl dX6_rides_20 ?_
  refine lv_aload_n hx hb dX6_rides_21 rfl (lv_at hl 0 rfl) ?_
  refine lv_iload_n hx hb dX6_rides_22 rfl (lv_at hl 1 rfl) ?_
  obtain ⟨r6, h7, hm⟩ := ob hm
  refine k_rVi S hK hw.1 cal_X6_daysOf gX6_rides_X6_daysOf (c_X6_daysOf l D cC cI cJ a_md a_md_text a_md_told a_md_draft a_md_s a_md_past a_md_images a_md_seen a_md_asks a_md_brings a_md_uses a_md_days a_md_tries a_md_row a_md_first a_md_held md_typed md_known md_kept md_sights md_at md_many md_length md_set md_text md_told md_draft (upd md_s 3 ((md_s 3) ||| r2)) md_past md_images md_seen md_asks md_brings md_uses md_days md_tries md_row md_first md_held p0 r6 h7) ⟨⟨rfl, rfl⟩, Nat.le_of_ble_eq_true rfl, Nat.le_of_ble_eq_true rfl⟩ [0, 1, 2, 3, 4, 5, 6, 7, 8, 9, 10, 11, 12, 13, 14, 15] rfl 0 rfl rfl rfl hl.1 rfl (Nat.le_of_ble_eq_true rfl) dX6_rides_23 ⟨Nat.zero_le _, Nat.zero_le _⟩ ?_
  refine lv_iadd hx hb dX6_rides_26 ?_
  refine f_iastK S hK hw 4 1 rfl rfl 5 (by decide) (by decide) (ws1 := (wd_28 cC cI cJ a_md a_md_text md_typed a_md_told a_md_draft a_md_s a_md_past md_known a_md_images md_kept a_md_seen md_sights md_at a_md_asks a_md_brings a_md_uses a_md_days a_md_tries a_md_row md_many a_md_first md_length md_set a_md_held a_md_text md_text a_md_told md_told a_md_draft md_draft a_md_s (upd (upd md_s 3 ((md_s 3) ||| r2)) 5 ((md_s 5) + r6)) a_md_past md_past a_md_images md_images a_md_seen md_seen a_md_asks md_asks a_md_brings md_brings a_md_uses md_uses a_md_days md_days a_md_tries md_tries a_md_row md_row a_md_first md_first a_md_held md_held)) rfl dX6_rides_27 (fun H locs hw => ?_)
  refine lv_aload_n hx hb dX6_rides_28 rfl (lv_at hl 0 rfl) ?_
  refine f_get S hK hw.1 in_X6_rides_X6 0 rfl rfl 4 (by decide) (List.mem_of_getElem? (i := 1) rfl) rfl rfl dX6_rides_29 ?_
  refine lv_iconst (v := 1) hx hb dX6_rides_32 (by decide) ?_
  refine lv_dup2_11 hx hb dX6_rides_33 rfl rfl ?_
  refine f_ialdK S hK hw.1 4 1 rfl rfl 1 (by decide) (by decide) (v := (md_s 1)) rfl dX6_rides_34 ?_
  refine lv_iconst (v := 1) hx hb dX6_rides_35 (by decide) ?_
  refine lv_iload_n hx hb dX6_rides_36 rfl (lv_at hl 1 rfl) ?_
  refine lv_ishl hx hb dX6_rides_37 ?_
  refine lv_ior hx hb dX6_rides_38 ?_
  obtain ⟨y11, e12, hm⟩ := ob hm
  refine f_name e12 ?_
  refine f_iastK S hK hw 4 1 rfl rfl 1 (by decide) (by decide) (ws1 := (wd_28 cC cI cJ a_md a_md_text md_typed a_md_told a_md_draft a_md_s a_md_past md_known a_md_images md_kept a_md_seen md_sights md_at a_md_asks a_md_brings a_md_uses a_md_days a_md_tries a_md_row md_many a_md_first md_length md_set a_md_held a_md_text md_text a_md_told md_told a_md_draft md_draft a_md_s (upd (upd (upd md_s 3 ((md_s 3) ||| r2)) 5 ((md_s 5) + r6)) 1 y11) a_md_past md_past a_md_images md_images a_md_seen md_seen a_md_asks md_asks a_md_brings md_brings a_md_uses md_uses a_md_days md_days a_md_tries md_tries a_md_row md_row a_md_first md_first a_md_held md_held)) rfl dX6_rides_39 (fun H locs hw => ?_)
  refine lv_aload_n hx hb dX6_rides_40 rfl (lv_at hl 0 rfl) ?_
  refine f_get S hK hw.1 in_X6_rides_X6 0 rfl rfl 4 (by decide) (List.mem_of_getElem? (i := 1) rfl) rfl rfl dX6_rides_41 ?_
  refine lv_iconst (v := 0) hx hb dX6_rides_44 (by decide) ?_
  refine lv_dup2_11 hx hb dX6_rides_45 rfl rfl ?_
  refine f_ialdK S hK hw.1 4 1 rfl rfl 0 (by decide) (by decide) (v := (md_s 0)) rfl dX6_rides_46 ?_
  refine lv_iconst (v := 1) hx hb dX6_rides_47 (by decide) ?_
  refine lv_aload_n hx hb dX6_rides_48 rfl (lv_at hl 0 rfl) ?_
  refine f_get S hK hw.1 in_X6_rides_X6 0 rfl rfl 2 (by decide) (List.mem_of_getElem? (i := 2) rfl) rfl rfl dX6_rides_49 ?_
  refine lv_bipush (v := 29) hx hb dX6_rides_52 (by decide) ?_
  refine lv_iload_n hx hb dX6_rides_54 rfl (lv_at hl 1 rfl) ?_
  refine lv_iadd hx hb dX6_rides_55 ?_
  obtain ⟨g14, hm⟩ := gdo hm
  refine f_iald S hK hw.1 2 1 rfl rfl g14 dX6_rides_56 ?_
  refine lv_ishl hx hb dX6_rides_57 ?_
  refine lv_ior hx hb dX6_rides_58 ?_
  obtain ⟨y16, e17, hm⟩ := ob hm
  refine f_name e17 ?_
  refine f_iastK S hK hw 4 1 rfl rfl 0 (by decide) (by decide) (ws1 := (wd_28 cC cI cJ a_md a_md_text md_typed a_md_told a_md_draft a_md_s a_md_past md_known a_md_images md_kept a_md_seen md_sights md_at a_md_asks a_md_brings a_md_uses a_md_days a_md_tries a_md_row md_many a_md_first md_length md_set a_md_held a_md_text md_text a_md_told md_told a_md_draft md_draft a_md_s (upd (upd (upd (upd md_s 3 ((md_s 3) ||| r2)) 5 ((md_s 5) + r6)) 1 y11) 0 y16) a_md_past md_past a_md_images md_images a_md_seen md_seen a_md_asks md_asks a_md_brings md_brings a_md_uses md_uses a_md_days md_days a_md_tries md_tries a_md_row md_row a_md_first md_first a_md_held md_held)) rfl dX6_rides_59 (fun H locs hw => ?_)
  obtain rfl := Option.some.inj hm
  exact e_WV S hr hlk hw hw.1 dX6_rides_60

abbrev rX6_steps : Room := { frames := 4, cells := 0, slots := 0, locals := 93 }
theorem cal_X6_steps : Cal yX6_steps wsX6_steps cX6_steps 4 none RX6 1 := ⟨⟨_, rfl⟩, rfl, by decide +kernel, by decide +kernel, by decide +kernel⟩
theorem in_X6_steps_X6 : ∀ w ∈ wsX60, w ∈ wsX6_steps := fun _ h => (List.mem_cons_of_mem _ (List.mem_append_right _ h))
set_option maxHeartbeats 4000000 in
set_option maxRecDepth 100000 in
theorem c_X6_steps (l : Launch) (D : va_G) (cC cI cJ : ClassId) (a_md : Nat) (a_md_text : Nat) (a_md_told : Nat) (a_md_draft : Nat) (a_md_s : Nat) (a_md_past : Nat) (a_md_images : Nat) (a_md_seen : Nat) (a_md_asks : Nat) (a_md_brings : Nat) (a_md_uses : Nat) (a_md_days : Nat) (a_md_tries : Nat) (a_md_row : Nat) (a_md_first : Nat) (a_md_held : Nat) (md_typed : Int32) (md_known : Int32) (md_kept : Int32) (md_sights : Int32) (md_at : Int32) (md_many : Int32) (md_length : Int32) (md_set : Int32) (md_text : (Nat → Int32)) (md_told : (Nat → Int32)) (md_draft : (Nat → Int32)) (md_s : (Nat → Int32)) (md_past : (Nat → Int32)) (md_images : (Nat → Int32)) (md_seen : (Nat → Int32)) (md_asks : (Nat → Int32)) (md_brings : (Nat → Int32)) (md_uses : (Nat → Int32)) (md_days : (Nat → Int32)) (md_tries : (Nat → Int32)) (md_row : (Nat → Int32)) (md_first : (Nat → Int32)) (md_held : (Nat → Int32)) (p0 : Int32) (N : Nat) (A : Nat → Prop) (hD : va_D A (wd_28 cC cI cJ a_md a_md_text md_typed a_md_told a_md_draft a_md_s a_md_past md_known a_md_images md_kept a_md_seen md_sights md_at a_md_asks a_md_brings a_md_uses a_md_days a_md_tries a_md_row md_many a_md_first md_length md_set a_md_held a_md_text md_text a_md_told md_told a_md_draft md_draft a_md_s md_s a_md_past md_past a_md_images md_images a_md_seen md_seen a_md_asks md_asks a_md_brings md_brings a_md_uses md_uses a_md_days md_days a_md_tries md_tries a_md_row md_row a_md_first md_first a_md_held md_held)) (out : (Nat → Int32)) (hm : m_X6_steps N md_told md_s p0 = some out) : WrV l yX6_steps wsX6_steps rX6_steps D (tyK cC cI cJ) [.ref a_md, .int p0] A (wd_28 cC cI cJ a_md a_md_text md_typed a_md_told a_md_draft a_md_s a_md_past md_known a_md_images md_kept a_md_seen md_sights md_at a_md_asks a_md_brings a_md_uses a_md_days a_md_tries a_md_row md_many a_md_first md_length md_set a_md_held a_md_text md_text a_md_told md_told a_md_draft md_draft a_md_s md_s a_md_past md_past a_md_images md_images a_md_seen md_seen a_md_asks md_asks a_md_brings md_brings a_md_uses md_uses a_md_days md_days a_md_tries md_tries a_md_row md_row a_md_first md_first a_md_held md_held) (Bw0 D (wd_28 cC cI cJ a_md a_md_text md_typed a_md_told a_md_draft a_md_s a_md_past md_known a_md_images md_kept a_md_seen md_sights md_at a_md_asks a_md_brings a_md_uses a_md_days a_md_tries a_md_row md_many a_md_first md_length md_set a_md_held a_md_text md_text a_md_told md_told a_md_draft md_draft a_md_s out a_md_past md_past a_md_images md_images a_md_seen md_seen a_md_asks md_asks a_md_brings md_brings a_md_uses md_uses a_md_days md_days a_md_tries md_tries a_md_row md_row a_md_first md_first a_md_held md_held)) := by
  unfold m_X6_steps at hm
  refine enter (cc := cX6_steps) (maxL := 4) (ret := none) (lv := [(0, .ref a_md), (1, .int p0)]) (by decide) rfl (Nat.le_of_ble_eq_true rfl) rfl ?_
  intro p e s m args below meth c S hr hlk hK hP ls hl
  replace S : CallFix p m c cX6_steps 4 s args wsX6_steps RX6 := S
  have hx := S.1
  have hb := S.2.1
  have hw : Wd D A s.heap (wd_28 cC cI cJ a_md a_md_text md_typed a_md_told a_md_draft a_md_s a_md_past md_known a_md_images md_kept a_md_seen md_sights md_at a_md_asks a_md_brings a_md_uses a_md_days a_md_tries a_md_row md_many a_md_first md_length md_set a_md_held a_md_text md_text a_md_told md_told a_md_draft md_draft a_md_s md_s a_md_past md_past a_md_images md_images a_md_seen md_seen a_md_asks md_asks a_md_brings md_brings a_md_uses md_uses a_md_days md_days a_md_tries md_tries a_md_row md_row a_md_first md_first a_md_held md_held) s.heap [] := ⟨hP, hD, va_S.rf⟩
  have hw0 := hw
  refine lv_iload_n hx hb dX6_steps_0 rfl (lv_at hl 1 rfl) ?_
  refine lv_aload_n hx hb dX6_steps_1 rfl (lv_at hl 0 rfl) ?_
  refine f_get S hK hw.1 in_X6_steps_X6 0 rfl rfl 2 (by decide) (List.mem_of_getElem? (i := 1) rfl) rfl rfl dX6_steps_2 ?_
  refine lv_iconst (v := 0) hx hb dX6_steps_5 (by decide) ?_
  refine f_ialdK S hK hw.1 2 1 rfl rfl 0 (by decide) (by decide) (v := (md_told 0)) rfl dX6_steps_6 ?_
  obtain ⟨g2, hm⟩ := gdo hm
  refine lv_irem hx hb dX6_steps_7 g2 ?_
  obtain ⟨y3, e4, hm⟩ := ob hm
  refine f_name e4 ?_
  refine lv_istore_n (lv' := [(2, .int y3), (0, .ref a_md), (1, .int p0)]) hx hb dX6_steps_8 rfl hl (by decide) rfl (fun ls hl => ?_)
  refine lv_aload_n hx hb dX6_steps_9 rfl (lv_at hl 1 rfl) ?_
  refine f_get S hK hw.1 in_X6_steps_X6 0 rfl rfl 2 (by decide) (List.mem_of_getElem? (i := 1) rfl) rfl rfl dX6_steps_10 ?_
  refine lv_iconst (v := 1) hx hb dX6_steps_13 (by decide) ?_
  refine f_ialdK S hK hw.1 2 1 rfl rfl 1 (by decide) (by decide) (v := (md_told 1)) rfl dX6_steps_14 ?_
  refine lv_if_ne (tgt := 22) hx hb dX6_steps_15 (by decide) (fun c6 => ?_) (fun c6 => ?_)
  · replace hm := ineg hm c6
    refine lv_iload_n hx hb dX6_steps_22 rfl (lv_at hl 2 rfl) ?_
    refine lv_bipush (v := 8) hx hb dX6_steps_23 (by decide) ?_
    refine lv_idiv hx hb dX6_steps_25 (by decide) ?_
    refine lv_aload_n hx hb dX6_steps_26 rfl (lv_at hl 1 rfl) ?_
    refine f_get S hK hw.1 in_X6_steps_X6 0 rfl rfl 2 (by decide) (List.mem_of_getElem? (i := 1) rfl) rfl rfl dX6_steps_27 ?_
    refine lv_iconst (v := 1) hx hb dX6_steps_30 (by decide) ?_
    refine f_ialdK S hK hw.1 2 1 rfl rfl 1 (by decide) (by decide) (v := (md_told 1)) rfl dX6_steps_31 ?_
    refine lv_irem hx hb dX6_steps_32 c6 ?_
    obtain ⟨y10, e11, hm⟩ := ob hm
    refine f_name e11 ?_
    refine lv_istore_n (lv' := [(3, .int y10), (2, .int y3), (0, .ref a_md), (1, .int p0)]) hx hb dX6_steps_33 rfl hl (by decide) rfl (fun ls hl => ?_)
    refine lv_aload_n hx hb dX6_steps_34 rfl (lv_at hl 2 rfl) ?_
    refine lv_iload_n hx hb dX6_steps_35 rfl (lv_at hl 1 rfl) ?_
    obtain ⟨r12, h13, hm⟩ := ob hm
    refine k_rVi S hK hw.1 cal_X6_helpNow gX6_steps_X6_helpNow (c_X6_helpNow l D cC cI cJ a_md a_md_text a_md_told a_md_draft a_md_s a_md_past a_md_images a_md_seen a_md_asks a_md_brings a_md_uses a_md_days a_md_tries a_md_row a_md_first a_md_held md_typed md_known md_kept md_sights md_at md_many md_length md_set md_text md_told md_draft md_s md_past md_images md_seen md_asks md_brings md_uses md_days md_tries md_row md_first md_held y3 N r12 h13) ⟨⟨rfl, rfl⟩, Nat.le_of_ble_eq_true rfl, Nat.le_of_ble_eq_true rfl⟩ [0, 1, 2, 3, 4, 5, 6, 7, 8, 9, 10, 11, 12, 13, 14, 15] rfl 0 rfl rfl rfl hl.1 rfl (Nat.le_of_ble_eq_true rfl) dX6_steps_36 ⟨Nat.zero_le _, Nat.zero_le _⟩ ?_
    refine lv_if_lt (tgt := 50) hx hb dX6_steps_39 (by decide) (fun c14 => ?_) (fun c14 => ?_)
    · replace hm := ipos hm c14
      refine lv_aload_n hx hb dX6_steps_50 rfl (lv_at hl 2 rfl) ?_
      refine f_get S hK hw.1 in_X6_steps_X6 0 rfl rfl 2 (by decide) (List.mem_of_getElem? (i := 1) rfl) rfl rfl dX6_steps_51 ?_
      refine lv_iconst (v := 1) hx hb dX6_steps_54 (by decide) ?_
      refine f_ialdK S hK hw.1 2 1 rfl rfl 1 (by decide) (by decide) (v := (md_told 1)) rfl dX6_steps_55 ?_
      refine lv_if_le (tgt := 75) hx hb dX6_steps_56 (by decide) (fun c16 => ?_) (fun c16 => ?_)
      · replace hm := ipos hm c16
        refine lv_aload_n hx hb dX6_steps_75 rfl (lv_at hl 2 rfl) ?_
        obtain ⟨r17, h18, hm⟩ := ob hm
        refine k_rVi S hK hw.1 cal_X6_silent gX6_steps_X6_silent (c_X6_silent l D cC cI cJ a_md a_md_text a_md_told a_md_draft a_md_s a_md_past a_md_images a_md_seen a_md_asks a_md_brings a_md_uses a_md_days a_md_tries a_md_row a_md_first a_md_held md_typed md_known md_kept md_sights md_at md_many md_length md_set md_text md_told md_draft md_s md_past md_images md_seen md_asks md_brings md_uses md_days md_tries md_row md_first md_held r17 h18) ⟨⟨rfl, rfl⟩, Nat.le_of_ble_eq_true rfl, Nat.le_of_ble_eq_true rfl⟩ [0, 1, 2, 3, 4, 5, 6, 7, 8, 9, 10, 11, 12, 13, 14, 15] rfl 0 rfl rfl rfl hl.1 rfl (Nat.le_of_ble_eq_true rfl) dX6_steps_76 ⟨Nat.zero_le _, Nat.zero_le _⟩ ?_
        refine lv_iload_n hx hb dX6_steps_79 rfl (lv_at hl 1 rfl) ?_
        refine lv_ishr hx hb dX6_steps_80 ?_
        refine lv_iconst (v := 1) hx hb dX6_steps_81 (by decide) ?_
        refine lv_iand hx hb dX6_steps_82 ?_
        refine lv_iconst (v := 1) hx hb dX6_steps_83 (by decide) ?_
        refine lv_icmp_ne (tgt := 99) hx hb dX6_steps_84 (by decide) (fun c19 => ?_) (fun c19 => ?_)
        · replace hm := ineg hm c19
          obtain rfl := Option.some.inj hm
          exact e_WV S hr hlk hw hw.1 dX6_steps_99
        · replace hm := ipos hm c19
          refine lv_aload_n hx hb dX6_steps_87 rfl (lv_at hl 2 rfl) ?_
          refine f_get S hK hw.1 in_X6_steps_X6 0 rfl rfl 4 (by decide) (List.mem_of_getElem? (i := 2) rfl) rfl rfl dX6_steps_88 ?_
          refine lv_iconst (v := 0) hx hb dX6_steps_91 (by decide) ?_
          refine lv_dup2_11 hx hb dX6_steps_92 rfl rfl ?_
          refine f_ialdK S hK hw.1 4 1 rfl rfl 0 (by decide) (by decide) (v := (md_s 0)) rfl dX6_steps_93 ?_
          refine lv_iconst (v := 1) hx hb dX6_steps_94 (by decide) ?_
          refine lv_iload_n hx hb dX6_steps_95 rfl (lv_at hl 1 rfl) ?_
          refine lv_ishl hx hb dX6_steps_96 ?_
          refine lv_ior hx hb dX6_steps_97 ?_
          obtain ⟨y22, e23, hm⟩ := ob hm
          refine f_name e23 ?_
          refine f_iastK S hK hw 4 1 rfl rfl 0 (by decide) (by decide) (ws1 := (wd_28 cC cI cJ a_md a_md_text md_typed a_md_told a_md_draft a_md_s a_md_past md_known a_md_images md_kept a_md_seen md_sights md_at a_md_asks a_md_brings a_md_uses a_md_days a_md_tries a_md_row md_many a_md_first md_length md_set a_md_held a_md_text md_text a_md_told md_told a_md_draft md_draft a_md_s (upd md_s 0 y22) a_md_past md_past a_md_images md_images a_md_seen md_seen a_md_asks md_asks a_md_brings md_brings a_md_uses md_uses a_md_days md_days a_md_tries md_tries a_md_row md_row a_md_first md_first a_md_held md_held)) rfl dX6_steps_98 (fun H locs hw => ?_)
          obtain rfl := Option.some.inj hm
          exact e_WV S hr hlk hw hw.1 dX6_steps_99
      · replace hm := ineg hm c16
        refine lv_aload_n hx hb dX6_steps_59 rfl (lv_at hl 2 rfl) ?_
        refine lv_iload_n hx hb dX6_steps_60 rfl (lv_at hl 0 rfl) ?_
        obtain ⟨r24, h25, hm⟩ := ob hm
        refine k_rVi S hK hw.1 cal_X6_canBefriend gX6_steps_X6_canBefriend (c_X6_canBefriend l D cC cI cJ a_md a_md_text a_md_told a_md_draft a_md_s a_md_past a_md_images a_md_seen a_md_asks a_md_brings a_md_uses a_md_days a_md_tries a_md_row a_md_first a_md_held md_typed md_known md_kept md_sights md_at md_many md_length md_set md_text md_told md_draft md_s md_past md_images md_seen md_asks md_brings md_uses md_days md_tries md_row md_first md_held y10 r24 h25) ⟨⟨rfl, rfl⟩, Nat.le_of_ble_eq_true rfl, Nat.le_of_ble_eq_true rfl⟩ [0, 1, 2, 3, 4, 5, 6, 7, 8, 9, 10, 11, 12, 13, 14, 15] rfl 0 rfl rfl rfl hl.1 rfl (Nat.le_of_ble_eq_true rfl) dX6_steps_61 ⟨Nat.zero_le _, Nat.zero_le _⟩ ?_
        refine lv_if_eq (tgt := 75) hx hb dX6_steps_64 (by decide) (fun c26 => ?_) (fun c26 => ?_)
        · replace hm := ipos hm c26
          refine lv_aload_n hx hb dX6_steps_75 rfl (lv_at hl 2 rfl) ?_
          obtain ⟨r27, h28, hm⟩ := ob hm
          refine k_rVi S hK hw.1 cal_X6_silent gX6_steps_X6_silent (c_X6_silent l D cC cI cJ a_md a_md_text a_md_told a_md_draft a_md_s a_md_past a_md_images a_md_seen a_md_asks a_md_brings a_md_uses a_md_days a_md_tries a_md_row a_md_first a_md_held md_typed md_known md_kept md_sights md_at md_many md_length md_set md_text md_told md_draft md_s md_past md_images md_seen md_asks md_brings md_uses md_days md_tries md_row md_first md_held r27 h28) ⟨⟨rfl, rfl⟩, Nat.le_of_ble_eq_true rfl, Nat.le_of_ble_eq_true rfl⟩ [0, 1, 2, 3, 4, 5, 6, 7, 8, 9, 10, 11, 12, 13, 14, 15] rfl 0 rfl rfl rfl hl.1 rfl (Nat.le_of_ble_eq_true rfl) dX6_steps_76 ⟨Nat.zero_le _, Nat.zero_le _⟩ ?_
          refine lv_iload_n hx hb dX6_steps_79 rfl (lv_at hl 1 rfl) ?_
          refine lv_ishr hx hb dX6_steps_80 ?_
          refine lv_iconst (v := 1) hx hb dX6_steps_81 (by decide) ?_
          refine lv_iand hx hb dX6_steps_82 ?_
          refine lv_iconst (v := 1) hx hb dX6_steps_83 (by decide) ?_
          refine lv_icmp_ne (tgt := 99) hx hb dX6_steps_84 (by decide) (fun c29 => ?_) (fun c29 => ?_)
          · replace hm := ineg hm c29
            obtain rfl := Option.some.inj hm
            exact e_WV S hr hlk hw hw.1 dX6_steps_99
          · replace hm := ipos hm c29
            refine lv_aload_n hx hb dX6_steps_87 rfl (lv_at hl 2 rfl) ?_
            refine f_get S hK hw.1 in_X6_steps_X6 0 rfl rfl 4 (by decide) (List.mem_of_getElem? (i := 2) rfl) rfl rfl dX6_steps_88 ?_
            refine lv_iconst (v := 0) hx hb dX6_steps_91 (by decide) ?_
            refine lv_dup2_11 hx hb dX6_steps_92 rfl rfl ?_
            refine f_ialdK S hK hw.1 4 1 rfl rfl 0 (by decide) (by decide) (v := (md_s 0)) rfl dX6_steps_93 ?_
            refine lv_iconst (v := 1) hx hb dX6_steps_94 (by decide) ?_
            refine lv_iload_n hx hb dX6_steps_95 rfl (lv_at hl 1 rfl) ?_
            refine lv_ishl hx hb dX6_steps_96 ?_
            refine lv_ior hx hb dX6_steps_97 ?_
            obtain ⟨y32, e33, hm⟩ := ob hm
            refine f_name e33 ?_
            refine f_iastK S hK hw 4 1 rfl rfl 0 (by decide) (by decide) (ws1 := (wd_28 cC cI cJ a_md a_md_text md_typed a_md_told a_md_draft a_md_s a_md_past md_known a_md_images md_kept a_md_seen md_sights md_at a_md_asks a_md_brings a_md_uses a_md_days a_md_tries a_md_row md_many a_md_first md_length md_set a_md_held a_md_text md_text a_md_told md_told a_md_draft md_draft a_md_s (upd md_s 0 y32) a_md_past md_past a_md_images md_images a_md_seen md_seen a_md_asks md_asks a_md_brings md_brings a_md_uses md_uses a_md_days md_days a_md_tries md_tries a_md_row md_row a_md_first md_first a_md_held md_held)) rfl dX6_steps_98 (fun H locs hw => ?_)
            obtain rfl := Option.some.inj hm
            exact e_WV S hr hlk hw hw.1 dX6_steps_99
        · replace hm := ineg hm c26
          refine lv_aload_n hx hb dX6_steps_67 rfl (lv_at hl 2 rfl) ?_
          refine lv_iload_n hx hb dX6_steps_68 rfl (lv_at hl 0 rfl) ?_
          obtain ⟨r34, h35, hm⟩ := ob hm
          refine k_wVv S hK hw cal_X6_befriends gX6_steps_X6_befriends (c_X6_befriends l D cC cI cJ a_md a_md_text a_md_told a_md_draft a_md_s a_md_past a_md_images a_md_seen a_md_asks a_md_brings a_md_uses a_md_days a_md_tries a_md_row a_md_first a_md_held md_typed md_known md_kept md_sights md_at md_many md_length md_set md_text md_told md_draft md_s md_past md_images md_seen md_asks md_brings md_uses md_days md_tries md_row md_first md_held y10 (aw _) (hw.own [0, 1, 2, 3, 4, 5, 6, 7, 8, 9, 10, 11, 12, 13, 14, 15] (by decide) rfl) r34 h35) ⟨⟨rfl, rfl⟩, Nat.le_of_ble_eq_true rfl, Nat.le_of_ble_eq_true rfl⟩ [0, 1, 2, 3, 4, 5, 6, 7, 8, 9, 10, 11, 12, 13, 14, 15] rfl 0 rfl rfl rfl hl.1 rfl (Nat.le_of_ble_eq_true rfl) dX6_steps_69 ⟨Nat.zero_le _, Nat.zero_le _⟩ (fun H locs hJ hB => ?_)
          have hw := hJ _ hB rfl
          replace hw : Wd D A _ (wd_28 cC cI cJ a_md a_md_text md_typed a_md_told a_md_draft a_md_s a_md_past md_known a_md_images md_kept a_md_seen md_sights md_at a_md_asks a_md_brings a_md_uses a_md_days a_md_tries a_md_row md_many a_md_first md_length md_set a_md_held a_md_text md_text a_md_told md_told a_md_draft md_draft a_md_s r34 a_md_past md_past a_md_images md_images a_md_seen md_seen a_md_asks md_asks a_md_brings md_brings a_md_uses md_uses a_md_days md_days a_md_tries md_tries a_md_row md_row a_md_first md_first a_md_held md_held) H locs := hw
          refine lv_goto (tgt := 99) hx hb dX6_steps_72 (by decide) ?_
          obtain rfl := Option.some.inj hm
          exact e_WV S hr hlk hw hw.1 dX6_steps_99
    · replace hm := ineg hm c14
      refine lv_aload_n hx hb dX6_steps_42 rfl (lv_at hl 2 rfl) ?_
      refine lv_iload_n hx hb dX6_steps_43 rfl (lv_at hl 1 rfl) ?_
      obtain ⟨r36, h37, hm⟩ := ob hm
      refine k_wVv S hK hw cal_X6_rides gX6_steps_X6_rides (c_X6_rides l D cC cI cJ a_md a_md_text a_md_told a_md_draft a_md_s a_md_past a_md_images a_md_seen a_md_asks a_md_brings a_md_uses a_md_days a_md_tries a_md_row a_md_first a_md_held md_typed md_known md_kept md_sights md_at md_many md_length md_set md_text md_told md_draft md_s md_past md_images md_seen md_asks md_brings md_uses md_days md_tries md_row md_first md_held y3 N (aw _) (hw.own [0, 1, 2, 3, 4, 5, 6, 7, 8, 9, 10, 11, 12, 13, 14, 15] (by decide) rfl) r36 h37) ⟨⟨rfl, rfl⟩, Nat.le_of_ble_eq_true rfl, Nat.le_of_ble_eq_true rfl⟩ [0, 1, 2, 3, 4, 5, 6, 7, 8, 9, 10, 11, 12, 13, 14, 15] rfl 0 rfl rfl rfl hl.1 rfl (Nat.le_of_ble_eq_true rfl) dX6_steps_44 ⟨Nat.zero_le _, Nat.zero_le _⟩ (fun H locs hJ hB => ?_)
      have hw := hJ _ hB rfl
      replace hw : Wd D A _ (wd_28 cC cI cJ a_md a_md_text md_typed a_md_told a_md_draft a_md_s a_md_past md_known a_md_images md_kept a_md_seen md_sights md_at a_md_asks a_md_brings a_md_uses a_md_days a_md_tries a_md_row md_many a_md_first md_length md_set a_md_held a_md_text md_text a_md_told md_told a_md_draft md_draft a_md_s r36 a_md_past md_past a_md_images md_images a_md_seen md_seen a_md_asks md_asks a_md_brings md_brings a_md_uses md_uses a_md_days md_days a_md_tries md_tries a_md_row md_row a_md_first md_first a_md_held md_held) H locs := hw
      refine lv_goto (tgt := 99) hx hb dX6_steps_47 (by decide) ?_
      obtain rfl := Option.some.inj hm
      exact e_WV S hr hlk hw hw.1 dX6_steps_99
  · replace hm := ipos hm c6
    refine lv_iconst (v := 0) hx hb dX6_steps_18 (by decide) ?_
    refine lv_goto (tgt := 33) hx hb dX6_steps_19 (by decide) ?_
    refine lv_istore_n (lv' := [(3, .int (0 : Int32)), (2, .int y3), (0, .ref a_md), (1, .int p0)]) hx hb dX6_steps_33 rfl hl (by decide) rfl (fun ls hl => ?_)
    refine lv_aload_n hx hb dX6_steps_34 rfl (lv_at hl 2 rfl) ?_
    refine lv_iload_n hx hb dX6_steps_35 rfl (lv_at hl 1 rfl) ?_
    obtain ⟨r38, h39, hm⟩ := ob hm
    refine k_rVi S hK hw.1 cal_X6_helpNow gX6_steps_X6_helpNow (c_X6_helpNow l D cC cI cJ a_md a_md_text a_md_told a_md_draft a_md_s a_md_past a_md_images a_md_seen a_md_asks a_md_brings a_md_uses a_md_days a_md_tries a_md_row a_md_first a_md_held md_typed md_known md_kept md_sights md_at md_many md_length md_set md_text md_told md_draft md_s md_past md_images md_seen md_asks md_brings md_uses md_days md_tries md_row md_first md_held y3 N r38 h39) ⟨⟨rfl, rfl⟩, Nat.le_of_ble_eq_true rfl, Nat.le_of_ble_eq_true rfl⟩ [0, 1, 2, 3, 4, 5, 6, 7, 8, 9, 10, 11, 12, 13, 14, 15] rfl 0 rfl rfl rfl hl.1 rfl (Nat.le_of_ble_eq_true rfl) dX6_steps_36 ⟨Nat.zero_le _, Nat.zero_le _⟩ ?_
    refine lv_if_lt (tgt := 50) hx hb dX6_steps_39 (by decide) (fun c40 => ?_) (fun c40 => ?_)
    · replace hm := ipos hm c40
      refine lv_aload_n hx hb dX6_steps_50 rfl (lv_at hl 2 rfl) ?_
      refine f_get S hK hw.1 in_X6_steps_X6 0 rfl rfl 2 (by decide) (List.mem_of_getElem? (i := 1) rfl) rfl rfl dX6_steps_51 ?_
      refine lv_iconst (v := 1) hx hb dX6_steps_54 (by decide) ?_
      refine f_ialdK S hK hw.1 2 1 rfl rfl 1 (by decide) (by decide) (v := (md_told 1)) rfl dX6_steps_55 ?_
      refine lv_if_le (tgt := 75) hx hb dX6_steps_56 (by decide) (fun c42 => ?_) (fun c42 => ?_)
      · replace hm := ipos hm c42
        refine lv_aload_n hx hb dX6_steps_75 rfl (lv_at hl 2 rfl) ?_
        obtain ⟨r43, h44, hm⟩ := ob hm
        refine k_rVi S hK hw.1 cal_X6_silent gX6_steps_X6_silent (c_X6_silent l D cC cI cJ a_md a_md_text a_md_told a_md_draft a_md_s a_md_past a_md_images a_md_seen a_md_asks a_md_brings a_md_uses a_md_days a_md_tries a_md_row a_md_first a_md_held md_typed md_known md_kept md_sights md_at md_many md_length md_set md_text md_told md_draft md_s md_past md_images md_seen md_asks md_brings md_uses md_days md_tries md_row md_first md_held r43 h44) ⟨⟨rfl, rfl⟩, Nat.le_of_ble_eq_true rfl, Nat.le_of_ble_eq_true rfl⟩ [0, 1, 2, 3, 4, 5, 6, 7, 8, 9, 10, 11, 12, 13, 14, 15] rfl 0 rfl rfl rfl hl.1 rfl (Nat.le_of_ble_eq_true rfl) dX6_steps_76 ⟨Nat.zero_le _, Nat.zero_le _⟩ ?_
        refine lv_iload_n hx hb dX6_steps_79 rfl (lv_at hl 1 rfl) ?_
        refine lv_ishr hx hb dX6_steps_80 ?_
        refine lv_iconst (v := 1) hx hb dX6_steps_81 (by decide) ?_
        refine lv_iand hx hb dX6_steps_82 ?_
        refine lv_iconst (v := 1) hx hb dX6_steps_83 (by decide) ?_
        refine lv_icmp_ne (tgt := 99) hx hb dX6_steps_84 (by decide) (fun c45 => ?_) (fun c45 => ?_)
        · replace hm := ineg hm c45
          obtain rfl := Option.some.inj hm
          exact e_WV S hr hlk hw hw.1 dX6_steps_99
        · replace hm := ipos hm c45
          refine lv_aload_n hx hb dX6_steps_87 rfl (lv_at hl 2 rfl) ?_
          refine f_get S hK hw.1 in_X6_steps_X6 0 rfl rfl 4 (by decide) (List.mem_of_getElem? (i := 2) rfl) rfl rfl dX6_steps_88 ?_
          refine lv_iconst (v := 0) hx hb dX6_steps_91 (by decide) ?_
          refine lv_dup2_11 hx hb dX6_steps_92 rfl rfl ?_
          refine f_ialdK S hK hw.1 4 1 rfl rfl 0 (by decide) (by decide) (v := (md_s 0)) rfl dX6_steps_93 ?_
          refine lv_iconst (v := 1) hx hb dX6_steps_94 (by decide) ?_
          refine lv_iload_n hx hb dX6_steps_95 rfl (lv_at hl 1 rfl) ?_
          refine lv_ishl hx hb dX6_steps_96 ?_
          refine lv_ior hx hb dX6_steps_97 ?_
          obtain ⟨y48, e49, hm⟩ := ob hm
          refine f_name e49 ?_
          refine f_iastK S hK hw 4 1 rfl rfl 0 (by decide) (by decide) (ws1 := (wd_28 cC cI cJ a_md a_md_text md_typed a_md_told a_md_draft a_md_s a_md_past md_known a_md_images md_kept a_md_seen md_sights md_at a_md_asks a_md_brings a_md_uses a_md_days a_md_tries a_md_row md_many a_md_first md_length md_set a_md_held a_md_text md_text a_md_told md_told a_md_draft md_draft a_md_s (upd md_s 0 y48) a_md_past md_past a_md_images md_images a_md_seen md_seen a_md_asks md_asks a_md_brings md_brings a_md_uses md_uses a_md_days md_days a_md_tries md_tries a_md_row md_row a_md_first md_first a_md_held md_held)) rfl dX6_steps_98 (fun H locs hw => ?_)
          obtain rfl := Option.some.inj hm
          exact e_WV S hr hlk hw hw.1 dX6_steps_99
      · replace hm := ineg hm c42
        refine lv_aload_n hx hb dX6_steps_59 rfl (lv_at hl 2 rfl) ?_
        refine lv_iload_n hx hb dX6_steps_60 rfl (lv_at hl 0 rfl) ?_
        obtain ⟨r50, h51, hm⟩ := ob hm
        refine k_rVi S hK hw.1 cal_X6_canBefriend gX6_steps_X6_canBefriend (c_X6_canBefriend l D cC cI cJ a_md a_md_text a_md_told a_md_draft a_md_s a_md_past a_md_images a_md_seen a_md_asks a_md_brings a_md_uses a_md_days a_md_tries a_md_row a_md_first a_md_held md_typed md_known md_kept md_sights md_at md_many md_length md_set md_text md_told md_draft md_s md_past md_images md_seen md_asks md_brings md_uses md_days md_tries md_row md_first md_held (0 : Int32) r50 h51) ⟨⟨rfl, rfl⟩, Nat.le_of_ble_eq_true rfl, Nat.le_of_ble_eq_true rfl⟩ [0, 1, 2, 3, 4, 5, 6, 7, 8, 9, 10, 11, 12, 13, 14, 15] rfl 0 rfl rfl rfl hl.1 rfl (Nat.le_of_ble_eq_true rfl) dX6_steps_61 ⟨Nat.zero_le _, Nat.zero_le _⟩ ?_
        refine lv_if_eq (tgt := 75) hx hb dX6_steps_64 (by decide) (fun c52 => ?_) (fun c52 => ?_)
        · replace hm := ipos hm c52
          refine lv_aload_n hx hb dX6_steps_75 rfl (lv_at hl 2 rfl) ?_
          obtain ⟨r53, h54, hm⟩ := ob hm
          refine k_rVi S hK hw.1 cal_X6_silent gX6_steps_X6_silent (c_X6_silent l D cC cI cJ a_md a_md_text a_md_told a_md_draft a_md_s a_md_past a_md_images a_md_seen a_md_asks a_md_brings a_md_uses a_md_days a_md_tries a_md_row a_md_first a_md_held md_typed md_known md_kept md_sights md_at md_many md_length md_set md_text md_told md_draft md_s md_past md_images md_seen md_asks md_brings md_uses md_days md_tries md_row md_first md_held r53 h54) ⟨⟨rfl, rfl⟩, Nat.le_of_ble_eq_true rfl, Nat.le_of_ble_eq_true rfl⟩ [0, 1, 2, 3, 4, 5, 6, 7, 8, 9, 10, 11, 12, 13, 14, 15] rfl 0 rfl rfl rfl hl.1 rfl (Nat.le_of_ble_eq_true rfl) dX6_steps_76 ⟨Nat.zero_le _, Nat.zero_le _⟩ ?_
          refine lv_iload_n hx hb dX6_steps_79 rfl (lv_at hl 1 rfl) ?_
          refine lv_ishr hx hb dX6_steps_80 ?_
          refine lv_iconst (v := 1) hx hb dX6_steps_81 (by decide) ?_
          refine lv_iand hx hb dX6_steps_82 ?_
          refine lv_iconst (v := 1) hx hb dX6_steps_83 (by decide) ?_
          refine lv_icmp_ne (tgt := 99) hx hb dX6_steps_84 (by decide) (fun c55 => ?_) (fun c55 => ?_)
          · replace hm := ineg hm c55
            obtain rfl := Option.some.inj hm
            exact e_WV S hr hlk hw hw.1 dX6_steps_99
          · replace hm := ipos hm c55
            refine lv_aload_n hx hb dX6_steps_87 rfl (lv_at hl 2 rfl) ?_
            refine f_get S hK hw.1 in_X6_steps_X6 0 rfl rfl 4 (by decide) (List.mem_of_getElem? (i := 2) rfl) rfl rfl dX6_steps_88 ?_
            refine lv_iconst (v := 0) hx hb dX6_steps_91 (by decide) ?_
            refine lv_dup2_11 hx hb dX6_steps_92 rfl rfl ?_
            refine f_ialdK S hK hw.1 4 1 rfl rfl 0 (by decide) (by decide) (v := (md_s 0)) rfl dX6_steps_93 ?_
            refine lv_iconst (v := 1) hx hb dX6_steps_94 (by decide) ?_
            refine lv_iload_n hx hb dX6_steps_95 rfl (lv_at hl 1 rfl) ?_
            refine lv_ishl hx hb dX6_steps_96 ?_
            refine lv_ior hx hb dX6_steps_97 ?_
            obtain ⟨y58, e59, hm⟩ := ob hm
            refine f_name e59 ?_
            refine f_iastK S hK hw 4 1 rfl rfl 0 (by decide) (by decide) (ws1 := (wd_28 cC cI cJ a_md a_md_text md_typed a_md_told a_md_draft a_md_s a_md_past md_known a_md_images md_kept a_md_seen md_sights md_at a_md_asks a_md_brings a_md_uses a_md_days a_md_tries a_md_row md_many a_md_first md_length md_set a_md_held a_md_text md_text a_md_told md_told a_md_draft md_draft a_md_s (upd md_s 0 y58) a_md_past md_past a_md_images md_images a_md_seen md_seen a_md_asks md_asks a_md_brings md_brings a_md_uses md_uses a_md_days md_days a_md_tries md_tries a_md_row md_row a_md_first md_first a_md_held md_held)) rfl dX6_steps_98 (fun H locs hw => ?_)
            obtain rfl := Option.some.inj hm
            exact e_WV S hr hlk hw hw.1 dX6_steps_99
        · replace hm := ineg hm c52
          refine lv_aload_n hx hb dX6_steps_67 rfl (lv_at hl 2 rfl) ?_
          refine lv_iload_n hx hb dX6_steps_68 rfl (lv_at hl 0 rfl) ?_
          obtain ⟨r60, h61, hm⟩ := ob hm
          refine k_wVv S hK hw cal_X6_befriends gX6_steps_X6_befriends (c_X6_befriends l D cC cI cJ a_md a_md_text a_md_told a_md_draft a_md_s a_md_past a_md_images a_md_seen a_md_asks a_md_brings a_md_uses a_md_days a_md_tries a_md_row a_md_first a_md_held md_typed md_known md_kept md_sights md_at md_many md_length md_set md_text md_told md_draft md_s md_past md_images md_seen md_asks md_brings md_uses md_days md_tries md_row md_first md_held (0 : Int32) (aw _) (hw.own [0, 1, 2, 3, 4, 5, 6, 7, 8, 9, 10, 11, 12, 13, 14, 15] (by decide) rfl) r60 h61) ⟨⟨rfl, rfl⟩, Nat.le_of_ble_eq_true rfl, Nat.le_of_ble_eq_true rfl⟩ [0, 1, 2, 3, 4, 5, 6, 7, 8, 9, 10, 11, 12, 13, 14, 15] rfl 0 rfl rfl rfl hl.1 rfl (Nat.le_of_ble_eq_true rfl) dX6_steps_69 ⟨Nat.zero_le _, Nat.zero_le _⟩ (fun H locs hJ hB => ?_)
          have hw := hJ _ hB rfl
          replace hw : Wd D A _ (wd_28 cC cI cJ a_md a_md_text md_typed a_md_told a_md_draft a_md_s a_md_past md_known a_md_images md_kept a_md_seen md_sights md_at a_md_asks a_md_brings a_md_uses a_md_days a_md_tries a_md_row md_many a_md_first md_length md_set a_md_held a_md_text md_text a_md_told md_told a_md_draft md_draft a_md_s r60 a_md_past md_past a_md_images md_images a_md_seen md_seen a_md_asks md_asks a_md_brings md_brings a_md_uses md_uses a_md_days md_days a_md_tries md_tries a_md_row md_row a_md_first md_first a_md_held md_held) H locs := hw
          refine lv_goto (tgt := 99) hx hb dX6_steps_72 (by decide) ?_
          obtain rfl := Option.some.inj hm
          exact e_WV S hr hlk hw hw.1 dX6_steps_99
    · replace hm := ineg hm c40
      refine lv_aload_n hx hb dX6_steps_42 rfl (lv_at hl 2 rfl) ?_
      refine lv_iload_n hx hb dX6_steps_43 rfl (lv_at hl 1 rfl) ?_
      obtain ⟨r62, h63, hm⟩ := ob hm
      refine k_wVv S hK hw cal_X6_rides gX6_steps_X6_rides (c_X6_rides l D cC cI cJ a_md a_md_text a_md_told a_md_draft a_md_s a_md_past a_md_images a_md_seen a_md_asks a_md_brings a_md_uses a_md_days a_md_tries a_md_row a_md_first a_md_held md_typed md_known md_kept md_sights md_at md_many md_length md_set md_text md_told md_draft md_s md_past md_images md_seen md_asks md_brings md_uses md_days md_tries md_row md_first md_held y3 N (aw _) (hw.own [0, 1, 2, 3, 4, 5, 6, 7, 8, 9, 10, 11, 12, 13, 14, 15] (by decide) rfl) r62 h63) ⟨⟨rfl, rfl⟩, Nat.le_of_ble_eq_true rfl, Nat.le_of_ble_eq_true rfl⟩ [0, 1, 2, 3, 4, 5, 6, 7, 8, 9, 10, 11, 12, 13, 14, 15] rfl 0 rfl rfl rfl hl.1 rfl (Nat.le_of_ble_eq_true rfl) dX6_steps_44 ⟨Nat.zero_le _, Nat.zero_le _⟩ (fun H locs hJ hB => ?_)
      have hw := hJ _ hB rfl
      replace hw : Wd D A _ (wd_28 cC cI cJ a_md a_md_text md_typed a_md_told a_md_draft a_md_s a_md_past md_known a_md_images md_kept a_md_seen md_sights md_at a_md_asks a_md_brings a_md_uses a_md_days a_md_tries a_md_row md_many a_md_first md_length md_set a_md_held a_md_text md_text a_md_told md_told a_md_draft md_draft a_md_s r62 a_md_past md_past a_md_images md_images a_md_seen md_seen a_md_asks md_asks a_md_brings md_brings a_md_uses md_uses a_md_days md_days a_md_tries md_tries a_md_row md_row a_md_first md_first a_md_held md_held) H locs := hw
      refine lv_goto (tgt := 99) hx hb dX6_steps_47 (by decide) ?_
      obtain rfl := Option.some.inj hm
      exact e_WV S hr hlk hw hw.1 dX6_steps_99

abbrev rX6_king : Room := { frames := 5, cells := 0, slots := 0, locals := 116 }
theorem cal_X6_king : Cal yX6_king wsX6_king cX6_king 7 (some .int) RX6 3 := ⟨⟨_, rfl⟩, rfl, by decide +kernel, by decide +kernel, by decide +kernel⟩
theorem in_X6_king_X6 : ∀ w ∈ wsX60, w ∈ wsX6_king := fun _ h => (List.mem_cons_of_mem _ (List.mem_append_right _ h))
set_option maxHeartbeats 4000000 in
set_option maxRecDepth 100000 in
theorem t_X6_king_35 {p : Program} {e : Env} {s : State} {m : MethodId} {args : Array Value} {below : List Frame} {meth : Method} {c : Code} {Q : State → Prop} (l : Launch) {D : va_G} {cC cI cJ : ClassId} {A : Nat → Prop} {H0 : Heap} (S : CallFix p m c cX6_king 7 s args wsX6_king RX6) (hK : KK D (tyK cC cI cJ) s) (a_md : Nat) (a_md_text : Nat) (a_md_told : Nat) (a_md_draft : Nat) (a_md_s : Nat) (a_md_past : Nat) (a_md_images : Nat) (a_md_seen : Nat) (a_md_asks : Nat) (a_md_brings : Nat) (a_md_uses : Nat) (a_md_days : Nat) (a_md_tries : Nat) (a_md_row : Nat) (a_md_first : Nat) (a_md_held : Nat) (v1 : Int32) (v2 : Int32) (v3 : Int32) (md_typed : Int32) (md_known : Int32) (md_kept : Int32) (md_sights : Int32) (md_at : Int32) (md_many : Int32) (md_length : Int32) (md_set : Int32) (md_text : (Nat → Int32)) (md_told : (Nat → Int32)) (md_draft : (Nat → Int32)) (md_s : (Nat → Int32)) (md_past : (Nat → Int32)) (md_images : (Nat → Int32)) (md_seen : (Nat → Int32)) (md_asks : (Nat → Int32)) (md_brings : (Nat → Int32)) (md_uses : (Nat → Int32)) (md_days : (Nat → Int32)) (md_tries : (Nat → Int32)) (md_row : (Nat → Int32)) (md_first : (Nat → Int32)) : ∀ (n : Nat) (v4 : Int32) (md_held : (Nat → Int32)) (out : (Nat → Int32)), lp_X6_king_35 md_s n v4 md_held = some out → ∀ (H : Heap) (locs : List Loc) (ls : Array Slot), Wd D A H0 (wd_28 cC cI cJ a_md a_md_text md_typed a_md_told a_md_draft a_md_s a_md_past md_known a_md_images md_kept a_md_seen md_sights md_at a_md_asks a_md_brings a_md_uses a_md_days a_md_tries a_md_row md_many a_md_first md_length md_set a_md_held a_md_text md_text a_md_told md_told a_md_draft md_draft a_md_s md_s a_md_past md_past a_md_images md_images a_md_seen md_seen a_md_asks md_asks a_md_brings md_brings a_md_uses md_uses a_md_days md_days a_md_tries md_tries a_md_row md_row a_md_first md_first a_md_held md_held) H locs → lv_has ls 7 [(0, .ref a_md), (1, .int v1), (2, .int v2), (3, .int v3), (4, .int v4)] → (∀ (H : Heap) (locs : List Loc) (ls : Array Slot), Wd D A H0 (wd_28 cC cI cJ a_md a_md_text md_typed a_md_told a_md_draft a_md_s a_md_past md_known a_md_images md_kept a_md_seen md_sights md_at a_md_asks a_md_brings a_md_uses a_md_days a_md_tries a_md_row md_many a_md_first md_length md_set a_md_held a_md_text md_text a_md_told md_told a_md_draft md_draft a_md_s md_s a_md_past md_past a_md_images md_images a_md_seen md_seen a_md_asks md_asks a_md_brings md_brings a_md_uses md_uses a_md_days md_days a_md_tries md_tries a_md_row md_row a_md_first md_first a_md_held out) H locs → lv_has ls 7 [(0, .ref a_md), (1, .int v1), (2, .int v2), (3, .int v3)] → W p l e rX6_king s m args below meth c H locs 0 0 Q (F0 m 62 ls [])) → W p l e rX6_king s m args below meth c H locs 0 0 Q (F0 m 35 ls []) := by
  have hx := S.1
  have hb := S.2.1
  intro n
  induction n with
  | zero => intro v4 md_held out hm; cases (show (none : Option (Nat → Int32)) = some out from hm)
  | succ n ih =>
    intro v4 md_held out hm  H locs ls hw hl K0
    rw [lp_X6_king_35] at hm
    refine lv_iload hx hb dX6_king_35 (lv_at hl 4 rfl) ?_
    refine lv_bipush (v := 6) hx hb dX6_king_37 (by decide) ?_
    refine lv_icmp_ge (tgt := 62) hx hb dX6_king_39 (by decide) (fun c10 => ?_) (fun c10 => ?_)
    · replace hm := ipos hm c10
      obtain rfl := Option.some.inj hm
      exact K0  _ _ ls hw (lv_sub hl [0, 1, 2, 3] rfl)
    · replace hm := ineg hm c10
      refine lv_aload_n hx hb dX6_king_42 rfl (lv_at hl 0 rfl) ?_
      refine f_get S hK hw.1 in_X6_king_X6 0 rfl rfl 22 (by decide) (List.mem_of_getElem? (i := 1) rfl) rfl rfl dX6_king_43 ?_
      refine lv_iload hx hb dX6_king_46 (lv_at hl 4 rfl) ?_
      refine lv_aload_n hx hb dX6_king_48 rfl (lv_at hl 0 rfl) ?_
      refine f_get S hK hw.1 in_X6_king_X6 0 rfl rfl 4 (by decide) (List.mem_of_getElem? (i := 2) rfl) rfl rfl dX6_king_49 ?_
      refine lv_iload hx hb dX6_king_52 (lv_at hl 4 rfl) ?_
      obtain ⟨g11, hm⟩ := gdo hm
      refine f_iald S hK hw.1 4 1 rfl rfl g11 dX6_king_54 ?_
      refine f_iast S hK hw 15 1 rfl rfl g11 (ws1 := (wd_28 cC cI cJ a_md a_md_text md_typed a_md_told a_md_draft a_md_s a_md_past md_known a_md_images md_kept a_md_seen md_sights md_at a_md_asks a_md_brings a_md_uses a_md_days a_md_tries a_md_row md_many a_md_first md_length md_set a_md_held a_md_text md_text a_md_told md_told a_md_draft md_draft a_md_s md_s a_md_past md_past a_md_images md_images a_md_seen md_seen a_md_asks md_asks a_md_brings md_brings a_md_uses md_uses a_md_days md_days a_md_tries md_tries a_md_row md_row a_md_first md_first a_md_held (upd md_held (v4).toNatClampNeg (md_s (v4).toNatClampNeg)))) rfl dX6_king_55 (fun H locs hw => ?_)
      refine lv_iinc (v := (v4 + 1)) (lv' := [(4, .int (v4 + 1)), (0, .ref a_md), (1, .int v1), (2, .int v2), (3, .int v3)]) hx hb dX6_king_56 hl (k := 4) rfl (by rw [ofi_1]) (by decide) rfl (fun ls hl => ?_)
      refine lv_goto (tgt := 35) hx hb dX6_king_59 (by decide) ?_
      exact ih (v4 + 1) (upd md_held (v4).toNatClampNeg (md_s (v4).toNatClampNeg)) _ hm  _ _ ls hw (lv_sub hl [1, 2, 3, 4, 0] rfl) K0
set_option maxHeartbeats 4000000 in
set_option maxRecDepth 100000 in
theorem t_X6_king_65 {p : Program} {e : Env} {s : State} {m : MethodId} {args : Array Value} {below : List Frame} {meth : Method} {c : Code} {Q : State → Prop} (l : Launch) {D : va_G} {cC cI cJ : ClassId} {A : Nat → Prop} {H0 : Heap} (S : CallFix p m c cX6_king 7 s args wsX6_king RX6) (hK : KK D (tyK cC cI cJ) s) (a_md : Nat) (a_md_text : Nat) (a_md_told : Nat) (a_md_draft : Nat) (a_md_s : Nat) (a_md_past : Nat) (a_md_images : Nat) (a_md_seen : Nat) (a_md_asks : Nat) (a_md_brings : Nat) (a_md_uses : Nat) (a_md_days : Nat) (a_md_tries : Nat) (a_md_row : Nat) (a_md_first : Nat) (a_md_held : Nat) (N : Nat) (v1 : Int32) (v2 : Int32) (v3 : Int32) (md_typed : Int32) (md_known : Int32) (md_kept : Int32) (md_sights : Int32) (md_at : Int32) (md_many : Int32) (md_length : Int32) (md_set : Int32) (md_text : (Nat → Int32)) (md_told : (Nat → Int32)) (md_draft : (Nat → Int32)) (md_past : (Nat → Int32)) (md_images : (Nat → Int32)) (md_seen : (Nat → Int32)) (md_asks : (Nat → Int32)) (md_brings : (Nat → Int32)) (md_uses : (Nat → Int32)) (md_days : (Nat → Int32)) (md_tries : (Nat → Int32)) (md_row : (Nat → Int32)) (md_first : (Nat → Int32)) (md_held : (Nat → Int32)) : ∀ (n : Nat) (v4 : Int32) (md_s : (Nat → Int32)) (out : (Nat → Int32)), lp_X6_king_65 N v1 v2 md_told n v4 md_s = some out → ∀ (H : Heap) (locs : List Loc) (ls : Array Slot), Wd D A H0 (wd_28 cC cI cJ a_md a_md_text md_typed a_md_told a_md_draft a_md_s a_md_past md_known a_md_images md_kept a_md_seen md_sights md_at a_md_asks a_md_brings a_md_uses a_md_days a_md_tries a_md_row md_many a_md_first md_length md_set a_md_held a_md_text md_text a_md_told md_told a_md_draft md_draft a_md_s md_s a_md_past md_past a_md_images md_images a_md_seen md_seen a_md_asks md_asks a_md_brings md_brings a_md_uses md_uses a_md_days md_days a_md_tries md_tries a_md_row md_row a_md_first md_first a_md_held md_held) H locs → lv_has ls 7 [(0, .ref a_md), (1, .int v1), (2, .int v2), (3, .int v3), (4, .int v4)] → (∀ (H : Heap) (locs : List Loc) (ls : Array Slot), Wd D A H0 (wd_28 cC cI cJ a_md a_md_text md_typed a_md_told a_md_draft a_md_s a_md_past md_known a_md_images md_kept a_md_seen md_sights md_at a_md_asks a_md_brings a_md_uses a_md_days a_md_tries a_md_row md_many a_md_first md_length md_set a_md_held a_md_text md_text a_md_told md_told a_md_draft md_draft a_md_s out a_md_past md_past a_md_images md_images a_md_seen md_seen a_md_asks md_asks a_md_brings md_brings a_md_uses md_uses a_md_days md_days a_md_tries md_tries a_md_row md_row a_md_first md_first a_md_held md_held) H locs → lv_has ls 7 [(0, .ref a_md), (3, .int v3)] → W p l e rX6_king s m args below meth c H locs 0 0 Q (F0 m 111 ls [])) → W p l e rX6_king s m args below meth c H locs 0 0 Q (F0 m 65 ls []) := by
  have hx := S.1
  have hb := S.2.1
  intro n
  induction n with
  | zero => intro v4 md_s out hm; cases (show (none : Option (Nat → Int32)) = some out from hm)
  | succ n ih =>
    intro v4 md_s out hm  H locs ls hw hl K0
    rw [lp_X6_king_65] at hm
    refine lv_iload hx hb dX6_king_65 (lv_at hl 4 rfl) ?_
    refine lv_iload_n hx hb dX6_king_67 rfl (lv_at hl 2 rfl) ?_
    refine lv_icmp_ge (tgt := 111) hx hb dX6_king_68 (by decide) (fun c15 => ?_) (fun c15 => ?_)
    · replace hm := ipos hm c15
      obtain rfl := Option.some.inj hm
      exact K0  _ _ ls hw (lv_sub hl [0, 3] rfl)
    · replace hm := ineg hm c15
      refine lv_ldc2 hx hb S.2.2.2.1 (S.2.2.2.2 (.constantLong RX6 179 (7919)) (List.mem_of_getElem? (i := 3) rfl)) dX6_king_71 ?_
      refine lv_iload_n hx hb dX6_king_74 rfl (lv_at hl 1 rfl) ?_
      refine lv_i2l (v := (v1).toInt64) hx hb dX6_king_75 rfl ?_
      refine lv_lmul hx hb dX6_king_76 ?_
      refine lv_ldc2 hx hb S.2.2.2.1 (S.2.2.2.2 (.constantLong RX6 181 (6151)) (List.mem_of_getElem? (i := 4) rfl)) dX6_king_77 ?_
      refine lv_iload hx hb dX6_king_80 (lv_at hl 4 rfl) ?_
      refine lv_i2l (v := (v4).toInt64) hx hb dX6_king_82 rfl ?_
      refine lv_lmul hx hb dX6_king_83 ?_
      refine lv_ladd hx hb dX6_king_84 ?_
      refine lv_lconst (v := 1) hx hb dX6_king_85 (by decide) ?_
      refine lv_ladd hx hb dX6_king_86 ?_
      obtain ⟨y16, e17, hm⟩ := ob hm
      refine f_nameL e17 ?_
      refine lv_lstore (lv' := [(5, .long y16), (0, .ref a_md), (1, .int v1), (2, .int v2), (3, .int v3), (4, .int v4)]) hx hb dX6_king_87 hl (by decide) rfl (fun ls hl => ?_)
      refine lv_aload_n hx hb dX6_king_89 rfl (lv_at hl 1 rfl) ?_
      refine lv_lload hx hb dX6_king_90 (lv_at hl 0 rfl) ?_
      refine lv_lload hx hb dX6_king_92 (lv_at hl 0 rfl) ?_
      refine lv_lmul hx hb dX6_king_94 ?_
      refine lv_ldc2 hx hb S.2.2.2.1 (S.2.2.2.2 (.constantLong RX6 183 (65521)) (List.mem_of_getElem? (i := 5) rfl)) dX6_king_95 ?_
      refine lv_lrem hx hb dX6_king_98 (by decide) ?_
      refine lv_l2i (v := (((y16 * y16) - (y16 * y16) / (65521 : Int64) * (65521 : Int64))).toInt32) hx hb dX6_king_99 rfl ?_
      refine lv_iconst (v := 2) hx hb dX6_king_100 (by decide) ?_
      refine lv_idiv hx hb dX6_king_101 (by decide) ?_
      obtain ⟨r20, h21, hm⟩ := ob hm
      refine k_wVv S hK hw cal_X6_steps gX6_king_X6_steps (c_X6_steps l D cC cI cJ a_md a_md_text a_md_told a_md_draft a_md_s a_md_past a_md_images a_md_seen a_md_asks a_md_brings a_md_uses a_md_days a_md_tries a_md_row a_md_first a_md_held md_typed md_known md_kept md_sights md_at md_many md_length md_set md_text md_told md_draft md_s md_past md_images md_seen md_asks md_brings md_uses md_days md_tries md_row md_first md_held (((((y16 * y16) - (y16 * y16) / (65521 : Int64) * (65521 : Int64))).toInt32) / (2 : Int32)) N (aw _) (hw.own [0, 1, 2, 3, 4, 5, 6, 7, 8, 9, 10, 11, 12, 13, 14, 15] (by decide) rfl) r20 h21) ⟨⟨rfl, rfl⟩, Nat.le_of_ble_eq_true rfl, Nat.le_of_ble_eq_true rfl⟩ [0, 1, 2, 3, 4, 5, 6, 7, 8, 9, 10, 11, 12, 13, 14, 15] rfl 0 rfl rfl rfl hl.1 rfl (Nat.le_of_ble_eq_true rfl) dX6_king_102 ⟨Nat.zero_le _, Nat.zero_le _⟩ (fun H locs hJ hB => ?_)
      have hw := hJ _ hB rfl
      replace hw : Wd D A _ (wd_28 cC cI cJ a_md a_md_text md_typed a_md_told a_md_draft a_md_s a_md_past md_known a_md_images md_kept a_md_seen md_sights md_at a_md_asks a_md_brings a_md_uses a_md_days a_md_tries a_md_row md_many a_md_first md_length md_set a_md_held a_md_text md_text a_md_told md_told a_md_draft md_draft a_md_s r20 a_md_past md_past a_md_images md_images a_md_seen md_seen a_md_asks md_asks a_md_brings md_brings a_md_uses md_uses a_md_days md_days a_md_tries md_tries a_md_row md_row a_md_first md_first a_md_held md_held) H locs := hw
      refine lv_iinc (v := (v4 + 1)) (lv' := [(4, .int (v4 + 1)), (5, .long y16), (0, .ref a_md), (1, .int v1), (2, .int v2), (3, .int v3)]) hx hb dX6_king_105 hl (k := 5) rfl (by rw [ofi_1]) (by decide) rfl (fun ls hl => ?_)
      refine lv_goto (tgt := 65) hx hb dX6_king_108 (by decide) ?_
      exact ih (v4 + 1) r20 _ hm  _ _ ls hw (lv_sub hl [2, 3, 4, 5, 0] rfl) K0
set_option maxHeartbeats 4000000 in
set_option maxRecDepth 100000 in
theorem t_X6_king_158 {p : Program} {e : Env} {s : State} {m : MethodId} {args : Array Value} {below : List Frame} {meth : Method} {c : Code} {Q : State → Prop} (l : Launch) {D : va_G} {cC cI cJ : ClassId} {A : Nat → Prop} {H0 : Heap} (S : CallFix p m c cX6_king 7 s args wsX6_king RX6) (hK : KK D (tyK cC cI cJ) s) (a_md : Nat) (a_md_text : Nat) (a_md_told : Nat) (a_md_draft : Nat) (a_md_s : Nat) (a_md_past : Nat) (a_md_images : Nat) (a_md_seen : Nat) (a_md_asks : Nat) (a_md_brings : Nat) (a_md_uses : Nat) (a_md_days : Nat) (a_md_tries : Nat) (a_md_row : Nat) (a_md_first : Nat) (a_md_held : Nat) (v4 : Int32) (md_typed : Int32) (md_known : Int32) (md_kept : Int32) (md_sights : Int32) (md_at : Int32) (md_many : Int32) (md_length : Int32) (md_set : Int32) (md_text : (Nat → Int32)) (md_told : (Nat → Int32)) (md_draft : (Nat → Int32)) (md_past : (Nat → Int32)) (md_images : (Nat → Int32)) (md_seen : (Nat → Int32)) (md_asks : (Nat → Int32)) (md_brings : (Nat → Int32)) (md_uses : (Nat → Int32)) (md_days : (Nat → Int32)) (md_tries : (Nat → Int32)) (md_row : (Nat → Int32)) (md_first : (Nat → Int32)) (md_held : (Nat → Int32)) : ∀ (n : Nat) (v5 : Int32) (md_s : (Nat → Int32)) (out : (Nat → Int32)), lp_X6_king_158 md_held n v5 md_s = some out → ∀ (H : Heap) (locs : List Loc) (ls : Array Slot), Wd D A H0 (wd_28 cC cI cJ a_md a_md_text md_typed a_md_told a_md_draft a_md_s a_md_past md_known a_md_images md_kept a_md_seen md_sights md_at a_md_asks a_md_brings a_md_uses a_md_days a_md_tries a_md_row md_many a_md_first md_length md_set a_md_held a_md_text md_text a_md_told md_told a_md_draft md_draft a_md_s md_s a_md_past md_past a_md_images md_images a_md_seen md_seen a_md_asks md_asks a_md_brings md_brings a_md_uses md_uses a_md_days md_days a_md_tries md_tries a_md_row md_row a_md_first md_first a_md_held md_held) H locs → lv_has ls 7 [(0, .ref a_md), (4, .int v4), (5, .int v5)] → (∀ (H : Heap) (locs : List Loc) (ls : Array Slot), Wd D A H0 (wd_28 cC cI cJ a_md a_md_text md_typed a_md_told a_md_draft a_md_s a_md_past md_known a_md_images md_kept a_md_seen md_sights md_at a_md_asks a_md_brings a_md_uses a_md_days a_md_tries a_md_row md_many a_md_first md_length md_set a_md_held a_md_text md_text a_md_told md_told a_md_draft md_draft a_md_s out a_md_past md_past a_md_images md_images a_md_seen md_seen a_md_asks md_asks a_md_brings md_brings a_md_uses md_uses a_md_days md_days a_md_tries md_tries a_md_row md_row a_md_first md_first a_md_held md_held) H locs → lv_has ls 7 [(4, .int v4)] → W p l e rX6_king s m args below meth c H locs 0 0 Q (F0 m 185 ls [])) → W p l e rX6_king s m args below meth c H locs 0 0 Q (F0 m 158 ls []) := by
  have hx := S.1
  have hb := S.2.1
  intro n
  induction n with
  | zero => intro v5 md_s out hm; cases (show (none : Option (Nat → Int32)) = some out from hm)
  | succ n ih =>
    intro v5 md_s out hm  H locs ls hw hl K0
    rw [lp_X6_king_158] at hm
    refine lv_iload hx hb dX6_king_158 (lv_at hl 2 rfl) ?_
    refine lv_bipush (v := 6) hx hb dX6_king_160 (by decide) ?_
    refine lv_icmp_ge (tgt := 185) hx hb dX6_king_162 (by decide) (fun c29 => ?_) (fun c29 => ?_)
    · replace hm := ipos hm c29
      obtain rfl := Option.some.inj hm
      exact K0  _ _ ls hw (lv_sub hl [1] rfl)
    · replace hm := ineg hm c29
      refine lv_aload_n hx hb dX6_king_165 rfl (lv_at hl 0 rfl) ?_
      refine f_get S hK hw.1 in_X6_king_X6 0 rfl rfl 4 (by decide) (List.mem_of_getElem? (i := 2) rfl) rfl rfl dX6_king_166 ?_
      refine lv_iload hx hb dX6_king_169 (lv_at hl 2 rfl) ?_
      refine lv_aload_n hx hb dX6_king_171 rfl (lv_at hl 0 rfl) ?_
      refine f_get S hK hw.1 in_X6_king_X6 0 rfl rfl 22 (by decide) (List.mem_of_getElem? (i := 1) rfl) rfl rfl dX6_king_172 ?_
      refine lv_iload hx hb dX6_king_175 (lv_at hl 2 rfl) ?_
      obtain ⟨g30, hm⟩ := gdo hm
      refine f_iald S hK hw.1 15 1 rfl rfl g30 dX6_king_177 ?_
      refine f_iast S hK hw 4 1 rfl rfl g30 (ws1 := (wd_28 cC cI cJ a_md a_md_text md_typed a_md_told a_md_draft a_md_s a_md_past md_known a_md_images md_kept a_md_seen md_sights md_at a_md_asks a_md_brings a_md_uses a_md_days a_md_tries a_md_row md_many a_md_first md_length md_set a_md_held a_md_text md_text a_md_told md_told a_md_draft md_draft a_md_s (upd md_s (v5).toNatClampNeg (md_held (v5).toNatClampNeg)) a_md_past md_past a_md_images md_images a_md_seen md_seen a_md_asks md_asks a_md_brings md_brings a_md_uses md_uses a_md_days md_days a_md_tries md_tries a_md_row md_row a_md_first md_first a_md_held md_held)) rfl dX6_king_178 (fun H locs hw => ?_)
      refine lv_iinc (v := (v5 + 1)) (lv' := [(5, .int (v5 + 1)), (0, .ref a_md), (4, .int v4)]) hx hb dX6_king_179 hl (k := 2) rfl (by rw [ofi_1]) (by decide) rfl (fun ls hl => ?_)
      refine lv_goto (tgt := 158) hx hb dX6_king_182 (by decide) ?_
      exact ih (v5 + 1) (upd md_s (v5).toNatClampNeg (md_held (v5).toNatClampNeg)) _ hm  _ _ ls hw (lv_sub hl [1, 2, 0] rfl) K0
set_option maxHeartbeats 4000000 in
set_option maxRecDepth 100000 in
theorem c_X6_king (l : Launch) (D : va_G) (cC cI cJ : ClassId) (a_md : Nat) (a_md_text : Nat) (a_md_told : Nat) (a_md_draft : Nat) (a_md_s : Nat) (a_md_past : Nat) (a_md_images : Nat) (a_md_seen : Nat) (a_md_asks : Nat) (a_md_brings : Nat) (a_md_uses : Nat) (a_md_days : Nat) (a_md_tries : Nat) (a_md_row : Nat) (a_md_first : Nat) (a_md_held : Nat) (md_typed : Int32) (md_known : Int32) (md_kept : Int32) (md_sights : Int32) (md_at : Int32) (md_many : Int32) (md_length : Int32) (md_set : Int32) (md_text : (Nat → Int32)) (md_told : (Nat → Int32)) (md_draft : (Nat → Int32)) (md_s : (Nat → Int32)) (md_past : (Nat → Int32)) (md_images : (Nat → Int32)) (md_seen : (Nat → Int32)) (md_asks : (Nat → Int32)) (md_brings : (Nat → Int32)) (md_uses : (Nat → Int32)) (md_days : (Nat → Int32)) (md_tries : (Nat → Int32)) (md_row : (Nat → Int32)) (md_first : (Nat → Int32)) (md_held : (Nat → Int32)) (p0 : Int32) (p1 : Int32) (p2 : Int32) (N : Nat) (A : Nat → Prop) (hD : va_D A (wd_28 cC cI cJ a_md a_md_text md_typed a_md_told a_md_draft a_md_s a_md_past md_known a_md_images md_kept a_md_seen md_sights md_at a_md_asks a_md_brings a_md_uses a_md_days a_md_tries a_md_row md_many a_md_first md_length md_set a_md_held a_md_text md_text a_md_told md_told a_md_draft md_draft a_md_s md_s a_md_past md_past a_md_images md_images a_md_seen md_seen a_md_asks md_asks a_md_brings md_brings a_md_uses md_uses a_md_days md_days a_md_tries md_tries a_md_row md_row a_md_first md_first a_md_held md_held)) (out : (Int32 × (Nat → Int32) × (Nat → Int32))) (hm : m_X6_king N md_told md_s md_held p0 p1 p2 = some out) : WrI l yX6_king wsX6_king rX6_king D (tyK cC cI cJ) [.ref a_md, .int p0, .int p1, .int p2] A (wd_28 cC cI cJ a_md a_md_text md_typed a_md_told a_md_draft a_md_s a_md_past md_known a_md_images md_kept a_md_seen md_sights md_at a_md_asks a_md_brings a_md_uses a_md_days a_md_tries a_md_row md_many a_md_first md_length md_set a_md_held a_md_text md_text a_md_told md_told a_md_draft md_draft a_md_s md_s a_md_past md_past a_md_images md_images a_md_seen md_seen a_md_asks md_asks a_md_brings md_brings a_md_uses md_uses a_md_days md_days a_md_tries md_tries a_md_row md_row a_md_first md_first a_md_held md_held) (Bw0 D (wd_28 cC cI cJ a_md a_md_text md_typed a_md_told a_md_draft a_md_s a_md_past md_known a_md_images md_kept a_md_seen md_sights md_at a_md_asks a_md_brings a_md_uses a_md_days a_md_tries a_md_row md_many a_md_first md_length md_set a_md_held a_md_text md_text a_md_told md_told a_md_draft md_draft a_md_s out.2.1 a_md_past md_past a_md_images md_images a_md_seen md_seen a_md_asks md_asks a_md_brings md_brings a_md_uses md_uses a_md_days md_days a_md_tries md_tries a_md_row md_row a_md_first md_first a_md_held out.2.2)) out.1 := by
  unfold m_X6_king at hm
  refine enter (cc := cX6_king) (maxL := 7) (ret := (some .int)) (lv := [(0, .ref a_md), (1, .int p0), (2, .int p1), (3, .int p2)]) (by decide) rfl (Nat.le_of_ble_eq_true rfl) rfl ?_
  intro p e s m args below meth c S hr hlk hK hP ls hl
  replace S : CallFix p m c cX6_king 7 s args wsX6_king RX6 := S
  have hx := S.1
  have hb := S.2.1
  have hw : Wd D A s.heap (wd_28 cC cI cJ a_md a_md_text md_typed a_md_told a_md_draft a_md_s a_md_past md_known a_md_images md_kept a_md_seen md_sights md_at a_md_asks a_md_brings a_md_uses a_md_days a_md_tries a_md_row md_many a_md_first md_length md_set a_md_held a_md_text md_text a_md_told md_told a_md_draft md_draft a_md_s md_s a_md_past md_past a_md_images md_images a_md_seen md_seen a_md_asks md_asks a_md_brings md_brings a_md_uses md_uses a_md_days md_days a_md_tries md_tries a_md_row md_row a_md_first md_first a_md_held md_held) s.heap [] := ⟨hP, hD, va_S.rf⟩
  have hw0 := hw
  refine lv_iload_n hx hb dX6_king_0 rfl (lv_at hl 1 rfl) ?_
  refine lv_iconst (v := 0) hx hb dX6_king_1 (by decide) ?_
  refine lv_sipush (v := 9999) hx hb dX6_king_2 (by decide) ?_
  obtain ⟨r1, h2, hm⟩ := ob hm
  refine k_rSi S hK hw.1 cal_X6_in gX6_king_X6_in (c_X6_in l D cC cI cJ p0 (0 : Int32) (9999 : Int32) r1 h2) ⟨⟨rfl, rfl⟩, Nat.le_of_ble_eq_true rfl, Nat.le_of_ble_eq_true rfl⟩ [] rfl rfl hl.1 rfl (Nat.le_of_ble_eq_true rfl) dX6_king_5 ⟨Nat.zero_le _, Nat.zero_le _⟩ ?_
  refine lv_if_eq (tgt := 30) hx hb dX6_king_8 (by decide) (fun c3 => ?_) (fun c3 => ?_)
  · replace hm := ipos hm c3
    refine lv_iconst (v := (-1)) hx hb dX6_king_30 (by decide) ?_
    obtain rfl := Option.some.inj hm
    exact e_WI S hr hlk hw rfl hw.1 dX6_king_31
  · replace hm := ineg hm c3
    refine lv_iload_n hx hb dX6_king_11 rfl (lv_at hl 2 rfl) ?_
    refine lv_iconst (v := 1) hx hb dX6_king_12 (by decide) ?_
    refine lv_bipush (v := 40) hx hb dX6_king_13 (by decide) ?_
    obtain ⟨r4, h5, hm⟩ := ob hm
    refine k_rSi S hK hw.1 cal_X6_in gX6_king_X6_in (c_X6_in l D cC cI cJ p1 (1 : Int32) (40 : Int32) r4 h5) ⟨⟨rfl, rfl⟩, Nat.le_of_ble_eq_true rfl, Nat.le_of_ble_eq_true rfl⟩ [] rfl rfl hl.1 rfl (Nat.le_of_ble_eq_true rfl) dX6_king_15 ⟨Nat.zero_le _, Nat.zero_le _⟩ ?_
    refine lv_if_eq (tgt := 30) hx hb dX6_king_18 (by decide) (fun c6 => ?_) (fun c6 => ?_)
    · replace hm := ipos hm c6
      refine lv_iconst (v := (-1)) hx hb dX6_king_30 (by decide) ?_
      obtain rfl := Option.some.inj hm
      exact e_WI S hr hlk hw rfl hw.1 dX6_king_31
    · replace hm := ineg hm c6
      refine lv_iload_n hx hb dX6_king_21 rfl (lv_at hl 3 rfl) ?_
      refine lv_iconst (v := 0) hx hb dX6_king_22 (by decide) ?_
      refine lv_iconst (v := 2) hx hb dX6_king_23 (by decide) ?_
      obtain ⟨r7, h8, hm⟩ := ob hm
      refine k_rSi S hK hw.1 cal_X6_in gX6_king_X6_in (c_X6_in l D cC cI cJ p2 (0 : Int32) (2 : Int32) r7 h8) ⟨⟨rfl, rfl⟩, Nat.le_of_ble_eq_true rfl, Nat.le_of_ble_eq_true rfl⟩ [] rfl rfl hl.1 rfl (Nat.le_of_ble_eq_true rfl) dX6_king_24 ⟨Nat.zero_le _, Nat.zero_le _⟩ ?_
      refine lv_if_ne (tgt := 32) hx hb dX6_king_27 (by decide) (fun c9 => ?_) (fun c9 => ?_)
      · replace hm := ineg hm c9
        refine lv_iconst (v := 0) hx hb dX6_king_32 (by decide) ?_
        refine lv_istore (lv' := [(4, .int (0 : Int32)), (0, .ref a_md), (1, .int p0), (2, .int p1), (3, .int p2)]) hx hb dX6_king_33 hl (by decide) rfl (fun ls hl => ?_)
        obtain ⟨r13, h14, hm⟩ := ob hm
        refine t_X6_king_35 l S hK a_md a_md_text a_md_told a_md_draft a_md_s a_md_past a_md_images a_md_seen a_md_asks a_md_brings a_md_uses a_md_days a_md_tries a_md_row a_md_first a_md_held p0 p1 p2 md_typed md_known md_kept md_sights md_at md_many md_length md_set md_text md_told md_draft md_s md_past md_images md_seen md_asks md_brings md_uses md_days md_tries md_row md_first N (0 : Int32) md_held r13 h14  _ _ ls hw (lv_sub hl [1, 2, 3, 4, 0] rfl) (fun H locs ls hw hl => ?_)
        refine lv_iconst (v := 0) hx hb dX6_king_62 (by decide) ?_
        refine lv_istore (lv' := [(4, .int (0 : Int32)), (0, .ref a_md), (1, .int p0), (2, .int p1), (3, .int p2)]) hx hb dX6_king_63 hl (by decide) rfl (fun ls hl => ?_)
        obtain ⟨r22, h23, hm⟩ := ob hm
        refine t_X6_king_65 l S hK a_md a_md_text a_md_told a_md_draft a_md_s a_md_past a_md_images a_md_seen a_md_asks a_md_brings a_md_uses a_md_days a_md_tries a_md_row a_md_first a_md_held N p0 p1 p2 md_typed md_known md_kept md_sights md_at md_many md_length md_set md_text md_told md_draft md_past md_images md_seen md_asks md_brings md_uses md_days md_tries md_row md_first r13 N (0 : Int32) md_s r22 h23  _ _ ls hw (lv_sub hl [1, 2, 3, 4, 0] rfl) (fun H locs ls hw hl => ?_)
        refine lv_iload_n hx hb dX6_king_111 rfl (lv_at hl 1 rfl) ?_
        refine lv_if_ne (tgt := 127) hx hb dX6_king_112 (by decide) (fun c24 => ?_) (fun c24 => ?_)
        · replace hm := ineg hm c24
          refine lv_iload_n hx hb dX6_king_127 rfl (lv_at hl 1 rfl) ?_
          refine lv_iconst (v := 1) hx hb dX6_king_128 (by decide) ?_
          refine lv_icmp_ne (tgt := 141) hx hb dX6_king_129 (by decide) (fun c25 => ?_) (fun c25 => ?_)
          · replace hm := ineg hm c25
            refine lv_aload_n hx hb dX6_king_141 rfl (lv_at hl 0 rfl) ?_
            obtain ⟨r26, h27, hm⟩ := ob hm
            refine k_rVi S hK hw.1 cal_X6_isLost gX6_king_X6_isLost (c_X6_isLost l D cC cI cJ a_md a_md_text a_md_told a_md_draft a_md_s a_md_past a_md_images a_md_seen a_md_asks a_md_brings a_md_uses a_md_days a_md_tries a_md_row a_md_first a_md_held md_typed md_known md_kept md_sights md_at md_many md_length md_set md_text md_told md_draft r22 md_past md_images md_seen md_asks md_brings md_uses md_days md_tries md_row md_first r13 r26 h27) ⟨⟨rfl, rfl⟩, Nat.le_of_ble_eq_true rfl, Nat.le_of_ble_eq_true rfl⟩ [0, 1, 2, 3, 4, 5, 6, 7, 8, 9, 10, 11, 12, 13, 14, 15] rfl 0 rfl rfl rfl hl.1 rfl (Nat.le_of_ble_eq_true rfl) dX6_king_142 ⟨Nat.zero_le _, Nat.zero_le _⟩ ?_
            refine lv_if_eq (tgt := 152) hx hb dX6_king_145 (by decide) (fun c28 => ?_) (fun c28 => ?_)
            · replace hm := ipos hm c28
              refine lv_iconst (v := 0) hx hb dX6_king_152 (by decide) ?_
              refine lv_istore (lv' := [(4, .int (0 : Int32)), (0, .ref a_md), (3, .int p2)]) hx hb dX6_king_153 hl (by decide) rfl (fun ls hl => ?_)
              refine lv_iconst (v := 0) hx hb dX6_king_155 (by decide) ?_
              refine lv_istore (lv' := [(5, .int (0 : Int32)), (4, .int (0 : Int32)), (0, .ref a_md), (3, .int p2)]) hx hb dX6_king_156 hl (by decide) rfl (fun ls hl => ?_)
              obtain ⟨r32, h33, hm⟩ := ob hm
              refine t_X6_king_158 l S hK a_md a_md_text a_md_told a_md_draft a_md_s a_md_past a_md_images a_md_seen a_md_asks a_md_brings a_md_uses a_md_days a_md_tries a_md_row a_md_first a_md_held (0 : Int32) md_typed md_known md_kept md_sights md_at md_many md_length md_set md_text md_told md_draft md_past md_images md_seen md_asks md_brings md_uses md_days md_tries md_row md_first r13 N (0 : Int32) r22 r32 h33  _ _ ls hw (lv_sub hl [2, 1, 0] rfl) (fun H locs ls hw hl => ?_)
              refine lv_iload hx hb dX6_king_185 (lv_at hl 0 rfl) ?_
              obtain rfl := Option.some.inj hm
              exact e_WI S hr hlk hw rfl hw.1 dX6_king_187
            · replace hm := ineg hm c28
              refine lv_iconst (v := 1) hx hb dX6_king_148 (by decide) ?_
              refine lv_goto (tgt := 153) hx hb dX6_king_149 (by decide) ?_
              refine lv_istore (lv' := [(4, .int (1 : Int32)), (0, .ref a_md), (3, .int p2)]) hx hb dX6_king_153 hl (by decide) rfl (fun ls hl => ?_)
              refine lv_iconst (v := 0) hx hb dX6_king_155 (by decide) ?_
              refine lv_istore (lv' := [(5, .int (0 : Int32)), (4, .int (1 : Int32)), (0, .ref a_md), (3, .int p2)]) hx hb dX6_king_156 hl (by decide) rfl (fun ls hl => ?_)
              obtain ⟨r34, h35, hm⟩ := ob hm
              refine t_X6_king_158 l S hK a_md a_md_text a_md_told a_md_draft a_md_s a_md_past a_md_images a_md_seen a_md_asks a_md_brings a_md_uses a_md_days a_md_tries a_md_row a_md_first a_md_held (1 : Int32) md_typed md_known md_kept md_sights md_at md_many md_length md_set md_text md_told md_draft md_past md_images md_seen md_asks md_brings md_uses md_days md_tries md_row md_first r13 N (0 : Int32) r22 r34 h35  _ _ ls hw (lv_sub hl [2, 1, 0] rfl) (fun H locs ls hw hl => ?_)
              refine lv_iload hx hb dX6_king_185 (lv_at hl 0 rfl) ?_
              obtain rfl := Option.some.inj hm
              exact e_WI S hr hlk hw rfl hw.1 dX6_king_187
          · replace hm := ipos hm c25
            refine lv_aload_n hx hb dX6_king_132 rfl (lv_at hl 0 rfl) ?_
            refine f_get S hK hw.1 in_X6_king_X6 0 rfl rfl 4 (by decide) (List.mem_of_getElem? (i := 2) rfl) rfl rfl dX6_king_133 ?_
            refine lv_iconst (v := 5) hx hb dX6_king_136 (by decide) ?_
            refine f_ialdK S hK hw.1 4 1 rfl rfl 5 (by decide) (by decide) (v := (r22 5)) rfl dX6_king_137 ?_
            refine lv_goto (tgt := 153) hx hb dX6_king_138 (by decide) ?_
            refine lv_istore (lv' := [(4, .int (r22 5)), (0, .ref a_md), (3, .int p2)]) hx hb dX6_king_153 hl (by decide) rfl (fun ls hl => ?_)
            refine lv_iconst (v := 0) hx hb dX6_king_155 (by decide) ?_
            refine lv_istore (lv' := [(5, .int (0 : Int32)), (4, .int (r22 5)), (0, .ref a_md), (3, .int p2)]) hx hb dX6_king_156 hl (by decide) rfl (fun ls hl => ?_)
            obtain ⟨r37, h38, hm⟩ := ob hm
            refine t_X6_king_158 l S hK a_md a_md_text a_md_told a_md_draft a_md_s a_md_past a_md_images a_md_seen a_md_asks a_md_brings a_md_uses a_md_days a_md_tries a_md_row a_md_first a_md_held (r22 5) md_typed md_known md_kept md_sights md_at md_many md_length md_set md_text md_told md_draft md_past md_images md_seen md_asks md_brings md_uses md_days md_tries md_row md_first r13 N (0 : Int32) r22 r37 h38  _ _ ls hw (lv_sub hl [2, 1, 0] rfl) (fun H locs ls hw hl => ?_)
            refine lv_iload hx hb dX6_king_185 (lv_at hl 0 rfl) ?_
            obtain rfl := Option.some.inj hm
            exact e_WI S hr hlk hw rfl hw.1 dX6_king_187
        · replace hm := ipos hm c24
          refine lv_aload_n hx hb dX6_king_115 rfl (lv_at hl 0 rfl) ?_
          refine f_get S hK hw.1 in_X6_king_X6 0 rfl rfl 4 (by decide) (List.mem_of_getElem? (i := 2) rfl) rfl rfl dX6_king_116 ?_
          refine lv_iconst (v := 1) hx hb dX6_king_119 (by decide) ?_
          refine f_ialdK S hK hw.1 4 1 rfl rfl 1 (by decide) (by decide) (v := (r22 1)) rfl dX6_king_120 ?_
          obtain ⟨r40, h41, hm⟩ := ob hm
          refine k_rSi S hK hw.1 cal_X6_ones gX6_king_X6_ones (c_X6_ones l D cC cI cJ (r22 1) N r40 h41) ⟨⟨rfl, rfl⟩, Nat.le_of_ble_eq_true rfl, Nat.le_of_ble_eq_true rfl⟩ [] rfl rfl hl.1 rfl (Nat.le_of_ble_eq_true rfl) dX6_king_121 ⟨Nat.zero_le _, Nat.zero_le _⟩ ?_
          refine lv_goto (tgt := 153) hx hb dX6_king_124 (by decide) ?_
          refine lv_istore (lv' := [(4, .int r40), (0, .ref a_md), (3, .int p2)]) hx hb dX6_king_153 hl (by decide) rfl (fun ls hl => ?_)
          refine lv_iconst (v := 0) hx hb dX6_king_155 (by decide) ?_
          refine lv_istore (lv' := [(5, .int (0 : Int32)), (4, .int r40), (0, .ref a_md), (3, .int p2)]) hx hb dX6_king_156 hl (by decide) rfl (fun ls hl => ?_)
          obtain ⟨r42, h43, hm⟩ := ob hm
          refine t_X6_king_158 l S hK a_md a_md_text a_md_told a_md_draft a_md_s a_md_past a_md_images a_md_seen a_md_asks a_md_brings a_md_uses a_md_days a_md_tries a_md_row a_md_first a_md_held r40 md_typed md_known md_kept md_sights md_at md_many md_length md_set md_text md_told md_draft md_past md_images md_seen md_asks md_brings md_uses md_days md_tries md_row md_first r13 N (0 : Int32) r22 r42 h43  _ _ ls hw (lv_sub hl [2, 1, 0] rfl) (fun H locs ls hw hl => ?_)
          refine lv_iload hx hb dX6_king_185 (lv_at hl 0 rfl) ?_
          obtain rfl := Option.some.inj hm
          exact e_WI S hr hlk hw rfl hw.1 dX6_king_187
      · replace hm := ipos hm c9
        refine lv_iconst (v := (-1)) hx hb dX6_king_30 (by decide) ?_
        obtain rfl := Option.some.inj hm
        exact e_WI S hr hlk hw rfl hw.1 dX6_king_31

abbrev rX6_lays : Room := { frames := 0, cells := 0, slots := 0, locals := 0 }
theorem cal_X6_lays : Cal yX6_lays wsX6_lays cX6_lays 2 none RX6 0 := ⟨⟨_, rfl⟩, rfl, by decide +kernel, by decide +kernel, by decide +kernel⟩
theorem in_X6_lays_X6 : ∀ w ∈ wsX60, w ∈ wsX6_lays := fun _ h => (List.mem_cons_of_mem _ (List.mem_append_right _ h))
set_option maxHeartbeats 4000000 in
set_option maxRecDepth 100000 in
theorem t_X6_lays_2 {p : Program} {e : Env} {s : State} {m : MethodId} {args : Array Value} {below : List Frame} {meth : Method} {c : Code} {Q : State → Prop} (l : Launch) {D : va_G} {cC cI cJ : ClassId} {A : Nat → Prop} {H0 : Heap} (S : CallFix p m c cX6_lays 2 s args wsX6_lays RX6) (hK : KK D (tyK cC cI cJ) s) (a_md : Nat) (a_md_text : Nat) (a_md_told : Nat) (a_md_draft : Nat) (a_md_s : Nat) (a_md_past : Nat) (a_md_images : Nat) (a_md_seen : Nat) (a_md_asks : Nat) (a_md_brings : Nat) (a_md_uses : Nat) (a_md_days : Nat) (a_md_tries : Nat) (a_md_row : Nat) (a_md_first : Nat) (a_md_held : Nat) (md_typed : Int32) (md_known : Int32) (md_kept : Int32) (md_sights : Int32) (md_at : Int32) (md_many : Int32) (md_length : Int32) (md_set : Int32) (md_text : (Nat → Int32)) (md_draft : (Nat → Int32)) (md_s : (Nat → Int32)) (md_past : (Nat → Int32)) (md_images : (Nat → Int32)) (md_seen : (Nat → Int32)) (md_asks : (Nat → Int32)) (md_brings : (Nat → Int32)) (md_uses : (Nat → Int32)) (md_days : (Nat → Int32)) (md_tries : (Nat → Int32)) (md_row : (Nat → Int32)) (md_first : (Nat → Int32)) (md_held : (Nat → Int32)) : ∀ (n : Nat) (v1 : Int32) (md_told : (Nat → Int32)) (out : (Nat → Int32)), lp_X6_lays_2 md_draft n v1 md_told = some out → ∀ (H : Heap) (locs : List Loc) (ls : Array Slot), Wd D A H0 (wd_28 cC cI cJ a_md a_md_text md_typed a_md_told a_md_draft a_md_s a_md_past md_known a_md_images md_kept a_md_seen md_sights md_at a_md_asks a_md_brings a_md_uses a_md_days a_md_tries a_md_row md_many a_md_first md_length md_set a_md_held a_md_text md_text a_md_told md_told a_md_draft md_draft a_md_s md_s a_md_past md_past a_md_images md_images a_md_seen md_seen a_md_asks md_asks a_md_brings md_brings a_md_uses md_uses a_md_days md_days a_md_tries md_tries a_md_row md_row a_md_first md_first a_md_held md_held) H locs → lv_has ls 2 [(0, .ref a_md), (1, .int v1)] → (∀ (H : Heap) (locs : List Loc) (ls : Array Slot), Wd D A H0 (wd_28 cC cI cJ a_md a_md_text md_typed a_md_told a_md_draft a_md_s a_md_past md_known a_md_images md_kept a_md_seen md_sights md_at a_md_asks a_md_brings a_md_uses a_md_days a_md_tries a_md_row md_many a_md_first md_length md_set a_md_held a_md_text md_text a_md_told out a_md_draft md_draft a_md_s md_s a_md_past md_past a_md_images md_images a_md_seen md_seen a_md_asks md_asks a_md_brings md_brings a_md_uses md_uses a_md_days md_days a_md_tries md_tries a_md_row md_row a_md_first md_first a_md_held md_held) H locs → lv_has ls 2 [(0, .ref a_md)] → W p l e rX6_lays s m args below meth c H locs 0 0 Q (F0 m 26 ls [])) → W p l e rX6_lays s m args below meth c H locs 0 0 Q (F0 m 2 ls []) := by
  have hx := S.1
  have hb := S.2.1
  intro n
  induction n with
  | zero => intro v1 md_told out hm; cases (show (none : Option (Nat → Int32)) = some out from hm)
  | succ n ih =>
    intro v1 md_told out hm  H locs ls hw hl K0
    rw [lp_X6_lays_2] at hm
    refine lv_iload_n hx hb dX6_lays_2 rfl (lv_at hl 1 rfl) ?_
    refine lv_bipush (v := 51) hx hb dX6_lays_3 (by decide) ?_
    refine lv_icmp_ge (tgt := 26) hx hb dX6_lays_5 (by decide) (fun c1 => ?_) (fun c1 => ?_)
    · replace hm := ipos hm c1
      obtain rfl := Option.some.inj hm
      exact K0  _ _ ls hw (lv_sub hl [0] rfl)
    · replace hm := ineg hm c1
      refine lv_aload_n hx hb dX6_lays_8 rfl (lv_at hl 0 rfl) ?_
      refine f_get S hK hw.1 in_X6_lays_X6 0 rfl rfl 2 (by decide) (List.mem_of_getElem? (i := 1) rfl) rfl rfl dX6_lays_9 ?_
      refine lv_iload_n hx hb dX6_lays_12 rfl (lv_at hl 1 rfl) ?_
      refine lv_aload_n hx hb dX6_lays_13 rfl (lv_at hl 0 rfl) ?_
      refine f_get S hK hw.1 in_X6_lays_X6 0 rfl rfl 3 (by decide) (List.mem_of_getElem? (i := 2) rfl) rfl rfl dX6_lays_14 ?_
      refine lv_iload_n hx hb dX6_lays_17 rfl (lv_at hl 1 rfl) ?_
      obtain ⟨g2, hm⟩ := gdo hm
      refine f_iald S hK hw.1 3 1 rfl rfl g2 dX6_lays_18 ?_
      refine f_iast S hK hw 2 1 rfl rfl g2 (ws1 := (wd_28 cC cI cJ a_md a_md_text md_typed a_md_told a_md_draft a_md_s a_md_past md_known a_md_images md_kept a_md_seen md_sights md_at a_md_asks a_md_brings a_md_uses a_md_days a_md_tries a_md_row md_many a_md_first md_length md_set a_md_held a_md_text md_text a_md_told (upd md_told (v1).toNatClampNeg (md_draft (v1).toNatClampNeg)) a_md_draft md_draft a_md_s md_s a_md_past md_past a_md_images md_images a_md_seen md_seen a_md_asks md_asks a_md_brings md_brings a_md_uses md_uses a_md_days md_days a_md_tries md_tries a_md_row md_row a_md_first md_first a_md_held md_held)) rfl dX6_lays_19 (fun H locs hw => ?_)
      refine lv_iinc (v := (v1 + 1)) (lv' := [(1, .int (v1 + 1)), (0, .ref a_md)]) hx hb dX6_lays_20 hl (k := 1) rfl (by rw [ofi_1]) (by decide) rfl (fun ls hl => ?_)
      refine lv_goto (tgt := 2) hx hb dX6_lays_23 (by decide) ?_
      exact ih (v1 + 1) (upd md_told (v1).toNatClampNeg (md_draft (v1).toNatClampNeg)) _ hm  _ _ ls hw (lv_sub hl [1, 0] rfl) K0
set_option maxHeartbeats 4000000 in
set_option maxRecDepth 100000 in
theorem t_X6_lays_28 {p : Program} {e : Env} {s : State} {m : MethodId} {args : Array Value} {below : List Frame} {meth : Method} {c : Code} {Q : State → Prop} (l : Launch) {D : va_G} {cC cI cJ : ClassId} {A : Nat → Prop} {H0 : Heap} (S : CallFix p m c cX6_lays 2 s args wsX6_lays RX6) (hK : KK D (tyK cC cI cJ) s) (a_md : Nat) (a_md_text : Nat) (a_md_told : Nat) (a_md_draft : Nat) (a_md_s : Nat) (a_md_past : Nat) (a_md_images : Nat) (a_md_seen : Nat) (a_md_asks : Nat) (a_md_brings : Nat) (a_md_uses : Nat) (a_md_days : Nat) (a_md_tries : Nat) (a_md_row : Nat) (a_md_first : Nat) (a_md_held : Nat) (md_typed : Int32) (md_known : Int32) (md_kept : Int32) (md_sights : Int32) (md_at : Int32) (md_many : Int32) (md_length : Int32) (md_set : Int32) (md_text : (Nat → Int32)) (md_told : (Nat → Int32)) (md_draft : (Nat → Int32)) (md_past : (Nat → Int32)) (md_images : (Nat → Int32)) (md_seen : (Nat → Int32)) (md_asks : (Nat → Int32)) (md_brings : (Nat → Int32)) (md_uses : (Nat → Int32)) (md_days : (Nat → Int32)) (md_tries : (Nat → Int32)) (md_row : (Nat → Int32)) (md_first : (Nat → Int32)) (md_held : (Nat → Int32)) : ∀ (n : Nat) (v1 : Int32) (md_s : (Nat → Int32)) (out : (Nat → Int32)), lp_X6_lays_28  n v1 md_s = some out → ∀ (H : Heap) (locs : List Loc) (ls : Array Slot), Wd D A H0 (wd_28 cC cI cJ a_md a_md_text md_typed a_md_told a_md_draft a_md_s a_md_past md_known a_md_images md_kept a_md_seen md_sights md_at a_md_asks a_md_brings a_md_uses a_md_days a_md_tries a_md_row md_many a_md_first md_length md_set a_md_held a_md_text md_text a_md_told md_told a_md_draft md_draft a_md_s md_s a_md_past md_past a_md_images md_images a_md_seen md_seen a_md_asks md_asks a_md_brings md_brings a_md_uses md_uses a_md_days md_days a_md_tries md_tries a_md_row md_row a_md_first md_first a_md_held md_held) H locs → lv_has ls 2 [(0, .ref a_md), (1, .int v1)] → (∀ (H : Heap) (locs : List Loc) (ls : Array Slot), Wd D A H0 (wd_28 cC cI cJ a_md a_md_text md_typed a_md_told a_md_draft a_md_s a_md_past md_known a_md_images md_kept a_md_seen md_sights md_at a_md_asks a_md_brings a_md_uses a_md_days a_md_tries a_md_row md_many a_md_first md_length md_set a_md_held a_md_text md_text a_md_told md_told a_md_draft md_draft a_md_s out a_md_past md_past a_md_images md_images a_md_seen md_seen a_md_asks md_asks a_md_brings md_brings a_md_uses md_uses a_md_days md_days a_md_tries md_tries a_md_row md_row a_md_first md_first a_md_held md_held) H locs → lv_has ls 2 [(0, .ref a_md)] → W p l e rX6_lays s m args below meth c H locs 0 0 Q (F0 m 47 ls [])) → W p l e rX6_lays s m args below meth c H locs 0 0 Q (F0 m 28 ls []) := by
  have hx := S.1
  have hb := S.2.1
  intro n
  induction n with
  | zero => intro v1 md_s out hm; cases (show (none : Option (Nat → Int32)) = some out from hm)
  | succ n ih =>
    intro v1 md_s out hm  H locs ls hw hl K0
    rw [lp_X6_lays_28] at hm
    refine lv_iload_n hx hb dX6_lays_28 rfl (lv_at hl 1 rfl) ?_
    refine lv_bipush (v := 6) hx hb dX6_lays_29 (by decide) ?_
    refine lv_icmp_ge (tgt := 47) hx hb dX6_lays_31 (by decide) (fun c6 => ?_) (fun c6 => ?_)
    · replace hm := ipos hm c6
      obtain rfl := Option.some.inj hm
      exact K0  _ _ ls hw (lv_sub hl [0] rfl)
    · replace hm := ineg hm c6
      refine lv_aload_n hx hb dX6_lays_34 rfl (lv_at hl 0 rfl) ?_
      refine f_get S hK hw.1 in_X6_lays_X6 0 rfl rfl 4 (by decide) (List.mem_of_getElem? (i := 3) rfl) rfl rfl dX6_lays_35 ?_
      refine lv_iload_n hx hb dX6_lays_38 rfl (lv_at hl 1 rfl) ?_
      refine lv_iconst (v := 0) hx hb dX6_lays_39 (by decide) ?_
      obtain ⟨g7, hm⟩ := gdo hm
      refine f_iast S hK hw 4 1 rfl rfl g7 (ws1 := (wd_28 cC cI cJ a_md a_md_text md_typed a_md_told a_md_draft a_md_s a_md_past md_known a_md_images md_kept a_md_seen md_sights md_at a_md_asks a_md_brings a_md_uses a_md_days a_md_tries a_md_row md_many a_md_first md_length md_set a_md_held a_md_text md_text a_md_told md_told a_md_draft md_draft a_md_s (upd md_s (v1).toNatClampNeg (0 : Int32)) a_md_past md_past a_md_images md_images a_md_seen md_seen a_md_asks md_asks a_md_brings md_brings a_md_uses md_uses a_md_days md_days a_md_tries md_tries a_md_row md_row a_md_first md_first a_md_held md_held)) rfl dX6_lays_40 (fun H locs hw => ?_)
      refine lv_iinc (v := (v1 + 1)) (lv' := [(1, .int (v1 + 1)), (0, .ref a_md)]) hx hb dX6_lays_41 hl (k := 1) rfl (by rw [ofi_1]) (by decide) rfl (fun ls hl => ?_)
      refine lv_goto (tgt := 28) hx hb dX6_lays_44 (by decide) ?_
      exact ih (v1 + 1) (upd md_s (v1).toNatClampNeg (0 : Int32)) _ hm  _ _ ls hw (lv_sub hl [1, 0] rfl) K0
set_option maxHeartbeats 4000000 in
set_option maxRecDepth 100000 in
theorem c_X6_lays (l : Launch) (D : va_G) (cC cI cJ : ClassId) (a_md : Nat) (a_md_text : Nat) (a_md_told : Nat) (a_md_draft : Nat) (a_md_s : Nat) (a_md_past : Nat) (a_md_images : Nat) (a_md_seen : Nat) (a_md_asks : Nat) (a_md_brings : Nat) (a_md_uses : Nat) (a_md_days : Nat) (a_md_tries : Nat) (a_md_row : Nat) (a_md_first : Nat) (a_md_held : Nat) (md_typed : Int32) (md_known : Int32) (md_kept : Int32) (md_sights : Int32) (md_at : Int32) (md_many : Int32) (md_length : Int32) (md_set : Int32) (md_text : (Nat → Int32)) (md_told : (Nat → Int32)) (md_draft : (Nat → Int32)) (md_s : (Nat → Int32)) (md_past : (Nat → Int32)) (md_images : (Nat → Int32)) (md_seen : (Nat → Int32)) (md_asks : (Nat → Int32)) (md_brings : (Nat → Int32)) (md_uses : (Nat → Int32)) (md_days : (Nat → Int32)) (md_tries : (Nat → Int32)) (md_row : (Nat → Int32)) (md_first : (Nat → Int32)) (md_held : (Nat → Int32)) (N : Nat) (A : Nat → Prop) (hD : va_D A (wd_28 cC cI cJ a_md a_md_text md_typed a_md_told a_md_draft a_md_s a_md_past md_known a_md_images md_kept a_md_seen md_sights md_at a_md_asks a_md_brings a_md_uses a_md_days a_md_tries a_md_row md_many a_md_first md_length md_set a_md_held a_md_text md_text a_md_told md_told a_md_draft md_draft a_md_s md_s a_md_past md_past a_md_images md_images a_md_seen md_seen a_md_asks md_asks a_md_brings md_brings a_md_uses md_uses a_md_days md_days a_md_tries md_tries a_md_row md_row a_md_first md_first a_md_held md_held)) (out : (Int32 × Int32 × Int32 × (Nat → Int32) × (Nat → Int32))) (hm : m_X6_lays N md_told md_draft md_s = some out) : WrV l yX6_lays wsX6_lays rX6_lays D (tyK cC cI cJ) [.ref a_md] A (wd_28 cC cI cJ a_md a_md_text md_typed a_md_told a_md_draft a_md_s a_md_past md_known a_md_images md_kept a_md_seen md_sights md_at a_md_asks a_md_brings a_md_uses a_md_days a_md_tries a_md_row md_many a_md_first md_length md_set a_md_held a_md_text md_text a_md_told md_told a_md_draft md_draft a_md_s md_s a_md_past md_past a_md_images md_images a_md_seen md_seen a_md_asks md_asks a_md_brings md_brings a_md_uses md_uses a_md_days md_days a_md_tries md_tries a_md_row md_row a_md_first md_first a_md_held md_held) (Bw0 D (wd_28 cC cI cJ a_md a_md_text md_typed a_md_told a_md_draft a_md_s a_md_past out.1 a_md_images out.2.1 a_md_seen out.2.2.1 md_at a_md_asks a_md_brings a_md_uses a_md_days a_md_tries a_md_row md_many a_md_first md_length md_set a_md_held a_md_text md_text a_md_told out.2.2.2.1 a_md_draft md_draft a_md_s out.2.2.2.2 a_md_past md_past a_md_images md_images a_md_seen md_seen a_md_asks md_asks a_md_brings md_brings a_md_uses md_uses a_md_days md_days a_md_tries md_tries a_md_row md_row a_md_first md_first a_md_held md_held)) := by
  unfold m_X6_lays at hm
  refine enter (cc := cX6_lays) (maxL := 2) (ret := none) (lv := [(0, .ref a_md)]) (by decide) rfl (Nat.le_of_ble_eq_true rfl) rfl ?_
  intro p e s m args below meth c S hr hlk hK hP ls hl
  replace S : CallFix p m c cX6_lays 2 s args wsX6_lays RX6 := S
  have hx := S.1
  have hb := S.2.1
  have hw : Wd D A s.heap (wd_28 cC cI cJ a_md a_md_text md_typed a_md_told a_md_draft a_md_s a_md_past md_known a_md_images md_kept a_md_seen md_sights md_at a_md_asks a_md_brings a_md_uses a_md_days a_md_tries a_md_row md_many a_md_first md_length md_set a_md_held a_md_text md_text a_md_told md_told a_md_draft md_draft a_md_s md_s a_md_past md_past a_md_images md_images a_md_seen md_seen a_md_asks md_asks a_md_brings md_brings a_md_uses md_uses a_md_days md_days a_md_tries md_tries a_md_row md_row a_md_first md_first a_md_held md_held) s.heap [] := ⟨hP, hD, va_S.rf⟩
  have hw0 := hw
  refine lv_iconst (v := 0) hx hb dX6_lays_0 (by decide) ?_
  refine lv_istore_n (lv' := [(1, .int (0 : Int32)), (0, .ref a_md)]) hx hb dX6_lays_1 rfl hl (by decide) rfl (fun ls hl => ?_)
  obtain ⟨r4, h5, hm⟩ := ob hm
  refine t_X6_lays_2 l S hK a_md a_md_text a_md_told a_md_draft a_md_s a_md_past a_md_images a_md_seen a_md_asks a_md_brings a_md_uses a_md_days a_md_tries a_md_row a_md_first a_md_held md_typed md_known md_kept md_sights md_at md_many md_length md_set md_text md_draft md_s md_past md_images md_seen md_asks md_brings md_uses md_days md_tries md_row md_first md_held N (0 : Int32) md_told r4 h5  _ _ ls hw (lv_sub hl [1, 0] rfl) (fun H locs ls hw hl => ?_)
  refine lv_iconst (v := 0) hx hb dX6_lays_26 (by decide) ?_
  refine lv_istore_n (lv' := [(1, .int (0 : Int32)), (0, .ref a_md)]) hx hb dX6_lays_27 rfl hl (by decide) rfl (fun ls hl => ?_)
  obtain ⟨r8, h9, hm⟩ := ob hm
  refine t_X6_lays_28 l S hK a_md a_md_text a_md_told a_md_draft a_md_s a_md_past a_md_images a_md_seen a_md_asks a_md_brings a_md_uses a_md_days a_md_tries a_md_row a_md_first a_md_held md_typed md_known md_kept md_sights md_at md_many md_length md_set md_text r4 md_draft md_past md_images md_seen md_asks md_brings md_uses md_days md_tries md_row md_first md_held N (0 : Int32) md_s r8 h9  _ _ ls hw (lv_sub hl [1, 0] rfl) (fun H locs ls hw hl => ?_)
  refine lv_aload_n hx hb dX6_lays_47 rfl (lv_at hl 0 rfl) ?_
  refine f_get S hK hw.1 in_X6_lays_X6 0 rfl rfl 4 (by decide) (List.mem_of_getElem? (i := 3) rfl) rfl rfl dX6_lays_48 ?_
  refine lv_iconst (v := 0) hx hb dX6_lays_51 (by decide) ?_
  refine lv_aload_n hx hb dX6_lays_52 rfl (lv_at hl 0 rfl) ?_
  refine f_get S hK hw.1 in_X6_lays_X6 0 rfl rfl 2 (by decide) (List.mem_of_getElem? (i := 1) rfl) rfl rfl dX6_lays_53 ?_
  refine lv_iconst (v := 4) hx hb dX6_lays_56 (by decide) ?_
  refine f_ialdK S hK hw.1 2 1 rfl rfl 4 (by decide) (by decide) (v := (r4 4)) rfl dX6_lays_57 ?_
  refine f_iastK S hK hw 4 1 rfl rfl 0 (by decide) (by decide) (ws1 := (wd_28 cC cI cJ a_md a_md_text md_typed a_md_told a_md_draft a_md_s a_md_past md_known a_md_images md_kept a_md_seen md_sights md_at a_md_asks a_md_brings a_md_uses a_md_days a_md_tries a_md_row md_many a_md_first md_length md_set a_md_held a_md_text md_text a_md_told r4 a_md_draft md_draft a_md_s (upd r8 0 (r4 4)) a_md_past md_past a_md_images md_images a_md_seen md_seen a_md_asks md_asks a_md_brings md_brings a_md_uses md_uses a_md_days md_days a_md_tries md_tries a_md_row md_row a_md_first md_first a_md_held md_held)) rfl dX6_lays_58 (fun H locs hw => ?_)
  refine lv_aload_n hx hb dX6_lays_59 rfl (lv_at hl 0 rfl) ?_
  refine f_get S hK hw.1 in_X6_lays_X6 0 rfl rfl 4 (by decide) (List.mem_of_getElem? (i := 3) rfl) rfl rfl dX6_lays_60 ?_
  refine lv_iconst (v := 4) hx hb dX6_lays_63 (by decide) ?_
  refine lv_aload_n hx hb dX6_lays_64 rfl (lv_at hl 0 rfl) ?_
  refine f_get S hK hw.1 in_X6_lays_X6 0 rfl rfl 2 (by decide) (List.mem_of_getElem? (i := 1) rfl) rfl rfl dX6_lays_65 ?_
  refine lv_iconst (v := 2) hx hb dX6_lays_68 (by decide) ?_
  refine f_ialdK S hK hw.1 2 1 rfl rfl 2 (by decide) (by decide) (v := (r4 2)) rfl dX6_lays_69 ?_
  refine f_iastK S hK hw 4 1 rfl rfl 4 (by decide) (by decide) (ws1 := (wd_28 cC cI cJ a_md a_md_text md_typed a_md_told a_md_draft a_md_s a_md_past md_known a_md_images md_kept a_md_seen md_sights md_at a_md_asks a_md_brings a_md_uses a_md_days a_md_tries a_md_row md_many a_md_first md_length md_set a_md_held a_md_text md_text a_md_told r4 a_md_draft md_draft a_md_s (upd (upd r8 0 (r4 4)) 4 (r4 2)) a_md_past md_past a_md_images md_images a_md_seen md_seen a_md_asks md_asks a_md_brings md_brings a_md_uses md_uses a_md_days md_days a_md_tries md_tries a_md_row md_row a_md_first md_first a_md_held md_held)) rfl dX6_lays_70 (fun H locs hw => ?_)
  refine lv_aload_n hx hb dX6_lays_71 rfl (lv_at hl 0 rfl) ?_
  refine lv_iconst (v := 0) hx hb dX6_lays_72 (by decide) ?_
  refine f_put S hK hw in_X6_lays_X6 tyX6_ok nmX6 0 rfl rfl 6 (by decide) (List.mem_of_getElem? (i := 4) rfl) rfl rfl rfl rfl (Nat.le_of_ble_eq_true rfl) (ws1 := (wd_28 cC cI cJ a_md a_md_text md_typed a_md_told a_md_draft a_md_s a_md_past (0 : Int32) a_md_images md_kept a_md_seen md_sights md_at a_md_asks a_md_brings a_md_uses a_md_days a_md_tries a_md_row md_many a_md_first md_length md_set a_md_held a_md_text md_text a_md_told r4 a_md_draft md_draft a_md_s (upd (upd r8 0 (r4 4)) 4 (r4 2)) a_md_past md_past a_md_images md_images a_md_seen md_seen a_md_asks md_asks a_md_brings md_brings a_md_uses md_uses a_md_days md_days a_md_tries md_tries a_md_row md_row a_md_first md_first a_md_held md_held)) rfl dX6_lays_73 (fun H locs hw => ?_)
  refine lv_aload_n hx hb dX6_lays_76 rfl (lv_at hl 0 rfl) ?_
  refine lv_iconst (v := 0) hx hb dX6_lays_77 (by decide) ?_
  refine f_put S hK hw in_X6_lays_X6 tyX6_ok nmX6 0 rfl rfl 8 (by decide) (List.mem_of_getElem? (i := 5) rfl) rfl rfl rfl rfl (Nat.le_of_ble_eq_true rfl) (ws1 := (wd_28 cC cI cJ a_md a_md_text md_typed a_md_told a_md_draft a_md_s a_md_past (0 : Int32) a_md_images (0 : Int32) a_md_seen md_sights md_at a_md_asks a_md_brings a_md_uses a_md_days a_md_tries a_md_row md_many a_md_first md_length md_set a_md_held a_md_text md_text a_md_told r4 a_md_draft md_draft a_md_s (upd (upd r8 0 (r4 4)) 4 (r4 2)) a_md_past md_past a_md_images md_images a_md_seen md_seen a_md_asks md_asks a_md_brings md_brings a_md_uses md_uses a_md_days md_days a_md_tries md_tries a_md_row md_row a_md_first md_first a_md_held md_held)) rfl dX6_lays_78 (fun H locs hw => ?_)
  refine lv_aload_n hx hb dX6_lays_81 rfl (lv_at hl 0 rfl) ?_
  refine lv_iconst (v := 0) hx hb dX6_lays_82 (by decide) ?_
  refine f_put S hK hw in_X6_lays_X6 tyX6_ok nmX6 0 rfl rfl 10 (by decide) (List.mem_of_getElem? (i := 6) rfl) rfl rfl rfl rfl (Nat.le_of_ble_eq_true rfl) (ws1 := (wd_28 cC cI cJ a_md a_md_text md_typed a_md_told a_md_draft a_md_s a_md_past (0 : Int32) a_md_images (0 : Int32) a_md_seen (0 : Int32) md_at a_md_asks a_md_brings a_md_uses a_md_days a_md_tries a_md_row md_many a_md_first md_length md_set a_md_held a_md_text md_text a_md_told r4 a_md_draft md_draft a_md_s (upd (upd r8 0 (r4 4)) 4 (r4 2)) a_md_past md_past a_md_images md_images a_md_seen md_seen a_md_asks md_asks a_md_brings md_brings a_md_uses md_uses a_md_days md_days a_md_tries md_tries a_md_row md_row a_md_first md_first a_md_held md_held)) rfl dX6_lays_83 (fun H locs hw => ?_)
  obtain rfl := Option.some.inj hm
  exact e_WV S hr hlk hw hw.1 dX6_lays_86
