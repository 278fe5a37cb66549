/-! walks: X6_grooms X6_handUp X6_helpNow X6_help X6_helper X6_keep X6_rides X6_steps X6_king -/
abbrev rX6_grooms : Room := { frames := 3, cells := 0, slots := 0, locals := 77 }
theorem cal_X6_grooms : Cal yX6_grooms wsX6_grooms cX6_grooms 10 (some .int) RX6 2 := ⟨⟨_, rfl⟩, rfl, by decide +kernel, by decide +kernel, by decide +kernel⟩
theorem in_X6_grooms_X6 : ∀ w ∈ wsX60, w ∈ wsX6_grooms := fun _ h => (List.mem_cons_of_mem _ (List.mem_append_right _ h))
set_option maxHeartbeats 4000000 in
set_option maxRecDepth 100000 in
theorem t_X6_grooms_43 {p : Program} {e : Env} {s : State} {m : MethodId} {args : Array Value} {below : List Frame} {meth : Method} {c : Code} {Q : State → Prop} (l : Launch) {D : va_G} {cC cI cJ : ClassId} {A : Nat → Prop} {H0 : Heap} (S : CallFix p m c cX6_grooms 10 s args wsX6_grooms RX6) (hK : KK D (tyK cC cI cJ) s) (a_md : Nat) (a_md_text : Nat) (a_md_told : Nat) (a_md_draft : Nat) (a_md_s : Nat) (a_md_past : Nat) (a_md_images : Nat) (a_md_seen : Nat) (a_md_asks : Nat) (a_md_brings : Nat) (a_md_uses : Nat) (a_md_days : Nat) (a_md_tries : Nat) (a_md_row : Nat) (a_md_first : Nat) (a_md_held : Nat) (N : Nat) (v1 : Int32) (v2 : Int32) (v3 : Int32) (v4 : Int32) (v5 : Int32) (md_typed : Int32) (md_known : Int32) (md_kept : Int32) (md_sights : Int32) (md_at : Int32) (md_many : Int32) (md_length : Int32) (md_set : Int32) (md_text : (Nat → Int32)) (md_told : (Nat → Int32)) (md_draft : (Nat → Int32)) (md_s : (Nat → Int32)) (md_past : (Nat → Int32)) (md_images : (Nat → Int32)) (md_seen : (Nat → Int32)) (md_asks : (Nat → Int32)) (md_brings : (Nat → Int32)) (md_uses : (Nat → Int32)) (md_days : (Nat → Int32)) (md_tries : (Nat → Int32)) (md_row : (Nat → Int32)) (md_first : (Nat → Int32)) (md_held : (Nat → Int32)) : ∀ (n : Nat) (v6 : Int32) (v7 : Int32) (out : Int32), lp_X6_grooms_43 N v3 n v6 v7 = some out → ∀ (H : Heap) (locs : List Loc) (ls : Array Slot), Wd D A H0 (wd_28 cC cI cJ a_md a_md_text md_typed a_md_told a_md_draft a_md_s a_md_past md_known a_md_images md_kept a_md_seen md_sights md_at a_md_asks a_md_brings a_md_uses a_md_days a_md_tries a_md_row md_many a_md_first md_length md_set a_md_held a_md_text md_text a_md_told md_told a_md_draft md_draft a_md_s md_s a_md_past md_past a_md_images md_images a_md_seen md_seen a_md_asks md_asks a_md_brings md_brings a_md_uses md_uses a_md_days md_days a_md_tries md_tries a_md_row md_row a_md_first md_first a_md_held md_held) H locs → lv_has ls 10 [(0, .ref a_md), (1, .int v1), (2, .int v2), (3, .int v3), (4, .int v4), (5, .int v5), (6, .int v6), (7, .int v7)] → (∀ (H : Heap) (locs : List Loc) (ls : Array Slot), Wd D A H0 (wd_28 cC cI cJ a_md a_md_text md_typed a_md_told a_md_draft a_md_s a_md_past md_known a_md_images md_kept a_md_seen md_sights md_at a_md_asks a_md_brings a_md_uses a_md_days a_md_tries a_md_row md_many a_md_first md_length md_set a_md_held a_md_text md_text a_md_told md_told a_md_draft md_draft a_md_s md_s a_md_past md_past a_md_images md_images a_md_seen md_seen a_md_asks md_asks a_md_brings md_brings a_md_uses md_uses a_md_days md_days a_md_tries md_tries a_md_row md_row a_md_first md_first a_md_held md_held) H locs → lv_has ls 10 [(0, .ref a_md), (1, .int v1), (2, .int v2), (3, .int v3), (4, .int v4), (5, .int v5), (6, .int out)] → W p l e rX6_grooms s m args below meth c H locs 0 0 Q (F0 m 65 ls [])) → W p l e rX6_grooms s m args below meth c H locs 0 0 Q (F0 m 43 ls []) := by
  have hx := S.1
  have hb := S.2.1
  intro n
  induction n with
  | zero => intro v6 v7 out hm; cases (show (none : Option Int32) = some out from hm)
  | succ n ih =>
    intro v6 v7 out hm  H locs ls hw hl K0
    rw [lp_X6_grooms_43] at hm
    refine lv_iload hx hb dX6_grooms_43 (lv_at hl 7 rfl) ?_
    refine lv_iload_n hx hb dX6_grooms_45 rfl (lv_at hl 3 rfl) ?_
    obtain ⟨r12, h13, hm⟩ := ob hm
    refine k_rSi S hK hw.1 cal_X6_ones gX6_grooms_X6_ones (c_X6_ones l D cC cI cJ v3 N r12 h13) ⟨⟨rfl, rfl⟩, Nat.le_of_ble_eq_true rfl, Nat.le_of_ble_eq_true rfl⟩ [] rfl rfl hl.1 rfl (Nat.le_of_ble_eq_true rfl) dX6_grooms_46 ⟨Nat.zero_le _, Nat.zero_le _⟩ ?_
    refine lv_icmp_ge (tgt := 65) hx hb dX6_grooms_49 (by decide) (fun c14 => ?_) (fun c14 => ?_)
    · replace hm := ipos hm c14
      obtain rfl := Option.some.inj hm
      exact K0  _ _ ls hw (lv_sub hl [0, 1, 2, 3, 4, 5, 6] rfl)
    · replace hm := ineg hm c14
      refine lv_iload hx hb dX6_grooms_52 (lv_at hl 6 rfl) ?_
      refine lv_bipush (v := 10) hx hb dX6_grooms_54 (by decide) ?_
      refine lv_imul hx hb dX6_grooms_56 ?_
      refine lv_istore (lv' := [(6, .int (v6 * (10 : Int32))), (0, .ref a_md), (1, .int v1), (2, .int v2), (3, .int v3), (4, .int v4), (5, .int v5), (7, .int v7)]) hx hb dX6_grooms_57 hl (by decide) rfl (fun ls hl => ?_)
      refine lv_iinc (v := (v7 + 1)) (lv' := [(7, .int (v7 + 1)), (6, .int (v6 * (10 : Int32))), (0, .ref a_md), (1, .int v1), (2, .int v2), (3, .int v3), (4, .int v4), (5, .int v5)]) hx hb dX6_grooms_59 hl (k := 7) rfl (by rw [ofi_1]) (by decide) rfl (fun ls hl => ?_)
      refine lv_goto (tgt := 43) hx hb dX6_grooms_62 (by decide) ?_
      exact ih (v6 * (10 : Int32)) (v7 + 1) _ hm  _ _ ls hw (lv_sub hl [2, 3, 4, 5, 6, 7, 1, 0] rfl) K0
set_option maxHeartbeats 4000000 in
set_option maxRecDepth 100000 in
theorem t_X6_grooms_96 {p : Program} {e : Env} {s : State} {m : MethodId} {args : Array Value} {below : List Frame} {meth : Method} {c : Code} {Q : State → Prop} (l : Launch) {D : va_G} {cC cI cJ : ClassId} {A : Nat → Prop} {H0 : Heap} (S : CallFix p m c cX6_grooms 10 s args wsX6_grooms RX6) (hK : KK D (tyK cC cI cJ) s) (a_md : Nat) (a_md_text : Nat) (a_md_told : Nat) (a_md_draft : Nat) (a_md_s : Nat) (a_md_past : Nat) (a_md_images : Nat) (a_md_seen : Nat) (a_md_asks : Nat) (a_md_brings : Nat) (a_md_uses : Nat) (a_md_days : Nat) (a_md_tries : Nat) (a_md_row : Nat) (a_md_first : Nat) (a_md_held : Nat) (v1 : Int32) (v2 : Int32) (v3 : Int32) (v4 : Int32) (v5 : Int32) (v6 : Int32) (v7 : Int32) (md_typed : Int32) (md_known : Int32) (md_kept : Int32) (md_sights : Int32) (md_at : Int32) (md_many : Int32) (md_length : Int32) (md_set : Int32) (md_text : (Nat → Int32)) (md_told : (Nat → Int32)) (md_draft : (Nat → Int32)) (md_s : (Nat → Int32)) (md_past : (Nat → Int32)) (md_images : (Nat → Int32)) (md_seen : (Nat → Int32)) (md_asks : (Nat → Int32)) (md_brings : (Nat → Int32)) (md_uses : (Nat → Int32)) (md_days : (Nat → Int32)) (md_tries : (Nat → Int32)) (md_row : (Nat → Int32)) (md_first : (Nat → Int32)) (md_held : (Nat → Int32)) : ∀ (n : Nat) (v8 : Int32) (v9 : Int32) (out : Int32), lp_X6_grooms_96 v1 v3 v7 md_told n v8 v9 = some out → ∀ (H : Heap) (locs : List Loc) (ls : Array Slot), Wd D A H0 (wd_28 cC cI cJ a_md a_md_text md_typed a_md_told a_md_draft a_md_s a_md_past md_known a_md_images md_kept a_md_seen md_sights md_at a_md_asks a_md_brings a_md_uses a_md_days a_md_tries a_md_row md_many a_md_first md_length md_set a_md_held a_md_text md_text a_md_told md_told a_md_draft md_draft a_md_s md_s a_md_past md_past a_md_images md_images a_md_seen md_seen a_md_asks md_asks a_md_brings md_brings a_md_uses md_uses a_md_days md_days a_md_tries md_tries a_md_row md_row a_md_first md_first a_md_held md_held) H locs → lv_has ls 10 [(0, .ref a_md), (1, .int v1), (2, .int v2), (3, .int v3), (4, .int v4), (5, .int v5), (6, .int v6), (7, .int v7), (8, .int v8), (9, .int v9)] → (∀ (H : Heap) (locs : List Loc) (ls : Array Slot), Wd D A H0 (wd_28 cC cI cJ a_md a_md_text md_typed a_md_told a_md_draft a_md_s a_md_past md_known a_md_images md_kept a_md_seen md_sights md_at a_md_asks a_md_brings a_md_uses a_md_days a_md_tries a_md_row md_many a_md_first md_length md_set a_md_held a_md_text md_text a_md_told md_told a_md_draft md_draft a_md_s md_s a_md_past md_past a_md_images md_images a_md_seen md_seen a_md_asks md_asks a_md_brings md_brings a_md_uses md_uses a_md_days md_days a_md_tries md_tries a_md_row md_row a_md_first md_first a_md_held md_held) H locs → lv_has ls 10 [(0, .ref a_md), (1, .int v1), (2, .int v2), (3, .int v3), (4, .int v4), (5, .int v5), (6, .int v6), (7, .int v7), (8, .int out)] → W p l e rX6_grooms s m args below meth c H locs 0 0 Q (F0 m 150 ls [])) → W p l e rX6_grooms s m args below meth c H locs 0 0 Q (F0 m 96 ls []) := by
  have hx := S.1
  have hb := S.2.1
  intro n
  induction n with
  | zero => intro v8 v9 out hm; cases (show (none : Option Int32) = some out from hm)
  | succ n ih =>
    intro v8 v9 out hm  H locs ls hw hl K0
    rw [lp_X6_grooms_96] at hm
    refine lv_iload hx hb dX6_grooms_96 (lv_at hl 9 rfl) ?_
    refine lv_aload_n hx hb dX6_grooms_98 rfl (lv_at hl 0 rfl) ?_
    refine f_get S hK hw.1 in_X6_grooms_X6 0 rfl rfl 2 (by decide) (List.mem_of_getElem? (i := 2) rfl) rfl rfl dX6_grooms_99 ?_
    refine lv_iconst (v := 0) hx hb dX6_grooms_102 (by decide) ?_
    obtain ⟨g20, hm⟩ := gdo hm
    refine f_iald S hK hw.1 2 1 rfl rfl g20 dX6_grooms_103 ?_
    refine lv_icmp_ge (tgt := 150) hx hb dX6_grooms_104 (by decide) (fun c21 => ?_) (fun c21 => ?_)
    · replace hm := ipos hm c21
      obtain rfl := Option.some.inj hm
      exact K0  _ _ ls hw (lv_sub hl [0, 1, 2, 3, 4, 5, 6, 7, 8] rfl)
    · replace hm := ineg hm c21
      refine lv_iload hx hb dX6_grooms_107 (lv_at hl 8 rfl) ?_
      refine lv_iload_n hx hb dX6_grooms_109 rfl (lv_at hl 3 rfl) ?_
      refine lv_iload hx hb dX6_grooms_110 (lv_at hl 9 rfl) ?_
      refine lv_ishr hx hb dX6_grooms_112 ?_
      refine lv_iconst (v := 1) hx hb dX6_grooms_113 (by decide) ?_
      refine lv_iand hx hb dX6_grooms_114 ?_
      refine lv_if_ne (tgt := 122) hx hb dX6_grooms_115 (by decide) (fun c22 => ?_) (fun c22 => ?_)
      · replace hm := ineg hm c22
        refine lv_iload hx hb dX6_grooms_122 (lv_at hl 7 rfl) ?_
        refine lv_iload hx hb dX6_grooms_124 (lv_at hl 9 rfl) ?_
        refine lv_ishr hx hb dX6_grooms_126 ?_
        refine lv_iconst (v := 1) hx hb dX6_grooms_127 (by decide) ?_
        refine lv_iand hx hb dX6_grooms_128 ?_
        refine lv_iconst (v := 1) hx hb dX6_grooms_129 (by decide) ?_
        refine lv_icmp_ne (tgt := 137) hx hb dX6_grooms_130 (by decide) (fun c23 => ?_) (fun c23 => ?_)
        · replace hm := ineg hm c23
          refine lv_bipush (v := 10) hx hb dX6_grooms_137 (by decide) ?_
          refine lv_iload_n hx hb dX6_grooms_139 rfl (lv_at hl 1 rfl) ?_
          refine lv_isub hx hb dX6_grooms_140 ?_
          refine lv_imul hx hb dX6_grooms_141 ?_
          refine lv_istore (lv' := [(8, .int (v8 * ((10 : Int32) - v1))), (0, .ref a_md), (1, .int v1), (2, .int v2), (3, .int v3), (4, .int v4), (5, .int v5), (6, .int v6), (7, .int v7), (9, .int v9)]) hx hb dX6_grooms_142 hl (by decide) rfl (fun ls hl => ?_)
          refine lv_iinc (v := (v9 + 1)) (lv' := [(9, .int (v9 + 1)), (8, .int (v8 * ((10 : Int32) - v1))), (0, .ref a_md), (1, .int v1), (2, .int v2), (3, .int v3), (4, .int v4), (5, .int v5), (6, .int v6), (7, .int v7)]) hx hb dX6_grooms_144 hl (k := 9) rfl (by rw [ofi_1]) (by decide) rfl (fun ls hl => ?_)
          refine lv_goto (tgt := 96) hx hb dX6_grooms_147 (by decide) ?_
          exact ih (v8 * ((10 : Int32) - v1)) (v9 + 1) _ hm  _ _ ls hw (lv_sub hl [2, 3, 4, 5, 6, 7, 8, 9, 1, 0] rfl) K0
        · replace hm := ipos hm c23
          refine lv_iload_n hx hb dX6_grooms_133 rfl (lv_at hl 1 rfl) ?_
          refine lv_goto (tgt := 141) hx hb dX6_grooms_134 (by decide) ?_
          refine lv_imul hx hb dX6_grooms_141 ?_
          refine lv_istore (lv' := [(8, .int (v8 * v1)), (0, .ref a_md), (1, .int v1), (2, .int v2), (3, .int v3), (4, .int v4), (5, .int v5), (6, .int v6), (7, .int v7), (9, .int v9)]) hx hb dX6_grooms_142 hl (by decide) rfl (fun ls hl => ?_)
          refine lv_iinc (v := (v9 + 1)) (lv' := [(9, .int (v9 + 1)), (8, .int (v8 * v1)), (0, .ref a_md), (1, .int v1), (2, .int v2), (3, .int v3), (4, .int v4), (5, .int v5), (6, .int v6), (7, .int v7)]) hx hb dX6_grooms_144 hl (k := 9) rfl (by rw [ofi_1]) (by decide) rfl (fun ls hl => ?_)
          refine lv_goto (tgt := 96) hx hb dX6_grooms_147 (by decide) ?_
          exact ih (v8 * v1) (v9 + 1) _ hm  _ _ ls hw (lv_sub hl [2, 3, 4, 5, 6, 7, 8, 9, 1, 0] rfl) K0
      · replace hm := ipos hm c22
        refine lv_iconst (v := 1) hx hb dX6_grooms_118 (by decide) ?_
        refine lv_goto (tgt := 141) hx hb dX6_grooms_119 (by decide) ?_
        refine lv_imul hx hb dX6_grooms_141 ?_
        refine lv_istore (lv' := [(8, .int (v8 * (1 : Int32))), (0, .ref a_md), (1, .int v1), (2, .int v2), (3, .int v3), (4, .int v4), (5, .int v5), (6, .int v6), (7, .int v7), (9, .int v9)]) hx hb dX6_grooms_142 hl (by decide) rfl (fun ls hl => ?_)
        refine lv_iinc (v := (v9 + 1)) (lv' := [(9, .int (v9 + 1)), (8, .int (v8 * (1 : Int32))), (0, .ref a_md), (1, .int v1), (2, .int v2), (3, .int v3), (4, .int v4), (5, .int v5), (6, .int v6), (7, .int v7)]) hx hb dX6_grooms_144 hl (k := 9) rfl (by rw [ofi_1]) (by decide) rfl (fun ls hl => ?_)
        refine lv_goto (tgt := 96) hx hb dX6_grooms_147 (by decide) ?_
        exact ih (v8 * (1 : Int32)) (v9 + 1) _ hm  _ _ ls hw (lv_sub hl [2, 3, 4, 5, 6, 7, 8, 9, 1, 0] rfl) K0
set_option maxHeartbeats 4000000 in
set_option maxRecDepth 100000 in
theorem t_X6_grooms_68 {p : Program} {e : Env} {s : State} {m : MethodId} {args : Array Value} {below : List Frame} {meth : Method} {c : Code} {Q : State → Prop} (l : Launch) {D : va_G} {cC cI cJ : ClassId} {A : Nat → Prop} {H0 : Heap} (S : CallFix p m c cX6_grooms 10 s args wsX6_grooms RX6) (hK : KK D (tyK cC cI cJ) s) (a_md : Nat) (a_md_text : Nat) (a_md_told : Nat) (a_md_draft : Nat) (a_md_s : Nat) (a_md_past : Nat) (a_md_images : Nat) (a_md_seen : Nat) (a_md_asks : Nat) (a_md_brings : Nat) (a_md_uses : Nat) (a_md_days : Nat) (a_md_tries : Nat) (a_md_row : Nat) (a_md_first : Nat) (a_md_held : Nat) (N : Nat) (v1 : Int32) (v2 : Int32) (v3 : Int32) (v4 : Int32) (v6 : Int32) (md_typed : Int32) (md_known : Int32) (md_kept : Int32) (md_sights : Int32) (md_at : Int32) (md_set : Int32) (md_text : (Nat → Int32)) (md_told : (Nat → Int32)) (md_draft : (Nat → Int32)) (md_past : (Nat → Int32)) (md_images : (Nat → Int32)) (md_seen : (Nat → Int32)) (md_held : (Nat → Int32)) : ∀ (n : Nat) (v5 : Int32) (v7 : Int32) (md_many : Int32) (md_length : Int32) (md_s : (Nat → Int32)) (md_asks : (Nat → Int32)) (md_brings : (Nat → Int32)) (md_uses : (Nat → Int32)) (md_days : (Nat → Int32)) (md_tries : (Nat → Int32)) (md_row : (Nat → Int32)) (md_first : (Nat → Int32)) (out : (Int32 × Int32 × Int32 × (Nat → Int32) × (Nat → Int32) × (Nat → Int32) × (Nat → Int32) × (Nat → Int32) × (Nat → Int32) × (Nat → Int32) × (Nat → Int32))), lp_X6_grooms_68 N v1 v3 v4 md_sights md_told md_seen n v5 v7 md_many md_length md_s md_asks md_brings md_uses md_days md_tries md_row md_first = some out → ∀ (H : Heap) (locs : List Loc) (ls : Array Slot), Wd D A H0 (wd_28 cC cI cJ a_md a_md_text md_typed a_md_told a_md_draft a_md_s a_md_past md_known a_md_images md_kept a_md_seen md_sights md_at a_md_asks a_md_brings a_md_uses a_md_days a_md_tries a_md_row md_many a_md_first md_length md_set a_md_held a_md_text md_text a_md_told md_told a_md_draft md_draft a_md_s md_s a_md_past md_past a_md_images md_images a_md_seen md_seen a_md_asks md_asks a_md_brings md_brings a_md_uses md_uses a_md_days md_days a_md_tries md_tries a_md_row md_row a_md_first md_first a_md_held md_held) H locs → lv_has ls 10 [(0, .ref a_md), (1, .int v1), (2, .int v2), (3, .int v3), (4, .int v4), (5, .int v5), (6, .int v6), (7, .int v7)] → (∀ (H : Heap) (locs : List Loc) (ls : Array Slot), Wd D A H0 (wd_28 cC cI cJ a_md a_md_text md_typed a_md_told a_md_draft a_md_s a_md_past md_known a_md_images md_kept a_md_seen md_sights md_at a_md_asks a_md_brings a_md_uses a_md_days a_md_tries a_md_row out.2.1 a_md_first out.2.2.1 md_set a_md_held a_md_text md_text a_md_told md_told a_md_draft md_draft a_md_s out.2.2.2.1 a_md_past md_past a_md_images md_images a_md_seen md_seen a_md_asks out.2.2.2.2.1 a_md_brings out.2.2.2.2.2.1 a_md_uses out.2.2.2.2.2.2.1 a_md_days out.2.2.2.2.2.2.2.1 a_md_tries out.2.2.2.2.2.2.2.2.1 a_md_row out.2.2.2.2.2.2.2.2.2.1 a_md_first out.2.2.2.2.2.2.2.2.2.2 a_md_held md_held) H locs → lv_has ls 10 [(0, .ref a_md), (2, .int v2), (4, .int v4), (5, .int out.1), (6, .int v6)] → W p l e rX6_grooms s m args below meth c H locs 0 0 Q (F0 m 191 ls [])) → W p l e rX6_grooms s m args below meth c H locs 0 0 Q (F0 m 68 ls []) := by
  have hx := S.1
  have hb := S.2.1
  intro n
  induction n with
  | zero => intro v5 v7 md_many md_length md_s md_asks md_brings md_uses md_days md_tries md_row md_first out hm; cases (show (none : Option (Int32 × Int32 × Int32 × (Nat → Int32) × (Nat → Int32) × (Nat → Int32) × (Nat → Int32) × (Nat → Int32) × (Nat → Int32) × (Nat → Int32) × (Nat → Int32))) = some out from hm)
  | succ n ih =>
    intro v5 v7 md_many md_length md_s md_asks md_brings md_uses md_days md_tries md_row md_first out hm  H locs ls hw hl K0
    rw [lp_X6_grooms_68] at hm
    refine lv_iload hx hb dX6_grooms_68 (lv_at hl 7 rfl) ?_
    refine lv_iconst (v := 1) hx hb dX6_grooms_70 (by decide) ?_
    refine lv_aload_n hx hb dX6_grooms_71 rfl (lv_at hl 0 rfl) ?_
    refine f_get S hK hw.1 in_X6_grooms_X6 0 rfl rfl 2 (by decide) (List.mem_of_getElem? (i := 2) rfl) rfl rfl dX6_grooms_72 ?_
    refine lv_iconst (v := 0) hx hb dX6_grooms_75 (by decide) ?_
    obtain ⟨g17, hm⟩ := gdo hm
    refine f_iald S hK hw.1 2 1 rfl rfl g17 dX6_grooms_76 ?_
    refine lv_ishl hx hb dX6_grooms_77 ?_
    refine lv_icmp_ge (tgt := 191) hx hb dX6_grooms_78 (by decide) (fun c18 => ?_) (fun c18 => ?_)
    · replace hm := ipos hm c18
      obtain rfl := Option.some.inj hm
      exact K0  _ _ ls hw (lv_sub hl [0, 2, 4, 5, 6] rfl)
    · replace hm := ineg hm c18
      refine lv_iload hx hb dX6_grooms_81 (lv_at hl 7 rfl) ?_
      refine lv_iload_n hx hb dX6_grooms_83 rfl (lv_at hl 3 rfl) ?_
      refine lv_iconst (v := (-1)) hx hb dX6_grooms_84 (by decide) ?_
      refine lv_ixor hx hb dX6_grooms_85 ?_
      refine lv_iand hx hb dX6_grooms_86 ?_
      refine lv_if_ne (tgt := 185) hx hb dX6_grooms_87 (by decide) (fun c19 => ?_) (fun c19 => ?_)
      · replace hm := ineg hm c19
        refine lv_iinc (v := (v7 + 1)) (lv' := [(7, .int (v7 + 1)), (0, .ref a_md), (1, .int v1), (2, .int v2), (3, .int v3), (4, .int v4), (5, .int v5), (6, .int v6)]) hx hb dX6_grooms_185 hl (k := 7) rfl (by rw [ofi_1]) (by decide) rfl (fun ls hl => ?_)
        refine lv_goto (tgt := 68) hx hb dX6_grooms_188 (by decide) ?_
        exact ih v5 (v7 + 1) md_many md_length md_s md_asks md_brings md_uses md_days md_tries md_row md_first _ hm  _ _ ls hw (lv_sub hl [1, 2, 3, 4, 5, 6, 7, 0] rfl) K0
      · replace hm := ipos hm c19
        refine lv_iconst (v := 1) hx hb dX6_grooms_90 (by decide) ?_
        refine lv_istore (lv' := [(8, .int (1 : Int32)), (0, .ref a_md), (1, .int v1), (2, .int v2), (3, .int v3), (4, .int v4), (5, .int v5), (6, .int v6), (7, .int v7)]) hx hb dX6_grooms_91 hl (by decide) rfl (fun ls hl => ?_)
        refine lv_iconst (v := 0) hx hb dX6_grooms_93 (by decide) ?_
        refine lv_istore (lv' := [(9, .int (0 : Int32)), (8, .int (1 : Int32)), (0, .ref a_md), (1, .int v1), (2, .int v2), (3, .int v3), (4, .int v4), (5, .int v5), (6, .int v6), (7, .int v7)]) hx hb dX6_grooms_94 hl (by decide) rfl (fun ls hl => ?_)
        obtain ⟨r24, h25, hm⟩ := ob hm
        refine t_X6_grooms_96 l S hK a_md a_md_text a_md_told a_md_draft a_md_s a_md_past a_md_images a_md_seen a_md_asks a_md_brings a_md_uses a_md_days a_md_tries a_md_row a_md_first a_md_held v1 v2 v3 v4 v5 v6 v7 md_typed md_known md_kept md_sights md_at md_many md_length md_set md_text md_told md_draft md_s md_past md_images md_seen md_asks md_brings md_uses md_days md_tries md_row md_first md_held N (1 : Int32) (0 : Int32) r24 h25  _ _ ls hw (lv_sub hl [2, 3, 4, 5, 6, 7, 8, 9, 1, 0] rfl) (fun H locs ls hw hl => ?_)
        refine lv_aload_n hx hb dX6_grooms_150 rfl (lv_at hl 0 rfl) ?_
        refine f_get S hK hw.1 in_X6_grooms_X6 0 rfl rfl 4 (by decide) (List.mem_of_getElem? (i := 1) rfl) rfl rfl dX6_grooms_151 ?_
        refine lv_iconst (v := 0) hx hb dX6_grooms_154 (by decide) ?_
        refine lv_iload hx hb dX6_grooms_155 (lv_at hl 4 rfl) ?_
        refine lv_iload hx hb dX6_grooms_157 (lv_at hl 7 rfl) ?_
        refine lv_ior hx hb dX6_grooms_159 ?_
        obtain ⟨g26, hm⟩ := gdo hm
        refine f_iast S hK hw 4 1 rfl rfl g26 (ws1 := (wd_28 cC cI cJ a_md a_md_text md_typed a_md_told a_md_draft a_md_s a_md_past md_known a_md_images md_kept a_md_seen md_sights md_at a_md_asks a_md_brings a_md_uses a_md_days a_md_tries a_md_row md_many a_md_first md_length md_set a_md_held a_md_text md_text a_md_told md_told a_md_draft md_draft a_md_s (upd md_s ((0 : Int32)).toNatClampNeg (v4 ||| v7)) a_md_past md_past a_md_images md_images a_md_seen md_seen a_md_asks md_asks a_md_brings md_brings a_md_uses md_uses a_md_days md_days a_md_tries md_tries a_md_row md_row a_md_first md_first a_md_held md_held)) rfl dX6_grooms_160 (fun H locs hw => ?_)
        refine lv_aload_n hx hb dX6_grooms_161 rfl (lv_at hl 0 rfl) ?_
        refine lv_iconst (v := 0) hx hb dX6_grooms_162 (by decide) ?_
        refine lv_iconst (v := 1) hx hb dX6_grooms_163 (by decide) ?_
        obtain ⟨r27, h28, hm⟩ := ob hm
        refine k_wVv S hK hw cal_X6_walks gX6_grooms_X6_walks (c_X6_walks l D cC cI cJ a_md a_md_text a_md_told a_md_draft a_md_s a_md_past a_md_images a_md_seen a_md_asks a_md_brings a_md_uses a_md_days a_md_tries a_md_row a_md_first a_md_held md_typed md_known md_kept md_sights md_at md_many md_length md_set md_text md_told md_draft (upd md_s ((0 : Int32)).toNatClampNeg (v4 ||| v7)) md_past md_images md_seen md_asks md_brings md_uses md_days md_tries md_row md_first md_held (0 : Int32) (1 : Int32) N (aw _) (hw.own [0, 1, 2, 3, 4, 5, 6, 7, 8, 9, 10, 11, 12, 13, 14, 15] (by decide) rfl) r27 h28) ⟨⟨rfl, rfl⟩, Nat.le_of_ble_eq_true rfl, Nat.le_of_ble_eq_true rfl⟩ [0, 1, 2, 3, 4, 5, 6, 7, 8, 9, 10, 11, 12, 13, 14, 15] rfl 0 rfl rfl rfl hl.1 rfl (Nat.le_of_ble_eq_true rfl) dX6_grooms_164 ⟨Nat.zero_le _, Nat.zero_le _⟩ (fun H locs hJ hB => ?_)
        have hw := hJ _ hB rfl
        replace hw : Wd D A _ (wd_28 cC cI cJ a_md a_md_text md_typed a_md_told a_md_draft a_md_s a_md_past md_known a_md_images md_kept a_md_seen md_sights md_at a_md_asks a_md_brings a_md_uses a_md_days a_md_tries a_md_row r27.1 a_md_first r27.2.1 md_set a_md_held a_md_text md_text a_md_told md_told a_md_draft md_draft a_md_s (upd md_s ((0 : Int32)).toNatClampNeg (v4 ||| v7)) a_md_past md_past a_md_images md_images a_md_seen md_seen a_md_asks r27.2.2.1 a_md_brings r27.2.2.2.1 a_md_uses r27.2.2.2.2.1 a_md_days r27.2.2.2.2.2.1 a_md_tries r27.2.2.2.2.2.2.1 a_md_row r27.2.2.2.2.2.2.2.1 a_md_first r27.2.2.2.2.2.2.2.2 a_md_held md_held) H locs := hw
        refine lv_iload hx hb dX6_grooms_167 (lv_at hl 5 rfl) ?_
        refine lv_aload_n hx hb dX6_grooms_169 rfl (lv_at hl 0 rfl) ?_
        refine f_get S hK hw.1 in_X6_grooms_X6 0 rfl rfl 18 (by decide) (List.mem_of_getElem? (i := 3) rfl) rfl rfl dX6_grooms_170 ?_
        refine lv_if_le (tgt := 181) hx hb dX6_grooms_173 (by decide) (fun c29 => ?_) (fun c29 => ?_)
        · replace hm := ipos hm c29
          refine lv_iconst (v := 0) hx hb dX6_grooms_181 (by decide) ?_
          refine lv_iadd hx hb dX6_grooms_182 ?_
          refine lv_istore (lv' := [(5, .int (v5 + (0 : Int32))), (0, .ref a_md), (1, .int v1), (2, .int v2), (3, .int v3), (4, .int v4), (6, .int v6), (7, .int v7), (8, .int r24)]) hx hb dX6_grooms_183 hl (by decide) rfl (fun ls hl => ?_)
          refine lv_iinc (v := (v7 + 1)) (lv' := [(7, .int (v7 + 1)), (5, .int (v5 + (0 : Int32))), (0, .ref a_md), (1, .int v1), (2, .int v2), (3, .int v3), (4, .int v4), (6, .int v6), (8, .int r24)]) hx hb dX6_grooms_185 hl (k := 7) rfl (by rw [ofi_1]) (by decide) rfl (fun ls hl => ?_)
          refine lv_goto (tgt := 68) hx hb dX6_grooms_188 (by decide) ?_
          exact ih (v5 + (0 : Int32)) (v7 + 1) r27.1 r27.2.1 (upd md_s ((0 : Int32)).toNatClampNeg (v4 ||| v7)) r27.2.2.1 r27.2.2.2.1 r27.2.2.2.2.1 r27.2.2.2.2.2.1 r27.2.2.2.2.2.2.1 r27.2.2.2.2.2.2.2.1 r27.2.2.2.2.2.2.2.2 _ hm  _ _ ls hw (lv_sub hl [2, 3, 4, 5, 6, 1, 7, 0] rfl) K0
        · replace hm := ineg hm c29
          refine lv_iload hx hb dX6_grooms_176 (lv_at hl 8 rfl) ?_
          refine lv_goto (tgt := 182) hx hb dX6_grooms_178 (by decide) ?_
          refine lv_iadd hx hb dX6_grooms_182 ?_
          refine lv_istore (lv' := [(5, .int (v5 + r24)), (0, .ref a_md), (1, .int v1), (2, .int v2), (3, .int v3), (4, .int v4), (6, .int v6), (7, .int v7), (8, .int r24)]) hx hb dX6_grooms_183 hl (by decide) rfl (fun ls hl => ?_)
          refine lv_iinc (v := (v7 + 1)) (lv' := [(7, .int (v7 + 1)), (5, .int (v5 + r24)), (0, .ref a_md), (1, .int v1), (2, .int v2), (3, .int v3), (4, .int v4), (6, .int v6), (8, .int r24)]) hx hb dX6_grooms_185 hl (k := 7) rfl (by rw [ofi_1]) (by decide) rfl (fun ls hl => ?_)
          refine lv_goto (tgt := 68) hx hb dX6_grooms_188 (by decide) ?_
          exact ih (v5 + r24) (v7 + 1) r27.1 r27.2.1 (upd md_s ((0 : Int32)).toNatClampNeg (v4 ||| v7)) r27.2.2.1 r27.2.2.2.1 r27.2.2.2.2.1 r27.2.2.2.2.2.1 r27.2.2.2.2.2.2.1 r27.2.2.2.2.2.2.2.1 r27.2.2.2.2.2.2.2.2 _ hm  _ _ ls hw (lv_sub hl [2, 3, 4, 5, 6, 1, 7, 0] rfl) K0
set_option maxHeartbeats 4000000 in
set_option maxRecDepth 100000 in
theorem t_X6_grooms_207 {p : Program} {e : Env} {s : State} {m : MethodId} {args : Array Value} {below : List Frame} {meth : Method} {c : Code} {Q : State → Prop} (l : Launch) {D : va_G} {cC cI cJ : ClassId} {A : Nat → Prop} {H0 : Heap} (S : CallFix p m c cX6_grooms 10 s args wsX6_grooms RX6) (hK : KK D (tyK cC cI cJ) s) (a_md : Nat) (a_md_text : Nat) (a_md_told : Nat) (a_md_draft : Nat) (a_md_s : Nat) (a_md_past : Nat) (a_md_images : Nat) (a_md_seen : Nat) (a_md_asks : Nat) (a_md_brings : Nat) (a_md_uses : Nat) (a_md_days : Nat) (a_md_tries : Nat) (a_md_row : Nat) (a_md_first : Nat) (a_md_held : Nat) (v2 : Int32) (v5 : Int32) (v6 : Int32) (md_typed : Int32) (md_known : Int32) (md_kept : Int32) (md_sights : Int32) (md_at : Int32) (md_many : Int32) (md_length : Int32) (md_set : Int32) (md_text : (Nat → Int32)) (md_told : (Nat → Int32)) (md_draft : (Nat → Int32)) (md_s : (Nat → Int32)) (md_past : (Nat → Int32)) (md_images : (Nat → Int32)) (md_seen : (Nat → Int32)) (md_asks : (Nat → Int32)) (md_brings : (Nat → Int32)) (md_uses : (Nat → Int32)) (md_days : (Nat → Int32)) (md_tries : (Nat → Int32)) (md_row : (Nat → Int32)) (md_first : (Nat → Int32)) (md_held : (Nat → Int32)) : ∀ (n : Nat) (v7 : Int32) (v8 : Int32) (out : Int32), lp_X6_grooms_207  n v7 v8 = some out → ∀ (H : Heap) (locs : List Loc) (ls : Array Slot), Wd D A H0 (wd_28 cC cI cJ a_md a_md_text md_typed a_md_told a_md_draft a_md_s a_md_past md_known a_md_images md_kept a_md_seen md_sights md_at a_md_asks a_md_brings a_md_uses a_md_days a_md_tries a_md_row md_many a_md_first md_length md_set a_md_held a_md_text md_text a_md_told md_told a_md_draft md_draft a_md_s md_s a_md_past md_past a_md_images md_images a_md_seen md_seen a_md_asks md_asks a_md_brings md_brings a_md_uses md_uses a_md_days md_days a_md_tries md_tries a_md_row md_row a_md_first md_first a_md_held md_held) H locs → lv_has ls 10 [(2, .int v2), (5, .int v5), (6, .int v6), (7, .int v7), (8, .int v8)] → (∀ (H : Heap) (locs : List Loc) (ls : Array Slot), Wd D A H0 (wd_28 cC cI cJ a_md a_md_text md_typed a_md_told a_md_draft a_md_s a_md_past md_known a_md_images md_kept a_md_seen md_sights md_at a_md_asks a_md_brings a_md_uses a_md_days a_md_tries a_md_row md_many a_md_first md_length md_set a_md_held a_md_text md_text a_md_told md_told a_md_draft md_draft a_md_s md_s a_md_past md_past a_md_images md_images a_md_seen md_seen a_md_asks md_asks a_md_brings md_brings a_md_uses md_uses a_md_days md_days a_md_tries md_tries a_md_row md_row a_md_first md_first a_md_held md_held) H locs → lv_has ls 10 [(2, .int v2), (5, .int v5), (6, .int v6), (7, .int out)] → W p l e rX6_grooms s m args below meth c H locs 0 0 Q (F0 m 230 ls [])) → W p l e rX6_grooms s m args below meth c H locs 0 0 Q (F0 m 207 ls []) := by
  have hx := S.1
  have hb := S.2.1
  intro n
  induction n with
  | zero => intro v7 v8 out hm; cases (show (none : Option Int32) = some out from hm)
  | succ n ih =>
    intro v7 v8 out hm  H locs ls hw hl K0
    rw [lp_X6_grooms_207] at hm
    refine lv_iload hx hb dX6_grooms_207 (lv_at hl 4 rfl) ?_
    refine lv_if_le (tgt := 230) hx hb dX6_grooms_209 (by decide) (fun c33 => ?_) (fun c33 => ?_)
    · replace hm := ipos hm c33
      obtain rfl := Option.some.inj hm
      exact K0  _ _ ls hw (lv_sub hl [0, 1, 2, 3] rfl)
    · replace hm := ineg hm c33
      refine lv_iload hx hb dX6_grooms_212 (lv_at hl 3 rfl) ?_
      refine lv_iload hx hb dX6_grooms_214 (lv_at hl 4 rfl) ?_
      obtain ⟨g34, hm⟩ := gdo hm
      refine lv_irem hx hb dX6_grooms_216 g34 ?_
      refine lv_istore (lv' := [(9, .int (v7 - v7 / v8 * v8)), (2, .int v2), (5, .int v5), (6, .int v6), (7, .int v7), (8, .int v8)]) hx hb dX6_grooms_217 hl (by decide) rfl (fun ls hl => ?_)
      refine lv_iload hx hb dX6_grooms_219 (lv_at hl 5 rfl) ?_
      refine lv_istore (lv' := [(7, .int v8), (9, .int (v7 - v7 / v8 * v8)), (2, .int v2), (5, .int v5), (6, .int v6), (8, .int v8)]) hx hb dX6_grooms_221 hl (by decide) rfl (fun ls hl => ?_)
      refine lv_iload hx hb dX6_grooms_223 (lv_at hl 1 rfl) ?_
      refine lv_istore (lv' := [(8, .int (v7 - v7 / v8 * v8)), (7, .int v8), (9, .int (v7 - v7 / v8 * v8)), (2, .int v2), (5, .int v5), (6, .int v6)]) hx hb dX6_grooms_225 hl (by decide) rfl (fun ls hl => ?_)
      refine lv_goto (tgt := 207) hx hb dX6_grooms_227 (by decide) ?_
      exact ih v8 (v7 - v7 / v8 * v8) _ hm  _ _ ls hw (lv_sub hl [3, 4, 5, 1, 0] rfl) K0
set_option maxHeartbeats 4000000 in
set_option maxRecDepth 100000 in
theorem c_X6_grooms (l : Launch) (D : va_G) (cC cI cJ : ClassId) (a_md : Nat) (a_md_text : Nat) (a_md_told : Nat) (a_md_draft : Nat) (a_md_s : Nat) (a_md_past : Nat) (a_md_images : Nat) (a_md_seen : Nat) (a_md_asks : Nat) (a_md_brings : Nat) (a_md_uses : Nat) (a_md_days : Nat) (a_md_tries : Nat) (a_md_row : Nat) (a_md_first : Nat) (a_md_held : Nat) (md_typed : Int32) (md_known : Int32) (md_kept : Int32) (md_sights : Int32) (md_at : Int32) (md_many : Int32) (md_length : Int32) (md_set : Int32) (md_text : (Nat → Int32)) (md_told : (Nat → Int32)) (md_draft : (Nat → Int32)) (md_s : (Nat → Int32)) (md_past : (Nat → Int32)) (md_images : (Nat → Int32)) (md_seen : (Nat → Int32)) (md_asks : (Nat → Int32)) (md_brings : (Nat → Int32)) (md_uses : (Nat → Int32)) (md_days : (Nat → Int32)) (md_tries : (Nat → Int32)) (md_row : (Nat → Int32)) (md_first : (Nat → Int32)) (md_held : (Nat → Int32)) (p0 : Int32) (p1 : Int32) (N : Nat) (A : Nat → Prop) (hD : va_D A (wd_28 cC cI cJ a_md a_md_text md_typed a_md_told a_md_draft a_md_s a_md_past md_known a_md_images md_kept a_md_seen md_sights md_at a_md_asks a_md_brings a_md_uses a_md_days a_md_tries a_md_row md_many a_md_first md_length md_set a_md_held a_md_text md_text a_md_told md_told a_md_draft md_draft a_md_s md_s a_md_past md_past a_md_images md_images a_md_seen md_seen a_md_asks md_asks a_md_brings md_brings a_md_uses md_uses a_md_days md_days a_md_tries md_tries a_md_row md_row a_md_first md_first a_md_held md_held)) (out : (Int32 × Int32 × Int32 × (Nat → Int32) × (Nat → Int32) × (Nat → Int32) × (Nat → Int32) × (Nat → Int32) × (Nat → Int32) × (Nat → Int32) × (Nat → Int32))) (hm : m_X6_grooms N md_sights md_many md_length md_told md_s md_seen md_asks md_brings md_uses md_days md_tries md_row md_first p0 p1 = some out) : WrI l yX6_grooms wsX6_grooms rX6_grooms D (tyK cC cI cJ) [.ref a_md, .int p0, .int p1] A (wd_28 cC cI cJ a_md a_md_text md_typed a_md_told a_md_draft a_md_s a_md_past md_known a_md_images md_kept a_md_seen md_sights md_at a_md_asks a_md_brings a_md_uses a_md_days a_md_tries a_md_row md_many a_md_first md_length md_set a_md_held a_md_text md_text a_md_told md_told a_md_draft md_draft a_md_s md_s a_md_past md_past a_md_images md_images a_md_seen md_seen a_md_asks md_asks a_md_brings md_brings a_md_uses md_uses a_md_days md_days a_md_tries md_tries a_md_row md_row a_md_first md_first a_md_held md_held) (Bw0 D (wd_28 cC cI cJ a_md a_md_text md_typed a_md_told a_md_draft a_md_s a_md_past md_known a_md_images md_kept a_md_seen md_sights md_at a_md_asks a_md_brings a_md_uses a_md_days a_md_tries a_md_row out.2.1 a_md_first out.2.2.1 md_set a_md_held a_md_text md_text a_md_told md_told a_md_draft md_draft a_md_s out.2.2.2.1 a_md_past md_past a_md_images md_images a_md_seen md_seen a_md_asks out.2.2.2.2.1 a_md_brings out.2.2.2.2.2.1 a_md_uses out.2.2.2.2.2.2.1 a_md_days out.2.2.2.2.2.2.2.1 a_md_tries out.2.2.2.2.2.2.2.2.1 a_md_row out.2.2.2.2.2.2.2.2.2.1 a_md_first out.2.2.2.2.2.2.2.2.2.2 a_md_held md_held)) out.1 := by
  unfold m_X6_grooms at hm
  refine enter (cc := cX6_grooms) (maxL := 10) (ret := (some .int)) (lv := [(0, .ref a_md), (1, .int p0), (2, .int p1)]) (by decide) rfl (Nat.le_of_ble_eq_true rfl) rfl ?_
  intro p e s m args below meth c S hr hlk hK hP ls hl
  replace S : CallFix p m c cX6_grooms 10 s args wsX6_grooms RX6 := S
  have hx := S.1
  have hb := S.2.1
  have hw : Wd D A s.heap (wd_28 cC cI cJ a_md a_md_text md_typed a_md_told a_md_draft a_md_s a_md_past md_known a_md_images md_kept a_md_seen md_sights md_at a_md_asks a_md_brings a_md_uses a_md_days a_md_tries a_md_row md_many a_md_first md_length md_set a_md_held a_md_text md_text a_md_told md_told a_md_draft md_draft a_md_s md_s a_md_past md_past a_md_images md_images a_md_seen md_seen a_md_asks md_asks a_md_brings md_brings a_md_uses md_uses a_md_days md_days a_md_tries md_tries a_md_row md_row a_md_first md_first a_md_held md_held) s.heap [] := ⟨hP, hD, va_S.rf⟩
  have hw0 := hw
  refine lv_iload_n hx hb dX6_grooms_0 rfl (lv_at hl 1 rfl) ?_
  refine lv_iconst (v := 0) hx hb dX6_grooms_1 (by decide) ?_
  refine lv_bipush (v := 10) hx hb dX6_grooms_2 (by decide) ?_
  obtain ⟨r1, h2, hm⟩ := ob hm
  refine k_rSi S hK hw.1 cal_X6_in gX6_grooms_X6_in (c_X6_in l D cC cI cJ p0 (0 : Int32) (10 : Int32) r1 h2) ⟨⟨rfl, rfl⟩, Nat.le_of_ble_eq_true rfl, Nat.le_of_ble_eq_true rfl⟩ [] rfl rfl hl.1 rfl (Nat.le_of_ble_eq_true rfl) dX6_grooms_4 ⟨Nat.zero_le _, Nat.zero_le _⟩ ?_
  refine lv_if_eq (tgt := 19) hx hb dX6_grooms_7 (by decide) (fun c3 => ?_) (fun c3 => ?_)
  · replace hm := ipos hm c3
    refine lv_iconst (v := (-1)) hx hb dX6_grooms_19 (by decide) ?_
    obtain rfl := Option.some.inj hm
    exact e_WI S hr hlk hw rfl hw.1 dX6_grooms_20
  · replace hm := ineg hm c3
    refine lv_iload_n hx hb dX6_grooms_10 rfl (lv_at hl 2 rfl) ?_
    refine lv_iconst (v := 0) hx hb dX6_grooms_11 (by decide) ?_
    refine lv_iconst (v := 1) hx hb dX6_grooms_12 (by decide) ?_
    obtain ⟨r4, h5, hm⟩ := ob hm
    refine k_rSi S hK hw.1 cal_X6_in gX6_grooms_X6_in (c_X6_in l D cC cI cJ p1 (0 : Int32) (1 : Int32) r4 h5) ⟨⟨rfl, rfl⟩, Nat.le_of_ble_eq_true rfl, Nat.le_of_ble_eq_true rfl⟩ [] rfl rfl hl.1 rfl (Nat.le_of_ble_eq_true rfl) dX6_grooms_13 ⟨Nat.zero_le _, Nat.zero_le _⟩ ?_
    refine lv_if_ne (tgt := 21) hx hb dX6_grooms_16 (by decide) (fun c6 => ?_) (fun c6 => ?_)
    · replace hm := ineg hm c6
      refine lv_aload_n hx hb dX6_grooms_21 rfl (lv_at hl 0 rfl) ?_
      obtain ⟨r7, h8, hm⟩ := ob hm
      refine k_rVi S hK hw.1 cal_X6_silent gX6_grooms_X6_silent (c_X6_silent l D cC cI cJ a_md a_md_text a_md_told a_md_draft a_md_s a_md_past a_md_images a_md_seen a_md_asks a_md_brings a_md_uses a_md_days a_md_tries a_md_row a_md_first a_md_held md_typed md_known md_kept md_sights md_at md_many md_length md_set md_text md_told md_draft md_s md_past md_images md_seen md_asks md_brings md_uses md_days md_tries md_row md_first md_held r7 h8) ⟨⟨rfl, rfl⟩, Nat.le_of_ble_eq_true rfl, Nat.le_of_ble_eq_true rfl⟩ [0, 1, 2, 3, 4, 5, 6, 7, 8, 9, 10, 11, 12, 13, 14, 15] rfl 0 rfl rfl rfl hl.1 rfl (Nat.le_of_ble_eq_true rfl) dX6_grooms_22 ⟨Nat.zero_le _, Nat.zero_le _⟩ ?_
      refine lv_istore_n (lv' := [(3, .int r7), (0, .ref a_md), (1, .int p0), (2, .int p1)]) hx hb dX6_grooms_25 rfl hl (by decide) rfl (fun ls hl => ?_)
      refine lv_aload_n hx hb dX6_grooms_26 rfl (lv_at hl 1 rfl) ?_
      refine f_get S hK hw.1 in_X6_grooms_X6 0 rfl rfl 4 (by decide) (List.mem_of_getElem? (i := 1) rfl) rfl rfl dX6_grooms_27 ?_
      refine lv_iconst (v := 0) hx hb dX6_grooms_30 (by decide) ?_
      obtain ⟨g9, hm⟩ := gdo hm
      refine f_iald S hK hw.1 4 1 rfl rfl g9 dX6_grooms_31 ?_
      obtain ⟨y10, e11, hm⟩ := ob hm
      refine f_name e11 ?_
      refine lv_istore (lv' := [(4, .int y10), (3, .int r7), (0, .ref a_md), (1, .int p0), (2, .int p1)]) hx hb dX6_grooms_32 hl (by decide) rfl (fun ls hl => ?_)
      refine lv_iconst (v := 0) hx hb dX6_grooms_34 (by decide) ?_
      refine lv_istore (lv' := [(5, .int (0 : Int32)), (4, .int y10), (3, .int r7), (0, .ref a_md), (1, .int p0), (2, .int p1)]) hx hb dX6_grooms_35 hl (by decide) rfl (fun ls hl => ?_)
      refine lv_iconst (v := 1) hx hb dX6_grooms_37 (by decide) ?_
      refine lv_istore (lv' := [(6, .int (1 : Int32)), (5, .int (0 : Int32)), (4, .int y10), (3, .int r7), (0, .ref a_md), (1, .int p0), (2, .int p1)]) hx hb dX6_grooms_38 hl (by decide) rfl (fun ls hl => ?_)
      refine lv_iconst (v := 0) hx hb dX6_grooms_40 (by decide) ?_
      refine lv_istore (lv' := [(7, .int (0 : Int32)), (6, .int (1 : Int32)), (5, .int (0 : Int32)), (4, .int y10), (3, .int r7), (0, .ref a_md), (1, .int p0), (2, .int p1)]) hx hb dX6_grooms_41 hl (by decide) rfl (fun ls hl => ?_)
      obtain ⟨r15, h16, hm⟩ := ob hm
      refine t_X6_grooms_43 l S hK a_md a_md_text a_md_told a_md_draft a_md_s a_md_past a_md_images a_md_seen a_md_asks a_md_brings a_md_uses a_md_days a_md_tries a_md_row a_md_first a_md_held N p0 p1 r7 y10 (0 : Int32) md_typed md_known md_kept md_sights md_at md_many md_length md_set md_text md_told md_draft md_s md_past md_images md_seen md_asks md_brings md_uses md_days md_tries md_row md_first md_held N (1 : Int32) (0 : Int32) r15 h16  _ _ ls hw (lv_sub hl [5, 6, 7, 4, 3, 2, 1, 0] rfl) (fun H locs ls hw hl => ?_)
      refine lv_iconst (v := 0) hx hb dX6_grooms_65 (by decide) ?_
      refine lv_istore (lv' := [(7, .int (0 : Int32)), (0, .ref a_md), (1, .int p0), (2, .int p1), (3, .int r7), (4, .int y10), (5, .int (0 : Int32)), (6, .int r15)]) hx hb dX6_grooms_66 hl (by decide) rfl (fun ls hl => ?_)
      obtain ⟨r30, h31, hm⟩ := ob hm
      refine t_X6_grooms_68 l S hK a_md a_md_text a_md_told a_md_draft a_md_s a_md_past a_md_images a_md_seen a_md_asks a_md_brings a_md_uses a_md_days a_md_tries a_md_row a_md_first a_md_held N p0 p1 r7 y10 r15 md_typed md_known md_kept md_sights md_at md_set md_text md_told md_draft md_past md_images md_seen md_held N (0 : Int32) (0 : Int32) md_many md_length md_s md_asks md_brings md_uses md_days md_tries md_row md_first r30 h31  _ _ ls hw (lv_sub hl [1, 2, 3, 4, 5, 6, 7, 0] rfl) (fun H locs ls hw hl => ?_)
      refine lv_aload_n hx hb dX6_grooms_191 rfl (lv_at hl 0 rfl) ?_
      refine f_get S hK hw.1 in_X6_grooms_X6 0 rfl rfl 4 (by decide) (List.mem_of_getElem? (i := 1) rfl) rfl rfl dX6_grooms_192 ?_
      refine lv_iconst (v := 0) hx hb dX6_grooms_195 (by decide) ?_
      refine lv_iload hx hb dX6_grooms_196 (lv_at hl 2 rfl) ?_
      obtain ⟨g32, hm⟩ := gdo hm
      refine f_iast S hK hw 4 1 rfl rfl g32 (ws1 := (wd_28 cC cI cJ a_md a_md_text md_typed a_md_told a_md_draft a_md_s a_md_past md_known a_md_images md_kept a_md_seen md_sights md_at a_md_asks a_md_brings a_md_uses a_md_days a_md_tries a_md_row r30.2.1 a_md_first r30.2.2.1 md_set a_md_held a_md_text md_text a_md_told md_told a_md_draft md_draft a_md_s (upd r30.2.2.2.1 ((0 : Int32)).toNatClampNeg y10) a_md_past md_past a_md_images md_images a_md_seen md_seen a_md_asks r30.2.2.2.2.1 a_md_brings r30.2.2.2.2.2.1 a_md_uses r30.2.2.2.2.2.2.1 a_md_days r30.2.2.2.2.2.2.2.1 a_md_tries r30.2.2.2.2.2.2.2.2.1 a_md_row r30.2.2.2.2.2.2.2.2.2.1 a_md_first r30.2.2.2.2.2.2.2.2.2.2 a_md_held md_held)) rfl dX6_grooms_198 (fun H locs hw => ?_)
      refine lv_iload hx hb dX6_grooms_199 (lv_at hl 3 rfl) ?_
      refine lv_istore (lv' := [(7, .int r30.1), (0, .ref a_md), (2, .int p1), (4, .int y10), (5, .int r30.1), (6, .int r15)]) hx hb dX6_grooms_201 hl (by decide) rfl (fun ls hl => ?_)
      refine lv_iload hx hb dX6_grooms_203 (lv_at hl 5 rfl) ?_
      refine lv_istore (lv' := [(8, .int r15), (7, .int r30.1), (0, .ref a_md), (2, .int p1), (4, .int y10), (5, .int r30.1), (6, .int r15)]) hx hb dX6_grooms_205 hl (by decide) rfl (fun ls hl => ?_)
      obtain ⟨r35, h36, hm⟩ := ob hm
      refine t_X6_grooms_207 l S hK a_md a_md_text a_md_told a_md_draft a_md_s a_md_past a_md_images a_md_seen a_md_asks a_md_brings a_md_uses a_md_days a_md_tries a_md_row a_md_first a_md_held p1 r30.1 r15 md_typed md_known md_kept md_sights md_at r30.2.1 r30.2.2.1 md_set md_text md_told md_draft (upd r30.2.2.2.1 ((0 : Int32)).toNatClampNeg y10) md_past md_images md_seen r30.2.2.2.2.1 r30.2.2.2.2.2.1 r30.2.2.2.2.2.2.1 r30.2.2.2.2.2.2.2.1 r30.2.2.2.2.2.2.2.2.1 r30.2.2.2.2.2.2.2.2.2.1 r30.2.2.2.2.2.2.2.2.2.2 md_held N r30.1 r15 r35 h36  _ _ ls hw (lv_sub hl [3, 5, 6, 1, 0] rfl) (fun H locs ls hw hl => ?_)
      refine lv_iload_n hx hb dX6_grooms_230 rfl (lv_at hl 0 rfl) ?_
      refine lv_if_ne (tgt := 242) hx hb dX6_grooms_231 (by decide) (fun c37 => ?_) (fun c37 => ?_)
      · replace hm := ineg hm c37
        refine lv_iload hx hb dX6_grooms_242 (lv_at hl 2 rfl) ?_
        refine lv_iload hx hb dX6_grooms_244 (lv_at hl 3 rfl) ?_
        obtain ⟨g38, hm⟩ := gdo hm
        refine lv_idiv hx hb dX6_grooms_246 g38 ?_
        obtain rfl := Option.some.inj hm
        exact e_WI S hr hlk hw rfl hw.1 dX6_grooms_247
      · replace hm := ipos hm c37
        refine lv_iload hx hb dX6_grooms_234 (lv_at hl 1 rfl) ?_
        refine lv_iload hx hb dX6_grooms_236 (lv_at hl 3 rfl) ?_
        obtain ⟨g39, hm⟩ := gdo hm
        refine lv_idiv hx hb dX6_grooms_238 g39 ?_
        refine lv_goto (tgt := 247) hx hb dX6_grooms_239 (by decide) ?_
        obtain rfl := Option.some.inj hm
        exact e_WI S hr hlk hw rfl hw.1 dX6_grooms_247
    · replace hm := ipos hm c6
      refine lv_iconst (v := (-1)) hx hb dX6_grooms_19 (by decide) ?_
      obtain rfl := Option.some.inj hm
      exact e_WI S hr hlk hw rfl hw.1 dX6_grooms_20

abbrev rX6_handUp : Room := { frames := 2, cells := 0, slots := 0, locals := 43 }
theorem cal_X6_handUp : Cal yX6_handUp wsX6_handUp cX6_handUp 2 (some .int) RX6 1 := ⟨⟨_, rfl⟩, rfl, by decide +kernel, by decide +kernel, by decide +kernel⟩
theorem in_X6_handUp_X6 : ∀ w ∈ wsX60, w ∈ wsX6_handUp := fun _ h => (List.mem_cons_of_mem _ (List.mem_append_right _ h))
set_option maxHeartbeats 4000000 in
set_option maxRecDepth 100000 in
theorem c_X6_handUp (l : Launch) (D : va_G) (cC cI cJ : ClassId) (a_md : Nat) (a_md_text : Nat) (a_md_told : Nat) (a_md_draft : Nat) (a_md_s : Nat) (a_md_past : Nat) (a_md_images : Nat) (a_md_seen : Nat) (a_md_asks : Nat) (a_md_brings : Nat) (a_md_uses : Nat) (a_md_days : Nat) (a_md_tries : Nat) (a_md_row : Nat) (a_md_first : Nat) (a_md_held : Nat) (md_typed : Int32) (md_known : Int32) (md_kept : Int32) (md_sights : Int32) (md_at : Int32) (md_many : Int32) (md_length : Int32) (md_set : Int32) (md_text : (Nat → Int32)) (md_told : (Nat → Int32)) (md_draft : (Nat → Int32)) (md_s : (Nat → Int32)) (md_past : (Nat → Int32)) (md_images : (Nat → Int32)) (md_seen : (Nat → Int32)) (md_asks : (Nat → Int32)) (md_brings : (Nat → Int32)) (md_uses : (Nat → Int32)) (md_days : (Nat → Int32)) (md_tries : (Nat → Int32)) (md_row : (Nat → Int32)) (md_first : (Nat → Int32)) (md_held : (Nat → Int32)) (p0 : Int32) (N : Nat) (A : Nat → Prop) (hD : va_D A (wd_28 cC cI cJ a_md a_md_text md_typed a_md_told a_md_draft a_md_s a_md_past md_known a_md_images md_kept a_md_seen md_sights md_at a_md_asks a_md_brings a_md_uses a_md_days a_md_tries a_md_row md_many a_md_first md_length md_set a_md_held a_md_text md_text a_md_told md_told a_md_draft md_draft a_md_s md_s a_md_past md_past a_md_images md_images a_md_seen md_seen a_md_asks md_asks a_md_brings md_brings a_md_uses md_uses a_md_days md_days a_md_tries md_tries a_md_row md_row a_md_first md_first a_md_held md_held)) (out : (Int32 × Int32 × (Nat → Int32) × (Nat → Int32))) (hm : m_X6_handUp N md_known md_told md_s md_past p0 = some out) : WrI l yX6_handUp wsX6_handUp rX6_handUp D (tyK cC cI cJ) [.ref a_md, .int p0] A (wd_28 cC cI cJ a_md a_md_text md_typed a_md_told a_md_draft a_md_s a_md_past md_known a_md_images md_kept a_md_seen md_sights md_at a_md_asks a_md_brings a_md_uses a_md_days a_md_tries a_md_row md_many a_md_first md_length md_set a_md_held a_md_text md_text a_md_told md_told a_md_draft md_draft a_md_s md_s a_md_past md_past a_md_images md_images a_md_seen md_seen a_md_asks md_asks a_md_brings md_brings a_md_uses md_uses a_md_days md_days a_md_tries md_tries a_md_row md_row a_md_first md_first a_md_held md_held) (Bw0 D (wd_28 cC cI cJ a_md a_md_text md_typed a_md_told a_md_draft a_md_s a_md_past out.2.1 a_md_images md_kept a_md_seen md_sights md_at a_md_asks a_md_brings a_md_uses a_md_days a_md_tries a_md_row md_many a_md_first md_length md_set a_md_held a_md_text md_text a_md_told md_told a_md_draft md_draft a_md_s out.2.2.1 a_md_past out.2.2.2 a_md_images md_images a_md_seen md_seen a_md_asks md_asks a_md_brings md_brings a_md_uses md_uses a_md_days md_days a_md_tries md_tries a_md_row md_row a_md_first md_first a_md_held md_held)) out.1 := by
  unfold m_X6_handUp at hm
  refine enter (cc := cX6_handUp) (maxL := 2) (ret := (some .int)) (lv := [(0, .ref a_md), (1, .int p0)]) (by decide) rfl (Nat.le_of_ble_eq_true rfl) rfl ?_
  intro p e s m args below meth c S hr hlk hK hP ls hl
  replace S : CallFix p m c cX6_handUp 2 s args wsX6_handUp RX6 := S
  have hx := S.1
  have hb := S.2.1
  have hw : Wd D A s.heap (wd_28 cC cI cJ a_md a_md_text md_typed a_md_told a_md_draft a_md_s a_md_past md_known a_md_images md_kept a_md_seen md_sights md_at a_md_asks a_md_brings a_md_uses a_md_days a_md_tries a_md_row md_many a_md_first md_length md_set a_md_held a_md_text md_text a_md_told md_told a_md_draft md_draft a_md_s md_s a_md_past md_past a_md_images md_images a_md_seen md_seen a_md_asks md_asks a_md_brings md_brings a_md_uses md_uses a_md_days md_days a_md_tries md_tries a_md_row md_row a_md_first md_first a_md_held md_held) s.heap [] := ⟨hP, hD, va_S.rf⟩
  have hw0 := hw
  refine lv_aload_n hx hb dX6_handUp_0 rfl (lv_at hl 0 rfl) ?_
  refine lv_iload_n hx hb dX6_handUp_1 rfl (lv_at hl 1 rfl) ?_
  obtain ⟨r1, h2, hm⟩ := ob hm
  refine k_rVi S hK hw.1 cal_X6_isTask gX6_handUp_X6_isTask (c_X6_isTask l D cC cI cJ a_md a_md_text a_md_told a_md_draft a_md_s a_md_past a_md_images a_md_seen a_md_asks a_md_brings a_md_uses a_md_days a_md_tries a_md_row a_md_first a_md_held md_typed md_known md_kept md_sights md_at md_many md_length md_set md_text md_told md_draft md_s md_past md_images md_seen md_asks md_brings md_uses md_days md_tries md_row md_first md_held p0 r1 h2) ⟨⟨rfl, rfl⟩, Nat.le_of_ble_eq_true rfl, Nat.le_of_ble_eq_true rfl⟩ [0, 1, 2, 3, 4, 5, 6, 7, 8, 9, 10, 11, 12, 13, 14, 15] rfl 0 rfl rfl rfl hl.1 rfl (Nat.le_of_ble_eq_true rfl) dX6_handUp_2 ⟨Nat.zero_le _, Nat.zero_le _⟩ ?_
  refine lv_if_ne (tgt := 10) hx hb dX6_handUp_5 (by decide) (fun c3 => ?_) (fun c3 => ?_)
  · replace hm := ineg hm c3
    refine lv_aload_n hx hb dX6_handUp_10 rfl (lv_at hl 0 rfl) ?_
    obtain ⟨r4, h5, hm⟩ := ob hm
    refine k_rVi S hK hw.1 cal_X6_isLost gX6_handUp_X6_isLost (c_X6_isLost l D cC cI cJ a_md a_md_text a_md_told a_md_draft a_md_s a_md_past a_md_images a_md_seen a_md_asks a_md_brings a_md_uses a_md_days a_md_tries a_md_row a_md_first a_md_held md_typed md_known md_kept md_sights md_at md_many md_length md_set md_text md_told md_draft md_s md_past md_images md_seen md_asks md_brings md_uses md_days md_tries md_row md_first md_held r4 h5) ⟨⟨rfl, rfl⟩, Nat.le_of_ble_eq_true rfl, Nat.le_of_ble_eq_true rfl⟩ [0, 1, 2, 3, 4, 5, 6, 7, 8, 9, 10, 11, 12, 13, 14, 15] rfl 0 rfl rfl rfl hl.1 rfl (Nat.le_of_ble_eq_true rfl) dX6_handUp_11 ⟨Nat.zero_le _, Nat.zero_le _⟩ ?_
    refine lv_if_ne (tgt := 28) hx hb dX6_handUp_14 (by decide) (fun c6 => ?_) (fun c6 => ?_)
    · replace hm := ineg hm c6
      refine lv_bipush (v := (-2)) hx hb dX6_handUp_28 (by decide) ?_
      obtain rfl := Option.some.inj hm
      exact e_WI S hr hlk hw rfl hw.1 dX6_handUp_30
    · replace hm := ipos hm c6
      refine lv_aload_n hx hb dX6_handUp_17 rfl (lv_at hl 0 rfl) ?_
      obtain ⟨r7, h8, hm⟩ := ob hm
      refine k_rVi S hK hw.1 cal_X6_open gX6_handUp_X6_open (c_X6_open l D cC cI cJ a_md a_md_text a_md_told a_md_draft a_md_s a_md_past a_md_images a_md_seen a_md_asks a_md_brings a_md_uses a_md_days a_md_tries a_md_row a_md_first a_md_held md_typed md_known md_kept md_sights md_at md_many md_length md_set md_text md_told md_draft md_s md_past md_images md_seen md_asks md_brings md_uses md_days md_tries md_row md_first md_held r7 h8) ⟨⟨rfl, rfl⟩, Nat.le_of_ble_eq_true rfl, Nat.le_of_ble_eq_true rfl⟩ [0, 1, 2, 3, 4, 5, 6, 7, 8, 9, 10, 11, 12, 13, 14, 15] rfl 0 rfl rfl rfl hl.1 rfl (Nat.le_of_ble_eq_true rfl) dX6_handUp_18 ⟨Nat.zero_le _, Nat.zero_le _⟩ ?_
      refine lv_iload_n hx hb dX6_handUp_21 rfl (lv_at hl 1 rfl) ?_
      refine lv_ishr hx hb dX6_handUp_22 ?_
      refine lv_iconst (v := 1) hx hb dX6_handUp_23 (by decide) ?_
      refine lv_iand hx hb dX6_handUp_24 ?_
      refine lv_if_ne (tgt := 31) hx hb dX6_handUp_25 (by decide) (fun c9 => ?_) (fun c9 => ?_)
      · replace hm := ineg hm c9
        refine lv_aload_n hx hb dX6_handUp_31 rfl (lv_at hl 0 rfl) ?_
        obtain ⟨r10, h11, hm⟩ := ob hm
        refine k_wVv S hK hw cal_X6_keeps gX6_handUp_X6_keeps (c_X6_keeps l D cC cI cJ a_md a_md_text a_md_told a_md_draft a_md_s a_md_past a_md_images a_md_seen a_md_asks a_md_brings a_md_uses a_md_days a_md_tries a_md_row a_md_first a_md_held md_typed md_known md_kept md_sights md_at md_many md_length md_set md_text md_told md_draft md_s md_past md_images md_seen md_asks md_brings md_uses md_days md_tries md_row md_first md_held N (aw _) (hw.own [0, 1, 2, 3, 4, 5, 6, 7, 8, 9, 10, 11, 12, 13, 14, 15] (by decide) rfl) r10 h11) ⟨⟨rfl, rfl⟩, Nat.le_of_ble_eq_true rfl, Nat.le_of_ble_eq_true rfl⟩ [0, 1, 2, 3, 4, 5, 6, 7, 8, 9, 10, 11, 12, 13, 14, 15] rfl 0 rfl rfl rfl hl.1 rfl (Nat.le_of_ble_eq_true rfl) dX6_handUp_32 ⟨Nat.zero_le _, Nat.zero_le _⟩ (fun H locs hJ hB => ?_)
        have hw := hJ _ hB rfl
        replace hw : Wd D A _ (wd_28 cC cI cJ a_md a_md_text md_typed a_md_told a_md_draft a_md_s a_md_past r10.1 a_md_images md_kept a_md_seen md_sights md_at a_md_asks a_md_brings a_md_uses a_md_days a_md_tries a_md_row md_many a_md_first md_length md_set a_md_held a_md_text md_text a_md_told md_told a_md_draft md_draft a_md_s md_s a_md_past r10.2 a_md_images md_images a_md_seen md_seen a_md_asks md_asks a_md_brings md_brings a_md_uses md_uses a_md_days md_days a_md_tries md_tries a_md_row md_row a_md_first md_first a_md_held md_held) H locs := hw
        refine lv_aload_n hx hb dX6_handUp_35 rfl (lv_at hl 0 rfl) ?_
        refine f_get S hK hw.1 in_X6_handUp_X6 0 rfl rfl 4 (by decide) (List.mem_of_getElem? (i := 1) rfl) rfl rfl dX6_handUp_36 ?_
        refine lv_iconst (v := 5) hx hb dX6_handUp_39 (by decide) ?_
        refine lv_dup2_11 hx hb dX6_handUp_40 rfl rfl ?_
        obtain ⟨g12, hm⟩ := gdo hm
        refine f_iald S hK hw.1 4 1 rfl rfl g12 dX6_handUp_41 ?_
        refine lv_iconst (v := 2) hx hb dX6_handUp_42 (by decide) ?_
        refine lv_aload_n hx hb dX6_handUp_43 rfl (lv_at hl 0 rfl) ?_
        refine f_get S hK hw.1 in_X6_handUp_X6 0 rfl rfl 2 (by decide) (List.mem_of_getElem? (i := 2) rfl) rfl rfl dX6_handUp_44 ?_
        refine lv_bipush (v := 13) hx hb dX6_handUp_47 (by decide) ?_
        refine lv_iload_n hx hb dX6_handUp_49 rfl (lv_at hl 1 rfl) ?_
        refine lv_iadd hx hb dX6_handUp_50 ?_
        obtain ⟨g13, hm⟩ := gdo hm
        refine f_iald S hK hw.1 2 1 rfl rfl g13 dX6_handUp_51 ?_
        refine lv_imul hx hb dX6_handUp_52 ?_
        refine lv_iconst (v := 1) hx hb dX6_handUp_53 (by decide) ?_
        refine lv_iadd hx hb dX6_handUp_54 ?_
        refine lv_iadd hx hb dX6_handUp_55 ?_
        obtain ⟨y15, e16, hm⟩ := ob hm
        refine f_name e16 ?_
        obtain ⟨g14, hm⟩ := gdo hm
        refine f_iast S hK hw 4 1 rfl rfl g14 (ws1 := (wd_28 cC cI cJ a_md a_md_text md_typed a_md_told a_md_draft a_md_s a_md_past r10.1 a_md_images md_kept a_md_seen md_sights md_at a_md_asks a_md_brings a_md_uses a_md_days a_md_tries a_md_row md_many a_md_first md_length md_set a_md_held a_md_text md_text a_md_told md_told a_md_draft md_draft a_md_s (upd md_s ((5 : Int32)).toNatClampNeg y15) a_md_past r10.2 a_md_images md_images a_md_seen md_seen a_md_asks md_asks a_md_brings md_brings a_md_uses md_uses a_md_days md_days a_md_tries md_tries a_md_row md_row a_md_first md_first a_md_held md_held)) rfl dX6_handUp_56 (fun H locs hw => ?_)
        refine lv_aload_n hx hb dX6_handUp_57 rfl (lv_at hl 0 rfl) ?_
        refine f_get S hK hw.1 in_X6_handUp_X6 0 rfl rfl 4 (by decide) (List.mem_of_getElem? (i := 1) rfl) rfl rfl dX6_handUp_58 ?_
        refine lv_iconst (v := 1) hx hb dX6_handUp_61 (by decide) ?_
        refine lv_dup2_11 hx hb dX6_handUp_62 rfl rfl ?_
        obtain ⟨g17, hm⟩ := gdo hm
        refine f_iald S hK hw.1 4 1 rfl rfl g17 dX6_handUp_63 ?_
        refine lv_iconst (v := 1) hx hb dX6_handUp_64 (by decide) ?_
        refine lv_iload_n hx hb dX6_handUp_65 rfl (lv_at hl 1 rfl) ?_
        refine lv_ishl hx hb dX6_handUp_66 ?_
        refine lv_ior hx hb dX6_handUp_67 ?_
        obtain ⟨y19, e20, hm⟩ := ob hm
        refine f_name e20 ?_
        obtain ⟨g18, hm⟩ := gdo hm
        refine f_iast S hK hw 4 1 rfl rfl g18 (ws1 := (wd_28 cC cI cJ a_md a_md_text md_typed a_md_told a_md_draft a_md_s a_md_past r10.1 a_md_images md_kept a_md_seen md_sights md_at a_md_asks a_md_brings a_md_uses a_md_days a_md_tries a_md_row md_many a_md_first md_length md_set a_md_held a_md_text md_text a_md_told md_told a_md_draft md_draft a_md_s (upd (upd md_s ((5 : Int32)).toNatClampNeg y15) ((1 : Int32)).toNatClampNeg y19) a_md_past r10.2 a_md_images md_images a_md_seen md_seen a_md_asks md_asks a_md_brings md_brings a_md_uses md_uses a_md_days md_days a_md_tries md_tries a_md_row md_row a_md_first md_first a_md_held md_held)) rfl dX6_handUp_68 (fun H locs hw => ?_)
        refine lv_aload_n hx hb dX6_handUp_69 rfl (lv_at hl 0 rfl) ?_
        refine f_get S hK hw.1 in_X6_handUp_X6 0 rfl rfl 4 (by decide) (List.mem_of_getElem? (i := 1) rfl) rfl rfl dX6_handUp_70 ?_
        refine lv_iconst (v := 5) hx hb dX6_handUp_73 (by decide) ?_
        obtain ⟨g21, hm⟩ := gdo hm
        refine f_iald S hK hw.1 4 1 rfl rfl g21 dX6_handUp_74 ?_
        obtain rfl := Option.some.inj hm
        exact e_WI S hr hlk hw rfl hw.1 dX6_handUp_75
      · replace hm := ipos hm c9
        refine lv_bipush (v := (-2)) hx hb dX6_handUp_28 (by decide) ?_
        obtain rfl := Option.some.inj hm
        exact e_WI S hr hlk hw rfl hw.1 dX6_handUp_30
  · replace hm := ipos hm c3
    refine lv_iconst (v := (-1)) hx hb dX6_handUp_8 (by decide) ?_
    obtain rfl := Option.some.inj hm
    exact e_WI S hr hlk hw rfl hw.1 dX6_handUp_9

abbrev rX6_helpNow : Room := { frames := 2, cells := 0, slots := 0, locals := 51 }
theorem cal_X6_helpNow : Cal yX6_helpNow wsX6_helpNow cX6_helpNow 2 (some .int) RX6 1 := ⟨⟨_, rfl⟩, rfl, by decide +kernel, by decide +kernel, by decide +kernel⟩
theorem in_X6_helpNow_X6 : ∀ w ∈ wsX60, w ∈ wsX6_helpNow := fun _ h => (List.mem_cons_of_mem _ (List.mem_append_right _ h))
set_option maxHeartbeats 4000000 in
set_option maxRecDepth 100000 in
theorem c_X6_helpNow (l : Launch) (D : va_G) (cC cI cJ : ClassId) (a_md : Nat) (a_md_text : Nat) (a_md_told : Nat) (a_md_draft : Nat) (a_md_s : Nat) (a_md_past : Nat) (a_md_images : Nat) (a_md_seen : Nat) (a_md_asks : Nat) (a_md_brings : Nat) (a_md_uses : Nat) (a_md_days : Nat) (a_md_tries : Nat) (a_md_row : Nat) (a_md_first : Nat) (a_md_held : Nat) (md_typed : Int32) (md_known : Int32) (md_kept : Int32) (md_sights : Int32) (md_at : Int32) (md_many : Int32) (md_length : Int32) (md_set : Int32) (md_text : (Nat → Int32)) (md_told : (Nat → Int32)) (md_draft : (Nat → Int32)) (md_s : (Nat → Int32)) (md_past : (Nat → Int32)) (md_images : (Nat → Int32)) (md_seen : (Nat → Int32)) (md_asks : (Nat → Int32)) (md_brings : (Nat → Int32)) (md_uses : (Nat → Int32)) (md_days : (Nat → Int32)) (md_tries : (Nat → Int32)) (md_row : (Nat → Int32)) (md_first : (Nat → Int32)) (md_held : (Nat → Int32)) (p0 : Int32) (N : Nat) (out : Int32) (hm : m_X6_helpNow N md_told md_s p0 = some out) : RdI l yX6_helpNow wsX6_helpNow rX6_helpNow D (tyK cC cI cJ) [.ref a_md, .int p0] (wd_28 cC cI cJ a_md a_md_text md_typed a_md_told a_md_draft a_md_s a_md_past md_known a_md_images md_kept a_md_seen md_sights md_at a_md_asks a_md_brings a_md_uses a_md_days a_md_tries a_md_row md_many a_md_first md_length md_set a_md_held a_md_text md_text a_md_told md_told a_md_draft md_draft a_md_s md_s a_md_past md_past a_md_images md_images a_md_seen md_seen a_md_asks md_asks a_md_brings md_brings a_md_uses md_uses a_md_days md_days a_md_tries md_tries a_md_row md_row a_md_first md_first a_md_held md_held) out := by
  unfold m_X6_helpNow at hm
  refine enter (cc := cX6_helpNow) (maxL := 2) (ret := (some .int)) (lv := [(0, .ref a_md), (1, .int p0)]) (by decide) rfl (Nat.le_of_ble_eq_true rfl) rfl ?_
  intro p e s m args below meth c S hr hlk hK hP ls hl
  replace S : CallFix p m c cX6_helpNow 2 s args wsX6_helpNow RX6 := S
  have hx := S.1
  have hb := S.2.1
  refine lv_aload_n hx hb dX6_helpNow_0 rfl (lv_at hl 0 rfl) ?_
  obtain ⟨r1, h2, hm⟩ := ob hm
  refine k_rVi S hK hP cal_X6_isLost gX6_helpNow_X6_isLost (c_X6_isLost l D cC cI cJ a_md a_md_text a_md_told a_md_draft a_md_s a_md_past a_md_images a_md_seen a_md_asks a_md_brings a_md_uses a_md_days a_md_tries a_md_row a_md_first a_md_held md_typed md_known md_kept md_sights md_at md_many md_length md_set md_text md_told md_draft md_s md_past md_images md_seen md_asks md_brings md_uses md_days md_tries md_row md_first md_held r1 h2) ⟨⟨rfl, rfl⟩, Nat.le_of_ble_eq_true rfl, Nat.le_of_ble_eq_true rfl⟩ [0, 1, 2, 3, 4, 5, 6, 7, 8, 9, 10, 11, 12, 13, 14, 15] rfl 0 rfl rfl rfl hl.1 rfl (Nat.le_of_ble_eq_true rfl) dX6_helpNow_1 ⟨Nat.zero_le _, Nat.zero_le _⟩ ?_
  refine lv_if_ne (tgt := 18) hx hb dX6_helpNow_4 (by decide) (fun c3 => ?_) (fun c3 => ?_)
  · replace hm := ineg hm c3
    refine lv_iconst (v := (-1)) hx hb dX6_helpNow_18 (by decide) ?_
    refine lv_goto (tgt := 48) hx hb dX6_helpNow_19 (by decide) ?_
    exact e_RI S hr hlk (Option.some.inj hm) dX6_helpNow_48
  · replace hm := ipos hm c3
    refine lv_aload_n hx hb dX6_helpNow_7 rfl (lv_at hl 0 rfl) ?_
    obtain ⟨r4, h5, hm⟩ := ob hm
    refine k_rVi S hK hP cal_X6_open gX6_helpNow_X6_open (c_X6_open l D cC cI cJ a_md a_md_text a_md_told a_md_draft a_md_s a_md_past a_md_images a_md_seen a_md_asks a_md_brings a_md_uses a_md_days a_md_tries a_md_row a_md_first a_md_held md_typed md_known md_kept md_sights md_at md_many md_length md_set md_text md_told md_draft md_s md_past md_images md_seen md_asks md_brings md_uses md_days md_tries md_row md_first md_held r4 h5) ⟨⟨rfl, rfl⟩, Nat.le_of_ble_eq_true rfl, Nat.le_of_ble_eq_true rfl⟩ [0, 1, 2, 3, 4, 5, 6, 7, 8, 9, 10, 11, 12, 13, 14, 15] rfl 0 rfl rfl rfl hl.1 rfl (Nat.le_of_ble_eq_true rfl) dX6_helpNow_8 ⟨Nat.zero_le _, Nat.zero_le _⟩ ?_
    refine lv_iload_n hx hb dX6_helpNow_11 rfl (lv_at hl 1 rfl) ?_
    refine lv_ishr hx hb dX6_helpNow_12 ?_
    refine lv_iconst (v := 1) hx hb dX6_helpNow_13 (by decide) ?_
    refine lv_iand hx hb dX6_helpNow_14 ?_
    refine lv_if_ne (tgt := 22) hx hb dX6_helpNow_15 (by decide) (fun c6 => ?_) (fun c6 => ?_)
    · replace hm := ineg hm c6
      refine lv_aload_n hx hb dX6_helpNow_22 rfl (lv_at hl 0 rfl) ?_
      refine lv_iload_n hx hb dX6_helpNow_23 rfl (lv_at hl 1 rfl) ?_
      refine lv_aload_n hx hb dX6_helpNow_24 rfl (lv_at hl 0 rfl) ?_
      refine f_get S hK hP in_X6_helpNow_X6 0 rfl rfl 4 (by decide) (List.mem_of_getElem? (i := 1) rfl) rfl rfl dX6_helpNow_25 ?_
      refine lv_iconst (v := 2) hx hb dX6_helpNow_28 (by decide) ?_
      obtain ⟨g7, hm⟩ := gdo hm
      refine f_iald S hK hP 4 1 rfl rfl g7 dX6_helpNow_29 ?_
      refine lv_aload_n hx hb dX6_helpNow_30 rfl (lv_at hl 0 rfl) ?_
      refine f_get S hK hP in_X6_helpNow_X6 0 rfl rfl 4 (by decide) (List.mem_of_getElem? (i := 1) rfl) rfl rfl dX6_helpNow_31 ?_
      refine lv_iconst (v := 3) hx hb dX6_helpNow_34 (by decide) ?_
      obtain ⟨g8, hm⟩ := gdo hm
      refine f_iald S hK hP 4 1 rfl rfl g8 dX6_helpNow_35 ?_
      refine lv_iconst (v := (-1)) hx hb dX6_helpNow_36 (by decide) ?_
      refine lv_ixor hx hb dX6_helpNow_37 ?_
      refine lv_iand hx hb dX6_helpNow_38 ?_
      refine lv_aload_n hx hb dX6_helpNow_39 rfl (lv_at hl 0 rfl) ?_
      refine f_get S hK hP in_X6_helpNow_X6 0 rfl rfl 4 (by decide) (List.mem_of_getElem? (i := 1) rfl) rfl rfl dX6_helpNow_40 ?_
      refine lv_iconst (v := 5) hx hb dX6_helpNow_43 (by decide) ?_
      obtain ⟨g9, hm⟩ := gdo hm
      refine f_iald S hK hP 4 1 rfl rfl g9 dX6_helpNow_44 ?_
      obtain ⟨r10, h11, hm⟩ := ob hm
      refine k_rVi S hK hP cal_X6_helpFor gX6_helpNow_X6_helpFor (c_X6_helpFor l D cC cI cJ a_md a_md_text a_md_told a_md_draft a_md_s a_md_past a_md_images a_md_seen a_md_asks a_md_brings a_md_uses a_md_days a_md_tries a_md_row a_md_first a_md_held md_typed md_known md_kept md_sights md_at md_many md_length md_set md_text md_told md_draft md_s md_past md_images md_seen md_asks md_brings md_uses md_days md_tries md_row md_first md_held p0 ((md_s ((2 : Int32)).toNatClampNeg) &&& ((md_s ((3 : Int32)).toNatClampNeg) ^^^ (-1 : Int32))) (md_s ((5 : Int32)).toNatClampNeg) N r10 h11) ⟨⟨rfl, rfl⟩, Nat.le_of_ble_eq_true rfl, Nat.le_of_ble_eq_true rfl⟩ [0, 1, 2, 3, 4, 5, 6, 7, 8, 9, 10, 11, 12, 13, 14, 15] rfl 0 rfl rfl rfl hl.1 rfl (Nat.le_of_ble_eq_true rfl) dX6_helpNow_45 ⟨Nat.zero_le _, Nat.zero_le _⟩ ?_
      exact e_RI S hr hlk (Option.some.inj hm) dX6_helpNow_48
    · replace hm := ipos hm c6
      refine lv_iconst (v := (-1)) hx hb dX6_helpNow_18 (by decide) ?_
      refine lv_goto (tgt := 48) hx hb dX6_helpNow_19 (by decide) ?_
      exact e_RI S hr hlk (Option.some.inj hm) dX6_helpNow_48

abbrev rX6_help : Room := { frames := 3, cells := 0, slots := 0, locals := 72 }
theorem cal_X6_help : Cal yX6_help wsX6_help cX6_help 3 (some .int) RX6 1 := ⟨⟨_, rfl⟩, rfl, by decide +kernel, by decide +kernel, by decide +kernel⟩
set_option maxHeartbeats 4000000 in
set_option maxRecDepth 100000 in
theorem c_X6_help (l : Launch) (D : va_G) (cC cI cJ : ClassId) (a_md : Nat) (a_md_text : Nat) (a_md_told : Nat) (a_md_draft : Nat) (a_md_s : Nat) (a_md_past : Nat) (a_md_images : Nat) (a_md_seen : Nat) (a_md_asks : Nat) (a_md_brings : Nat) (a_md_uses : Nat) (a_md_days : Nat) (a_md_tries : Nat) (a_md_row : Nat) (a_md_first : Nat) (a_md_held : Nat) (md_typed : Int32) (md_known : Int32) (md_kept : Int32) (md_sights : Int32) (md_at : Int32) (md_many : Int32) (md_length : Int32) (md_set : Int32) (md_text : (Nat → Int32)) (md_told : (Nat → Int32)) (md_draft : (Nat → Int32)) (md_s : (Nat → Int32)) (md_past : (Nat → Int32)) (md_images : (Nat → Int32)) (md_seen : (Nat → Int32)) (md_asks : (Nat → Int32)) (md_brings : (Nat → Int32)) (md_uses : (Nat → Int32)) (md_days : (Nat → Int32)) (md_tries : (Nat → Int32)) (md_row : (Nat → Int32)) (md_first : (Nat → Int32)) (md_held : (Nat → Int32)) (p0 : Int32) (N : Nat) (out : Int32) (hm : m_X6_help N md_told md_s p0 = some out) : RdI l yX6_help wsX6_help rX6_help D (tyK cC cI cJ) [.ref a_md, .int p0] (wd_28 cC cI cJ a_md a_md_text md_typed a_md_told a_md_draft a_md_s a_md_past md_known a_md_images md_kept a_md_seen md_sights md_at a_md_asks a_md_brings a_md_uses a_md_days a_md_tries a_md_row md_many a_md_first md_length md_set a_md_held a_md_text md_text a_md_told md_told a_md_draft md_draft a_md_s md_s a_md_past md_past a_md_images md_images a_md_seen md_seen a_md_asks md_asks a_md_brings md_brings a_md_uses md_uses a_md_days md_days a_md_tries md_tries a_md_row md_row a_md_first md_first a_md_held md_held) out := by
  unfold m_X6_help at hm
  refine enter (cc := cX6_help) (maxL := 3) (ret := (some .int)) (lv := [(0, .ref a_md), (1, .int p0)]) (by decide) rfl (Nat.le_of_ble_eq_true rfl) rfl ?_
  intro p e s m args below meth c S hr hlk hK hP ls hl
  replace S : CallFix p m c cX6_help 3 s args wsX6_help RX6 := S
  have hx := S.1
  have hb := S.2.1
  refine lv_aload_n hx hb dX6_help_0 rfl (lv_at hl 0 rfl) ?_
  refine lv_iload_n hx hb dX6_help_1 rfl (lv_at hl 1 rfl) ?_
  obtain ⟨r1, h2, hm⟩ := ob hm
  refine k_rVi S hK hP cal_X6_isTask gX6_help_X6_isTask (c_X6_isTask l D cC cI cJ a_md a_md_text a_md_told a_md_draft a_md_s a_md_past a_md_images a_md_seen a_md_asks a_md_brings a_md_uses a_md_days a_md_tries a_md_row a_md_first a_md_held md_typed md_known md_kept md_sights md_at md_many md_length md_set md_text md_told md_draft md_s md_past md_images md_seen md_asks md_brings md_uses md_days md_tries md_row md_first md_held p0 r1 h2) ⟨⟨rfl, rfl⟩, Nat.le_of_ble_eq_true rfl, Nat.le_of_ble_eq_true rfl⟩ [0, 1, 2, 3, 4, 5, 6, 7, 8, 9, 10, 11, 12, 13, 14, 15] rfl 0 rfl rfl rfl hl.1 rfl (Nat.le_of_ble_eq_true rfl) dX6_help_2 ⟨Nat.zero_le _, Nat.zero_le _⟩ ?_
  refine lv_if_ne (tgt := 10) hx hb dX6_help_5 (by decide) (fun c3 => ?_) (fun c3 => ?_)
  · replace hm := ineg hm c3
    refine lv_aload_n hx hb dX6_help_10 rfl (lv_at hl 0 rfl) ?_
    refine lv_iload_n hx hb dX6_help_11 rfl (lv_at hl 1 rfl) ?_
    obtain ⟨r4, h5, hm⟩ := ob hm
    refine k_rVi S hK hP cal_X6_helpNow gX6_help_X6_helpNow (c_X6_helpNow l D cC cI cJ a_md a_md_text a_md_told a_md_draft a_md_s a_md_past a_md_images a_md_seen a_md_asks a_md_brings a_md_uses a_md_days a_md_tries a_md_row a_md_first a_md_held md_typed md_known md_kept md_sights md_at md_many md_length md_set md_text md_told md_draft md_s md_past md_images md_seen md_asks md_brings md_uses md_days md_tries md_row md_first md_held p0 N r4 h5) ⟨⟨rfl, rfl⟩, Nat.le_of_ble_eq_true rfl, Nat.le_of_ble_eq_true rfl⟩ [0, 1, 2, 3, 4, 5, 6, 7, 8, 9, 10, 11, 12, 13, 14, 15] rfl 0 rfl rfl rfl hl.1 rfl (Nat.le_of_ble_eq_true rfl) dX6_help_12 ⟨Nat.zero_le _, Nat.zero_le _⟩ ?_
    refine lv_istore_n (lv' := [(2, .int r4), (0, .ref a_md), (1, .int p0)]) hx hb dX6_help_15 rfl hl (by decide) rfl (fun ls hl => ?_)
    refine lv_iload_n hx hb dX6_help_16 rfl (lv_at hl 0 rfl) ?_
    refine lv_if_ge (tgt := 25) hx hb dX6_help_17 (by decide) (fun c6 => ?_) (fun c6 => ?_)
    · replace hm := ipos hm c6
      refine lv_iload_n hx hb dX6_help_25 rfl (lv_at hl 0 rfl) ?_
      exact e_RI S hr hlk (Option.some.inj hm) dX6_help_26
    · replace hm := ineg hm c6
      refine lv_bipush (v := (-2)) hx hb dX6_help_20 (by decide) ?_
      refine lv_goto (tgt := 26) hx hb dX6_help_22 (by decide) ?_
      exact e_RI S hr hlk (Option.some.inj hm) dX6_help_26
  · replace hm := ipos hm c3
    refine lv_iconst (v := (-1)) hx hb dX6_help_8 (by decide) ?_
    exact e_RI S hr hlk (Option.some.inj hm) dX6_help_9

abbrev rX6_helper : Room := { frames := 2, cells := 0, slots := 0, locals := 43 }
theorem cal_X6_helper : Cal yX6_helper wsX6_helper cX6_helper 3 (some .int) RX6 2 := ⟨⟨_, rfl⟩, rfl, by decide +kernel, by decide +kernel, by decide +kernel⟩
theorem in_X6_helper_X6 : ∀ w ∈ wsX60, w ∈ wsX6_helper := fun _ h => (List.mem_cons_of_mem _ (List.mem_append_right _ h))
set_option maxHeartbeats 4000000 in
set_option maxRecDepth 100000 in
theorem c_X6_helper (l : Launch) (D : va_G) (cC cI cJ : ClassId) (a_md : Nat) (a_md_text : Nat) (a_md_told : Nat) (a_md_draft : Nat) (a_md_s : Nat) (a_md_past : Nat) (a_md_images : Nat) (a_md_seen : Nat) (a_md_asks : Nat) (a_md_brings : Nat) (a_md_uses : Nat) (a_md_days : Nat) (a_md_tries : Nat) (a_md_row : Nat) (a_md_first : Nat) (a_md_held : Nat) (md_typed : Int32) (md_known : Int32) (md_kept : Int32) (md_sights : Int32) (md_at : Int32) (md_many : Int32) (md_length : Int32) (md_set : Int32) (md_text : (Nat → Int32)) (md_told : (Nat → Int32)) (md_draft : (Nat → Int32)) (md_s : (Nat → Int32)) (md_past : (Nat → Int32)) (md_images : (Nat → Int32)) (md_seen : (Nat → Int32)) (md_asks : (Nat → Int32)) (md_brings : (Nat → Int32)) (md_uses : (Nat → Int32)) (md_days : (Nat → Int32)) (md_tries : (Nat → Int32)) (md_row : (Nat → Int32)) (md_first : (Nat → Int32)) (md_held : (Nat → Int32)) (p0 : Int32) (p1 : Int32) (out : Int32) (hm : m_X6_helper md_told md_s p0 p1 = some out) : RdI l yX6_helper wsX6_helper rX6_helper D (tyK cC cI cJ) [.ref a_md, .int p0, .int p1] (wd_28 cC cI cJ a_md a_md_text md_typed a_md_told a_md_draft a_md_s a_md_past md_known a_md_images md_kept a_md_seen md_sights md_at a_md_asks a_md_brings a_md_uses a_md_days a_md_tries a_md_row md_many a_md_first md_length md_set a_md_held a_md_text md_text a_md_told md_told a_md_draft md_draft a_md_s md_s a_md_past md_past a_md_images md_images a_md_seen md_seen a_md_asks md_asks a_md_brings md_brings a_md_uses md_uses a_md_days md_days a_md_tries md_tries a_md_row md_row a_md_first md_first a_md_held md_held) out := by
  unfold m_X6_helper at hm
  refine enter (cc := cX6_helper) (maxL := 3) (ret := (some .int)) (lv := [(0, .ref a_md), (1, .int p0), (2, .int p1)]) (by decide) rfl (Nat.le_of_ble_eq_true rfl) rfl ?_
  intro p e s m args below meth c S hr hlk hK hP ls hl
  replace S : CallFix p m c cX6_helper 3 s args wsX6_helper RX6 := S
  have hx := S.1
  have hb := S.2.1
  refine lv_aload_n hx hb dX6_helper_0 rfl (lv_at hl 0 rfl) ?_
  refine lv_iload_n hx hb dX6_helper_1 rfl (lv_at hl 1 rfl) ?_
  obtain ⟨r1, h2, hm⟩ := ob hm
  refine k_rVi S hK hP cal_X6_isHelper gX6_helper_X6_isHelper (c_X6_isHelper l D cC cI cJ a_md a_md_text a_md_told a_md_draft a_md_s a_md_past a_md_images a_md_seen a_md_asks a_md_brings a_md_uses a_md_days a_md_tries a_md_row a_md_first a_md_held md_typed md_known md_kept md_sights md_at md_many md_length md_set md_text md_told md_draft md_s md_past md_images md_seen md_asks md_brings md_uses md_days md_tries md_row md_first md_held p0 r1 h2) ⟨⟨rfl, rfl⟩, Nat.le_of_ble_eq_true rfl, Nat.le_of_ble_eq_true rfl⟩ [0, 1, 2, 3, 4, 5, 6, 7, 8, 9, 10, 11, 12, 13, 14, 15] rfl 0 rfl rfl rfl hl.1 rfl (Nat.le_of_ble_eq_true rfl) dX6_helper_2 ⟨Nat.zero_le _, Nat.zero_le _⟩ ?_
  refine lv_if_ne (tgt := 10) hx hb dX6_helper_5 (by decide) (fun c3 => ?_) (fun c3 => ?_)
  · replace hm := ineg hm c3
    refine lv_iload_n hx hb dX6_helper_10 rfl (lv_at hl 2 rfl) ?_
    by_cases c4 : p1 = (0 : Int32)
    · replace hm := ipos hm c4
      refine f_tabIn S c4 dX6_helper_11 (off := 29) (by decide) (by decide) (by decide) (tgt := 40) (by decide) ?_
      refine lv_aload_n hx hb dX6_helper_40 rfl (lv_at hl 0 rfl) ?_
      refine f_get S hK hP in_X6_helper_X6 0 rfl rfl 2 (by decide) (List.mem_of_getElem? (i := 1) rfl) rfl rfl dX6_helper_41 ?_
      refine lv_bipush (v := 37) hx hb dX6_helper_44 (by decide) ?_
      refine lv_iload_n hx hb dX6_helper_46 rfl (lv_at hl 1 rfl) ?_
      refine lv_iadd hx hb dX6_helper_47 ?_
      obtain ⟨g5, hm⟩ := gdo hm
      refine f_iald S hK hP 2 1 rfl rfl g5 dX6_helper_48 ?_
      exact e_RI S hr hlk (Option.some.inj hm) dX6_helper_49
    replace hm := ineg hm c4
    by_cases c6 : p1 = (1 : Int32)
    · replace hm := ipos hm c6
      refine f_tabIn S c6 dX6_helper_11 (off := 39) (by decide) (by decide) (by decide) (tgt := 50) (by decide) ?_
      refine lv_aload_n hx hb dX6_helper_50 rfl (lv_at hl 0 rfl) ?_
      refine f_get S hK hP in_X6_helper_X6 0 rfl rfl 2 (by decide) (List.mem_of_getElem? (i := 1) rfl) rfl rfl dX6_helper_51 ?_
      refine lv_bipush (v := 44) hx hb dX6_helper_54 (by decide) ?_
      refine lv_iload_n hx hb dX6_helper_56 rfl (lv_at hl 1 rfl) ?_
      refine lv_iadd hx hb dX6_helper_57 ?_
      obtain ⟨g7, hm⟩ := gdo hm
      refine f_iald S hK hP 2 1 rfl rfl g7 dX6_helper_58 ?_
      exact e_RI S hr hlk (Option.some.inj hm) dX6_helper_59
    replace hm := ineg hm c6
    by_cases c8 : p1 = (2 : Int32)
    · replace hm := ipos hm c8
      refine f_tabIn S c8 dX6_helper_11 (off := 49) (by decide) (by decide) (by decide) (tgt := 60) (by decide) ?_
      refine lv_aload_n hx hb dX6_helper_60 rfl (lv_at hl 0 rfl) ?_
      refine f_get S hK hP in_X6_helper_X6 0 rfl rfl 4 (by decide) (List.mem_of_getElem? (i := 2) rfl) rfl rfl dX6_helper_61 ?_
      refine lv_iconst (v := 2) hx hb dX6_helper_64 (by decide) ?_
      obtain ⟨g9, hm⟩ := gdo hm
      refine f_iald S hK hP 4 1 rfl rfl g9 dX6_helper_65 ?_
      refine lv_iload_n hx hb dX6_helper_66 rfl (lv_at hl 1 rfl) ?_
      refine lv_ishr hx hb dX6_helper_67 ?_
      refine lv_iconst (v := 1) hx hb dX6_helper_68 (by decide) ?_
      refine lv_iand hx hb dX6_helper_69 ?_
      exact e_RI S hr hlk (Option.some.inj hm) dX6_helper_70
    replace hm := ineg hm c8
    by_cases c10 : p1 = (3 : Int32)
    · replace hm := ipos hm c10
      refine f_tabIn S c10 dX6_helper_11 (off := 60) (by decide) (by decide) (by decide) (tgt := 71) (by decide) ?_
      refine lv_aload_n hx hb dX6_helper_71 rfl (lv_at hl 0 rfl) ?_
      refine f_get S hK hP in_X6_helper_X6 0 rfl rfl 4 (by decide) (List.mem_of_getElem? (i := 2) rfl) rfl rfl dX6_helper_72 ?_
      refine lv_iconst (v := 3) hx hb dX6_helper_75 (by decide) ?_
      obtain ⟨g11, hm⟩ := gdo hm
      refine f_iald S hK hP 4 1 rfl rfl g11 dX6_helper_76 ?_
      refine lv_iload_n hx hb dX6_helper_77 rfl (lv_at hl 1 rfl) ?_
      refine lv_ishr hx hb dX6_helper_78 ?_
      refine lv_iconst (v := 1) hx hb dX6_helper_79 (by decide) ?_
      refine lv_iand hx hb dX6_helper_80 ?_
      exact e_RI S hr hlk (Option.some.inj hm) dX6_helper_81
    replace hm := ineg hm c10
    have nc4 := toInt_ne c4 (n := 0) (by decide)
    have nc6 := toInt_ne c6 (n := 1) (by decide)
    have nc8 := toInt_ne c8 (n := 2) (by decide)
    have nc10 := toInt_ne c10 (n := 3) (by decide)
    refine f_tabOut S dX6_helper_11 (by omega) (tgt := 82) (by decide) ?_
    refine lv_iconst (v := (-1)) hx hb dX6_helper_82 (by decide) ?_
    exact e_RI S hr hlk (Option.some.inj hm) dX6_helper_83
  · replace hm := ipos hm c3
    refine lv_iconst (v := (-1)) hx hb dX6_helper_8 (by decide) ?_
    exact e_RI S hr hlk (Option.some.inj hm) dX6_helper_9

abbrev rX6_keep : Room := { frames := 0, cells := 0, slots := 0, locals := 0 }
theorem cal_X6_keep : Cal yX6_keep wsX6_keep cX6_keep 2 (some .int) RX6 0 := ⟨⟨_, rfl⟩, rfl, by decide +kernel, by decide +kernel, by decide +kernel⟩
theorem in_X6_keep_X6 : ∀ w ∈ wsX60, w ∈ wsX6_keep := fun _ h => (List.mem_cons_of_mem _ (List.mem_append_right _ h))
set_option maxHeartbeats 4000000 in
set_option maxRecDepth 100000 in
theorem t_X6_keep_13 {p : Program} {e : Env} {s : State} {m : MethodId} {args : Array Value} {below : List Frame} {meth : Method} {c : Code} {Q : State → Prop} (l : Launch) {D : va_G} {cC cI cJ : ClassId} {A : Nat → Prop} {H0 : Heap} (S : CallFix p m c cX6_keep 2 s args wsX6_keep RX6) (hK : KK D (tyK cC cI cJ) s) (a_md : Nat) (a_md_text : Nat) (a_md_told : Nat) (a_md_draft : Nat) (a_md_s : Nat) (a_md_past : Nat) (a_md_images : Nat) (a_md_seen : Nat) (a_md_asks : Nat) (a_md_brings : Nat) (a_md_uses : Nat) (a_md_days : Nat) (a_md_tries : Nat) (a_md_row : Nat) (a_md_first : Nat) (a_md_held : Nat) (md_typed : Int32) (md_known : Int32) (md_kept : Int32) (md_sights : Int32) (md_at : Int32) (md_many : Int32) (md_length : Int32) (md_set : Int32) (md_text : (Nat → Int32)) (md_told : (Nat → Int32)) (md_draft : (Nat → Int32)) (md_s : (Nat → Int32)) (md_past : (Nat → Int32)) (md_seen : (Nat → Int32)) (md_asks : (Nat → Int32)) (md_brings : (Nat → Int32)) (md_uses : (Nat → Int32)) (md_days : (Nat → Int32)) (md_tries : (Nat → Int32)) (md_row : (Nat → Int32)) (md_first : (Nat → Int32)) (md_held : (Nat → Int32)) : ∀ (n : Nat) (v1 : Int32) (md_images : (Nat → Int32)) (out : (Nat → Int32)), lp_X6_keep_13 md_kept md_s n v1 md_images = some out → ∀ (H : Heap) (locs : List Loc) (ls : Array Slot), Wd D A H0 (wd_28 cC cI cJ a_md a_md_text md_typed a_md_told a_md_draft a_md_s a_md_past md_known a_md_images md_kept a_md_seen md_sights md_at a_md_asks a_md_brings a_md_uses a_md_days a_md_tries a_md_row md_many a_md_first md_length md_set a_md_held a_md_text md_text a_md_told md_told a_md_draft md_draft a_md_s md_s a_md_past md_past a_md_images md_images a_md_seen md_seen a_md_asks md_asks a_md_brings md_brings a_md_uses md_uses a_md_days md_days a_md_tries md_tries a_md_row md_row a_md_first md_first a_md_held md_held) H locs → lv_has ls 2 [(0, .ref a_md), (1, .int v1)] → (∀ (H : Heap) (locs : List Loc) (ls : Array Slot), Wd D A H0 (wd_28 cC cI cJ a_md a_md_text md_typed a_md_told a_md_draft a_md_s a_md_past md_known a_md_images md_kept a_md_seen md_sights md_at a_md_asks a_md_brings a_md_uses a_md_days a_md_tries a_md_row md_many a_md_first md_length md_set a_md_held a_md_text md_text a_md_told md_told a_md_draft md_draft a_md_s md_s a_md_past md_past a_md_images out a_md_seen md_seen a_md_asks md_asks a_md_brings md_brings a_md_uses md_uses a_md_days md_days a_md_tries md_tries a_md_row md_row a_md_first md_first a_md_held md_held) H locs → lv_has ls 2 [(0, .ref a_md)] → W p l e rX6_keep s m args below meth c H locs 0 0 Q (F0 m 45 ls [])) → W p l e rX6_keep s m args below meth c H locs 0 0 Q (F0 m 13 ls []) := by
  have hx := S.1
  have hb := S.2.1
  intro n
  induction n with
  | zero => intro v1 md_images out hm; cases (show (none : Option (Nat → Int32)) = some out from hm)
  | succ n ih =>
    intro v1 md_images out hm  H locs ls hw hl K0
    rw [lp_X6_keep_13] at hm
    refine lv_iload_n hx hb dX6_keep_13 rfl (lv_at hl 1 rfl) ?_
    refine lv_bipush (v := 6) hx hb dX6_keep_14 (by decide) ?_
    refine lv_icmp_ge (tgt := 45) hx hb dX6_keep_16 (by decide) (fun c2 => ?_) (fun c2 => ?_)
    · replace hm := ipos hm c2
      obtain rfl := Option.some.inj hm
      exact K0  _ _ ls hw (lv_sub hl [0] rfl)
    · replace hm := ineg hm c2
      refine lv_aload_n hx hb dX6_keep_19 rfl (lv_at hl 0 rfl) ?_
      refine f_get S hK hw.1 in_X6_keep_X6 0 rfl rfl 7 (by decide) (List.mem_of_getElem? (i := 2) rfl) rfl rfl dX6_keep_20 ?_
      refine lv_bipush (v := 6) hx hb dX6_keep_23 (by decide) ?_
      refine lv_aload_n hx hb dX6_keep_25 rfl (lv_at hl 0 rfl) ?_
      refine f_get S hK hw.1 in_X6_keep_X6 0 rfl rfl 8 (by decide) (List.mem_of_getElem? (i := 1) rfl) rfl rfl dX6_keep_26 ?_
      refine lv_imul hx hb dX6_keep_29 ?_
      refine lv_iload_n hx hb dX6_keep_30 rfl (lv_at hl 1 rfl) ?_
      refine lv_iadd hx hb dX6_keep_31 ?_
      refine lv_aload_n hx hb dX6_keep_32 rfl (lv_at hl 0 rfl) ?_
      refine f_get S hK hw.1 in_X6_keep_X6 0 rfl rfl 4 (by decide) (List.mem_of_getElem? (i := 3) rfl) rfl rfl dX6_keep_33 ?_
      refine lv_iload_n hx hb dX6_keep_36 rfl (lv_at hl 1 rfl) ?_
      obtain ⟨g3, hm⟩ := gdo hm
      refine f_iald S hK hw.1 4 1 rfl rfl g3 dX6_keep_37 ?_
      obtain ⟨g4, hm⟩ := gdo hm
      refine f_iast S hK hw 6 1 rfl rfl g4 (ws1 := (wd_28 cC cI cJ a_md a_md_text md_typed a_md_told a_md_draft a_md_s a_md_past md_known a_md_images md_kept a_md_seen md_sights md_at a_md_asks a_md_brings a_md_uses a_md_days a_md_tries a_md_row md_many a_md_first md_length md_set a_md_held a_md_text md_text a_md_told md_told a_md_draft md_draft a_md_s md_s a_md_past md_past a_md_images (upd md_images ((((6 : Int32) * md_kept) + v1)).toNatClampNeg (md_s (v1).toNatClampNeg)) a_md_seen md_seen a_md_asks md_asks a_md_brings md_brings a_md_uses md_uses a_md_days md_days a_md_tries md_tries a_md_row md_row a_md_first md_first a_md_held md_held)) rfl dX6_keep_38 (fun H locs hw => ?_)
      refine lv_iinc (v := (v1 + 1)) (lv' := [(1, .int (v1 + 1)), (0, .ref a_md)]) hx hb dX6_keep_39 hl (k := 1) rfl (by rw [ofi_1]) (by decide) rfl (fun ls hl => ?_)
      refine lv_goto (tgt := 13) hx hb dX6_keep_42 (by decide) ?_
      exact ih (v1 + 1) (upd md_images ((((6 : Int32) * md_kept) + v1)).toNatClampNeg (md_s (v1).toNatClampNeg)) _ hm  _ _ ls hw (lv_sub hl [1, 0] rfl) K0
set_option maxHeartbeats 4000000 in
set_option maxRecDepth 100000 in
theorem c_X6_keep (l : Launch) (D : va_G) (cC cI cJ : ClassId) (a_md : Nat) (a_md_text : Nat) (a_md_told : Nat) (a_md_draft : Nat) (a_md_s : Nat) (a_md_past : Nat) (a_md_images : Nat) (a_md_seen : Nat) (a_md_asks : Nat) (a_md_brings : Nat) (a_md_uses : Nat) (a_md_days : Nat) (a_md_tries : Nat) (a_md_row : Nat) (a_md_first : Nat) (a_md_held : Nat) (md_typed : Int32) (md_known : Int32) (md_kept : Int32) (md_sights : Int32) (md_at : Int32) (md_many : Int32) (md_length : Int32) (md_set : Int32) (md_text : (Nat → Int32)) (md_told : (Nat → Int32)) (md_draft : (Nat → Int32)) (md_s : (Nat → Int32)) (md_past : (Nat → Int32)) (md_images : (Nat → Int32)) (md_seen : (Nat → Int32)) (md_asks : (Nat → Int32)) (md_brings : (Nat → Int32)) (md_uses : (Nat → Int32)) (md_days : (Nat → Int32)) (md_tries : (Nat → Int32)) (md_row : (Nat → Int32)) (md_first : (Nat → Int32)) (md_held : (Nat → Int32)) (N : Nat) (A : Nat → Prop) (hD : va_D A (wd_28 cC cI cJ a_md a_md_text md_typed a_md_told a_md_draft a_md_s a_md_past md_known a_md_images md_kept a_md_seen md_sights md_at a_md_asks a_md_brings a_md_uses a_md_days a_md_tries a_md_row md_many a_md_first md_length md_set a_md_held a_md_text md_text a_md_told md_told a_md_draft md_draft a_md_s md_s a_md_past md_past a_md_images md_images a_md_seen md_seen a_md_asks md_asks a_md_brings md_brings a_md_uses md_uses a_md_days md_days a_md_tries md_tries a_md_row md_row a_md_first md_first a_md_held md_held)) (out : (Int32 × Int32 × (Nat → Int32))) (hm : m_X6_keep N md_kept md_s md_images = some out) : WrI l yX6_keep wsX6_keep rX6_keep D (tyK cC cI cJ) [.ref a_md] A (wd_28 cC cI cJ a_md a_md_text md_typed a_md_told a_md_draft a_md_s a_md_past md_known a_md_images md_kept a_md_seen md_sights md_at a_md_asks a_md_brings a_md_uses a_md_days a_md_tries a_md_row md_many a_md_first md_length md_set a_md_held a_md_text md_text a_md_told md_told a_md_draft md_draft a_md_s md_s a_md_past md_past a_md_images md_images a_md_seen md_seen a_md_asks md_asks a_md_brings md_brings a_md_uses md_uses a_md_days md_days a_md_tries md_tries a_md_row md_row a_md_first md_first a_md_held md_held) (Bw0 D (wd_28 cC cI cJ a_md a_md_text md_typed a_md_told a_md_draft a_md_s a_md_past md_known a_md_images out.2.1 a_md_seen md_sights md_at a_md_asks a_md_brings a_md_uses a_md_days a_md_tries a_md_row md_many a_md_first md_length md_set a_md_held a_md_text md_text a_md_told md_told a_md_draft md_draft a_md_s md_s a_md_past md_past a_md_images out.2.2 a_md_seen md_seen a_md_asks md_asks a_md_brings md_brings a_md_uses md_uses a_md_days md_days a_md_tries md_tries a_md_row md_row a_md_first md_first a_md_held md_held)) out.1 := by
  unfold m_X6_keep at hm
  refine enter (cc := cX6_keep) (maxL := 2) (ret := (some .int)) (lv := [(0, .ref a_md)]) (by decide) rfl (Nat.le_of_ble_eq_true rfl) rfl ?_
  intro p e s m args below meth c S hr hlk hK hP ls hl
  replace S : CallFix p m c cX6_keep 2 s args wsX6_keep RX6 := S
  have hx := S.1
  have hb := S.2.1
  have hw : Wd D A s.heap (wd_28 cC cI cJ a_md a_md_text md_typed a_md_told a_md_draft a_md_s a_md_past md_known a_md_images md_kept a_md_seen md_sights md_at a_md_asks a_md_brings a_md_uses a_md_days a_md_tries a_md_row md_many a_md_first md_length md_set a_md_held a_md_text md_text a_md_told md_told a_md_draft md_draft a_md_s md_s a_md_past md_past a_md_images md_images a_md_seen md_seen a_md_asks md_asks a_md_brings md_brings a_md_uses md_uses a_md_days md_days a_md_tries md_tries a_md_row md_row a_md_first md_first a_md_held md_held) s.heap [] := ⟨hP, hD, va_S.rf⟩
  have hw0 := hw
  refine lv_aload_n hx hb dX6_keep_0 rfl (lv_at hl 0 rfl) ?_
  refine f_get S hK hw.1 in_X6_keep_X6 0 rfl rfl 8 (by decide) (List.mem_of_getElem? (i := 1) rfl) rfl rfl dX6_keep_1 ?_
  refine lv_iconst (v := 2) hx hb dX6_keep_4 (by decide) ?_
  refine lv_icmp_ne (tgt := 11) hx hb dX6_keep_5 (by decide) (fun c1 => ?_) (fun c1 => ?_)
  · replace hm := ineg hm c1
    refine lv_iconst (v := 0) hx hb dX6_keep_11 (by decide) ?_
    refine lv_istore_n (lv' := [(1, .int (0 : Int32)), (0, .ref a_md)]) hx hb dX6_keep_12 rfl hl (by decide) rfl (fun ls hl => ?_)
    obtain ⟨r5, h6, hm⟩ := ob hm
    refine t_X6_keep_13 l S hK a_md a_md_text a_md_told a_md_draft a_md_s a_md_past a_md_images a_md_seen a_md_asks a_md_brings a_md_uses a_md_days a_md_tries a_md_row a_md_first a_md_held md_typed md_known md_kept md_sights md_at md_many md_length md_set md_text md_told md_draft md_s md_past md_seen md_asks md_brings md_uses md_days md_tries md_row md_first md_held N (0 : Int32) md_images r5 h6  _ _ ls hw (lv_sub hl [1, 0] rfl) (fun H locs ls hw hl => ?_)
    refine lv_aload_n hx hb dX6_keep_45 rfl (lv_at hl 0 rfl) ?_
    refine lv_dup hx hb dX6_keep_46 rfl ?_
    refine f_get S hK hw.1 in_X6_keep_X6 0 rfl rfl 8 (by decide) (List.mem_of_getElem? (i := 1) rfl) rfl rfl dX6_keep_47 ?_
    refine lv_iconst (v := 1) hx hb dX6_keep_50 (by decide) ?_
    refine lv_iadd hx hb dX6_keep_51 ?_
    refine f_put S hK hw in_X6_keep_X6 tyX6_ok nmX6 0 rfl rfl 8 (by decide) (List.mem_of_getElem? (i := 1) rfl) rfl rfl rfl rfl (Nat.le_of_ble_eq_true rfl) (ws1 := (wd_28 cC cI cJ a_md a_md_text md_typed a_md_told a_md_draft a_md_s a_md_past md_known a_md_images (md_kept + (1 : Int32)) a_md_seen md_sights md_at a_md_asks a_md_brings a_md_uses a_md_days a_md_tries a_md_row md_many a_md_first md_length md_set a_md_held a_md_text md_text a_md_told md_told a_md_draft md_draft a_md_s md_s a_md_past md_past a_md_images r5 a_md_seen md_seen a_md_asks md_asks a_md_brings md_brings a_md_uses md_uses a_md_days md_days a_md_tries md_tries a_md_row md_row a_md_first md_first a_md_held md_held)) rfl dX6_keep_52 (fun H locs hw => ?_)
    refine lv_aload_n hx hb dX6_keep_55 rfl (lv_at hl 0 rfl) ?_
    refine f_get S hK hw.1 in_X6_keep_X6 0 rfl rfl 8 (by decide) (List.mem_of_getElem? (i := 1) rfl) rfl rfl dX6_keep_56 ?_
    obtain rfl := Option.some.inj hm
    exact e_WI S hr hlk hw rfl hw.1 dX6_keep_59
  · replace hm := ipos hm c1
    refine lv_bipush (v := (-3)) hx hb dX6_keep_8 (by decide) ?_
    obtain rfl := Option.some.inj hm
    exact e_WI S hr hlk hw rfl hw.1 dX6_keep_10

abbrev rX6_rides : Room := { frames := 3, cells := 0, slots := 0, locals := 72 }
theorem cal_X6_rides : Cal yX6_rides wsX6_rides cX6_rides 2 none RX6 1 := ⟨⟨_, rfl⟩, rfl, by decide +kernel, by decide +kernel, by decide +kernel⟩
theorem in_X6_rides_X6 : ∀ w ∈ wsX60, w ∈ wsX6_rides := fun _ h => (List.mem_cons_of_mem _ (List.mem_append_right _ h))
set_option maxHeartbeats 4000000 in
set_option maxRecDepth 100000 in
theorem c_X6_rides (l : Launch) (D : va_G) (cC cI cJ : ClassId) (a_md : Nat) (a_md_text : Nat) (a_md_told : Nat) (a_md_draft : Nat) (a_md_s : Nat) (a_md_past : Nat) (a_md_images : Nat) (a_md_seen : Nat) (a_md_asks : Nat) (a_md_brings : Nat) (a_md_uses : Nat) (a_md_days : Nat) (a_md_tries : Nat) (a_md_row : Nat) (a_md_first : Nat) (a_md_held : Nat) (md_typed : Int32) (md_known : Int32) (md_kept : Int32) (md_sights : Int32) (md_at : Int32) (md_many : Int32) (md_length : Int32) (md_set : Int32) (md_text : (Nat → Int32)) (md_told : (Nat → Int32)) (md_draft : (Nat → Int32)) (md_s : (Nat → Int32)) (md_past : (Nat → Int32)) (md_images : (Nat → Int32)) (md_seen : (Nat → Int32)) (md_asks : (Nat → Int32)) (md_brings : (Nat → Int32)) (md_uses : (Nat → Int32)) (md_days : (Nat → Int32)) (md_tries : (Nat → Int32)) (md_row : (Nat → Int32)) (md_first : (Nat → Int32)) (md_held : (Nat → Int32)) (p0 : Int32) (N : Nat) (A : Nat → Prop) (hD : va_D A (wd_28 cC cI cJ a_md a_md_text md_typed a_md_told a_md_draft a_md_s a_md_past md_known a_md_images md_kept a_md_seen md_sights md_at a_md_asks a_md_brings a_md_uses a_md_days a_md_tries a_md_row md_many a_md_first md_length md_set a_md_held a_md_text md_text a_md_told md_told a_md_draft md_draft a_md_s md_s a_md_past md_past a_md_images md_images a_md_seen md_seen a_md_asks md_asks a_md_brings md_brings a_md_uses md_uses a_md_days md_days a_md_tries md_tries a_md_row md_row a_md_first md_first a_md_held md_held)) (out : (Nat → Int32)) (hm : m_X6_rides N md_told md_s p0 = some out) : WrV l yX6_rides wsX6_rides rX6_rides D (tyK cC cI cJ) [.ref a_md, .int p0] A (wd_28 cC cI cJ a_md a_md_text md_typed a_md_told a_md_draft a_md_s a_md_past md_known a_md_images md_kept a_md_seen md_sights md_at a_md_asks a_md_brings a_md_uses a_md_days a_md_tries a_md_row md_many a_md_first md_length md_set a_md_held a_md_text md_text a_md_told md_told a_md_draft md_draft a_md_s md_s a_md_past md_past a_md_images md_images a_md_seen md_seen a_md_asks md_asks a_md_brings md_brings a_md_uses md_uses a_md_days md_days a_md_tries md_tries a_md_row md_row a_md_first md_first a_md_held md_held) (Bw0 D (wd_28 cC cI cJ a_md a_md_text md_typed a_md_told a_md_draft a_md_s a_md_past md_known a_md_images md_kept a_md_seen md_sights md_at a_md_asks a_md_brings a_md_uses a_md_days a_md_tries a_md_row md_many a_md_first md_length md_set a_md_held a_md_text md_text a_md_told md_told a_md_draft md_draft a_md_s out a_md_past md_past a_md_images md_images a_md_seen md_seen a_md_asks md_asks a_md_brings md_brings a_md_uses md_uses a_md_days md_days a_md_tries md_tries a_md_row md_row a_md_first md_first a_md_held md_held)) := by
  unfold m_X6_rides at hm
  refine enter (cc := cX6_rides) (maxL := 2) (ret := none) (lv := [(0, .ref a_md), (1, .int p0)]) (by decide) rfl (Nat.le_of_ble_eq_true rfl) rfl ?_
  intro p e s m args below meth c S hr hlk hK hP ls hl
  replace S : CallFix p m c cX6_rides 2 s args wsX6_rides RX6 := S
  have hx := S.1
  have hb := S.2.1
  have hw : Wd D A s.heap (wd_28 cC cI cJ a_md a_md_text md_typed a_md_told a_md_draft a_md_s a_md_past md_known a_md_images md_kept a_md_seen md_sights md_at a_md_asks a_md_brings a_md_uses a_md_days a_md_tries a_md_row md_many a_md_first md_length md_set a_md_held a_md_text md_text a_md_told md_told a_md_draft md_draft a_md_s md_s a_md_past md_past a_md_images md_images a_md_seen md_seen a_md_asks md_asks a_md_brings md_brings a_md_uses md_uses a_md_days md_days a_md_tries md_tries a_md_row md_row a_md_first md_first a_md_held md_held) s.heap [] := ⟨hP, hD, va_S.rf⟩
  have hw0 := hw
  refine lv_aload_n hx hb dX6_rides_0 rfl (lv_at hl 0 rfl) ?_
  refine f_get S hK hw.1 in_X6_rides_X6 0 rfl rfl 4 (by decide) (List.mem_of_getElem? (i := 1) rfl) rfl rfl dX6_rides_1 ?_
  refine lv_iconst (v := 3) hx hb dX6_rides_4 (by decide) ?_
  refine lv_dup2_11 hx hb dX6_rides_5 rfl rfl ?_
  obtain ⟨g1, hm⟩ := gdo hm
  refine f_iald S hK hw.1 4 1 rfl rfl g1 dX6_rides_6 ?_
  refine lv_aload_n hx hb dX6_rides_7 rfl (lv_at hl 0 rfl) ?_
  refine lv_iload_n hx hb dX6_rides_8 rfl (lv_at hl 1 rfl) ?_
  obtain ⟨r2, h3, hm⟩ := ob hm
  refine k_rVi S hK hw.1 cal_X6_helpNow gX6_rides_X6_helpNow (c_X6_helpNow l D cC cI cJ a_md a_md_text a_md_told a_md_draft a_md_s a_md_past a_md_images a_md_seen a_md_asks a_md_brings a_md_uses a_md_days a_md_tries a_md_row a_md_first a_md_held md_typed md_known md_kept md_sights md_at md_many md_length md_set md_text md_told md_draft md_s md_past md_images md_seen md_asks md_brings md_uses md_days md_tries md_row md_first md_held p0 N r2 h3) ⟨⟨rfl, rfl⟩, Nat.le_of_ble_eq_true rfl, Nat.le_of_ble_eq_true rfl⟩ [0, 1, 2, 3, 4, 5, 6, 7, 8, 9, 10, 11, 12, 13, 14, 15] rfl 0 rfl rfl rfl hl.1 rfl (Nat.le_of_ble_eq_true rfl) dX6_rides_9 ⟨Nat.zero_le _, Nat.zero_le _⟩ ?_
  refine lv_ior hx hb dX6_rides_12 ?_
  obtain ⟨y5, e6, hm⟩ := ob hm
  refine f_name e6 ?_
  obtain ⟨g4, hm⟩ := gdo hm
  refine f_iast S hK hw 4 1 rfl rfl g4 (ws1 := (wd_28 cC cI cJ a_md a_md_text md_typed a_md_told a_md_draft a_md_s a_md_past md_known a_md_images md_kept a_md_seen md_sights md_at a_md_asks a_md_brings a_md_uses a_md_days a_md_tries a_md_row md_many a_md_first md_length md_set a_md_held a_md_text md_text a_md_told md_told a_md_draft md_draft a_md_s (upd md_s ((3 : Int32)).toNatClampNeg y5) a_md_past md_past a_md_images md_images a_md_seen md_seen a_md_asks md_asks a_md_brings md_brings a_md_uses md_uses a_md_days md_days a_md_tries md_tries a_md_row md_row a_md_first md_first a_md_held md_held)) rfl dX6_rides_13 (fun H locs hw => ?_)
  refine lv_aload_n hx hb dX6_rides_14 rfl (lv_at hl 0 rfl) ?_
  refine f_get S hK hw.1 in_X6_rides_X6 0 rfl rfl 4 (by decide) (List.mem_of_getElem? (i := 1) rfl) rfl rfl dX6_rides_15 ?_
  refine lv_iconst (v := 5) hx hb dX6_rides_18 (by decide) ?_
  refine lv_dup2_11 hx hb dX6_rides_19 rfl rfl ?_
  obtain ⟨g7, hm⟩ := gdo hm
  refine f_iald S hK hw.1 4 1 rfl rfl g7 dX6_rides_20 ?_
  refine lv_aload_n hx hb dX6_rides_21 rfl (lv_at hl 0 rfl) ?_
  refine lv_iload_n hx hb dX6_rides_22 rfl (lv_at hl 1 rfl) ?_
  obtain ⟨r8, h9, hm⟩ := ob hm
  refine k_rVi S hK hw.1 cal_X6_daysOf gX6_rides_X6_daysOf (c_X6_daysOf l D cC cI cJ a_md a_md_text a_md_told a_md_draft a_md_s a_md_past a_md_images a_md_seen a_md_asks a_md_brings a_md_uses a_md_days a_md_tries a_md_row a_md_first a_md_held md_typed md_known md_kept md_sights md_at md_many md_length md_set md_text md_told md_draft (upd md_s ((3 : Int32)).toNatClampNeg y5) md_past md_images md_seen md_asks md_brings md_uses md_days md_tries md_row md_first md_held p0 r8 h9) ⟨⟨rfl, rfl⟩, Nat.le_of_ble_eq_true rfl, Nat.le_of_ble_eq_true rfl⟩ [0, 1, 2, 3, 4, 5, 6, 7, 8, 9, 10, 11, 12, 13, 14, 15] rfl 0 rfl rfl rfl hl.1 rfl (Nat.le_of_ble_eq_true rfl) dX6_rides_23 ⟨Nat.zero_le _, Nat.zero_le _⟩ ?_
  refine lv_iadd hx hb dX6_rides_26 ?_
  obtain ⟨y11, e12, hm⟩ := ob hm
  refine f_name e12 ?_
  obtain ⟨g10, hm⟩ := gdo hm
  refine f_iast S hK hw 4 1 rfl rfl g10 (ws1 := (wd_28 cC cI cJ a_md a_md_text md_typed a_md_told a_md_draft a_md_s a_md_past md_known a_md_images md_kept a_md_seen md_sights md_at a_md_asks a_md_brings a_md_uses a_md_days a_md_tries a_md_row md_many a_md_first md_length md_set a_md_held a_md_text md_text a_md_told md_told a_md_draft md_draft a_md_s (upd (upd md_s ((3 : Int32)).toNatClampNeg y5) ((5 : Int32)).toNatClampNeg y11) a_md_past md_past a_md_images md_images a_md_seen md_seen a_md_asks md_asks a_md_brings md_brings a_md_uses md_uses a_md_days md_days a_md_tries md_tries a_md_row md_row a_md_first md_first a_md_held md_held)) rfl dX6_rides_27 (fun H locs hw => ?_)
  refine lv_aload_n hx hb dX6_rides_28 rfl (lv_at hl 0 rfl) ?_
  refine f_get S hK hw.1 in_X6_rides_X6 0 rfl rfl 4 (by decide) (List.mem_of_getElem? (i := 1) rfl) rfl rfl dX6_rides_29 ?_
  refine lv_iconst (v := 1) hx hb dX6_rides_32 (by decide) ?_
  refine lv_dup2_11 hx hb dX6_rides_33 rfl rfl ?_
  obtain ⟨g13, hm⟩ := gdo hm
  refine f_iald S hK hw.1 4 1 rfl rfl g13 dX6_rides_34 ?_
  refine lv_iconst (v := 1) hx hb dX6_rides_35 (by decide) ?_
  refine lv_iload_n hx hb dX6_rides_36 rfl (lv_at hl 1 rfl) ?_
  refine lv_ishl hx hb dX6_rides_37 ?_
  refine lv_ior hx hb dX6_rides_38 ?_
  obtain ⟨y15, e16, hm⟩ := ob hm
  refine f_name e16 ?_
  obtain ⟨g14, hm⟩ := gdo hm
  refine f_iast S hK hw 4 1 rfl rfl g14 (ws1 := (wd_28 cC cI cJ a_md a_md_text md_typed a_md_told a_md_draft a_md_s a_md_past md_known a_md_images md_kept a_md_seen md_sights md_at a_md_asks a_md_brings a_md_uses a_md_days a_md_tries a_md_row md_many a_md_first md_length md_set a_md_held a_md_text md_text a_md_told md_told a_md_draft md_draft a_md_s (upd (upd (upd md_s ((3 : Int32)).toNatClampNeg y5) ((5 : Int32)).toNatClampNeg y11) ((1 : Int32)).toNatClampNeg y15) a_md_past md_past a_md_images md_images a_md_seen md_seen a_md_asks md_asks a_md_brings md_brings a_md_uses md_uses a_md_days md_days a_md_tries md_tries a_md_row md_row a_md_first md_first a_md_held md_held)) rfl dX6_rides_39 (fun H locs hw => ?_)
  refine lv_aload_n hx hb dX6_rides_40 rfl (lv_at hl 0 rfl) ?_
  refine f_get S hK hw.1 in_X6_rides_X6 0 rfl rfl 4 (by decide) (List.mem_of_getElem? (i := 1) rfl) rfl rfl dX6_rides_41 ?_
  refine lv_iconst (v := 0) hx hb dX6_rides_44 (by decide) ?_
  refine lv_dup2_11 hx hb dX6_rides_45 rfl rfl ?_
  obtain ⟨g17, hm⟩ := gdo hm
  refine f_iald S hK hw.1 4 1 rfl rfl g17 dX6_rides_46 ?_
  refine lv_iconst (v := 1) hx hb dX6_rides_47 (by decide) ?_
  refine lv_aload_n hx hb dX6_rides_48 rfl (lv_at hl 0 rfl) ?_
  refine f_get S hK hw.1 in_X6_rides_X6 0 rfl rfl 2 (by decide) (List.mem_of_getElem? (i := 2) rfl) rfl rfl dX6_rides_49 ?_
  refine lv_bipush (v := 29) hx hb dX6_rides_52 (by decide) ?_
  refine lv_iload_n hx hb dX6_rides_54 rfl (lv_at hl 1 rfl) ?_
  refine lv_iadd hx hb dX6_rides_55 ?_
  obtain ⟨g18, hm⟩ := gdo hm
  refine f_iald S hK hw.1 2 1 rfl rfl g18 dX6_rides_56 ?_
  refine lv_ishl hx hb dX6_rides_57 ?_
  refine lv_ior hx hb dX6_rides_58 ?_
  obtain ⟨y20, e21, hm⟩ := ob hm
  refine f_name e21 ?_
  obtain ⟨g19, hm⟩ := gdo hm
  refine f_iast S hK hw 4 1 rfl rfl g19 (ws1 := (wd_28 cC cI cJ a_md a_md_text md_typed a_md_told a_md_draft a_md_s a_md_past md_known a_md_images md_kept a_md_seen md_sights md_at a_md_asks a_md_brings a_md_uses a_md_days a_md_tries a_md_row md_many a_md_first md_length md_set a_md_held a_md_text md_text a_md_told md_told a_md_draft md_draft a_md_s (upd (upd (upd (upd md_s ((3 : Int32)).toNatClampNeg y5) ((5 : Int32)).toNatClampNeg y11) ((1 : Int32)).toNatClampNeg y15) ((0 : Int32)).toNatClampNeg y20) a_md_past md_past a_md_images md_images a_md_seen md_seen a_md_asks md_asks a_md_brings md_brings a_md_uses md_uses a_md_days md_days a_md_tries md_tries a_md_row md_row a_md_first md_first a_md_held md_held)) rfl dX6_rides_59 (fun H locs hw => ?_)
  obtain rfl := Option.some.inj hm
  exact e_WV S hr hlk hw hw.1 dX6_rides_60

abbrev rX6_steps : Room := { frames := 4, cells := 0, slots := 0, locals := 93 }
theorem cal_X6_steps : Cal yX6_steps wsX6_steps cX6_steps 4 none RX6 1 := ⟨⟨_, rfl⟩, rfl, by decide +kernel, by decide +kernel, by decide +kernel⟩
theorem in_X6_steps_X6 : ∀ w ∈ wsX60, w ∈ wsX6_steps := fun _ h => (List.mem_cons_of_mem _ (List.mem_append_right _ h))
set_option maxHeartbeats 4000000 in
set_option maxRecDepth 100000 in
theorem c_X6_steps (l : Launch) (D : va_G) (cC cI cJ : ClassId) (a_md : Nat) (a_md_text : Nat) (a_md_told : Nat) (a_md_draft : Nat) (a_md_s : Nat) (a_md_past : Nat) (a_md_images : Nat) (a_md_seen : Nat) (a_md_asks : Nat) (a_md_brings : Nat) (a_md_uses : Nat) (a_md_days : Nat) (a_md_tries : Nat) (a_md_row : Nat) (a_md_first : Nat) (a_md_held : Nat) (md_typed : Int32) (md_known : Int32) (md_kept : Int32) (md_sights : Int32) (md_at : Int32) (md_many : Int32) (md_length : Int32) (md_set : Int32) (md_text : (Nat → Int32)) (md_told : (Nat → Int32)) (md_draft : (Nat → Int32)) (md_s : (Nat → Int32)) (md_past : (Nat → Int32)) (md_images : (Nat → Int32)) (md_seen : (Nat → Int32)) (md_asks : (Nat → Int32)) (md_brings : (Nat → Int32)) (md_uses : (Nat → Int32)) (md_days : (Nat → Int32)) (md_tries : (Nat → Int32)) (md_row : (Nat → Int32)) (md_first : (Nat → Int32)) (md_held : (Nat → Int32)) (p0 : Int32) (N : Nat) (A : Nat → Prop) (hD : va_D A (wd_28 cC cI cJ a_md a_md_text md_typed a_md_told a_md_draft a_md_s a_md_past md_known a_md_images md_kept a_md_seen md_sights md_at a_md_asks a_md_brings a_md_uses a_md_days a_md_tries a_md_row md_many a_md_first md_length md_set a_md_held a_md_text md_text a_md_told md_told a_md_draft md_draft a_md_s md_s a_md_past md_past a_md_images md_images a_md_seen md_seen a_md_asks md_asks a_md_brings md_brings a_md_uses md_uses a_md_days md_days a_md_tries md_tries a_md_row md_row a_md_first md_first a_md_held md_held)) (out : (Nat → Int32)) (hm : m_X6_steps N md_told md_s p0 = some out) : WrV l yX6_steps wsX6_steps rX6_steps D (tyK cC cI cJ) [.ref a_md, .int p0] A (wd_28 cC cI cJ a_md a_md_text md_typed a_md_told a_md_draft a_md_s a_md_past md_known a_md_images md_kept a_md_seen md_sights md_at a_md_asks a_md_brings a_md_uses a_md_days a_md_tries a_md_row md_many a_md_first md_length md_set a_md_held a_md_text md_text a_md_told md_told a_md_draft md_draft a_md_s md_s a_md_past md_past a_md_images md_images a_md_seen md_seen a_md_asks md_asks a_md_brings md_brings a_md_uses md_uses a_md_days md_days a_md_tries md_tries a_md_row md_row a_md_first md_first a_md_held md_held) (Bw0 D (wd_28 cC cI cJ a_md a_md_text md_typed a_md_told a_md_draft a_md_s a_md_past md_known a_md_images md_kept a_md_seen md_sights md_at a_md_asks a_md_brings a_md_uses a_md_days a_md_tries a_md_row md_many a_md_first md_length md_set a_md_held a_md_text md_text a_md_told md_told a_md_draft md_draft a_md_s out a_md_past md_past a_md_images md_images a_md_seen md_seen a_md_asks md_asks a_md_brings md_brings a_md_uses md_uses a_md_days md_days a_md_tries md_tries a_md_row md_row a_md_first md_first a_md_held md_held)) := by
  unfold m_X6_steps at hm
  refine enter (cc := cX6_steps) (maxL := 4) (ret := none) (lv := [(0, .ref a_md), (1, .int p0)]) (by decide) rfl (Nat.le_of_ble_eq_true rfl) rfl ?_
  intro p e s m args below meth c S hr hlk hK hP ls hl
  replace S : CallFix p m c cX6_steps 4 s args wsX6_steps RX6 := S
  have hx := S.1
  have hb := S.2.1
  have hw : Wd D A s.heap (wd_28 cC cI cJ a_md a_md_text md_typed a_md_told a_md_draft a_md_s a_md_past md_known a_md_images md_kept a_md_seen md_sights md_at a_md_asks a_md_brings a_md_uses a_md_days a_md_tries a_md_row md_many a_md_first md_length md_set a_md_held a_md_text md_text a_md_told md_told a_md_draft md_draft a_md_s md_s a_md_past md_past a_md_images md_images a_md_seen md_seen a_md_asks md_asks a_md_brings md_brings a_md_uses md_uses a_md_days md_days a_md_tries md_tries a_md_row md_row a_md_first md_first a_md_held md_held) s.heap [] := ⟨hP, hD, va_S.rf⟩
  have hw0 := hw
  refine lv_iload_n hx hb dX6_steps_0 rfl (lv_at hl 1 rfl) ?_
  refine lv_aload_n hx hb dX6_steps_1 rfl (lv_at hl 0 rfl) ?_
  refine f_get S hK hw.1 in_X6_steps_X6 0 rfl rfl 2 (by decide) (List.mem_of_getElem? (i := 1) rfl) rfl rfl dX6_steps_2 ?_
  refine lv_iconst (v := 0) hx hb dX6_steps_5 (by decide) ?_
  obtain ⟨g1, hm⟩ := gdo hm
  refine f_iald S hK hw.1 2 1 rfl rfl g1 dX6_steps_6 ?_
  obtain ⟨g2, hm⟩ := gdo hm
  refine lv_irem hx hb dX6_steps_7 g2 ?_
  obtain ⟨y3, e4, hm⟩ := ob hm
  refine f_name e4 ?_
  refine lv_istore_n (lv' := [(2, .int y3), (0, .ref a_md), (1, .int p0)]) hx hb dX6_steps_8 rfl hl (by decide) rfl (fun ls hl => ?_)
  refine lv_aload_n hx hb dX6_steps_9 rfl (lv_at hl 1 rfl) ?_
  refine f_get S hK hw.1 in_X6_steps_X6 0 rfl rfl 2 (by decide) (List.mem_of_getElem? (i := 1) rfl) rfl rfl dX6_steps_10 ?_
  refine lv_iconst (v := 1) hx hb dX6_steps_13 (by decide) ?_
  obtain ⟨g5, hm⟩ := gdo hm
  refine f_iald S hK hw.1 2 1 rfl rfl g5 dX6_steps_14 ?_
  refine lv_if_ne (tgt := 22) hx hb dX6_steps_15 (by decide) (fun c6 => ?_) (fun c6 => ?_)
  · replace hm := ineg hm c6
    refine lv_iload_n hx hb dX6_steps_22 rfl (lv_at hl 2 rfl) ?_
    refine lv_bipush (v := 8) hx hb dX6_steps_23 (by decide) ?_
    obtain ⟨g7, hm⟩ := gdo hm
    refine lv_idiv hx hb dX6_steps_25 g7 ?_
    refine lv_aload_n hx hb dX6_steps_26 rfl (lv_at hl 1 rfl) ?_
    refine f_get S hK hw.1 in_X6_steps_X6 0 rfl rfl 2 (by decide) (List.mem_of_getElem? (i := 1) rfl) rfl rfl dX6_steps_27 ?_
    refine lv_iconst (v := 1) hx hb dX6_steps_30 (by decide) ?_
    obtain ⟨g8, hm⟩ := gdo hm
    refine f_iald S hK hw.1 2 1 rfl rfl g8 dX6_steps_31 ?_
    obtain ⟨g9, hm⟩ := gdo hm
    refine lv_irem hx hb dX6_steps_32 g9 ?_
    obtain ⟨y10, e11, hm⟩ := ob hm
    refine f_name e11 ?_
    refine lv_istore_n (lv' := [(3, .int y10), (2, .int y3), (0, .ref a_md), (1, .int p0)]) hx hb dX6_steps_33 rfl hl (by decide) rfl (fun ls hl => ?_)
    refine lv_aload_n hx hb dX6_steps_34 rfl (lv_at hl 2 rfl) ?_
    refine lv_iload_n hx hb dX6_steps_35 rfl (lv_at hl 1 rfl) ?_
    obtain ⟨r12, h13, hm⟩ := ob hm
    refine k_rVi S hK hw.1 cal_X6_helpNow gX6_steps_X6_helpNow (c_X6_helpNow l D cC cI cJ a_md a_md_text a_md_told a_md_draft a_md_s a_md_past a_md_images a_md_seen a_md_asks a_md_brings a_md_uses a_md_days a_md_tries a_md_row a_md_first a_md_held md_typed md_known md_kept md_sights md_at md_many md_length md_set md_text md_told md_draft md_s md_past md_images md_seen md_asks md_brings md_uses md_days md_tries md_row md_first md_held y3 N r12 h13) ⟨⟨rfl, rfl⟩, Nat.le_of_ble_eq_true rfl, Nat.le_of_ble_eq_true rfl⟩ [0, 1, 2, 3, 4, 5, 6, 7, 8, 9, 10, 11, 12, 13, 14, 15] rfl 0 rfl rfl rfl hl.1 rfl (Nat.le_of_ble_eq_true rfl) dX6_steps_36 ⟨Nat.zero_le _, Nat.zero_le _⟩ ?_
    refine lv_if_lt (tgt := 50) hx hb dX6_steps_39 (by decide) (fun c14 => ?_) (fun c14 => ?_)
    · replace hm := ipos hm c14
      refine lv_aload_n hx hb dX6_steps_50 rfl (lv_at hl 2 rfl) ?_
      refine f_get S hK hw.1 in_X6_steps_X6 0 rfl rfl 2 (by decide) (List.mem_of_getElem? (i := 1) rfl) rfl rfl dX6_steps_51 ?_
      refine lv_iconst (v := 1) hx hb dX6_steps_54 (by decide) ?_
      obtain ⟨g15, hm⟩ := gdo hm
      refine f_iald S hK hw.1 2 1 rfl rfl g15 dX6_steps_55 ?_
      refine lv_if_le (tgt := 75) hx hb dX6_steps_56 (by decide) (fun c16 => ?_) (fun c16 => ?_)
      · replace hm := ipos hm c16
        refine lv_aload_n hx hb dX6_steps_75 rfl (lv_at hl 2 rfl) ?_
        obtain ⟨r17, h18, hm⟩ := ob hm
        refine k_rVi S hK hw.1 cal_X6_silent gX6_steps_X6_silent (c_X6_silent l D cC cI cJ a_md a_md_text a_md_told a_md_draft a_md_s a_md_past a_md_images a_md_seen a_md_asks a_md_brings a_md_uses a_md_days a_md_tries a_md_row a_md_first a_md_held md_typed md_known md_kept md_sights md_at md_many md_length md_set md_text md_told md_draft md_s md_past md_images md_seen md_asks md_brings md_uses md_days md_tries md_row md_first md_held r17 h18) ⟨⟨rfl, rfl⟩, Nat.le_of_ble_eq_true rfl, Nat.le_of_ble_eq_true rfl⟩ [0, 1, 2, 3, 4, 5, 6, 7, 8, 9, 10, 11, 12, 13, 14, 15] rfl 0 rfl rfl rfl hl.1 rfl (Nat.le_of_ble_eq_true rfl) dX6_steps_76 ⟨Nat.zero_le _, Nat.zero_le _⟩ ?_
        refine lv_iload_n hx hb dX6_steps_79 rfl (lv_at hl 1 rfl) ?_
        refine lv_ishr hx hb dX6_steps_80 ?_
        refine lv_iconst (v := 1) hx hb dX6_steps_81 (by decide) ?_
        refine lv_iand hx hb dX6_steps_82 ?_
        refine lv_iconst (v := 1) hx hb dX6_steps_83 (by decide) ?_
        refine lv_icmp_ne (tgt := 99) hx hb dX6_steps_84 (by decide) (fun c19 => ?_) (fun c19 => ?_)
        · replace hm := ineg hm c19
          obtain rfl := Option.some.inj hm
          exact e_WV S hr hlk hw hw.1 dX6_steps_99
        · replace hm := ipos hm c19
          refine lv_aload_n hx hb dX6_steps_87 rfl (lv_at hl 2 rfl) ?_
          refine f_get S hK hw.1 in_X6_steps_X6 0 rfl rfl 4 (by decide) (List.mem_of_getElem? (i := 2) rfl) rfl rfl dX6_steps_88 ?_
          refine lv_iconst (v := 0) hx hb dX6_steps_91 (by decide) ?_
          refine lv_dup2_11 hx hb dX6_steps_92 rfl rfl ?_
          obtain ⟨g20, hm⟩ := gdo hm
          refine f_iald S hK hw.1 4 1 rfl rfl g20 dX6_steps_93 ?_
          refine lv_iconst (v := 1) hx hb dX6_steps_94 (by decide) ?_
          refine lv_iload_n hx hb dX6_steps_95 rfl (lv_at hl 1 rfl) ?_
          refine lv_ishl hx hb dX6_steps_96 ?_
          refine lv_ior hx hb dX6_steps_97 ?_
          obtain ⟨y22, e23, hm⟩ := ob hm
          refine f_name e23 ?_
          obtain ⟨g21, hm⟩ := gdo hm
          refine f_iast S hK hw 4 1 rfl rfl g21 (ws1 := (wd_28 cC cI cJ a_md a_md_text md_typed a_md_told a_md_draft a_md_s a_md_past md_known a_md_images md_kept a_md_seen md_sights md_at a_md_asks a_md_brings a_md_uses a_md_days a_md_tries a_md_row md_many a_md_first md_length md_set a_md_held a_md_text md_text a_md_told md_told a_md_draft md_draft a_md_s (upd md_s ((0 : Int32)).toNatClampNeg y22) a_md_past md_past a_md_images md_images a_md_seen md_seen a_md_asks md_asks a_md_brings md_brings a_md_uses md_uses a_md_days md_days a_md_tries md_tries a_md_row md_row a_md_first md_first a_md_held md_held)) rfl dX6_steps_98 (fun H locs hw => ?_)
          obtain rfl := Option.some.inj hm
          exact e_WV S hr hlk hw hw.1 dX6_steps_99
      · replace hm := ineg hm c16
        refine lv_aload_n hx hb dX6_steps_59 rfl (lv_at hl 2 rfl) ?_
        refine lv_iload_n hx hb dX6_steps_60 rfl (lv_at hl 0 rfl) ?_
        obtain ⟨r24, h25, hm⟩ := ob hm
        refine k_rVi S hK hw.1 cal_X6_canBefriend gX6_steps_X6_canBefriend (c_X6_canBefriend l D cC cI cJ a_md a_md_text a_md_told a_md_draft a_md_s a_md_past a_md_images a_md_seen a_md_asks a_md_brings a_md_uses a_md_days a_md_tries a_md_row a_md_first a_md_held md_typed md_known md_kept md_sights md_at md_many md_length md_set md_text md_told md_draft md_s md_past md_images md_seen md_asks md_brings md_uses md_days md_tries md_row md_first md_held y10 r24 h25) ⟨⟨rfl, rfl⟩, Nat.le_of_ble_eq_true rfl, Nat.le_of_ble_eq_true rfl⟩ [0, 1, 2, 3, 4, 5, 6, 7, 8, 9, 10, 11, 12, 13, 14, 15] rfl 0 rfl rfl rfl hl.1 rfl (Nat.le_of_ble_eq_true rfl) dX6_steps_61 ⟨Nat.zero_le _, Nat.zero_le _⟩ ?_
        refine lv_if_eq (tgt := 75) hx hb dX6_steps_64 (by decide) (fun c26 => ?_) (fun c26 => ?_)
        · replace hm := ipos hm c26
          refine lv_aload_n hx hb dX6_steps_75 rfl (lv_at hl 2 rfl) ?_
          obtain ⟨r27, h28, hm⟩ := ob hm
          refine k_rVi S hK hw.1 cal_X6_silent gX6_steps_X6_silent (c_X6_silent l D cC cI cJ a_md a_md_text a_md_told a_md_draft a_md_s a_md_past a_md_images a_md_seen a_md_asks a_md_brings a_md_uses a_md_days a_md_tries a_md_row a_md_first a_md_held md_typed md_known md_kept md_sights md_at md_many md_length md_set md_text md_told md_draft md_s md_past md_images md_seen md_asks md_brings md_uses md_days md_tries md_row md_first md_held r27 h28) ⟨⟨rfl, rfl⟩, Nat.le_of_ble_eq_true rfl, Nat.le_of_ble_eq_true rfl⟩ [0, 1, 2, 3, 4, 5, 6, 7, 8, 9, 10, 11, 12, 13, 14, 15] rfl 0 rfl rfl rfl hl.1 rfl (Nat.le_of_ble_eq_true rfl) dX6_steps_76 ⟨Nat.zero_le _, Nat.zero_le _⟩ ?_
          refine lv_iload_n hx hb dX6_steps_79 rfl (lv_at hl 1 rfl) ?_
          refine lv_ishr hx hb dX6_steps_80 ?_
          refine lv_iconst (v := 1) hx hb dX6_steps_81 (by decide) ?_
          refine lv_iand hx hb dX6_steps_82 ?_
          refine lv_iconst (v := 1) hx hb dX6_steps_83 (by decide) ?_
          refine lv_icmp_ne (tgt := 99) hx hb dX6_steps_84 (by decide) (fun c29 => ?_) (fun c29 => ?_)
          · replace hm := ineg hm c29
            obtain rfl := Option.some.inj hm
            exact e_WV S hr hlk hw hw.1 dX6_steps_99
          · replace hm := ipos hm c29
            refine lv_aload_n hx hb dX6_steps_87 rfl (lv_at hl 2 rfl) ?_
            refine f_get S hK hw.1 in_X6_steps_X6 0 rfl rfl 4 (by decide) (List.mem_of_getElem? (i := 2) rfl) rfl rfl dX6_steps_88 ?_
            refine lv_iconst (v := 0) hx hb dX6_steps_91 (by decide) ?_
            refine lv_dup2_11 hx hb dX6_steps_92 rfl rfl ?_
            obtain ⟨g30, hm⟩ := gdo hm
            refine f_iald S hK hw.1 4 1 rfl rfl g30 dX6_steps_93 ?_
            refine lv_iconst (v := 1) hx hb dX6_steps_94 (by decide) ?_
            refine lv_iload_n hx hb dX6_steps_95 rfl (lv_at hl 1 rfl) ?_
            refine lv_ishl hx hb dX6_steps_96 ?_
            refine lv_ior hx hb dX6_steps_97 ?_
            obtain ⟨y32, e33, hm⟩ := ob hm
            refine f_name e33 ?_
            obtain ⟨g31, hm⟩ := gdo hm
            refine f_iast S hK hw 4 1 rfl rfl g31 (ws1 := (wd_28 cC cI cJ a_md a_md_text md_typed a_md_told a_md_draft a_md_s a_md_past md_known a_md_images md_kept a_md_seen md_sights md_at a_md_asks a_md_brings a_md_uses a_md_days a_md_tries a_md_row md_many a_md_first md_length md_set a_md_held a_md_text md_text a_md_told md_told a_md_draft md_draft a_md_s (upd md_s ((0 : Int32)).toNatClampNeg y32) a_md_past md_past a_md_images md_images a_md_seen md_seen a_md_asks md_asks a_md_brings md_brings a_md_uses md_uses a_md_days md_days a_md_tries md_tries a_md_row md_row a_md_first md_first a_md_held md_held)) rfl dX6_steps_98 (fun H locs hw => ?_)
            obtain rfl := Option.some.inj hm
            exact e_WV S hr hlk hw hw.1 dX6_steps_99
        · replace hm := ineg hm c26
          refine lv_aload_n hx hb dX6_steps_67 rfl (lv_at hl 2 rfl) ?_
          refine lv_iload_n hx hb dX6_steps_68 rfl (lv_at hl 0 rfl) ?_
          obtain ⟨r34, h35, hm⟩ := ob hm
          refine k_wVv S hK hw cal_X6_befriends gX6_steps_X6_befriends (c_X6_befriends l D cC cI cJ a_md a_md_text a_md_told a_md_draft a_md_s a_md_past a_md_images a_md_seen a_md_asks a_md_brings a_md_uses a_md_days a_md_tries a_md_row a_md_first a_md_held md_typed md_known md_kept md_sights md_at md_many md_length md_set md_text md_told md_draft md_s md_past md_images md_seen md_asks md_brings md_uses md_days md_tries md_row md_first md_held y10 (aw _) (hw.own [0, 1, 2, 3, 4, 5, 6, 7, 8, 9, 10, 11, 12, 13, 14, 15] (by decide) rfl) r34 h35) ⟨⟨rfl, rfl⟩, Nat.le_of_ble_eq_true rfl, Nat.le_of_ble_eq_true rfl⟩ [0, 1, 2, 3, 4, 5, 6, 7, 8, 9, 10, 11, 12, 13, 14, 15] rfl 0 rfl rfl rfl hl.1 rfl (Nat.le_of_ble_eq_true rfl) dX6_steps_69 ⟨Nat.zero_le _, Nat.zero_le _⟩ (fun H locs hJ hB => ?_)
          have hw := hJ _ hB rfl
          replace hw : Wd D A _ (wd_28 cC cI cJ a_md a_md_text md_typed a_md_told a_md_draft a_md_s a_md_past md_known a_md_images md_kept a_md_seen md_sights md_at a_md_asks a_md_brings a_md_uses a_md_days a_md_tries a_md_row md_many a_md_first md_length md_set a_md_held a_md_text md_text a_md_told md_told a_md_draft md_draft a_md_s r34 a_md_past md_past a_md_images md_images a_md_seen md_seen a_md_asks md_asks a_md_brings md_brings a_md_uses md_uses a_md_days md_days a_md_tries md_tries a_md_row md_row a_md_first md_first a_md_held md_held) H locs := hw
          refine lv_goto (tgt := 99) hx hb dX6_steps_72 (by decide) ?_
          obtain rfl := Option.some.inj hm
          exact e_WV S hr hlk hw hw.1 dX6_steps_99
    · replace hm := ineg hm c14
      refine lv_aload_n hx hb dX6_steps_42 rfl (lv_at hl 2 rfl) ?_
      refine lv_iload_n hx hb dX6_steps_43 rfl (lv_at hl 1 rfl) ?_
      obtain ⟨r36, h37, hm⟩ := ob hm
      refine k_wVv S hK hw cal_X6_rides gX6_steps_X6_rides (c_X6_rides l D cC cI cJ a_md a_md_text a_md_told a_md_draft a_md_s a_md_past a_md_images a_md_seen a_md_asks a_md_brings a_md_uses a_md_days a_md_tries a_md_row a_md_first a_md_held md_typed md_known md_kept md_sights md_at md_many md_length md_set md_text md_told md_draft md_s md_past md_images md_seen md_asks md_brings md_uses md_days md_tries md_row md_first md_held y3 N (aw _) (hw.own [0, 1, 2, 3, 4, 5, 6, 7, 8, 9, 10, 11, 12, 13, 14, 15] (by decide) rfl) r36 h37) ⟨⟨rfl, rfl⟩, Nat.le_of_ble_eq_true rfl, Nat.le_of_ble_eq_true rfl⟩ [0, 1, 2, 3, 4, 5, 6, 7, 8, 9, 10, 11, 12, 13, 14, 15] rfl 0 rfl rfl rfl hl.1 rfl (Nat.le_of_ble_eq_true rfl) dX6_steps_44 ⟨Nat.zero_le _, Nat.zero_le _⟩ (fun H locs hJ hB => ?_)
      have hw := hJ _ hB rfl
      replace hw : Wd D A _ (wd_28 cC cI cJ a_md a_md_text md_typed a_md_told a_md_draft a_md_s a_md_past md_known a_md_images md_kept a_md_seen md_sights md_at a_md_asks a_md_brings a_md_uses a_md_days a_md_tries a_md_row md_many a_md_first md_length md_set a_md_held a_md_text md_text a_md_told md_told a_md_draft md_draft a_md_s r36 a_md_past md_past a_md_images md_images a_md_seen md_seen a_md_asks md_asks a_md_brings md_brings a_md_uses md_uses a_md_days md_days a_md_tries md_tries a_md_row md_row a_md_first md_first a_md_held md_held) H locs := hw
      refine lv_goto (tgt := 99) hx hb dX6_steps_47 (by decide) ?_
      obtain rfl := Option.some.inj hm
      exact e_WV S hr hlk hw hw.1 dX6_steps_99
  · replace hm := ipos hm c6
    refine lv_iconst (v := 0) hx hb dX6_steps_18 (by decide) ?_
    refine lv_goto (tgt := 33) hx hb dX6_steps_19 (by decide) ?_
    refine lv_istore_n (lv' := [(3, .int (0 : Int32)), (2, .int y3), (0, .ref a_md), (1, .int p0)]) hx hb dX6_steps_33 rfl hl (by decide) rfl (fun ls hl => ?_)
    refine lv_aload_n hx hb dX6_steps_34 rfl (lv_at hl 2 rfl) ?_
    refine lv_iload_n hx hb dX6_steps_35 rfl (lv_at hl 1 rfl) ?_
    obtain ⟨r38, h39, hm⟩ := ob hm
    refine k_rVi S hK hw.1 cal_X6_helpNow gX6_steps_X6_helpNow (c_X6_helpNow l D cC cI cJ a_md a_md_text a_md_told a_md_draft a_md_s a_md_past a_md_images a_md_seen a_md_asks a_md_brings a_md_uses a_md_days a_md_tries a_md_row a_md_first a_md_held md_typed md_known md_kept md_sights md_at md_many md_length md_set md_text md_told md_draft md_s md_past md_images md_seen md_asks md_brings md_uses md_days md_tries md_row md_first md_held y3 N r38 h39) ⟨⟨rfl, rfl⟩, Nat.le_of_ble_eq_true rfl, Nat.le_of_ble_eq_true rfl⟩ [0, 1, 2, 3, 4, 5, 6, 7, 8, 9, 10, 11, 12, 13, 14, 15] rfl 0 rfl rfl rfl hl.1 rfl (Nat.le_of_ble_eq_true rfl) dX6_steps_36 ⟨Nat.zero_le _, Nat.zero_le _⟩ ?_
    refine lv_if_lt (tgt := 50) hx hb dX6_steps_39 (by decide) (fun c40 => ?_) (fun c40 => ?_)
    · replace hm := ipos hm c40
      refine lv_aload_n hx hb dX6_steps_50 rfl (lv_at hl 2 rfl) ?_
      refine f_get S hK hw.1 in_X6_steps_X6 0 rfl rfl 2 (by decide) (List.mem_of_getElem? (i := 1) rfl) rfl rfl dX6_steps_51 ?_
      refine lv_iconst (v := 1) hx hb dX6_steps_54 (by decide) ?_
      obtain ⟨g41, hm⟩ := gdo hm
      refine f_iald S hK hw.1 2 1 rfl rfl g41 dX6_steps_55 ?_
      refine lv_if_le (tgt := 75) hx hb dX6_steps_56 (by decide) (fun c42 => ?_) (fun c42 => ?_)
      · replace hm := ipos hm c42
        refine lv_aload_n hx hb dX6_steps_75 rfl (lv_at hl 2 rfl) ?_
        obtain ⟨r43, h44, hm⟩ := ob hm
        refine k_rVi S hK hw.1 cal_X6_silent gX6_steps_X6_silent (c_X6_silent l D cC cI cJ a_md a_md_text a_md_told a_md_draft a_md_s a_md_past a_md_images a_md_seen a_md_asks a_md_brings a_md_uses a_md_days a_md_tries a_md_row a_md_first a_md_held md_typed md_known md_kept md_sights md_at md_many md_length md_set md_text md_told md_draft md_s md_past md_images md_seen md_asks md_brings md_uses md_days md_tries md_row md_first md_held r43 h44) ⟨⟨rfl, rfl⟩, Nat.le_of_ble_eq_true rfl, Nat.le_of_ble_eq_true rfl⟩ [0, 1, 2, 3, 4, 5, 6, 7, 8, 9, 10, 11, 12, 13, 14, 15] rfl 0 rfl rfl rfl hl.1 rfl (Nat.le_of_ble_eq_true rfl) dX6_steps_76 ⟨Nat.zero_le _, Nat.zero_le _⟩ ?_
        refine lv_iload_n hx hb dX6_steps_79 rfl (lv_at hl 1 rfl) ?_
        refine lv_ishr hx hb dX6_steps_80 ?_
        refine lv_iconst (v := 1) hx hb dX6_steps_81 (by decide) ?_
        refine lv_iand hx hb dX6_steps_82 ?_
        refine lv_iconst (v := 1) hx hb dX6_steps_83 (by decide) ?_
        refine lv_icmp_ne (tgt := 99) hx hb dX6_steps_84 (by decide) (fun c45 => ?_) (fun c45 => ?_)
        · replace hm := ineg hm c45
          obtain rfl := Option.some.inj hm
          exact e_WV S hr hlk hw hw.1 dX6_steps_99
        · replace hm := ipos hm c45
          refine lv_aload_n hx hb dX6_steps_87 rfl (lv_at hl 2 rfl) ?_
          refine f_get S hK hw.1 in_X6_steps_X6 0 rfl rfl 4 (by decide) (List.mem_of_getElem? (i := 2) rfl) rfl rfl dX6_steps_88 ?_
          refine lv_iconst (v := 0) hx hb dX6_steps_91 (by decide) ?_
          refine lv_dup2_11 hx hb dX6_steps_92 rfl rfl ?_
          obtain ⟨g46, hm⟩ := gdo hm
          refine f_iald S hK hw.1 4 1 rfl rfl g46 dX6_steps_93 ?_
          refine lv_iconst (v := 1) hx hb dX6_steps_94 (by decide) ?_
          refine lv_iload_n hx hb dX6_steps_95 rfl (lv_at hl 1 rfl) ?_
          refine lv_ishl hx hb dX6_steps_96 ?_
          refine lv_ior hx hb dX6_steps_97 ?_
          obtain ⟨y48, e49, hm⟩ := ob hm
          refine f_name e49 ?_
          obtain ⟨g47, hm⟩ := gdo hm
          refine f_iast S hK hw 4 1 rfl rfl g47 (ws1 := (wd_28 cC cI cJ a_md a_md_text md_typed a_md_told a_md_draft a_md_s a_md_past md_known a_md_images md_kept a_md_seen md_sights md_at a_md_asks a_md_brings a_md_uses a_md_days a_md_tries a_md_row md_many a_md_first md_length md_set a_md_held a_md_text md_text a_md_told md_told a_md_draft md_draft a_md_s (upd md_s ((0 : Int32)).toNatClampNeg y48) a_md_past md_past a_md_images md_images a_md_seen md_seen a_md_asks md_asks a_md_brings md_brings a_md_uses md_uses a_md_days md_days a_md_tries md_tries a_md_row md_row a_md_first md_first a_md_held md_held)) rfl dX6_steps_98 (fun H locs hw => ?_)
          obtain rfl := Option.some.inj hm
          exact e_WV S hr hlk hw hw.1 dX6_steps_99
      · replace hm := ineg hm c42
        refine lv_aload_n hx hb dX6_steps_59 rfl (lv_at hl 2 rfl) ?_
        refine lv_iload_n hx hb dX6_steps_60 rfl (lv_at hl 0 rfl) ?_
        obtain ⟨r50, h51, hm⟩ := ob hm
        refine k_rVi S hK hw.1 cal_X6_canBefriend gX6_steps_X6_canBefriend (c_X6_canBefriend l D cC cI cJ a_md a_md_text a_md_told a_md_draft a_md_s a_md_past a_md_images a_md_seen a_md_asks a_md_brings a_md_uses a_md_days a_md_tries a_md_row a_md_first a_md_held md_typed md_known md_kept md_sights md_at md_many md_length md_set md_text md_told md_draft md_s md_past md_images md_seen md_asks md_brings md_uses md_days md_tries md_row md_first md_held (0 : Int32) r50 h51) ⟨⟨rfl, rfl⟩, Nat.le_of_ble_eq_true rfl, Nat.le_of_ble_eq_true rfl⟩ [0, 1, 2, 3, 4, 5, 6, 7, 8, 9, 10, 11, 12, 13, 14, 15] rfl 0 rfl rfl rfl hl.1 rfl (Nat.le_of_ble_eq_true rfl) dX6_steps_61 ⟨Nat.zero_le _, Nat.zero_le _⟩ ?_
        refine lv_if_eq (tgt := 75) hx hb dX6_steps_64 (by decide) (fun c52 => ?_) (fun c52 => ?_)
        · replace hm := ipos hm c52
          refine lv_aload_n hx hb dX6_steps_75 rfl (lv_at hl 2 rfl) ?_
          obtain ⟨r53, h54, hm⟩ := ob hm
          refine k_rVi S hK hw.1 cal_X6_silent gX6_steps_X6_silent (c_X6_silent l D cC cI cJ a_md a_md_text a_md_told a_md_draft a_md_s a_md_past a_md_images a_md_seen a_md_asks a_md_brings a_md_uses a_md_days a_md_tries a_md_row a_md_first a_md_held md_typed md_known md_kept md_sights md_at md_many md_length md_set md_text md_told md_draft md_s md_past md_images md_seen md_asks md_brings md_uses md_days md_tries md_row md_first md_held r53 h54) ⟨⟨rfl, rfl⟩, Nat.le_of_ble_eq_true rfl, Nat.le_of_ble_eq_true rfl⟩ [0, 1, 2, 3, 4, 5, 6, 7, 8, 9, 10, 11, 12, 13, 14, 15] rfl 0 rfl rfl rfl hl.1 rfl (Nat.le_of_ble_eq_true rfl) dX6_steps_76 ⟨Nat.zero_le _, Nat.zero_le _⟩ ?_
          refine lv_iload_n hx hb dX6_steps_79 rfl (lv_at hl 1 rfl) ?_
          refine lv_ishr hx hb dX6_steps_80 ?_
          refine lv_iconst (v := 1) hx hb dX6_steps_81 (by decide) ?_
          refine lv_iand hx hb dX6_steps_82 ?_
          refine lv_iconst (v := 1) hx hb dX6_steps_83 (by decide) ?_
          refine lv_icmp_ne (tgt := 99) hx hb dX6_steps_84 (by decide) (fun c55 => ?_) (fun c55 => ?_)
          · replace hm := ineg hm c55
            obtain rfl := Option.some.inj hm
            exact e_WV S hr hlk hw hw.1 dX6_steps_99
          · replace hm := ipos hm c55
            refine lv_aload_n hx hb dX6_steps_87 rfl (lv_at hl 2 rfl) ?_
            refine f_get S hK hw.1 in_X6_steps_X6 0 rfl rfl 4 (by decide) (List.mem_of_getElem? (i := 2) rfl) rfl rfl dX6_steps_88 ?_
            refine lv_iconst (v := 0) hx hb dX6_steps_91 (by decide) ?_
            refine lv_dup2_11 hx hb dX6_steps_92 rfl rfl ?_
            obtain ⟨g56, hm⟩ := gdo hm
            refine f_iald S hK hw.1 4 1 rfl rfl g56 dX6_steps_93 ?_
            refine lv_iconst (v := 1) hx hb dX6_steps_94 (by decide) ?_
            refine lv_iload_n hx hb dX6_steps_95 rfl (lv_at hl 1 rfl) ?_
            refine lv_ishl hx hb dX6_steps_96 ?_
            refine lv_ior hx hb dX6_steps_97 ?_
            obtain ⟨y58, e59, hm⟩ := ob hm
            refine f_name e59 ?_
            obtain ⟨g57, hm⟩ := gdo hm
            refine f_iast S hK hw 4 1 rfl rfl g57 (ws1 := (wd_28 cC cI cJ a_md a_md_text md_typed a_md_told a_md_draft a_md_s a_md_past md_known a_md_images md_kept a_md_seen md_sights md_at a_md_asks a_md_brings a_md_uses a_md_days a_md_tries a_md_row md_many a_md_first md_length md_set a_md_held a_md_text md_text a_md_told md_told a_md_draft md_draft a_md_s (upd md_s ((0 : Int32)).toNatClampNeg y58) a_md_past md_past a_md_images md_images a_md_seen md_seen a_md_asks md_asks a_md_brings md_brings a_md_uses md_uses a_md_days md_days a_md_tries md_tries a_md_row md_row a_md_first md_first a_md_held md_held)) rfl dX6_steps_98 (fun H locs hw => ?_)
            obtain rfl := Option.some.inj hm
            exact e_WV S hr hlk hw hw.1 dX6_steps_99
        · replace hm := ineg hm c52
          refine lv_aload_n hx hb dX6_steps_67 rfl (lv_at hl 2 rfl) ?_
          refine lv_iload_n hx hb dX6_steps_68 rfl (lv_at hl 0 rfl) ?_
          obtain ⟨r60, h61, hm⟩ := ob hm
          refine k_wVv S hK hw cal_X6_befriends gX6_steps_X6_befriends (c_X6_befriends l D cC cI cJ a_md a_md_text a_md_told a_md_draft a_md_s a_md_past a_md_images a_md_seen a_md_asks a_md_brings a_md_uses a_md_days a_md_tries a_md_row a_md_first a_md_held md_typed md_known md_kept md_sights md_at md_many md_length md_set md_text md_told md_draft md_s md_past md_images md_seen md_asks md_brings md_uses md_days md_tries md_row md_first md_held (0 : Int32) (aw _) (hw.own [0, 1, 2, 3, 4, 5, 6, 7, 8, 9, 10, 11, 12, 13, 14, 15] (by decide) rfl) r60 h61) ⟨⟨rfl, rfl⟩, Nat.le_of_ble_eq_true rfl, Nat.le_of_ble_eq_true rfl⟩ [0, 1, 2, 3, 4, 5, 6, 7, 8, 9, 10, 11, 12, 13, 14, 15] rfl 0 rfl rfl rfl hl.1 rfl (Nat.le_of_ble_eq_true rfl) dX6_steps_69 ⟨Nat.zero_le _, Nat.zero_le _⟩ (fun H locs hJ hB => ?_)
          have hw := hJ _ hB rfl
          replace hw : Wd D A _ (wd_28 cC cI cJ a_md a_md_text md_typed a_md_told a_md_draft a_md_s a_md_past md_known a_md_images md_kept a_md_seen md_sights md_at a_md_asks a_md_brings a_md_uses a_md_days a_md_tries a_md_row md_many a_md_first md_length md_set a_md_held a_md_text md_text a_md_told md_told a_md_draft md_draft a_md_s r60 a_md_past md_past a_md_images md_images a_md_seen md_seen a_md_asks md_asks a_md_brings md_brings a_md_uses md_uses a_md_days md_days a_md_tries md_tries a_md_row md_row a_md_first md_first a_md_held md_held) H locs := hw
          refine lv_goto (tgt := 99) hx hb dX6_steps_72 (by decide) ?_
          obtain rfl := Option.some.inj hm
          exact e_WV S hr hlk hw hw.1 dX6_steps_99
    · replace hm := ineg hm c40
      refine lv_aload_n hx hb dX6_steps_42 rfl (lv_at hl 2 rfl) ?_
      refine lv_iload_n hx hb dX6_steps_43 rfl (lv_at hl 1 rfl) ?_
      obtain ⟨r62, h63, hm⟩ := ob hm
      refine k_wVv S hK hw cal_X6_rides gX6_steps_X6_rides (c_X6_rides l D cC cI cJ a_md a_md_text a_md_told a_md_draft a_md_s a_md_past a_md_images a_md_seen a_md_asks a_md_brings a_md_uses a_md_days a_md_tries a_md_row a_md_first a_md_held md_typed md_known md_kept md_sights md_at md_many md_length md_set md_text md_told md_draft md_s md_past md_images md_seen md_asks md_brings md_uses md_days md_tries md_row md_first md_held y3 N (aw _) (hw.own [0, 1, 2, 3, 4, 5, 6, 7, 8, 9, 10, 11, 12, 13, 14, 15] (by decide) rfl) r62 h63) ⟨⟨rfl, rfl⟩, Nat.le_of_ble_eq_true rfl, Nat.le_of_ble_eq_true rfl⟩ [0, 1, 2, 3, 4, 5, 6, 7, 8, 9, 10, 11, 12, 13, 14, 15] rfl 0 rfl rfl rfl hl.1 rfl (Nat.le_of_ble_eq_true rfl) dX6_steps_44 ⟨Nat.zero_le _, Nat.zero_le _⟩ (fun H locs hJ hB => ?_)
      have hw := hJ _ hB rfl
      replace hw : Wd D A _ (wd_28 cC cI cJ a_md a_md_text md_typed a_md_told a_md_draft a_md_s a_md_past md_known a_md_images md_kept a_md_seen md_sights md_at a_md_asks a_md_brings a_md_uses a_md_days a_md_tries a_md_row md_many a_md_first md_length md_set a_md_held a_md_text md_text a_md_told md_told a_md_draft md_draft a_md_s r62 a_md_past md_past a_md_images md_images a_md_seen md_seen a_md_asks md_asks a_md_brings md_brings a_md_uses md_uses a_md_days md_days a_md_tries md_tries a_md_row md_row a_md_first md_first a_md_held md_held) H locs := hw
      refine lv_goto (tgt := 99) hx hb dX6_steps_47 (by decide) ?_
      obtain rfl := Option.some.inj hm
      exact e_WV S hr hlk hw hw.1 dX6_steps_99

abbrev rX6_king : Room := { frames := 5, cells := 0, slots := 0, locals := 116 }
theorem cal_X6_king : Cal yX6_king wsX6_king cX6_king 7 (some .int) RX6 3 := ⟨⟨_, rfl⟩, rfl, by decide +kernel, by decide +kernel, by decide +kernel⟩
theorem in_X6_king_X6 : ∀ w ∈ wsX60, w ∈ wsX6_king := fun _ h => (List.mem_cons_of_mem _ (List.mem_append_right _ h))
set_option maxHeartbeats 4000000 in
set_option maxRecDepth 100000 in
theorem t_X6_king_35 {p : Program} {e : Env} {s : State} {m : MethodId} {args : Array Value} {below : List Frame} {meth : Method} {c : Code} {Q : State → Prop} (l : Launch) {D : va_G} {cC cI cJ : ClassId} {A : Nat → Prop} {H0 : Heap} (S : CallFix p m c cX6_king 7 s args wsX6_king RX6) (hK : KK D (tyK cC cI cJ) s) (a_md : Nat) (a_md_text : Nat) (a_md_told : Nat) (a_md_draft : Nat) (a_md_s : Nat) (a_md_past : Nat) (a_md_images : Nat) (a_md_seen : Nat) (a_md_asks : Nat) (a_md_brings : Nat) (a_md_uses : Nat) (a_md_days : Nat) (a_md_tries : Nat) (a_md_row : Nat) (a_md_first : Nat) (a_md_held : Nat) (v1 : Int32) (v2 : Int32) (v3 : Int32) (md_typed : Int32) (md_known : Int32) (md_kept : Int32) (md_sights : Int32) (md_at : Int32) (md_many : Int32) (md_length : Int32) (md_set : Int32) (md_text : (Nat → Int32)) (md_told : (Nat → Int32)) (md_draft : (Nat → Int32)) (md_s : (Nat → Int32)) (md_past : (Nat → Int32)) (md_images : (Nat → Int32)) (md_seen : (Nat → Int32)) (md_asks : (Nat → Int32)) (md_brings : (Nat → Int32)) (md_uses : (Nat → Int32)) (md_days : (Nat → Int32)) (md_tries : (Nat → Int32)) (md_row : (Nat → Int32)) (md_first : (Nat → Int32)) : ∀ (n : Nat) (v4 : Int32) (md_held : (Nat → Int32)) (out : (Nat → Int32)), lp_X6_king_35 md_s n v4 md_held = some out → ∀ (H : Heap) (locs : List Loc) (ls : Array Slot), Wd D A H0 (wd_28 cC cI cJ a_md a_md_text md_typed a_md_told a_md_draft a_md_s a_md_past md_known a_md_images md_kept a_md_seen md_sights md_at a_md_asks a_md_brings a_md_uses a_md_days a_md_tries a_md_row md_many a_md_first md_length md_set a_md_held a_md_text md_text a_md_told md_told a_md_draft md_draft a_md_s md_s a_md_past md_past a_md_images md_images a_md_seen md_seen a_md_asks md_asks a_md_brings md_brings a_md_uses md_uses a_md_days md_days a_md_tries md_tries a_md_row md_row a_md_first md_first a_md_held md_held) H locs → lv_has ls 7 [(0, .ref a_md), (1, .int v1), (2, .int v2), (3, .int v3), (4, .int v4)] → (∀ (H : Heap) (locs : List Loc) (ls : Array Slot), Wd D A H0 (wd_28 cC cI cJ a_md a_md_text md_typed a_md_told a_md_draft a_md_s a_md_past md_known a_md_images md_kept a_md_seen md_sights md_at a_md_asks a_md_brings a_md_uses a_md_days a_md_tries a_md_row md_many a_md_first md_length md_set a_md_held a_md_text md_text a_md_told md_told a_md_draft md_draft a_md_s md_s a_md_past md_past a_md_images md_images a_md_seen md_seen a_md_asks md_asks a_md_brings md_brings a_md_uses md_uses a_md_days md_days a_md_tries md_tries a_md_row md_row a_md_first md_first a_md_held out) H locs → lv_has ls 7 [(0, .ref a_md), (1, .int v1), (2, .int v2), (3, .int v3)] → W p l e rX6_king s m args below meth c H locs 0 0 Q (F0 m 62 ls [])) → W p l e rX6_king s m args below meth c H locs 0 0 Q (F0 m 35 ls []) := by
  have hx := S.1
  have hb := S.2.1
  intro n
  induction n with
  | zero => intro v4 md_held out hm; cases (show (none : Option (Nat → Int32)) = some out from hm)
  | succ n ih =>
    intro v4 md_held out hm  H locs ls hw hl K0
    rw [lp_X6_king_35] at hm
    refine lv_iload hx hb dX6_king_35 (lv_at hl 4 rfl) ?_
    refine lv_bipush (v := 6) hx hb dX6_king_37 (by decide) ?_
    refine lv_icmp_ge (tgt := 62) hx hb dX6_king_39 (by decide) (fun c10 => ?_) (fun c10 => ?_)
    · replace hm := ipos hm c10
      obtain rfl := Option.some.inj hm
      exact K0  _ _ ls hw (lv_sub hl [0, 1, 2, 3] rfl)
    · replace hm := ineg hm c10
      refine lv_aload_n hx hb dX6_king_42 rfl (lv_at hl 0 rfl) ?_
      refine f_get S hK hw.1 in_X6_king_X6 0 rfl rfl 22 (by decide) (List.mem_of_getElem? (i := 1) rfl) rfl rfl dX6_king_43 ?_
      refine lv_iload hx hb dX6_king_46 (lv_at hl 4 rfl) ?_
      refine lv_aload_n hx hb dX6_king_48 rfl (lv_at hl 0 rfl) ?_
      refine f_get S hK hw.1 in_X6_king_X6 0 rfl rfl 4 (by decide) (List.mem_of_getElem? (i := 2) rfl) rfl rfl dX6_king_49 ?_
      refine lv_iload hx hb dX6_king_52 (lv_at hl 4 rfl) ?_
      obtain ⟨g11, hm⟩ := gdo hm
      refine f_iald S hK hw.1 4 1 rfl rfl g11 dX6_king_54 ?_
      obtain ⟨g12, hm⟩ := gdo hm
      refine f_iast S hK hw 15 1 rfl rfl g12 (ws1 := (wd_28 cC cI cJ a_md a_md_text md_typed a_md_told a_md_draft a_md_s a_md_past md_known a_md_images md_kept a_md_seen md_sights md_at a_md_asks a_md_brings a_md_uses a_md_days a_md_tries a_md_row md_many a_md_first md_length md_set a_md_held a_md_text md_text a_md_told md_told a_md_draft md_draft a_md_s md_s a_md_past md_past a_md_images md_images a_md_seen md_seen a_md_asks md_asks a_md_brings md_brings a_md_uses md_uses a_md_days md_days a_md_tries md_tries a_md_row md_row a_md_first md_first a_md_held (upd md_held (v4).toNatClampNeg (md_s (v4).toNatClampNeg)))) rfl dX6_king_55 (fun H locs hw => ?_)
      refine lv_iinc (v := (v4 + 1)) (lv' := [(4, .int (v4 + 1)), (0, .ref a_md), (1, .int v1), (2, .int v2), (3, .int v3)]) hx hb dX6_king_56 hl (k := 4) rfl (by rw [ofi_1]) (by decide) rfl (fun ls hl => ?_)
      refine lv_goto (tgt := 35) hx hb dX6_king_59 (by decide) ?_
      exact ih (v4 + 1) (upd md_held (v4).toNatClampNeg (md_s (v4).toNatClampNeg)) _ hm  _ _ ls hw (lv_sub hl [1, 2, 3, 4, 0] rfl) K0
set_option maxHeartbeats 4000000 in
set_option maxRecDepth 100000 in
theorem t_X6_king_65 {p : Program} {e : Env} {s : State} {m : MethodId} {args : Array Value} {below : List Frame} {meth : Method} {c : Code} {Q : State → Prop} (l : Launch) {D : va_G} {cC cI cJ : ClassId} {A : Nat → Prop} {H0 : Heap} (S : CallFix p m c cX6_king 7 s args wsX6_king RX6) (hK : KK D (tyK cC cI cJ) s) (a_md : Nat) (a_md_text : Nat) (a_md_told : Nat) (a_md_draft : Nat) (a_md_s : Nat) (a_md_past : Nat) (a_md_images : Nat) (a_md_seen : Nat) (a_md_asks : Nat) (a_md_brings : Nat) (a_md_uses : Nat) (a_md_days : Nat) (a_md_tries : Nat) (a_md_row : Nat) (a_md_first : Nat) (a_md_held : Nat) (N : Nat) (v1 : Int32) (v2 : Int32) (v3 : Int32) (md_typed : Int32) (md_known : Int32) (md_kept : Int32) (md_sights : Int32) (md_at : Int32) (md_many : Int32) (md_length : Int32) (md_set : Int32) (md_text : (Nat → Int32)) (md_told : (Nat → Int32)) (md_draft : (Nat → Int32)) (md_past : (Nat → Int32)) (md_images : (Nat → Int32)) (md_seen : (Nat → Int32)) (md_asks : (Nat → Int32)) (md_brings : (Nat → Int32)) (md_uses : (Nat → Int32)) (md_days : (Nat → Int32)) (md_tries : (Nat → Int32)) (md_row : (Nat → Int32)) (md_first : (Nat → Int32)) (md_held : (Nat → Int32)) : ∀ (n : Nat) (v4 : Int32) (md_s : (Nat → Int32)) (out : (Nat → Int32)), lp_X6_king_65 N v1 v2 md_told n v4 md_s = some out → ∀ (H : Heap) (locs : List Loc) (ls : Array Slot), Wd D A H0 (wd_28 cC cI cJ a_md a_md_text md_typed a_md_told a_md_draft a_md_s a_md_past md_known a_md_images md_kept a_md_seen md_sights md_at a_md_asks a_md_brings a_md_uses a_md_days a_md_tries a_md_row md_many a_md_first md_length md_set a_md_held a_md_text md_text a_md_told md_told a_md_draft md_draft a_md_s md_s a_md_past md_past a_md_images md_images a_md_seen md_seen a_md_asks md_asks a_md_brings md_brings a_md_uses md_uses a_md_days md_days a_md_tries md_tries a_md_row md_row a_md_first md_first a_md_held md_held) H locs → lv_has ls 7 [(0, .ref a_md), (1, .int v1), (2, .int v2), (3, .int v3), (4, .int v4)] → (∀ (H : Heap) (locs : List Loc) (ls : Array Slot), Wd D A H0 (wd_28 cC cI cJ a_md a_md_text md_typed a_md_told a_md_draft a_md_s a_md_past md_known a_md_images md_kept a_md_seen md_sights md_at a_md_asks a_md_brings a_md_uses a_md_days a_md_tries a_md_row md_many a_md_first md_length md_set a_md_held a_md_text md_text a_md_told md_told a_md_draft md_draft a_md_s out a_md_past md_past a_md_images md_images a_md_seen md_seen a_md_asks md_asks a_md_brings md_brings a_md_uses md_uses a_md_days md_days a_md_tries md_tries a_md_row md_row a_md_first md_first a_md_held md_held) H locs → lv_has ls 7 [(0, .ref a_md), (3, .int v3)] → W p l e rX6_king s m args below meth c H locs 0 0 Q (F0 m 111 ls [])) → W p l e rX6_king s m args below meth c H locs 0 0 Q (F0 m 65 ls []) := by
  have hx := S.1
  have hb := S.2.1
  intro n
  induction n with
  | zero => intro v4 md_s out hm; cases (show (none : Option (Nat → Int32)) = some out from hm)
  | succ n ih =>
    intro v4 md_s out hm  H locs ls hw hl K0
    rw [lp_X6_king_65] at hm
    refine lv_iload hx hb dX6_king_65 (lv_at hl 4 rfl) ?_
    refine lv_iload_n hx hb dX6_king_67 rfl (lv_at hl 2 rfl) ?_
    refine lv_icmp_ge (tgt := 111) hx hb dX6_king_68 (by decide) (fun c15 => ?_) (fun c15 => ?_)
    · replace hm := ipos hm c15
      obtain rfl := Option.some.inj hm
      exact K0  _ _ ls hw (lv_sub hl [0, 3] rfl)
    · replace hm := ineg hm c15
      refine lv_ldc2 hx hb S.2.2.2.1 (S.2.2.2.2 (.constantLong RX6 179 (7919)) (List.mem_of_getElem? (i := 3) rfl)) dX6_king_71 ?_
      refine lv_iload_n hx hb dX6_king_74 rfl (lv_at hl 1 rfl) ?_
      refine lv_i2l (v := (v1).toInt64) hx hb dX6_king_75 rfl ?_
      refine lv_lmul hx hb dX6_king_76 ?_
      refine lv_ldc2 hx hb S.2.2.2.1 (S.2.2.2.2 (.constantLong RX6 181 (6151)) (List.mem_of_getElem? (i := 4) rfl)) dX6_king_77 ?_
      refine lv_iload hx hb dX6_king_80 (lv_at hl 4 rfl) ?_
      refine lv_i2l (v := (v4).toInt64) hx hb dX6_king_82 rfl ?_
      refine lv_lmul hx hb dX6_king_83 ?_
      refine lv_ladd hx hb dX6_king_84 ?_
      refine lv_lconst (v := 1) hx hb dX6_king_85 (by decide) ?_
      refine lv_ladd hx hb dX6_king_86 ?_
      obtain ⟨y16, e17, hm⟩ := ob hm
      refine f_nameL e17 ?_
      refine lv_lstore (lv' := [(5, .long y16), (0, .ref a_md), (1, .int v1), (2, .int v2), (3, .int v3), (4, .int v4)]) hx hb dX6_king_87 hl (by decide) rfl (fun ls hl => ?_)
      refine lv_aload_n hx hb dX6_king_89 rfl (lv_at hl 1 rfl) ?_
      refine lv_lload hx hb dX6_king_90 (lv_at hl 0 rfl) ?_
      refine lv_lload hx hb dX6_king_92 (lv_at hl 0 rfl) ?_
      refine lv_lmul hx hb dX6_king_94 ?_
      refine lv_ldc2 hx hb S.2.2.2.1 (S.2.2.2.2 (.constantLong RX6 183 (65521)) (List.mem_of_getElem? (i := 5) rfl)) dX6_king_95 ?_
      obtain ⟨g18, hm⟩ := gdo hm
      refine lv_lrem hx hb dX6_king_98 g18 ?_
      refine lv_l2i (v := (((y16 * y16) - (y16 * y16) / (65521 : Int64) * (65521 : Int64))).toInt32) hx hb dX6_king_99 rfl ?_
      refine lv_iconst (v := 2) hx hb dX6_king_100 (by decide) ?_
      obtain ⟨g19, hm⟩ := gdo hm
      refine lv_idiv hx hb dX6_king_101 g19 ?_
      obtain ⟨r20, h21, hm⟩ := ob hm
      refine k_wVv S hK hw cal_X6_steps gX6_king_X6_steps (c_X6_steps l D cC cI cJ a_md a_md_text a_md_told a_md_draft a_md_s a_md_past a_md_images a_md_seen a_md_asks a_md_brings a_md_uses a_md_days a_md_tries a_md_row a_md_first a_md_held md_typed md_known md_kept md_sights md_at md_many md_length md_set md_text md_told md_draft md_s md_past md_images md_seen md_asks md_brings md_uses md_days md_tries md_row md_first md_held (((((y16 * y16) - (y16 * y16) / (65521 : Int64) * (65521 : Int64))).toInt32) / (2 : Int32)) N (aw _) (hw.own [0, 1, 2, 3, 4, 5, 6, 7, 8, 9, 10, 11, 12, 13, 14, 15] (by decide) rfl) r20 h21) ⟨⟨rfl, rfl⟩, Nat.le_of_ble_eq_true rfl, Nat.le_of_ble_eq_true rfl⟩ [0, 1, 2, 3, 4, 5, 6, 7, 8, 9, 10, 11, 12, 13, 14, 15] rfl 0 rfl rfl rfl hl.1 rfl (Nat.le_of_ble_eq_true rfl) dX6_king_102 ⟨Nat.zero_le _, Nat.zero_le _⟩ (fun H locs hJ hB => ?_)
      have hw := hJ _ hB rfl
      replace hw : Wd D A _ (wd_28 cC cI cJ a_md a_md_text md_typed a_md_told a_md_draft a_md_s a_md_past md_known a_md_images md_kept a_md_seen md_sights md_at a_md_asks a_md_brings a_md_uses a_md_days a_md_tries a_md_row md_many a_md_first md_length md_set a_md_held a_md_text md_text a_md_told md_told a_md_draft md_draft a_md_s r20 a_md_past md_past a_md_images md_images a_md_seen md_seen a_md_asks md_asks a_md_brings md_brings a_md_uses md_uses a_md_days md_days a_md_tries md_tries a_md_row md_row a_md_first md_first a_md_held md_held) H locs := hw
      refine lv_iinc (v := (v4 + 1)) (lv' := [(4, .int (v4 + 1)), (5, .long y16), (0, .ref a_md), (1, .int v1), (2, .int v2), (3, .int v3)]) hx hb dX6_king_105 hl (k := 5) rfl (by rw [ofi_1]) (by decide) rfl (fun ls hl => ?_)
      refine lv_goto (tgt := 65) hx hb dX6_king_108 (by decide) ?_
      exact ih (v4 + 1) r20 _ hm  _ _ ls hw (lv_sub hl [2, 3, 4, 5, 0] rfl) K0
set_option maxHeartbeats 4000000 in
set_option maxRecDepth 100000 in
theorem t_X6_king_158 {p : Program} {e : Env} {s : State} {m : MethodId} {args : Array Value} {below : List Frame} {meth : Method} {c : Code} {Q : State → Prop} (l : Launch) {D : va_G} {cC cI cJ : ClassId} {A : Nat → Prop} {H0 : Heap} (S : CallFix p m c cX6_king 7 s args wsX6_king RX6) (hK : KK D (tyK cC cI cJ) s) (a_md : Nat) (a_md_text : Nat) (a_md_told : Nat) (a_md_draft : Nat) (a_md_s : Nat) (a_md_past : Nat) (a_md_images : Nat) (a_md_seen : Nat) (a_md_asks : Nat) (a_md_brings : Nat) (a_md_uses : Nat) (a_md_days : Nat) (a_md_tries : Nat) (a_md_row : Nat) (a_md_first : Nat) (a_md_held : Nat) (v4 : Int32) (md_typed : Int32) (md_known : Int32) (md_kept : Int32) (md_sights : Int32) (md_at : Int32) (md_many : Int32) (md_length : Int32) (md_set : Int32) (md_text : (Nat → Int32)) (md_told : (Nat → Int32)) (md_draft : (Nat → Int32)) (md_past : (Nat → Int32)) (md_images : (Nat → Int32)) (md_seen : (Nat → Int32)) (md_asks : (Nat → Int32)) (md_brings : (Nat → Int32)) (md_uses : (Nat → Int32)) (md_days : (Nat → Int32)) (md_tries : (Nat → Int32)) (md_row : (Nat → Int32)) (md_first : (Nat → Int32)) (md_held : (Nat → Int32)) : ∀ (n : Nat) (v5 : Int32) (md_s : (Nat → Int32)) (out : (Nat → Int32)), lp_X6_king_158 md_held n v5 md_s = some out → ∀ (H : Heap) (locs : List Loc) (ls : Array Slot), Wd D A H0 (wd_28 cC cI cJ a_md a_md_text md_typed a_md_told a_md_draft a_md_s a_md_past md_known a_md_images md_kept a_md_seen md_sights md_at a_md_asks a_md_brings a_md_uses a_md_days a_md_tries a_md_row md_many a_md_first md_length md_set a_md_held a_md_text md_text a_md_told md_told a_md_draft md_draft a_md_s md_s a_md_past md_past a_md_images md_images a_md_seen md_seen a_md_asks md_asks a_md_brings md_brings a_md_uses md_uses a_md_days md_days a_md_tries md_tries a_md_row md_row a_md_first md_first a_md_held md_held) H locs → lv_has ls 7 [(0, .ref a_md), (4, .int v4), (5, .int v5)] → (∀ (H : Heap) (locs : List Loc) (ls : Array Slot), Wd D A H0 (wd_28 cC cI cJ a_md a_md_text md_typed a_md_told a_md_draft a_md_s a_md_past md_known a_md_images md_kept a_md_seen md_sights md_at a_md_asks a_md_brings a_md_uses a_md_days a_md_tries a_md_row md_many a_md_first md_length md_set a_md_held a_md_text md_text a_md_told md_told a_md_draft md_draft a_md_s out a_md_past md_past a_md_images md_images a_md_seen md_seen a_md_asks md_asks a_md_brings md_brings a_md_uses md_uses a_md_days md_days a_md_tries md_tries a_md_row md_row a_md_first md_first a_md_held md_held) H locs → lv_has ls 7 [(4, .int v4)] → W p l e rX6_king s m args below meth c H locs 0 0 Q (F0 m 185 ls [])) → W p l e rX6_king s m args below meth c H locs 0 0 Q (F0 m 158 ls []) := by
  have hx := S.1
  have hb := S.2.1
  intro n
  induction n with
  | zero => intro v5 md_s out hm; cases (show (none : Option (Nat → Int32)) = some out from hm)
  | succ n ih =>
    intro v5 md_s out hm  H locs ls hw hl K0
    rw [lp_X6_king_158] at hm
    refine lv_iload hx hb dX6_king_158 (lv_at hl 2 rfl) ?_
    refine lv_bipush (v := 6) hx hb dX6_king_160 (by decide) ?_
    refine lv_icmp_ge (tgt := 185) hx hb dX6_king_162 (by decide) (fun c29 => ?_) (fun c29 => ?_)
    · replace hm := ipos hm c29
      obtain rfl := Option.some.inj hm
      exact K0  _ _ ls hw (lv_sub hl [1] rfl)
    · replace hm := ineg hm c29
      refine lv_aload_n hx hb dX6_king_165 rfl (lv_at hl 0 rfl) ?_
      refine f_get S hK hw.1 in_X6_king_X6 0 rfl rfl 4 (by decide) (List.mem_of_getElem? (i := 2) rfl) rfl rfl dX6_king_166 ?_
      refine lv_iload hx hb dX6_king_169 (lv_at hl 2 rfl) ?_
      refine lv_aload_n hx hb dX6_king_171 rfl (lv_at hl 0 rfl) ?_
      refine f_get S hK hw.1 in_X6_king_X6 0 rfl rfl 22 (by decide) (List.mem_of_getElem? (i := 1) rfl) rfl rfl dX6_king_172 ?_
      refine lv_iload hx hb dX6_king_175 (lv_at hl 2 rfl) ?_
      obtain ⟨g30, hm⟩ := gdo hm
      refine f_iald S hK hw.1 15 1 rfl rfl g30 dX6_king_177 ?_
      obtain ⟨g31, hm⟩ := gdo hm
      refine f_iast S hK hw 4 1 rfl rfl g31 (ws1 := (wd_28 cC cI cJ a_md a_md_text md_typed a_md_told a_md_draft a_md_s a_md_past md_known a_md_images md_kept a_md_seen md_sights md_at a_md_asks a_md_brings a_md_uses a_md_days a_md_tries a_md_row md_many a_md_first md_length md_set a_md_held a_md_text md_text a_md_told md_told a_md_draft md_draft a_md_s (upd md_s (v5).toNatClampNeg (md_held (v5).toNatClampNeg)) a_md_past md_past a_md_images md_images a_md_seen md_seen a_md_asks md_asks a_md_brings md_brings a_md_uses md_uses a_md_days md_days a_md_tries md_tries a_md_row md_row a_md_first md_first a_md_held md_held)) rfl dX6_king_178 (fun H locs hw => ?_)
      refine lv_iinc (v := (v5 + 1)) (lv' := [(5, .int (v5 + 1)), (0, .ref a_md), (4, .int v4)]) hx hb dX6_king_179 hl (k := 2) rfl (by rw [ofi_1]) (by decide) rfl (fun ls hl => ?_)
      refine lv_goto (tgt := 158) hx hb dX6_king_182 (by decide) ?_
      exact ih (v5 + 1) (upd md_s (v5).toNatClampNeg (md_held (v5).toNatClampNeg)) _ hm  _ _ ls hw (lv_sub hl [1, 2, 0] rfl) K0
set_option maxHeartbeats 4000000 in
set_option maxRecDepth 100000 in
theorem c_X6_king (l : Launch) (D : va_G) (cC cI cJ : ClassId) (a_md : Nat) (a_md_text : Nat) (a_md_told : Nat) (a_md_draft : Nat) (a_md_s : Nat) (a_md_past : Nat) (a_md_images : Nat) (a_md_seen : Nat) (a_md_asks : Nat) (a_md_brings : Nat) (a_md_uses : Nat) (a_md_days : Nat) (a_md_tries : Nat) (a_md_row : Nat) (a_md_first : Nat) (a_md_held : Nat) (md_typed : Int32) (md_known : Int32) (md_kept : Int32) (md_sights : Int32) (md_at : Int32) (md_many : Int32) (md_length : Int32) (md_set : Int32) (md_text : (Nat → Int32)) (md_told : (Nat → Int32)) (md_draft : (Nat → Int32)) (md_s : (Nat → Int32)) (md_past : (Nat → Int32)) (md_images : (Nat → Int32)) (md_seen : (Nat → Int32)) (md_asks : (Nat → Int32)) (md_brings : (Nat → Int32)) (md_uses : (Nat → Int32)) (md_days : (Nat → Int32)) (md_tries : (Nat → Int32)) (md_row : (Nat → Int32)) (md_first : (Nat → Int32)) (md_held : (Nat → Int32)) (p0 : Int32) (p1 : Int32) (p2 : Int32) (N : Nat) (A : Nat → Prop) (hD : va_D A (wd_28 cC cI cJ a_md a_md_text md_typed a_md_told a_md_draft a_md_s a_md_past md_known a_md_images md_kept a_md_seen md_sights md_at a_md_asks a_md_brings a_md_uses a_md_days a_md_tries a_md_row md_many a_md_first md_length md_set a_md_held a_md_text md_text a_md_told md_told a_md_draft md_draft a_md_s md_s a_md_past md_past a_md_images md_images a_md_seen md_seen a_md_asks md_asks a_md_brings md_brings a_md_uses md_uses a_md_days md_days a_md_tries md_tries a_md_row md_row a_md_first md_first a_md_held md_held)) (out : (Int32 × (Nat → Int32) × (Nat → Int32))) (hm : m_X6_king N md_told md_s md_held p0 p1 p2 = some out) : WrI l yX6_king wsX6_king rX6_king D (tyK cC cI cJ) [.ref a_md, .int p0, .int p1, .int p2] A (wd_28 cC cI cJ a_md a_md_text md_typed a_md_told a_md_draft a_md_s a_md_past md_known a_md_images md_kept a_md_seen md_sights md_at a_md_asks a_md_brings a_md_uses a_md_days a_md_tries a_md_row md_many a_md_first md_length md_set a_md_held a_md_text md_text a_md_told md_told a_md_draft md_draft a_md_s md_s a_md_past md_past a_md_images md_images a_md_seen md_seen a_md_asks md_asks a_md_brings md_brings a_md_uses md_uses a_md_days md_days a_md_tries md_tries a_md_row md_row a_md_first md_first a_md_held md_held) (Bw0 D (wd_28 cC cI cJ a_md a_md_text md_typed a_md_told a_md_draft a_md_s a_md_past md_known a_md_images md_kept a_md_seen md_sights md_at a_md_asks a_md_brings a_md_uses a_md_days a_md_tries a_md_row md_many a_md_first md_length md_set a_md_held a_md_text md_text a_md_told md_told a_md_draft md_draft a_md_s out.2.1 a_md_past md_past a_md_images md_images a_md_seen md_seen a_md_asks md_asks a_md_brings md_brings a_md_uses md_uses a_md_days md_days a_md_tries md_tries a_md_row md_row a_md_first md_first a_md_held out.2.2)) out.1 := by
  unfold m_X6_king at hm
  refine enter (cc := cX6_king) (maxL := 7) (ret := (some .int)) (lv := [(0, .ref a_md), (1, .int p0), (2, .int p1), (3, .int p2)]) (by decide) rfl (Nat.le_of_ble_eq_true rfl) rfl ?_
  intro p e s m args below meth c S hr hlk hK hP ls hl
  replace S : CallFix p m c cX6_king 7 s args wsX6_king RX6 := S
  have hx := S.1
  have hb := S.2.1
  have hw : Wd D A s.heap (wd_28 cC cI cJ a_md a_md_text md_typed a_md_told a_md_draft a_md_s a_md_past md_known a_md_images md_kept a_md_seen md_sights md_at a_md_asks a_md_brings a_md_uses a_md_days a_md_tries a_md_row md_many a_md_first md_length md_set a_md_held a_md_text md_text a_md_told md_told a_md_draft md_draft a_md_s md_s a_md_past md_past a_md_images md_images a_md_seen md_seen a_md_asks md_asks a_md_brings md_brings a_md_uses md_uses a_md_days md_days a_md_tries md_tries a_md_row md_row a_md_first md_first a_md_held md_held) s.heap [] := ⟨hP, hD, va_S.rf⟩
  have hw0 := hw
  refine lv_iload_n hx hb dX6_king_0 rfl (lv_at hl 1 rfl) ?_
  refine lv_iconst (v := 0) hx hb dX6_king_1 (by decide) ?_
  refine lv_sipush (v := 9999) hx hb dX6_king_2 (by decide) ?_
  obtain ⟨r1, h2, hm⟩ := ob hm
  refine k_rSi S hK hw.1 cal_X6_in gX6_king_X6_in (c_X6_in l D cC cI cJ p0 (0 : Int32) (9999 : Int32) r1 h2) ⟨⟨rfl, rfl⟩, Nat.le_of_ble_eq_true rfl, Nat.le_of_ble_eq_true rfl⟩ [] rfl rfl hl.1 rfl (Nat.le_of_ble_eq_true rfl) dX6_king_5 ⟨Nat.zero_le _, Nat.zero_le _⟩ ?_
  refine lv_if_eq (tgt := 30) hx hb dX6_king_8 (by decide) (fun c3 => ?_) (fun c3 => ?_)
  · replace hm := ipos hm c3
    refine lv_iconst (v := (-1)) hx hb dX6_king_30 (by decide) ?_
    obtain rfl := Option.some.inj hm
    exact e_WI S hr hlk hw rfl hw.1 dX6_king_31
  · replace hm := ineg hm c3
    refine lv_iload_n hx hb dX6_king_11 rfl (lv_at hl 2 rfl) ?_
    refine lv_iconst (v := 1) hx hb dX6_king_12 (by decide) ?_
    refine lv_bipush (v := 40) hx hb dX6_king_13 (by decide) ?_
    obtain ⟨r4, h5, hm⟩ := ob hm
    refine k_rSi S hK hw.1 cal_X6_in gX6_king_X6_in (c_X6_in l D cC cI cJ p1 (1 : Int32) (40 : Int32) r4 h5) ⟨⟨rfl, rfl⟩, Nat.le_of_ble_eq_true rfl, Nat.le_of_ble_eq_true rfl⟩ [] rfl rfl hl.1 rfl (Nat.le_of_ble_eq_true rfl) dX6_king_15 ⟨Nat.zero_le _, Nat.zero_le _⟩ ?_
    refine lv_if_eq (tgt := 30) hx hb dX6_king_18 (by decide) (fun c6 => ?_) (fun c6 => ?_)
    · replace hm := ipos hm c6
      refine lv_iconst (v := (-1)) hx hb dX6_king_30 (by decide) ?_
      obtain rfl := Option.some.inj hm
      exact e_WI S hr hlk hw rfl hw.1 dX6_king_31
    · replace hm := ineg hm c6
      refine lv_iload_n hx hb dX6_king_21 rfl (lv_at hl 3 rfl) ?_
      refine lv_iconst (v := 0) hx hb dX6_king_22 (by decide) ?_
      refine lv_iconst (v := 2) hx hb dX6_king_23 (by decide) ?_
      obtain ⟨r7, h8, hm⟩ := ob hm
      refine k_rSi S hK hw.1 cal_X6_in gX6_king_X6_in (c_X6_in l D cC cI cJ p2 (0 : Int32) (2 : Int32) r7 h8) ⟨⟨rfl, rfl⟩, Nat.le_of_ble_eq_true rfl, Nat.le_of_ble_eq_true rfl⟩ [] rfl rfl hl.1 rfl (Nat.le_of_ble_eq_true rfl) dX6_king_24 ⟨Nat.zero_le _, Nat.zero_le _⟩ ?_
      refine lv_if_ne (tgt := 32) hx hb dX6_king_27 (by decide) (fun c9 => ?_) (fun c9 => ?_)
      · replace hm := ineg hm c9
        refine lv_iconst (v := 0) hx hb dX6_king_32 (by decide) ?_
        refine lv_istore (lv' := [(4, .int (0 : Int32)), (0, .ref a_md), (1, .int p0), (2, .int p1), (3, .int p2)]) hx hb dX6_king_33 hl (by decide) rfl (fun ls hl => ?_)
        obtain ⟨r13, h14, hm⟩ := ob hm
        refine t_X6_king_35 l S hK a_md a_md_text a_md_told a_md_draft a_md_s a_md_past a_md_images a_md_seen a_md_asks a_md_brings a_md_uses a_md_days a_md_tries a_md_row a_md_first a_md_held p0 p1 p2 md_typed md_known md_kept md_sights md_at md_many md_length md_set md_text md_told md_draft md_s md_past md_images md_seen md_asks md_brings md_uses md_days md_tries md_row md_first N (0 : Int32) md_held r13 h14  _ _ ls hw (lv_sub hl [1, 2, 3, 4, 0] rfl) (fun H locs ls hw hl => ?_)
        refine lv_iconst (v := 0) hx hb dX6_king_62 (by decide) ?_
        refine lv_istore (lv' := [(4, .int (0 : Int32)), (0, .ref a_md), (1, .int p0), (2, .int p1), (3, .int p2)]) hx hb dX6_king_63 hl (by decide) rfl (fun ls hl => ?_)
        obtain ⟨r22, h23, hm⟩ := ob hm
        refine t_X6_king_65 l S hK a_md a_md_text a_md_told a_md_draft a_md_s a_md_past a_md_images a_md_seen a_md_asks a_md_brings a_md_uses a_md_days a_md_tries a_md_row a_md_first a_md_held N p0 p1 p2 md_typed md_known md_kept md_sights md_at md_many md_length md_set md_text md_told md_draft md_past md_images md_seen md_asks md_brings md_uses md_days md_tries md_row md_first r13 N (0 : Int32) md_s r22 h23  _ _ ls hw (lv_sub hl [1, 2, 3, 4, 0] rfl) (fun H locs ls hw hl => ?_)
        refine lv_iload_n hx hb dX6_king_111 rfl (lv_at hl 1 rfl) ?_
        refine lv_if_ne (tgt := 127) hx hb dX6_king_112 (by decide) (fun c24 => ?_) (fun c24 => ?_)
        · replace hm := ineg hm c24
          refine lv_iload_n hx hb dX6_king_127 rfl (lv_at hl 1 rfl) ?_
          refine lv_iconst (v := 1) hx hb dX6_king_128 (by decide) ?_
          refine lv_icmp_ne (tgt := 141) hx hb dX6_king_129 (by decide) (fun c25 => ?_) (fun c25 => ?_)
          · replace hm := ineg hm c25
            refine lv_aload_n hx hb dX6_king_141 rfl (lv_at hl 0 rfl) ?_
            obtain ⟨r26, h27, hm⟩ := ob hm
            refine k_rVi S hK hw.1 cal_X6_isLost gX6_king_X6_isLost (c_X6_isLost l D cC cI cJ a_md a_md_text a_md_told a_md_draft a_md_s a_md_past a_md_images a_md_seen a_md_asks a_md_brings a_md_uses a_md_days a_md_tries a_md_row a_md_first a_md_held md_typed md_known md_kept md_sights md_at md_many md_length md_set md_text md_told md_draft r22 md_past md_images md_seen md_asks md_brings md_uses md_days md_tries md_row md_first r13 r26 h27) ⟨⟨rfl, rfl⟩, Nat.le_of_ble_eq_true rfl, Nat.le_of_ble_eq_true rfl⟩ [0, 1, 2, 3, 4, 5, 6, 7, 8, 9, 10, 11, 12, 13, 14, 15] rfl 0 rfl rfl rfl hl.1 rfl (Nat.le_of_ble_eq_true rfl) dX6_king_142 ⟨Nat.zero_le _, Nat.zero_le _⟩ ?_
            refine lv_if_eq (tgt := 152) hx hb dX6_king_145 (by decide) (fun c28 => ?_) (fun c28 => ?_)
            · replace hm := ipos hm c28
              refine lv_iconst (v := 0) hx hb dX6_king_152 (by decide) ?_
              refine lv_istore (lv' := [(4, .int (0 : Int32)), (0, .ref a_md), (3, .int p2)]) hx hb dX6_king_153 hl (by decide) rfl (fun ls hl => ?_)
              refine lv_iconst (v := 0) hx hb dX6_king_155 (by decide) ?_
              refine lv_istore (lv' := [(5, .int (0 : Int32)), (4, .int (0 : Int32)), (0, .ref a_md), (3, .int p2)]) hx hb dX6_king_156 hl (by decide) rfl (fun ls hl => ?_)
              obtain ⟨r32, h33, hm⟩ := ob hm
              refine t_X6_king_158 l S hK a_md a_md_text a_md_told a_md_draft a_md_s a_md_past a_md_images a_md_seen a_md_asks a_md_brings a_md_uses a_md_days a_md_tries a_md_row a_md_first a_md_held (0 : Int32) md_typed md_known md_kept md_sights md_at md_many md_length md_set md_text md_told md_draft md_past md_images md_seen md_asks md_brings md_uses md_days md_tries md_row md_first r13 N (0 : Int32) r22 r32 h33  _ _ ls hw (lv_sub hl [2, 1, 0] rfl) (fun H locs ls hw hl => ?_)
              refine lv_iload hx hb dX6_king_185 (lv_at hl 0 rfl) ?_
              obtain rfl := Option.some.inj hm
              exact e_WI S hr hlk hw rfl hw.1 dX6_king_187
            · replace hm := ineg hm c28
              refine lv_iconst (v := 1) hx hb dX6_king_148 (by decide) ?_
              refine lv_goto (tgt := 153) hx hb dX6_king_149 (by decide) ?_
              refine lv_istore (lv' := [(4, .int (1 : Int32)), (0, .ref a_md), (3, .int p2)]) hx hb dX6_king_153 hl (by decide) rfl (fun ls hl => ?_)
              refine lv_iconst (v := 0) hx hb dX6_king_155 (by decide) ?_
              refine lv_istore (lv' := [(5, .int (0 : Int32)), (4, .int (1 : Int32)), (0, .ref a_md), (3, .int p2)]) hx hb dX6_king_156 hl (by decide) rfl (fun ls hl => ?_)
              obtain ⟨r34, h35, hm⟩ := ob hm
              refine t_X6_king_158 l S hK a_md a_md_text a_md_told a_md_draft a_md_s a_md_past a_md_images a_md_seen a_md_asks a_md_brings a_md_uses a_md_days a_md_tries a_md_row a_md_first a_md_held (1 : Int32) md_typed md_known md_kept md_sights md_at md_many md_length md_set md_text md_told md_draft md_past md_images md_seen md_asks md_brings md_uses md_days md_tries md_row md_first r13 N (0 : Int32) r22 r34 h35  _ _ ls hw (lv_sub hl [2, 1, 0] rfl) (fun H locs ls hw hl => ?_)
              refine lv_iload hx hb dX6_king_185 (lv_at hl 0 rfl) ?_
              obtain rfl := Option.some.inj hm
              exact e_WI S hr hlk hw rfl hw.1 dX6_king_187
          · replace hm := ipos hm c25
            refine lv_aload_n hx hb dX6_king_132 rfl (lv_at hl 0 rfl) ?_
            refine f_get S hK hw.1 in_X6_king_X6 0 rfl rfl 4 (by decide) (List.mem_of_getElem? (i := 2) rfl) rfl rfl dX6_king_133 ?_
            refine lv_iconst (v := 5) hx hb dX6_king_136 (by decide) ?_
            obtain ⟨g36, hm⟩ := gdo hm
            refine f_iald S hK hw.1 4 1 rfl rfl g36 dX6_king_137 ?_
            refine lv_goto (tgt := 153) hx hb dX6_king_138 (by decide) ?_
            obtain ⟨y37, e38, hm⟩ := ob hm
            refine f_name e38 ?_
            refine lv_istore (lv' := [(4, .int y37), (0, .ref a_md), (3, .int p2)]) hx hb dX6_king_153 hl (by decide) rfl (fun ls hl => ?_)
            refine lv_iconst (v := 0) hx hb dX6_king_155 (by decide) ?_
            refine lv_istore (lv' := [(5, .int (0 : Int32)), (4, .int y37), (0, .ref a_md), (3, .int p2)]) hx hb dX6_king_156 hl (by decide) rfl (fun ls hl => ?_)
            obtain ⟨r39, h40, hm⟩ := ob hm
            refine t_X6_king_158 l S hK a_md a_md_text a_md_told a_md_draft a_md_s a_md_past a_md_images a_md_seen a_md_asks a_md_brings a_md_uses a_md_days a_md_tries a_md_row a_md_first a_md_held y37 md_typed md_known md_kept md_sights md_at md_many md_length md_set md_text md_told md_draft md_past md_images md_seen md_asks md_brings md_uses md_days md_tries md_row md_first r13 N (0 : Int32) r22 r39 h40  _ _ ls hw (lv_sub hl [2, 1, 0] rfl) (fun H locs ls hw hl => ?_)
            refine lv_iload hx hb dX6_king_185 (lv_at hl 0 rfl) ?_
            obtain rfl := Option.some.inj hm
            exact e_WI S hr hlk hw rfl hw.1 dX6_king_187
        · replace hm := ipos hm c24
          refine lv_aload_n hx hb dX6_king_115 rfl (lv_at hl 0 rfl) ?_
          refine f_get S hK hw.1 in_X6_king_X6 0 rfl rfl 4 (by decide) (List.mem_of_getElem? (i := 2) rfl) rfl rfl dX6_king_116 ?_
          refine lv_iconst (v := 1) hx hb dX6_king_119 (by decide) ?_
          obtain ⟨g41, hm⟩ := gdo hm
          refine f_iald S hK hw.1 4 1 rfl rfl g41 dX6_king_120 ?_
          obtain ⟨r42, h43, hm⟩ := ob hm
          refine k_rSi S hK hw.1 cal_X6_ones gX6_king_X6_ones (c_X6_ones l D cC cI cJ (r22 ((1 : Int32)).toNatClampNeg) N r42 h43) ⟨⟨rfl, rfl⟩, Nat.le_of_ble_eq_true rfl, Nat.le_of_ble_eq_true rfl⟩ [] rfl rfl hl.1 rfl (Nat.le_of_ble_eq_true rfl) dX6_king_121 ⟨Nat.zero_le _, Nat.zero_le _⟩ ?_
          refine lv_goto (tgt := 153) hx hb dX6_king_124 (by decide) ?_
          refine lv_istore (lv' := [(4, .int r42), (0, .ref a_md), (3, .int p2)]) hx hb dX6_king_153 hl (by decide) rfl (fun ls hl => ?_)
          refine lv_iconst (v := 0) hx hb dX6_king_155 (by decide) ?_
          refine lv_istore (lv' := [(5, .int (0 : Int32)), (4, .int r42), (0, .ref a_md), (3, .int p2)]) hx hb dX6_king_156 hl (by decide) rfl (fun ls hl => ?_)
          obtain ⟨r44, h45, hm⟩ := ob hm
          refine t_X6_king_158 l S hK a_md a_md_text a_md_told a_md_draft a_md_s a_md_past a_md_images a_md_seen a_md_asks a_md_brings a_md_uses a_md_days a_md_tries a_md_row a_md_first a_md_held r42 md_typed md_known md_kept md_sights md_at md_many md_length md_set md_text md_told md_draft md_past md_images md_seen md_asks md_brings md_uses md_days md_tries md_row md_first r13 N (0 : Int32) r22 r44 h45  _ _ ls hw (lv_sub hl [2, 1, 0] rfl) (fun H locs ls hw hl => ?_)
          refine lv_iload hx hb dX6_king_185 (lv_at hl 0 rfl) ?_
          obtain rfl := Option.some.inj hm
          exact e_WI S hr hlk hw rfl hw.1 dX6_king_187
      · replace hm := ipos hm c9
        refine lv_iconst (v := (-1)) hx hb dX6_king_30 (by decide) ?_
        obtain rfl := Option.some.inj hm
        exact e_WI S hr hlk hw rfl hw.1 dX6_king_31
