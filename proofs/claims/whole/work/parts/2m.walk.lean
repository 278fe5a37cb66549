/-! walks: X6_walks X6_few X6_fewest X6_isTask -/
abbrev rX6_walks : Room := { frames := 2, cells := 0, slots := 0, locals := 51 }
theorem cal_X6_walks : Cal yX6_walks wsX6_walks cX6_walks 7 none RX6 2 := ⟨⟨_, rfl⟩, rfl, by decide +kernel, by decide +kernel, by decide +kernel⟩
theorem in_X6_walks_X6 : ∀ w ∈ wsX60, w ∈ wsX6_walks := fun _ h => (List.mem_cons_of_mem _ (List.mem_append_right _ h))
set_option maxHeartbeats 4000000 in
set_option maxRecDepth 100000 in
theorem t_X6_walks_89 {p : Program} {e : Env} {s : State} {m : MethodId} {args : Array Value} {below : List Frame} {meth : Method} {c : Code} {Q : State → Prop} (l : Launch) {D : va_G} {cC cI cJ : ClassId} {A : Nat → Prop} {H0 : Heap} (S : CallFix p m c cX6_walks 7 s args wsX6_walks RX6) (hK : KK D (tyK cC cI cJ) s) (a_md : Nat) (a_md_text : Nat) (a_md_told : Nat) (a_md_draft : Nat) (a_md_s : Nat) (a_md_past : Nat) (a_md_images : Nat) (a_md_seen : Nat) (a_md_asks : Nat) (a_md_brings : Nat) (a_md_uses : Nat) (a_md_days : Nat) (a_md_tries : Nat) (a_md_row : Nat) (a_md_first : Nat) (a_md_held : Nat) (N : Nat) (v1 : Int32) (v2 : Int32) (md_typed : Int32) (md_known : Int32) (md_kept : Int32) (md_sights : Int32) (md_at : Int32) (md_set : Int32) (md_text : (Nat → Int32)) (md_told : (Nat → Int32)) (md_draft : (Nat → Int32)) (md_s : (Nat → Int32)) (md_past : (Nat → Int32)) (md_images : (Nat → Int32)) (md_seen : (Nat → Int32)) (md_held : (Nat → Int32)) : ∀ (n : Nat) (v3 : Int32) (md_many : Int32) (md_length : Int32) (md_asks : (Nat → Int32)) (md_brings : (Nat → Int32)) (md_uses : (Nat → Int32)) (md_days : (Nat → Int32)) (md_tries : (Nat → Int32)) (md_row : (Nat → Int32)) (md_first : (Nat → Int32)) (out : (Int32 × Int32 × (Nat → Int32) × (Nat → Int32) × (Nat → Int32) × (Nat → Int32) × (Nat → Int32) × (Nat → Int32) × (Nat → Int32))), lp_X6_walks_89 N v1 v2 md_sights md_told md_s md_seen n v3 md_many md_length md_asks md_brings md_uses md_days md_tries md_row md_first = some out → ∀ (H : Heap) (locs : List Loc) (ls : Array Slot), Wd D A H0 (wd_28 cC cI cJ a_md a_md_text md_typed a_md_told a_md_draft a_md_s a_md_past md_known a_md_images md_kept a_md_seen md_sights md_at a_md_asks a_md_brings a_md_uses a_md_days a_md_tries a_md_row md_many a_md_first md_length md_set a_md_held a_md_text md_text a_md_told md_told a_md_draft md_draft a_md_s md_s a_md_past md_past a_md_images md_images a_md_seen md_seen a_md_asks md_asks a_md_brings md_brings a_md_uses md_uses a_md_days md_days a_md_tries md_tries a_md_row md_row a_md_first md_first a_md_held md_held) H locs → lv_has ls 7 [(0, .ref a_md), (1, .int v1), (2, .int v2), (3, .int v3)] → (∀ (H : Heap) (locs : List Loc) (ls : Array Slot), Wd D A H0 (wd_28 cC cI cJ a_md a_md_text md_typed a_md_told a_md_draft a_md_s a_md_past md_known a_md_images md_kept a_md_seen md_sights md_at a_md_asks a_md_brings a_md_uses a_md_days a_md_tries a_md_row out.1 a_md_first out.2.1 md_set a_md_held a_md_text md_text a_md_told md_told a_md_draft md_draft a_md_s md_s a_md_past md_past a_md_images md_images a_md_seen md_seen a_md_asks out.2.2.1 a_md_brings out.2.2.2.1 a_md_uses out.2.2.2.2.1 a_md_days out.2.2.2.2.2.1 a_md_tries out.2.2.2.2.2.2.1 a_md_row out.2.2.2.2.2.2.2.1 a_md_first out.2.2.2.2.2.2.2.2 a_md_held md_held) H locs → lv_has ls 7 [] → W p l e rX6_walks s m args below meth c H locs 0 0 Q (F0 m 342 ls [])) → W p l e rX6_walks s m args below meth c H locs 0 0 Q (F0 m 89 ls []) := by
  have hx := S.1
  have hb := S.2.1
  intro n
  induction n with
  | zero => intro v3 md_many md_length md_asks md_brings md_uses md_days md_tries md_row md_first out hm; cases (show (none : Option (Int32 × Int32 × (Nat → Int32) × (Nat → Int32) × (Nat → Int32) × (Nat → Int32) × (Nat → Int32) × (Nat → Int32) × (Nat → Int32))) = some out from hm)
  | succ n ih =>
    intro v3 md_many md_length md_asks md_brings md_uses md_days md_tries md_row md_first out hm  H locs ls hw hl K0
    rw [lp_X6_walks_89] at hm
    refine lv_iload_n hx hb dX6_walks_89 rfl (lv_at hl 3 rfl) ?_
    refine lv_if_lt (tgt := 342) hx hb dX6_walks_90 (by decide) (fun c16 => ?_) (fun c16 => ?_)
    · replace hm := ipos hm c16
      obtain rfl := Option.some.inj hm
      exact K0  _ _ ls hw (lv_sub hl [] rfl)
    · replace hm := ineg hm c16
      refine lv_aload_n hx hb dX6_walks_93 rfl (lv_at hl 0 rfl) ?_
      refine f_get S hK hw.1 in_X6_walks_X6 0 rfl rfl 16 (by decide) (List.mem_of_getElem? (i := 8) rfl) rfl rfl dX6_walks_94 ?_
      refine lv_iload_n hx hb dX6_walks_97 rfl (lv_at hl 3 rfl) ?_
      obtain ⟨g17, hm⟩ := gdo hm
      refine f_iald S hK hw.1 12 1 rfl rfl g17 dX6_walks_98 ?_
      refine lv_istore (lv' := [(4, .int (md_tries (v3).toNatClampNeg)), (0, .ref a_md), (1, .int v1), (2, .int v2), (3, .int v3)]) hx hb dX6_walks_99 hl (by decide) rfl (fun ls hl => ?_)
      refine lv_aload_n hx hb dX6_walks_101 rfl (lv_at hl 1 rfl) ?_
      refine f_get S hK hw.1 in_X6_walks_X6 0 rfl rfl 16 (by decide) (List.mem_of_getElem? (i := 8) rfl) rfl rfl dX6_walks_102 ?_
      refine lv_iload_n hx hb dX6_walks_105 rfl (lv_at hl 4 rfl) ?_
      refine lv_dup2_11 hx hb dX6_walks_106 rfl rfl ?_
      refine f_iald S hK hw.1 12 1 rfl rfl g17 dX6_walks_107 ?_
      refine lv_iconst (v := 1) hx hb dX6_walks_108 (by decide) ?_
      refine lv_iadd hx hb dX6_walks_109 ?_
      obtain ⟨y20, e21, hm⟩ := ob hm
      refine f_name e21 ?_
      refine f_iast S hK hw 12 1 rfl rfl g17 (ws1 := (wd_28 cC cI cJ a_md a_md_text md_typed a_md_told a_md_draft a_md_s a_md_past md_known a_md_images md_kept a_md_seen md_sights md_at a_md_asks a_md_brings a_md_uses a_md_days a_md_tries a_md_row md_many a_md_first md_length md_set a_md_held a_md_text md_text a_md_told md_told a_md_draft md_draft a_md_s md_s a_md_past md_past a_md_images md_images a_md_seen md_seen a_md_asks md_asks a_md_brings md_brings a_md_uses md_uses a_md_days md_days a_md_tries (upd md_tries (v3).toNatClampNeg y20) a_md_row md_row a_md_first md_first a_md_held md_held)) rfl dX6_walks_110 (fun H locs hw => ?_)
      refine lv_iload hx hb dX6_walks_111 (lv_at hl 0 rfl) ?_
      refine lv_aload_n hx hb dX6_walks_113 rfl (lv_at hl 1 rfl) ?_
      refine f_get S hK hw.1 in_X6_walks_X6 0 rfl rfl 2 (by decide) (List.mem_of_getElem? (i := 9) rfl) rfl rfl dX6_walks_114 ?_
      refine lv_iconst (v := 0) hx hb dX6_walks_117 (by decide) ?_
      refine f_ialdK S hK hw.1 2 1 rfl rfl 0 (by decide) (by decide) (v := (md_told 0)) rfl dX6_walks_118 ?_
      refine lv_icmp_ge (tgt := 133) hx hb dX6_walks_119 (by decide) (fun c23 => ?_) (fun c23 => ?_)
      · replace hm := ipos hm c23
        refine lv_iinc (v := (v3 + (-1))) (lv' := [(3, .int (v3 + (-1))), (4, .int (md_tries (v3).toNatClampNeg)), (0, .ref a_md), (1, .int v1), (2, .int v2)]) hx hb dX6_walks_133 hl (k := 4) rfl (by rw [ofi_m1]) (by decide) rfl (fun ls hl => ?_)
        refine lv_goto (tgt := 339) hx hb dX6_walks_136 (by decide) ?_
        refine lv_goto (tgt := 89) hx hb dX6_walks_339 (by decide) ?_
        exact ih (v3 + (-1)) md_many md_length md_asks md_brings md_uses md_days (upd md_tries (v3).toNatClampNeg y20) md_row md_first _ hm  _ _ ls hw (lv_sub hl [2, 3, 4, 0] rfl) K0
      · replace hm := ineg hm c23
        refine lv_iload_n hx hb dX6_walks_122 rfl (lv_at hl 3 rfl) ?_
        refine lv_if_eq (tgt := 139) hx hb dX6_walks_123 (by decide) (fun c24 => ?_) (fun c24 => ?_)
        · replace hm := ipos hm c24
          refine lv_aload_n hx hb dX6_walks_139 rfl (lv_at hl 1 rfl) ?_
          refine f_get S hK hw.1 in_X6_walks_X6 0 rfl rfl 12 (by decide) (List.mem_of_getElem? (i := 3) rfl) rfl rfl dX6_walks_140 ?_
          refine lv_iload_n hx hb dX6_walks_143 rfl (lv_at hl 4 rfl) ?_
          refine f_iald S hK hw.1 8 1 rfl rfl g17 dX6_walks_144 ?_
          refine lv_aload_n hx hb dX6_walks_145 rfl (lv_at hl 1 rfl) ?_
          refine f_get S hK hw.1 in_X6_walks_X6 0 rfl rfl 13 (by decide) (List.mem_of_getElem? (i := 5) rfl) rfl rfl dX6_walks_146 ?_
          refine lv_iload_n hx hb dX6_walks_149 rfl (lv_at hl 4 rfl) ?_
          refine f_iald S hK hw.1 9 1 rfl rfl g17 dX6_walks_150 ?_
          refine lv_iconst (v := (-1)) hx hb dX6_walks_151 (by decide) ?_
          refine lv_ixor hx hb dX6_walks_152 ?_
          refine lv_iand hx hb dX6_walks_153 ?_
          refine lv_iload hx hb dX6_walks_154 (lv_at hl 0 rfl) ?_
          refine lv_ishr hx hb dX6_walks_156 ?_
          refine lv_iconst (v := 1) hx hb dX6_walks_157 (by decide) ?_
          refine lv_iand hx hb dX6_walks_158 ?_
          refine lv_iconst (v := 1) hx hb dX6_walks_159 (by decide) ?_
          refine lv_icmp_ne (tgt := 339) hx hb dX6_walks_160 (by decide) (fun c27 => ?_) (fun c27 => ?_)
          · replace hm := ineg hm c27
            refine lv_goto (tgt := 89) hx hb dX6_walks_339 (by decide) ?_
            exact ih v3 md_many md_length md_asks md_brings md_uses md_days (upd md_tries (v3).toNatClampNeg y20) md_row md_first _ hm  _ _ ls hw (lv_sub hl [1, 2, 3, 4] rfl) K0
          · replace hm := ipos hm c27
            refine lv_aload_n hx hb dX6_walks_163 rfl (lv_at hl 1 rfl) ?_
            refine lv_iload hx hb dX6_walks_164 (lv_at hl 0 rfl) ?_
            refine lv_aload_n hx hb dX6_walks_166 rfl (lv_at hl 1 rfl) ?_
            refine f_get S hK hw.1 in_X6_walks_X6 0 rfl rfl 4 (by decide) (List.mem_of_getElem? (i := 4) rfl) rfl rfl dX6_walks_167 ?_
            refine lv_iconst (v := 2) hx hb dX6_walks_170 (by decide) ?_
            refine f_ialdK S hK hw.1 4 1 rfl rfl 2 (by decide) (by decide) (v := (md_s 2)) rfl dX6_walks_171 ?_
            refine lv_aload_n hx hb dX6_walks_172 rfl (lv_at hl 1 rfl) ?_
            refine f_get S hK hw.1 in_X6_walks_X6 0 rfl rfl 14 (by decide) (List.mem_of_getElem? (i := 6) rfl) rfl rfl dX6_walks_173 ?_
            refine lv_iload_n hx hb dX6_walks_176 rfl (lv_at hl 4 rfl) ?_
            refine f_iald S hK hw.1 10 1 rfl rfl g17 dX6_walks_177 ?_
            refine lv_iconst (v := (-1)) hx hb dX6_walks_178 (by decide) ?_
            refine lv_ixor hx hb dX6_walks_179 ?_
            refine lv_iand hx hb dX6_walks_180 ?_
            refine lv_aload_n hx hb dX6_walks_181 rfl (lv_at hl 1 rfl) ?_
            refine f_get S hK hw.1 in_X6_walks_X6 0 rfl rfl 15 (by decide) (List.mem_of_getElem? (i := 7) rfl) rfl rfl dX6_walks_182 ?_
            refine lv_iload_n hx hb dX6_walks_185 rfl (lv_at hl 4 rfl) ?_
            refine f_iald S hK hw.1 11 1 rfl rfl g17 dX6_walks_186 ?_
            obtain ⟨r31, h32, hm⟩ := ob hm
            refine k_rVi S hK hw.1 cal_X6_helpFor gX6_walks_X6_helpFor (c_X6_helpFor l D cC cI cJ a_md a_md_text a_md_told a_md_draft a_md_s a_md_past a_md_images a_md_seen a_md_asks a_md_brings a_md_uses a_md_days a_md_tries a_md_row a_md_first a_md_held md_typed md_known md_kept md_sights md_at md_many md_length md_set md_text md_told md_draft md_s md_past md_images md_seen md_asks md_brings md_uses md_days (upd md_tries (v3).toNatClampNeg y20) md_row md_first md_held (md_tries (v3).toNatClampNeg) ((md_s 2) &&& ((md_uses (v3).toNatClampNeg) ^^^ (-1 : Int32))) (md_days (v3).toNatClampNeg) N r31 h32) ⟨⟨rfl, rfl⟩, Nat.le_of_ble_eq_true rfl, Nat.le_of_ble_eq_true rfl⟩ [0, 1, 2, 3, 4, 5, 6, 7, 8, 9, 10, 11, 12, 13, 14, 15] rfl 0 rfl rfl rfl hl.1 rfl (Nat.le_of_ble_eq_true rfl) dX6_walks_187 ⟨Nat.zero_le _, Nat.zero_le _⟩ ?_
            refine lv_istore (lv' := [(5, .int r31), (4, .int (md_tries (v3).toNatClampNeg)), (0, .ref a_md), (1, .int v1), (2, .int v2), (3, .int v3)]) hx hb dX6_walks_190 hl (by decide) rfl (fun ls hl => ?_)
            refine lv_aload_n hx hb dX6_walks_192 rfl (lv_at hl 2 rfl) ?_
            refine f_get S hK hw.1 in_X6_walks_X6 0 rfl rfl 15 (by decide) (List.mem_of_getElem? (i := 7) rfl) rfl rfl dX6_walks_193 ?_
            refine lv_iload_n hx hb dX6_walks_196 rfl (lv_at hl 5 rfl) ?_
            refine f_iald S hK hw.1 11 1 rfl rfl g17 dX6_walks_197 ?_
            refine lv_aload_n hx hb dX6_walks_198 rfl (lv_at hl 2 rfl) ?_
            refine lv_iload hx hb dX6_walks_199 (lv_at hl 1 rfl) ?_
            obtain ⟨r34, h35, hm⟩ := ob hm
            refine k_rVi S hK hw.1 cal_X6_daysOf gX6_walks_X6_daysOf (c_X6_daysOf l D cC cI cJ a_md a_md_text a_md_told a_md_draft a_md_s a_md_past a_md_images a_md_seen a_md_asks a_md_brings a_md_uses a_md_days a_md_tries a_md_row a_md_first a_md_held md_typed md_known md_kept md_sights md_at md_many md_length md_set md_text md_told md_draft md_s md_past md_images md_seen md_asks md_brings md_uses md_days (upd md_tries (v3).toNatClampNeg y20) md_row md_first md_held (md_tries (v3).toNatClampNeg) r34 h35) ⟨⟨rfl, rfl⟩, Nat.le_of_ble_eq_true rfl, Nat.le_of_ble_eq_true rfl⟩ [0, 1, 2, 3, 4, 5, 6, 7, 8, 9, 10, 11, 12, 13, 14, 15] rfl 0 rfl rfl rfl hl.1 rfl (Nat.le_of_ble_eq_true rfl) dX6_walks_201 ⟨Nat.zero_le _, Nat.zero_le _⟩ ?_
            refine lv_iadd hx hb dX6_walks_204 ?_
            obtain ⟨y36, e37, hm⟩ := ob hm
            refine f_name e37 ?_
            refine lv_istore (lv' := [(6, .int y36), (5, .int r31), (4, .int (md_tries (v3).toNatClampNeg)), (0, .ref a_md), (1, .int v1), (2, .int v2), (3, .int v3)]) hx hb dX6_walks_205 hl (by decide) rfl (fun ls hl => ?_)
            refine lv_iload hx hb dX6_walks_207 (lv_at hl 1 rfl) ?_
            refine lv_if_lt (tgt := 339) hx hb dX6_walks_209 (by decide) (fun c38 => ?_) (fun c38 => ?_)
            · replace hm := ipos hm c38
              refine lv_goto (tgt := 89) hx hb dX6_walks_339 (by decide) ?_
              exact ih v3 md_many md_length md_asks md_brings md_uses md_days (upd md_tries (v3).toNatClampNeg y20) md_row md_first _ hm  _ _ ls hw (lv_sub hl [3, 4, 5, 6] rfl) K0
            · replace hm := ineg hm c38
              refine lv_iload hx hb dX6_walks_212 (lv_at hl 0 rfl) ?_
              refine lv_aload_n hx hb dX6_walks_214 rfl (lv_at hl 3 rfl) ?_
              refine f_get S hK hw.1 in_X6_walks_X6 0 rfl rfl 2 (by decide) (List.mem_of_getElem? (i := 9) rfl) rfl rfl dX6_walks_215 ?_
              refine lv_iconst (v := 3) hx hb dX6_walks_218 (by decide) ?_
              refine f_ialdK S hK hw.1 2 1 rfl rfl 3 (by decide) (by decide) (v := (md_told 3)) rfl dX6_walks_219 ?_
              refine lv_icmp_gt (tgt := 339) hx hb dX6_walks_220 (by decide) (fun c40 => ?_) (fun c40 => ?_)
              · replace hm := ipos hm c40
                refine lv_goto (tgt := 89) hx hb dX6_walks_339 (by decide) ?_
                exact ih v3 md_many md_length md_asks md_brings md_uses md_days (upd md_tries (v3).toNatClampNeg y20) md_row md_first _ hm  _ _ ls hw (lv_sub hl [3, 4, 5, 6] rfl) K0
              · replace hm := ineg hm c40
                refine lv_aload_n hx hb dX6_walks_223 rfl (lv_at hl 3 rfl) ?_
                refine f_get S hK hw.1 in_X6_walks_X6 0 rfl rfl 17 (by decide) (List.mem_of_getElem? (i := 10) rfl) rfl rfl dX6_walks_224 ?_
                refine lv_iload_n hx hb dX6_walks_227 rfl (lv_at hl 6 rfl) ?_
                refine lv_iload hx hb dX6_walks_228 (lv_at hl 2 rfl) ?_
                obtain ⟨g41, hm⟩ := gdo hm
                refine f_iast S hK hw 13 1 rfl rfl g41 (ws1 := (wd_28 cC cI cJ a_md a_md_text md_typed a_md_told a_md_draft a_md_s a_md_past md_known a_md_images md_kept a_md_seen md_sights md_at a_md_asks a_md_brings a_md_uses a_md_days a_md_tries a_md_row md_many a_md_first md_length md_set a_md_held a_md_text md_text a_md_told md_told a_md_draft md_draft a_md_s md_s a_md_past md_past a_md_images md_images a_md_seen md_seen a_md_asks md_asks a_md_brings md_brings a_md_uses md_uses a_md_days md_days a_md_tries (upd md_tries (v3).toNatClampNeg y20) a_md_row (upd md_row (v3).toNatClampNeg (md_tries (v3).toNatClampNeg)) a_md_first md_first a_md_held md_held)) rfl dX6_walks_230 (fun H locs hw => ?_)
                refine lv_iinc (v := (v3 + 1)) (lv' := [(3, .int (v3 + 1)), (6, .int y36), (5, .int r31), (4, .int (md_tries (v3).toNatClampNeg)), (0, .ref a_md), (1, .int v1), (2, .int v2)]) hx hb dX6_walks_231 hl (k := 6) rfl (by rw [ofi_1]) (by decide) rfl (fun ls hl => ?_)
                refine lv_aload_n hx hb dX6_walks_234 rfl (lv_at hl 4 rfl) ?_
                refine f_get S hK hw.1 in_X6_walks_X6 0 rfl rfl 12 (by decide) (List.mem_of_getElem? (i := 3) rfl) rfl rfl dX6_walks_235 ?_
                refine lv_iload_n hx hb dX6_walks_238 rfl (lv_at hl 0 rfl) ?_
                refine lv_aload_n hx hb dX6_walks_239 rfl (lv_at hl 4 rfl) ?_
                refine f_get S hK hw.1 in_X6_walks_X6 0 rfl rfl 12 (by decide) (List.mem_of_getElem? (i := 3) rfl) rfl rfl dX6_walks_240 ?_
                refine lv_iload_n hx hb dX6_walks_243 rfl (lv_at hl 0 rfl) ?_
                refine lv_iconst (v := 1) hx hb dX6_walks_244 (by decide) ?_
                refine lv_isub hx hb dX6_walks_245 ?_
                obtain ⟨g42, hm⟩ := gdo hm
                refine f_iald S hK hw.1 8 1 rfl rfl g42 dX6_walks_246 ?_
                refine lv_iconst (v := 1) hx hb dX6_walks_247 (by decide) ?_
                refine lv_aload_n hx hb dX6_walks_248 rfl (lv_at hl 4 rfl) ?_
                refine f_get S hK hw.1 in_X6_walks_X6 0 rfl rfl 2 (by decide) (List.mem_of_getElem? (i := 9) rfl) rfl rfl dX6_walks_249 ?_
                refine lv_bipush (v := 29) hx hb dX6_walks_252 (by decide) ?_
                refine lv_iload hx hb dX6_walks_254 (lv_at hl 3 rfl) ?_
                refine lv_iadd hx hb dX6_walks_256 ?_
                obtain ⟨g43, hm⟩ := gdo hm
                refine f_iald S hK hw.1 2 1 rfl rfl g43 dX6_walks_257 ?_
                refine lv_ishl hx hb dX6_walks_258 ?_
                refine lv_ior hx hb dX6_walks_259 ?_
                obtain ⟨y45, e46, hm⟩ := ob hm
                refine f_name e46 ?_
                obtain ⟨g44, hm⟩ := gdo hm
                refine f_iast S hK hw 8 1 rfl rfl g44 (ws1 := (wd_28 cC cI cJ a_md a_md_text md_typed a_md_told a_md_draft a_md_s a_md_past md_known a_md_images md_kept a_md_seen md_sights md_at a_md_asks a_md_brings a_md_uses a_md_days a_md_tries a_md_row md_many a_md_first md_length md_set a_md_held a_md_text md_text a_md_told md_told a_md_draft md_draft a_md_s md_s a_md_past md_past a_md_images md_images a_md_seen md_seen a_md_asks (upd md_asks ((v3 + 1)).toNatClampNeg y45) a_md_brings md_brings a_md_uses md_uses a_md_days md_days a_md_tries (upd md_tries (v3).toNatClampNeg y20) a_md_row (upd md_row (v3).toNatClampNeg (md_tries (v3).toNatClampNeg)) a_md_first md_first a_md_held md_held)) rfl dX6_walks_260 (fun H locs hw => ?_)
                refine lv_aload_n hx hb dX6_walks_261 rfl (lv_at hl 4 rfl) ?_
                refine f_get S hK hw.1 in_X6_walks_X6 0 rfl rfl 13 (by decide) (List.mem_of_getElem? (i := 5) rfl) rfl rfl dX6_walks_262 ?_
                refine lv_iload_n hx hb dX6_walks_265 rfl (lv_at hl 0 rfl) ?_
                refine lv_aload_n hx hb dX6_walks_266 rfl (lv_at hl 4 rfl) ?_
                refine f_get S hK hw.1 in_X6_walks_X6 0 rfl rfl 13 (by decide) (List.mem_of_getElem? (i := 5) rfl) rfl rfl dX6_walks_267 ?_
                refine lv_iload_n hx hb dX6_walks_270 rfl (lv_at hl 0 rfl) ?_
                refine lv_iconst (v := 1) hx hb dX6_walks_271 (by decide) ?_
                refine lv_isub hx hb dX6_walks_272 ?_
                refine f_iald S hK hw.1 9 1 rfl rfl g42 dX6_walks_273 ?_
                refine lv_iconst (v := 1) hx hb dX6_walks_274 (by decide) ?_
                refine lv_iload hx hb dX6_walks_275 (lv_at hl 3 rfl) ?_
                refine lv_ishl hx hb dX6_walks_277 ?_
                refine lv_ior hx hb dX6_walks_278 ?_
                obtain ⟨y49, e50, hm⟩ := ob hm
                refine f_name e50 ?_
                refine f_iast S hK hw 9 1 rfl rfl g44 (ws1 := (wd_28 cC cI cJ a_md a_md_text md_typed a_md_told a_md_draft a_md_s a_md_past md_known a_md_images md_kept a_md_seen md_sights md_at a_md_asks a_md_brings a_md_uses a_md_days a_md_tries a_md_row md_many a_md_first md_length md_set a_md_held a_md_text md_text a_md_told md_told a_md_draft md_draft a_md_s md_s a_md_past md_past a_md_images md_images a_md_seen md_seen a_md_asks (upd md_asks ((v3 + 1)).toNatClampNeg y45) a_md_brings (upd md_brings ((v3 + 1)).toNatClampNeg y49) a_md_uses md_uses a_md_days md_days a_md_tries (upd md_tries (v3).toNatClampNeg y20) a_md_row (upd md_row (v3).toNatClampNeg (md_tries (v3).toNatClampNeg)) a_md_first md_first a_md_held md_held)) rfl dX6_walks_279 (fun H locs hw => ?_)
                refine lv_aload_n hx hb dX6_walks_280 rfl (lv_at hl 4 rfl) ?_
                refine f_get S hK hw.1 in_X6_walks_X6 0 rfl rfl 14 (by decide) (List.mem_of_getElem? (i := 6) rfl) rfl rfl dX6_walks_281 ?_
                refine lv_iload_n hx hb dX6_walks_284 rfl (lv_at hl 0 rfl) ?_
                refine lv_aload_n hx hb dX6_walks_285 rfl (lv_at hl 4 rfl) ?_
                refine f_get S hK hw.1 in_X6_walks_X6 0 rfl rfl 14 (by decide) (List.mem_of_getElem? (i := 6) rfl) rfl rfl dX6_walks_286 ?_
                refine lv_iload_n hx hb dX6_walks_289 rfl (lv_at hl 0 rfl) ?_
                refine lv_iconst (v := 1) hx hb dX6_walks_290 (by decide) ?_
                refine lv_isub hx hb dX6_walks_291 ?_
                refine f_iald S hK hw.1 10 1 rfl rfl g42 dX6_walks_292 ?_
                refine lv_iload hx hb dX6_walks_293 (lv_at hl 2 rfl) ?_
                refine lv_ior hx hb dX6_walks_295 ?_
                obtain ⟨y53, e54, hm⟩ := ob hm
                refine f_name e54 ?_
                refine f_iast S hK hw 10 1 rfl rfl g44 (ws1 := (wd_28 cC cI cJ a_md a_md_text md_typed a_md_told a_md_draft a_md_s a_md_past md_known a_md_images md_kept a_md_seen md_sights md_at a_md_asks a_md_brings a_md_uses a_md_days a_md_tries a_md_row md_many a_md_first md_length md_set a_md_held a_md_text md_text a_md_told md_told a_md_draft md_draft a_md_s md_s a_md_past md_past a_md_images md_images a_md_seen md_seen a_md_asks (upd md_asks ((v3 + 1)).toNatClampNeg y45) a_md_brings (upd md_brings ((v3 + 1)).toNatClampNeg y49) a_md_uses (upd md_uses ((v3 + 1)).toNatClampNeg y53) a_md_days md_days a_md_tries (upd md_tries (v3).toNatClampNeg y20) a_md_row (upd md_row (v3).toNatClampNeg (md_tries (v3).toNatClampNeg)) a_md_first md_first a_md_held md_held)) rfl dX6_walks_296 (fun H locs hw => ?_)
                refine lv_aload_n hx hb dX6_walks_297 rfl (lv_at hl 4 rfl) ?_
                refine f_get S hK hw.1 in_X6_walks_X6 0 rfl rfl 15 (by decide) (List.mem_of_getElem? (i := 7) rfl) rfl rfl dX6_walks_298 ?_
                refine lv_iload_n hx hb dX6_walks_301 rfl (lv_at hl 0 rfl) ?_
                refine lv_iload hx hb dX6_walks_302 (lv_at hl 1 rfl) ?_
                refine f_iast S hK hw 11 1 rfl rfl g44 (ws1 := (wd_28 cC cI cJ a_md a_md_text md_typed a_md_told a_md_draft a_md_s a_md_past md_known a_md_images md_kept a_md_seen md_sights md_at a_md_asks a_md_brings a_md_uses a_md_days a_md_tries a_md_row md_many a_md_first md_length md_set a_md_held a_md_text md_text a_md_told md_told a_md_draft md_draft a_md_s md_s a_md_past md_past a_md_images md_images a_md_seen md_seen a_md_asks (upd md_asks ((v3 + 1)).toNatClampNeg y45) a_md_brings (upd md_brings ((v3 + 1)).toNatClampNeg y49) a_md_uses (upd md_uses ((v3 + 1)).toNatClampNeg y53) a_md_days (upd md_days ((v3 + 1)).toNatClampNeg y36) a_md_tries (upd md_tries (v3).toNatClampNeg y20) a_md_row (upd md_row (v3).toNatClampNeg (md_tries (v3).toNatClampNeg)) a_md_first md_first a_md_held md_held)) rfl dX6_walks_304 (fun H locs hw => ?_)
                refine lv_aload_n hx hb dX6_walks_305 rfl (lv_at hl 4 rfl) ?_
                refine f_get S hK hw.1 in_X6_walks_X6 0 rfl rfl 16 (by decide) (List.mem_of_getElem? (i := 8) rfl) rfl rfl dX6_walks_306 ?_
                refine lv_iload_n hx hb dX6_walks_309 rfl (lv_at hl 0 rfl) ?_
                refine lv_iconst (v := 0) hx hb dX6_walks_310 (by decide) ?_
                refine f_iast S hK hw 12 1 rfl rfl g44 (ws1 := (wd_28 cC cI cJ a_md a_md_text md_typed a_md_told a_md_draft a_md_s a_md_past md_known a_md_images md_kept a_md_seen md_sights md_at a_md_asks a_md_brings a_md_uses a_md_days a_md_tries a_md_row md_many a_md_first md_length md_set a_md_held a_md_text md_text a_md_told md_told a_md_draft md_draft a_md_s md_s a_md_past md_past a_md_images md_images a_md_seen md_seen a_md_asks (upd md_asks ((v3 + 1)).toNatClampNeg y45) a_md_brings (upd md_brings ((v3 + 1)).toNatClampNeg y49) a_md_uses (upd md_uses ((v3 + 1)).toNatClampNeg y53) a_md_days (upd md_days ((v3 + 1)).toNatClampNeg y36) a_md_tries (upd (upd md_tries (v3).toNatClampNeg y20) ((v3 + 1)).toNatClampNeg (0 : Int32)) a_md_row (upd md_row (v3).toNatClampNeg (md_tries (v3).toNatClampNeg)) a_md_first md_first a_md_held md_held)) rfl dX6_walks_311 (fun H locs hw => ?_)
                refine lv_aload_n hx hb dX6_walks_312 rfl (lv_at hl 4 rfl) ?_
                refine f_get S hK hw.1 in_X6_walks_X6 0 rfl rfl 12 (by decide) (List.mem_of_getElem? (i := 3) rfl) rfl rfl dX6_walks_313 ?_
                refine lv_iload_n hx hb dX6_walks_316 rfl (lv_at hl 0 rfl) ?_
                refine f_iald S hK hw.1 8 1 rfl rfl g44 dX6_walks_317 ?_
                refine lv_aload_n hx hb dX6_walks_318 rfl (lv_at hl 4 rfl) ?_
                refine f_get S hK hw.1 in_X6_walks_X6 0 rfl rfl 13 (by decide) (List.mem_of_getElem? (i := 5) rfl) rfl rfl dX6_walks_319 ?_
                refine lv_iload_n hx hb dX6_walks_322 rfl (lv_at hl 0 rfl) ?_
                refine f_iald S hK hw.1 9 1 rfl rfl g44 dX6_walks_323 ?_
                refine lv_iconst (v := (-1)) hx hb dX6_walks_324 (by decide) ?_
                refine lv_ixor hx hb dX6_walks_325 ?_
                refine lv_iand hx hb dX6_walks_326 ?_
                refine lv_if_ne (tgt := 339) hx hb dX6_walks_327 (by decide) (fun c59 => ?_) (fun c59 => ?_)
                · replace hm := ineg hm c59
                  refine lv_goto (tgt := 89) hx hb dX6_walks_339 (by decide) ?_
                  exact ih (v3 + 1) md_many md_length (upd md_asks ((v3 + 1)).toNatClampNeg y45) (upd md_brings ((v3 + 1)).toNatClampNeg y49) (upd md_uses ((v3 + 1)).toNatClampNeg y53) (upd md_days ((v3 + 1)).toNatClampNeg y36) (upd (upd md_tries (v3).toNatClampNeg y20) ((v3 + 1)).toNatClampNeg (0 : Int32)) (upd md_row (v3).toNatClampNeg (md_tries (v3).toNatClampNeg)) md_first _ hm  _ _ ls hw (lv_sub hl [4, 5, 6, 0] rfl) K0
                · replace hm := ipos hm c59
                  refine lv_aload_n hx hb dX6_walks_330 rfl (lv_at hl 4 rfl) ?_
                  refine lv_iload_n hx hb dX6_walks_331 rfl (lv_at hl 0 rfl) ?_
                  refine lv_iload_n hx hb dX6_walks_332 rfl (lv_at hl 5 rfl) ?_
                  obtain ⟨r60, h61, hm⟩ := ob hm
                  refine k_wVv S hK hw cal_X6_counts gX6_walks_X6_counts (c_X6_counts l D cC cI cJ a_md a_md_text a_md_told a_md_draft a_md_s a_md_past a_md_images a_md_seen a_md_asks a_md_brings a_md_uses a_md_days a_md_tries a_md_row a_md_first a_md_held md_typed md_known md_kept md_sights md_at md_many md_length md_set md_text md_told md_draft md_s md_past md_images md_seen (upd md_asks ((v3 + 1)).toNatClampNeg y45) (upd md_brings ((v3 + 1)).toNatClampNeg y49) (upd md_uses ((v3 + 1)).toNatClampNeg y53) (upd md_days ((v3 + 1)).toNatClampNeg y36) (upd (upd md_tries (v3).toNatClampNeg y20) ((v3 + 1)).toNatClampNeg (0 : Int32)) (upd md_row (v3).toNatClampNeg (md_tries (v3).toNatClampNeg)) md_first md_held (v3 + 1) v1 N (aw _) (hw.own [0, 1, 2, 3, 4, 5, 6, 7, 8, 9, 10, 11, 12, 13, 14, 15] (by decide) rfl) r60 h61) ⟨⟨rfl, rfl⟩, Nat.le_of_ble_eq_true rfl, Nat.le_of_ble_eq_true rfl⟩ [0, 1, 2, 3, 4, 5, 6, 7, 8, 9, 10, 11, 12, 13, 14, 15] rfl 0 rfl rfl rfl hl.1 rfl (Nat.le_of_ble_eq_true rfl) dX6_walks_333 ⟨Nat.zero_le _, Nat.zero_le _⟩ (fun H locs hJ hB => ?_)
                  have hw := hJ _ hB rfl
                  replace hw : Wd D A _ (wd_28 cC cI cJ a_md a_md_text md_typed a_md_told a_md_draft a_md_s a_md_past md_known a_md_images md_kept a_md_seen md_sights md_at a_md_asks a_md_brings a_md_uses a_md_days a_md_tries a_md_row r60.1 a_md_first r60.2.1 md_set a_md_held a_md_text md_text a_md_told md_told a_md_draft md_draft a_md_s md_s a_md_past md_past a_md_images md_images a_md_seen md_seen a_md_asks (upd md_asks ((v3 + 1)).toNatClampNeg y45) a_md_brings (upd md_brings ((v3 + 1)).toNatClampNeg y49) a_md_uses (upd md_uses ((v3 + 1)).toNatClampNeg y53) a_md_days (upd md_days ((v3 + 1)).toNatClampNeg y36) a_md_tries (upd (upd md_tries (v3).toNatClampNeg y20) ((v3 + 1)).toNatClampNeg (0 : Int32)) a_md_row (upd md_row (v3).toNatClampNeg (md_tries (v3).toNatClampNeg)) a_md_first r60.2.2 a_md_held md_held) H locs := hw
                  refine lv_iinc (v := ((v3 + 1) + (-1))) (lv' := [(3, .int ((v3 + 1) + (-1))), (6, .int y36), (5, .int r31), (4, .int (md_tries (v3).toNatClampNeg)), (0, .ref a_md), (1, .int v1), (2, .int v2)]) hx hb dX6_walks_336 hl (k := 0) rfl (by rw [ofi_m1]) (by decide) rfl (fun ls hl => ?_)
                  refine lv_goto (tgt := 89) hx hb dX6_walks_339 (by decide) ?_
                  exact ih ((v3 + 1) + (-1)) r60.1 r60.2.1 (upd md_asks ((v3 + 1)).toNatClampNeg y45) (upd md_brings ((v3 + 1)).toNatClampNeg y49) (upd md_uses ((v3 + 1)).toNatClampNeg y53) (upd md_days ((v3 + 1)).toNatClampNeg y36) (upd (upd md_tries (v3).toNatClampNeg y20) ((v3 + 1)).toNatClampNeg (0 : Int32)) (upd md_row (v3).toNatClampNeg (md_tries (v3).toNatClampNeg)) r60.2.2 _ hm  _ _ ls hw (lv_sub hl [4, 5, 6, 0] rfl) K0
        · replace hm := ineg hm c24
          refine lv_aload_n hx hb dX6_walks_126 rfl (lv_at hl 1 rfl) ?_
          refine f_get S hK hw.1 in_X6_walks_X6 0 rfl rfl 18 (by decide) (List.mem_of_getElem? (i := 1) rfl) rfl rfl dX6_walks_127 ?_
          refine lv_if_le (tgt := 139) hx hb dX6_walks_130 (by decide) (fun c62 => ?_) (fun c62 => ?_)
          · replace hm := ipos hm c62
            refine lv_aload_n hx hb dX6_walks_139 rfl (lv_at hl 1 rfl) ?_
            refine f_get S hK hw.1 in_X6_walks_X6 0 rfl rfl 12 (by decide) (List.mem_of_getElem? (i := 3) rfl) rfl rfl dX6_walks_140 ?_
            refine lv_iload_n hx hb dX6_walks_143 rfl (lv_at hl 4 rfl) ?_
            refine f_iald S hK hw.1 8 1 rfl rfl g17 dX6_walks_144 ?_
            refine lv_aload_n hx hb dX6_walks_145 rfl (lv_at hl 1 rfl) ?_
            refine f_get S hK hw.1 in_X6_walks_X6 0 rfl rfl 13 (by decide) (List.mem_of_getElem? (i := 5) rfl) rfl rfl dX6_walks_146 ?_
            refine lv_iload_n hx hb dX6_walks_149 rfl (lv_at hl 4 rfl) ?_
            refine f_iald S hK hw.1 9 1 rfl rfl g17 dX6_walks_150 ?_
            refine lv_iconst (v := (-1)) hx hb dX6_walks_151 (by decide) ?_
            refine lv_ixor hx hb dX6_walks_152 ?_
            refine lv_iand hx hb dX6_walks_153 ?_
            refine lv_iload hx hb dX6_walks_154 (lv_at hl 0 rfl) ?_
            refine lv_ishr hx hb dX6_walks_156 ?_
            refine lv_iconst (v := 1) hx hb dX6_walks_157 (by decide) ?_
            refine lv_iand hx hb dX6_walks_158 ?_
            refine lv_iconst (v := 1) hx hb dX6_walks_159 (by decide) ?_
            refine lv_icmp_ne (tgt := 339) hx hb dX6_walks_160 (by decide) (fun c65 => ?_) (fun c65 => ?_)
            · replace hm := ineg hm c65
              refine lv_goto (tgt := 89) hx hb dX6_walks_339 (by decide) ?_
              exact ih v3 md_many md_length md_asks md_brings md_uses md_days (upd md_tries (v3).toNatClampNeg y20) md_row md_first _ hm  _ _ ls hw (lv_sub hl [1, 2, 3, 4] rfl) K0
            · replace hm := ipos hm c65
              refine lv_aload_n hx hb dX6_walks_163 rfl (lv_at hl 1 rfl) ?_
              refine lv_iload hx hb dX6_walks_164 (lv_at hl 0 rfl) ?_
              refine lv_aload_n hx hb dX6_walks_166 rfl (lv_at hl 1 rfl) ?_
              refine f_get S hK hw.1 in_X6_walks_X6 0 rfl rfl 4 (by decide) (List.mem_of_getElem? (i := 4) rfl) rfl rfl dX6_walks_167 ?_
              refine lv_iconst (v := 2) hx hb dX6_walks_170 (by decide) ?_
              refine f_ialdK S hK hw.1 4 1 rfl rfl 2 (by decide) (by decide) (v := (md_s 2)) rfl dX6_walks_171 ?_
              refine lv_aload_n hx hb dX6_walks_172 rfl (lv_at hl 1 rfl) ?_
              refine f_get S hK hw.1 in_X6_walks_X6 0 rfl rfl 14 (by decide) (List.mem_of_getElem? (i := 6) rfl) rfl rfl dX6_walks_173 ?_
              refine lv_iload_n hx hb dX6_walks_176 rfl (lv_at hl 4 rfl) ?_
              refine f_iald S hK hw.1 10 1 rfl rfl g17 dX6_walks_177 ?_
              refine lv_iconst (v := (-1)) hx hb dX6_walks_178 (by decide) ?_
              refine lv_ixor hx hb dX6_walks_179 ?_
              refine lv_iand hx hb dX6_walks_180 ?_
              refine lv_aload_n hx hb dX6_walks_181 rfl (lv_at hl 1 rfl) ?_
              refine f_get S hK hw.1 in_X6_walks_X6 0 rfl rfl 15 (by decide) (List.mem_of_getElem? (i := 7) rfl) rfl rfl dX6_walks_182 ?_
              refine lv_iload_n hx hb dX6_walks_185 rfl (lv_at hl 4 rfl) ?_
              refine f_iald S hK hw.1 11 1 rfl rfl g17 dX6_walks_186 ?_
              obtain ⟨r69, h70, hm⟩ := ob hm
              refine k_rVi S hK hw.1 cal_X6_helpFor gX6_walks_X6_helpFor (c_X6_helpFor l D cC cI cJ a_md a_md_text a_md_told a_md_draft a_md_s a_md_past a_md_images a_md_seen a_md_asks a_md_brings a_md_uses a_md_days a_md_tries a_md_row a_md_first a_md_held md_typed md_known md_kept md_sights md_at md_many md_length md_set md_text md_told md_draft md_s md_past md_images md_seen md_asks md_brings md_uses md_days (upd md_tries (v3).toNatClampNeg y20) md_row md_first md_held (md_tries (v3).toNatClampNeg) ((md_s 2) &&& ((md_uses (v3).toNatClampNeg) ^^^ (-1 : Int32))) (md_days (v3).toNatClampNeg) N r69 h70) ⟨⟨rfl, rfl⟩, Nat.le_of_ble_eq_true rfl, Nat.le_of_ble_eq_true rfl⟩ [0, 1, 2, 3, 4, 5, 6, 7, 8, 9, 10, 11, 12, 13, 14, 15] rfl 0 rfl rfl rfl hl.1 rfl (Nat.le_of_ble_eq_true rfl) dX6_walks_187 ⟨Nat.zero_le _, Nat.zero_le _⟩ ?_
              refine lv_istore (lv' := [(5, .int r69), (4, .int (md_tries (v3).toNatClampNeg)), (0, .ref a_md), (1, .int v1), (2, .int v2), (3, .int v3)]) hx hb dX6_walks_190 hl (by decide) rfl (fun ls hl => ?_)
              refine lv_aload_n hx hb dX6_walks_192 rfl (lv_at hl 2 rfl) ?_
              refine f_get S hK hw.1 in_X6_walks_X6 0 rfl rfl 15 (by decide) (List.mem_of_getElem? (i := 7) rfl) rfl rfl dX6_walks_193 ?_
              refine lv_iload_n hx hb dX6_walks_196 rfl (lv_at hl 5 rfl) ?_
              refine f_iald S hK hw.1 11 1 rfl rfl g17 dX6_walks_197 ?_
              refine lv_aload_n hx hb dX6_walks_198 rfl (lv_at hl 2 rfl) ?_
              refine lv_iload hx hb dX6_walks_199 (lv_at hl 1 rfl) ?_
              obtain ⟨r72, h73, hm⟩ := ob hm
              refine k_rVi S hK hw.1 cal_X6_daysOf gX6_walks_X6_daysOf (c_X6_daysOf l D cC cI cJ a_md a_md_text a_md_told a_md_draft a_md_s a_md_past a_md_images a_md_seen a_md_asks a_md_brings a_md_uses a_md_days a_md_tries a_md_row a_md_first a_md_held md_typed md_known md_kept md_sights md_at md_many md_length md_set md_text md_told md_draft md_s md_past md_images md_seen md_asks md_brings md_uses md_days (upd md_tries (v3).toNatClampNeg y20) md_row md_first md_held (md_tries (v3).toNatClampNeg) r72 h73) ⟨⟨rfl, rfl⟩, Nat.le_of_ble_eq_true rfl, Nat.le_of_ble_eq_true rfl⟩ [0, 1, 2, 3, 4, 5, 6, 7, 8, 9, 10, 11, 12, 13, 14, 15] rfl 0 rfl rfl rfl hl.1 rfl (Nat.le_of_ble_eq_true rfl) dX6_walks_201 ⟨Nat.zero_le _, Nat.zero_le _⟩ ?_
              refine lv_iadd hx hb dX6_walks_204 ?_
              obtain ⟨y74, e75, hm⟩ := ob hm
              refine f_name e75 ?_
              refine lv_istore (lv' := [(6, .int y74), (5, .int r69), (4, .int (md_tries (v3).toNatClampNeg)), (0, .ref a_md), (1, .int v1), (2, .int v2), (3, .int v3)]) hx hb dX6_walks_205 hl (by decide) rfl (fun ls hl => ?_)
              refine lv_iload hx hb dX6_walks_207 (lv_at hl 1 rfl) ?_
              refine lv_if_lt (tgt := 339) hx hb dX6_walks_209 (by decide) (fun c76 => ?_) (fun c76 => ?_)
              · replace hm := ipos hm c76
                refine lv_goto (tgt := 89) hx hb dX6_walks_339 (by decide) ?_
                exact ih v3 md_many md_length md_asks md_brings md_uses md_days (upd md_tries (v3).toNatClampNeg y20) md_row md_first _ hm  _ _ ls hw (lv_sub hl [3, 4, 5, 6] rfl) K0
              · replace hm := ineg hm c76
                refine lv_iload hx hb dX6_walks_212 (lv_at hl 0 rfl) ?_
                refine lv_aload_n hx hb dX6_walks_214 rfl (lv_at hl 3 rfl) ?_
                refine f_get S hK hw.1 in_X6_walks_X6 0 rfl rfl 2 (by decide) (List.mem_of_getElem? (i := 9) rfl) rfl rfl dX6_walks_215 ?_
                refine lv_iconst (v := 3) hx hb dX6_walks_218 (by decide) ?_
                refine f_ialdK S hK hw.1 2 1 rfl rfl 3 (by decide) (by decide) (v := (md_told 3)) rfl dX6_walks_219 ?_
                refine lv_icmp_gt (tgt := 339) hx hb dX6_walks_220 (by decide) (fun c78 => ?_) (fun c78 => ?_)
                · replace hm := ipos hm c78
                  refine lv_goto (tgt := 89) hx hb dX6_walks_339 (by decide) ?_
                  exact ih v3 md_many md_length md_asks md_brings md_uses md_days (upd md_tries (v3).toNatClampNeg y20) md_row md_first _ hm  _ _ ls hw (lv_sub hl [3, 4, 5, 6] rfl) K0
                · replace hm := ineg hm c78
                  refine lv_aload_n hx hb dX6_walks_223 rfl (lv_at hl 3 rfl) ?_
                  refine f_get S hK hw.1 in_X6_walks_X6 0 rfl rfl 17 (by decide) (List.mem_of_getElem? (i := 10) rfl) rfl rfl dX6_walks_224 ?_
                  refine lv_iload_n hx hb dX6_walks_227 rfl (lv_at hl 6 rfl) ?_
                  refine lv_iload hx hb dX6_walks_228 (lv_at hl 2 rfl) ?_
                  obtain ⟨g79, hm⟩ := gdo hm
                  refine f_iast S hK hw 13 1 rfl rfl g79 (ws1 := (wd_28 cC cI cJ a_md a_md_text md_typed a_md_told a_md_draft a_md_s a_md_past md_known a_md_images md_kept a_md_seen md_sights md_at a_md_asks a_md_brings a_md_uses a_md_days a_md_tries a_md_row md_many a_md_first md_length md_set a_md_held a_md_text md_text a_md_told md_told a_md_draft md_draft a_md_s md_s a_md_past md_past a_md_images md_images a_md_seen md_seen a_md_asks md_asks a_md_brings md_brings a_md_uses md_uses a_md_days md_days a_md_tries (upd md_tries (v3).toNatClampNeg y20) a_md_row (upd md_row (v3).toNatClampNeg (md_tries (v3).toNatClampNeg)) a_md_first md_first a_md_held md_held)) rfl dX6_walks_230 (fun H locs hw => ?_)
                  refine lv_iinc (v := (v3 + 1)) (lv' := [(3, .int (v3 + 1)), (6, .int y74), (5, .int r69), (4, .int (md_tries (v3).toNatClampNeg)), (0, .ref a_md), (1, .int v1), (2, .int v2)]) hx hb dX6_walks_231 hl (k := 6) rfl (by rw [ofi_1]) (by decide) rfl (fun ls hl => ?_)
                  refine lv_aload_n hx hb dX6_walks_234 rfl (lv_at hl 4 rfl) ?_
                  refine f_get S hK hw.1 in_X6_walks_X6 0 rfl rfl 12 (by decide) (List.mem_of_getElem? (i := 3) rfl) rfl rfl dX6_walks_235 ?_
                  refine lv_iload_n hx hb dX6_walks_238 rfl (lv_at hl 0 rfl) ?_
                  refine lv_aload_n hx hb dX6_walks_239 rfl (lv_at hl 4 rfl) ?_
                  refine f_get S hK hw.1 in_X6_walks_X6 0 rfl rfl 12 (by decide) (List.mem_of_getElem? (i := 3) rfl) rfl rfl dX6_walks_240 ?_
                  refine lv_iload_n hx hb dX6_walks_243 rfl (lv_at hl 0 rfl) ?_
                  refine lv_iconst (v := 1) hx hb dX6_walks_244 (by decide) ?_
                  refine lv_isub hx hb dX6_walks_245 ?_
                  obtain ⟨g80, hm⟩ := gdo hm
                  refine f_iald S hK hw.1 8 1 rfl rfl g80 dX6_walks_246 ?_
                  refine lv_iconst (v := 1) hx hb dX6_walks_247 (by decide) ?_
                  refine lv_aload_n hx hb dX6_walks_248 rfl (lv_at hl 4 rfl) ?_
                  refine f_get S hK hw.1 in_X6_walks_X6 0 rfl rfl 2 (by decide) (List.mem_of_getElem? (i := 9) rfl) rfl rfl dX6_walks_249 ?_
                  refine lv_bipush (v := 29) hx hb dX6_walks_252 (by decide) ?_
                  refine lv_iload hx hb dX6_walks_254 (lv_at hl 3 rfl) ?_
                  refine lv_iadd hx hb dX6_walks_256 ?_
                  obtain ⟨g81, hm⟩ := gdo hm
                  refine f_iald S hK hw.1 2 1 rfl rfl g81 dX6_walks_257 ?_
                  refine lv_ishl hx hb dX6_walks_258 ?_
                  refine lv_ior hx hb dX6_walks_259 ?_
                  obtain ⟨y83, e84, hm⟩ := ob hm
                  refine f_name e84 ?_
                  obtain ⟨g82, hm⟩ := gdo hm
                  refine f_iast S hK hw 8 1 rfl rfl g82 (ws1 := (wd_28 cC cI cJ a_md a_md_text md_typed a_md_told a_md_draft a_md_s a_md_past md_known a_md_images md_kept a_md_seen md_sights md_at a_md_asks a_md_brings a_md_uses a_md_days a_md_tries a_md_row md_many a_md_first md_length md_set a_md_held a_md_text md_text a_md_told md_told a_md_draft md_draft a_md_s md_s a_md_past md_past a_md_images md_images a_md_seen md_seen a_md_asks (upd md_asks ((v3 + 1)).toNatClampNeg y83) a_md_brings md_brings a_md_uses md_uses a_md_days md_days a_md_tries (upd md_tries (v3).toNatClampNeg y20) a_md_row (upd md_row (v3).toNatClampNeg (md_tries (v3).toNatClampNeg)) a_md_first md_first a_md_held md_held)) rfl dX6_walks_260 (fun H locs hw => ?_)
                  refine lv_aload_n hx hb dX6_walks_261 rfl (lv_at hl 4 rfl) ?_
                  refine f_get S hK hw.1 in_X6_walks_X6 0 rfl rfl 13 (by decide) (List.mem_of_getElem? (i := 5) rfl) rfl rfl dX6_walks_262 ?_
                  refine lv_iload_n hx hb dX6_walks_265 rfl (lv_at hl 0 rfl) ?_
                  refine lv_aload_n hx hb dX6_walks_266 rfl (lv_at hl 4 rfl) ?_
                  refine f_get S hK hw.1 in_X6_walks_X6 0 rfl rfl 13 (by decide) (List.mem_of_getElem? (i := 5) rfl) rfl rfl dX6_walks_267 ?_
                  refine lv_iload_n hx hb dX6_walks_270 rfl (lv_at hl 0 rfl) ?_
                  refine lv_iconst (v := 1) hx hb dX6_walks_271 (by decide) ?_
                  refine lv_isub hx hb dX6_walks_272 ?_
                  refine f_iald S hK hw.1 9 1 rfl rfl g80 dX6_walks_273 ?_
                  refine lv_iconst (v := 1) hx hb dX6_walks_274 (by decide) ?_
                  refine lv_iload hx hb dX6_walks_275 (lv_at hl 3 rfl) ?_
                  refine lv_ishl hx hb dX6_walks_277 ?_
                  refine lv_ior hx hb dX6_walks_278 ?_
                  obtain ⟨y87, e88, hm⟩ := ob hm
                  refine f_name e88 ?_
                  refine f_iast S hK hw 9 1 rfl rfl g82 (ws1 := (wd_28 cC cI cJ a_md a_md_text md_typed a_md_told a_md_draft a_md_s a_md_past md_known a_md_images md_kept a_md_seen md_sights md_at a_md_asks a_md_brings a_md_uses a_md_days a_md_tries a_md_row md_many a_md_first md_length md_set a_md_held a_md_text md_text a_md_told md_told a_md_draft md_draft a_md_s md_s a_md_past md_past a_md_images md_images a_md_seen md_seen a_md_asks (upd md_asks ((v3 + 1)).toNatClampNeg y83) a_md_brings (upd md_brings ((v3 + 1)).toNatClampNeg y87) a_md_uses md_uses a_md_days md_days a_md_tries (upd md_tries (v3).toNatClampNeg y20) a_md_row (upd md_row (v3).toNatClampNeg (md_tries (v3).toNatClampNeg)) a_md_first md_first a_md_held md_held)) rfl dX6_walks_279 (fun H locs hw => ?_)
                  refine lv_aload_n hx hb dX6_walks_280 rfl (lv_at hl 4 rfl) ?_
                  refine f_get S hK hw.1 in_X6_walks_X6 0 rfl rfl 14 (by decide) (List.mem_of_getElem? (i := 6) rfl) rfl rfl dX6_walks_281 ?_
                  refine lv_iload_n hx hb dX6_walks_284 rfl (lv_at hl 0 rfl) ?_
                  refine lv_aload_n hx hb dX6_walks_285 rfl (lv_at hl 4 rfl) ?_
                  refine f_get S hK hw.1 in_X6_walks_X6 0 rfl rfl 14 (by decide) (List.mem_of_getElem? (i := 6) rfl) rfl rfl dX6_walks_286 ?_
                  refine lv_iload_n hx hb dX6_walks_289 rfl (lv_at hl 0 rfl) ?_
                  refine lv_iconst (v := 1) hx hb dX6_walks_290 (by decide) ?_
                  refine lv_isub hx hb dX6_walks_291 ?_
                  refine f_iald S hK hw.1 10 1 rfl rfl g80 dX6_walks_292 ?_
                  refine lv_iload hx hb dX6_walks_293 (lv_at hl 2 rfl) ?_
                  refine lv_ior hx hb dX6_walks_295 ?_
                  obtain ⟨y91, e92, hm⟩ := ob hm
                  refine f_name e92 ?_
                  refine f_iast S hK hw 10 1 rfl rfl g82 (ws1 := (wd_28 cC cI cJ a_md a_md_text md_typed a_md_told a_md_draft a_md_s a_md_past md_known a_md_images md_kept a_md_seen md_sights md_at a_md_asks a_md_brings a_md_uses a_md_days a_md_tries a_md_row md_many a_md_first md_length md_set a_md_held a_md_text md_text a_md_told md_told a_md_draft md_draft a_md_s md_s a_md_past md_past a_md_images md_images a_md_seen md_seen a_md_asks (upd md_asks ((v3 + 1)).toNatClampNeg y83) a_md_brings (upd md_brings ((v3 + 1)).toNatClampNeg y87) a_md_uses (upd md_uses ((v3 + 1)).toNatClampNeg y91) a_md_days md_days a_md_tries (upd md_tries (v3).toNatClampNeg y20) a_md_row (upd md_row (v3).toNatClampNeg (md_tries (v3).toNatClampNeg)) a_md_first md_first a_md_held md_held)) rfl dX6_walks_296 (fun H locs hw => ?_)
                  refine lv_aload_n hx hb dX6_walks_297 rfl (lv_at hl 4 rfl) ?_
                  refine f_get S hK hw.1 in_X6_walks_X6 0 rfl rfl 15 (by decide) (List.mem_of_getElem? (i := 7) rfl) rfl rfl dX6_walks_298 ?_
                  refine lv_iload_n hx hb dX6_walks_301 rfl (lv_at hl 0 rfl) ?_
                  refine lv_iload hx hb dX6_walks_302 (lv_at hl 1 rfl) ?_
                  refine f_iast S hK hw 11 1 rfl rfl g82 (ws1 := (wd_28 cC cI cJ a_md a_md_text md_typed a_md_told a_md_draft a_md_s a_md_past md_known a_md_images md_kept a_md_seen md_sights md_at a_md_asks a_md_brings a_md_uses a_md_days a_md_tries a_md_row md_many a_md_first md_length md_set a_md_held a_md_text md_text a_md_told md_told a_md_draft md_draft a_md_s md_s a_md_past md_past a_md_images md_images a_md_seen md_seen a_md_asks (upd md_asks ((v3 + 1)).toNatClampNeg y83) a_md_brings (upd md_brings ((v3 + 1)).toNatClampNeg y87) a_md_uses (upd md_uses ((v3 + 1)).toNatClampNeg y91) a_md_days (upd md_days ((v3 + 1)).toNatClampNeg y74) a_md_tries (upd md_tries (v3).toNatClampNeg y20) a_md_row (upd md_row (v3).toNatClampNeg (md_tries (v3).toNatClampNeg)) a_md_first md_first a_md_held md_held)) rfl dX6_walks_304 (fun H locs hw => ?_)
                  refine lv_aload_n hx hb dX6_walks_305 rfl (lv_at hl 4 rfl) ?_
                  refine f_get S hK hw.1 in_X6_walks_X6 0 rfl rfl 16 (by decide) (List.mem_of_getElem? (i := 8) rfl) rfl rfl dX6_walks_306 ?_
                  refine lv_iload_n hx hb dX6_walks_309 rfl (lv_at hl 0 rfl) ?_
                  refine lv_iconst (v := 0) hx hb dX6_walks_310 (by decide) ?_
                  refine f_iast S hK hw 12 1 rfl rfl g82 (ws1 := (wd_28 cC cI cJ a_md a_md_text md_typed a_md_told a_md_draft a_md_s a_md_past md_known a_md_images md_kept a_md_seen md_sights md_at a_md_asks a_md_brings a_md_uses a_md_days a_md_tries a_md_row md_many a_md_first md_length md_set a_md_held a_md_text md_text a_md_told md_told a_md_draft md_draft a_md_s md_s a_md_past md_past a_md_images md_images a_md_seen md_seen a_md_asks (upd md_asks ((v3 + 1)).toNatClampNeg y83) a_md_brings (upd md_brings ((v3 + 1)).toNatClampNeg y87) a_md_uses (upd md_uses ((v3 + 1)).toNatClampNeg y91) a_md_days (upd md_days ((v3 + 1)).toNatClampNeg y74) a_md_tries (upd (upd md_tries (v3).toNatClampNeg y20) ((v3 + 1)).toNatClampNeg (0 : Int32)) a_md_row (upd md_row (v3).toNatClampNeg (md_tries (v3).toNatClampNeg)) a_md_first md_first a_md_held md_held)) rfl dX6_walks_311 (fun H locs hw => ?_)
                  refine lv_aload_n hx hb dX6_walks_312 rfl (lv_at hl 4 rfl) ?_
                  refine f_get S hK hw.1 in_X6_walks_X6 0 rfl rfl 12 (by decide) (List.mem_of_getElem? (i := 3) rfl) rfl rfl dX6_walks_313 ?_
                  refine lv_iload_n hx hb dX6_walks_316 rfl (lv_at hl 0 rfl) ?_
                  refine f_iald S hK hw.1 8 1 rfl rfl g82 dX6_walks_317 ?_
                  refine lv_aload_n hx hb dX6_walks_318 rfl (lv_at hl 4 rfl) ?_
                  refine f_get S hK hw.1 in_X6_walks_X6 0 rfl rfl 13 (by decide) (List.mem_of_getElem? (i := 5) rfl) rfl rfl dX6_walks_319 ?_
                  refine lv_iload_n hx hb dX6_walks_322 rfl (lv_at hl 0 rfl) ?_
                  refine f_iald S hK hw.1 9 1 rfl rfl g82 dX6_walks_323 ?_
                  refine lv_iconst (v := (-1)) hx hb dX6_walks_324 (by decide) ?_
                  refine lv_ixor hx hb dX6_walks_325 ?_
                  refine lv_iand hx hb dX6_walks_326 ?_
                  refine lv_if_ne (tgt := 339) hx hb dX6_walks_327 (by decide) (fun c97 => ?_) (fun c97 => ?_)
                  · replace hm := ineg hm c97
                    refine lv_goto (tgt := 89) hx hb dX6_walks_339 (by decide) ?_
                    exact ih (v3 + 1) md_many md_length (upd md_asks ((v3 + 1)).toNatClampNeg y83) (upd md_brings ((v3 + 1)).toNatClampNeg y87) (upd md_uses ((v3 + 1)).toNatClampNeg y91) (upd md_days ((v3 + 1)).toNatClampNeg y74) (upd (upd md_tries (v3).toNatClampNeg y20) ((v3 + 1)).toNatClampNeg (0 : Int32)) (upd md_row (v3).toNatClampNeg (md_tries (v3).toNatClampNeg)) md_first _ hm  _ _ ls hw (lv_sub hl [4, 5, 6, 0] rfl) K0
                  · replace hm := ipos hm c97
                    refine lv_aload_n hx hb dX6_walks_330 rfl (lv_at hl 4 rfl) ?_
                    refine lv_iload_n hx hb dX6_walks_331 rfl (lv_at hl 0 rfl) ?_
                    refine lv_iload_n hx hb dX6_walks_332 rfl (lv_at hl 5 rfl) ?_
                    obtain ⟨r98, h99, hm⟩ := ob hm
                    refine k_wVv S hK hw cal_X6_counts gX6_walks_X6_counts (c_X6_counts l D cC cI cJ a_md a_md_text a_md_told a_md_draft a_md_s a_md_past a_md_images a_md_seen a_md_asks a_md_brings a_md_uses a_md_days a_md_tries a_md_row a_md_first a_md_held md_typed md_known md_kept md_sights md_at md_many md_length md_set md_text md_told md_draft md_s md_past md_images md_seen (upd md_asks ((v3 + 1)).toNatClampNeg y83) (upd md_brings ((v3 + 1)).toNatClampNeg y87) (upd md_uses ((v3 + 1)).toNatClampNeg y91) (upd md_days ((v3 + 1)).toNatClampNeg y74) (upd (upd md_tries (v3).toNatClampNeg y20) ((v3 + 1)).toNatClampNeg (0 : Int32)) (upd md_row (v3).toNatClampNeg (md_tries (v3).toNatClampNeg)) md_first md_held (v3 + 1) v1 N (aw _) (hw.own [0, 1, 2, 3, 4, 5, 6, 7, 8, 9, 10, 11, 12, 13, 14, 15] (by decide) rfl) r98 h99) ⟨⟨rfl, rfl⟩, Nat.le_of_ble_eq_true rfl, Nat.le_of_ble_eq_true rfl⟩ [0, 1, 2, 3, 4, 5, 6, 7, 8, 9, 10, 11, 12, 13, 14, 15] rfl 0 rfl rfl rfl hl.1 rfl (Nat.le_of_ble_eq_true rfl) dX6_walks_333 ⟨Nat.zero_le _, Nat.zero_le _⟩ (fun H locs hJ hB => ?_)
                    have hw := hJ _ hB rfl
                    replace hw : Wd D A _ (wd_28 cC cI cJ a_md a_md_text md_typed a_md_told a_md_draft a_md_s a_md_past md_known a_md_images md_kept a_md_seen md_sights md_at a_md_asks a_md_brings a_md_uses a_md_days a_md_tries a_md_row r98.1 a_md_first r98.2.1 md_set a_md_held a_md_text md_text a_md_told md_told a_md_draft md_draft a_md_s md_s a_md_past md_past a_md_images md_images a_md_seen md_seen a_md_asks (upd md_asks ((v3 + 1)).toNatClampNeg y83) a_md_brings (upd md_brings ((v3 + 1)).toNatClampNeg y87) a_md_uses (upd md_uses ((v3 + 1)).toNatClampNeg y91) a_md_days (upd md_days ((v3 + 1)).toNatClampNeg y74) a_md_tries (upd (upd md_tries (v3).toNatClampNeg y20) ((v3 + 1)).toNatClampNeg (0 : Int32)) a_md_row (upd md_row (v3).toNatClampNeg (md_tries (v3).toNatClampNeg)) a_md_first r98.2.2 a_md_held md_held) H locs := hw
                    refine lv_iinc (v := ((v3 + 1) + (-1))) (lv' := [(3, .int ((v3 + 1) + (-1))), (6, .int y74), (5, .int r69), (4, .int (md_tries (v3).toNatClampNeg)), (0, .ref a_md), (1, .int v1), (2, .int v2)]) hx hb dX6_walks_336 hl (k := 0) rfl (by rw [ofi_m1]) (by decide) rfl (fun ls hl => ?_)
                    refine lv_goto (tgt := 89) hx hb dX6_walks_339 (by decide) ?_
                    exact ih ((v3 + 1) + (-1)) r98.1 r98.2.1 (upd md_asks ((v3 + 1)).toNatClampNeg y83) (upd md_brings ((v3 + 1)).toNatClampNeg y87) (upd md_uses ((v3 + 1)).toNatClampNeg y91) (upd md_days ((v3 + 1)).toNatClampNeg y74) (upd (upd md_tries (v3).toNatClampNeg y20) ((v3 + 1)).toNatClampNeg (0 : Int32)) (upd md_row (v3).toNatClampNeg (md_tries (v3).toNatClampNeg)) r98.2.2 _ hm  _ _ ls hw (lv_sub hl [4, 5, 6, 0] rfl) K0
          · replace hm := ineg hm c62
            refine lv_iinc (v := (v3 + (-1))) (lv' := [(3, .int (v3 + (-1))), (4, .int (md_tries (v3).toNatClampNeg)), (0, .ref a_md), (1, .int v1), (2, .int v2)]) hx hb dX6_walks_133 hl (k := 4) rfl (by rw [ofi_m1]) (by decide) rfl (fun ls hl => ?_)
            refine lv_goto (tgt := 339) hx hb dX6_walks_136 (by decide) ?_
            refine lv_goto (tgt := 89) hx hb dX6_walks_339 (by decide) ?_
            exact ih (v3 + (-1)) md_many md_length md_asks md_brings md_uses md_days (upd md_tries (v3).toNatClampNeg y20) md_row md_first _ hm  _ _ ls hw (lv_sub hl [2, 3, 4, 0] rfl) K0
set_option maxHeartbeats 4000000 in
set_option maxRecDepth 100000 in
theorem c_X6_walks (l : Launch) (D : va_G) (cC cI cJ : ClassId) (a_md : Nat) (a_md_text : Nat) (a_md_told : Nat) (a_md_draft : Nat) (a_md_s : Nat) (a_md_past : Nat) (a_md_images : Nat) (a_md_seen : Nat) (a_md_asks : Nat) (a_md_brings : Nat) (a_md_uses : Nat) (a_md_days : Nat) (a_md_tries : Nat) (a_md_row : Nat) (a_md_first : Nat) (a_md_held : Nat) (md_typed : Int32) (md_known : Int32) (md_kept : Int32) (md_sights : Int32) (md_at : Int32) (md_many : Int32) (md_length : Int32) (md_set : Int32) (md_text : (Nat → Int32)) (md_told : (Nat → Int32)) (md_draft : (Nat → Int32)) (md_s : (Nat → Int32)) (md_past : (Nat → Int32)) (md_images : (Nat → Int32)) (md_seen : (Nat → Int32)) (md_asks : (Nat → Int32)) (md_brings : (Nat → Int32)) (md_uses : (Nat → Int32)) (md_days : (Nat → Int32)) (md_tries : (Nat → Int32)) (md_row : (Nat → Int32)) (md_first : (Nat → Int32)) (md_held : (Nat → Int32)) (p0 : Int32) (p1 : Int32) (N : Nat) (A : Nat → Prop) (hD : va_D A (wd_28 cC cI cJ a_md a_md_text md_typed a_md_told a_md_draft a_md_s a_md_past md_known a_md_images md_kept a_md_seen md_sights md_at a_md_asks a_md_brings a_md_uses a_md_days a_md_tries a_md_row md_many a_md_first md_length md_set a_md_held a_md_text md_text a_md_told md_told a_md_draft md_draft a_md_s md_s a_md_past md_past a_md_images md_images a_md_seen md_seen a_md_asks md_asks a_md_brings md_brings a_md_uses md_uses a_md_days md_days a_md_tries md_tries a_md_row md_row a_md_first md_first a_md_held md_held)) (out : (Int32 × Int32 × (Nat → Int32) × (Nat → Int32) × (Nat → Int32) × (Nat → Int32) × (Nat → Int32) × (Nat → Int32) × (Nat → Int32))) (hm : m_X6_walks N md_sights md_told md_s md_seen md_asks md_brings md_uses md_days md_tries md_row md_first p0 p1 = some out) : WrV l yX6_walks wsX6_walks rX6_walks D (tyK cC cI cJ) [.ref a_md, .int p0, .int p1] A (wd_28 cC cI cJ a_md a_md_text md_typed a_md_told a_md_draft a_md_s a_md_past md_known a_md_images md_kept a_md_seen md_sights md_at a_md_asks a_md_brings a_md_uses a_md_days a_md_tries a_md_row md_many a_md_first md_length md_set a_md_held a_md_text md_text a_md_told md_told a_md_draft md_draft a_md_s md_s a_md_past md_past a_md_images md_images a_md_seen md_seen a_md_asks md_asks a_md_brings md_brings a_md_uses md_uses a_md_days md_days a_md_tries md_tries a_md_row md_row a_md_first md_first a_md_held md_held) (Bw0 D (wd_28 cC cI cJ a_md a_md_text md_typed a_md_told a_md_draft a_md_s a_md_past md_known a_md_images md_kept a_md_seen md_sights md_at a_md_asks a_md_brings a_md_uses a_md_days a_md_tries a_md_row out.1 a_md_first out.2.1 md_set a_md_held a_md_text md_text a_md_told md_told a_md_draft md_draft a_md_s md_s a_md_past md_past a_md_images md_images a_md_seen md_seen a_md_asks out.2.2.1 a_md_brings out.2.2.2.1 a_md_uses out.2.2.2.2.1 a_md_days out.2.2.2.2.2.1 a_md_tries out.2.2.2.2.2.2.1 a_md_row out.2.2.2.2.2.2.2.1 a_md_first out.2.2.2.2.2.2.2.2 a_md_held md_held)) := by
  unfold m_X6_walks at hm
  refine enter (cc := cX6_walks) (maxL := 7) (ret := none) (lv := [(0, .ref a_md), (1, .int p0), (2, .int p1)]) (by decide) rfl (Nat.le_of_ble_eq_true rfl) rfl ?_
  intro p e s m args below meth c S hr hlk hK hP ls hl
  replace S : CallFix p m c cX6_walks 7 s args wsX6_walks RX6 := S
  have hx := S.1
  have hb := S.2.1
  have hw : Wd D A s.heap (wd_28 cC cI cJ a_md a_md_text md_typed a_md_told a_md_draft a_md_s a_md_past md_known a_md_images md_kept a_md_seen md_sights md_at a_md_asks a_md_brings a_md_uses a_md_days a_md_tries a_md_row md_many a_md_first md_length md_set a_md_held a_md_text md_text a_md_told md_told a_md_draft md_draft a_md_s md_s a_md_past md_past a_md_images md_images a_md_seen md_seen a_md_asks md_asks a_md_brings md_brings a_md_uses md_uses a_md_days md_days a_md_tries md_tries a_md_row md_row a_md_first md_first a_md_held md_held) s.heap [] := ⟨hP, hD, va_S.rf⟩
  have hw0 := hw
  refine lv_aload_n hx hb dX6_walks_0 rfl (lv_at hl 0 rfl) ?_
  refine lv_iconst (v := 0) hx hb dX6_walks_1 (by decide) ?_
  refine f_put S hK hw in_X6_walks_X6 tyX6_ok nmX6 0 rfl rfl 18 (by decide) (List.mem_of_getElem? (i := 1) rfl) rfl rfl rfl rfl (Nat.le_of_ble_eq_true rfl) (ws1 := (wd_28 cC cI cJ a_md a_md_text md_typed a_md_told a_md_draft a_md_s a_md_past md_known a_md_images md_kept a_md_seen md_sights md_at a_md_asks a_md_brings a_md_uses a_md_days a_md_tries a_md_row (0 : Int32) a_md_first md_length md_set a_md_held a_md_text md_text a_md_told md_told a_md_draft md_draft a_md_s md_s a_md_past md_past a_md_images md_images a_md_seen md_seen a_md_asks md_asks a_md_brings md_brings a_md_uses md_uses a_md_days md_days a_md_tries md_tries a_md_row md_row a_md_first md_first a_md_held md_held)) rfl dX6_walks_2 (fun H locs hw => ?_)
  refine lv_aload_n hx hb dX6_walks_5 rfl (lv_at hl 0 rfl) ?_
  refine lv_iconst (v := 0) hx hb dX6_walks_6 (by decide) ?_
  refine f_put S hK hw in_X6_walks_X6 tyX6_ok nmX6 0 rfl rfl 20 (by decide) (List.mem_of_getElem? (i := 2) rfl) rfl rfl rfl rfl (Nat.le_of_ble_eq_true rfl) (ws1 := (wd_28 cC cI cJ a_md a_md_text md_typed a_md_told a_md_draft a_md_s a_md_past md_known a_md_images md_kept a_md_seen md_sights md_at a_md_asks a_md_brings a_md_uses a_md_days a_md_tries a_md_row (0 : Int32) a_md_first (0 : Int32) md_set a_md_held a_md_text md_text a_md_told md_told a_md_draft md_draft a_md_s md_s a_md_past md_past a_md_images md_images a_md_seen md_seen a_md_asks md_asks a_md_brings md_brings a_md_uses md_uses a_md_days md_days a_md_tries md_tries a_md_row md_row a_md_first md_first a_md_held md_held)) rfl dX6_walks_7 (fun H locs hw => ?_)
  refine lv_iconst (v := 0) hx hb dX6_walks_10 (by decide) ?_
  refine lv_istore_n (lv' := [(3, .int (0 : Int32)), (0, .ref a_md), (1, .int p0), (2, .int p1)]) hx hb dX6_walks_11 rfl hl (by decide) rfl (fun ls hl => ?_)
  refine lv_aload_n hx hb dX6_walks_12 rfl (lv_at hl 1 rfl) ?_
  refine f_get S hK hw.1 in_X6_walks_X6 0 rfl rfl 12 (by decide) (List.mem_of_getElem? (i := 3) rfl) rfl rfl dX6_walks_13 ?_
  refine lv_iconst (v := 0) hx hb dX6_walks_16 (by decide) ?_
  refine lv_aload_n hx hb dX6_walks_17 rfl (lv_at hl 1 rfl) ?_
  refine f_get S hK hw.1 in_X6_walks_X6 0 rfl rfl 4 (by decide) (List.mem_of_getElem? (i := 4) rfl) rfl rfl dX6_walks_18 ?_
  refine lv_iconst (v := 0) hx hb dX6_walks_21 (by decide) ?_
  refine f_ialdK S hK hw.1 4 1 rfl rfl 0 (by decide) (by decide) (v := (md_s 0)) rfl dX6_walks_22 ?_
  refine f_iastK S hK hw 8 1 rfl rfl 0 (by decide) (by decide) (ws1 := (wd_28 cC cI cJ a_md a_md_text md_typed a_md_told a_md_draft a_md_s a_md_past md_known a_md_images md_kept a_md_seen md_sights md_at a_md_asks a_md_brings a_md_uses a_md_days a_md_tries a_md_row (0 : Int32) a_md_first (0 : Int32) md_set a_md_held a_md_text md_text a_md_told md_told a_md_draft md_draft a_md_s md_s a_md_past md_past a_md_images md_images a_md_seen md_seen a_md_asks (upd md_asks 0 (md_s 0)) a_md_brings md_brings a_md_uses md_uses a_md_days md_days a_md_tries md_tries a_md_row md_row a_md_first md_first a_md_held md_held)) rfl dX6_walks_23 (fun H locs hw => ?_)
  refine lv_aload_n hx hb dX6_walks_24 rfl (lv_at hl 1 rfl) ?_
  refine f_get S hK hw.1 in_X6_walks_X6 0 rfl rfl 13 (by decide) (List.mem_of_getElem? (i := 5) rfl) rfl rfl dX6_walks_25 ?_
  refine lv_iconst (v := 0) hx hb dX6_walks_28 (by decide) ?_
  refine lv_aload_n hx hb dX6_walks_29 rfl (lv_at hl 1 rfl) ?_
  refine f_get S hK hw.1 in_X6_walks_X6 0 rfl rfl 4 (by decide) (List.mem_of_getElem? (i := 4) rfl) rfl rfl dX6_walks_30 ?_
  refine lv_iconst (v := 1) hx hb dX6_walks_33 (by decide) ?_
  refine f_ialdK S hK hw.1 4 1 rfl rfl 1 (by decide) (by decide) (v := (md_s 1)) rfl dX6_walks_34 ?_
  refine f_iastK S hK hw 9 1 rfl rfl 0 (by decide) (by decide) (ws1 := (wd_28 cC cI cJ a_md a_md_text md_typed a_md_told a_md_draft a_md_s a_md_past md_known a_md_images md_kept a_md_seen md_sights md_at a_md_asks a_md_brings a_md_uses a_md_days a_md_tries a_md_row (0 : Int32) a_md_first (0 : Int32) md_set a_md_held a_md_text md_text a_md_told md_told a_md_draft md_draft a_md_s md_s a_md_past md_past a_md_images md_images a_md_seen md_seen a_md_asks (upd md_asks 0 (md_s 0)) a_md_brings (upd md_brings 0 (md_s 1)) a_md_uses md_uses a_md_days md_days a_md_tries md_tries a_md_row md_row a_md_first md_first a_md_held md_held)) rfl dX6_walks_35 (fun H locs hw => ?_)
  refine lv_aload_n hx hb dX6_walks_36 rfl (lv_at hl 1 rfl) ?_
  refine f_get S hK hw.1 in_X6_walks_X6 0 rfl rfl 14 (by decide) (List.mem_of_getElem? (i := 6) rfl) rfl rfl dX6_walks_37 ?_
  refine lv_iconst (v := 0) hx hb dX6_walks_40 (by decide) ?_
  refine lv_aload_n hx hb dX6_walks_41 rfl (lv_at hl 1 rfl) ?_
  refine f_get S hK hw.1 in_X6_walks_X6 0 rfl rfl 4 (by decide) (List.mem_of_getElem? (i := 4) rfl) rfl rfl dX6_walks_42 ?_
  refine lv_iconst (v := 3) hx hb dX6_walks_45 (by decide) ?_
  refine f_ialdK S hK hw.1 4 1 rfl rfl 3 (by decide) (by decide) (v := (md_s 3)) rfl dX6_walks_46 ?_
  refine f_iastK S hK hw 10 1 rfl rfl 0 (by decide) (by decide) (ws1 := (wd_28 cC cI cJ a_md a_md_text md_typed a_md_told a_md_draft a_md_s a_md_past md_known a_md_images md_kept a_md_seen md_sights md_at a_md_asks a_md_brings a_md_uses a_md_days a_md_tries a_md_row (0 : Int32) a_md_first (0 : Int32) md_set a_md_held a_md_text md_text a_md_told md_told a_md_draft md_draft a_md_s md_s a_md_past md_past a_md_images md_images a_md_seen md_seen a_md_asks (upd md_asks 0 (md_s 0)) a_md_brings (upd md_brings 0 (md_s 1)) a_md_uses (upd md_uses 0 (md_s 3)) a_md_days md_days a_md_tries md_tries a_md_row md_row a_md_first md_first a_md_held md_held)) rfl dX6_walks_47 (fun H locs hw => ?_)
  refine lv_aload_n hx hb dX6_walks_48 rfl (lv_at hl 1 rfl) ?_
  refine f_get S hK hw.1 in_X6_walks_X6 0 rfl rfl 15 (by decide) (List.mem_of_getElem? (i := 7) rfl) rfl rfl dX6_walks_49 ?_
  refine lv_iconst (v := 0) hx hb dX6_walks_52 (by decide) ?_
  refine lv_aload_n hx hb dX6_walks_53 rfl (lv_at hl 1 rfl) ?_
  refine f_get S hK hw.1 in_X6_walks_X6 0 rfl rfl 4 (by decide) (List.mem_of_getElem? (i := 4) rfl) rfl rfl dX6_walks_54 ?_
  refine lv_iconst (v := 5) hx hb dX6_walks_57 (by decide) ?_
  refine f_ialdK S hK hw.1 4 1 rfl rfl 5 (by decide) (by decide) (v := (md_s 5)) rfl dX6_walks_58 ?_
  refine f_iastK S hK hw 11 1 rfl rfl 0 (by decide) (by decide) (ws1 := (wd_28 cC cI cJ a_md a_md_text md_typed a_md_told a_md_draft a_md_s a_md_past md_known a_md_images md_kept a_md_seen md_sights md_at a_md_asks a_md_brings a_md_uses a_md_days a_md_tries a_md_row (0 : Int32) a_md_first (0 : Int32) md_set a_md_held a_md_text md_text a_md_told md_told a_md_draft md_draft a_md_s md_s a_md_past md_past a_md_images md_images a_md_seen md_seen a_md_asks (upd md_asks 0 (md_s 0)) a_md_brings (upd md_brings 0 (md_s 1)) a_md_uses (upd md_uses 0 (md_s 3)) a_md_days (upd md_days 0 (md_s 5)) a_md_tries md_tries a_md_row md_row a_md_first md_first a_md_held md_held)) rfl dX6_walks_59 (fun H locs hw => ?_)
  refine lv_aload_n hx hb dX6_walks_60 rfl (lv_at hl 1 rfl) ?_
  refine f_get S hK hw.1 in_X6_walks_X6 0 rfl rfl 16 (by decide) (List.mem_of_getElem? (i := 8) rfl) rfl rfl dX6_walks_61 ?_
  refine lv_iconst (v := 0) hx hb dX6_walks_64 (by decide) ?_
  refine lv_iconst (v := 0) hx hb dX6_walks_65 (by decide) ?_
  refine f_iastK S hK hw 12 1 rfl rfl 0 (by decide) (by decide) (ws1 := (wd_28 cC cI cJ a_md a_md_text md_typed a_md_told a_md_draft a_md_s a_md_past md_known a_md_images md_kept a_md_seen md_sights md_at a_md_asks a_md_brings a_md_uses a_md_days a_md_tries a_md_row (0 : Int32) a_md_first (0 : Int32) md_set a_md_held a_md_text md_text a_md_told md_told a_md_draft md_draft a_md_s md_s a_md_past md_past a_md_images md_images a_md_seen md_seen a_md_asks (upd md_asks 0 (md_s 0)) a_md_brings (upd md_brings 0 (md_s 1)) a_md_uses (upd md_uses 0 (md_s 3)) a_md_days (upd md_days 0 (md_s 5)) a_md_tries (upd md_tries 0 (0 : Int32)) a_md_row md_row a_md_first md_first a_md_held md_held)) rfl dX6_walks_66 (fun H locs hw => ?_)
  refine lv_aload_n hx hb dX6_walks_67 rfl (lv_at hl 1 rfl) ?_
  obtain ⟨r10, h11, hm⟩ := ob hm
  refine k_rVi S hK hw.1 cal_X6_isLost gX6_walks_X6_isLost (c_X6_isLost l D cC cI cJ a_md a_md_text a_md_told a_md_draft a_md_s a_md_past a_md_images a_md_seen a_md_asks a_md_brings a_md_uses a_md_days a_md_tries a_md_row a_md_first a_md_held md_typed md_known md_kept md_sights md_at (0 : Int32) (0 : Int32) md_set md_text md_told md_draft md_s md_past md_images md_seen (upd md_asks 0 (md_s 0)) (upd md_brings 0 (md_s 1)) (upd md_uses 0 (md_s 3)) (upd md_days 0 (md_s 5)) (upd md_tries 0 (0 : Int32)) md_row md_first md_held r10 h11) ⟨⟨rfl, rfl⟩, Nat.le_of_ble_eq_true rfl, Nat.le_of_ble_eq_true rfl⟩ [0, 1, 2, 3, 4, 5, 6, 7, 8, 9, 10, 11, 12, 13, 14, 15] rfl 0 rfl rfl rfl hl.1 rfl (Nat.le_of_ble_eq_true rfl) dX6_walks_68 ⟨Nat.zero_le _, Nat.zero_le _⟩ ?_
  refine lv_if_eq (tgt := 75) hx hb dX6_walks_71 (by decide) (fun c12 => ?_) (fun c12 => ?_)
  · replace hm := ipos hm c12
    refine lv_aload_n hx hb dX6_walks_75 rfl (lv_at hl 1 rfl) ?_
    obtain ⟨r13, h14, hm⟩ := ob hm
    refine k_rVi S hK hw.1 cal_X6_open gX6_walks_X6_open (c_X6_open l D cC cI cJ a_md a_md_text a_md_told a_md_draft a_md_s a_md_past a_md_images a_md_seen a_md_asks a_md_brings a_md_uses a_md_days a_md_tries a_md_row a_md_first a_md_held md_typed md_known md_kept md_sights md_at (0 : Int32) (0 : Int32) md_set md_text md_told md_draft md_s md_past md_images md_seen (upd md_asks 0 (md_s 0)) (upd md_brings 0 (md_s 1)) (upd md_uses 0 (md_s 3)) (upd md_days 0 (md_s 5)) (upd md_tries 0 (0 : Int32)) md_row md_first md_held r13 h14) ⟨⟨rfl, rfl⟩, Nat.le_of_ble_eq_true rfl, Nat.le_of_ble_eq_true rfl⟩ [0, 1, 2, 3, 4, 5, 6, 7, 8, 9, 10, 11, 12, 13, 14, 15] rfl 0 rfl rfl rfl hl.1 rfl (Nat.le_of_ble_eq_true rfl) dX6_walks_76 ⟨Nat.zero_le _, Nat.zero_le _⟩ ?_
    refine lv_if_ne (tgt := 89) hx hb dX6_walks_79 (by decide) (fun c15 => ?_) (fun c15 => ?_)
    · replace hm := ineg hm c15
      obtain ⟨r100, h101, hm⟩ := ob hm
      refine t_X6_walks_89 l S hK a_md a_md_text a_md_told a_md_draft a_md_s a_md_past a_md_images a_md_seen a_md_asks a_md_brings a_md_uses a_md_days a_md_tries a_md_row a_md_first a_md_held N p0 p1 md_typed md_known md_kept md_sights md_at md_set md_text md_told md_draft md_s md_past md_images md_seen md_held N (0 : Int32) (0 : Int32) (0 : Int32) (upd md_asks 0 (md_s 0)) (upd md_brings 0 (md_s 1)) (upd md_uses 0 (md_s 3)) (upd md_days 0 (md_s 5)) (upd md_tries 0 (0 : Int32)) md_row md_first r100 h101  _ _ ls hw (lv_sub hl [1, 2, 3, 0] rfl) (fun H locs ls hw hl => ?_)
      obtain rfl := Option.some.inj hm
      exact e_WV S hr hlk hw hw.1 dX6_walks_342
    · replace hm := ipos hm c15
      refine lv_aload_n hx hb dX6_walks_82 rfl (lv_at hl 1 rfl) ?_
      refine lv_iconst (v := 0) hx hb dX6_walks_83 (by decide) ?_
      refine lv_iload_n hx hb dX6_walks_84 rfl (lv_at hl 2 rfl) ?_
      obtain ⟨r102, h103, hm⟩ := ob hm
      refine k_wVv S hK hw cal_X6_counts gX6_walks_X6_counts (c_X6_counts l D cC cI cJ a_md a_md_text a_md_told a_md_draft a_md_s a_md_past a_md_images a_md_seen a_md_asks a_md_brings a_md_uses a_md_days a_md_tries a_md_row a_md_first a_md_held md_typed md_known md_kept md_sights md_at (0 : Int32) (0 : Int32) md_set md_text md_told md_draft md_s md_past md_images md_seen (upd md_asks 0 (md_s 0)) (upd md_brings 0 (md_s 1)) (upd md_uses 0 (md_s 3)) (upd md_days 0 (md_s 5)) (upd md_tries 0 (0 : Int32)) md_row md_first md_held (0 : Int32) p0 N (aw _) (hw.own [0, 1, 2, 3, 4, 5, 6, 7, 8, 9, 10, 11, 12, 13, 14, 15] (by decide) rfl) r102 h103) ⟨⟨rfl, rfl⟩, Nat.le_of_ble_eq_true rfl, Nat.le_of_ble_eq_true rfl⟩ [0, 1, 2, 3, 4, 5, 6, 7, 8, 9, 10, 11, 12, 13, 14, 15] rfl 0 rfl rfl rfl hl.1 rfl (Nat.le_of_ble_eq_true rfl) dX6_walks_85 ⟨Nat.zero_le _, Nat.zero_le _⟩ (fun H locs hJ hB => ?_)
      have hw := hJ _ hB rfl
      replace hw : Wd D A _ (wd_28 cC cI cJ a_md a_md_text md_typed a_md_told a_md_draft a_md_s a_md_past md_known a_md_images md_kept a_md_seen md_sights md_at a_md_asks a_md_brings a_md_uses a_md_days a_md_tries a_md_row r102.1 a_md_first r102.2.1 md_set a_md_held a_md_text md_text a_md_told md_told a_md_draft md_draft a_md_s md_s a_md_past md_past a_md_images md_images a_md_seen md_seen a_md_asks (upd md_asks 0 (md_s 0)) a_md_brings (upd md_brings 0 (md_s 1)) a_md_uses (upd md_uses 0 (md_s 3)) a_md_days (upd md_days 0 (md_s 5)) a_md_tries (upd md_tries 0 (0 : Int32)) a_md_row md_row a_md_first r102.2.2 a_md_held md_held) H locs := hw
      obtain rfl := Option.some.inj hm
      exact e_WV S hr hlk hw hw.1 dX6_walks_88
  · replace hm := ineg hm c12
    obtain rfl := Option.some.inj hm
    exact e_WV S hr hlk hw hw.1 dX6_walks_74

abbrev rX6_few : Room := { frames := 3, cells := 0, slots := 0, locals := 77 }
theorem cal_X6_few : Cal yX6_few wsX6_few cX6_few 6 (some .int) RX6 0 := ⟨⟨_, rfl⟩, rfl, by decide +kernel, by decide +kernel, by decide +kernel⟩
theorem in_X6_few_X6 : ∀ w ∈ wsX60, w ∈ wsX6_few := fun _ h => (List.mem_cons_of_mem _ (List.mem_append_right _ h))
set_option maxHeartbeats 4000000 in
set_option maxRecDepth 100000 in
theorem t_X6_few_36 {p : Program} {e : Env} {s : State} {m : MethodId} {args : Array Value} {below : List Frame} {meth : Method} {c : Code} {Q : State → Prop} (l : Launch) {D : va_G} {cC cI cJ : ClassId} {A : Nat → Prop} {H0 : Heap} (S : CallFix p m c cX6_few 6 s args wsX6_few RX6) (hK : KK D (tyK cC cI cJ) s) (a_md : Nat) (a_md_text : Nat) (a_md_told : Nat) (a_md_draft : Nat) (a_md_s : Nat) (a_md_past : Nat) (a_md_images : Nat) (a_md_seen : Nat) (a_md_asks : Nat) (a_md_brings : Nat) (a_md_uses : Nat) (a_md_days : Nat) (a_md_tries : Nat) (a_md_row : Nat) (a_md_first : Nat) (a_md_held : Nat) (v1 : Int32) (v2 : Int32) (v3 : Int32) (md_typed : Int32) (md_known : Int32) (md_kept : Int32) (md_sights : Int32) (md_at : Int32) (md_many : Int32) (md_length : Int32) (md_set : Int32) (md_text : (Nat → Int32)) (md_told : (Nat → Int32)) (md_draft : (Nat → Int32)) (md_s : (Nat → Int32)) (md_past : (Nat → Int32)) (md_images : (Nat → Int32)) (md_seen : (Nat → Int32)) (md_asks : (Nat → Int32)) (md_brings : (Nat → Int32)) (md_uses : (Nat → Int32)) (md_days : (Nat → Int32)) (md_tries : (Nat → Int32)) (md_row : (Nat → Int32)) (md_first : (Nat → Int32)) (md_held : (Nat → Int32)) : ∀ (n : Nat) (v4 : Int32) (v5 : Int32) (out : Int32), lp_X6_few_36 v3 md_told n v4 v5 = some out → ∀ (H : Heap) (locs : List Loc) (ls : Array Slot), Wd D A H0 (wd_28 cC cI cJ a_md a_md_text md_typed a_md_told a_md_draft a_md_s a_md_past md_known a_md_images md_kept a_md_seen md_sights md_at a_md_asks a_md_brings a_md_uses a_md_days a_md_tries a_md_row md_many a_md_first md_length md_set a_md_held a_md_text md_text a_md_told md_told a_md_draft md_draft a_md_s md_s a_md_past md_past a_md_images md_images a_md_seen md_seen a_md_asks md_asks a_md_brings md_brings a_md_uses md_uses a_md_days md_days a_md_tries md_tries a_md_row md_row a_md_first md_first a_md_held md_held) H locs → lv_has ls 6 [(0, .ref a_md), (1, .int v1), (2, .int v2), (3, .int v3), (4, .int v4), (5, .int v5)] → (∀ (H : Heap) (locs : List Loc) (ls : Array Slot), Wd D A H0 (wd_28 cC cI cJ a_md a_md_text md_typed a_md_told a_md_draft a_md_s a_md_past md_known a_md_images md_kept a_md_seen md_sights md_at a_md_asks a_md_brings a_md_uses a_md_days a_md_tries a_md_row md_many a_md_first md_length md_set a_md_held a_md_text md_text a_md_told md_told a_md_draft md_draft a_md_s md_s a_md_past md_past a_md_images md_images a_md_seen md_seen a_md_asks md_asks a_md_brings md_brings a_md_uses md_uses a_md_days md_days a_md_tries md_tries a_md_row md_row a_md_first md_first a_md_held md_held) H locs → lv_has ls 6 [(0, .ref a_md), (1, .int v1), (2, .int v2), (3, .int v3), (4, .int out)] → W p l e rX6_few s m args below meth c H locs 0 0 Q (F0 m 82 ls [])) → W p l e rX6_few s m args below meth c H locs 0 0 Q (F0 m 36 ls []) := by
  have hx := S.1
  have hb := S.2.1
  intro n
  induction n with
  | zero => intro v4 v5 out hm; cases (show (none : Option Int32) = some out from hm)
  | succ n ih =>
    intro v4 v5 out hm  H locs ls hw hl K0
    rw [lp_X6_few_36] at hm
    refine lv_iload hx hb dX6_few_36 (lv_at hl 5 rfl) ?_
    refine lv_aload_n hx hb dX6_few_38 rfl (lv_at hl 0 rfl) ?_
    refine f_get S hK hw.1 in_X6_few_X6 0 rfl rfl 2 (by decide) (List.mem_of_getElem? (i := 3) rfl) rfl rfl dX6_few_39 ?_
    refine lv_iconst (v := 1) hx hb dX6_few_42 (by decide) ?_
    refine f_ialdK S hK hw.1 2 1 rfl rfl 1 (by decide) (by decide) (v := (md_told 1)) rfl dX6_few_43 ?_
    refine lv_icmp_ge (tgt := 82) hx hb dX6_few_44 (by decide) (fun c5 => ?_) (fun c5 => ?_)
    · replace hm := ipos hm c5
      obtain rfl := Option.some.inj hm
      exact K0  _ _ ls hw (lv_sub hl [0, 1, 2, 3, 4] rfl)
    · replace hm := ineg hm c5
      refine lv_iload hx hb dX6_few_47 (lv_at hl 4 rfl) ?_
      refine lv_iload_n hx hb dX6_few_49 rfl (lv_at hl 3 rfl) ?_
      refine lv_iload hx hb dX6_few_50 (lv_at hl 5 rfl) ?_
      refine lv_ishr hx hb dX6_few_52 ?_
      refine lv_iconst (v := 1) hx hb dX6_few_53 (by decide) ?_
      refine lv_iand hx hb dX6_few_54 ?_
      refine lv_iconst (v := 1) hx hb dX6_few_55 (by decide) ?_
      refine lv_icmp_ne (tgt := 72) hx hb dX6_few_56 (by decide) (fun c6 => ?_) (fun c6 => ?_)
      · replace hm := ineg hm c6
        refine lv_iconst (v := 0) hx hb dX6_few_72 (by decide) ?_
        refine lv_iadd hx hb dX6_few_73 ?_
        refine lv_istore (lv' := [(4, .int (v4 + (0 : Int32))), (0, .ref a_md), (1, .int v1), (2, .int v2), (3, .int v3), (5, .int v5)]) hx hb dX6_few_74 hl (by decide) rfl (fun ls hl => ?_)
        refine lv_iinc (v := (v5 + 1)) (lv' := [(5, .int (v5 + 1)), (4, .int (v4 + (0 : Int32))), (0, .ref a_md), (1, .int v1), (2, .int v2), (3, .int v3)]) hx hb dX6_few_76 hl (k := 5) rfl (by rw [ofi_1]) (by decide) rfl (fun ls hl => ?_)
        refine lv_goto (tgt := 36) hx hb dX6_few_79 (by decide) ?_
        exact ih (v4 + (0 : Int32)) (v5 + 1) _ hm  _ _ ls hw (lv_sub hl [2, 3, 4, 5, 1, 0] rfl) K0
      · replace hm := ipos hm c6
        refine lv_aload_n hx hb dX6_few_59 rfl (lv_at hl 0 rfl) ?_
        refine f_get S hK hw.1 in_X6_few_X6 0 rfl rfl 2 (by decide) (List.mem_of_getElem? (i := 3) rfl) rfl rfl dX6_few_60 ?_
        refine lv_bipush (v := 44) hx hb dX6_few_63 (by decide) ?_
        refine lv_iload hx hb dX6_few_65 (lv_at hl 5 rfl) ?_
        refine lv_iadd hx hb dX6_few_67 ?_
        obtain ⟨g7, hm⟩ := gdo hm
        refine f_iald S hK hw.1 2 1 rfl rfl g7 dX6_few_68 ?_
        refine lv_goto (tgt := 73) hx hb dX6_few_69 (by decide) ?_
        refine lv_iadd hx hb dX6_few_73 ?_
        obtain ⟨y8, e9, hm⟩ := ob hm
        refine f_name e9 ?_
        refine lv_istore (lv' := [(4, .int y8), (0, .ref a_md), (1, .int v1), (2, .int v2), (3, .int v3), (5, .int v5)]) hx hb dX6_few_74 hl (by decide) rfl (fun ls hl => ?_)
        refine lv_iinc (v := (v5 + 1)) (lv' := [(5, .int (v5 + 1)), (4, .int y8), (0, .ref a_md), (1, .int v1), (2, .int v2), (3, .int v3)]) hx hb dX6_few_76 hl (k := 5) rfl (by rw [ofi_1]) (by decide) rfl (fun ls hl => ?_)
        refine lv_goto (tgt := 36) hx hb dX6_few_79 (by decide) ?_
        exact ih y8 (v5 + 1) _ hm  _ _ ls hw (lv_sub hl [2, 3, 4, 5, 1, 0] rfl) K0
set_option maxHeartbeats 4000000 in
set_option maxRecDepth 100000 in
theorem t_X6_few_18 {p : Program} {e : Env} {s : State} {m : MethodId} {args : Array Value} {below : List Frame} {meth : Method} {c : Code} {Q : State → Prop} (l : Launch) {D : va_G} {cC cI cJ : ClassId} {A : Nat → Prop} {H0 : Heap} (S : CallFix p m c cX6_few 6 s args wsX6_few RX6) (hK : KK D (tyK cC cI cJ) s) (a_md : Nat) (a_md_text : Nat) (a_md_told : Nat) (a_md_draft : Nat) (a_md_s : Nat) (a_md_past : Nat) (a_md_images : Nat) (a_md_seen : Nat) (a_md_asks : Nat) (a_md_brings : Nat) (a_md_uses : Nat) (a_md_days : Nat) (a_md_tries : Nat) (a_md_row : Nat) (a_md_first : Nat) (a_md_held : Nat) (N : Nat) (v1 : Int32) (md_typed : Int32) (md_known : Int32) (md_kept : Int32) (md_sights : Int32) (md_at : Int32) (md_text : (Nat → Int32)) (md_told : (Nat → Int32)) (md_draft : (Nat → Int32)) (md_past : (Nat → Int32)) (md_images : (Nat → Int32)) (md_seen : (Nat → Int32)) (md_held : (Nat → Int32)) : ∀ (n : Nat) (v2 : Int32) (v3 : Int32) (md_many : Int32) (md_length : Int32) (md_set : Int32) (md_s : (Nat → Int32)) (md_asks : (Nat → Int32)) (md_brings : (Nat → Int32)) (md_uses : (Nat → Int32)) (md_days : (Nat → Int32)) (md_tries : (Nat → Int32)) (md_row : (Nat → Int32)) (md_first : (Nat → Int32)) (out : (Int32 × Int32 × Int32 × Int32 × (Nat → Int32) × (Nat → Int32) × (Nat → Int32) × (Nat → Int32) × (Nat → Int32) × (Nat → Int32) × (Nat → Int32) × (Nat → Int32))), lp_X6_few_18 N v1 md_sights md_told md_seen n v2 v3 md_many md_length md_set md_s md_asks md_brings md_uses md_days md_tries md_row md_first = some out → ∀ (H : Heap) (locs : List Loc) (ls : Array Slot), Wd D A H0 (wd_28 cC cI cJ a_md a_md_text md_typed a_md_told a_md_draft a_md_s a_md_past md_known a_md_images md_kept a_md_seen md_sights md_at a_md_asks a_md_brings a_md_uses a_md_days a_md_tries a_md_row md_many a_md_first md_length md_set a_md_held a_md_text md_text a_md_told md_told a_md_draft md_draft a_md_s md_s a_md_past md_past a_md_images md_images a_md_seen md_seen a_md_asks md_asks a_md_brings md_brings a_md_uses md_uses a_md_days md_days a_md_tries md_tries a_md_row md_row a_md_first md_first a_md_held md_held) H locs → lv_has ls 6 [(0, .ref a_md), (1, .int v1), (2, .int v2), (3, .int v3)] → (∀ (H : Heap) (locs : List Loc) (ls : Array Slot), Wd D A H0 (wd_28 cC cI cJ a_md a_md_text md_typed a_md_told a_md_draft a_md_s a_md_past md_known a_md_images md_kept a_md_seen md_sights md_at a_md_asks a_md_brings a_md_uses a_md_days a_md_tries a_md_row out.2.1 a_md_first out.2.2.1 out.2.2.2.1 a_md_held a_md_text md_text a_md_told md_told a_md_draft md_draft a_md_s out.2.2.2.2.1 a_md_past md_past a_md_images md_images a_md_seen md_seen a_md_asks out.2.2.2.2.2.1 a_md_brings out.2.2.2.2.2.2.1 a_md_uses out.2.2.2.2.2.2.2.1 a_md_days out.2.2.2.2.2.2.2.2.1 a_md_tries out.2.2.2.2.2.2.2.2.2.1 a_md_row out.2.2.2.2.2.2.2.2.2.2.1 a_md_first out.2.2.2.2.2.2.2.2.2.2.2 a_md_held md_held) H locs → lv_has ls 6 [(0, .ref a_md), (1, .int v1), (2, .int out.1)] → W p l e rX6_few s m args below meth c H locs 0 0 Q (F0 m 165 ls [])) → W p l e rX6_few s m args below meth c H locs 0 0 Q (F0 m 18 ls []) := by
  have hx := S.1
  have hb := S.2.1
  intro n
  induction n with
  | zero => intro v2 v3 md_many md_length md_set md_s md_asks md_brings md_uses md_days md_tries md_row md_first out hm; cases (show (none : Option (Int32 × Int32 × Int32 × Int32 × (Nat → Int32) × (Nat → Int32) × (Nat → Int32) × (Nat → Int32) × (Nat → Int32) × (Nat → Int32) × (Nat → Int32) × (Nat → Int32))) = some out from hm)
  | succ n ih =>
    intro v2 v3 md_many md_length md_set md_s md_asks md_brings md_uses md_days md_tries md_row md_first out hm  H locs ls hw hl K0
    rw [lp_X6_few_18] at hm
    refine lv_iload_n hx hb dX6_few_18 rfl (lv_at hl 3 rfl) ?_
    refine lv_iconst (v := 1) hx hb dX6_few_19 (by decide) ?_
    refine lv_aload_n hx hb dX6_few_20 rfl (lv_at hl 0 rfl) ?_
    refine f_get S hK hw.1 in_X6_few_X6 0 rfl rfl 2 (by decide) (List.mem_of_getElem? (i := 3) rfl) rfl rfl dX6_few_21 ?_
    refine lv_iconst (v := 1) hx hb dX6_few_24 (by decide) ?_
    refine f_ialdK S hK hw.1 2 1 rfl rfl 1 (by decide) (by decide) (v := (md_told 1)) rfl dX6_few_25 ?_
    refine lv_ishl hx hb dX6_few_26 ?_
    refine lv_icmp_ge (tgt := 165) hx hb dX6_few_27 (by decide) (fun c3 => ?_) (fun c3 => ?_)
    · replace hm := ipos hm c3
      obtain rfl := Option.some.inj hm
      exact K0  _ _ ls hw (lv_sub hl [0, 1, 2] rfl)
    · replace hm := ineg hm c3
      refine lv_iconst (v := 0) hx hb dX6_few_30 (by decide) ?_
      refine lv_istore (lv' := [(4, .int (0 : Int32)), (0, .ref a_md), (1, .int v1), (2, .int v2), (3, .int v3)]) hx hb dX6_few_31 hl (by decide) rfl (fun ls hl => ?_)
      refine lv_iconst (v := 0) hx hb dX6_few_33 (by decide) ?_
      refine lv_istore (lv' := [(5, .int (0 : Int32)), (4, .int (0 : Int32)), (0, .ref a_md), (1, .int v1), (2, .int v2), (3, .int v3)]) hx hb dX6_few_34 hl (by decide) rfl (fun ls hl => ?_)
      obtain ⟨r10, h11, hm⟩ := ob hm
      refine t_X6_few_36 l S hK a_md a_md_text a_md_told a_md_draft a_md_s a_md_past a_md_images a_md_seen a_md_asks a_md_brings a_md_uses a_md_days a_md_tries a_md_row a_md_first a_md_held v1 v2 v3 md_typed md_known md_kept md_sights md_at md_many md_length md_set md_text md_told md_draft md_s md_past md_images md_seen md_asks md_brings md_uses md_days md_tries md_row md_first md_held N (0 : Int32) (0 : Int32) r10 h11  _ _ ls hw (lv_sub hl [2, 3, 4, 5, 1, 0] rfl) (fun H locs ls hw hl => ?_)
      refine lv_iload_n hx hb dX6_few_82 rfl (lv_at hl 3 rfl) ?_
      refine lv_iload_n hx hb dX6_few_83 rfl (lv_at hl 1 rfl) ?_
      refine lv_iand hx hb dX6_few_84 ?_
      refine lv_if_ne (tgt := 159) hx hb dX6_few_85 (by decide) (fun c12 => ?_) (fun c12 => ?_)
      · replace hm := ineg hm c12
        refine lv_iinc (v := (v3 + 1)) (lv' := [(3, .int (v3 + 1)), (0, .ref a_md), (1, .int v1), (2, .int v2), (4, .int r10)]) hx hb dX6_few_159 hl (k := 3) rfl (by rw [ofi_1]) (by decide) rfl (fun ls hl => ?_)
        refine lv_goto (tgt := 18) hx hb dX6_few_162 (by decide) ?_
        exact ih v2 (v3 + 1) md_many md_length md_set md_s md_asks md_brings md_uses md_days md_tries md_row md_first _ hm  _ _ ls hw (lv_sub hl [1, 2, 3, 0] rfl) K0
      · replace hm := ipos hm c12
        refine lv_iload hx hb dX6_few_88 (lv_at hl 4 rfl) ?_
        refine lv_aload_n hx hb dX6_few_90 rfl (lv_at hl 0 rfl) ?_
        refine f_get S hK hw.1 in_X6_few_X6 0 rfl rfl 4 (by decide) (List.mem_of_getElem? (i := 1) rfl) rfl rfl dX6_few_91 ?_
        refine lv_iconst (v := 4) hx hb dX6_few_94 (by decide) ?_
        refine f_ialdK S hK hw.1 4 1 rfl rfl 4 (by decide) (by decide) (v := (md_s 4)) rfl dX6_few_95 ?_
        refine lv_icmp_gt (tgt := 159) hx hb dX6_few_96 (by decide) (fun c14 => ?_) (fun c14 => ?_)
        · replace hm := ipos hm c14
          refine lv_iinc (v := (v3 + 1)) (lv' := [(3, .int (v3 + 1)), (0, .ref a_md), (1, .int v1), (2, .int v2), (4, .int r10)]) hx hb dX6_few_159 hl (k := 3) rfl (by rw [ofi_1]) (by decide) rfl (fun ls hl => ?_)
          refine lv_goto (tgt := 18) hx hb dX6_few_162 (by decide) ?_
          exact ih v2 (v3 + 1) md_many md_length md_set md_s md_asks md_brings md_uses md_days md_tries md_row md_first _ hm  _ _ ls hw (lv_sub hl [1, 2, 3, 0] rfl) K0
        · replace hm := ineg hm c14
          refine lv_iload_n hx hb dX6_few_99 rfl (lv_at hl 2 rfl) ?_
          refine lv_bipush (v := (-4)) hx hb dX6_few_100 (by decide) ?_
          refine lv_icmp_eq (tgt := 111) hx hb dX6_few_102 (by decide) (fun c15 => ?_) (fun c15 => ?_)
          · replace hm := ipos hm c15
            refine lv_aload_n hx hb dX6_few_111 rfl (lv_at hl 0 rfl) ?_
            refine f_get S hK hw.1 in_X6_few_X6 0 rfl rfl 4 (by decide) (List.mem_of_getElem? (i := 1) rfl) rfl rfl dX6_few_112 ?_
            refine lv_iconst (v := 2) hx hb dX6_few_115 (by decide) ?_
            refine lv_iload_n hx hb dX6_few_116 rfl (lv_at hl 1 rfl) ?_
            refine lv_iload_n hx hb dX6_few_117 rfl (lv_at hl 3 rfl) ?_
            refine lv_ior hx hb dX6_few_118 ?_
            refine f_iastK S hK hw 4 1 rfl rfl 2 (by decide) (by decide) (ws1 := (wd_28 cC cI cJ a_md a_md_text md_typed a_md_told a_md_draft a_md_s a_md_past md_known a_md_images md_kept a_md_seen md_sights md_at a_md_asks a_md_brings a_md_uses a_md_days a_md_tries a_md_row md_many a_md_first md_length md_set a_md_held a_md_text md_text a_md_told md_told a_md_draft md_draft a_md_s (upd md_s 2 (v1 ||| v3)) a_md_past md_past a_md_images md_images a_md_seen md_seen a_md_asks md_asks a_md_brings md_brings a_md_uses md_uses a_md_days md_days a_md_tries md_tries a_md_row md_row a_md_first md_first a_md_held md_held)) rfl dX6_few_119 (fun H locs hw => ?_)
            refine lv_aload_n hx hb dX6_few_120 rfl (lv_at hl 0 rfl) ?_
            refine lv_iconst (v := 0) hx hb dX6_few_121 (by decide) ?_
            refine lv_iconst (v := 1) hx hb dX6_few_122 (by decide) ?_
            obtain ⟨r17, h18, hm⟩ := ob hm
            refine k_wVv S hK hw cal_X6_walks gX6_few_X6_walks (c_X6_walks l D cC cI cJ a_md a_md_text a_md_told a_md_draft a_md_s a_md_past a_md_images a_md_seen a_md_asks a_md_brings a_md_uses a_md_days a_md_tries a_md_row a_md_first a_md_held md_typed md_known md_kept md_sights md_at md_many md_length md_set md_text md_told md_draft (upd md_s 2 (v1 ||| v3)) md_past md_images md_seen md_asks md_brings md_uses md_days md_tries md_row md_first md_held (0 : Int32) (1 : Int32) N (aw _) (hw.own [0, 1, 2, 3, 4, 5, 6, 7, 8, 9, 10, 11, 12, 13, 14, 15] (by decide) rfl) r17 h18) ⟨⟨rfl, rfl⟩, Nat.le_of_ble_eq_true rfl, Nat.le_of_ble_eq_true rfl⟩ [0, 1, 2, 3, 4, 5, 6, 7, 8, 9, 10, 11, 12, 13, 14, 15] rfl 0 rfl rfl rfl hl.1 rfl (Nat.le_of_ble_eq_true rfl) dX6_few_123 ⟨Nat.zero_le _, Nat.zero_le _⟩ (fun H locs hJ hB => ?_)
            have hw := hJ _ hB rfl
            replace hw : Wd D A _ (wd_28 cC cI cJ a_md a_md_text md_typed a_md_told a_md_draft a_md_s a_md_past md_known a_md_images md_kept a_md_seen md_sights md_at a_md_asks a_md_brings a_md_uses a_md_days a_md_tries a_md_row r17.1 a_md_first r17.2.1 md_set a_md_held a_md_text md_text a_md_told md_told a_md_draft md_draft a_md_s (upd md_s 2 (v1 ||| v3)) a_md_past md_past a_md_images md_images a_md_seen md_seen a_md_asks r17.2.2.1 a_md_brings r17.2.2.2.1 a_md_uses r17.2.2.2.2.1 a_md_days r17.2.2.2.2.2.1 a_md_tries r17.2.2.2.2.2.2.1 a_md_row r17.2.2.2.2.2.2.2.1 a_md_first r17.2.2.2.2.2.2.2.2 a_md_held md_held) H locs := hw
            refine lv_aload_n hx hb dX6_few_126 rfl (lv_at hl 0 rfl) ?_
            refine lv_aload_n hx hb dX6_few_127 rfl (lv_at hl 0 rfl) ?_
            refine f_get S hK hw.1 in_X6_few_X6 0 rfl rfl 18 (by decide) (List.mem_of_getElem? (i := 4) rfl) rfl rfl dX6_few_128 ?_
            refine lv_if_le (tgt := 138) hx hb dX6_few_131 (by decide) (fun c19 => ?_) (fun c19 => ?_)
            · replace hm := ipos hm c19
              refine lv_aload_n hx hb dX6_few_138 rfl (lv_at hl 0 rfl) ?_
              refine f_get S hK hw.1 in_X6_few_X6 0 rfl rfl 21 (by decide) (List.mem_of_getElem? (i := 2) rfl) rfl rfl dX6_few_139 ?_
              refine f_put S hK hw in_X6_few_X6 tyX6_ok nmX6 0 rfl rfl 21 (by decide) (List.mem_of_getElem? (i := 2) rfl) rfl rfl rfl rfl (Nat.le_of_ble_eq_true rfl) (ws1 := (wd_28 cC cI cJ a_md a_md_text md_typed a_md_told a_md_draft a_md_s a_md_past md_known a_md_images md_kept a_md_seen md_sights md_at a_md_asks a_md_brings a_md_uses a_md_days a_md_tries a_md_row r17.1 a_md_first r17.2.1 md_set a_md_held a_md_text md_text a_md_told md_told a_md_draft md_draft a_md_s (upd md_s 2 (v1 ||| v3)) a_md_past md_past a_md_images md_images a_md_seen md_seen a_md_asks r17.2.2.1 a_md_brings r17.2.2.2.1 a_md_uses r17.2.2.2.2.1 a_md_days r17.2.2.2.2.2.1 a_md_tries r17.2.2.2.2.2.2.1 a_md_row r17.2.2.2.2.2.2.2.1 a_md_first r17.2.2.2.2.2.2.2.2 a_md_held md_held)) rfl dX6_few_142 (fun H locs hw => ?_)
              refine lv_aload_n hx hb dX6_few_145 rfl (lv_at hl 0 rfl) ?_
              refine f_get S hK hw.1 in_X6_few_X6 0 rfl rfl 18 (by decide) (List.mem_of_getElem? (i := 4) rfl) rfl rfl dX6_few_146 ?_
              refine lv_if_le (tgt := 157) hx hb dX6_few_149 (by decide) (fun c20 => ?_) (fun c20 => ?_)
              · skip
                refine lv_iload_n hx hb dX6_few_157 rfl (lv_at hl 2 rfl) ?_
                refine lv_istore_n (lv' := [(2, .int v2), (0, .ref a_md), (1, .int v1), (3, .int v3), (4, .int r10)]) hx hb dX6_few_158 rfl hl (by decide) rfl (fun ls hl => ?_)
                refine lv_iinc (v := (v3 + 1)) (lv' := [(3, .int (v3 + 1)), (2, .int v2), (0, .ref a_md), (1, .int v1), (4, .int r10)]) hx hb dX6_few_159 hl (k := 3) rfl (by rw [ofi_1]) (by decide) rfl (fun ls hl => ?_)
                refine lv_goto (tgt := 18) hx hb dX6_few_162 (by decide) ?_
                exact ih v2 (v3 + 1) r17.1 r17.2.1 md_set (upd md_s 2 (v1 ||| v3)) r17.2.2.1 r17.2.2.2.1 r17.2.2.2.2.1 r17.2.2.2.2.2.1 r17.2.2.2.2.2.2.1 r17.2.2.2.2.2.2.2.1 r17.2.2.2.2.2.2.2.2 _ hm  _ _ ls hw (lv_sub hl [2, 3, 1, 0] rfl) K0
              · exact absurd c19 c20
            · replace hm := ineg hm c19
              refine lv_iload_n hx hb dX6_few_134 rfl (lv_at hl 3 rfl) ?_
              refine lv_goto (tgt := 142) hx hb dX6_few_135 (by decide) ?_
              refine f_put S hK hw in_X6_few_X6 tyX6_ok nmX6 0 rfl rfl 21 (by decide) (List.mem_of_getElem? (i := 2) rfl) rfl rfl rfl rfl (Nat.le_of_ble_eq_true rfl) (ws1 := (wd_28 cC cI cJ a_md a_md_text md_typed a_md_told a_md_draft a_md_s a_md_past md_known a_md_images md_kept a_md_seen md_sights md_at a_md_asks a_md_brings a_md_uses a_md_days a_md_tries a_md_row r17.1 a_md_first r17.2.1 v3 a_md_held a_md_text md_text a_md_told md_told a_md_draft md_draft a_md_s (upd md_s 2 (v1 ||| v3)) a_md_past md_past a_md_images md_images a_md_seen md_seen a_md_asks r17.2.2.1 a_md_brings r17.2.2.2.1 a_md_uses r17.2.2.2.2.1 a_md_days r17.2.2.2.2.2.1 a_md_tries r17.2.2.2.2.2.2.1 a_md_row r17.2.2.2.2.2.2.2.1 a_md_first r17.2.2.2.2.2.2.2.2 a_md_held md_held)) rfl dX6_few_142 (fun H locs hw => ?_)
              refine lv_aload_n hx hb dX6_few_145 rfl (lv_at hl 0 rfl) ?_
              refine f_get S hK hw.1 in_X6_few_X6 0 rfl rfl 18 (by decide) (List.mem_of_getElem? (i := 4) rfl) rfl rfl dX6_few_146 ?_
              refine lv_if_le (tgt := 157) hx hb dX6_few_149 (by decide) (fun c21 => ?_) (fun c21 => ?_)
              · exact absurd c21 c19
              · skip
                refine lv_iload hx hb dX6_few_152 (lv_at hl 4 rfl) ?_
                refine lv_goto (tgt := 158) hx hb dX6_few_154 (by decide) ?_
                refine lv_istore_n (lv' := [(2, .int r10), (0, .ref a_md), (1, .int v1), (3, .int v3), (4, .int r10)]) hx hb dX6_few_158 rfl hl (by decide) rfl (fun ls hl => ?_)
                refine lv_iinc (v := (v3 + 1)) (lv' := [(3, .int (v3 + 1)), (2, .int r10), (0, .ref a_md), (1, .int v1), (4, .int r10)]) hx hb dX6_few_159 hl (k := 3) rfl (by rw [ofi_1]) (by decide) rfl (fun ls hl => ?_)
                refine lv_goto (tgt := 18) hx hb dX6_few_162 (by decide) ?_
                exact ih r10 (v3 + 1) r17.1 r17.2.1 v3 (upd md_s 2 (v1 ||| v3)) r17.2.2.1 r17.2.2.2.1 r17.2.2.2.2.1 r17.2.2.2.2.2.1 r17.2.2.2.2.2.2.1 r17.2.2.2.2.2.2.2.1 r17.2.2.2.2.2.2.2.2 _ hm  _ _ ls hw (lv_sub hl [2, 3, 1, 0] rfl) K0
          · replace hm := ineg hm c15
            refine lv_iload hx hb dX6_few_105 (lv_at hl 4 rfl) ?_
            refine lv_iload_n hx hb dX6_few_107 rfl (lv_at hl 2 rfl) ?_
            refine lv_icmp_ge (tgt := 159) hx hb dX6_few_108 (by decide) (fun c22 => ?_) (fun c22 => ?_)
            · replace hm := ipos hm c22
              refine lv_iinc (v := (v3 + 1)) (lv' := [(3, .int (v3 + 1)), (0, .ref a_md), (1, .int v1), (2, .int v2), (4, .int r10)]) hx hb dX6_few_159 hl (k := 3) rfl (by rw [ofi_1]) (by decide) rfl (fun ls hl => ?_)
              refine lv_goto (tgt := 18) hx hb dX6_few_162 (by decide) ?_
              exact ih v2 (v3 + 1) md_many md_length md_set md_s md_asks md_brings md_uses md_days md_tries md_row md_first _ hm  _ _ ls hw (lv_sub hl [1, 2, 3, 0] rfl) K0
            · replace hm := ineg hm c22
              refine lv_aload_n hx hb dX6_few_111 rfl (lv_at hl 0 rfl) ?_
              refine f_get S hK hw.1 in_X6_few_X6 0 rfl rfl 4 (by decide) (List.mem_of_getElem? (i := 1) rfl) rfl rfl dX6_few_112 ?_
              refine lv_iconst (v := 2) hx hb dX6_few_115 (by decide) ?_
              refine lv_iload_n hx hb dX6_few_116 rfl (lv_at hl 1 rfl) ?_
              refine lv_iload_n hx hb dX6_few_117 rfl (lv_at hl 3 rfl) ?_
              refine lv_ior hx hb dX6_few_118 ?_
              refine f_iastK S hK hw 4 1 rfl rfl 2 (by decide) (by decide) (ws1 := (wd_28 cC cI cJ a_md a_md_text md_typed a_md_told a_md_draft a_md_s a_md_past md_known a_md_images md_kept a_md_seen md_sights md_at a_md_asks a_md_brings a_md_uses a_md_days a_md_tries a_md_row md_many a_md_first md_length md_set a_md_held a_md_text md_text a_md_told md_told a_md_draft md_draft a_md_s (upd md_s 2 (v1 ||| v3)) a_md_past md_past a_md_images md_images a_md_seen md_seen a_md_asks md_asks a_md_brings md_brings a_md_uses md_uses a_md_days md_days a_md_tries md_tries a_md_row md_row a_md_first md_first a_md_held md_held)) rfl dX6_few_119 (fun H locs hw => ?_)
              refine lv_aload_n hx hb dX6_few_120 rfl (lv_at hl 0 rfl) ?_
              refine lv_iconst (v := 0) hx hb dX6_few_121 (by decide) ?_
              refine lv_iconst (v := 1) hx hb dX6_few_122 (by decide) ?_
              obtain ⟨r24, h25, hm⟩ := ob hm
              refine k_wVv S hK hw cal_X6_walks gX6_few_X6_walks (c_X6_walks l D cC cI cJ a_md a_md_text a_md_told a_md_draft a_md_s a_md_past a_md_images a_md_seen a_md_asks a_md_brings a_md_uses a_md_days a_md_tries a_md_row a_md_first a_md_held md_typed md_known md_kept md_sights md_at md_many md_length md_set md_text md_told md_draft (upd md_s 2 (v1 ||| v3)) md_past md_images md_seen md_asks md_brings md_uses md_days md_tries md_row md_first md_held (0 : Int32) (1 : Int32) N (aw _) (hw.own [0, 1, 2, 3, 4, 5, 6, 7, 8, 9, 10, 11, 12, 13, 14, 15] (by decide) rfl) r24 h25) ⟨⟨rfl, rfl⟩, Nat.le_of_ble_eq_true rfl, Nat.le_of_ble_eq_true rfl⟩ [0, 1, 2, 3, 4, 5, 6, 7, 8, 9, 10, 11, 12, 13, 14, 15] rfl 0 rfl rfl rfl hl.1 rfl (Nat.le_of_ble_eq_true rfl) dX6_few_123 ⟨Nat.zero_le _, Nat.zero_le _⟩ (fun H locs hJ hB => ?_)
              have hw := hJ _ hB rfl
              replace hw : Wd D A _ (wd_28 cC cI cJ a_md a_md_text md_typed a_md_told a_md_draft a_md_s a_md_past md_known a_md_images md_kept a_md_seen md_sights md_at a_md_asks a_md_brings a_md_uses a_md_days a_md_tries a_md_row r24.1 a_md_first r24.2.1 md_set a_md_held a_md_text md_text a_md_told md_told a_md_draft md_draft a_md_s (upd md_s 2 (v1 ||| v3)) a_md_past md_past a_md_images md_images a_md_seen md_seen a_md_asks r24.2.2.1 a_md_brings r24.2.2.2.1 a_md_uses r24.2.2.2.2.1 a_md_days r24.2.2.2.2.2.1 a_md_tries r24.2.2.2.2.2.2.1 a_md_row r24.2.2.2.2.2.2.2.1 a_md_first r24.2.2.2.2.2.2.2.2 a_md_held md_held) H locs := hw
              refine lv_aload_n hx hb dX6_few_126 rfl (lv_at hl 0 rfl) ?_
              refine lv_aload_n hx hb dX6_few_127 rfl (lv_at hl 0 rfl) ?_
              refine f_get S hK hw.1 in_X6_few_X6 0 rfl rfl 18 (by decide) (List.mem_of_getElem? (i := 4) rfl) rfl rfl dX6_few_128 ?_
              refine lv_if_le (tgt := 138) hx hb dX6_few_131 (by decide) (fun c26 => ?_) (fun c26 => ?_)
              · replace hm := ipos hm c26
                refine lv_aload_n hx hb dX6_few_138 rfl (lv_at hl 0 rfl) ?_
                refine f_get S hK hw.1 in_X6_few_X6 0 rfl rfl 21 (by decide) (List.mem_of_getElem? (i := 2) rfl) rfl rfl dX6_few_139 ?_
                refine f_put S hK hw in_X6_few_X6 tyX6_ok nmX6 0 rfl rfl 21 (by decide) (List.mem_of_getElem? (i := 2) rfl) rfl rfl rfl rfl (Nat.le_of_ble_eq_true rfl) (ws1 := (wd_28 cC cI cJ a_md a_md_text md_typed a_md_told a_md_draft a_md_s a_md_past md_known a_md_images md_kept a_md_seen md_sights md_at a_md_asks a_md_brings a_md_uses a_md_days a_md_tries a_md_row r24.1 a_md_first r24.2.1 md_set a_md_held a_md_text md_text a_md_told md_told a_md_draft md_draft a_md_s (upd md_s 2 (v1 ||| v3)) a_md_past md_past a_md_images md_images a_md_seen md_seen a_md_asks r24.2.2.1 a_md_brings r24.2.2.2.1 a_md_uses r24.2.2.2.2.1 a_md_days r24.2.2.2.2.2.1 a_md_tries r24.2.2.2.2.2.2.1 a_md_row r24.2.2.2.2.2.2.2.1 a_md_first r24.2.2.2.2.2.2.2.2 a_md_held md_held)) rfl dX6_few_142 (fun H locs hw => ?_)
                refine lv_aload_n hx hb dX6_few_145 rfl (lv_at hl 0 rfl) ?_
                refine f_get S hK hw.1 in_X6_few_X6 0 rfl rfl 18 (by decide) (List.mem_of_getElem? (i := 4) rfl) rfl rfl dX6_few_146 ?_
                refine lv_if_le (tgt := 157) hx hb dX6_few_149 (by decide) (fun c27 => ?_) (fun c27 => ?_)
                · skip
                  refine lv_iload_n hx hb dX6_few_157 rfl (lv_at hl 2 rfl) ?_
                  refine lv_istore_n (lv' := [(2, .int v2), (0, .ref a_md), (1, .int v1), (3, .int v3), (4, .int r10)]) hx hb dX6_few_158 rfl hl (by decide) rfl (fun ls hl => ?_)
                  refine lv_iinc (v := (v3 + 1)) (lv' := [(3, .int (v3 + 1)), (2, .int v2), (0, .ref a_md), (1, .int v1), (4, .int r10)]) hx hb dX6_few_159 hl (k := 3) rfl (by rw [ofi_1]) (by decide) rfl (fun ls hl => ?_)
                  refine lv_goto (tgt := 18) hx hb dX6_few_162 (by decide) ?_
                  exact ih v2 (v3 + 1) r24.1 r24.2.1 md_set (upd md_s 2 (v1 ||| v3)) r24.2.2.1 r24.2.2.2.1 r24.2.2.2.2.1 r24.2.2.2.2.2.1 r24.2.2.2.2.2.2.1 r24.2.2.2.2.2.2.2.1 r24.2.2.2.2.2.2.2.2 _ hm  _ _ ls hw (lv_sub hl [2, 3, 1, 0] rfl) K0
                · exact absurd c26 c27
              · replace hm := ineg hm c26
                refine lv_iload_n hx hb dX6_few_134 rfl (lv_at hl 3 rfl) ?_
                refine lv_goto (tgt := 142) hx hb dX6_few_135 (by decide) ?_
                refine f_put S hK hw in_X6_few_X6 tyX6_ok nmX6 0 rfl rfl 21 (by decide) (List.mem_of_getElem? (i := 2) rfl) rfl rfl rfl rfl (Nat.le_of_ble_eq_true rfl) (ws1 := (wd_28 cC cI cJ a_md a_md_text md_typed a_md_told a_md_draft a_md_s a_md_past md_known a_md_images md_kept a_md_seen md_sights md_at a_md_asks a_md_brings a_md_uses a_md_days a_md_tries a_md_row r24.1 a_md_first r24.2.1 v3 a_md_held a_md_text md_text a_md_told md_told a_md_draft md_draft a_md_s (upd md_s 2 (v1 ||| v3)) a_md_past md_past a_md_images md_images a_md_seen md_seen a_md_asks r24.2.2.1 a_md_brings r24.2.2.2.1 a_md_uses r24.2.2.2.2.1 a_md_days r24.2.2.2.2.2.1 a_md_tries r24.2.2.2.2.2.2.1 a_md_row r24.2.2.2.2.2.2.2.1 a_md_first r24.2.2.2.2.2.2.2.2 a_md_held md_held)) rfl dX6_few_142 (fun H locs hw => ?_)
                refine lv_aload_n hx hb dX6_few_145 rfl (lv_at hl 0 rfl) ?_
                refine f_get S hK hw.1 in_X6_few_X6 0 rfl rfl 18 (by decide) (List.mem_of_getElem? (i := 4) rfl) rfl rfl dX6_few_146 ?_
                refine lv_if_le (tgt := 157) hx hb dX6_few_149 (by decide) (fun c28 => ?_) (fun c28 => ?_)
                · exact absurd c28 c26
                · skip
                  refine lv_iload hx hb dX6_few_152 (lv_at hl 4 rfl) ?_
                  refine lv_goto (tgt := 158) hx hb dX6_few_154 (by decide) ?_
                  refine lv_istore_n (lv' := [(2, .int r10), (0, .ref a_md), (1, .int v1), (3, .int v3), (4, .int r10)]) hx hb dX6_few_158 rfl hl (by decide) rfl (fun ls hl => ?_)
                  refine lv_iinc (v := (v3 + 1)) (lv' := [(3, .int (v3 + 1)), (2, .int r10), (0, .ref a_md), (1, .int v1), (4, .int r10)]) hx hb dX6_few_159 hl (k := 3) rfl (by rw [ofi_1]) (by decide) rfl (fun ls hl => ?_)
                  refine lv_goto (tgt := 18) hx hb dX6_few_162 (by decide) ?_
                  exact ih r10 (v3 + 1) r24.1 r24.2.1 v3 (upd md_s 2 (v1 ||| v3)) r24.2.2.1 r24.2.2.2.1 r24.2.2.2.2.1 r24.2.2.2.2.2.1 r24.2.2.2.2.2.2.1 r24.2.2.2.2.2.2.2.1 r24.2.2.2.2.2.2.2.2 _ hm  _ _ ls hw (lv_sub hl [2, 3, 1, 0] rfl) K0
set_option maxHeartbeats 4000000 in
set_option maxRecDepth 100000 in
theorem c_X6_few (l : Launch) (D : va_G) (cC cI cJ : ClassId) (a_md : Nat) (a_md_text : Nat) (a_md_told : Nat) (a_md_draft : Nat) (a_md_s : Nat) (a_md_past : Nat) (a_md_images : Nat) (a_md_seen : Nat) (a_md_asks : Nat) (a_md_brings : Nat) (a_md_uses : Nat) (a_md_days : Nat) (a_md_tries : Nat) (a_md_row : Nat) (a_md_first : Nat) (a_md_held : Nat) (md_typed : Int32) (md_known : Int32) (md_kept : Int32) (md_sights : Int32) (md_at : Int32) (md_many : Int32) (md_length : Int32) (md_set : Int32) (md_text : (Nat → Int32)) (md_told : (Nat → Int32)) (md_draft : (Nat → Int32)) (md_s : (Nat → Int32)) (md_past : (Nat → Int32)) (md_images : (Nat → Int32)) (md_seen : (Nat → Int32)) (md_asks : (Nat → Int32)) (md_brings : (Nat → Int32)) (md_uses : (Nat → Int32)) (md_days : (Nat → Int32)) (md_tries : (Nat → Int32)) (md_row : (Nat → Int32)) (md_first : (Nat → Int32)) (md_held : (Nat → Int32)) (N : Nat) (A : Nat → Prop) (hD : va_D A (wd_28 cC cI cJ a_md a_md_text md_typed a_md_told a_md_draft a_md_s a_md_past md_known a_md_images md_kept a_md_seen md_sights md_at a_md_asks a_md_brings a_md_uses a_md_days a_md_tries a_md_row md_many a_md_first md_length md_set a_md_held a_md_text md_text a_md_told md_told a_md_draft md_draft a_md_s md_s a_md_past md_past a_md_images md_images a_md_seen md_seen a_md_asks md_asks a_md_brings md_brings a_md_uses md_uses a_md_days md_days a_md_tries md_tries a_md_row md_row a_md_first md_first a_md_held md_held)) (out : (Int32 × Int32 × Int32 × Int32 × (Nat → Int32) × (Nat → Int32) × (Nat → Int32) × (Nat → Int32) × (Nat → Int32) × (Nat → Int32) × (Nat → Int32) × (Nat → Int32))) (hm : m_X6_few N md_sights md_many md_length md_told md_s md_seen md_asks md_brings md_uses md_days md_tries md_row md_first = some out) : WrI l yX6_few wsX6_few rX6_few D (tyK cC cI cJ) [.ref a_md] A (wd_28 cC cI cJ a_md a_md_text md_typed a_md_told a_md_draft a_md_s a_md_past md_known a_md_images md_kept a_md_seen md_sights md_at a_md_asks a_md_brings a_md_uses a_md_days a_md_tries a_md_row md_many a_md_first md_length md_set a_md_held a_md_text md_text a_md_told md_told a_md_draft md_draft a_md_s md_s a_md_past md_past a_md_images md_images a_md_seen md_seen a_md_asks md_asks a_md_brings md_brings a_md_uses md_uses a_md_days md_days a_md_tries md_tries a_md_row md_row a_md_first md_first a_md_held md_held) (Bw0 D (wd_28 cC cI cJ a_md a_md_text md_typed a_md_told a_md_draft a_md_s a_md_past md_known a_md_images md_kept a_md_seen md_sights md_at a_md_asks a_md_brings a_md_uses a_md_days a_md_tries a_md_row out.2.1 a_md_first out.2.2.1 out.2.2.2.1 a_md_held a_md_text md_text a_md_told md_told a_md_draft md_draft a_md_s out.2.2.2.2.1 a_md_past md_past a_md_images md_images a_md_seen md_seen a_md_asks out.2.2.2.2.2.1 a_md_brings out.2.2.2.2.2.2.1 a_md_uses out.2.2.2.2.2.2.2.1 a_md_days out.2.2.2.2.2.2.2.2.1 a_md_tries out.2.2.2.2.2.2.2.2.2.1 a_md_row out.2.2.2.2.2.2.2.2.2.2.1 a_md_first out.2.2.2.2.2.2.2.2.2.2.2 a_md_held md_held)) out.1 := by
  unfold m_X6_few at hm
  refine enter (cc := cX6_few) (maxL := 6) (ret := (some .int)) (lv := [(0, .ref a_md)]) (by decide) rfl (Nat.le_of_ble_eq_true rfl) rfl ?_
  intro p e s m args below meth c S hr hlk hK hP ls hl
  replace S : CallFix p m c cX6_few 6 s args wsX6_few RX6 := S
  have hx := S.1
  have hb := S.2.1
  have hw : Wd D A s.heap (wd_28 cC cI cJ a_md a_md_text md_typed a_md_told a_md_draft a_md_s a_md_past md_known a_md_images md_kept a_md_seen md_sights md_at a_md_asks a_md_brings a_md_uses a_md_days a_md_tries a_md_row md_many a_md_first md_length md_set a_md_held a_md_text md_text a_md_told md_told a_md_draft md_draft a_md_s md_s a_md_past md_past a_md_images md_images a_md_seen md_seen a_md_asks md_asks a_md_brings md_brings a_md_uses md_uses a_md_days md_days a_md_tries md_tries a_md_row md_row a_md_first md_first a_md_held md_held) s.heap [] := ⟨hP, hD, va_S.rf⟩
  have hw0 := hw
  refine lv_aload_n hx hb dX6_few_0 rfl (lv_at hl 0 rfl) ?_
  refine f_get S hK hw.1 in_X6_few_X6 0 rfl rfl 4 (by decide) (List.mem_of_getElem? (i := 1) rfl) rfl rfl dX6_few_1 ?_
  refine lv_iconst (v := 2) hx hb dX6_few_4 (by decide) ?_
  refine f_ialdK S hK hw.1 4 1 rfl rfl 2 (by decide) (by decide) (v := (md_s 2)) rfl dX6_few_5 ?_
  refine lv_istore_n (lv' := [(1, .int (md_s 2)), (0, .ref a_md)]) hx hb dX6_few_6 rfl hl (by decide) rfl (fun ls hl => ?_)
  refine lv_bipush (v := (-4)) hx hb dX6_few_7 (by decide) ?_
  refine lv_istore_n (lv' := [(2, .int (-4 : Int32)), (1, .int (md_s 2)), (0, .ref a_md)]) hx hb dX6_few_9 rfl hl (by decide) rfl (fun ls hl => ?_)
  refine lv_aload_n hx hb dX6_few_10 rfl (lv_at hl 2 rfl) ?_
  refine lv_bipush (v := (-4)) hx hb dX6_few_11 (by decide) ?_
  refine f_put S hK hw in_X6_few_X6 tyX6_ok nmX6 0 rfl rfl 21 (by decide) (List.mem_of_getElem? (i := 2) rfl) rfl rfl rfl rfl (Nat.le_of_ble_eq_true rfl) (ws1 := (wd_28 cC cI cJ a_md a_md_text md_typed a_md_told a_md_draft a_md_s a_md_past md_known a_md_images md_kept a_md_seen md_sights md_at a_md_asks a_md_brings a_md_uses a_md_days a_md_tries a_md_row md_many a_md_first md_length (-4 : Int32) a_md_held a_md_text md_text a_md_told md_told a_md_draft md_draft a_md_s md_s a_md_past md_past a_md_images md_images a_md_seen md_seen a_md_asks md_asks a_md_brings md_brings a_md_uses md_uses a_md_days md_days a_md_tries md_tries a_md_row md_row a_md_first md_first a_md_held md_held)) rfl dX6_few_13 (fun H locs hw => ?_)
  refine lv_iconst (v := 0) hx hb dX6_few_16 (by decide) ?_
  refine lv_istore_n (lv' := [(3, .int (0 : Int32)), (2, .int (-4 : Int32)), (1, .int (md_s 2)), (0, .ref a_md)]) hx hb dX6_few_17 rfl hl (by decide) rfl (fun ls hl => ?_)
  obtain ⟨r29, h30, hm⟩ := ob hm
  refine t_X6_few_18 l S hK a_md a_md_text a_md_told a_md_draft a_md_s a_md_past a_md_images a_md_seen a_md_asks a_md_brings a_md_uses a_md_days a_md_tries a_md_row a_md_first a_md_held N (md_s 2) md_typed md_known md_kept md_sights md_at md_text md_told md_draft md_past md_images md_seen md_held N (-4 : Int32) (0 : Int32) md_many md_length (-4 : Int32) md_s md_asks md_brings md_uses md_days md_tries md_row md_first r29 h30  _ _ ls hw (lv_sub hl [3, 2, 1, 0] rfl) (fun H locs ls hw hl => ?_)
  refine lv_aload_n hx hb dX6_few_165 rfl (lv_at hl 0 rfl) ?_
  refine f_get S hK hw.1 in_X6_few_X6 0 rfl rfl 4 (by decide) (List.mem_of_getElem? (i := 1) rfl) rfl rfl dX6_few_166 ?_
  refine lv_iconst (v := 2) hx hb dX6_few_169 (by decide) ?_
  refine lv_iload_n hx hb dX6_few_170 rfl (lv_at hl 1 rfl) ?_
  refine f_iastK S hK hw 4 1 rfl rfl 2 (by decide) (by decide) (ws1 := (wd_28 cC cI cJ a_md a_md_text md_typed a_md_told a_md_draft a_md_s a_md_past md_known a_md_images md_kept a_md_seen md_sights md_at a_md_asks a_md_brings a_md_uses a_md_days a_md_tries a_md_row r29.2.1 a_md_first r29.2.2.1 r29.2.2.2.1 a_md_held a_md_text md_text a_md_told md_told a_md_draft md_draft a_md_s (upd r29.2.2.2.2.1 2 (md_s 2)) a_md_past md_past a_md_images md_images a_md_seen md_seen a_md_asks r29.2.2.2.2.2.1 a_md_brings r29.2.2.2.2.2.2.1 a_md_uses r29.2.2.2.2.2.2.2.1 a_md_days r29.2.2.2.2.2.2.2.2.1 a_md_tries r29.2.2.2.2.2.2.2.2.2.1 a_md_row r29.2.2.2.2.2.2.2.2.2.2.1 a_md_first r29.2.2.2.2.2.2.2.2.2.2.2 a_md_held md_held)) rfl dX6_few_171 (fun H locs hw => ?_)
  refine lv_iload_n hx hb dX6_few_172 rfl (lv_at hl 2 rfl) ?_
  obtain rfl := Option.some.inj hm
  exact e_WI S hr hlk hw rfl hw.1 dX6_few_173

abbrev rX6_fewest : Room := { frames := 4, cells := 0, slots := 0, locals := 102 }
theorem cal_X6_fewest : Cal yX6_fewest wsX6_fewest cX6_fewest 3 (some .int) RX6 1 := ⟨⟨_, rfl⟩, rfl, by decide +kernel, by decide +kernel, by decide +kernel⟩
theorem in_X6_fewest_X6 : ∀ w ∈ wsX60, w ∈ wsX6_fewest := fun _ h => (List.mem_cons_of_mem _ (List.mem_append_right _ h))
set_option maxHeartbeats 4000000 in
set_option maxRecDepth 100000 in
theorem c_X6_fewest (l : Launch) (D : va_G) (cC cI cJ : ClassId) (a_md : Nat) (a_md_text : Nat) (a_md_told : Nat) (a_md_draft : Nat) (a_md_s : Nat) (a_md_past : Nat) (a_md_images : Nat) (a_md_seen : Nat) (a_md_asks : Nat) (a_md_brings : Nat) (a_md_uses : Nat) (a_md_days : Nat) (a_md_tries : Nat) (a_md_row : Nat) (a_md_first : Nat) (a_md_held : Nat) (md_typed : Int32) (md_known : Int32) (md_kept : Int32) (md_sights : Int32) (md_at : Int32) (md_many : Int32) (md_length : Int32) (md_set : Int32) (md_text : (Nat → Int32)) (md_told : (Nat → Int32)) (md_draft : (Nat → Int32)) (md_s : (Nat → Int32)) (md_past : (Nat → Int32)) (md_images : (Nat → Int32)) (md_seen : (Nat → Int32)) (md_asks : (Nat → Int32)) (md_brings : (Nat → Int32)) (md_uses : (Nat → Int32)) (md_days : (Nat → Int32)) (md_tries : (Nat → Int32)) (md_row : (Nat → Int32)) (md_first : (Nat → Int32)) (md_held : (Nat → Int32)) (p0 : Int32) (N : Nat) (A : Nat → Prop) (hD : va_D A (wd_28 cC cI cJ a_md a_md_text md_typed a_md_told a_md_draft a_md_s a_md_past md_known a_md_images md_kept a_md_seen md_sights md_at a_md_asks a_md_brings a_md_uses a_md_days a_md_tries a_md_row md_many a_md_first md_length md_set a_md_held a_md_text md_text a_md_told md_told a_md_draft md_draft a_md_s md_s a_md_past md_past a_md_images md_images a_md_seen md_seen a_md_asks md_asks a_md_brings md_brings a_md_uses md_uses a_md_days md_days a_md_tries md_tries a_md_row md_row a_md_first md_first a_md_held md_held)) (out : (Int32 × Int32 × Int32 × Int32 × (Nat → Int32) × (Nat → Int32) × (Nat → Int32) × (Nat → Int32) × (Nat → Int32) × (Nat → Int32) × (Nat → Int32) × (Nat → Int32))) (hm : m_X6_fewest N md_sights md_many md_length md_set md_told md_s md_seen md_asks md_brings md_uses md_days md_tries md_row md_first p0 = some out) : WrI l yX6_fewest wsX6_fewest rX6_fewest D (tyK cC cI cJ) [.ref a_md, .int p0] A (wd_28 cC cI cJ a_md a_md_text md_typed a_md_told a_md_draft a_md_s a_md_past md_known a_md_images md_kept a_md_seen md_sights md_at a_md_asks a_md_brings a_md_uses a_md_days a_md_tries a_md_row md_many a_md_first md_length md_set a_md_held a_md_text md_text a_md_told md_told a_md_draft md_draft a_md_s md_s a_md_past md_past a_md_images md_images a_md_seen md_seen a_md_asks md_asks a_md_brings md_brings a_md_uses md_uses a_md_days md_days a_md_tries md_tries a_md_row md_row a_md_first md_first a_md_held md_held) (Bw0 D (wd_28 cC cI cJ a_md a_md_text md_typed a_md_told a_md_draft a_md_s a_md_past md_known a_md_images md_kept a_md_seen md_sights md_at a_md_asks a_md_brings a_md_uses a_md_days a_md_tries a_md_row out.2.1 a_md_first out.2.2.1 out.2.2.2.1 a_md_held a_md_text md_text a_md_told md_told a_md_draft md_draft a_md_s out.2.2.2.2.1 a_md_past md_past a_md_images md_images a_md_seen md_seen a_md_asks out.2.2.2.2.2.1 a_md_brings out.2.2.2.2.2.2.1 a_md_uses out.2.2.2.2.2.2.2.1 a_md_days out.2.2.2.2.2.2.2.2.1 a_md_tries out.2.2.2.2.2.2.2.2.2.1 a_md_row out.2.2.2.2.2.2.2.2.2.2.1 a_md_first out.2.2.2.2.2.2.2.2.2.2.2 a_md_held md_held)) out.1 := by
  unfold m_X6_fewest at hm
  refine enter (cc := cX6_fewest) (maxL := 3) (ret := (some .int)) (lv := [(0, .ref a_md), (1, .int p0)]) (by decide) rfl (Nat.le_of_ble_eq_true rfl) rfl ?_
  intro p e s m args below meth c S hr hlk hK hP ls hl
  replace S : CallFix p m c cX6_fewest 3 s args wsX6_fewest RX6 := S
  have hx := S.1
  have hb := S.2.1
  have hw : Wd D A s.heap (wd_28 cC cI cJ a_md a_md_text md_typed a_md_told a_md_draft a_md_s a_md_past md_known a_md_images md_kept a_md_seen md_sights md_at a_md_asks a_md_brings a_md_uses a_md_days a_md_tries a_md_row md_many a_md_first md_length md_set a_md_held a_md_text md_text a_md_told md_told a_md_draft md_draft a_md_s md_s a_md_past md_past a_md_images md_images a_md_seen md_seen a_md_asks md_asks a_md_brings md_brings a_md_uses md_uses a_md_days md_days a_md_tries md_tries a_md_row md_row a_md_first md_first a_md_held md_held) s.heap [] := ⟨hP, hD, va_S.rf⟩
  have hw0 := hw
  refine lv_iload_n hx hb dX6_fewest_0 rfl (lv_at hl 1 rfl) ?_
  refine lv_iconst (v := 0) hx hb dX6_fewest_1 (by decide) ?_
  refine lv_iconst (v := 1) hx hb dX6_fewest_2 (by decide) ?_
  obtain ⟨r1, h2, hm⟩ := ob hm
  refine k_rSi S hK hw.1 cal_X6_in gX6_fewest_X6_in (c_X6_in l D cC cI cJ p0 (0 : Int32) (1 : Int32) r1 h2) ⟨⟨rfl, rfl⟩, Nat.le_of_ble_eq_true rfl, Nat.le_of_ble_eq_true rfl⟩ [] rfl rfl hl.1 rfl (Nat.le_of_ble_eq_true rfl) dX6_fewest_3 ⟨Nat.zero_le _, Nat.zero_le _⟩ ?_
  refine lv_if_ne (tgt := 11) hx hb dX6_fewest_6 (by decide) (fun c3 => ?_) (fun c3 => ?_)
  · replace hm := ineg hm c3
    refine lv_aload_n hx hb dX6_fewest_11 rfl (lv_at hl 0 rfl) ?_
    obtain ⟨r4, h5, hm⟩ := ob hm
    refine k_wVi S hK hw cal_X6_few gX6_fewest_X6_few (c_X6_few l D cC cI cJ a_md a_md_text a_md_told a_md_draft a_md_s a_md_past a_md_images a_md_seen a_md_asks a_md_brings a_md_uses a_md_days a_md_tries a_md_row a_md_first a_md_held md_typed md_known md_kept md_sights md_at md_many md_length md_set md_text md_told md_draft md_s md_past md_images md_seen md_asks md_brings md_uses md_days md_tries md_row md_first md_held N (aw _) (hw.own [0, 1, 2, 3, 4, 5, 6, 7, 8, 9, 10, 11, 12, 13, 14, 15] (by decide) rfl) r4 h5) ⟨⟨rfl, rfl⟩, Nat.le_of_ble_eq_true rfl, Nat.le_of_ble_eq_true rfl⟩ [0, 1, 2, 3, 4, 5, 6, 7, 8, 9, 10, 11, 12, 13, 14, 15] rfl 0 rfl rfl rfl hl.1 rfl (Nat.le_of_ble_eq_true rfl) dX6_fewest_12 ⟨Nat.zero_le _, Nat.zero_le _⟩ (fun H locs hJ hB => ?_)
    have hw := hJ _ hB rfl
    replace hw : Wd D A _ (wd_28 cC cI cJ a_md a_md_text md_typed a_md_told a_md_draft a_md_s a_md_past md_known a_md_images md_kept a_md_seen md_sights md_at a_md_asks a_md_brings a_md_uses a_md_days a_md_tries a_md_row r4.2.1 a_md_first r4.2.2.1 r4.2.2.2.1 a_md_held a_md_text md_text a_md_told md_told a_md_draft md_draft a_md_s r4.2.2.2.2.1 a_md_past md_past a_md_images md_images a_md_seen md_seen a_md_asks r4.2.2.2.2.2.1 a_md_brings r4.2.2.2.2.2.2.1 a_md_uses r4.2.2.2.2.2.2.2.1 a_md_days r4.2.2.2.2.2.2.2.2.1 a_md_tries r4.2.2.2.2.2.2.2.2.2.1 a_md_row r4.2.2.2.2.2.2.2.2.2.2.1 a_md_first r4.2.2.2.2.2.2.2.2.2.2.2 a_md_held md_held) H locs := hw
    refine lv_istore_n (lv' := [(2, .int r4.1), (0, .ref a_md), (1, .int p0)]) hx hb dX6_fewest_15 rfl hl (by decide) rfl (fun ls hl => ?_)
    refine lv_iload_n hx hb dX6_fewest_16 rfl (lv_at hl 2 rfl) ?_
    refine lv_if_ne (tgt := 24) hx hb dX6_fewest_17 (by decide) (fun c6 => ?_) (fun c6 => ?_)
    · replace hm := ineg hm c6
      refine lv_aload_n hx hb dX6_fewest_24 rfl (lv_at hl 1 rfl) ?_
      refine f_get S hK hw.1 in_X6_fewest_X6 0 rfl rfl 21 (by decide) (List.mem_of_getElem? (i := 1) rfl) rfl rfl dX6_fewest_25 ?_
      obtain rfl := Option.some.inj hm
      exact e_WI S hr hlk hw rfl hw.1 dX6_fewest_28
    · replace hm := ipos hm c6
      refine lv_iload_n hx hb dX6_fewest_20 rfl (lv_at hl 0 rfl) ?_
      refine lv_goto (tgt := 28) hx hb dX6_fewest_21 (by decide) ?_
      obtain rfl := Option.some.inj hm
      exact e_WI S hr hlk hw rfl hw.1 dX6_fewest_28
  · replace hm := ipos hm c3
    refine lv_iconst (v := (-1)) hx hb dX6_fewest_9 (by decide) ?_
    obtain rfl := Option.some.inj hm
    exact e_WI S hr hlk hw rfl hw.1 dX6_fewest_10

abbrev rX6_isTask : Room := { frames := 1, cells := 0, slots := 0, locals := 22 }
theorem cal_X6_isTask : Cal yX6_isTask wsX6_isTask cX6_isTask 2 (some .boolean) RX6 1 := ⟨⟨_, rfl⟩, rfl, by decide +kernel, by decide +kernel, by decide +kernel⟩
theorem in_X6_isTask_X6 : ∀ w ∈ wsX60, w ∈ wsX6_isTask := fun _ h => (List.mem_cons_of_mem _ (List.mem_append_right _ h))
set_option maxHeartbeats 4000000 in
set_option maxRecDepth 100000 in
theorem c_X6_isTask (l : Launch) (D : va_G) (cC cI cJ : ClassId) (a_md : Nat) (a_md_text : Nat) (a_md_told : Nat) (a_md_draft : Nat) (a_md_s : Nat) (a_md_past : Nat) (a_md_images : Nat) (a_md_seen : Nat) (a_md_asks : Nat) (a_md_brings : Nat) (a_md_uses : Nat) (a_md_days : Nat) (a_md_tries : Nat) (a_md_row : Nat) (a_md_first : Nat) (a_md_held : Nat) (md_typed : Int32) (md_known : Int32) (md_kept : Int32) (md_sights : Int32) (md_at : Int32) (md_many : Int32) (md_length : Int32) (md_set : Int32) (md_text : (Nat → Int32)) (md_told : (Nat → Int32)) (md_draft : (Nat → Int32)) (md_s : (Nat → Int32)) (md_past : (Nat → Int32)) (md_images : (Nat → Int32)) (md_seen : (Nat → Int32)) (md_asks : (Nat → Int32)) (md_brings : (Nat → Int32)) (md_uses : (Nat → Int32)) (md_days : (Nat → Int32)) (md_tries : (Nat → Int32)) (md_row : (Nat → Int32)) (md_first : (Nat → Int32)) (md_held : (Nat → Int32)) (p0 : Int32) (out : Int32) (hm : m_X6_isTask md_told p0 = some out) : RdI l yX6_isTask wsX6_isTask rX6_isTask D (tyK cC cI cJ) [.ref a_md, .int p0] (wd_28 cC cI cJ a_md a_md_text md_typed a_md_told a_md_draft a_md_s a_md_past md_known a_md_images md_kept a_md_seen md_sights md_at a_md_asks a_md_brings a_md_uses a_md_days a_md_tries a_md_row md_many a_md_first md_length md_set a_md_held a_md_text md_text a_md_told md_told a_md_draft md_draft a_md_s md_s a_md_past md_past a_md_images md_images a_md_seen md_seen a_md_asks md_asks a_md_brings md_brings a_md_uses md_uses a_md_days md_days a_md_tries md_tries a_md_row md_row a_md_first md_first a_md_held md_held) out := by
  unfold m_X6_isTask at hm
  refine enter (cc := cX6_isTask) (maxL := 2) (ret := (some .boolean)) (lv := [(0, .ref a_md), (1, .int p0)]) (by decide) rfl (Nat.le_of_ble_eq_true rfl) rfl ?_
  intro p e s m args below meth c S hr hlk hK hP ls hl
  replace S : CallFix p m c cX6_isTask 2 s args wsX6_isTask RX6 := S
  have hx := S.1
  have hb := S.2.1
  refine lv_iload_n hx hb dX6_isTask_0 rfl (lv_at hl 1 rfl) ?_
  refine lv_iconst (v := 0) hx hb dX6_isTask_1 (by decide) ?_
  refine lv_aload_n hx hb dX6_isTask_2 rfl (lv_at hl 0 rfl) ?_
  refine f_get S hK hP in_X6_isTask_X6 0 rfl rfl 2 (by decide) (List.mem_of_getElem? (i := 1) rfl) rfl rfl dX6_isTask_3 ?_
  refine lv_iconst (v := 0) hx hb dX6_isTask_6 (by decide) ?_
  refine f_ialdK S hK hP 2 1 rfl rfl 0 (by decide) (by decide) (v := (md_told 0)) rfl dX6_isTask_7 ?_
  refine lv_iconst (v := 1) hx hb dX6_isTask_8 (by decide) ?_
  refine lv_isub hx hb dX6_isTask_9 ?_
  obtain ⟨r2, h3, hm⟩ := ob hm
  refine k_rSi S hK hP cal_X6_in gX6_isTask_X6_in (c_X6_in l D cC cI cJ p0 (0 : Int32) ((md_told 0) - (1 : Int32)) r2 h3) ⟨⟨rfl, rfl⟩, Nat.le_of_ble_eq_true rfl, Nat.le_of_ble_eq_true rfl⟩ [] rfl rfl hl.1 rfl (Nat.le_of_ble_eq_true rfl) dX6_isTask_10 ⟨Nat.zero_le _, Nat.zero_le _⟩ ?_
  obtain ⟨hz, hm⟩ := gdo hm
  exact e_RZ S hr hlk hz (Option.some.inj hm) dX6_isTask_13
