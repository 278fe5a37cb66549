/-! walks: X6_readsItem X6_readsAll X6_fault X6_lowest -/
abbrev rX6_readsItem : Room := { frames := 3, cells := 0, slots := 0, locals := 67 }
theorem cal_X6_readsItem : Cal yX6_readsItem wsX6_readsItem cX6_readsItem 6 (some .boolean) RX6 1 := ⟨⟨_, rfl⟩, rfl, by decide +kernel, by decide +kernel, by decide +kernel⟩
theorem in_X6_readsItem_X6 : ∀ w ∈ wsX60, w ∈ wsX6_readsItem := fun _ h => (List.mem_cons_of_mem _ (List.mem_append_right _ h))
set_option maxHeartbeats 4000000 in
set_option maxRecDepth 100000 in
theorem c_X6_readsItem (l : Launch) (D : va_G) (cC cI cJ : ClassId) (a_md : Nat) (a_md_text : Nat) (a_md_told : Nat) (a_md_draft : Nat) (a_md_s : Nat) (a_md_past : Nat) (a_md_images : Nat) (a_md_seen : Nat) (a_md_asks : Nat) (a_md_brings : Nat) (a_md_uses : Nat) (a_md_days : Nat) (a_md_tries : Nat) (a_md_row : Nat) (a_md_first : Nat) (a_md_held : Nat) (md_typed : Int32) (md_known : Int32) (md_kept : Int32) (md_sights : Int32) (md_at : Int32) (md_many : Int32) (md_length : Int32) (md_set : Int32) (md_text : (Nat → Int32)) (md_told : (Nat → Int32)) (md_draft : (Nat → Int32)) (md_s : (Nat → Int32)) (md_past : (Nat → Int32)) (md_images : (Nat → Int32)) (md_seen : (Nat → Int32)) (md_asks : (Nat → Int32)) (md_brings : (Nat → Int32)) (md_uses : (Nat → Int32)) (md_days : (Nat → Int32)) (md_tries : (Nat → Int32)) (md_row : (Nat → Int32)) (md_first : (Nat → Int32)) (md_held : (Nat → Int32)) (p0 : Int32) (A : Nat → Prop) (hD : va_D A (wd_28 cC cI cJ a_md a_md_text md_typed a_md_told a_md_draft a_md_s a_md_past md_known a_md_images md_kept a_md_seen md_sights md_at a_md_asks a_md_brings a_md_uses a_md_days a_md_tries a_md_row md_many a_md_first md_length md_set a_md_held a_md_text md_text a_md_told md_told a_md_draft md_draft a_md_s md_s a_md_past md_past a_md_images md_images a_md_seen md_seen a_md_asks md_asks a_md_brings md_brings a_md_uses md_uses a_md_days md_days a_md_tries md_tries a_md_row md_row a_md_first md_first a_md_held md_held)) (out : (Int32 × Int32 × (Nat → Int32))) (hm : m_X6_readsItem md_typed md_at md_text md_draft p0 = some out) : WrI l yX6_readsItem wsX6_readsItem rX6_readsItem D (tyK cC cI cJ) [.ref a_md, .int p0] A (wd_28 cC cI cJ a_md a_md_text md_typed a_md_told a_md_draft a_md_s a_md_past md_known a_md_images md_kept a_md_seen md_sights md_at a_md_asks a_md_brings a_md_uses a_md_days a_md_tries a_md_row md_many a_md_first md_length md_set a_md_held a_md_text md_text a_md_told md_told a_md_draft md_draft a_md_s md_s a_md_past md_past a_md_images md_images a_md_seen md_seen a_md_asks md_asks a_md_brings md_brings a_md_uses md_uses a_md_days md_days a_md_tries md_tries a_md_row md_row a_md_first md_first a_md_held md_held) (Bw0 D (wd_28 cC cI cJ a_md a_md_text md_typed a_md_told a_md_draft a_md_s a_md_past md_known a_md_images md_kept a_md_seen md_sights out.2.1 a_md_asks a_md_brings a_md_uses a_md_days a_md_tries a_md_row md_many a_md_first md_length md_set a_md_held a_md_text md_text a_md_told md_told a_md_draft out.2.2 a_md_s md_s a_md_past md_past a_md_images md_images a_md_seen md_seen a_md_asks md_asks a_md_brings md_brings a_md_uses md_uses a_md_days md_days a_md_tries md_tries a_md_row md_row a_md_first md_first a_md_held md_held)) out.1 := by
  unfold m_X6_readsItem at hm
  refine enter (cc := cX6_readsItem) (maxL := 6) (ret := (some .boolean)) (lv := [(0, .ref a_md), (1, .int p0)]) (by decide) rfl (Nat.le_of_ble_eq_true rfl) rfl ?_
  intro p e s m args below meth c S hr hlk hK hP ls hl
  replace S : CallFix p m c cX6_readsItem 6 s args wsX6_readsItem RX6 := S
  have hx := S.1
  have hb := S.2.1
  have hw : Wd D A s.heap (wd_28 cC cI cJ a_md a_md_text md_typed a_md_told a_md_draft a_md_s a_md_past md_known a_md_images md_kept a_md_seen md_sights md_at a_md_asks a_md_brings a_md_uses a_md_days a_md_tries a_md_row md_many a_md_first md_length md_set a_md_held a_md_text md_text a_md_told md_told a_md_draft md_draft a_md_s md_s a_md_past md_past a_md_images md_images a_md_seen md_seen a_md_asks md_asks a_md_brings md_brings a_md_uses md_uses a_md_days md_days a_md_tries md_tries a_md_row md_row a_md_first md_first a_md_held md_held) s.heap [] := ⟨hP, hD, va_S.rf⟩
  have hw0 := hw
  refine lv_iload_n hx hb dX6_readsItem_0 rfl (lv_at hl 1 rfl) ?_
  by_cases c1 : p0 = (97 : Int32)
  · replace hm := ipos hm c1
    refine f_look S dX6_readsItem_1 rfl (off := 198) (by rw [c1]; decide) (tgt := 199) (by decide) ?_
    refine lv_aload_n hx hb dX6_readsItem_199 rfl (lv_at hl 0 rfl) ?_
    refine lv_iconst (v := 0) hx hb dX6_readsItem_200 (by decide) ?_
    refine lv_aload_n hx hb dX6_readsItem_201 rfl (lv_at hl 0 rfl) ?_
    refine f_get S hK hw.1 in_X6_readsItem_X6 0 rfl rfl 3 (by decide) (List.mem_of_getElem? (i := 1) rfl) rfl rfl dX6_readsItem_202 ?_
    refine lv_iconst (v := 0) hx hb dX6_readsItem_205 (by decide) ?_
    refine f_ialdK S hK hw.1 3 1 rfl rfl 0 (by decide) (by decide) (v := (md_draft 0)) rfl dX6_readsItem_206 ?_
    refine lv_iconst (v := 1) hx hb dX6_readsItem_207 (by decide) ?_
    refine lv_isub hx hb dX6_readsItem_208 ?_
    refine lv_bipush (v := 59) hx hb dX6_readsItem_209 (by decide) ?_
    obtain ⟨r3, h4, hm⟩ := ob hm
    refine k_wVi S hK hw cal_X6_number gX6_readsItem_X6_number (c_X6_number l D cC cI cJ a_md a_md_text a_md_told a_md_draft a_md_s a_md_past a_md_images a_md_seen a_md_asks a_md_brings a_md_uses a_md_days a_md_tries a_md_row a_md_first a_md_held md_typed md_known md_kept md_sights md_at md_many md_length md_set md_text md_told md_draft md_s md_past md_images md_seen md_asks md_brings md_uses md_days md_tries md_row md_first md_held (0 : Int32) ((md_draft 0) - (1 : Int32)) (59 : Int32) (aw _) (hw.own [0, 1, 2, 3, 4, 5, 6, 7, 8, 9, 10, 11, 12, 13, 14, 15] (by decide) rfl) r3 h4) ⟨⟨rfl, rfl⟩, Nat.le_of_ble_eq_true rfl, Nat.le_of_ble_eq_true rfl⟩ [0, 1, 2, 3, 4, 5, 6, 7, 8, 9, 10, 11, 12, 13, 14, 15] rfl 0 rfl rfl rfl hl.1 rfl (Nat.le_of_ble_eq_true rfl) dX6_readsItem_211 ⟨Nat.zero_le _, Nat.zero_le _⟩ (fun H locs hJ hB => ?_)
    have hw := hJ _ hB rfl
    replace hw : Wd D A _ (wd_28 cC cI cJ a_md a_md_text md_typed a_md_told a_md_draft a_md_s a_md_past md_known a_md_images md_kept a_md_seen md_sights r3.2 a_md_asks a_md_brings a_md_uses a_md_days a_md_tries a_md_row md_many a_md_first md_length md_set a_md_held a_md_text md_text a_md_told md_told a_md_draft md_draft a_md_s md_s a_md_past md_past a_md_images md_images a_md_seen md_seen a_md_asks md_asks a_md_brings md_brings a_md_uses md_uses a_md_days md_days a_md_tries md_tries a_md_row md_row a_md_first md_first a_md_held md_held) H locs := hw
    refine lv_istore_n (lv' := [(2, .int r3.1), (0, .ref a_md), (1, .int p0)]) hx hb dX6_readsItem_214 rfl hl (by decide) rfl (fun ls hl => ?_)
    refine lv_aload_n hx hb dX6_readsItem_215 rfl (lv_at hl 1 rfl) ?_
    refine f_get S hK hw.1 in_X6_readsItem_X6 0 rfl rfl 3 (by decide) (List.mem_of_getElem? (i := 1) rfl) rfl rfl dX6_readsItem_216 ?_
    refine lv_iconst (v := 4) hx hb dX6_readsItem_219 (by decide) ?_
    refine lv_dup2_11 hx hb dX6_readsItem_220 rfl rfl ?_
    refine f_ialdK S hK hw.1 3 1 rfl rfl 4 (by decide) (by decide) (v := (md_draft 4)) rfl dX6_readsItem_221 ?_
    refine lv_iload_n hx hb dX6_readsItem_222 rfl (lv_at hl 0 rfl) ?_
    refine lv_if_ge (tgt := 230) hx hb dX6_readsItem_223 (by decide) (fun c6 => ?_) (fun c6 => ?_)
    · replace hm := ipos hm c6
      refine lv_iconst (v := 1) hx hb dX6_readsItem_230 (by decide) ?_
      refine lv_iload_n hx hb dX6_readsItem_231 rfl (lv_at hl 0 rfl) ?_
      refine lv_ishl hx hb dX6_readsItem_232 ?_
      refine lv_ior hx hb dX6_readsItem_233 ?_
      obtain ⟨y8, e9, hm⟩ := ob hm
      refine f_name e9 ?_
      refine f_iastK S hK hw 3 1 rfl rfl 4 (by decide) (by decide) (ws1 := (wd_28 cC cI cJ a_md a_md_text md_typed a_md_told a_md_draft a_md_s a_md_past md_known a_md_images md_kept a_md_seen md_sights r3.2 a_md_asks a_md_brings a_md_uses a_md_days a_md_tries a_md_row md_many a_md_first md_length md_set a_md_held a_md_text md_text a_md_told md_told a_md_draft (upd md_draft 4 y8) a_md_s md_s a_md_past md_past a_md_images md_images a_md_seen md_seen a_md_asks md_asks a_md_brings md_brings a_md_uses md_uses a_md_days md_days a_md_tries md_tries a_md_row md_row a_md_first md_first a_md_held md_held)) rfl dX6_readsItem_234 (fun H locs hw => ?_)
      refine lv_iload_n hx hb dX6_readsItem_235 rfl (lv_at hl 0 rfl) ?_
      refine lv_if_lt (tgt := 243) hx hb dX6_readsItem_236 (by decide) (fun c10 => ?_) (fun c10 => ?_)
      · replace hm := ipos hm c10
        refine lv_iconst (v := 0) hx hb dX6_readsItem_243 (by decide) ?_
        obtain rfl := Option.some.inj hm
        exact e_WZ S hr hlk hw (Or.inl rfl) rfl hw.1 dX6_readsItem_244
      · replace hm := ineg hm c10
        refine lv_iconst (v := 1) hx hb dX6_readsItem_239 (by decide) ?_
        refine lv_goto (tgt := 244) hx hb dX6_readsItem_240 (by decide) ?_
        obtain rfl := Option.some.inj hm
        exact e_WZ S hr hlk hw (Or.inr rfl) rfl hw.1 dX6_readsItem_244
    · replace hm := ineg hm c6
      refine lv_iconst (v := 0) hx hb dX6_readsItem_226 (by decide) ?_
      refine lv_goto (tgt := 233) hx hb dX6_readsItem_227 (by decide) ?_
      refine lv_ior hx hb dX6_readsItem_233 ?_
      refine f_iastK S hK hw 3 1 rfl rfl 4 (by decide) (by decide) (ws1 := (wd_28 cC cI cJ a_md a_md_text md_typed a_md_told a_md_draft a_md_s a_md_past md_known a_md_images md_kept a_md_seen md_sights r3.2 a_md_asks a_md_brings a_md_uses a_md_days a_md_tries a_md_row md_many a_md_first md_length md_set a_md_held a_md_text md_text a_md_told md_told a_md_draft (upd md_draft 4 ((md_draft 4) ||| (0 : Int32))) a_md_s md_s a_md_past md_past a_md_images md_images a_md_seen md_seen a_md_asks md_asks a_md_brings md_brings a_md_uses md_uses a_md_days md_days a_md_tries md_tries a_md_row md_row a_md_first md_first a_md_held md_held)) rfl dX6_readsItem_234 (fun H locs hw => ?_)
      refine lv_iload_n hx hb dX6_readsItem_235 rfl (lv_at hl 0 rfl) ?_
      refine lv_if_lt (tgt := 243) hx hb dX6_readsItem_236 (by decide) (fun c12 => ?_) (fun c12 => ?_)
      · replace hm := ipos hm c12
        refine lv_iconst (v := 0) hx hb dX6_readsItem_243 (by decide) ?_
        obtain rfl := Option.some.inj hm
        exact e_WZ S hr hlk hw (Or.inl rfl) rfl hw.1 dX6_readsItem_244
      · replace hm := ineg hm c12
        refine lv_iconst (v := 1) hx hb dX6_readsItem_239 (by decide) ?_
        refine lv_goto (tgt := 244) hx hb dX6_readsItem_240 (by decide) ?_
        obtain rfl := Option.some.inj hm
        exact e_WZ S hr hlk hw (Or.inr rfl) rfl hw.1 dX6_readsItem_244
  replace hm := ineg hm c1
  by_cases c13 : p0 = (99 : Int32)
  · replace hm := ipos hm c13
    refine f_look S dX6_readsItem_1 rfl (off := 244) (by rw [c13]; decide) (tgt := 245) (by decide) ?_
    refine lv_aload_n hx hb dX6_readsItem_245 rfl (lv_at hl 0 rfl) ?_
    refine f_get S hK hw.1 in_X6_readsItem_X6 0 rfl rfl 3 (by decide) (List.mem_of_getElem? (i := 1) rfl) rfl rfl dX6_readsItem_246 ?_
    refine lv_iconst (v := 2) hx hb dX6_readsItem_249 (by decide) ?_
    refine lv_aload_n hx hb dX6_readsItem_250 rfl (lv_at hl 0 rfl) ?_
    refine lv_iconst (v := 0) hx hb dX6_readsItem_251 (by decide) ?_
    refine lv_bipush (v := 99) hx hb dX6_readsItem_252 (by decide) ?_
    refine lv_bipush (v := 59) hx hb dX6_readsItem_254 (by decide) ?_
    obtain ⟨r14, h15, hm⟩ := ob hm
    refine k_wVi S hK hw cal_X6_number gX6_readsItem_X6_number (c_X6_number l D cC cI cJ a_md a_md_text a_md_told a_md_draft a_md_s a_md_past a_md_images a_md_seen a_md_asks a_md_brings a_md_uses a_md_days a_md_tries a_md_row a_md_first a_md_held md_typed md_known md_kept md_sights md_at md_many md_length md_set md_text md_told md_draft md_s md_past md_images md_seen md_asks md_brings md_uses md_days md_tries md_row md_first md_held (0 : Int32) (99 : Int32) (59 : Int32) (aw _) (hw.own [0, 1, 2, 3, 4, 5, 6, 7, 8, 9, 10, 11, 12, 13, 14, 15] (by decide) rfl) r14 h15) ⟨⟨rfl, rfl⟩, Nat.le_of_ble_eq_true rfl, Nat.le_of_ble_eq_true rfl⟩ [0, 1, 2, 3, 4, 5, 6, 7, 8, 9, 10, 11, 12, 13, 14, 15] rfl 0 rfl rfl rfl hl.1 rfl (Nat.le_of_ble_eq_true rfl) dX6_readsItem_256 ⟨Nat.zero_le _, Nat.zero_le _⟩ (fun H locs hJ hB => ?_)
    have hw := hJ _ hB rfl
    replace hw : Wd D A _ (wd_28 cC cI cJ a_md a_md_text md_typed a_md_told a_md_draft a_md_s a_md_past md_known a_md_images md_kept a_md_seen md_sights r14.2 a_md_asks a_md_brings a_md_uses a_md_days a_md_tries a_md_row md_many a_md_first md_length md_set a_md_held a_md_text md_text a_md_told md_told a_md_draft md_draft a_md_s md_s a_md_past md_past a_md_images md_images a_md_seen md_seen a_md_asks md_asks a_md_brings md_brings a_md_uses md_uses a_md_days md_days a_md_tries md_tries a_md_row md_row a_md_first md_first a_md_held md_held) H locs := hw
    refine f_iastK S hK hw 3 1 rfl rfl 2 (by decide) (by decide) (ws1 := (wd_28 cC cI cJ a_md a_md_text md_typed a_md_told a_md_draft a_md_s a_md_past md_known a_md_images md_kept a_md_seen md_sights r14.2 a_md_asks a_md_brings a_md_uses a_md_days a_md_tries a_md_row md_many a_md_first md_length md_set a_md_held a_md_text md_text a_md_told md_told a_md_draft (upd md_draft 2 r14.1) a_md_s md_s a_md_past md_past a_md_images md_images a_md_seen md_seen a_md_asks md_asks a_md_brings md_brings a_md_uses md_uses a_md_days md_days a_md_tries md_tries a_md_row md_row a_md_first md_first a_md_held md_held)) rfl dX6_readsItem_259 (fun H locs hw => ?_)
    refine lv_aload_n hx hb dX6_readsItem_260 rfl (lv_at hl 0 rfl) ?_
    refine f_get S hK hw.1 in_X6_readsItem_X6 0 rfl rfl 3 (by decide) (List.mem_of_getElem? (i := 1) rfl) rfl rfl dX6_readsItem_261 ?_
    refine lv_iconst (v := 2) hx hb dX6_readsItem_264 (by decide) ?_
    refine f_ialdK S hK hw.1 3 1 rfl rfl 2 (by decide) (by decide) (v := r14.1) rfl dX6_readsItem_265 ?_
    refine lv_if_lt (tgt := 273) hx hb dX6_readsItem_266 (by decide) (fun c18 => ?_) (fun c18 => ?_)
    · replace hm := ipos hm c18
      refine lv_iconst (v := 0) hx hb dX6_readsItem_273 (by decide) ?_
      obtain rfl := Option.some.inj hm
      exact e_WZ S hr hlk hw (Or.inl rfl) rfl hw.1 dX6_readsItem_274
    · replace hm := ineg hm c18
      refine lv_iconst (v := 1) hx hb dX6_readsItem_269 (by decide) ?_
      refine lv_goto (tgt := 274) hx hb dX6_readsItem_270 (by decide) ?_
      obtain rfl := Option.some.inj hm
      exact e_WZ S hr hlk hw (Or.inr rfl) rfl hw.1 dX6_readsItem_274
  replace hm := ineg hm c13
  by_cases c19 : p0 = (104 : Int32)
  · replace hm := ipos hm c19
    refine f_look S dX6_readsItem_1 rfl (off := 146) (by rw [c19]; decide) (tgt := 147) (by decide) ?_
    refine lv_aload_n hx hb dX6_readsItem_147 rfl (lv_at hl 0 rfl) ?_
    refine lv_iconst (v := 0) hx hb dX6_readsItem_148 (by decide) ?_
    refine lv_iconst (v := 4) hx hb dX6_readsItem_149 (by decide) ?_
    refine lv_bipush (v := 44) hx hb dX6_readsItem_150 (by decide) ?_
    obtain ⟨r20, h21, hm⟩ := ob hm
    refine k_wVi S hK hw cal_X6_number gX6_readsItem_X6_number (c_X6_number l D cC cI cJ a_md a_md_text a_md_told a_md_draft a_md_s a_md_past a_md_images a_md_seen a_md_asks a_md_brings a_md_uses a_md_days a_md_tries a_md_row a_md_first a_md_held md_typed md_known md_kept md_sights md_at md_many md_length md_set md_text md_told md_draft md_s md_past md_images md_seen md_asks md_brings md_uses md_days md_tries md_row md_first md_held (0 : Int32) (4 : Int32) (44 : Int32) (aw _) (hw.own [0, 1, 2, 3, 4, 5, 6, 7, 8, 9, 10, 11, 12, 13, 14, 15] (by decide) rfl) r20 h21) ⟨⟨rfl, rfl⟩, Nat.le_of_ble_eq_true rfl, Nat.le_of_ble_eq_true rfl⟩ [0, 1, 2, 3, 4, 5, 6, 7, 8, 9, 10, 11, 12, 13, 14, 15] rfl 0 rfl rfl rfl hl.1 rfl (Nat.le_of_ble_eq_true rfl) dX6_readsItem_152 ⟨Nat.zero_le _, Nat.zero_le _⟩ (fun H locs hJ hB => ?_)
    have hw := hJ _ hB rfl
    replace hw : Wd D A _ (wd_28 cC cI cJ a_md a_md_text md_typed a_md_told a_md_draft a_md_s a_md_past md_known a_md_images md_kept a_md_seen md_sights r20.2 a_md_asks a_md_brings a_md_uses a_md_days a_md_tries a_md_row md_many a_md_first md_length md_set a_md_held a_md_text md_text a_md_told md_told a_md_draft md_draft a_md_s md_s a_md_past md_past a_md_images md_images a_md_seen md_seen a_md_asks md_asks a_md_brings md_brings a_md_uses md_uses a_md_days md_days a_md_tries md_tries a_md_row md_row a_md_first md_first a_md_held md_held) H locs := hw
    refine lv_istore_n (lv' := [(2, .int r20.1), (0, .ref a_md), (1, .int p0)]) hx hb dX6_readsItem_155 rfl hl (by decide) rfl (fun ls hl => ?_)
    refine lv_iload_n hx hb dX6_readsItem_156 rfl (lv_at hl 0 rfl) ?_
    refine lv_if_ge (tgt := 164) hx hb dX6_readsItem_157 (by decide) (fun c22 => ?_) (fun c22 => ?_)
    · replace hm := ipos hm c22
      refine lv_aload_n hx hb dX6_readsItem_164 rfl (lv_at hl 1 rfl) ?_
      refine lv_iconst (v := 0) hx hb dX6_readsItem_165 (by decide) ?_
      refine lv_bipush (v := 20) hx hb dX6_readsItem_166 (by decide) ?_
      refine lv_bipush (v := 59) hx hb dX6_readsItem_168 (by decide) ?_
      obtain ⟨r23, h24, hm⟩ := ob hm
      refine k_wVi S hK hw cal_X6_number gX6_readsItem_X6_number (c_X6_number l D cC cI cJ a_md a_md_text a_md_told a_md_draft a_md_s a_md_past a_md_images a_md_seen a_md_asks a_md_brings a_md_uses a_md_days a_md_tries a_md_row a_md_first a_md_held md_typed md_known md_kept md_sights r20.2 md_many md_length md_set md_text md_told md_draft md_s md_past md_images md_seen md_asks md_brings md_uses md_days md_tries md_row md_first md_held (0 : Int32) (20 : Int32) (59 : Int32) (aw _) (hw.own [0, 1, 2, 3, 4, 5, 6, 7, 8, 9, 10, 11, 12, 13, 14, 15] (by decide) rfl) r23 h24) ⟨⟨rfl, rfl⟩, Nat.le_of_ble_eq_true rfl, Nat.le_of_ble_eq_true rfl⟩ [0, 1, 2, 3, 4, 5, 6, 7, 8, 9, 10, 11, 12, 13, 14, 15] rfl 0 rfl rfl rfl hl.1 rfl (Nat.le_of_ble_eq_true rfl) dX6_readsItem_170 ⟨Nat.zero_le _, Nat.zero_le _⟩ (fun H locs hJ hB => ?_)
      have hw := hJ _ hB rfl
      replace hw : Wd D A _ (wd_28 cC cI cJ a_md a_md_text md_typed a_md_told a_md_draft a_md_s a_md_past md_known a_md_images md_kept a_md_seen md_sights r23.2 a_md_asks a_md_brings a_md_uses a_md_days a_md_tries a_md_row md_many a_md_first md_length md_set a_md_held a_md_text md_text a_md_told md_told a_md_draft md_draft a_md_s md_s a_md_past md_past a_md_images md_images a_md_seen md_seen a_md_asks md_asks a_md_brings md_brings a_md_uses md_uses a_md_days md_days a_md_tries md_tries a_md_row md_row a_md_first md_first a_md_held md_held) H locs := hw
      refine lv_istore_n (lv' := [(3, .int r23.1), (2, .int r20.1), (0, .ref a_md), (1, .int p0)]) hx hb dX6_readsItem_173 rfl hl (by decide) rfl (fun ls hl => ?_)
      refine lv_iload_n hx hb dX6_readsItem_174 rfl (lv_at hl 0 rfl) ?_
      refine lv_if_lt (tgt := 189) hx hb dX6_readsItem_175 (by decide) (fun c25 => ?_) (fun c25 => ?_)
      · replace hm := ipos hm c25
        refine lv_iconst (v := 0) hx hb dX6_readsItem_189 (by decide) ?_
        obtain rfl := Option.some.inj hm
        exact e_WZ S hr hlk hw (Or.inl rfl) rfl hw.1 dX6_readsItem_190
      · replace hm := ineg hm c25
        refine lv_aload_n hx hb dX6_readsItem_178 rfl (lv_at hl 2 rfl) ?_
        refine f_get S hK hw.1 in_X6_readsItem_X6 0 rfl rfl 3 (by decide) (List.mem_of_getElem? (i := 1) rfl) rfl rfl dX6_readsItem_179 ?_
        refine lv_iconst (v := 1) hx hb dX6_readsItem_182 (by decide) ?_
        refine f_ialdK S hK hw.1 3 1 rfl rfl 1 (by decide) (by decide) (v := (md_draft 1)) rfl dX6_readsItem_183 ?_
        refine lv_bipush (v := 7) hx hb dX6_readsItem_184 (by decide) ?_
        refine lv_icmp_ne (tgt := 191) hx hb dX6_readsItem_186 (by decide) (fun c27 => ?_) (fun c27 => ?_)
        · replace hm := ineg hm c27
          refine lv_aload_n hx hb dX6_readsItem_191 rfl (lv_at hl 2 rfl) ?_
          refine lv_iload_n hx hb dX6_readsItem_192 rfl (lv_at hl 1 rfl) ?_
          refine lv_iload_n hx hb dX6_readsItem_193 rfl (lv_at hl 0 rfl) ?_
          obtain ⟨r28, h29, hm⟩ := ob hm
          refine k_wVv S hK hw cal_X6_helperOf gX6_readsItem_X6_helperOf (c_X6_helperOf l D cC cI cJ a_md a_md_text a_md_told a_md_draft a_md_s a_md_past a_md_images a_md_seen a_md_asks a_md_brings a_md_uses a_md_days a_md_tries a_md_row a_md_first a_md_held md_typed md_known md_kept md_sights r23.2 md_many md_length md_set md_text md_told md_draft md_s md_past md_images md_seen md_asks md_brings md_uses md_days md_tries md_row md_first md_held r20.1 r23.1 (aw _) (hw.own [0, 1, 2, 3, 4, 5, 6, 7, 8, 9, 10, 11, 12, 13, 14, 15] (by decide) rfl) r28 h29) ⟨⟨rfl, rfl⟩, Nat.le_of_ble_eq_true rfl, Nat.le_of_ble_eq_true rfl⟩ [0, 1, 2, 3, 4, 5, 6, 7, 8, 9, 10, 11, 12, 13, 14, 15] rfl 0 rfl rfl rfl hl.1 rfl (Nat.le_of_ble_eq_true rfl) dX6_readsItem_194 ⟨Nat.zero_le _, Nat.zero_le _⟩ (fun H locs hJ hB => ?_)
          have hw := hJ _ hB rfl
          replace hw : Wd D A _ (wd_28 cC cI cJ a_md a_md_text md_typed a_md_told a_md_draft a_md_s a_md_past md_known a_md_images md_kept a_md_seen md_sights r23.2 a_md_asks a_md_brings a_md_uses a_md_days a_md_tries a_md_row md_many a_md_first md_length md_set a_md_held a_md_text md_text a_md_told md_told a_md_draft r28 a_md_s md_s a_md_past md_past a_md_images md_images a_md_seen md_seen a_md_asks md_asks a_md_brings md_brings a_md_uses md_uses a_md_days md_days a_md_tries md_tries a_md_row md_row a_md_first md_first a_md_held md_held) H locs := hw
          refine lv_iconst (v := 1) hx hb dX6_readsItem_197 (by decide) ?_
          obtain rfl := Option.some.inj hm
          exact e_WZ S hr hlk hw (Or.inr rfl) rfl hw.1 dX6_readsItem_198
        · replace hm := ipos hm c27
          refine lv_iconst (v := 0) hx hb dX6_readsItem_189 (by decide) ?_
          obtain rfl := Option.some.inj hm
          exact e_WZ S hr hlk hw (Or.inl rfl) rfl hw.1 dX6_readsItem_190
    · replace hm := ineg hm c22
      refine lv_iconst (v := (-1)) hx hb dX6_readsItem_160 (by decide) ?_
      refine lv_goto (tgt := 173) hx hb dX6_readsItem_161 (by decide) ?_
      refine lv_istore_n (lv' := [(3, .int (-1 : Int32)), (2, .int r20.1), (0, .ref a_md), (1, .int p0)]) hx hb dX6_readsItem_173 rfl hl (by decide) rfl (fun ls hl => ?_)
      refine lv_iload_n hx hb dX6_readsItem_174 rfl (lv_at hl 0 rfl) ?_
      refine lv_if_lt (tgt := 189) hx hb dX6_readsItem_175 (by decide) (fun c30 => ?_) (fun c30 => ?_)
      · skip
        refine lv_iconst (v := 0) hx hb dX6_readsItem_189 (by decide) ?_
        obtain rfl := Option.some.inj hm
        exact e_WZ S hr hlk hw (Or.inl rfl) rfl hw.1 dX6_readsItem_190
      · exact absurd (by decide) c30
  replace hm := ineg hm c19
  by_cases c31 : p0 = (108 : Int32)
  · replace hm := ipos hm c31
    refine f_look S dX6_readsItem_1 rfl (off := 274) (by rw [c31]; decide) (tgt := 275) (by decide) ?_
    refine lv_aload_n hx hb dX6_readsItem_275 rfl (lv_at hl 0 rfl) ?_
    refine f_get S hK hw.1 in_X6_readsItem_X6 0 rfl rfl 3 (by decide) (List.mem_of_getElem? (i := 1) rfl) rfl rfl dX6_readsItem_276 ?_
    refine lv_iconst (v := 3) hx hb dX6_readsItem_279 (by decide) ?_
    refine lv_aload_n hx hb dX6_readsItem_280 rfl (lv_at hl 0 rfl) ?_
    refine lv_iconst (v := 1) hx hb dX6_readsItem_281 (by decide) ?_
    refine lv_bipush (v := 60) hx hb dX6_readsItem_282 (by decide) ?_
    refine lv_bipush (v := 59) hx hb dX6_readsItem_284 (by decide) ?_
    obtain ⟨r32, h33, hm⟩ := ob hm
    refine k_wVi S hK hw cal_X6_number gX6_readsItem_X6_number (c_X6_number l D cC cI cJ a_md a_md_text a_md_told a_md_draft a_md_s a_md_past a_md_images a_md_seen a_md_asks a_md_brings a_md_uses a_md_days a_md_tries a_md_row a_md_first a_md_held md_typed md_known md_kept md_sights md_at md_many md_length md_set md_text md_told md_draft md_s md_past md_images md_seen md_asks md_brings md_uses md_days md_tries md_row md_first md_held (1 : Int32) (60 : Int32) (59 : Int32) (aw _) (hw.own [0, 1, 2, 3, 4, 5, 6, 7, 8, 9, 10, 11, 12, 13, 14, 15] (by decide) rfl) r32 h33) ⟨⟨rfl, rfl⟩, Nat.le_of_ble_eq_true rfl, Nat.le_of_ble_eq_true rfl⟩ [0, 1, 2, 3, 4, 5, 6, 7, 8, 9, 10, 11, 12, 13, 14, 15] rfl 0 rfl rfl rfl hl.1 rfl (Nat.le_of_ble_eq_true rfl) dX6_readsItem_286 ⟨Nat.zero_le _, Nat.zero_le _⟩ (fun H locs hJ hB => ?_)
    have hw := hJ _ hB rfl
    replace hw : Wd D A _ (wd_28 cC cI cJ a_md a_md_text md_typed a_md_told a_md_draft a_md_s a_md_past md_known a_md_images md_kept a_md_seen md_sights r32.2 a_md_asks a_md_brings a_md_uses a_md_days a_md_tries a_md_row md_many a_md_first md_length md_set a_md_held a_md_text md_text a_md_told md_told a_md_draft md_draft a_md_s md_s a_md_past md_past a_md_images md_images a_md_seen md_seen a_md_asks md_asks a_md_brings md_brings a_md_uses md_uses a_md_days md_days a_md_tries md_tries a_md_row md_row a_md_first md_first a_md_held md_held) H locs := hw
    refine f_iastK S hK hw 3 1 rfl rfl 3 (by decide) (by decide) (ws1 := (wd_28 cC cI cJ a_md a_md_text md_typed a_md_told a_md_draft a_md_s a_md_past md_known a_md_images md_kept a_md_seen md_sights r32.2 a_md_asks a_md_brings a_md_uses a_md_days a_md_tries a_md_row md_many a_md_first md_length md_set a_md_held a_md_text md_text a_md_told md_told a_md_draft (upd md_draft 3 r32.1) a_md_s md_s a_md_past md_past a_md_images md_images a_md_seen md_seen a_md_asks md_asks a_md_brings md_brings a_md_uses md_uses a_md_days md_days a_md_tries md_tries a_md_row md_row a_md_first md_first a_md_held md_held)) rfl dX6_readsItem_289 (fun H locs hw => ?_)
    refine lv_aload_n hx hb dX6_readsItem_290 rfl (lv_at hl 0 rfl) ?_
    refine f_get S hK hw.1 in_X6_readsItem_X6 0 rfl rfl 3 (by decide) (List.mem_of_getElem? (i := 1) rfl) rfl rfl dX6_readsItem_291 ?_
    refine lv_iconst (v := 3) hx hb dX6_readsItem_294 (by decide) ?_
    refine f_ialdK S hK hw.1 3 1 rfl rfl 3 (by decide) (by decide) (v := r32.1) rfl dX6_readsItem_295 ?_
    refine lv_if_le (tgt := 303) hx hb dX6_readsItem_296 (by decide) (fun c36 => ?_) (fun c36 => ?_)
    · replace hm := ipos hm c36
      refine lv_iconst (v := 0) hx hb dX6_readsItem_303 (by decide) ?_
      obtain rfl := Option.some.inj hm
      exact e_WZ S hr hlk hw (Or.inl rfl) rfl hw.1 dX6_readsItem_304
    · replace hm := ineg hm c36
      refine lv_iconst (v := 1) hx hb dX6_readsItem_299 (by decide) ?_
      refine lv_goto (tgt := 304) hx hb dX6_readsItem_300 (by decide) ?_
      obtain rfl := Option.some.inj hm
      exact e_WZ S hr hlk hw (Or.inr rfl) rfl hw.1 dX6_readsItem_304
  replace hm := ineg hm c31
  by_cases c37 : p0 = (116 : Int32)
  · replace hm := ipos hm c37
    refine f_look S dX6_readsItem_1 rfl (off := 51) (by rw [c37]; decide) (tgt := 52) (by decide) ?_
    refine lv_aload_n hx hb dX6_readsItem_52 rfl (lv_at hl 0 rfl) ?_
    refine lv_iconst (v := 0) hx hb dX6_readsItem_53 (by decide) ?_
    refine lv_iconst (v := 4) hx hb dX6_readsItem_54 (by decide) ?_
    refine lv_bipush (v := 44) hx hb dX6_readsItem_55 (by decide) ?_
    obtain ⟨r38, h39, hm⟩ := ob hm
    refine k_wVi S hK hw cal_X6_number gX6_readsItem_X6_number (c_X6_number l D cC cI cJ a_md a_md_text a_md_told a_md_draft a_md_s a_md_past a_md_images a_md_seen a_md_asks a_md_brings a_md_uses a_md_days a_md_tries a_md_row a_md_first a_md_held md_typed md_known md_kept md_sights md_at md_many md_length md_set md_text md_told md_draft md_s md_past md_images md_seen md_asks md_brings md_uses md_days md_tries md_row md_first md_held (0 : Int32) (4 : Int32) (44 : Int32) (aw _) (hw.own [0, 1, 2, 3, 4, 5, 6, 7, 8, 9, 10, 11, 12, 13, 14, 15] (by decide) rfl) r38 h39) ⟨⟨rfl, rfl⟩, Nat.le_of_ble_eq_true rfl, Nat.le_of_ble_eq_true rfl⟩ [0, 1, 2, 3, 4, 5, 6, 7, 8, 9, 10, 11, 12, 13, 14, 15] rfl 0 rfl rfl rfl hl.1 rfl (Nat.le_of_ble_eq_true rfl) dX6_readsItem_57 ⟨Nat.zero_le _, Nat.zero_le _⟩ (fun H locs hJ hB => ?_)
    have hw := hJ _ hB rfl
    replace hw : Wd D A _ (wd_28 cC cI cJ a_md a_md_text md_typed a_md_told a_md_draft a_md_s a_md_past md_known a_md_images md_kept a_md_seen md_sights r38.2 a_md_asks a_md_brings a_md_uses a_md_days a_md_tries a_md_row md_many a_md_first md_length md_set a_md_held a_md_text md_text a_md_told md_told a_md_draft md_draft a_md_s md_s a_md_past md_past a_md_images md_images a_md_seen md_seen a_md_asks md_asks a_md_brings md_brings a_md_uses md_uses a_md_days md_days a_md_tries md_tries a_md_row md_row a_md_first md_first a_md_held md_held) H locs := hw
    refine lv_istore_n (lv' := [(2, .int r38.1), (0, .ref a_md), (1, .int p0)]) hx hb dX6_readsItem_60 rfl hl (by decide) rfl (fun ls hl => ?_)
    refine lv_iload_n hx hb dX6_readsItem_61 rfl (lv_at hl 0 rfl) ?_
    refine lv_if_ge (tgt := 69) hx hb dX6_readsItem_62 (by decide) (fun c40 => ?_) (fun c40 => ?_)
    · replace hm := ipos hm c40
      refine lv_aload_n hx hb dX6_readsItem_69 rfl (lv_at hl 1 rfl) ?_
      refine lv_iconst (v := 0) hx hb dX6_readsItem_70 (by decide) ?_
      refine lv_bipush (v := 9) hx hb dX6_readsItem_71 (by decide) ?_
      refine lv_bipush (v := 44) hx hb dX6_readsItem_73 (by decide) ?_
      obtain ⟨r41, h42, hm⟩ := ob hm
      refine k_wVi S hK hw cal_X6_number gX6_readsItem_X6_number (c_X6_number l D cC cI cJ a_md a_md_text a_md_told a_md_draft a_md_s a_md_past a_md_images a_md_seen a_md_asks a_md_brings a_md_uses a_md_days a_md_tries a_md_row a_md_first a_md_held md_typed md_known md_kept md_sights r38.2 md_many md_length md_set md_text md_told md_draft md_s md_past md_images md_seen md_asks md_brings md_uses md_days md_tries md_row md_first md_held (0 : Int32) (9 : Int32) (44 : Int32) (aw _) (hw.own [0, 1, 2, 3, 4, 5, 6, 7, 8, 9, 10, 11, 12, 13, 14, 15] (by decide) rfl) r41 h42) ⟨⟨rfl, rfl⟩, Nat.le_of_ble_eq_true rfl, Nat.le_of_ble_eq_true rfl⟩ [0, 1, 2, 3, 4, 5, 6, 7, 8, 9, 10, 11, 12, 13, 14, 15] rfl 0 rfl rfl rfl hl.1 rfl (Nat.le_of_ble_eq_true rfl) dX6_readsItem_75 ⟨Nat.zero_le _, Nat.zero_le _⟩ (fun H locs hJ hB => ?_)
      have hw := hJ _ hB rfl
      replace hw : Wd D A _ (wd_28 cC cI cJ a_md a_md_text md_typed a_md_told a_md_draft a_md_s a_md_past md_known a_md_images md_kept a_md_seen md_sights r41.2 a_md_asks a_md_brings a_md_uses a_md_days a_md_tries a_md_row md_many a_md_first md_length md_set a_md_held a_md_text md_text a_md_told md_told a_md_draft md_draft a_md_s md_s a_md_past md_past a_md_images md_images a_md_seen md_seen a_md_asks md_asks a_md_brings md_brings a_md_uses md_uses a_md_days md_days a_md_tries md_tries a_md_row md_row a_md_first md_first a_md_held md_held) H locs := hw
      refine lv_istore_n (lv' := [(3, .int r41.1), (2, .int r38.1), (0, .ref a_md), (1, .int p0)]) hx hb dX6_readsItem_78 rfl hl (by decide) rfl (fun ls hl => ?_)
      refine lv_iload_n hx hb dX6_readsItem_79 rfl (lv_at hl 0 rfl) ?_
      refine lv_if_ge (tgt := 87) hx hb dX6_readsItem_80 (by decide) (fun c43 => ?_) (fun c43 => ?_)
      · replace hm := ipos hm c43
        refine lv_aload_n hx hb dX6_readsItem_87 rfl (lv_at hl 2 rfl) ?_
        refine lv_iconst (v := 0) hx hb dX6_readsItem_88 (by decide) ?_
        refine lv_iconst (v := 5) hx hb dX6_readsItem_89 (by decide) ?_
        refine lv_bipush (v := 44) hx hb dX6_readsItem_90 (by decide) ?_
        obtain ⟨r44, h45, hm⟩ := ob hm
        refine k_wVi S hK hw cal_X6_number gX6_readsItem_X6_number (c_X6_number l D cC cI cJ a_md a_md_text a_md_told a_md_draft a_md_s a_md_past a_md_images a_md_seen a_md_asks a_md_brings a_md_uses a_md_days a_md_tries a_md_row a_md_first a_md_held md_typed md_known md_kept md_sights r41.2 md_many md_length md_set md_text md_told md_draft md_s md_past md_images md_seen md_asks md_brings md_uses md_days md_tries md_row md_first md_held (0 : Int32) (5 : Int32) (44 : Int32) (aw _) (hw.own [0, 1, 2, 3, 4, 5, 6, 7, 8, 9, 10, 11, 12, 13, 14, 15] (by decide) rfl) r44 h45) ⟨⟨rfl, rfl⟩, Nat.le_of_ble_eq_true rfl, Nat.le_of_ble_eq_true rfl⟩ [0, 1, 2, 3, 4, 5, 6, 7, 8, 9, 10, 11, 12, 13, 14, 15] rfl 0 rfl rfl rfl hl.1 rfl (Nat.le_of_ble_eq_true rfl) dX6_readsItem_92 ⟨Nat.zero_le _, Nat.zero_le _⟩ (fun H locs hJ hB => ?_)
        have hw := hJ _ hB rfl
        replace hw : Wd D A _ (wd_28 cC cI cJ a_md a_md_text md_typed a_md_told a_md_draft a_md_s a_md_past md_known a_md_images md_kept a_md_seen md_sights r44.2 a_md_asks a_md_brings a_md_uses a_md_days a_md_tries a_md_row md_many a_md_first md_length md_set a_md_held a_md_text md_text a_md_told md_told a_md_draft md_draft a_md_s md_s a_md_past md_past a_md_images md_images a_md_seen md_seen a_md_asks md_asks a_md_brings md_brings a_md_uses md_uses a_md_days md_days a_md_tries md_tries a_md_row md_row a_md_first md_first a_md_held md_held) H locs := hw
        refine lv_istore (lv' := [(4, .int r44.1), (3, .int r41.1), (2, .int r38.1), (0, .ref a_md), (1, .int p0)]) hx hb dX6_readsItem_95 hl (by decide) rfl (fun ls hl => ?_)
        refine lv_iload hx hb dX6_readsItem_97 (lv_at hl 0 rfl) ?_
        refine lv_if_ge (tgt := 106) hx hb dX6_readsItem_99 (by decide) (fun c46 => ?_) (fun c46 => ?_)
        · replace hm := ipos hm c46
          refine lv_aload_n hx hb dX6_readsItem_106 rfl (lv_at hl 3 rfl) ?_
          refine lv_iconst (v := 0) hx hb dX6_readsItem_107 (by decide) ?_
          refine lv_bipush (v := 7) hx hb dX6_readsItem_108 (by decide) ?_
          refine lv_bipush (v := 59) hx hb dX6_readsItem_110 (by decide) ?_
          obtain ⟨r47, h48, hm⟩ := ob hm
          refine k_wVi S hK hw cal_X6_number gX6_readsItem_X6_number (c_X6_number l D cC cI cJ a_md a_md_text a_md_told a_md_draft a_md_s a_md_past a_md_images a_md_seen a_md_asks a_md_brings a_md_uses a_md_days a_md_tries a_md_row a_md_first a_md_held md_typed md_known md_kept md_sights r44.2 md_many md_length md_set md_text md_told md_draft md_s md_past md_images md_seen md_asks md_brings md_uses md_days md_tries md_row md_first md_held (0 : Int32) (7 : Int32) (59 : Int32) (aw _) (hw.own [0, 1, 2, 3, 4, 5, 6, 7, 8, 9, 10, 11, 12, 13, 14, 15] (by decide) rfl) r47 h48) ⟨⟨rfl, rfl⟩, Nat.le_of_ble_eq_true rfl, Nat.le_of_ble_eq_true rfl⟩ [0, 1, 2, 3, 4, 5, 6, 7, 8, 9, 10, 11, 12, 13, 14, 15] rfl 0 rfl rfl rfl hl.1 rfl (Nat.le_of_ble_eq_true rfl) dX6_readsItem_112 ⟨Nat.zero_le _, Nat.zero_le _⟩ (fun H locs hJ hB => ?_)
          have hw := hJ _ hB rfl
          replace hw : Wd D A _ (wd_28 cC cI cJ a_md a_md_text md_typed a_md_told a_md_draft a_md_s a_md_past md_known a_md_images md_kept a_md_seen md_sights r47.2 a_md_asks a_md_brings a_md_uses a_md_days a_md_tries a_md_row md_many a_md_first md_length md_set a_md_held a_md_text md_text a_md_told md_told a_md_draft md_draft a_md_s md_s a_md_past md_past a_md_images md_images a_md_seen md_seen a_md_asks md_asks a_md_brings md_brings a_md_uses md_uses a_md_days md_days a_md_tries md_tries a_md_row md_row a_md_first md_first a_md_held md_held) H locs := hw
          refine lv_istore (lv' := [(5, .int r47.1), (4, .int r44.1), (3, .int r41.1), (2, .int r38.1), (0, .ref a_md), (1, .int p0)]) hx hb dX6_readsItem_115 hl (by decide) rfl (fun ls hl => ?_)
          refine lv_iload hx hb dX6_readsItem_117 (lv_at hl 0 rfl) ?_
          refine lv_if_lt (tgt := 133) hx hb dX6_readsItem_119 (by decide) (fun c49 => ?_) (fun c49 => ?_)
          · replace hm := ipos hm c49
            refine lv_iconst (v := 0) hx hb dX6_readsItem_133 (by decide) ?_
            obtain rfl := Option.some.inj hm
            exact e_WZ S hr hlk hw (Or.inl rfl) rfl hw.1 dX6_readsItem_134
          · replace hm := ineg hm c49
            refine lv_aload_n hx hb dX6_readsItem_122 rfl (lv_at hl 4 rfl) ?_
            refine f_get S hK hw.1 in_X6_readsItem_X6 0 rfl rfl 3 (by decide) (List.mem_of_getElem? (i := 1) rfl) rfl rfl dX6_readsItem_123 ?_
            refine lv_iconst (v := 0) hx hb dX6_readsItem_126 (by decide) ?_
            refine f_ialdK S hK hw.1 3 1 rfl rfl 0 (by decide) (by decide) (v := (md_draft 0)) rfl dX6_readsItem_127 ?_
            refine lv_bipush (v := 8) hx hb dX6_readsItem_128 (by decide) ?_
            refine lv_icmp_ne (tgt := 135) hx hb dX6_readsItem_130 (by decide) (fun c51 => ?_) (fun c51 => ?_)
            · replace hm := ineg hm c51
              refine lv_aload_n hx hb dX6_readsItem_135 rfl (lv_at hl 4 rfl) ?_
              refine lv_iload_n hx hb dX6_readsItem_136 rfl (lv_at hl 3 rfl) ?_
              refine lv_iload_n hx hb dX6_readsItem_137 rfl (lv_at hl 2 rfl) ?_
              refine lv_iload hx hb dX6_readsItem_138 (lv_at hl 1 rfl) ?_
              refine lv_iload hx hb dX6_readsItem_140 (lv_at hl 0 rfl) ?_
              obtain ⟨r52, h53, hm⟩ := ob hm
              refine k_wVv S hK hw cal_X6_taskOf gX6_readsItem_X6_taskOf (c_X6_taskOf l D cC cI cJ a_md a_md_text a_md_told a_md_draft a_md_s a_md_past a_md_images a_md_seen a_md_asks a_md_brings a_md_uses a_md_days a_md_tries a_md_row a_md_first a_md_held md_typed md_known md_kept md_sights r47.2 md_many md_length md_set md_text md_told md_draft md_s md_past md_images md_seen md_asks md_brings md_uses md_days md_tries md_row md_first md_held r38.1 r41.1 r44.1 r47.1 (aw _) (hw.own [0, 1, 2, 3, 4, 5, 6, 7, 8, 9, 10, 11, 12, 13, 14, 15] (by decide) rfl) r52 h53) ⟨⟨rfl, rfl⟩, Nat.le_of_ble_eq_true rfl, Nat.le_of_ble_eq_true rfl⟩ [0, 1, 2, 3, 4, 5, 6, 7, 8, 9, 10, 11, 12, 13, 14, 15] rfl 0 rfl rfl rfl hl.1 rfl (Nat.le_of_ble_eq_true rfl) dX6_readsItem_142 ⟨Nat.zero_le _, Nat.zero_le _⟩ (fun H locs hJ hB => ?_)
              have hw := hJ _ hB rfl
              replace hw : Wd D A _ (wd_28 cC cI cJ a_md a_md_text md_typed a_md_told a_md_draft a_md_s a_md_past md_known a_md_images md_kept a_md_seen md_sights r47.2 a_md_asks a_md_brings a_md_uses a_md_days a_md_tries a_md_row md_many a_md_first md_length md_set a_md_held a_md_text md_text a_md_told md_told a_md_draft r52 a_md_s md_s a_md_past md_past a_md_images md_images a_md_seen md_seen a_md_asks md_asks a_md_brings md_brings a_md_uses md_uses a_md_days md_days a_md_tries md_tries a_md_row md_row a_md_first md_first a_md_held md_held) H locs := hw
              refine lv_iconst (v := 1) hx hb dX6_readsItem_145 (by decide) ?_
              obtain rfl := Option.some.inj hm
              exact e_WZ S hr hlk hw (Or.inr rfl) rfl hw.1 dX6_readsItem_146
            · replace hm := ipos hm c51
              refine lv_iconst (v := 0) hx hb dX6_readsItem_133 (by decide) ?_
              obtain rfl := Option.some.inj hm
              exact e_WZ S hr hlk hw (Or.inl rfl) rfl hw.1 dX6_readsItem_134
        · replace hm := ineg hm c46
          refine lv_iconst (v := (-1)) hx hb dX6_readsItem_102 (by decide) ?_
          refine lv_goto (tgt := 115) hx hb dX6_readsItem_103 (by decide) ?_
          refine lv_istore (lv' := [(5, .int (-1 : Int32)), (4, .int r44.1), (3, .int r41.1), (2, .int r38.1), (0, .ref a_md), (1, .int p0)]) hx hb dX6_readsItem_115 hl (by decide) rfl (fun ls hl => ?_)
          refine lv_iload hx hb dX6_readsItem_117 (lv_at hl 0 rfl) ?_
          refine lv_if_lt (tgt := 133) hx hb dX6_readsItem_119 (by decide) (fun c54 => ?_) (fun c54 => ?_)
          · skip
            refine lv_iconst (v := 0) hx hb dX6_readsItem_133 (by decide) ?_
            obtain rfl := Option.some.inj hm
            exact e_WZ S hr hlk hw (Or.inl rfl) rfl hw.1 dX6_readsItem_134
          · exact absurd (by decide) c54
      · replace hm := ineg hm c43
        refine lv_iconst (v := (-1)) hx hb dX6_readsItem_83 (by decide) ?_
        refine lv_goto (tgt := 95) hx hb dX6_readsItem_84 (by decide) ?_
        refine lv_istore (lv' := [(4, .int (-1 : Int32)), (3, .int r41.1), (2, .int r38.1), (0, .ref a_md), (1, .int p0)]) hx hb dX6_readsItem_95 hl (by decide) rfl (fun ls hl => ?_)
        refine lv_iload hx hb dX6_readsItem_97 (lv_at hl 0 rfl) ?_
        refine lv_if_ge (tgt := 106) hx hb dX6_readsItem_99 (by decide) (fun c55 => ?_) (fun c55 => ?_)
        · exact absurd c55 (by decide)
        · skip
          refine lv_iconst (v := (-1)) hx hb dX6_readsItem_102 (by decide) ?_
          refine lv_goto (tgt := 115) hx hb dX6_readsItem_103 (by decide) ?_
          refine lv_istore (lv' := [(5, .int (-1 : Int32)), (4, .int (-1 : Int32)), (3, .int r41.1), (2, .int r38.1), (0, .ref a_md), (1, .int p0)]) hx hb dX6_readsItem_115 hl (by decide) rfl (fun ls hl => ?_)
          refine lv_iload hx hb dX6_readsItem_117 (lv_at hl 0 rfl) ?_
          refine lv_if_lt (tgt := 133) hx hb dX6_readsItem_119 (by decide) (fun c56 => ?_) (fun c56 => ?_)
          · skip
            refine lv_iconst (v := 0) hx hb dX6_readsItem_133 (by decide) ?_
            obtain rfl := Option.some.inj hm
            exact e_WZ S hr hlk hw (Or.inl rfl) rfl hw.1 dX6_readsItem_134
          · exact absurd (by decide) c56
    · replace hm := ineg hm c40
      refine lv_iconst (v := (-1)) hx hb dX6_readsItem_65 (by decide) ?_
      refine lv_goto (tgt := 78) hx hb dX6_readsItem_66 (by decide) ?_
      refine lv_istore_n (lv' := [(3, .int (-1 : Int32)), (2, .int r38.1), (0, .ref a_md), (1, .int p0)]) hx hb dX6_readsItem_78 rfl hl (by decide) rfl (fun ls hl => ?_)
      refine lv_iload_n hx hb dX6_readsItem_79 rfl (lv_at hl 0 rfl) ?_
      refine lv_if_ge (tgt := 87) hx hb dX6_readsItem_80 (by decide) (fun c57 => ?_) (fun c57 => ?_)
      · exact absurd c57 (by decide)
      · skip
        refine lv_iconst (v := (-1)) hx hb dX6_readsItem_83 (by decide) ?_
        refine lv_goto (tgt := 95) hx hb dX6_readsItem_84 (by decide) ?_
        refine lv_istore (lv' := [(4, .int (-1 : Int32)), (3, .int (-1 : Int32)), (2, .int r38.1), (0, .ref a_md), (1, .int p0)]) hx hb dX6_readsItem_95 hl (by decide) rfl (fun ls hl => ?_)
        refine lv_iload hx hb dX6_readsItem_97 (lv_at hl 0 rfl) ?_
        refine lv_if_ge (tgt := 106) hx hb dX6_readsItem_99 (by decide) (fun c58 => ?_) (fun c58 => ?_)
        · exact absurd c58 (by decide)
        · skip
          refine lv_iconst (v := (-1)) hx hb dX6_readsItem_102 (by decide) ?_
          refine lv_goto (tgt := 115) hx hb dX6_readsItem_103 (by decide) ?_
          refine lv_istore (lv' := [(5, .int (-1 : Int32)), (4, .int (-1 : Int32)), (3, .int (-1 : Int32)), (2, .int r38.1), (0, .ref a_md), (1, .int p0)]) hx hb dX6_readsItem_115 hl (by decide) rfl (fun ls hl => ?_)
          refine lv_iload hx hb dX6_readsItem_117 (lv_at hl 0 rfl) ?_
          refine lv_if_lt (tgt := 133) hx hb dX6_readsItem_119 (by decide) (fun c59 => ?_) (fun c59 => ?_)
          · skip
            refine lv_iconst (v := 0) hx hb dX6_readsItem_133 (by decide) ?_
            obtain rfl := Option.some.inj hm
            exact e_WZ S hr hlk hw (Or.inl rfl) rfl hw.1 dX6_readsItem_134
          · exact absurd (by decide) c59
  replace hm := ineg hm c37
  have nc1 := toInt_ne c1 (n := 97) (by decide)
  have nc13 := toInt_ne c13 (n := 99) (by decide)
  have nc19 := toInt_ne c19 (n := 104) (by decide)
  have nc31 := toInt_ne c31 (n := 108) (by decide)
  have nc37 := toInt_ne c37 (n := 116) (by decide)
  refine f_look S dX6_readsItem_1 rfl (off := 304) (by simp only [Op.lookupswitch.offset, if_neg nc1, if_neg nc13, if_neg nc19, if_neg nc31, if_neg nc37, if_false]) (tgt := 305) (by decide) ?_
  refine lv_iconst (v := 0) hx hb dX6_readsItem_305 (by decide) ?_
  obtain rfl := Option.some.inj hm
  exact e_WZ S hr hlk hw (Or.inl rfl) rfl hw.1 dX6_readsItem_306

abbrev rX6_readsAll : Room := { frames := 4, cells := 0, slots := 0, locals := 92 }
theorem cal_X6_readsAll : Cal yX6_readsAll wsX6_readsAll cX6_readsAll 2 (some .int) RX6 0 := ⟨⟨_, rfl⟩, rfl, by decide +kernel, by decide +kernel, by decide +kernel⟩
theorem in_X6_readsAll_X6 : ∀ w ∈ wsX60, w ∈ wsX6_readsAll := fun _ h => (List.mem_cons_of_mem _ (List.mem_append_right _ h))
set_option maxHeartbeats 4000000 in
set_option maxRecDepth 100000 in
theorem t_X6_readsAll_9 {p : Program} {e : Env} {s : State} {m : MethodId} {args : Array Value} {below : List Frame} {meth : Method} {c : Code} {Q : State → Prop} (l : Launch) {D : va_G} {cC cI cJ : ClassId} {A : Nat → Prop} {H0 : Heap} (S : CallFix p m c cX6_readsAll 2 s args wsX6_readsAll RX6) (hK : KK D (tyK cC cI cJ) s) (a_md : Nat) (a_md_text : Nat) (a_md_told : Nat) (a_md_draft : Nat) (a_md_s : Nat) (a_md_past : Nat) (a_md_images : Nat) (a_md_seen : Nat) (a_md_asks : Nat) (a_md_brings : Nat) (a_md_uses : Nat) (a_md_days : Nat) (a_md_tries : Nat) (a_md_row : Nat) (a_md_first : Nat) (a_md_held : Nat) (md_typed : Int32) (md_known : Int32) (md_kept : Int32) (md_sights : Int32) (md_many : Int32) (md_length : Int32) (md_set : Int32) (md_text : (Nat → Int32)) (md_told : (Nat → Int32)) (md_s : (Nat → Int32)) (md_past : (Nat → Int32)) (md_images : (Nat → Int32)) (md_seen : (Nat → Int32)) (md_asks : (Nat → Int32)) (md_brings : (Nat → Int32)) (md_uses : (Nat → Int32)) (md_days : (Nat → Int32)) (md_tries : (Nat → Int32)) (md_row : (Nat → Int32)) (md_first : (Nat → Int32)) (md_held : (Nat → Int32)) : ∀ (n : Nat) (md_at : Int32) (md_draft : (Nat → Int32)) (out : ((Int32 × (Nat → Int32)) ⊕ (Int32 × Int32 × (Nat → Int32)))), lp_X6_readsAll_9 md_typed md_text n md_at md_draft = some out → ∀ (H : Heap) (locs : List Loc) (ls : Array Slot), Wd D A H0 (wd_28 cC cI cJ a_md a_md_text md_typed a_md_told a_md_draft a_md_s a_md_past md_known a_md_images md_kept a_md_seen md_sights md_at a_md_asks a_md_brings a_md_uses a_md_days a_md_tries a_md_row md_many a_md_first md_length md_set a_md_held a_md_text md_text a_md_told md_told a_md_draft md_draft a_md_s md_s a_md_past md_past a_md_images md_images a_md_seen md_seen a_md_asks md_asks a_md_brings md_brings a_md_uses md_uses a_md_days md_days a_md_tries md_tries a_md_row md_row a_md_first md_first a_md_held md_held) H locs → lv_has ls 2 [(0, .ref a_md)] → (∀ (u : (Int32 × (Nat → Int32))), out = (Sum.inl u) → ∀ (H : Heap) (locs : List Loc) (ls : Array Slot), Wd D A H0 (wd_28 cC cI cJ a_md a_md_text md_typed a_md_told a_md_draft a_md_s a_md_past md_known a_md_images md_kept a_md_seen md_sights u.1 a_md_asks a_md_brings a_md_uses a_md_days a_md_tries a_md_row md_many a_md_first md_length md_set a_md_held a_md_text md_text a_md_told md_told a_md_draft u.2 a_md_s md_s a_md_past md_past a_md_images md_images a_md_seen md_seen a_md_asks md_asks a_md_brings md_brings a_md_uses md_uses a_md_days md_days a_md_tries md_tries a_md_row md_row a_md_first md_first a_md_held md_held) H locs → lv_has ls 2 [] → W p l e rX6_readsAll s m args below meth c H locs 0 0 Q (F0 m 53 ls [])) → (∀ (u : (Int32 × Int32 × (Nat → Int32))), out = (Sum.inr u) → ∀ (H : Heap) (locs : List Loc) (ls : Array Slot), Wd D A H0 (wd_28 cC cI cJ a_md a_md_text md_typed a_md_told a_md_draft a_md_s a_md_past md_known a_md_images md_kept a_md_seen md_sights u.2.1 a_md_asks a_md_brings a_md_uses a_md_days a_md_tries a_md_row md_many a_md_first md_length md_set a_md_held a_md_text md_text a_md_told md_told a_md_draft u.2.2 a_md_s md_s a_md_past md_past a_md_images md_images a_md_seen md_seen a_md_asks md_asks a_md_brings md_brings a_md_uses md_uses a_md_days md_days a_md_tries md_tries a_md_row md_row a_md_first md_first a_md_held md_held) H locs → lv_has ls 2 [(1, .int u.1)] → W p l e rX6_readsAll s m args below meth c H locs 0 0 Q (F0 m 48 ls [])) → W p l e rX6_readsAll s m args below meth c H locs 0 0 Q (F0 m 9 ls []) := by
  have hx := S.1
  have hb := S.2.1
  intro n
  induction n with
  | zero => intro md_at md_draft out hm; cases (show (none : Option ((Int32 × (Nat → Int32)) ⊕ (Int32 × Int32 × (Nat → Int32)))) = some out from hm)
  | succ n ih =>
    intro md_at md_draft out hm  H locs ls hw hl K0 K1
    rw [lp_X6_readsAll_9] at hm
    refine lv_aload_n hx hb dX6_readsAll_9 rfl (lv_at hl 0 rfl) ?_
    refine f_get S hK hw.1 in_X6_readsAll_X6 0 rfl rfl 11 (by decide) (List.mem_of_getElem? (i := 1) rfl) rfl rfl dX6_readsAll_10 ?_
    refine lv_aload_n hx hb dX6_readsAll_13 rfl (lv_at hl 0 rfl) ?_
    refine f_get S hK hw.1 in_X6_readsAll_X6 0 rfl rfl 1 (by decide) (List.mem_of_getElem? (i := 2) rfl) rfl rfl dX6_readsAll_14 ?_
    refine lv_icmp_ge (tgt := 53) hx hb dX6_readsAll_17 (by decide) (fun c3 => ?_) (fun c3 => ?_)
    · replace hm := ipos hm c3
      obtain rfl := Option.some.inj hm
      exact K0 _ rfl  _ _ ls hw (lv_sub hl [] rfl)
    · replace hm := ineg hm c3
      refine lv_aload_n hx hb dX6_readsAll_20 rfl (lv_at hl 0 rfl) ?_
      refine f_get S hK hw.1 in_X6_readsAll_X6 0 rfl rfl 11 (by decide) (List.mem_of_getElem? (i := 1) rfl) rfl rfl dX6_readsAll_21 ?_
      refine lv_istore_n (lv' := [(1, .int md_at), (0, .ref a_md)]) hx hb dX6_readsAll_24 rfl hl (by decide) rfl (fun ls hl => ?_)
      refine lv_aload_n hx hb dX6_readsAll_25 rfl (lv_at hl 1 rfl) ?_
      refine lv_dup hx hb dX6_readsAll_26 rfl ?_
      refine f_get S hK hw.1 in_X6_readsAll_X6 0 rfl rfl 11 (by decide) (List.mem_of_getElem? (i := 1) rfl) rfl rfl dX6_readsAll_27 ?_
      refine lv_iconst (v := 1) hx hb dX6_readsAll_30 (by decide) ?_
      refine lv_iadd hx hb dX6_readsAll_31 ?_
      refine f_put S hK hw in_X6_readsAll_X6 tyX6_ok nmX6 0 rfl rfl 11 (by decide) (List.mem_of_getElem? (i := 1) rfl) rfl rfl rfl rfl (Nat.le_of_ble_eq_true rfl) (ws1 := (wd_28 cC cI cJ a_md a_md_text md_typed a_md_told a_md_draft a_md_s a_md_past md_known a_md_images md_kept a_md_seen md_sights (md_at + (1 : Int32)) a_md_asks a_md_brings a_md_uses a_md_days a_md_tries a_md_row md_many a_md_first md_length md_set a_md_held a_md_text md_text a_md_told md_told a_md_draft md_draft a_md_s md_s a_md_past md_past a_md_images md_images a_md_seen md_seen a_md_asks md_asks a_md_brings md_brings a_md_uses md_uses a_md_days md_days a_md_tries md_tries a_md_row md_row a_md_first md_first a_md_held md_held)) rfl dX6_readsAll_32 (fun H locs hw => ?_)
      refine lv_aload_n hx hb dX6_readsAll_35 rfl (lv_at hl 1 rfl) ?_
      refine lv_aload_n hx hb dX6_readsAll_36 rfl (lv_at hl 1 rfl) ?_
      refine f_get S hK hw.1 in_X6_readsAll_X6 0 rfl rfl 0 (by decide) (List.mem_of_getElem? (i := 3) rfl) rfl rfl dX6_readsAll_37 ?_
      refine lv_iload_n hx hb dX6_readsAll_40 rfl (lv_at hl 0 rfl) ?_
      obtain ⟨g4, hm⟩ := gdo hm
      refine f_iald S hK hw.1 1 1 rfl rfl g4 dX6_readsAll_41 ?_
      obtain ⟨r5, h6, hm⟩ := ob hm
      refine k_wVi S hK hw cal_X6_readsItem gX6_readsAll_X6_readsItem (c_X6_readsItem l D cC cI cJ a_md a_md_text a_md_told a_md_draft a_md_s a_md_past a_md_images a_md_seen a_md_asks a_md_brings a_md_uses a_md_days a_md_tries a_md_row a_md_first a_md_held md_typed md_known md_kept md_sights (md_at + (1 : Int32)) md_many md_length md_set md_text md_told md_draft md_s md_past md_images md_seen md_asks md_brings md_uses md_days md_tries md_row md_first md_held (md_text (md_at).toNatClampNeg) (aw _) (hw.own [0, 1, 2, 3, 4, 5, 6, 7, 8, 9, 10, 11, 12, 13, 14, 15] (by decide) rfl) r5 h6) ⟨⟨rfl, rfl⟩, Nat.le_of_ble_eq_true rfl, Nat.le_of_ble_eq_true rfl⟩ [0, 1, 2, 3, 4, 5, 6, 7, 8, 9, 10, 11, 12, 13, 14, 15] rfl 0 rfl rfl rfl hl.1 rfl (Nat.le_of_ble_eq_true rfl) dX6_readsAll_42 ⟨Nat.zero_le _, Nat.zero_le _⟩ (fun H locs hJ hB => ?_)
      have hw := hJ _ hB rfl
      replace hw : Wd D A _ (wd_28 cC cI cJ a_md a_md_text md_typed a_md_told a_md_draft a_md_s a_md_past md_known a_md_images md_kept a_md_seen md_sights r5.2.1 a_md_asks a_md_brings a_md_uses a_md_days a_md_tries a_md_row md_many a_md_first md_length md_set a_md_held a_md_text md_text a_md_told md_told a_md_draft r5.2.2 a_md_s md_s a_md_past md_past a_md_images md_images a_md_seen md_seen a_md_asks md_asks a_md_brings md_brings a_md_uses md_uses a_md_days md_days a_md_tries md_tries a_md_row md_row a_md_first md_first a_md_held md_held) H locs := hw
      refine lv_if_ne (tgt := 50) hx hb dX6_readsAll_45 (by decide) (fun c7 => ?_) (fun c7 => ?_)
      · replace hm := ineg hm c7
        refine lv_goto (tgt := 9) hx hb dX6_readsAll_50 (by decide) ?_
        exact ih r5.2.1 r5.2.2 _ hm  _ _ ls hw (lv_sub hl [1] rfl) K0 K1
      · replace hm := ipos hm c7
        obtain rfl := Option.some.inj hm
        exact K1 _ rfl  _ _ ls hw (lv_sub hl [0] rfl)
set_option maxHeartbeats 4000000 in
set_option maxRecDepth 100000 in
theorem c_X6_readsAll (l : Launch) (D : va_G) (cC cI cJ : ClassId) (a_md : Nat) (a_md_text : Nat) (a_md_told : Nat) (a_md_draft : Nat) (a_md_s : Nat) (a_md_past : Nat) (a_md_images : Nat) (a_md_seen : Nat) (a_md_asks : Nat) (a_md_brings : Nat) (a_md_uses : Nat) (a_md_days : Nat) (a_md_tries : Nat) (a_md_row : Nat) (a_md_first : Nat) (a_md_held : Nat) (md_typed : Int32) (md_known : Int32) (md_kept : Int32) (md_sights : Int32) (md_at : Int32) (md_many : Int32) (md_length : Int32) (md_set : Int32) (md_text : (Nat → Int32)) (md_told : (Nat → Int32)) (md_draft : (Nat → Int32)) (md_s : (Nat → Int32)) (md_past : (Nat → Int32)) (md_images : (Nat → Int32)) (md_seen : (Nat → Int32)) (md_asks : (Nat → Int32)) (md_brings : (Nat → Int32)) (md_uses : (Nat → Int32)) (md_days : (Nat → Int32)) (md_tries : (Nat → Int32)) (md_row : (Nat → Int32)) (md_first : (Nat → Int32)) (md_held : (Nat → Int32)) (N : Nat) (A : Nat → Prop) (hD : va_D A (wd_28 cC cI cJ a_md a_md_text md_typed a_md_told a_md_draft a_md_s a_md_past md_known a_md_images md_kept a_md_seen md_sights md_at a_md_asks a_md_brings a_md_uses a_md_days a_md_tries a_md_row md_many a_md_first md_length md_set a_md_held a_md_text md_text a_md_told md_told a_md_draft md_draft a_md_s md_s a_md_past md_past a_md_images md_images a_md_seen md_seen a_md_asks md_asks a_md_brings md_brings a_md_uses md_uses a_md_days md_days a_md_tries md_tries a_md_row md_row a_md_first md_first a_md_held md_held)) (out : (Int32 × Int32 × (Nat → Int32))) (hm : m_X6_readsAll N md_typed md_text md_draft = some out) : WrI l yX6_readsAll wsX6_readsAll rX6_readsAll D (tyK cC cI cJ) [.ref a_md] A (wd_28 cC cI cJ a_md a_md_text md_typed a_md_told a_md_draft a_md_s a_md_past md_known a_md_images md_kept a_md_seen md_sights md_at a_md_asks a_md_brings a_md_uses a_md_days a_md_tries a_md_row md_many a_md_first md_length md_set a_md_held a_md_text md_text a_md_told md_told a_md_draft md_draft a_md_s md_s a_md_past md_past a_md_images md_images a_md_seen md_seen a_md_asks md_asks a_md_brings md_brings a_md_uses md_uses a_md_days md_days a_md_tries md_tries a_md_row md_row a_md_first md_first a_md_held md_held) (Bw0 D (wd_28 cC cI cJ a_md a_md_text md_typed a_md_told a_md_draft a_md_s a_md_past md_known a_md_images md_kept a_md_seen md_sights out.2.1 a_md_asks a_md_brings a_md_uses a_md_days a_md_tries a_md_row md_many a_md_first md_length md_set a_md_held a_md_text md_text a_md_told md_told a_md_draft out.2.2 a_md_s md_s a_md_past md_past a_md_images md_images a_md_seen md_seen a_md_asks md_asks a_md_brings md_brings a_md_uses md_uses a_md_days md_days a_md_tries md_tries a_md_row md_row a_md_first md_first a_md_held md_held)) out.1 := by
  unfold m_X6_readsAll at hm
  refine enter (cc := cX6_readsAll) (maxL := 2) (ret := (some .int)) (lv := [(0, .ref a_md)]) (by decide) rfl (Nat.le_of_ble_eq_true rfl) rfl ?_
  intro p e s m args below meth c S hr hlk hK hP ls hl
  replace S : CallFix p m c cX6_readsAll 2 s args wsX6_readsAll RX6 := S
  have hx := S.1
  have hb := S.2.1
  have hw : Wd D A s.heap (wd_28 cC cI cJ a_md a_md_text md_typed a_md_told a_md_draft a_md_s a_md_past md_known a_md_images md_kept a_md_seen md_sights md_at a_md_asks a_md_brings a_md_uses a_md_days a_md_tries a_md_row md_many a_md_first md_length md_set a_md_held a_md_text md_text a_md_told md_told a_md_draft md_draft a_md_s md_s a_md_past md_past a_md_images md_images a_md_seen md_seen a_md_asks md_asks a_md_brings md_brings a_md_uses md_uses a_md_days md_days a_md_tries md_tries a_md_row md_row a_md_first md_first a_md_held md_held) s.heap [] := ⟨hP, hD, va_S.rf⟩
  have hw0 := hw
  refine lv_aload_n hx hb dX6_readsAll_0 rfl (lv_at hl 0 rfl) ?_
  obtain ⟨r1, h2, hm⟩ := ob hm
  refine k_wVv S hK hw cal_X6_begins gX6_readsAll_X6_begins (c_X6_begins l D cC cI cJ a_md a_md_text a_md_told a_md_draft a_md_s a_md_past a_md_images a_md_seen a_md_asks a_md_brings a_md_uses a_md_days a_md_tries a_md_row a_md_first a_md_held md_typed md_known md_kept md_sights md_at md_many md_length md_set md_text md_told md_draft md_s md_past md_images md_seen md_asks md_brings md_uses md_days md_tries md_row md_first md_held N (aw _) (hw.own [0, 1, 2, 3, 4, 5, 6, 7, 8, 9, 10, 11, 12, 13, 14, 15] (by decide) rfl) r1 h2) ⟨⟨rfl, rfl⟩, Nat.le_of_ble_eq_true rfl, Nat.le_of_ble_eq_true rfl⟩ [0, 1, 2, 3, 4, 5, 6, 7, 8, 9, 10, 11, 12, 13, 14, 15] rfl 0 rfl rfl rfl hl.1 rfl (Nat.le_of_ble_eq_true rfl) dX6_readsAll_1 ⟨Nat.zero_le _, Nat.zero_le _⟩ (fun H locs hJ hB => ?_)
  have hw := hJ _ hB rfl
  replace hw : Wd D A _ (wd_28 cC cI cJ a_md a_md_text md_typed a_md_told a_md_draft a_md_s a_md_past md_known a_md_images md_kept a_md_seen md_sights md_at a_md_asks a_md_brings a_md_uses a_md_days a_md_tries a_md_row md_many a_md_first md_length md_set a_md_held a_md_text md_text a_md_told md_told a_md_draft r1 a_md_s md_s a_md_past md_past a_md_images md_images a_md_seen md_seen a_md_asks md_asks a_md_brings md_brings a_md_uses md_uses a_md_days md_days a_md_tries md_tries a_md_row md_row a_md_first md_first a_md_held md_held) H locs := hw
  refine lv_aload_n hx hb dX6_readsAll_4 rfl (lv_at hl 0 rfl) ?_
  refine lv_iconst (v := 0) hx hb dX6_readsAll_5 (by decide) ?_
  refine f_put S hK hw in_X6_readsAll_X6 tyX6_ok nmX6 0 rfl rfl 11 (by decide) (List.mem_of_getElem? (i := 1) rfl) rfl rfl rfl rfl (Nat.le_of_ble_eq_true rfl) (ws1 := (wd_28 cC cI cJ a_md a_md_text md_typed a_md_told a_md_draft a_md_s a_md_past md_known a_md_images md_kept a_md_seen md_sights (0 : Int32) a_md_asks a_md_brings a_md_uses a_md_days a_md_tries a_md_row md_many a_md_first md_length md_set a_md_held a_md_text md_text a_md_told md_told a_md_draft r1 a_md_s md_s a_md_past md_past a_md_images md_images a_md_seen md_seen a_md_asks md_asks a_md_brings md_brings a_md_uses md_uses a_md_days md_days a_md_tries md_tries a_md_row md_row a_md_first md_first a_md_held md_held)) rfl dX6_readsAll_6 (fun H locs hw => ?_)
  obtain ⟨r8, h9, hm⟩ := ob hm
  refine t_X6_readsAll_9 l S hK a_md a_md_text a_md_told a_md_draft a_md_s a_md_past a_md_images a_md_seen a_md_asks a_md_brings a_md_uses a_md_days a_md_tries a_md_row a_md_first a_md_held md_typed md_known md_kept md_sights md_many md_length md_set md_text md_told md_s md_past md_images md_seen md_asks md_brings md_uses md_days md_tries md_row md_first md_held N (0 : Int32) r1 r8 h9  _ _ ls hw (lv_sub hl [0] rfl) (fun u10 hu H locs ls hw hl => ?_) (fun u11 hu H locs ls hw hl => ?_)
  · subst hu
    replace hm := seL hm
    refine lv_bipush (v := (-4)) hx hb dX6_readsAll_53 (by decide) ?_
    obtain rfl := Option.some.inj hm
    exact e_WI S hr hlk hw rfl hw.1 dX6_readsAll_55
  · subst hu
    replace hm := seR hm
    refine lv_iload_n hx hb dX6_readsAll_48 rfl (lv_at hl 0 rfl) ?_
    obtain rfl := Option.some.inj hm
    exact e_WI S hr hlk hw rfl hw.1 dX6_readsAll_49

abbrev rX6_fault : Room := { frames := 5, cells := 0, slots := 0, locals := 113 }
theorem cal_X6_fault : Cal yX6_fault wsX6_fault cX6_fault 1 (some .int) RX6 0 := ⟨⟨_, rfl⟩, rfl, by decide +kernel, by decide +kernel, by decide +kernel⟩
set_option maxHeartbeats 4000000 in
set_option maxRecDepth 100000 in
theorem c_X6_fault (l : Launch) (D : va_G) (cC cI cJ : ClassId) (a_md : Nat) (a_md_text : Nat) (a_md_told : Nat) (a_md_draft : Nat) (a_md_s : Nat) (a_md_past : Nat) (a_md_images : Nat) (a_md_seen : Nat) (a_md_asks : Nat) (a_md_brings : Nat) (a_md_uses : Nat) (a_md_days : Nat) (a_md_tries : Nat) (a_md_row : Nat) (a_md_first : Nat) (a_md_held : Nat) (md_typed : Int32) (md_known : Int32) (md_kept : Int32) (md_sights : Int32) (md_at : Int32) (md_many : Int32) (md_length : Int32) (md_set : Int32) (md_text : (Nat → Int32)) (md_told : (Nat → Int32)) (md_draft : (Nat → Int32)) (md_s : (Nat → Int32)) (md_past : (Nat → Int32)) (md_images : (Nat → Int32)) (md_seen : (Nat → Int32)) (md_asks : (Nat → Int32)) (md_brings : (Nat → Int32)) (md_uses : (Nat → Int32)) (md_days : (Nat → Int32)) (md_tries : (Nat → Int32)) (md_row : (Nat → Int32)) (md_first : (Nat → Int32)) (md_held : (Nat → Int32)) (N : Nat) (A : Nat → Prop) (hD : va_D A (wd_28 cC cI cJ a_md a_md_text md_typed a_md_told a_md_draft a_md_s a_md_past md_known a_md_images md_kept a_md_seen md_sights md_at a_md_asks a_md_brings a_md_uses a_md_days a_md_tries a_md_row md_many a_md_first md_length md_set a_md_held a_md_text md_text a_md_told md_told a_md_draft md_draft a_md_s md_s a_md_past md_past a_md_images md_images a_md_seen md_seen a_md_asks md_asks a_md_brings md_brings a_md_uses md_uses a_md_days md_days a_md_tries md_tries a_md_row md_row a_md_first md_first a_md_held md_held)) (out : (Int32 × Int32 × (Nat → Int32))) (hm : m_X6_fault N md_typed md_text md_draft = some out) : WrI l yX6_fault wsX6_fault rX6_fault D (tyK cC cI cJ) [.ref a_md] A (wd_28 cC cI cJ a_md a_md_text md_typed a_md_told a_md_draft a_md_s a_md_past md_known a_md_images md_kept a_md_seen md_sights md_at a_md_asks a_md_brings a_md_uses a_md_days a_md_tries a_md_row md_many a_md_first md_length md_set a_md_held a_md_text md_text a_md_told md_told a_md_draft md_draft a_md_s md_s a_md_past md_past a_md_images md_images a_md_seen md_seen a_md_asks md_asks a_md_brings md_brings a_md_uses md_uses a_md_days md_days a_md_tries md_tries a_md_row md_row a_md_first md_first a_md_held md_held) (Bw0 D (wd_28 cC cI cJ a_md a_md_text md_typed a_md_told a_md_draft a_md_s a_md_past md_known a_md_images md_kept a_md_seen md_sights out.2.1 a_md_asks a_md_brings a_md_uses a_md_days a_md_tries a_md_row md_many a_md_first md_length md_set a_md_held a_md_text md_text a_md_told md_told a_md_draft out.2.2 a_md_s md_s a_md_past md_past a_md_images md_images a_md_seen md_seen a_md_asks md_asks a_md_brings md_brings a_md_uses md_uses a_md_days md_days a_md_tries md_tries a_md_row md_row a_md_first md_first a_md_held md_held)) out.1 := by
  unfold m_X6_fault at hm
  refine enter (cc := cX6_fault) (maxL := 1) (ret := (some .int)) (lv := [(0, .ref a_md)]) (by decide) rfl (Nat.le_of_ble_eq_true rfl) rfl ?_
  intro p e s m args below meth c S hr hlk hK hP ls hl
  replace S : CallFix p m c cX6_fault 1 s args wsX6_fault RX6 := S
  have hx := S.1
  have hb := S.2.1
  have hw : Wd D A s.heap (wd_28 cC cI cJ a_md a_md_text md_typed a_md_told a_md_draft a_md_s a_md_past md_known a_md_images md_kept a_md_seen md_sights md_at a_md_asks a_md_brings a_md_uses a_md_days a_md_tries a_md_row md_many a_md_first md_length md_set a_md_held a_md_text md_text a_md_told md_told a_md_draft md_draft a_md_s md_s a_md_past md_past a_md_images md_images a_md_seen md_seen a_md_asks md_asks a_md_brings md_brings a_md_uses md_uses a_md_days md_days a_md_tries md_tries a_md_row md_row a_md_first md_first a_md_held md_held) s.heap [] := ⟨hP, hD, va_S.rf⟩
  have hw0 := hw
  refine lv_aload_n hx hb dX6_fault_0 rfl (lv_at hl 0 rfl) ?_
  obtain ⟨r1, h2, hm⟩ := ob hm
  refine k_wVi S hK hw cal_X6_readsAll gX6_fault_X6_readsAll (c_X6_readsAll l D cC cI cJ a_md a_md_text a_md_told a_md_draft a_md_s a_md_past a_md_images a_md_seen a_md_asks a_md_brings a_md_uses a_md_days a_md_tries a_md_row a_md_first a_md_held md_typed md_known md_kept md_sights md_at md_many md_length md_set md_text md_told md_draft md_s md_past md_images md_seen md_asks md_brings md_uses md_days md_tries md_row md_first md_held N (aw _) (hw.own [0, 1, 2, 3, 4, 5, 6, 7, 8, 9, 10, 11, 12, 13, 14, 15] (by decide) rfl) r1 h2) ⟨⟨rfl, rfl⟩, Nat.le_of_ble_eq_true rfl, Nat.le_of_ble_eq_true rfl⟩ [0, 1, 2, 3, 4, 5, 6, 7, 8, 9, 10, 11, 12, 13, 14, 15] rfl 0 rfl rfl rfl hl.1 rfl (Nat.le_of_ble_eq_true rfl) dX6_fault_1 ⟨Nat.zero_le _, Nat.zero_le _⟩ (fun H locs hJ hB => ?_)
  have hw := hJ _ hB rfl
  replace hw : Wd D A _ (wd_28 cC cI cJ a_md a_md_text md_typed a_md_told a_md_draft a_md_s a_md_past md_known a_md_images md_kept a_md_seen md_sights r1.2.1 a_md_asks a_md_brings a_md_uses a_md_days a_md_tries a_md_row md_many a_md_first md_length md_set a_md_held a_md_text md_text a_md_told md_told a_md_draft r1.2.2 a_md_s md_s a_md_past md_past a_md_images md_images a_md_seen md_seen a_md_asks md_asks a_md_brings md_brings a_md_uses md_uses a_md_days md_days a_md_tries md_tries a_md_row md_row a_md_first md_first a_md_held md_held) H locs := hw
  obtain rfl := Option.some.inj hm
  exact e_WI S hr hlk hw rfl hw.1 dX6_fault_4

abbrev rX6_lowest : Room := { frames := 0, cells := 0, slots := 0, locals := 0 }
theorem cal_X6_lowest : Cal yX6_lowest wsX6_lowest cX6_lowest 5 (some .int) RX6 2 := ⟨⟨_, rfl⟩, rfl, by decide +kernel, by decide +kernel, by decide +kernel⟩
theorem in_X6_lowest_X6 : ∀ w ∈ wsX60, w ∈ wsX6_lowest := fun _ h => (List.mem_cons_of_mem _ (List.mem_append_right _ h))
set_option maxHeartbeats 4000000 in
set_option maxRecDepth 100000 in
theorem t_X6_lowest_12 {p : Program} {e : Env} {s : State} {m : MethodId} {args : Array Value} {below : List Frame} {meth : Method} {c : Code} {Q : State → Prop} {H : Heap} {locs : List Loc} (l : Launch) {D : va_G} {cC cI cJ : ClassId} (S : CallFix p m c cX6_lowest 5 s args wsX6_lowest RX6) (hK : KK D (tyK cC cI cJ) s) (a_md : Nat) (a_md_text : Nat) (a_md_told : Nat) (a_md_draft : Nat) (a_md_s : Nat) (a_md_past : Nat) (a_md_images : Nat) (a_md_seen : Nat) (a_md_asks : Nat) (a_md_brings : Nat) (a_md_uses : Nat) (a_md_days : Nat) (a_md_tries : Nat) (a_md_row : Nat) (a_md_first : Nat) (a_md_held : Nat) (v1 : Int32) (v2 : Int32) (md_typed : Int32) (md_known : Int32) (md_kept : Int32) (md_sights : Int32) (md_at : Int32) (md_many : Int32) (md_length : Int32) (md_set : Int32) (md_text : (Nat → Int32)) (md_told : (Nat → Int32)) (md_draft : (Nat → Int32)) (md_s : (Nat → Int32)) (md_past : (Nat → Int32)) (md_images : (Nat → Int32)) (md_seen : (Nat → Int32)) (md_asks : (Nat → Int32)) (md_brings : (Nat → Int32)) (md_uses : (Nat → Int32)) (md_days : (Nat → Int32)) (md_tries : (Nat → Int32)) (md_row : (Nat → Int32)) (md_first : (Nat → Int32)) (md_held : (Nat → Int32)) (hP : va_P D vwCl (wd_28 cC cI cJ a_md a_md_text md_typed a_md_told a_md_draft a_md_s a_md_past md_known a_md_images md_kept a_md_seen md_sights md_at a_md_asks a_md_brings a_md_uses a_md_days a_md_tries a_md_row md_many a_md_first md_length md_set a_md_held a_md_text md_text a_md_told md_told a_md_draft md_draft a_md_s md_s a_md_past md_past a_md_images md_images a_md_seen md_seen a_md_asks md_asks a_md_brings md_brings a_md_uses md_uses a_md_days md_days a_md_tries md_tries a_md_row md_row a_md_first md_first a_md_held md_held) H) : ∀ (n : Nat) (v3 : Int32) (v4 : Int32) (out : Int32), lp_X6_lowest_12 v1 v2 md_told n v3 v4 = some out → ∀ (ls : Array Slot), lv_has ls 5 [(0, .ref a_md), (1, .int v1), (2, .int v2), (3, .int v3), (4, .int v4)] → (∀ (ls : Array Slot), lv_has ls 5 [(3, .int out)] → W p l e rX6_lowest s m args below meth c H locs 0 0 Q (F0 m 60 ls [])) → W p l e rX6_lowest s m args below meth c H locs 0 0 Q (F0 m 12 ls []) := by
  have hx := S.1
  have hb := S.2.1
  intro n
  induction n with
  | zero => intro v3 v4 out hm; cases (show (none : Option Int32) = some out from hm)
  | succ n ih =>
    intro v3 v4 out hm  ls hl K0
    rw [lp_X6_lowest_12] at hm
    refine lv_iload hx hb dX6_lowest_12 (lv_at hl 4 rfl) ?_
    refine lv_if_lt (tgt := 60) hx hb dX6_lowest_14 (by decide) (fun c2 => ?_) (fun c2 => ?_)
    · replace hm := ipos hm c2
      obtain rfl := Option.some.inj hm
      exact K0  ls (lv_sub hl [3] rfl)
    · replace hm := ineg hm c2
      refine lv_iload_n hx hb dX6_lowest_17 rfl (lv_at hl 1 rfl) ?_
      refine lv_iload hx hb dX6_lowest_18 (lv_at hl 4 rfl) ?_
      refine lv_ishr hx hb dX6_lowest_20 ?_
      refine lv_iconst (v := 1) hx hb dX6_lowest_21 (by decide) ?_
      refine lv_iand hx hb dX6_lowest_22 ?_
      refine lv_iconst (v := 1) hx hb dX6_lowest_23 (by decide) ?_
      refine lv_icmp_ne (tgt := 52) hx hb dX6_lowest_24 (by decide) (fun c3 => ?_) (fun c3 => ?_)
      · replace hm := ineg hm c3
        refine lv_iload_n hx hb dX6_lowest_52 rfl (lv_at hl 3 rfl) ?_
        refine lv_istore_n (lv' := [(3, .int v3), (0, .ref a_md), (1, .int v1), (2, .int v2), (4, .int v4)]) hx hb dX6_lowest_53 rfl hl (by decide) rfl (fun ls hl => ?_)
        refine lv_iinc (v := (v4 + (-1))) (lv' := [(4, .int (v4 + (-1))), (3, .int v3), (0, .ref a_md), (1, .int v1), (2, .int v2)]) hx hb dX6_lowest_54 hl (k := 4) rfl (by rw [ofi_m1]) (by decide) rfl (fun ls hl => ?_)
        refine lv_goto (tgt := 12) hx hb dX6_lowest_57 (by decide) ?_
        exact ih v3 (v4 + (-1)) _ hm  ls (lv_sub hl [2, 3, 4, 1, 0] rfl) K0
      · replace hm := ipos hm c3
        refine lv_iload_n hx hb dX6_lowest_27 rfl (lv_at hl 2 rfl) ?_
        refine lv_if_lt (tgt := 45) hx hb dX6_lowest_28 (by decide) (fun c4 => ?_) (fun c4 => ?_)
        · replace hm := ipos hm c4
          refine lv_iconst (v := 1) hx hb dX6_lowest_45 (by decide) ?_
          refine lv_iload hx hb dX6_lowest_46 (lv_at hl 4 rfl) ?_
          refine lv_ishl hx hb dX6_lowest_48 ?_
          refine lv_goto (tgt := 53) hx hb dX6_lowest_49 (by decide) ?_
          refine lv_istore_n (lv' := [(3, .int ((1 : Int32) <<< (v4 &&& 31))), (0, .ref a_md), (1, .int v1), (2, .int v2), (4, .int v4)]) hx hb dX6_lowest_53 rfl hl (by decide) rfl (fun ls hl => ?_)
          refine lv_iinc (v := (v4 + (-1))) (lv' := [(4, .int (v4 + (-1))), (3, .int ((1 : Int32) <<< (v4 &&& 31))), (0, .ref a_md), (1, .int v1), (2, .int v2)]) hx hb dX6_lowest_54 hl (k := 4) rfl (by rw [ofi_m1]) (by decide) rfl (fun ls hl => ?_)
          refine lv_goto (tgt := 12) hx hb dX6_lowest_57 (by decide) ?_
          exact ih ((1 : Int32) <<< (v4 &&& 31)) (v4 + (-1)) _ hm  ls (lv_sub hl [2, 3, 4, 1, 0] rfl) K0
        · replace hm := ineg hm c4
          refine lv_aload_n hx hb dX6_lowest_31 rfl (lv_at hl 0 rfl) ?_
          refine f_get S hK hP in_X6_lowest_X6 0 rfl rfl 2 (by decide) (List.mem_of_getElem? (i := 1) rfl) rfl rfl dX6_lowest_32 ?_
          refine lv_bipush (v := 37) hx hb dX6_lowest_35 (by decide) ?_
          refine lv_iload hx hb dX6_lowest_37 (lv_at hl 4 rfl) ?_
          refine lv_iadd hx hb dX6_lowest_39 ?_
          obtain ⟨g5, hm⟩ := gdo hm
          refine f_iald S hK hP 2 1 rfl rfl g5 dX6_lowest_40 ?_
          refine lv_iload_n hx hb dX6_lowest_41 rfl (lv_at hl 2 rfl) ?_
          refine lv_icmp_ne (tgt := 52) hx hb dX6_lowest_42 (by decide) (fun c6 => ?_) (fun c6 => ?_)
          · replace hm := ineg hm c6
            refine lv_iload_n hx hb dX6_lowest_52 rfl (lv_at hl 3 rfl) ?_
            refine lv_istore_n (lv' := [(3, .int v3), (0, .ref a_md), (1, .int v1), (2, .int v2), (4, .int v4)]) hx hb dX6_lowest_53 rfl hl (by decide) rfl (fun ls hl => ?_)
            refine lv_iinc (v := (v4 + (-1))) (lv' := [(4, .int (v4 + (-1))), (3, .int v3), (0, .ref a_md), (1, .int v1), (2, .int v2)]) hx hb dX6_lowest_54 hl (k := 4) rfl (by rw [ofi_m1]) (by decide) rfl (fun ls hl => ?_)
            refine lv_goto (tgt := 12) hx hb dX6_lowest_57 (by decide) ?_
            exact ih v3 (v4 + (-1)) _ hm  ls (lv_sub hl [2, 3, 4, 1, 0] rfl) K0
          · replace hm := ipos hm c6
            refine lv_iconst (v := 1) hx hb dX6_lowest_45 (by decide) ?_
            refine lv_iload hx hb dX6_lowest_46 (lv_at hl 4 rfl) ?_
            refine lv_ishl hx hb dX6_lowest_48 ?_
            refine lv_goto (tgt := 53) hx hb dX6_lowest_49 (by decide) ?_
            refine lv_istore_n (lv' := [(3, .int ((1 : Int32) <<< (v4 &&& 31))), (0, .ref a_md), (1, .int v1), (2, .int v2), (4, .int v4)]) hx hb dX6_lowest_53 rfl hl (by decide) rfl (fun ls hl => ?_)
            refine lv_iinc (v := (v4 + (-1))) (lv' := [(4, .int (v4 + (-1))), (3, .int ((1 : Int32) <<< (v4 &&& 31))), (0, .ref a_md), (1, .int v1), (2, .int v2)]) hx hb dX6_lowest_54 hl (k := 4) rfl (by rw [ofi_m1]) (by decide) rfl (fun ls hl => ?_)
            refine lv_goto (tgt := 12) hx hb dX6_lowest_57 (by decide) ?_
            exact ih ((1 : Int32) <<< (v4 &&& 31)) (v4 + (-1)) _ hm  ls (lv_sub hl [2, 3, 4, 1, 0] rfl) K0
set_option maxHeartbeats 4000000 in
set_option maxRecDepth 100000 in
theorem c_X6_lowest (l : Launch) (D : va_G) (cC cI cJ : ClassId) (a_md : Nat) (a_md_text : Nat) (a_md_told : Nat) (a_md_draft : Nat) (a_md_s : Nat) (a_md_past : Nat) (a_md_images : Nat) (a_md_seen : Nat) (a_md_asks : Nat) (a_md_brings : Nat) (a_md_uses : Nat) (a_md_days : Nat) (a_md_tries : Nat) (a_md_row : Nat) (a_md_first : Nat) (a_md_held : Nat) (md_typed : Int32) (md_known : Int32) (md_kept : Int32) (md_sights : Int32) (md_at : Int32) (md_many : Int32) (md_length : Int32) (md_set : Int32) (md_text : (Nat → Int32)) (md_told : (Nat → Int32)) (md_draft : (Nat → Int32)) (md_s : (Nat → Int32)) (md_past : (Nat → Int32)) (md_images : (Nat → Int32)) (md_seen : (Nat → Int32)) (md_asks : (Nat → Int32)) (md_brings : (Nat → Int32)) (md_uses : (Nat → Int32)) (md_days : (Nat → Int32)) (md_tries : (Nat → Int32)) (md_row : (Nat → Int32)) (md_first : (Nat → Int32)) (md_held : (Nat → Int32)) (p0 : Int32) (p1 : Int32) (N : Nat) (out : Int32) (hm : m_X6_lowest N md_told p0 p1 = some out) : RdI l yX6_lowest wsX6_lowest rX6_lowest D (tyK cC cI cJ) [.ref a_md, .int p0, .int p1] (wd_28 cC cI cJ a_md a_md_text md_typed a_md_told a_md_draft a_md_s a_md_past md_known a_md_images md_kept a_md_seen md_sights md_at a_md_asks a_md_brings a_md_uses a_md_days a_md_tries a_md_row md_many a_md_first md_length md_set a_md_held a_md_text md_text a_md_told md_told a_md_draft md_draft a_md_s md_s a_md_past md_past a_md_images md_images a_md_seen md_seen a_md_asks md_asks a_md_brings md_brings a_md_uses md_uses a_md_days md_days a_md_tries md_tries a_md_row md_row a_md_first md_first a_md_held md_held) out := by
  unfold m_X6_lowest at hm
  refine enter (cc := cX6_lowest) (maxL := 5) (ret := (some .int)) (lv := [(0, .ref a_md), (1, .int p0), (2, .int p1)]) (by decide) rfl (Nat.le_of_ble_eq_true rfl) rfl ?_
  intro p e s m args below meth c S hr hlk hK hP ls hl
  replace S : CallFix p m c cX6_lowest 5 s args wsX6_lowest RX6 := S
  have hx := S.1
  have hb := S.2.1
  refine lv_iconst (v := 0) hx hb dX6_lowest_0 (by decide) ?_
  refine lv_istore_n (lv' := [(3, .int (0 : Int32)), (0, .ref a_md), (1, .int p0), (2, .int p1)]) hx hb dX6_lowest_1 rfl hl (by decide) rfl (fun ls hl => ?_)
  refine lv_aload_n hx hb dX6_lowest_2 rfl (lv_at hl 1 rfl) ?_
  refine f_get S hK hP in_X6_lowest_X6 0 rfl rfl 2 (by decide) (List.mem_of_getElem? (i := 1) rfl) rfl rfl dX6_lowest_3 ?_
  refine lv_iconst (v := 1) hx hb dX6_lowest_6 (by decide) ?_
  refine f_ialdK S hK hP 2 1 rfl rfl 1 (by decide) (by decide) (v := (md_told 1)) rfl dX6_lowest_7 ?_
  refine lv_iconst (v := 1) hx hb dX6_lowest_8 (by decide) ?_
  refine lv_isub hx hb dX6_lowest_9 ?_
  refine lv_istore (lv' := [(4, .int ((md_told 1) - (1 : Int32))), (3, .int (0 : Int32)), (0, .ref a_md), (1, .int p0), (2, .int p1)]) hx hb dX6_lowest_10 hl (by decide) rfl (fun ls hl => ?_)
  obtain ⟨r7, h8, hm⟩ := ob hm
  refine t_X6_lowest_12 l S hK a_md a_md_text a_md_told a_md_draft a_md_s a_md_past a_md_images a_md_seen a_md_asks a_md_brings a_md_uses a_md_days a_md_tries a_md_row a_md_first a_md_held p0 p1 md_typed md_known md_kept md_sights md_at md_many md_length md_set md_text md_told md_draft md_s md_past md_images md_seen md_asks md_brings md_uses md_days md_tries md_row md_first md_held hP N (0 : Int32) ((md_told 1) - (1 : Int32)) r7 h8  ls (lv_sub hl [2, 3, 4, 1, 0] rfl) (fun ls hl => ?_)
  refine lv_iload_n hx hb dX6_lowest_60 rfl (lv_at hl 0 rfl) ?_
  exact e_RI S hr hlk (Option.some.inj hm) dX6_lowest_61
