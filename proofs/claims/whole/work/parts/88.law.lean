/-! the law: its loop, its start: printed by wip/gen/law3.py -/
theorem LInv.S {B : Nat} {D : va_G} {cC cI cJ : ClassId} {A : Nat → Prop} {H0 : Heap} {a_x a_md : Nat} {H : Heap} {locs : List Loc} (h : LInv B D cC cI cJ A H0 a_x a_md H locs) : va_S A H0 H locs := by
  exact h _ (fun _ _ _ _ _ _ _ _ _ _ _ _ _ _ _ _ _ _ _ _ _ _ _ _ _ _ _ _ _ _ _ _ _ _ _ _ _ _ _ _ _ _ _ _ _ _ _ _ _ _ _ _ _ _ _ _ _ _ _ _ _ _ _ _ _ _ _ _ _ _ _ _ _ _ _ _ _ _ _ _ _ _ _ _ _ _ _ _ _ _ _ _ _ _ _ _ _ _ _ _ _ _ _ _ _ _ _ _ _ _ _ _ _ _ _ _ _ _ _ _ _ _ _ _ _ _ _ _ _ _ _ _ _ _ _ _ hw _ _ _ _ _ _ _ _ _ => hw.2.2)
theorem LInv.mono {B B' : Nat} {D : va_G} {cC cI cJ : ClassId} {A : Nat → Prop} {H0 : Heap} {a_x a_md : Nat} {H : Heap} {locs : List Loc} (h : LInv B D cC cI cJ A H0 a_x a_md H locs) (hB : B ≤ B') : LInv B' D cC cI cJ A H0 a_x a_md H locs := by
  exact h _ (fun a_x_text a_mo a_mo_kinds a_mo_days a_mo_rideDays a_mo_helpKinds a_mo_nexts a_mo_helperKinds a_mo_prices a_mo_helpersOfKind a_mo_numbers a_sp a_sp_kinds a_sp_days a_sp_rideDays a_sp_helpKinds a_sp_nexts a_sp_helperKinds a_sp_prices a_sp_helpersOfKind a_sp_numbers a_no a_tr a_un a_un_held a_ke a_ke_held a_se a_se_left a_us a_us_left a_sr a_sr_known a_ro g_sr_months g_sr_heeded a_md_text a_md_told a_md_draft a_md_s a_md_past a_md_images a_md_seen a_md_asks a_md_brings a_md_uses a_md_days a_md_tries a_md_row a_md_first a_md_held x_letters x_text mo_tasks mo_helpers mo_askedFirst mo_crumbsFirst mo_lastDay mo_kinds mo_days mo_rideDays mo_helpKinds mo_nexts mo_helperKinds mo_prices mo_helpersOfKind mo_numbers sp_tasks sp_helpers sp_askedFirst sp_crumbsFirst sp_lastDay sp_kinds sp_days sp_rideDays sp_helpKinds sp_nexts sp_helperKinds sp_prices sp_helpersOfKind sp_numbers no_asked no_brought no_friends no_used no_crumbs no_day tr_asked tr_brought tr_friends tr_used tr_crumbs tr_day un_size un_held ke_size ke_held se_size se_lastPlace se_left us_size us_lastPlace us_left sr_number sr_enough sr_hopeless sr_known ro_asked ro_brought ro_friends ro_used ro_crumbs ro_day md_typed md_known md_kept md_sights md_at md_many md_length md_set md_text md_told md_draft md_s md_past md_images md_seen md_asks md_brings md_uses md_days md_tries md_row md_first md_held hw hT τ hM hS hU hKe hSe hUs hMem => fun P hP => hP a_x_text a_mo a_mo_kinds a_mo_days a_mo_rideDays a_mo_helpKinds a_mo_nexts a_mo_helperKinds a_mo_prices a_mo_helpersOfKind a_mo_numbers a_sp a_sp_kinds a_sp_days a_sp_rideDays a_sp_helpKinds a_sp_nexts a_sp_helperKinds a_sp_prices a_sp_helpersOfKind a_sp_numbers a_no a_tr a_un a_un_held a_ke a_ke_held a_se a_se_left a_us a_us_left a_sr a_sr_known a_ro g_sr_months g_sr_heeded a_md_text a_md_told a_md_draft a_md_s a_md_past a_md_images a_md_seen a_md_asks a_md_brings a_md_uses a_md_days a_md_tries a_md_row a_md_first a_md_held x_letters x_text mo_tasks mo_helpers mo_askedFirst mo_crumbsFirst mo_lastDay mo_kinds mo_days mo_rideDays mo_helpKinds mo_nexts mo_helperKinds mo_prices mo_helpersOfKind mo_numbers sp_tasks sp_helpers sp_askedFirst sp_crumbsFirst sp_lastDay sp_kinds sp_days sp_rideDays sp_helpKinds sp_nexts sp_helperKinds sp_prices sp_helpersOfKind sp_numbers no_asked no_brought no_friends no_used no_crumbs no_day tr_asked tr_brought tr_friends tr_used tr_crumbs tr_day un_size un_held ke_size ke_held se_size se_lastPlace se_left us_size us_lastPlace us_left sr_number sr_enough sr_hopeless sr_known ro_asked ro_brought ro_friends ro_used ro_crumbs ro_day md_typed md_known md_kept md_sights md_at md_many md_length md_set md_text md_told md_draft md_s md_past md_images md_seen md_asks md_brings md_uses md_days md_tries md_row md_first md_held hw hT τ hM hS hU hKe hSe hUs (hMem.mono hB))
theorem law_cmp {k L : Nat} (hL : L ≤ 256) (hk : k ≤ 260) (h : ¬ nI L - 4 < nI k) : k + 4 ≤ L := by
  by_cases h4 : 4 ≤ L
  · have e : nI L - (4 : Int32) = nI (L - 4) := pk_sub (b := 4) h4
    rw [e] at h
    by_cases hz : k + 4 ≤ L
    · exact hz
    · exact absurd (nI_lt (a := L - 4) (b := k) (by omega) (by omega)) h
  · have h1 : ∀ x : Nat, x < 4 → nI x - (4 : Int32) < 0 := by decide +kernel
    exact absurd (Int32.lt_of_lt_of_le (h1 L (by omega)) (Int32.not_lt.mp (nI_pos (by omega)))) h
section LL
variable {p : Program} {l : Launch} {e : Env} {s : State} {m : MethodId} {below : List Frame} {meth : Method} {c : Code} {cells slots : Nat}
variable {D : va_G} {cC cI cJ : ClassId} {b L a_x a_md : Nat} {xs : Nat → Int32}
set_option maxHeartbeats 8000000 in
set_option maxRecDepth 100000 in
theorem law_loop (S : CallFix p m c cL_law 4 s #[Value.ref b] wsL_law RL) (hr : meth.sig.returnType = ret) (hlocks : meth.locks = false) (hK : KK D (tyK cC cI cJ) s) (hX : va_X b L xs s s.heap) (hbl : b < s.heap.size) (hbA : ¬ (fun q : Nat => s.heap.size ≤ q) b) (hcs : cells ≤ 600000 ∧ slots ≤ 7302250) (hL : L ≤ 256) : ∀ (n k B : Nat) (H : Heap) (locs : List Loc) (ls : Array Slot), L ≤ k + 4 * n → k ≤ 260 → B ≤ 600 * k → LInv B D cC cI cJ (fun q : Nat => s.heap.size ≤ q) s.heap a_x a_md H locs → lv_has ls 4 [(3, .int (nI k)), (2, .ref a_md), (1, .ref a_x), (0, .ref b)] → W p l e room_1 s m #[Value.ref b] below meth c H locs cells slots (lw_Z below #[Value.ref b] s) (F0 m 18 ls []) := by
  have hx := S.1
  have hb := S.2.1
  have ex : ∀ (k : Nat) (H : Heap) (locs : List Loc) (ls : Array Slot), va_S (fun q : Nat => s.heap.size ≤ q) s.heap H locs → W p l e room_1 s m #[Value.ref b] below meth c H locs cells slots (lw_Z below #[Value.ref b] s) (F0 m 746 ls []) := by
    intro k H locs ls hS
    refine lv_iconst (v := 1) hx hb dL_law_746 (by decide) ?_
    refine va_forget hS.2.2 ?_
    refine W.widen hcs.1 hcs.2 ?_
    exact lw_ret hx hb hr hlocks dL_law_747
  intro n
  induction n with
  | zero =>
    intro k B H locs ls hn hk hB hI hl
    have hS := hI.S
    refine lv_iload_n hx hb dL_law_18 rfl (lv_at hl 0 rfl) ?_
    refine lv_aload_n hx hb dL_law_19 rfl (lv_at hl 3 rfl) ?_
    refine va_slen hx hb hX hbl hbA hS dL_law_20 ?_
    refine lv_iconst (v := 4) hx hb dL_law_21 (by decide) ?_
    refine lv_isub hx hb dL_law_22 ?_
    refine lv_icmp_gt (tgt := 746) hx hb dL_law_23 (by decide) (fun c1 => ?_) (fun c1 => ?_)
    · exact ex k H locs ls hS
    · have h4 := law_cmp hL hk c1
      exact absurd h4 (by omega)
  | succ n ih =>
    intro k B H locs ls hn hk hB hI hl
    have hS := hI.S
    refine lv_iload_n hx hb dL_law_18 rfl (lv_at hl 0 rfl) ?_
    refine lv_aload_n hx hb dL_law_19 rfl (lv_at hl 3 rfl) ?_
    refine va_slen hx hb hX hbl hbA hS dL_law_20 ?_
    refine lv_iconst (v := 4) hx hb dL_law_21 (by decide) ?_
    refine lv_isub hx hb dL_law_22 ?_
    refine lv_icmp_gt (tgt := 746) hx hb dL_law_23 (by decide) (fun c1 => ?_) (fun c1 => ?_)
    · exact ex k H locs ls hS
    have hk4 : k + 4 ≤ L := law_cmp hL hk c1
    have hB6 : B ≤ 600000 := by omega
    have back : ∀ (H1 : Heap) (locs1 : List Loc), LInv (B + 600) D cC cI cJ (fun q : Nat => s.heap.size ≤ q) s.heap a_x a_md H1 locs1 → W p l e room_1 s m #[Value.ref b] below meth c H1 locs1 cells slots (lw_Z below #[Value.ref b] s) (F0 m 740 ls []) := by
      intro H1 locs1 hI1
      refine lv_iinc (v := nI (k + 4)) (lv' := [(3, .int (nI (k + 4))), (2, .ref a_md), (1, .ref a_x), (0, .ref b)]) hx hb dL_law_740 hl (k := 0) rfl (by rw [ofi_4]; exact nI_add k 4) (by decide) rfl (fun ls hl => ?_)
      refine lv_goto (tgt := 18) hx hb dL_law_743 (by decide) ?_
      exact ih (k + 4) (B + 600) H1 locs1 ls (by omega) (by omega) (by omega) hI1 hl
    refine lv_aload_n hx hb dL_law_26 rfl (lv_at hl 3 rfl) ?_
    refine lv_iload_n hx hb dL_law_27 rfl (lv_at hl 0 rfl) ?_
    refine va_sld hx hb hX hbl hbA hS (vp_in_iff.mpr (j_in (by omega) (by omega))) dL_law_28 ?_
    refine lv_bipush (v := 31) hx hb dL_law_29 (by decide) ?_
    refine lv_iand hx hb dL_law_31 ?_
    obtain ⟨j, hj, ej⟩ := pk_andE (xs (nI k).toNatClampNeg) (m := 31) 5 (by decide)
    rw [ej]
    have hj2 : j = 0 ∨ j = 1 ∨ j = 2 ∨ j = 3 ∨ j = 4 ∨ j = 5 ∨ j = 6 ∨ j = 7 ∨ j = 8 ∨ j = 9 ∨ j = 10 ∨ j = 11 ∨ j = 12 ∨ j = 13 ∨ j = 14 ∨ j = 15 ∨ j = 16 ∨ j = 17 ∨ j = 18 ∨ j = 19 ∨ j = 20 ∨ j = 21 ∨ j = 22 ∨ j = 23 ∨ j = 24 ∨ j = 25 ∨ 25 < j := by omega
    rcases hj2 with rfl | rfl | rfl | rfl | rfl | rfl | rfl | rfl | rfl | rfl | rfl | rfl | rfl | rfl | rfl | rfl | rfl | rfl | rfl | rfl | rfl | rfl | rfl | rfl | rfl | rfl | hj9
    · refine f_tabIn S (kv := 0) rfl dL_law_32 (off := 120) (by decide) (by decide) (by decide) (tgt := 152) (by decide) ?_
      exact law_write S hK hX hbl hbA hcs hk4 hL hB6 hI hl back
    · refine f_tabIn S (kv := 1) rfl dL_law_32 (off := 143) (by decide) (by decide) (by decide) (tgt := 175) (by decide) ?_
      exact law_wipe S hK hX hbl hbA hcs hk4 hL hB6 hI hl back
    · refine f_tabIn S (kv := 2) rfl dL_law_32 (off := 156) (by decide) (by decide) (by decide) (tgt := 188) (by decide) ?_
      exact law_fault S hK hX hbl hbA hcs hk4 hL hB6 hI hl back
    · refine f_tabIn S (kv := 3) rfl dL_law_32 (off := 169) (by decide) (by decide) (by decide) (tgt := 201) (by decide) ?_
      exact law_lay S hK hX hbl hbA hcs hk4 hL hB6 hI hl back
    · refine f_tabIn S (kv := 4) rfl dL_law_32 (off := 182) (by decide) (by decide) (by decide) (tgt := 214) (by decide) ?_
      exact law_task S hK hX hbl hbA hcs hk4 hL hB6 hI hl back
    · refine f_tabIn S (kv := 5) rfl dL_law_32 (off := 215) (by decide) (by decide) (by decide) (tgt := 247) (by decide) ?_
      exact law_helper S hK hX hbl hbA hcs hk4 hL hB6 hI hl back
    · refine f_tabIn S (kv := 6) rfl dL_law_32 (off := 248) (by decide) (by decide) (by decide) (tgt := 280) (by decide) ?_
      exact law_help S hK hX hbl hbA hcs hk4 hL hB6 hI hl back
    · refine f_tabIn S (kv := 7) rfl dL_law_32 (off := 271) (by decide) (by decide) (by decide) (tgt := 303) (by decide) ?_
      exact law_befriend S hK hX hbl hbA hcs hk4 hL hB6 hI hl back
    · refine f_tabIn S (kv := 8) rfl dL_law_32 (off := 294) (by decide) (by decide) (by decide) (tgt := 326) (by decide) ?_
      exact law_ride S hK hX hbl hbA hcs hk4 hL hB6 hI hl back
    · refine f_tabIn S (kv := 9) rfl dL_law_32 (off := 317) (by decide) (by decide) (by decide) (tgt := 349) (by decide) ?_
      exact law_suggest S hK hX hbl hbA hcs hk4 hL hB6 hI hl back
    · refine f_tabIn S (kv := 10) rfl dL_law_32 (off := 340) (by decide) (by decide) (by decide) (tgt := 372) (by decide) ?_
      exact law_handUp S hK hX hbl hbA hcs hk4 hL hB6 hI hl back
    · refine f_tabIn S (kv := 11) rfl dL_law_32 (off := 363) (by decide) (by decide) (by decide) (tgt := 395) (by decide) ?_
      exact law_undo S hK hX hbl hbA hcs hk4 hL hB6 hI hl back
    · refine f_tabIn S (kv := 12) rfl dL_law_32 (off := 376) (by decide) (by decide) (by decide) (tgt := 408) (by decide) ?_
      exact law_mayCome S hK hX hbl hbA hcs hk4 hL hB6 hI hl back
    · refine f_tabIn S (kv := 13) rfl dL_law_32 (off := 389) (by decide) (by decide) (by decide) (tgt := 421) (by decide) ?_
      exact law_well S hK hX hbl hbA hcs hk4 hL hB6 hI hl back
    · refine f_tabIn S (kv := 14) rfl dL_law_32 (off := 412) (by decide) (by decide) (by decide) (tgt := 444) (by decide) ?_
      exact law_fewest S hK hX hbl hbA hcs hk4 hL hB6 hI hl back
    · refine f_tabIn S (kv := 15) rfl dL_law_32 (off := 435) (by decide) (by decide) (by decide) (tgt := 467) (by decide) ?_
      exact law_step S hK hX hbl hbA hcs hk4 hL hB6 hI hl back
    · refine f_tabIn S (kv := 16) rfl dL_law_32 (off := 458) (by decide) (by decide) (by decide) (tgt := 490) (by decide) ?_
      exact law_worth S hK hX hbl hbA hcs hk4 hL hB6 hI hl back
    · refine f_tabIn S (kv := 17) rfl dL_law_32 (off := 491) (by decide) (by decide) (by decide) (tgt := 523) (by decide) ?_
      exact law_see S hK hX hbl hbA hcs hk4 hL hB6 hI hl back
    · refine f_tabIn S (kv := 18) rfl dL_law_32 (off := 524) (by decide) (by decide) (by decide) (tgt := 556) (by decide) ?_
      exact law_forget S hK hX hbl hbA hcs hk4 hL hB6 hI hl back
    · refine f_tabIn S (kv := 19) rfl dL_law_32 (off := 537) (by decide) (by decide) (by decide) (tgt := 569) (by decide) ?_
      exact law_rows S hK hX hbl hbA hcs hk4 hL hB6 hI hl back
    · refine f_tabIn S (kv := 20) rfl dL_law_32 (off := 560) (by decide) (by decide) (by decide) (tgt := 592) (by decide) ?_
      exact law_forWhat S hK hX hbl hbA hcs hk4 hL hB6 hI hl back
    · refine f_tabIn S (kv := 21) rfl dL_law_32 (off := 583) (by decide) (by decide) (by decide) (tgt := 615) (by decide) ?_
      exact law_grooms S hK hX hbl hbA hcs hk4 hL hB6 hI hl back
    · refine f_tabIn S (kv := 22) rfl dL_law_32 (off := 616) (by decide) (by decide) (by decide) (tgt := 648) (by decide) ?_
      exact law_king S hK hX hbl hbA hcs hk4 hL hB6 hI hl back
    · refine f_tabIn S (kv := 23) rfl dL_law_32 (off := 659) (by decide) (by decide) (by decide) (tgt := 691) (by decide) ?_
      exact law_keep S hK hX hbl hbA hcs hk4 hL hB6 hI hl back
    · refine f_tabIn S (kv := 24) rfl dL_law_32 (off := 672) (by decide) (by decide) (by decide) (tgt := 704) (by decide) ?_
      exact law_back S hK hX hbl hbA hcs hk4 hL hB6 hI hl back
    · refine f_tabIn S (kv := 25) rfl dL_law_32 (off := 685) (by decide) (by decide) (by decide) (tgt := 717) (by decide) ?_
      exact law_count S hK hX hbl hbA hcs hk4 hL hB6 hI hl back
    · have ht : (nI j).toInt = (j : Int) := nI_toInt (by omega)
      refine f_tabOut S dL_law_32 (Or.inr (by rw [ht]; omega)) (tgt := 740) (by decide) ?_
      exact back H locs (hI.mono (by omega))
end LL
