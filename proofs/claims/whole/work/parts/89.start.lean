/-! the law from its entry: printed by wip/gen/law3.py -/
section NX
variable {p : Program} {l : Launch} {e : Env} {R : Room} {s : State} {m : MethodId} {args : Array Value} {below : List Frame} {meth : Method} {c : Code} {H : Heap} {locs : List Loc} {cells slots : Nat} {Q : State → Prop}
variable {cc : ByteArray} {nL pc : Nat} {ls : Array Slot} {rest st0 : List Value} {D : va_G} {A : Nat → Prop} {T : List (ClassId × FieldType)} {ws : va_W} {H0 : Heap} {Ts : List Cond} {own : String}
variable {y : MethodName} {wsy : List Cond} {bytes : ByteArray} {maxL n index : Nat} {C : String} {rm : Room} {b : Nat} {As : List Value} {wc wr : va_W}
theorem k_nIX (S : CallFix p m c cc nL s args Ts own) (hK : KK D T s) (hw : Wd D A H0 ws H locs) (hA : ∀ q, H0.size ≤ q → A q) (hy : Cal y wsy bytes maxL none C n) (hy1 : y.name = "<init>") (hG : GoodIn Ts wsy) (hini : Cond.initialized y.cls ∈ Ts) (hl : Cond.methodLink own index y ∈ Ts) (him : Cond.instanceMethod y ∈ Ts) {mc ms : Nat} {X : State → Prop} {B : Heap → Prop} (hXb : ∀ U V : State, V.vm = U.vm → V.heap = U.heap → X U → X V) (hXU : ∀ U : State, U.heap = H → s.WarmedH U.vm → X U) (hM : Met l y wsy rm (va_Pc (.ref b :: As) (NPX D T wc H.size X)) (va_Qv (fun (_ : Unit) => True) (fun _ t => B t.heap) (va_A wc H.size)) mc ms (va_A wc H.size)) (hrc : rm.cells = mc ∧ rm.slots = ms) (hrm : rm.frames + 1 ≤ R.frames ∧ 8 + (maxL + 11) + rm.locals ≤ R.locals) (isC isR : List Nat) (hC : isC.map (fun i => ws[i]?) = wc.map some) (hCn : va_nd isC = true) (hR' : isR.map (fun i => ws[i]?) = wr.map some) (hRn : va_nd isR = true) (hdis : ∀ i ∈ isR, i ∉ isC) (hn : As.length = n) (hsz : ls.size = nL) (hst : st0 = As.reverse ++ .ref b :: rest) (hR : (rest.map fun v => v.category).sum ≤ 8) (hdg : decode cc pc = .ok (.invokespecial index, 3)) (hf : cells + mc ≤ R.cells ∧ slots + ms ≤ R.slots)
    (kk : ∀ (H1 : Heap) (locs1 : List Loc), B H1 → (∀ w1 : va_W, va_P D vwCl w1 H1 → va_D (va_A wc H.size) w1 → Wd D A H0 (wr ++ w1) H1 locs1) → W p l e R s m args below meth c H1 locs1 (cells + mc) (slots + ms) Q (F0 m (pc + 3) ls rest)) : W p l e R s m args below meth c H locs cells slots Q (F0 m pc ls st0) := by
  obtain ⟨⟨ws', hw0⟩, hC', h1, h2, h3⟩ := hy
  have hF := va_free (wc := wc) hw.2.1 hw.2.2 hA isC hC
  refine va_callv (va_runI S hM (cwI n S.2.2.2.2 hG hw0 hrc.1 hrc.2 (S.2.2.2.2 _ hini) (S.2.2.2.2 _ hl) (S.2.2.2.2 _ him) hy1 ⟨h1, h2, h3⟩ hrm) ⟨NPX.blind hXb, fun U hU hW => ⟨rfl, ⟨by rw [hU], by rw [hU]; exact hw.1.sub isC (map_filterMap hC), hK.warm hW, (hw.2.1.sub isC hCn hC).weaken (fun _ _ _ _ => trivial)⟩, hXU U hU hW⟩⟩ rfl hn hsz hst (lv_room hR) hdg hf) hw.2.2 (fun q _ h => hF q h) hF (fun u t H1 locs1 ht hvm hr hB hz hk hS => ?_)
  rw [ht] at hB
  exact kk H1 locs1 hB (fun w1 hP1 hD1 => by
    obtain ⟨hP, hD⟩ := va_join hw.1 hw.2.1 isC isR hC hR' hRn hdis hk hF hP1 hD1
    exact ⟨hP, hD, hS⟩)
end NX
theorem arr_known {args : Array Value} {s : State} {ty : FieldType} (hp : ∀ C, ty ≠ .object C) (h : (Cond.arrayClass ty).before args s = true) : ∃ cA, ArrOfT s cA ty ∧ va_RA s cA ty := by
  obtain ⟨cA, kA, comp, h1, h2, h3⟩ := Cond.arrayClass_spec h
  refine ⟨cA, fun n z => ⟨fun k h => (by cases h), kA, h2, comp, h3⟩, ?_⟩
  cases ty with
  | object C => exact absurd rfl (hp C)
  | _ => exact h1
theorem nest_in : ∀ q ∈ nwL, Cond.methodLinkNest q.1 q.2.1 q.2.2.1 q.2.2.2 ∈ lw_tbl := by decide +kernel
abbrev tmS : Term := Term.string "FeatherTasks" 64
abbrev tmV : Term := Term.field tmS "java/lang/String" "value" "[B"
def cElem (j : Nat) : Cond := Cond.eq (.elem tmV (.int (Int32.ofNat j))) (.int (litL.getD j 0))
theorem elem_in : ((List.range 103).all fun j => decide (cElem j ∈ flatC (Jvm.Cond.and given_1 narrow_1))) = true := by decide +kernel
theorem w_exact : Cond.exactly tmS "java/lang/String" ∈ flatC (Jvm.Cond.and given_1 narrow_1) := by decide +kernel
theorem w_coder : Cond.eq (.field tmS "java/lang/String" "coder" "B") (.int 0) ∈ flatC (Jvm.Cond.and given_1 narrow_1) := by decide +kernel
theorem w_arr : Cond.arrayOf tmV .byte ∈ flatC (Jvm.Cond.and given_1 narrow_1) := by decide +kernel
theorem w_len : Cond.eq (.length tmV) (.int 103) ∈ flatC (Jvm.Cond.and given_1 narrow_1) := by decide +kernel
theorem w_comp : Cond.eq (.static "java/lang/String" "COMPACT_STRINGS" "Z") (.int 1) ∈ flatC (Jvm.Cond.and given_1 narrow_1) := by decide +kernel
theorem w_lays : Cond.laysStatic "java/lang/String" "COMPACT_STRINGS" "Z" ∈ lw_tbl := by decide +kernel
theorem w_ini : Cond.initialized "java/lang/String" ∈ lw_tbl := by decide +kernel
theorem w_ref : Cond.stringRef "FeatherTasks" 64 txL ∈ lw_tbl := by decide +kernel
/-- the literal at the start -/
theorem lit_known {args : Array Value} {s : State} {A : Nat → Prop} (hts : ∀ w ∈ lw_tbl, w.before args s = true) (hgv : (Jvm.Cond.and given_1 narrow_1).before args s = true) (hA : ∀ a : Nat, a < s.heap.size → ¬ A a) : ∃ qs qb : Nat, vk_R RX5 64 txL qs s ∧ SX A qs qb 103 lit s s.heap := by
  have hs := flat_of_before _ hgv
  have h0 : ∀ i : Nat, i < 1 → i = 0 := fun i hi => by omega
  obtain ⟨adK, adV, h1, h2⟩ := vk_Sof (args := args) (s := s) (N := 1) (tm := fun _ => tmS) (len := [103]) (byt := [litL]) (A := A)
    (fun i hi => by rw [h0 i hi]; decide)
    (fun i hi => hs _ w_exact) (fun i hi => hs _ w_coder) (fun i hi => hs _ w_arr)
    (fun i hi => by rw [h0 i hi]; exact hs _ w_len)
    (fun i hi j hj => by
      rw [h0 i hi] at hj ⊢
      exact hs (cElem j) (of_decide_eq_true (List.all_eq_true.mp elem_in j (List.mem_range.mpr hj))))
    (fun i j hi hj hne => absurd ((h0 i hi).trans (h0 j hj).symm) hne) hA
  obtain ⟨g1, g2, g3, g4⟩ := h1.1 0 (by omega)
  exact ⟨adK 0, adV 0, vk_R.of (hts _ w_ref) (h2 0 (by omega)), va_Zof (hts _ w_lays) (hts _ w_ini) (va_eqt (hs _ w_comp)) hA, g1, g2, g3, g4⟩
theorem mul7 {α : Type} {P : Nat → α → Prop} {x0 x1 x2 x3 x4 x5 x6 : α} (h0 : P 0 x0) (h1 : P 1 x1) (h2 : P 2 x2) (h3 : P 3 x3) (h4 : P 4 x4) (h5 : P 5 x5) (h6 : P 6 x6) : ∀ (k : Nat) (q : α), ([x0, x1, x2, x3, x4, x5, x6] : List α)[k]? = some q → P k q := by
  intro k q hq
  match k, hq with
  | 0, hq => cases hq; exact h0
  | 1, hq => cases hq; exact h1
  | 2, hq => cases hq; exact h2
  | 3, hq => cases hq; exact h3
  | 4, hq => cases hq; exact h4
  | 5, hq => cases hq; exact h5
  | 6, hq => cases hq; exact h6
  | k + 7, hq => simp at hq
-- ===== YOUR PART BEGINS =====
set_option maxHeartbeats 16000000 in
set_option maxRecDepth 100000 in
theorem whole_start {p : Program} {e : Env} {s : State} {m : MethodId} {below : List Frame} {meth : Method} {c : Code} (l : Launch) (hflags : l.flags = flags0) {b L : Nat} {xs : Nat → Int32} (hL : L ≤ 256) (C0 : lw_At p s m meth c b L xs) : W p l e room_1 s m #[Value.ref b] below meth c s.heap [] 0 0 (lw_Z below #[Value.ref b] s) (entryFrame m ([Value.ref b] : List Value).toArray 4) := by
  obtain ⟨hx, hb, hr, hml, hown, hts, hX, hbl, hlocks, hgv⟩ := id C0
  have S : CallFix p m c cL_law 4 s #[Value.ref b] wsL_law RL := ⟨hx, hb, hml, hown, fun w h => hts w (wsL_law_in w h)⟩
  have hA : ∀ q : Nat, s.heap.size ≤ q → (fun q : Nat => s.heap.size ≤ q) q := fun _ h => h
  have hbA : ¬ (fun q : Nat => s.heap.size ≤ q) b := Nat.not_le.mpr hbl
  obtain ⟨c0, i0, hKn0⟩ := u_known (C := RX0) (T := TX0) (N := 14) (n := 14) S.2.2.2.2 inlX0 (S.2.2.2.2 (.instantiable RX0 14) (List.mem_of_getElem? (i := 15) rfl))
  obtain ⟨c1, i1, hKn1⟩ := u_known (C := RX1) (T := TX1) (N := 2) (n := 2) S.2.2.2.2 inlX1 (S.2.2.2.2 (.instantiable RX1 2) (List.mem_of_getElem? (i := 25) rfl))
  obtain ⟨c2, i2, hKn2⟩ := u_known (C := RX2) (T := TX2) (N := 8) (n := 8) S.2.2.2.2 inlX2 (S.2.2.2.2 (.instantiable RX2 8) (List.mem_of_getElem? (i := 35) rfl))
  obtain ⟨c3, i3, hKn3⟩ := u_known (C := RX3) (T := TX3) (N := 3) (n := 3) S.2.2.2.2 inlX3 (S.2.2.2.2 (.instantiable RX3 3) (List.mem_of_getElem? (i := 30) rfl))
  obtain ⟨c4, i4, hKn4⟩ := u_known (C := RX4) (T := TX4) (N := 6) (n := 6) S.2.2.2.2 inlX4 (S.2.2.2.2 (.instantiable RX4 6) (List.mem_of_getElem? (i := 20) rfl))
  obtain ⟨c5, i5, hKn5⟩ := u_known (C := RX5) (T := TX5) (N := 11) (n := 11) S.2.2.2.2 inlX5 (S.2.2.2.2 (.instantiable RX5 11) (List.mem_of_getElem? (i := 1) rfl))
  obtain ⟨c6, i6, hKn6⟩ := u_known (C := RX6) (T := TX6) (N := 23) (n := 23) S.2.2.2.2 inlX6 (S.2.2.2.2 (.instantiable RX6 23) (List.mem_of_getElem? (i := 4) rfl))
  obtain ⟨D, hKc⟩ : ∃ D : va_G, ∀ (k : Nat) (q : vw_C), vwCl[k]? = some q → u_Kn s q.1 q.2.1 q.2.2 (D.1 k) (D.2 k) := by
    refine ⟨(fun k => if k = 0 then c0 else if k = 1 then c1 else if k = 2 then c2 else if k = 3 then c3 else if k = 4 then c4 else if k = 5 then c5 else c6, fun k => if k = 0 then i0 else if k = 1 then i1 else if k = 2 then i2 else if k = 3 then i3 else if k = 4 then i4 else if k = 5 then i5 else i6), ?_⟩
    exact mul7 (P := fun (k : Nat) (q : vw_C) => u_Kn s q.1 q.2.1 q.2.2 (if k = 0 then c0 else if k = 1 then c1 else if k = 2 then c2 else if k = 3 then c3 else if k = 4 then c4 else if k = 5 then c5 else c6) (if k = 0 then i0 else if k = 1 then i1 else if k = 2 then i2 else if k = 3 then i3 else if k = 4 then i4 else if k = 5 then i5 else i6)) hKn0 hKn1 hKn2 hKn3 hKn4 hKn5 hKn6
  obtain ⟨cC, aC⟩ := arr_known (fun C h => by cases h) (S.2.2.2.2 (.arrayClass .char) (List.mem_of_getElem? (i := 12) rfl))
  obtain ⟨cI, aI⟩ := arr_known (fun C h => by cases h) (S.2.2.2.2 (.arrayClass .int) (List.mem_of_getElem? (i := 42) rfl))
  obtain ⟨cJ, aJ⟩ := arr_known (fun C h => by cases h) (S.2.2.2.2 (.arrayClass .long) (List.mem_of_getElem? (i := 64) rfl))
  have hK : KK D (tyK cC cI cJ) s := by
    refine ⟨⟨hKc, fun k q hq => ?_⟩, fun q hq => va_Nw.of rfl (hts _ (nest_in q hq))⟩
    match k, hq with
    | 0, hq => cases hq; exact aC
    | 1, hq => cases hq; exact aI
    | 2, hq => cases hq; exact aJ
    | k + 3, hq => simp at hq
  obtain ⟨qs, qb, hR0, hSX⟩ := lit_known (A := (fun q : Nat => s.heap.size ≤ q)) hts hgv (fun a ha => Nat.not_le.mpr ha)
  obtain ⟨cr, hcr, hcr4, hmr⟩ := start_class
  obtain ⟨td, ss, dr, hmd, htd, hss⟩ := start_model
  obtain ⟨left, hlf, hleft⟩ := xX3_clear (N := 300) (by decide) (fun _ => 0)
  have hl := lv_entry ([.ref b]) (n := 4) (Nat.le_of_ble_eq_true rfl)
  rw [lg_entry_eq]
  generalize (lg_sl ([.ref b]) ++ List.replicate (4 - (lg_sl ([.ref b])).length) Slot.unset).toArray = ls at hl ⊢
  have hl : lv_has ls 4 [(0, .ref b)] := hl
  refine W.eq (g2 := F0 m 0 ls []) rfl ?_
  have hw : Wd D (fun q : Nat => s.heap.size ≤ q) s.heap [] s.heap [] := Wd.nil
  refine f_new S hK hw hA inlX5 tyX5_ok (List.mem_of_getElem? (i := 0) rfl) (List.mem_of_getElem? (i := 1) rfl) (List.mem_of_getElem? (i := 2) rfl) (ci := 5) rfl [.null, .int 0, .null, .null, .null, .null, .null, .null, .null, .null, .null] (by decide) ⟨by show _ ≤ 600000; omega, by show _ ≤ 7302250; omega⟩ dL_law_0 (fun x H hw => ?_)
  have hw : Wd D (fun q : Nat => s.heap.size ≤ q) s.heap [(x, .inr (5, [.null, .int 0, .null, .null, .null, .null, .null, .null, .null, .null, .null]))] H [] := hw
  refine lv_dup hx hb dL_law_3 rfl ?_
  refine k_nIX (wr := []) (X := xLit (va_A [(x, .inr (5, [.null, .int 0, .null, .null, .null, .null, .null, .null, .null, .null, .null]))] H.size) qs qb) (B := fun H1 => ∃ tx mo m1 m2 m3 m4 m5 m6 m7 m8 m9 sp n1 n2 n3 n4 n5 n6 n7 n8 n9 no tr un uh ke kh se sl us ul sr kn ro : Nat, va_P D vwCl (wX5 cC cI cJ x tx mo m1 m2 m3 m4 m5 m6 m7 m8 m9 sp n1 n2 n3 n4 n5 n6 n7 n8 n9 no tr un uh ke kh se sl us ul sr kn ro cr left) H1 ∧ va_D (va_A [(x, .inr (5, [.null, .int 0, .null, .null, .null, .null, .null, .null, .null, .null, .null]))] H.size) (wX5 cC cI cJ x tx mo m1 m2 m3 m4 m5 m6 m7 m8 m9 sp n1 n2 n3 n4 n5 n6 n7 n8 n9 no tr un uh ke kh se sl us ul sr kn ro cr left)) S hK hw hA (bytes := cX5_init) (n := 0) (C := RX5) ⟨⟨_, rfl⟩, rfl, by decide +kernel, by decide +kernel, by decide +kernel⟩ rfl gL_law_X5_init (List.mem_of_getElem? (i := 2) rfl) (List.mem_of_getElem? (i := 6) rfl) (List.mem_of_getElem? (i := 7) rfl) xLit.blind (fun U hU hW => ⟨hR0.warm hW, ?_⟩) (c_X5_init l D cC cI cJ x qs qb cr left hcr hlf H.size) ⟨rfl, rfl⟩ ⟨by show 100 + 1 ≤ 2048; omega, by show 8 + (2 + 11) + 6000 ≤ 84000; omega⟩ [0] [] rfl (by decide) rfl (by decide) (by decide) rfl hl.1 rfl (Nat.le_of_ble_eq_true rfl) dL_law_4 ⟨by show _ ≤ 600000; omega, by show _ ≤ 7302250; omega⟩ (fun H locs hB hJ => ?_)
  · rw [hU]
    exact ((hSX.kept hw.2.2.2.1).narrow (va_free (wc := [(x, .inr (5, [.null, .int 0, .null, .null, .null, .null, .null, .null, .null, .null, .null]))]) hw.2.1 hw.2.2 hA [0] rfl)).moved hW.alike
  obtain ⟨tx, mo, m1, m2, m3, m4, m5, m6, m7, m8, m9, sp, n1, n2, n3, n4, n5, n6, n7, n8, n9, no, tr, un, uh, ke, kh, se, sl, us, ul, sr, kn, ro, hP1, hD1⟩ := hB
  have hw := hJ _ hP1 hD1
  have hw : Wd D (fun q : Nat => s.heap.size ≤ q) s.heap (wX5 cC cI cJ x tx mo m1 m2 m3 m4 m5 m6 m7 m8 m9 sp n1 n2 n3 n4 n5 n6 n7 n8 n9 no tr un uh ke kh se sl us ul sr kn ro cr left) H locs := hw
  refine lv_astore_n (lv' := [(1, .ref x), (0, .ref b)]) hx hb dL_law_7 rfl hl (by decide) rfl (fun ls hl => ?_)
  refine f_new S hK hw hA inlX6 tyX6_ok (List.mem_of_getElem? (i := 3) rfl) (List.mem_of_getElem? (i := 4) rfl) (List.mem_of_getElem? (i := 5) rfl) (ci := 6) rfl [.null, .int 0, .null, .null, .null, .null, .int 0, .null, .int 0, .null, .int 0, .int 0, .null, .null, .null, .null, .null, .null, .int 0, .null, .int 0, .int 0, .null] (by decide) ⟨by show _ ≤ 600000; omega, by show _ ≤ 7302250; omega⟩ dL_law_8 (fun y H hw => ?_)
  refine lv_dup hx hb dL_law_11 rfl ?_
  refine k_nI (wr := (wX5 cC cI cJ x tx mo m1 m2 m3 m4 m5 m6 m7 m8 m9 sp n1 n2 n3 n4 n5 n6 n7 n8 n9 no tr un uh ke kh se sl us ul sr kn ro cr left)) S hK hw hA (bytes := cX6_init) (n := 0) (C := RX6) ⟨⟨_, rfl⟩, rfl, by decide +kernel, by decide +kernel, by decide +kernel⟩ rfl gL_law_X6_init (List.mem_of_getElem? (i := 5) rfl) (List.mem_of_getElem? (i := 204) rfl) (List.mem_of_getElem? (i := 205) rfl) (c_X6_init l D cC cI cJ y td ss dr hmd) ⟨rfl, rfl⟩ ⟨by show 10 + 1 ≤ 2048; omega, by show 8 + (1 + 11) + 1000 ≤ 84000; omega⟩ [35] [0, 1, 2, 3, 4, 5, 6, 7, 8, 9, 10, 11, 12, 13, 14, 15, 16, 17, 18, 19, 20, 21, 22, 23, 24, 25, 26, 27, 28, 29, 30, 31, 32, 33, 34] rfl (by decide) rfl (by decide) (by decide) rfl hl.1 rfl (Nat.le_of_ble_eq_true rfl) dL_law_12 ⟨by show _ ≤ 600000; omega, by show _ ≤ 7302250; omega⟩ (fun H locs hB hJ => ?_)
  obtain ⟨q1, q2, q3, q4, q5, q6, q7, q8, q9, q10, q11, q12, q13, q14, q15, hP1, hD1⟩ := hB
  have hw := hJ _ hP1 hD1
  have hw : Wd D (fun q : Nat => s.heap.size ≤ q) s.heap (wdL cC cI cJ x y tx mo m1 m2 m3 m4 m5 m6 m7 m8 m9 sp n1 n2 n3 n4 n5 n6 n7 n8 n9 no tr un uh ke kh se sl us ul sr kn ro mo us q1 q2 q3 q4 q5 q6 q7 q8 q9 q10 q11 q12 q13 q14 q15 0 (fun _ => 0) cr.2.1 cr.2.2.1 cr.2.2.2.1 cr.2.2.2.2.1 cr.2.2.2.2.2.1 cr.2.2.2.2.2.2.1 cr.2.2.2.2.2.2.2.1 cr.2.2.2.2.2.2.2.2.1 cr.2.2.2.2.2.2.2.2.2.1 cr.2.2.2.2.2.2.2.2.2.2.1 cr.2.2.2.2.2.2.2.2.2.2.2.1 cr.2.2.2.2.2.2.2.2.2.2.2.2.1 cr.2.2.2.2.2.2.2.2.2.2.2.2.2.1 cr.2.2.2.2.2.2.2.2.2.2.2.2.2.2 0 0 0 0 0 (fun _ => 0) (fun _ => 0) (fun _ => 0) (fun _ => 0) (fun _ => 0) (fun _ => 0) (fun _ => 0) (fun _ => 0) (fun _ => 0) cr.2.2.2.1 0 0 0 cr.2.2.2.2.1 0 0 0 0 0 0 0 0 (fun _ => 0) 0 (fun _ => 0) 0 0 left 0 0 left 0 0 0 (fun _ => 0) 0 0 0 0 0 0 0 0 0 0 0 0 0 0 (fun _ => 0) td dr ss (fun _ => 0) (fun _ => 0) (fun _ => 0) (fun _ => 0) (fun _ => 0) (fun _ => 0) (fun _ => 0) (fun _ => 0) (fun _ => 0) (fun _ => 0) (fun _ => 0)) H locs := hw
  refine lv_astore_n (lv' := [(2, .ref y), (1, .ref x), (0, .ref b)]) hx hb dL_law_15 rfl hl (by decide) rfl (fun ls hl => ?_)
  refine lv_iconst (v := 0) hx hb dL_law_16 (by decide) ?_
  refine lv_istore_n (lv' := [(3, .int 0), (2, .ref y), (1, .ref x), (0, .ref b)]) hx hb dL_law_17 rfl hl (by decide) rfl (fun ls hl => ?_)
  have hI : LInv 0 D cC cI cJ (fun q : Nat => s.heap.size ≤ q) s.heap x y H locs := fun P hP => hP tx mo m1 m2 m3 m4 m5 m6 m7 m8 m9 sp n1 n2 n3 n4 n5 n6 n7 n8 n9 no tr un uh ke kh se sl us ul sr kn ro mo us q1 q2 q3 q4 q5 q6 q7 q8 q9 q10 q11 q12 q13 q14 q15 0 (fun _ => 0) cr.2.1 cr.2.2.1 cr.2.2.2.1 cr.2.2.2.2.1 cr.2.2.2.2.2.1 cr.2.2.2.2.2.2.1 cr.2.2.2.2.2.2.2.1 cr.2.2.2.2.2.2.2.2.1 cr.2.2.2.2.2.2.2.2.2.1 cr.2.2.2.2.2.2.2.2.2.2.1 cr.2.2.2.2.2.2.2.2.2.2.2.1 cr.2.2.2.2.2.2.2.2.2.2.2.2.1 cr.2.2.2.2.2.2.2.2.2.2.2.2.2.1 cr.2.2.2.2.2.2.2.2.2.2.2.2.2.2 0 0 0 0 0 (fun _ => 0) (fun _ => 0) (fun _ => 0) (fun _ => 0) (fun _ => 0) (fun _ => 0) (fun _ => 0) (fun _ => 0) (fun _ => 0) cr.2.2.2.1 0 0 0 cr.2.2.2.2.1 0 0 0 0 0 0 0 0 (fun _ => 0) 0 (fun _ => 0) 0 0 left 0 0 left 0 0 0 (fun _ => 0) 0 0 0 0 0 0 0 0 0 0 0 0 0 0 (fun _ => 0) td dr ss (fun _ => 0) (fun _ => 0) (fun _ => 0) (fun _ => 0) (fun _ => 0) (fun _ => 0) (fun _ => 0) (fun _ => 0) (fun _ => 0) (fun _ => 0) (fun _ => 0) hw ⟨0, Nat.zero_le _, rfl, rfl, fun i hi => absurd hi (Nat.not_lt_zero i)⟩ ft0 ⟨ft0_wf, hmr, htd⟩ ⟨vfirst ft0, start_sov, ⟨hmr.2.2.1, rfl, rfl, rfl, hmr.2.2.2.1, rfl⟩, hss⟩ ⟨fun _ _ => 0, 0, PlI.zero⟩ ⟨fun _ _ => 0, 0, PlI.zero⟩ ⟨fun _ => (0, 0), 0, SeI.zero hleft⟩ ⟨rfl, hleft⟩ Mem.zero
  exact law_loop S hr hlocks hK hX hbl hbA ⟨by omega, by omega⟩ hL 64 0 0 H locs ls (by omega) (by omega) (by omega) hI hl
-- ===== YOUR PART ENDS =====
