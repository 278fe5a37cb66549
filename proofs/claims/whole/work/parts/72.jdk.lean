/-! String.toCharArray of a text of one byte a letter -/
theorem cell_congr {cA : ClassId} {n : Nat} {f g : Nat → Int32} (h : ∀ j, j < n → f j = g j) : vp_cell cA (n, .inl f) = vp_cell cA (n, .inl g) := by
  have e : (fun j : Fin n => Value.int (f j.val)) = fun j : Fin n => Value.int (g j.val) := by
    funext j
    rw [h j.val j.isLt]
  show ({ cls := cA, slots := Array.ofFn (n := n) fun j => Value.int (f j.val), vm := .none } : Cell) = { cls := cA, slots := Array.ofFn (n := n) fun j => Value.int (g j.val), vm := .none }
  rw [e]
theorem row_congr {D : va_G} {q : Nat} {cA : ClassId} {n : Nat} {f g : Nat → Int32} {H : Heap} (h : ∀ j, j < n → f j = g j) (hP : va_P D vwCl [(q, .inl (cA, n, .inl f))] H) : va_P D vwCl [(q, .inl (cA, n, .inl g))] H := by
  intro k x hx
  have hk : k < 1 := (List.getElem?_eq_some_iff.mp hx).1
  obtain rfl : k = 0 := by omega
  cases hx
  have h0 : H[q]? = some (vp_cell cA (n, .inl f)) := hP 0 _ rfl
  show H[q]? = some (vp_cell cA (n, .inl g))
  rw [← cell_congr h]
  exact h0
theorem va_D1 {q : Nat} {e : va_E} : va_D (aw [(q, e)]) [(q, e)] := ⟨fun i j p r hi hj _ => by
  have h1 : i < 1 := (List.getElem?_eq_some_iff.mp hi).1
  have h2 : j < 1 := (List.getElem?_eq_some_iff.mp hj).1
  omega, fun k x hk => List.mem_map.mpr ⟨x, List.mem_of_getElem? hk, rfl⟩⟩
theorem KX.blind {D : va_G} {T : List (ClassId × FieldType)} {As : List Value} {X : State → Prop} (hX : ∀ U V : State, U.vm.Alike V.vm → V.heap = U.heap → X U → X V) : FrameBlind (va_Pc As (fun U => KK D T U ∧ X U)) := fun a U g mk h => ⟨h.1, ⟨va_K.moved (u := U) (U := U.calling g mk a) (Vm.Alike.refl U.vm) h.2.1.1, fun q hq => va_Nw.same rfl (u := U) (U := U.calling g mk a) rfl (h.2.1.2 q hq)⟩, hX U (U.calling g mk a) (Vm.Alike.refl U.vm) rfl h.2.2⟩
theorem enterX {l : Launch} {y : MethodName} {ws ws' : List Cond} {rm : Room} {D : va_G} {T : List (ClassId × FieldType)} {As : List Value} {X : State → Prop} {Qc : Array Value → State → Outcome → State → Prop} {free : Addr → Prop} {mc ms : Nat} {cc : ByteArray} {maxL : Nat} {ret : Option FieldType} {lv : List (Nat × Value)} (hy : plainName y.cls = true) (hw : ws = Cond.code y cc maxL ret :: ws') (hlen : (lg_sl As).length ≤ maxL) (hlv : lv_args 0 As = lv)
    (body : ∀ (p : Program) (e : Env) (s : State) (m : MethodId) (args : Array Value) (below : List Frame) (meth : Method) (c : Code), CallFix p m c cc maxL s args ws y.cls → meth.sig.returnType = ret → meth.locks = false → KK D T s → X s → ∀ ls : Array Slot, lv_has ls maxL lv → W p l e rm s m args below meth c s.heap [] 0 0 (MQ below Qc args s mc ms free) (F0 m 0 ls [])) : Met l y ws rm (va_Pc As (fun U => KK D T U ∧ X U)) Qc mc ms free := by
  refine Met.ofW (cc := cc) (maxL := maxL) (ret := ret) hy hw ?_
  intro p e s m args below meth c s₁ B hml hv
  obtain ⟨rfl, hK, hX⟩ := hv
  have hown : s.vm.findClass y.cls = some m.cls := findClass_of_methodNamed B.named
  have hl := lv_entry As (n := maxL) hlen
  rw [lg_entry_eq]
  generalize (lg_sl As ++ List.replicate (maxL - (lg_sl As).length) Slot.unset).toArray = ls at hl ⊢
  rw [hlv] at hl
  exact body p e s m _ below meth c ⟨B.exec, B.bytes, hml, hown, atoms_spec (ws := ws) B.pre⟩ B.returns B.notSynchronized hK hX ls hl
def xInf (D : va_G) (cC : ClassId) (b q n : Nat) (bt f : Nat → Int32) : State → Prop := fun U => va_P D vwCl [(q, .inl (cC, n, .inl f))] U.heap ∧ va_T .byte b n (fun j => .int (bt j)) (aw [(q, .inl (cC, n, .inl f))]) U U.heap
abbrev rJ1_inflate : Room := { frames := 0, cells := 0, slots := 0, locals := 0 }
set_option maxHeartbeats 4000000 in
set_option maxRecDepth 100000 in
theorem c_J1_inflate (l : Launch) (D : va_G) (cC cI cJ : ClassId) (b q n : Nat) (bt h f : Nat → Int32) (hn : n < 2 ^ 20) (hh : ∀ j, j < n → vp_nar .char ((bt j &&& 255).toUInt32 % 65536).toInt32 = h j) : Met l yJ1_inflate_03870 wsJ1_inflate_03870 rJ1_inflate (va_Pc [.ref b, .int 0, .ref q, .int 0, .int (nI n)] (fun U => KK D (tyK cC cI cJ) U ∧ xInf D cC b q n bt f U)) (va_Qv (fun (_ : Unit) => True) (fun _ t => va_P D vwCl [(q, .inl (cC, n, .inl h))] t.heap) (aw [(q, .inl (cC, n, .inl f))])) 0 0 (aw [(q, .inl (cC, n, .inl f))]) := by
  refine enterX (cc := cJ1_inflate_03870) (maxL := 6) (ret := none) (lv := [(0, .ref b), (1, .int 0), (2, .ref q), (3, .int 0), (4, .int (nI n))]) (by decide) rfl (Nat.le_of_ble_eq_true rfl) rfl ?_
  intro p e s m args below meth c S hr hlk hK hX ls hl
  replace S : CallFix p m c cJ1_inflate_03870 6 s args wsJ1_inflate_03870 RJ1 := S
  have hx := S.1
  have hb := S.2.1
  obtain ⟨hP0, hT⟩ := hX
  have hw0 : Wd D (aw [(q, .inl (cC, n, .inl f))]) s.heap [(q, .inl (cC, n, .inl f))] s.heap [] := ⟨hP0, va_D1, va_S.rf⟩
  generalize hAe : aw [(q, .inl (cC, n, .inl f))] = A at hw0 hT ⊢
  have loop : ∀ (m' k : Nat) (g : Nat → Int32) (H : Heap) (locs : List Loc) (ls : Array Slot), k + m' = n → (∀ j, j < k → g j = h j) → Wd D A s.heap [(q, .inl (cC, n, .inl g))] H locs → lv_has ls 6 [(0, .ref b), (1, .int (nI k)), (2, .ref q), (3, .int (nI k)), (4, .int (nI n)), (5, .int (nI k))] → W p l e rJ1_inflate s m args below meth c H locs 0 0 (MQ below (va_Qv (fun (_ : Unit) => True) (fun _ t => va_P D vwCl [(q, .inl (cC, n, .inl h))] t.heap) A) args s 0 0 A) (F0 m 3 ls []) := by
    intro m'
    induction m' with
    | zero =>
      intro k g H locs ls hk hg hw hl
      refine lv_iload hx hb dJ1_inflate_03870_3 (lv_at hl 5 rfl) ?_
      refine lv_iload hx hb dJ1_inflate_03870_5 (lv_at hl 4 rfl) ?_
      refine lv_icmp_ge (tgt := 33) hx hb dJ1_inflate_03870_7 (by decide) (fun c1 => ?_) (fun c1 => ?_)
      · exact e_WV (B := fun H => va_P D vwCl [(q, .inl (cC, n, .inl h))] H) S hr hlk hw (row_congr (fun j hj => hg j (by omega)) hw.1) dJ1_inflate_03870_33
      · exact absurd (nI_le (by omega) (by omega)) c1
    | succ m' ih =>
      intro k g H locs ls hk hg hw hl
      refine lv_iload hx hb dJ1_inflate_03870_3 (lv_at hl 5 rfl) ?_
      refine lv_iload hx hb dJ1_inflate_03870_5 (lv_at hl 4 rfl) ?_
      refine lv_icmp_ge (tgt := 33) hx hb dJ1_inflate_03870_7 (by decide) (fun c1 => ?_) (fun c1 => ?_)
      · exact absurd c1 (nI_ge (by omega) (by omega))
      · refine lv_aload_n hx hb dJ1_inflate_03870_10 rfl (lv_at hl 2 rfl) ?_
        refine lv_iload_n hx hb dJ1_inflate_03870_11 rfl (lv_at hl 3 rfl) ?_
        refine lv_iinc (v := nI (k + 1)) (lv' := [(3, .int (nI (k + 1))), (0, .ref b), (1, .int (nI k)), (2, .ref q), (4, .int (nI n)), (5, .int (nI k))]) hx hb dJ1_inflate_03870_12 hl (k := 3) rfl (by rw [ofi_1, nI_1]) (by decide) rfl (fun ls hl => ?_)
        refine lv_aload_n hx hb dJ1_inflate_03870_15 rfl (lv_at hl 1 rfl) ?_
        refine lv_iload_n hx hb dJ1_inflate_03870_16 rfl (lv_at hl 2 rfl) ?_
        refine lv_iinc (v := nI (k + 1)) (lv' := [(1, .int (nI (k + 1))), (3, .int (nI (k + 1))), (0, .ref b), (2, .ref q), (4, .int (nI n)), (5, .int (nI k))]) hx hb dJ1_inflate_03870_17 hl (k := 2) rfl (by rw [ofi_1, nI_1]) (by decide) rfl (fun ls hl => ?_)
        refine va_tb hx hb hT hw.2.2 (vp_in_iff.mpr (j_in (by omega) (by omega))) (v := .int (bt k)) (by show Value.int (bt (nI k).toNatClampNeg) = _; rw [j_clamp (by omega)]) dJ1_inflate_03870_20 ?_
        refine lv_sipush (v := 255) hx hb dJ1_inflate_03870_21 (by decide) ?_
        refine lv_iand hx hb dJ1_inflate_03870_24 ?_
        refine lv_i2c (v := ((bt k &&& 255).toUInt32 % 65536).toInt32) hx hb dJ1_inflate_03870_25 rfl ?_
        refine f_cast S hK hw 0 0 rfl rfl (j_in (by omega) (by omega)) (ws1 := [(q, .inl (cC, n, .inl (upd g k (h k))))]) (by rw [j_clamp (by omega), hh k (by omega)]; rfl) dJ1_inflate_03870_26 (fun H locs hw => ?_)
        refine lv_iinc (v := nI (k + 1)) (lv' := [(5, .int (nI (k + 1))), (1, .int (nI (k + 1))), (3, .int (nI (k + 1))), (0, .ref b), (2, .ref q), (4, .int (nI n))]) hx hb dJ1_inflate_03870_27 hl (k := 5) rfl (by rw [ofi_1, nI_1]) (by decide) rfl (fun ls hl => ?_)
        refine lv_goto (tgt := 3) hx hb dJ1_inflate_03870_30 (by decide) ?_
        refine ih (k + 1) (upd g k (h k)) H locs ls (by omega) (fun j hj => ?_) hw (lv_sub hl [3, 1, 4, 2, 5, 0] rfl)
        by_cases z : j = k
        · subst z; rw [pk_us]
        · rw [pk_un z]; exact hg j (by omega)
  refine lv_iconst (v := 0) hx hb dJ1_inflate_03870_0 (by decide) ?_
  refine lv_istore (lv' := [(5, .int 0), (0, .ref b), (1, .int 0), (2, .ref q), (3, .int 0), (4, .int (nI n))]) hx hb dJ1_inflate_03870_1 hl (by decide) rfl (fun ls hl => ?_)
  exact loop n 0 f s.heap [] ls (by omega) (fun j hj => by omega) hw0 (lv_sub hl [1, 2, 3, 4, 5, 0] rfl)
theorem xInf.blind {D : va_G} {cC : ClassId} {b q n : Nat} {bt f : Nat → Int32} {T : List (ClassId × FieldType)} {As : List Value} : FrameBlind (va_Pc As (fun U => KK D T U ∧ xInf D cC b q n bt f U)) := KX.blind fun U V hvm hh h => by
  have h2 := h.2.moved hvm
  rw [← hh] at h2
  exact ⟨by rw [hh]; exact h.1, h2⟩
def xTC (b n sz : Nat) (bt : Nat → Int32) : State → Prop := fun U => U.heap.size = sz ∧ va_T .byte b n (fun j => .int (bt j)) (fun x => sz ≤ x) U U.heap
theorem xTC.blind {D : va_G} {b n sz : Nat} {bt : Nat → Int32} {T : List (ClassId × FieldType)} {As : List Value} : FrameBlind (va_Pc As (fun U => KK D T U ∧ xTC b n sz bt U)) := KX.blind fun U V hvm hh h => by
  have h2 := h.2.moved hvm
  rw [← hh] at h2
  exact ⟨by rw [hh]; exact h.1, h2⟩
abbrev rJ1_toChars (n : Nat) : Room := { frames := 3, cells := 1, slots := n, locals := 200 }
theorem Wd.nil {D : va_G} {A : Nat → Prop} {H : Heap} : Wd D A H [] H [] := ⟨fun k q h => by simp at h, ⟨fun i j p q h => by simp at h, fun k q h => by simp at h⟩, va_S.rf⟩
set_option maxHeartbeats 4000000 in
set_option maxRecDepth 100000 in
theorem c_J1_toChars (l : Launch) (D : va_G) (cC cI cJ : ClassId) (b n : Nat) (bt h : Nat → Int32) (hn : n ≤ 1000) (hh : ∀ j, j < n → vp_nar .char ((bt j &&& 255).toUInt32 % 65536).toInt32 = h j) (sz : Nat) : Met l yJ1_toChars_9d188 wsJ1_toChars_9d188 (rJ1_toChars n) (va_Pc [.ref b] (fun U => KK D (tyK cC cI cJ) U ∧ xTC b n sz bt U)) (va_Qr (fun (_ : Unit) => True) (fun _ q t => sz ≤ q ∧ va_P D vwCl [(q, .inl (cC, n, .inl h))] t.heap) (fun x => sz ≤ x)) 1 n (fun x => sz ≤ x) := by
  refine enterX (cc := cJ1_toChars_9d188) (maxL := 2) (ret := some (.array .char)) (lv := [(0, .ref b)]) (by decide) rfl (Nat.le_of_ble_eq_true rfl) rfl ?_
  intro p e s m args below meth c S hr hlk hK hX ls hl
  replace S : CallFix p m c cJ1_toChars_9d188 2 s args wsJ1_toChars_9d188 RJ1 := S
  have hx := S.1
  have hb := S.2.1
  obtain ⟨hsz, hT⟩ := hX
  subst hsz
  have hw : Wd D (fun x => s.heap.size ≤ x) s.heap [] s.heap [] := Wd.nil
  have hA : ∀ q : Nat, s.heap.size ≤ q → (fun x : Nat => s.heap.size ≤ x) q := fun _ h => h
  generalize hAe : (fun x : Nat => s.heap.size ≤ x) = A at hw hT hA ⊢
  have hAr : ∀ q : Nat, A q → s.heap.size ≤ q := fun q hq => by rw [← hAe] at hq; exact hq
  refine lv_aload_n hx hb dJ1_toChars_9d188_0 rfl (lv_at hl 0 rfl) ?_
  refine va_tlen hx hb hT hw.2.2 (v := nI n) rfl dJ1_toChars_9d188_1 ?_
  refine f_newa (ty := .char) S hK hw hA rfl (fun C h => by cases h) (List.mem_of_getElem? (i := 1) rfl) 0 rfl n (a0 := (n, .inl (fun _ => 0))) (fun _ => rfl) (nI_pos (by omega)) (nI_clamp (by omega)) (by rw [cbC]; omega) ⟨Nat.le_of_ble_eq_true rfl, by show 0 + n ≤ n; omega⟩ dJ1_toChars_9d188_2 (fun q H hw => ?_)
  have hw : Wd D A s.heap [(q, .inl (cC, n, .inl (fun _ => 0)))] H [] := hw
  have hqA : A q := hw.2.1.2 0 _ rfl
  refine lv_astore_n (lv' := [(1, .ref q), (0, .ref b)]) hx hb dJ1_toChars_9d188_4 rfl hl (by decide) rfl (fun ls hl => ?_)
  refine lv_aload_n hx hb dJ1_toChars_9d188_5 rfl (lv_at hl 1 rfl) ?_
  refine lv_iconst (v := 0) hx hb dJ1_toChars_9d188_6 (by decide) ?_
  refine lv_aload_n hx hb dJ1_toChars_9d188_7 rfl (lv_at hl 0 rfl) ?_
  refine lv_iconst (v := 0) hx hb dJ1_toChars_9d188_8 (by decide) ?_
  refine lv_aload_n hx hb dJ1_toChars_9d188_9 rfl (lv_at hl 1 rfl) ?_
  refine va_tlen hx hb hT hw.2.2 (v := nI n) rfl dJ1_toChars_9d188_10 ?_
  have haw : ∀ x, aw [(q, .inl (cC, n, .inl (fun _ => (0 : Int32))))] x → A x := fun x hx => by
    obtain ⟨z, hz, e⟩ := List.mem_map.mp hx
    obtain rfl := List.mem_singleton.mp hz
    rw [← e]; exact hqA
  refine va_callv (va_runS (As := [.ref b, .int 0, .ref q, .int 0, .int (nI n)]) (rest := []) S (c_J1_inflate l D cC cI cJ b q n bt h (fun _ => 0) (by omega) hh) (va_cwS 5 S.2.2.2.2 gJ1_toChars_9d188_J1_inflate_03870 rfl rfl rfl ⟨by decide +kernel, by decide +kernel, by decide +kernel⟩ ⟨Nat.le_of_ble_eq_true rfl, Nat.le_of_ble_eq_true rfl⟩) ⟨xInf.blind, fun U hU hW => ⟨rfl, hK.warm hW, by rw [hU]; exact hw.1, by rw [hU]; exact ((hT.kept hw.2.2.2.1).narrow haw).moved hW.alike⟩⟩ rfl rfl hl.1 rfl (lv_room (Nat.le_of_ble_eq_true rfl)) dJ1_toChars_9d188_11 ⟨Nat.le_of_ble_eq_true rfl, by show 0 + n + 0 ≤ n; omega⟩) hw.2.2 (fun q _ h => haw q h) haw (fun u t H1 locs1 ht hvm hr1 hB hz hk hS => ?_)
  rw [ht] at hB
  refine lv_aload_n hx hb dJ1_toChars_9d188_14 rfl (lv_at hl 0 rfl) ?_
  refine W.widen (k := 1) (n := n) (by omega) (by omega) ?_
  exact W.aret hx hb hr (Or.inr ⟨_, rfl⟩) (Or.inr ⟨_, rfl⟩) (fun t ht _ => ⟨⟨(), q, rfl, trivial, hAr q hqA, by rw [ht]; exact hB⟩, hS.F ht⟩) hS.2.2 dJ1_toChars_9d188_15 hlk
/-- what is known of a text and of the way texts are kept -/
def SX (A : Nat → Prop) (q b n : Nat) (bt : Nat → Int32) (U : State) (H : Heap) : Prop := va_Z "java/lang/String" "COMPACT_STRINGS" "Z" (.int 1) A U H ∧ va_O "java/lang/String" q A U H ∧ va_OF "java/lang/String" "coder" "B" (.int 0) q A U H ∧ va_OF "java/lang/String" "value" "[B" (.ref b) q A U H ∧ va_T .byte b n (fun j => .int (bt j)) A U H
theorem SX.moved {A : Nat → Prop} {q b n : Nat} {bt : Nat → Int32} {u U : State} {H : Heap} (hvm : u.vm.Alike U.vm) (h : SX A q b n bt u H) : SX A q b n bt U H := ⟨h.1.moved hvm, h.2.1.moved hvm, h.2.2.1.moved hvm, h.2.2.2.1.moved hvm, h.2.2.2.2.moved hvm⟩
theorem SX.kept {A : Nat → Prop} {q b n : Nat} {bt : Nat → Int32} {U : State} {H H1 : Heap} (h : SX A q b n bt U H) (hq : ∀ a : Nat, a < H.size → ¬ A a → H1[a]? = H[a]?) : SX A q b n bt U H1 := ⟨h.1.kept hq, h.2.1.kept hq, h.2.2.1.kept hq, h.2.2.2.1.kept hq, h.2.2.2.2.kept hq⟩
theorem SX.narrow {A B : Nat → Prop} {q b n : Nat} {bt : Nat → Int32} {U : State} {H : Heap} (h : SX A q b n bt U H) (hAB : ∀ x, B x → A x) : SX B q b n bt U H := ⟨h.1.narrow hAB, h.2.1.narrow hAB, h.2.2.1.narrow hAB, h.2.2.2.1.narrow hAB, h.2.2.2.2.narrow hAB⟩
def xSX (A : Nat → Prop) (q b n : Nat) (bt : Nat → Int32) : State → Prop := fun U => SX A q b n bt U U.heap
theorem xSX.blind {D : va_G} {A : Nat → Prop} {q b n : Nat} {bt : Nat → Int32} {T : List (ClassId × FieldType)} {As : List Value} : FrameBlind (va_Pc As (fun U => KK D T U ∧ xSX A q b n bt U)) := KX.blind fun U V hvm hh h => by
  have h2 := SX.moved hvm h
  rw [← hh] at h2
  exact h2
abbrev rJ0_isLatin1 : Room := { frames := 0, cells := 0, slots := 0, locals := 0 }
set_option maxHeartbeats 4000000 in
set_option maxRecDepth 100000 in
theorem c_J0_isLatin1 (l : Launch) (D : va_G) (cC cI cJ : ClassId) (A : Nat → Prop) (q b n : Nat) (bt : Nat → Int32) : Met l yJ0_isLatin1_aae02 wsJ0_isLatin1_aae02 rJ0_isLatin1 (va_Pc [.ref q] (fun U => KK D (tyK cC cI cJ) U ∧ xSX A q b n bt U)) (vp_Si (fun x => x = 1)) 0 0 (fun _ => False) := by
  refine enterX (cc := cJ0_isLatin1_aae02) (maxL := 1) (ret := some .boolean) (lv := [(0, .ref q)]) (by decide) rfl (Nat.le_of_ble_eq_true rfl) rfl ?_
  intro p e s m args below meth c S hr hlk hK hX ls hl
  replace S : CallFix p m c cJ0_isLatin1_aae02 1 s args wsJ0_isLatin1_aae02 RJ0 := S
  have hx := S.1
  have hb := S.2.1
  have hS : va_S A s.heap s.heap [] := va_S.rf
  refine va_gets hx hb hX.1 hS S.2.2.2.1 (S.2.2.2.2 _ (List.mem_of_getElem? (i := 1) rfl)) (fun _ h => h) dJ0_isLatin1_aae02_0 ?_
  refine lv_if_eq (tgt := 17) hx hb dJ0_isLatin1_aae02_3 (by decide) (fun c1 => absurd c1 (by decide)) (fun _ => ?_)
  refine lv_aload_n hx hb dJ0_isLatin1_aae02_6 rfl (lv_at hl 0 rfl) ?_
  refine vk_getf hx hb hX.2.2.1 hS S.2.2.2.1 (S.2.2.2.2 _ (List.mem_of_getElem? (i := 2) rfl)) (fun _ h => h) dJ0_isLatin1_aae02_7 ?_
  refine lv_if_ne (tgt := 17) hx hb dJ0_isLatin1_aae02_10 (by decide) (fun c1 => absurd rfl c1) (fun _ => ?_)
  refine lv_iconst (v := 1) hx hb dJ0_isLatin1_aae02_13 (by decide) ?_
  refine lv_goto (tgt := 18) hx hb dJ0_isLatin1_aae02_14 (by decide) ?_
  exact e_RZ S hr hlk (Or.inr rfl) rfl dJ0_isLatin1_aae02_18
def xTA (q b n sz : Nat) (bt : Nat → Int32) : State → Prop := fun U => U.heap.size = sz ∧ SX (fun x => sz ≤ x) q b n bt U U.heap
theorem xTA.blind {D : va_G} {q b n sz : Nat} {bt : Nat → Int32} {T : List (ClassId × FieldType)} {As : List Value} : FrameBlind (va_Pc As (fun U => KK D T U ∧ xTA q b n sz bt U)) := KX.blind fun U V hvm hh h => by
  have h2 := SX.moved hvm h.2
  rw [← hh] at h2
  exact ⟨by rw [hh]; exact h.1, h2⟩
abbrev rJ0_toCharArray (n : Nat) : Room := { frames := 6, cells := 1, slots := n, locals := 400 }
set_option maxHeartbeats 4000000 in
set_option maxRecDepth 100000 in
theorem c_J0_toCharArray (l : Launch) (D : va_G) (cC cI cJ : ClassId) (q b n : Nat) (bt h : Nat → Int32) (hn : n ≤ 1000) (hh : ∀ j, j < n → vp_nar .char ((bt j &&& 255).toUInt32 % 65536).toInt32 = h j) (sz : Nat) : Met l yJ0_toCharArray_70df3 wsJ0_toCharArray_70df3 (rJ0_toCharArray n) (va_Pc [.ref q] (fun U => KK D (tyK cC cI cJ) U ∧ xTA q b n sz bt U)) (va_Qr (fun (_ : Unit) => True) (fun _ q t => sz ≤ q ∧ va_P D vwCl [(q, .inl (cC, n, .inl h))] t.heap) (fun x => sz ≤ x)) 1 n (fun x => sz ≤ x) := by
  refine enterX (cc := cJ0_toCharArray_70df3) (maxL := 1) (ret := some (.array .char)) (lv := [(0, .ref q)]) (by decide) rfl (Nat.le_of_ble_eq_true rfl) rfl ?_
  intro p e s m args below meth c S hr hlk hK hX ls hl
  replace S : CallFix p m c cJ0_toCharArray_70df3 1 s args wsJ0_toCharArray_70df3 RJ0 := S
  have hx := S.1
  have hb := S.2.1
  obtain ⟨hsz, hX⟩ := hX
  subst hsz
  have hS : va_S (fun x => s.heap.size ≤ x) s.heap s.heap [] := va_S.rf
  obtain ⟨cell, o1, o2, o3, -⟩ := hX.2.1
  refine lv_aload_n hx hb dJ0_toCharArray_70df3_0 rfl (lv_at hl 0 rfl) ?_
  refine vp_callSi (W.runV (As := []) (rest := []) S (c_J0_isLatin1 l D cC cI cJ (fun x => s.heap.size ≤ x) q b n bt) (cwV 0 S.2.2.2.2 gJ0_toCharArray_70df3_J0_isLatin1_aae02 rfl rfl rfl ⟨rfl, by decide +kernel, by decide +kernel, by decide +kernel⟩ ⟨Nat.le_of_ble_eq_true rfl, Nat.le_of_ble_eq_true rfl⟩) ⟨xSX.blind, ⟨cell, o1, o2, o3⟩, fun U hU hW => ⟨rfl, hK.warm hW, by show SX _ q b n bt U U.heap; rw [hU]; exact hX.moved hW.alike⟩⟩ rfl rfl hl.1 rfl (lv_room (Nat.le_of_ble_eq_true rfl)) dJ0_toCharArray_70df3_1 ⟨Nat.zero_le _, Nat.zero_le _⟩) (fun r' hr' => ?_)
  subst hr'
  refine lv_if_eq (tgt := 17) hx hb dJ0_toCharArray_70df3_4 (by decide) (fun c1 => absurd c1 (by decide)) (fun _ => ?_)
  refine lv_aload_n hx hb dJ0_toCharArray_70df3_7 rfl (lv_at hl 0 rfl) ?_
  refine vk_getf hx hb hX.2.2.2.1 hS S.2.2.2.1 (S.2.2.2.2 _ (List.mem_of_getElem? (i := 1) rfl)) (fun _ h => h) dJ0_toCharArray_70df3_8 ?_
  refine va_callr (va_runS (As := [.ref b]) (rest := []) S (c_J1_toChars l D cC cI cJ b n bt h hn hh s.heap.size) (va_cwS 1 S.2.2.2.2 gJ0_toCharArray_70df3_J1_toChars_9d188 rfl rfl rfl ⟨by decide +kernel, by decide +kernel, by decide +kernel⟩ ⟨Nat.le_of_ble_eq_true rfl, Nat.le_of_ble_eq_true rfl⟩) ⟨xTC.blind, fun U hU hW => ⟨rfl, hK.warm hW, by rw [hU], by rw [hU]; exact hX.2.2.2.2.moved hW.alike⟩⟩ rfl rfl hl.1 rfl (lv_room (Nat.le_of_ble_eq_true rfl)) dJ0_toCharArray_70df3_11 ⟨Nat.le_of_ble_eq_true rfl, by show 0 + n ≤ n; omega⟩) hS (fun q _ h => h) (fun q h => h) (fun u ra t H1 locs1 ht hvm hr1 hB hz hk hS => ?_)
  rw [ht] at hB
  refine lv_goto (tgt := 24) hx hb dJ0_toCharArray_70df3_14 (by decide) ?_
  refine W.widen (k := 1) (n := n) (by omega) (by omega) ?_
  exact W.aret hx hb hr (Or.inr ⟨_, rfl⟩) (Or.inr ⟨_, rfl⟩) (fun t ht _ => ⟨⟨(), ra, rfl, trivial, hB.1, by rw [ht]; exact hB.2⟩, hS.F ht⟩) hS.2.2 dJ0_toCharArray_70df3_24 hlk
