/-! rows for what is made: new arrays, new objects, constructors -/
section NR
variable {p : Program} {l : Launch} {e : Env} {R : Room} {s : State} {m : MethodId} {args : Array Value} {below : List Frame} {meth : Method} {c : Code} {H : Heap} {locs : List Loc} {cells slots : Nat} {Q : State → Prop}
variable {cc : ByteArray} {nL pc : Nat} {ls : Array Slot} {rest st0 : List Value} {D : va_G} {A : Nat → Prop} {a : Nat} {T : List (ClassId × FieldType)} {ws : va_W} {H0 : Heap} {Ts : List Cond} {own : String}
theorem ra_eq {ty : FieldType} (hp : ∀ C, ty ≠ .object C) {c1 c2 : ClassId} (h1 : va_RA s c1 ty) (h2 : va_RA s c2 ty) : c1 = c2 := by
  cases ty with
  | object C => exact absurd rfl (hp C)
  | _ => exact Option.some.inj ((show s.vm.findClass _ = some c1 from h1).symm.trans (show s.vm.findClass _ = some c2 from h2))
theorem f_newa {atype : ArrayType} {ty : FieldType} (S : CallFix p m c cc nL s args Ts own) (hK : KK D T s) (hw : Wd D A H0 ws H locs) (hA : ∀ q, H0.size ≤ q → A q) (hty : newarray.typeOf atype = ty) (hp : ∀ C, ty ≠ .object C) (harr : Cond.arrayClass ty ∈ Ts) (t0 : Nat) {cA : ClassId} (ht : T[t0]? = some (cA, ty)) {n : Int32} (N' : Nat) {a0 : vp_A} (ha : ∀ cA : ClassId, vp_cell cA a0 = arrV cA N' (fun _ => defaultValue ty)) (hn : ¬ n < 0) (hN : n.toNatClampNeg = N') (hbytes : N' * componentBytes ty ≤ 536870912) (hf : cells + 1 ≤ R.cells ∧ slots + N' ≤ R.slots) (hdg : decode cc pc = .ok (.newarray atype, 2))
    (kk : ∀ (q : Nat) (H1 : Heap), Wd D A H0 (ws ++ [(q, .inl (cA, a0))]) H1 locs → W p l e R s m args below meth c H1 locs (cells + 1) (slots + N') Q (F0 m (pc + 2) ls (.ref q :: rest))) : W p l e R s m args below meth c H locs cells slots Q (F0 m pc ls (.int n :: rest)) := by
  subst hty
  refine va_newa S.1 S.2.1 (S.2.2.2.2 _ harr) rfl hK.1 hw.1 hw.2.1 hw.2.2 hA ha hn hN hbytes hf.1 hf.2 hdg (fun q cA' H1 hK' hP hD hS => ?_)
  have e : cA' = cA := ra_eq hp (hK'.2 T.length (cA', newarray.typeOf atype) (by rw [List.getElem?_append_right (Nat.le_refl _), Nat.sub_self]; rfl)).2 (hK.1.2 t0 _ ht).2
  subst e
  exact kk q H1 ⟨hP, hD, hS⟩
theorem f_new {C : String} {F : u_T} {N ci index : Nat} (S : CallFix p m c cc nL s args Ts own) (hK : KK D T s) (hw : Wd D A H0 ws H locs) (hA : ∀ q, H0.size ≤ q → A q) (hin : ∀ w ∈ u_ws C F N, w ∈ Ts) {ty : Nat → FieldType} (hty : ∀ k, k < N → parseFieldDescriptor (F k).2.2.1 = some (ty k)) (hcl : Cond.classLink own index C ∈ Ts) (hinst : Cond.instantiable C N ∈ Ts) (hini : Cond.initialized C ∈ Ts) (hc : vwCl[ci]? = some (C, F, N)) (fs : List Value) (hfs : ∀ j, j < N → defaultValue (ty j) = vp_V fs j) (hf : cells + 1 ≤ R.cells ∧ slots + N ≤ R.slots) (hdg : decode cc pc = .ok (.new index, 3))
    (kk : ∀ (q : Nat) (H1 : Heap), Wd D A H0 (ws ++ [(q, .inr (ci, fs))]) H1 locs → W p l e R s m args below meth c H1 locs (cells + 1) (slots + N) Q (F0 m (pc + 3) ls (.ref q :: rest))) : W p l e R s m args below meth c H locs cells slots Q (F0 m pc ls rest) :=
  va_new S.1 S.2.1 S.2.2.2.2 hin ty hty S.2.2.2.1 (S.2.2.2.2 _ hcl) (S.2.2.2.2 _ hinst) (S.2.2.2.2 _ hini) hK.1 hw.1 hw.2.1 hw.2.2 hA hc hfs hf.1 hf.2 hdg (fun q H1 hP hD hS => kk q H1 ⟨hP, hD, hS⟩)
theorem f_putF (S : CallFix p m c cc nL s args Ts own) (hK : KK D T s) (hw : Wd D A H0 ws H locs) {C ref : String} {F : u_T} {N ci index : Nat} (hin : ∀ w ∈ u_ws C F N, w ∈ Ts) {ty0 : Nat → FieldType} (hty : ∀ k, k < N → parseFieldDescriptor (F k).2.2.1 = some (ty0 k)) (hnm : ∀ a, a < N → ∀ b, b < N → a ≠ b → (F a).2.1 ≠ (F b).2.1) (q0 : Nat) {fs : List Value} (he : ws[q0]? = some (a, .inr (ci, fs))) (hc : vwCl[ci]? = some (C, F, N)) (k : Nat) (hk : k < N) (hl : Cond.fieldLink own index ref (F k).2.1 (F k).2.2.1 ∈ Ts) (href : (F k).1 = ref) (hfin : (F k).2.2.2 = true) (hin2 : meth.name = "<init>") (hdecl : (F k).1 = own) {v : Value} (hn : narrow (ty0 k) v = v) (hfit : fits (ty0 k) v = true) (hlen : k < fs.length) {ws1 : va_W} (hs : ws.set q0 (a, .inr (ci, fs.set k v)) = ws1) (hdg : decode cc pc = .ok (.putfield index, 3))
    (kk : ∀ (H1 : Heap) (locs1 : List Loc), Wd D A H0 ws1 H1 locs1 → W p l e R s m args below meth c H1 locs1 cells slots Q (F0 m (pc + 3) ls rest)) : W p l e R s m args below meth c H locs cells slots Q (F0 m pc ls (v :: .ref a :: rest)) := by
  refine va_putF S.1 S.2.1 S.2.2.2.2 hin ty0 hty hnm S.2.2.2.1 hK.1 hw.1 hw.2.1 hw.2.2 q0 he hc k hk (S.2.2.2.2 _ hl) (fun x h => by rw [href] at h; exact h) hfin hin2 hdecl (hty k hk) hn hfit hlen hdg (fun H1 locs1 hP hD hS => ?_)
  subst hs
  exact kk H1 locs1 ⟨hP, hD, hS⟩
theorem f_obj (S : CallFix p m c cc nL s args Ts own) {idx : Nat} (hl : Cond.methodLink own idx objectInit ∈ Ts) (hi : Cond.instanceMethod objectInit ∈ Ts) (hc : Cond.code objectInit ⟨#[0xb1]⟩ 1 none ∈ Ts) (hsz : ls.size = nL) (hR : (rest.map fun v => v.category).sum ≤ 8) (hr : 1 ≤ R.frames ∧ 20 ≤ R.locals) (hdg : decode cc pc = .ok (.invokespecial idx, 3))
    (kk : W p l e R s m args below meth c H locs cells slots Q (F0 m (pc + 3) ls rest)) : W p l e R s m args below meth c H locs cells slots Q (F0 m pc ls (.ref a :: rest)) := by
  refine W.objInit S.1 S.2.1 S.2.2.2.1 (S.2.2.2.2 _ hl) (S.2.2.2.2 _ hi) (S.2.2.2.2 _ hc) rfl (by rw [S.2.2.1]; exact hsz) rfl hdg hr.1 ?_ ?_
  · show 2 * 0 + _ + 12 ≤ _
    omega
  · exact W.eq (g2 := F0 m (pc + 3) ls rest) rfl kk
def NP (D : va_G) (T : List (ClassId × FieldType)) (wc : va_W) (sz : Nat) : State → Prop := fun U => U.heap.size = sz ∧ va_P D vwCl wc U.heap ∧ KK D T U ∧ va_D (fun _ => True) wc
theorem NP.blind {wc : va_W} {sz : Nat} {As : List Value} : FrameBlind (va_Pc As (NP D T wc sz)) := fun a U g mk h => ⟨h.1, h.2.1, h.2.2.1, ⟨va_K.moved (u := U) (U := U.calling g mk a) (Vm.Alike.refl U.vm) h.2.2.2.1.1, fun q hq => va_Nw.same rfl (u := U) (U := U.calling g mk a) rfl (h.2.2.2.1.2 q hq)⟩, h.2.2.2.2⟩
/-- a constructor: from the fresh object's cell to the world B -/
def NwV (l : Launch) (y : MethodName) (ws : List Cond) (rm : Room) (D : va_G) (T : List (ClassId × FieldType)) (As : List Value) (wc : va_W) (mc ms : Nat) (B : Nat → Heap → Prop) : Prop := ∀ sz : Nat, Met l y ws rm (va_Pc As (NP D T wc sz)) (va_Qv (fun (_ : Unit) => True) (fun _ t => B sz t.heap) (va_A wc sz)) mc ms (va_A wc sz)
theorem e_NV (S : CallFix p m c cc nL s args Ts own) (hr : meth.sig.returnType = none) (hlk : meth.locks = false) (hw : Wd D A s.heap ws H locs) {k n : Nat} (hc : cells ≤ k) (hs : slots ≤ n) {B : Heap → Prop} (hB : B H) (hdg : decode cc pc = .ok (.return_, 1)) : W p l e R s m args below meth c H locs cells slots (MQ below (va_Qv (fun (_ : Unit) => True) (fun _ t => B t.heap) A) args s k n A) (F0 m pc ls []) := W.widen hc hs (W.vret S.1 S.2.1 hr (fun t ht _ => ⟨⟨(), rfl, trivial, by show B t.heap; rw [ht]; exact hB⟩, hw.2.2.F ht⟩) hw.2.2.2.2 hdg hlk)
variable {y : MethodName} {wsy : List Cond} {bytes : ByteArray} {maxL n index : Nat} {C : String} {rm : Room} {b : Nat} {As : List Value} {wc wr : va_W}
theorem k_nI (S : CallFix p m c cc nL s args Ts own) (hK : KK D T s) (hw : Wd D A H0 ws H locs) (hA : ∀ q, H0.size ≤ q → A q) (hy : Cal y wsy bytes maxL none C n) (hy1 : y.name = "<init>") (hG : GoodIn Ts wsy) (hini : Cond.initialized y.cls ∈ Ts) (hl : Cond.methodLink own index y ∈ Ts) (him : Cond.instanceMethod y ∈ Ts) {mc ms : Nat} {B : Nat → Heap → Prop} (hM : NwV l y wsy rm D T (.ref b :: As) wc mc ms B) (hrc : rm.cells = mc ∧ rm.slots = ms) (hrm : rm.frames + 1 ≤ R.frames ∧ 8 + (maxL + 11) + rm.locals ≤ R.locals) (isC isR : List Nat) (hC : isC.map (fun i => ws[i]?) = wc.map some) (hCn : va_nd isC = true) (hR' : isR.map (fun i => ws[i]?) = wr.map some) (hRn : va_nd isR = true) (hdis : ∀ i ∈ isR, i ∉ isC) (hn : As.length = n) (hsz : ls.size = nL) (hst : st0 = As.reverse ++ .ref b :: rest) (hR : (rest.map fun v => v.category).sum ≤ 8) (hdg : decode cc pc = .ok (.invokespecial index, 3)) (hf : cells + mc ≤ R.cells ∧ slots + ms ≤ R.slots)
    (kk : ∀ (H1 : Heap) (locs1 : List Loc), B H.size H1 → (∀ w1 : va_W, va_P D vwCl w1 H1 → va_D (va_A wc H.size) w1 → Wd D A H0 (wr ++ w1) H1 locs1) → W p l e R s m args below meth c H1 locs1 (cells + mc) (slots + ms) Q (F0 m (pc + 3) ls rest)) : W p l e R s m args below meth c H locs cells slots Q (F0 m pc ls st0) := by
  obtain ⟨⟨ws', hw0⟩, hC', h1, h2, h3⟩ := hy
  have hF := va_free (wc := wc) hw.2.1 hw.2.2 hA isC hC
  refine va_callv (va_runI S (hM H.size) (cwI n S.2.2.2.2 hG hw0 hrc.1 hrc.2 (S.2.2.2.2 _ hini) (S.2.2.2.2 _ hl) (S.2.2.2.2 _ him) hy1 ⟨h1, h2, h3⟩ hrm) ⟨NP.blind, fun U hU hW => ⟨rfl, by rw [hU], by rw [hU]; exact hw.1.sub isC (map_filterMap hC), hK.warm hW, (hw.2.1.sub isC hCn hC).weaken (fun _ _ _ _ => trivial)⟩⟩ rfl hn hsz hst (lv_room hR) hdg hf) hw.2.2 (fun q _ h => hF q h) hF (fun u t H1 locs1 ht hvm hr hB hz hk hS => ?_)
  rw [ht] at hB
  exact kk H1 locs1 hB (fun w1 hP1 hD1 => by
    obtain ⟨hP, hD⟩ := va_join hw.1 hw.2.1 isC isR hC hR' hRn hdis hk hF hP1 hD1
    exact ⟨hP, hD, hS⟩)
end NR
theorem enterN {l : Launch} {y : MethodName} {ws ws' : List Cond} {rm : Room} {D : va_G} {T : List (ClassId × FieldType)} {As : List Value} {wc : va_W} {mc ms : Nat} {B : Nat → Heap → Prop} {cc : ByteArray} {maxL : Nat} {lv : List (Nat × Value)} (hy : plainName y.cls = true) (hy1 : y.name = "<init>") (hw : ws = Cond.code y cc maxL none :: ws') (hlen : (lg_sl As).length ≤ maxL) (hlv : lv_args 0 As = lv)
    (body : ∀ (sz : Nat) (A : Nat → Prop) (p : Program) (e : Env) (s : State) (m : MethodId) (args : Array Value) (below : List Frame) (meth : Method) (c : Code), CallFix p m c cc maxL s args ws y.cls → meth.sig.returnType = none → meth.locks = false → meth.name = "<init>" → KK D T s → s.heap.size = sz → A = va_A wc sz → (∀ q, s.heap.size ≤ q → A q) → Wd D A s.heap wc s.heap [] → ∀ ls : Array Slot, lv_has ls maxL lv → W p l e rm s m args below meth c s.heap [] 0 0 (MQ below (va_Qv (fun (_ : Unit) => True) (fun _ t => B sz t.heap) A) args s mc ms A) (F0 m 0 ls [])) : NwV l y ws rm D T As wc mc ms B := by
  intro sz
  refine Met.ofW (cc := cc) (maxL := maxL) (ret := none) hy hw ?_
  intro p e s m args below meth c s₁ B1 hml hv
  obtain ⟨rfl, hsz, hP, hK, hD0⟩ := hv
  have hown : s.vm.findClass y.cls = some m.cls := findClass_of_methodNamed B1.named
  have hl := lv_entry As (n := maxL) hlen
  rw [lg_entry_eq]
  generalize (lg_sl As ++ List.replicate (maxL - (lg_sl As).length) Slot.unset).toArray = ls at hl ⊢
  rw [hlv] at hl
  exact body sz (va_A wc sz) p e s m _ below meth c ⟨B1.exec, B1.bytes, hml, hown, atoms_spec (ws := ws) B1.pre⟩ B1.returns B1.notSynchronized ((name_of_methodNamed B1.named B1.method).1.trans hy1) hK hsz rfl (fun q hq => Or.inr (by rw [hsz] at hq; exact hq)) ⟨hP, hD0.self, va_S.rf⟩ ls hl
theorem cbI : componentBytes FieldType.int = 4 := rfl
theorem cbC : componentBytes FieldType.char = 2 := rfl
theorem cbL : componentBytes FieldType.long = 8 := rfl
theorem setAll_out {l : List (Nat × (Nat × va_E))} : ∀ {ws : va_W} {k : Nat}, (∀ x ∈ l, x.1 ≠ k) → (setAll ws l)[k]? = ws[k]? := by
  induction l with
  | nil => intro ws k _; rfl
  | cons a r ih =>
    intro ws k h
    obtain ⟨i, z⟩ := a
    show (setAll (ws.set i z) r)[k]? = ws[k]?
    rw [ih (fun x hx => h x (List.mem_cons_of_mem _ hx)), List.getElem?_set_ne (h (i, z) List.mem_cons_self)]
theorem map_at {is : List Nat} {f : Nat → Option (Nat × va_E)} : ∀ {wc : va_W}, is.map f = wc.map some → ∀ k ∈ is, ∃ (j : Nat) (q : Nat × va_E), wc[j]? = some q ∧ f k = some q := by
  induction is with
  | nil => intro wc _ k hk; exact absurd hk List.not_mem_nil
  | cons i r ih =>
    intro wc h k hk
    cases wc with
    | nil => simp at h
    | cons c cs =>
      simp only [List.map_cons, List.cons.injEq] at h
      rcases List.mem_cons.mp hk with rfl | hk
      · exact ⟨0, c, rfl, h.1⟩
      · obtain ⟨j, q, h1, h2⟩ := ih h.2 k hk
        exact ⟨j + 1, q, h1, h2⟩
/-- the world behind a call, written out -/
theorem Wd.re {D : va_G} {A : Nat → Prop} {H0 H1 : Heap} {ws ws' wc' : va_W} {locs1 : List Loc} {isC isR : List Nat} (wr : va_W) (n : Nat) (hD : va_D A ws) (hW : Wd D A H0 (setAll ws (isC.zip wc')) H1 locs1) (hP1 : va_P D vwCl wc' H1) (hn : ws'.length = n) (hf : ws'.map Prod.fst = ws.map Prod.fst) (hC : isC.map (fun i => ws'[i]?) = wc'.map some) (hR1 : isR.map (fun i => ws'[i]?) = wr.map some) (hR2 : isR.map (fun i => ws[i]?) = wr.map some) (hcov : ((List.range n).all fun k => decide (k ∈ isC) || decide (k ∈ isR)) = true) (hdis : (isR.all fun i => !decide (i ∈ isC)) = true) : Wd D A H0 ws' H1 locs1 := by
  refine ⟨fun k q hq => ?_, hD.addr hf, hW.2.2⟩
  have hk : k < n := by
    rw [← hn]
    exact (List.getElem?_eq_some_iff.mp hq).1
  have hc := List.all_eq_true.mp hcov k (List.mem_range.mpr hk)
  rw [Bool.or_eq_true, decide_eq_true_eq, decide_eq_true_eq] at hc
  by_cases hkC : k ∈ isC
  · obtain ⟨j, q', h1, h2⟩ := map_at hC k hkC
    have h3 : ws'[k]? = some q' := h2
    rw [hq] at h3
    cases h3
    exact hP1 j q h1
  · have hkR : k ∈ isR := hc.resolve_left hkC
    have e : ws'[k]? = ws[k]? := by
      have key : ∀ (l : List Nat), l.map (fun i => ws'[i]?) = l.map (fun i => ws[i]?) → k ∈ l → ws'[k]? = ws[k]? := by
        intro l
        induction l with
        | nil => intro _ h; exact absurd h List.not_mem_nil
        | cons a r ih =>
          intro h hm
          simp only [List.map_cons, List.cons.injEq] at h
          rcases List.mem_cons.mp hm with rfl | hm
          · exact h.1
          · exact ih h.2 hm
      exact key isR (hR1.trans hR2.symm) hkR
    refine hW.1 k q ?_
    rw [setAll_out (fun x hx => ?_), ← e]
    · exact hq
    · intro z
      obtain ⟨a, b⟩ := x
      have := (List.of_mem_zip hx).1
      exact hkC (z ▸ this)
