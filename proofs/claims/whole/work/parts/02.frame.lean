/-! The frame: worlds, contracts that only read, contracts that write, rows that take a method's fixed facts together. -/
abbrev tyK (cC cI cJ : ClassId) : List (ClassId × FieldType) := [(cC, .char), (cI, .int), (cJ, .long)]
/-- the links to private members of the class around, that the class files' words leave out -/
def nwL : List (String × Nat × MethodName × String) := [(RX3, 25, yX5_setNumber, RX5), (RX0, 100, yX5_setNumber, RX5), (RX0, 123, yX5_numberAt, RX5), (RX0, 46, yX5_bit, RX5), (RX4, 49, yX5_bit, RX5), (RX3, 29, yX5_numberAt, RX5), (RX3, 33, yX5_bit, RX5), (RX2, 56, yX5_bit, RX5)]
def NW (U : State) : Prop := ∀ q ∈ nwL, va_Nw (.methodLinkNest q.1 q.2.1 q.2.2.1 q.2.2.2) U
def KK (D : va_G) (T : List (ClassId × FieldType)) (U : State) : Prop := va_K D vwCl T U ∧ NW U
theorem KK.warm {D : va_G} {T : List (ClassId × FieldType)} {s U : State} (hW : s.WarmedH U.vm) (h : KK D T s) : KK D T U := ⟨va_K.moved hW.alike h.1, fun q hq => va_Nw.warmM hW (h.2 q hq)⟩
def PK (D : va_G) (T : List (ClassId × FieldType)) (ws : va_W) : State → Prop := fun U => va_P D vwCl ws U.heap ∧ KK D T U
theorem PK.blind {D : va_G} {T : List (ClassId × FieldType)} {ws : va_W} {As : List Value} : FrameBlind (va_Pc As (PK D T ws)) := fun a U g mk h => ⟨h.1, h.2.1, va_K.moved (u := U) (U := U.calling g mk a) (Vm.Alike.refl U.vm) h.2.2.1, fun q hq => va_Nw.same rfl (u := U) (U := U.calling g mk a) rfl (h.2.2.2 q hq)⟩
def RdI (l : Launch) (y : MethodName) (ws : List Cond) (rm : Room) (D : va_G) (T : List (ClassId × FieldType)) (As : List Value) (wc : va_W) (r : Int32) : Prop := Met l y ws rm (va_Pc As (PK D T wc)) (vp_Si (fun x => x = r)) 0 0 (fun _ => False)
def RdL (l : Launch) (y : MethodName) (ws : List Cond) (rm : Room) (D : va_G) (T : List (ClassId × FieldType)) (As : List Value) (wc : va_W) (r : Int64) : Prop := Met l y ws rm (va_Pc As (PK D T wc)) (vp_Sl (fun x => x = r)) 0 0 (fun _ => False)
def WrI (l : Launch) (y : MethodName) (ws : List Cond) (rm : Room) (D : va_G) (T : List (ClassId × FieldType)) (As : List Value) (A : Nat → Prop) (wc : va_W) (B : Heap → Prop) (r : Int32) : Prop := Met l y ws rm (va_Pc As (PK D T wc)) (va_Qi (fun x (_ : Unit) => x = r) (fun _ t => B t.heap) A) 0 0 A
def WrL (l : Launch) (y : MethodName) (ws : List Cond) (rm : Room) (D : va_G) (T : List (ClassId × FieldType)) (As : List Value) (A : Nat → Prop) (wc : va_W) (B : Heap → Prop) (r : Int64) : Prop := Met l y ws rm (va_Pc As (PK D T wc)) (va_Ql (fun x (_ : Unit) => x = r) (fun _ t => B t.heap) A) 0 0 A
def WrV (l : Launch) (y : MethodName) (ws : List Cond) (rm : Room) (D : va_G) (T : List (ClassId × FieldType)) (As : List Value) (A : Nat → Prop) (wc : va_W) (B : Heap → Prop) : Prop := Met l y ws rm (va_Pc As (PK D T wc)) (va_Qv (fun (_ : Unit) => True) (fun _ t => B t.heap) A) 0 0 A
/-- the addresses of a world -/
def aw (ws : va_W) : Nat → Prop := fun q => q ∈ ws.map Prod.fst
/-- the world stands on the heap, its cells are apart and in A, and nothing outside A has changed since H0 -/
def Wd (D : va_G) (A : Nat → Prop) (H0 : Heap) (ws : va_W) (H : Heap) (locs : List Loc) : Prop := va_P D vwCl ws H ∧ va_D A ws ∧ va_S A H0 H locs
theorem va_D.addr {A : Nat → Prop} {ws ws1 : va_W} (h : va_D A ws) (e : ws1.map Prod.fst = ws.map Prod.fst) : va_D A ws1 := by
  have key : ∀ (k : Nat) (q : Nat × va_E), ws1[k]? = some q → ∃ q' : Nat × va_E, ws[k]? = some q' ∧ q'.1 = q.1 := by
    intro k q hk
    have h1 : (ws1.map Prod.fst)[k]? = some q.1 := by rw [List.getElem?_map, hk]; rfl
    rw [e, List.getElem?_map] at h1
    cases hq : ws[k]? with
    | none => rw [hq] at h1; cases h1
    | some q' => rw [hq] at h1; exact ⟨q', rfl, Option.some.inj h1⟩
  refine ⟨fun i j p q hi hj hpq => ?_, fun k q hk => ?_⟩
  · obtain ⟨p', h1, h2⟩ := key i p hi
    obtain ⟨q', h3, h4⟩ := key j q hj
    exact h.1 i j p' q' h1 h3 (by rw [h2, h4, hpq])
  · obtain ⟨q', h1, h2⟩ := key k q hk
    rw [← h2]
    exact h.2 k q' h1
theorem va_D.own {A : Nat → Prop} {ws : va_W} (h : va_D A ws) : va_D (aw ws) ws := ⟨h.1, fun k q hk => List.mem_map.mpr ⟨q, List.mem_of_getElem? hk, rfl⟩⟩
theorem Wd.own {D : va_G} {A : Nat → Prop} {H0 H : Heap} {ws wc : va_W} {locs : List Loc} (h : Wd D A H0 ws H locs) (is : List Nat) (hn : va_nd is = true) (hs : is.map (fun i => ws[i]?) = wc.map some) : va_D (aw wc) wc := (h.2.1.sub is hn hs).own
/-- the places is of a world, taken anew -/
def setAll (ws : va_W) : List (Nat × (Nat × va_E)) → va_W
  | [] => ws
  | (k, q) :: r => setAll (ws.set k q) r
theorem setAll_get {l : List (Nat × (Nat × va_E))} : ∀ {ws : va_W} {k : Nat} {q : Nat × va_E}, (setAll ws l)[k]? = some q → (∃ x ∈ l, x.2 = q) ∨ ((∀ x ∈ l, x.1 ≠ k) ∧ ws[k]? = some q) := by
  induction l with
  | nil => intro ws k q h; exact Or.inr ⟨fun x hx => absurd hx List.not_mem_nil, h⟩
  | cons a r ih =>
    intro ws k q h
    obtain ⟨i, z⟩ := a
    rcases ih (ws := ws.set i z) h with ⟨x, hx, e⟩ | ⟨h1, h2⟩
    · exact Or.inl ⟨x, List.mem_cons_of_mem _ hx, e⟩
    · by_cases hk : i = k
      · subst hk
        rw [List.getElem?_set] at h2
        split at h2
        · split at h2
          · exact Or.inl ⟨(i, z), List.mem_cons_self, Option.some.inj h2⟩
          · cases h2
        · rename_i hne; exact absurd rfl hne
      · rw [List.getElem?_set_ne hk] at h2
        refine Or.inr ⟨fun x hx => ?_, h2⟩
        rcases List.mem_cons.mp hx with rfl | hx
        · exact hk
        · exact h1 x hx
theorem setAll_fst {l : List (Nat × (Nat × va_E))} : ∀ {ws : va_W}, (∀ x ∈ l, (ws.map Prod.fst)[x.1]? = some x.2.1) → (setAll ws l).map Prod.fst = ws.map Prod.fst := by
  induction l with
  | nil => intro ws _; rfl
  | cons a r ih =>
    intro ws h
    obtain ⟨i, z⟩ := a
    have e : (ws.set i z).map Prod.fst = ws.map Prod.fst := by
      rw [List.map_set]
      have h0 := h (i, z) List.mem_cons_self
      apply List.ext_getElem?
      intro k
      rw [List.getElem?_set]
      split
      · rename_i hk
        subst hk
        split
        · exact h0.symm
        · rename_i hlt; exact (List.getElem?_eq_none (Nat.le_of_not_lt hlt)).symm
      · rfl
    exact (ih (ws := ws.set i z) (fun x hx => by rw [e]; exact h x (List.mem_cons_of_mem _ hx))).trans e
theorem zip_sub {is : List Nat} : ∀ {ws wc wc' : va_W}, is.map (fun i => ws[i]?) = wc.map some → wc'.map Prod.fst = wc.map Prod.fst → ∀ x ∈ is.zip wc', (ws.map Prod.fst)[x.1]? = some x.2.1 ∧ x.1 ∈ is ∧ x.2 ∈ wc' := by
  induction is with
  | nil => intro ws wc wc' _ _ x hx; simp at hx
  | cons i r ih =>
    intro ws wc wc' hs hf x hx
    cases wc with
    | nil => simp at hs
    | cons c cs =>
      cases wc' with
      | nil => simp at hf
      | cons d ds =>
        simp only [List.map_cons, List.cons.injEq] at hs hf
        rw [List.zip_cons_cons] at hx
        rcases List.mem_cons.mp hx with rfl | hx
        · exact ⟨by rw [List.getElem?_map, hs.1]; show some c.1 = some d.1; rw [hf.1], List.mem_cons_self, List.mem_cons_self⟩
        · obtain ⟨h1, h2, h3⟩ := ih hs.2 hf.2 x hx
          exact ⟨h1, List.mem_cons_of_mem _ h2, List.mem_cons_of_mem _ h3⟩
theorem zip_all {is : List Nat} : ∀ {ws wc wc' : va_W}, is.map (fun i => ws[i]?) = wc.map some → wc'.map Prod.fst = wc.map Prod.fst → ∀ i ∈ is, ∃ q, (i, q) ∈ is.zip wc' := by
  induction is with
  | nil => intro ws wc wc' _ _ i hi; exact absurd hi List.not_mem_nil
  | cons j r ih =>
    intro ws wc wc' hs hf i hi
    cases wc with
    | nil => simp at hs
    | cons c cs =>
      cases wc' with
      | nil => simp at hf
      | cons d ds =>
        simp only [List.map_cons, List.cons.injEq] at hs hf
        rw [List.zip_cons_cons]
        rcases List.mem_cons.mp hi with rfl | hi
        · exact ⟨d, List.mem_cons_self⟩
        · obtain ⟨q, hq⟩ := ih hs.2 hf.2 i hi
          exact ⟨q, List.mem_cons_of_mem _ hq⟩
/-- behind a call that wrote the cells at the places is -/
theorem Wd.back {D : va_G} {A : Nat → Prop} {H0 H H1 : Heap} {ws wc wc' : va_W} {locs locs1 : List Loc} (h : Wd D A H0 ws H locs) (is : List Nat) (hs : is.map (fun i => ws[i]?) = wc.map some) (hf : wc'.map Prod.fst = wc.map Prod.fst) (hz : H.size ≤ H1.size) (hk : ∀ q : Nat, q < H.size → ¬ aw wc q → H1[q]? = H[q]?) (hS : va_S A H0 H1 locs1) (hP : va_P D vwCl wc' H1) : Wd D A H0 (setAll ws (is.zip wc')) H1 locs1 := by
  refine ⟨fun k q hq => ?_, h.2.1.addr (setAll_fst fun x hx => (zip_sub hs hf x hx).1), hS⟩
  rcases setAll_get hq with ⟨x, hx, rfl⟩ | ⟨h1, h2⟩
  · obtain ⟨-, -, h3⟩ := zip_sub hs hf x hx
    obtain ⟨j, hj⟩ := List.getElem?_of_mem h3
    exact hP j _ hj
  · refine (h.1 k q h2).kept (hk q.1 ?_ ?_)
    · exact (h.1 k q h2).lt
    · intro hm
      obtain ⟨c, hc, e⟩ := List.mem_map.mp hm
      have hc2 : some c ∈ wc.map some := List.mem_map.mpr ⟨c, hc, rfl⟩
      rw [← hs] at hc2
      obtain ⟨i, hi, hi2⟩ := List.mem_map.mp hc2
      have := h.2.1.1 i k c q hi2 h2 e
      subst this
      obtain ⟨z, hz⟩ := zip_all hs hf i hi
      exact h1 _ hz rfl
theorem ob {α β : Type} {x : Option α} {f : α → Option β} {r : β} (h : x.bind f = some r) : ∃ y, x = some y ∧ f y = some r := Option.bind_eq_some_iff.mp h
theorem ipos {α : Type} {c : Prop} [Decidable c] {a b : Option α} {r : α} (h : (if c then a else b) = some r) (hc : c) : a = some r := by rw [if_pos hc] at h; exact h
theorem ineg {α : Type} {c : Prop} [Decidable c] {a b : Option α} {r : α} (h : (if c then a else b) = some r) (hc : ¬ c) : b = some r := by rw [if_neg hc] at h; exact h
theorem gdo {α : Type} {c : Prop} [Decidable c] {a : Option α} {r : α} (h : (if c then a else none) = some r) : c ∧ a = some r := by
  by_cases hc : c
  · rw [if_pos hc] at h; exact ⟨hc, h⟩
  · rw [if_neg hc] at h; cases h
abbrev inI (i : Int32) (n : Nat) : Prop := 0 ≤ i.toInt ∧ i.toInt < n
abbrev isB (r : Int32) : Prop := r = 0 ∨ r = 1
theorem isB.nar {r : Int32} (h : isB r) : narrow .boolean (.int r) = .int r := by rcases h with rfl | rfl <;> rfl
theorem isB.fit {r : Int32} (h : isB r) : fits .boolean (.int r) = true := by rcases h with rfl | rfl <;> rfl
theorem ofi_1 : Int32.ofInt 1 = 1 := by decide
theorem ofi_m1 : Int32.ofInt (-1) = -1 := by decide
theorem ofi_4 : Int32.ofInt 4 = 4 := by decide
theorem toInt_ne {x v : Int32} {n : Int} (h : ¬ x = v) (hv : v.toInt = n) : ¬ n = x.toInt := fun e => h (Int32.toInt_inj.mp (by rw [hv, e]))
/-- what a callee is: its code's word first in its list, its class, its parameters -/
def Cal (y : MethodName) (ws : List Cond) (bytes : ByteArray) (maxL : Nat) (ret : Option FieldType) (C : String) (n : Nat) : Prop := (∃ ws', ws = Cond.code y bytes maxL ret :: ws') ∧ y.cls = C ∧ y.cls ≠ "java/lang/invoke/MethodHandle" ∧ y.cls ≠ "java/lang/invoke/VarHandle" ∧ (parseMethodDescriptor y.desc).map (fun d => d.parameters.length) = some n
