/-! longs; packing a standing into one number -/
theorem l_or (a b : Nat) : lN a ||| lN b = lN (a ||| b) := by
  apply Int64.toBitVec_inj.1
  show BitVec.ofNat 64 a ||| BitVec.ofNat 64 b = BitVec.ofNat 64 (a ||| b)
  apply BitVec.eq_of_getLsbD_eq
  intro i hi
  simp [hi]
theorem l_and (a b : Nat) : lN a &&& lN b = lN (a &&& b) := by
  apply Int64.toBitVec_inj.1
  show BitVec.ofNat 64 a &&& BitVec.ofNat 64 b = BitVec.ofNat 64 (a &&& b)
  apply BitVec.eq_of_getLsbD_eq
  intro i hi
  simp [hi]
theorem l_orS {a k : Nat} (b : Nat) (h : a < 2 ^ k) : lN a ||| lN (b * 2 ^ k) = lN (a + b * 2 ^ k) := by
  rw [l_or, Nat.or_comm, Nat.mul_comm b, ← Nat.two_pow_add_eq_or_of_lt h, Nat.add_comm]
theorem l_orS' {a k : Nat} (b : Nat) (h : a < 2 ^ k) : lN (b * 2 ^ k) ||| lN a = lN (b * 2 ^ k + a) := by
  rw [l_or, Nat.mul_comm b, ← Nat.two_pow_add_eq_or_of_lt h]
theorem i_orS {a k : Nat} (b : Nat) (h : a < 2 ^ k) : nI a ||| nI (b * 2 ^ k) = nI (a + b * 2 ^ k) := by
  rw [j_or, Nat.or_comm, Nat.mul_comm b, ← Nat.two_pow_add_eq_or_of_lt h, Nat.add_comm]
theorem l_smod : ∀ k, k < 64 → (((nI k).toInt64 &&& 63).toBitVec.smod 64).toNat = k := by decide +kernel
theorem l_shl (n : Nat) {k : Nat} (hk : k < 64) : lN n <<< ((nI k).toInt64 &&& 63) = lN (n * 2 ^ k) := by
  apply Int64.toBitVec_inj.mp
  apply BitVec.eq_of_toNat_eq
  have h0 : ((lN n <<< ((nI k).toInt64 &&& 63)).toBitVec).toNat = (lN n).toBitVec.toNat * 2 ^ k % 2 ^ 64 := by
    show ((lN n).toBitVec <<< (((nI k).toInt64 &&& 63).toBitVec.smod 64).toNat).toNat = _
    rw [l_smod k hk, BitVec.toNat_shiftLeft, Nat.shiftLeft_eq]
  rw [h0]
  show n % 2 ^ 64 * 2 ^ k % 2 ^ 64 = n * 2 ^ k % 2 ^ 64
  rw [Nat.mod_mul_mod]
theorem lN_toI {a : Nat} (h : a < 2 ^ 63) : (lN a).toInt = (a : Int) := lg_ofNat_toInt h
theorem l_shr {n k : Nat} (hn : n < 2 ^ 62) (hk : k < 64) : lN n >>> ((nI k).toInt64 &&& 63) = lN (n / 2 ^ k) := by
  have h2 : n / 2 ^ k ≤ n := Nat.div_le_self _ _
  apply Int64.toInt_inj.mp
  have e : (lN n >>> ((nI k).toInt64 &&& 63)).toInt = (lN n).toInt >>> k := by
    have h := l_smod k hk
    show ((lN n).toBitVec.sshiftRight (((nI k).toInt64 &&& 63).toBitVec.smod 64).toNat).toInt = _
    rw [h, BitVec.toInt_sshiftRight]
    rfl
  rw [e, Int.shiftRight_eq_div_pow, lN_toI (by omega), lN_toI (by omega)]
  rfl
theorem l_eq {a b : Nat} (ha : a < 2 ^ 63) (hb : b < 2 ^ 63) : lN a = lN b ↔ a = b := pk_lEQ ha hb
theorem l_cmp {a b : Nat} (ha : a < 2 ^ 63) (hb : b < 2 ^ 63) : lg_cmp (lN a) (lN b) = if b < a then 1 else if a = b then 0 else -1 := by
  unfold lg_cmp
  have h1 : (lN a > lN b) ↔ b < a := pk_lLT hb ha
  have h2 := l_eq ha hb
  by_cases q : b < a
  · rw [if_pos (h1.mpr q), if_pos q]
  · rw [if_neg (fun z => q (h1.mp z)), if_neg q]
    by_cases w : a = b
    · rw [if_pos (h2.mpr w), if_pos w]
    · rw [if_neg (fun z => w (h2.mp z)), if_neg w]
/-- the number that a standing is packed into -/
def pk (a b f u c d : Nat) : Nat := a + b * 2 ^ 8 + (f + u * 2 ^ 7) * 2 ^ 16 + c * 2 ^ 30 + d * 2 ^ 37
theorem xX4_packed {a b f u c d : Nat} (ha : a < 256) (hb : b < 256) (hf : f < 128) (hu : u < 128) (hc : c < 128) (hd : d < 128) : m_X4_packed (nI a) (nI b) (nI f) (nI u) (nI c) (nI d) = some (lN (pk a b f u c d)) := by
  unfold m_X4_packed
  have e1 : nI b <<< ((8 : Int32) &&& 31) = nI (b * 2 ^ 8) := pk_shlN _ 8 (by decide) (by omega)
  have e2 : nI u <<< ((7 : Int32) &&& 31) = nI (u * 2 ^ 7) := pk_shlN _ 7 (by decide) (by omega)
  rw [e1, e2, i_orS b (k := 8) (by omega), i_orS u (k := 7) (by omega), nI_l (by omega), nI_l (by omega), nI_l (by omega), nI_l (by omega)]
  simp only [Option.bind_some]
  have s16 : ∀ n : Nat, lN n <<< (((16 : Int32)).toInt64 &&& 63) = lN (n * 2 ^ 16) := fun n => l_shl n (k := 16) (by decide)
  have s30 : ∀ n : Nat, lN n <<< (((30 : Int32)).toInt64 &&& 63) = lN (n * 2 ^ 30) := fun n => l_shl n (k := 30) (by decide)
  have s37 : ∀ n : Nat, lN n <<< (((37 : Int32)).toInt64 &&& 63) = lN (n * 2 ^ 37) := fun n => l_shl n (k := 37) (by decide)
  rw [s16, s30, s37, l_orS _ (k := 16) (by omega), l_orS _ (k := 30) (by omega), l_orS _ (k := 37) (by omega)]
  rfl
theorem i_mask8 (n : Nat) : nI n &&& (255 : Int32) = nI (n % 2 ^ 8) := by
  rw [show (255 : Int32) = nI (2 ^ 8 - 1) from rfl, j_and, Nat.and_two_pow_sub_one_eq_mod]
theorem i_mask7 (n : Nat) : nI n &&& (127 : Int32) = nI (n % 2 ^ 7) := by
  rw [show (127 : Int32) = nI (2 ^ 7 - 1) from rfl, j_and, Nat.and_two_pow_sub_one_eq_mod]
theorem xX4_unpack {a b f u c d : Nat} (ha : a < 256) (hb : b < 256) (hf : f < 128) (hu : u < 128) (hc : c < 128) (hd : d < 128) : m_X4_unpack (lN (pk a b f u c d)) = some (nI a, nI b, nI f, nI u, nI c, nI d) := by
  unfold m_X4_unpack
  have hn : pk a b f u c d < 2 ^ 62 := by unfold pk; omega
  have s8 : lN (pk a b f u c d) >>> (((8 : Int32)).toInt64 &&& 63) = lN (pk a b f u c d / 2 ^ 8) := l_shr (k := 8) hn (by decide)
  have s16 : lN (pk a b f u c d) >>> (((16 : Int32)).toInt64 &&& 63) = lN (pk a b f u c d / 2 ^ 16) := l_shr (k := 16) hn (by decide)
  have s23 : lN (pk a b f u c d) >>> (((23 : Int32)).toInt64 &&& 63) = lN (pk a b f u c d / 2 ^ 23) := l_shr (k := 23) hn (by decide)
  have s30 : lN (pk a b f u c d) >>> (((30 : Int32)).toInt64 &&& 63) = lN (pk a b f u c d / 2 ^ 30) := l_shr (k := 30) hn (by decide)
  have s37 : lN (pk a b f u c d) >>> (((37 : Int32)).toInt64 &&& 63) = lN (pk a b f u c d / 2 ^ 37) := l_shr (k := 37) hn (by decide)
  rw [s8, s16, s23, s30, s37]
  simp only [Option.bind_some, lN_i, i_mask8, i_mask7]
  have e1 : pk a b f u c d % 2 ^ 8 = a := by unfold pk; omega
  have e2 : pk a b f u c d / 2 ^ 8 % 2 ^ 8 = b := by unfold pk; omega
  have e3 : pk a b f u c d / 2 ^ 16 % 2 ^ 7 = f := by unfold pk; omega
  have e4 : pk a b f u c d / 2 ^ 23 % 2 ^ 7 = u := by unfold pk; omega
  have e5 : pk a b f u c d / 2 ^ 30 % 2 ^ 7 = c := by unfold pk; omega
  have e6 : pk a b f u c d / 2 ^ 37 % 2 ^ 7 = d := by unfold pk; omega
  rw [e1, e2, e3, e4, e5, e6]
/-! the search's memory: by tasks brought and friends used (the key), with the number of the search; several keys share a cell -/
/-- the cell of a key -/
def cl (i : Nat) : Nat := i * 40503 / 2 ^ 4 % 4096
theorem cl_lt (i : Nat) : cl i < 4096 := Nat.mod_lt _ (by decide)
theorem xX2_cellOf {i : Nat} (hi : i < 32768) : m_X2_cellOf (nI i) = some (nI (cl i)) := by
  unfold m_X2_cellOf cl
  rw [show (40503 : Int32) = nI 40503 from rfl, pk_mul, show (4 : Int32) = nI 4 from rfl, j_shr (by omega) (by decide), show (4095 : Int32) = nI (2 ^ 12 - 1) from rfl, j_and, Nat.and_two_pow_sub_one_eq_mod]
/-- the memory's cells hold numbers of searches up to ν, with keys; those of ν hold what f says of the key -/
def Kok (K : Nat → Int64) (ν : Nat) (f : Nat → Nat) : Prop := ∀ c, c < 4096 → ∃ m k w, K c = lN ((m * 32768 + k) * 65536 + w) ∧ k < 32768 ∧ w < 65536 ∧ m ≤ ν ∧ (m = ν → w = f k)
theorem Kok.next {K : Nat → Int64} {ν : Nat} {f : Nat → Nat} (h : Kok K ν f) (g : Nat → Nat) : Kok K (ν + 1) g := fun i hi => by
  obtain ⟨m, k, w, e, hk, hw, hm, -⟩ := h i hi
  exact ⟨m, k, w, e, hk, hw, by omega, fun q => by omega⟩
theorem l_tag {ν i : Nat} (hi : i < 32768) : (lN ν <<< (((15 : Int32)).toInt64 &&& 63)) ||| ((nI i).toInt64) = lN (ν * 32768 + i) := by
  have s15 : lN ν <<< (((15 : Int32)).toInt64 &&& 63) = lN (ν * 2 ^ 15) := l_shl ν (k := 15) (by decide)
  rw [s15, nI_l (by omega), l_orS' (k := 15) _ (by omega)]
theorem xX2_recall {K : Nat → Int64} {ν : Nat} {f : Nat → Nat} (h : Kok K ν f) (hν : ν < 2 ^ 30) {i : Nat} (hi : i < 32768) : m_X2_recall (lN ν) K (nI i) = some (-4) ∨ (m_X2_recall (lN ν) K (nI i) = some (lN (f i)) ∧ f i < 65536) := by
  obtain ⟨m, k, w, e, hk, hw, hm, hf⟩ := h (cl i) (cl_lt i)
  have hc := cl_lt i
  unfold m_X2_recall
  rw [xX2_cellOf hi, Option.bind_some, if_neg (nI_pos (by omega)), if_neg (show ¬ (4096 : Int32) ≤ nI (cl i) from nI_ge (b := 4096) hc (by decide)), if_pos (j_in hc (by decide)), j_clamp (by omega), e, l_tag hi]
  have s16 : lN ((m * 32768 + k) * 65536 + w) >>> (((16 : Int32)).toInt64 &&& 63) = lN (((m * 32768 + k) * 65536 + w) / 2 ^ 16) := l_shr (k := 16) (by omega) (by decide)
  rw [s16, show ((m * 32768 + k) * 65536 + w) / 2 ^ 16 = m * 32768 + k by omega, l_cmp (by omega) (by omega)]
  by_cases q : m * 32768 + k = ν * 32768 + i
  · rw [if_neg (show ¬ ν * 32768 + i < m * 32768 + k by omega), if_pos q, if_pos (show (0 : Int32) = 0 from rfl)]
    have e2 : lN ((m * 32768 + k) * 65536 + w) &&& (65535 : Int64) = lN w := by
      rw [show (65535 : Int64) = lN (2 ^ 16 - 1) from rfl, l_and, Nat.and_two_pow_sub_one_eq_mod, show ((m * 32768 + k) * 65536 + w) % 2 ^ 16 = w by omega]
    have hki : k = i := by omega
    rw [e2, hf (by omega), hki]
    exact Or.inr ⟨rfl, by rw [← hki, ← hf (by omega)]; exact hw⟩
  · left
    rw [if_neg (show ¬ (if ν * 32768 + i < m * 32768 + k then (1 : Int32) else if m * 32768 + k = ν * 32768 + i then 0 else -1) = 0 by
      rw [if_neg q]
      split <;> decide)]
theorem xX2_remember {K : Nat → Int64} {ν : Nat} {f : Nat → Nat} (h : Kok K ν f) (hν : ν < 2 ^ 30) {i : Nat} (hi : i < 32768) (hf : f i < 65536) : ∃ K', m_X2_remember (lN ν) K (nI i) (lN (f i)) = some K' ∧ Kok K' ν f := by
  have hc := cl_lt i
  refine ⟨vp_updL K (cl i) (lN ((ν * 32768 + i) * 65536 + f i)), ?_, ?_⟩
  · unfold m_X2_remember
    have s16 : lN (ν * 32768 + i) <<< (((16 : Int32)).toInt64 &&& 63) = lN ((ν * 32768 + i) * 2 ^ 16) := l_shl _ (k := 16) (by decide)
    rw [xX2_cellOf hi, Option.bind_some, if_neg (nI_pos (by omega)), if_neg (show ¬ (4096 : Int32) ≤ nI (cl i) from nI_ge (b := 4096) hc (by decide)), l_tag hi, s16, l_orS' (k := 16) _ (by omega)]
    simp only [Option.bind_some]
    rw [if_pos (j_in hc (by decide)), j_clamp (by omega)]
  · intro j hj
    by_cases q : j = cl i
    · subst q
      exact ⟨ν, i, f i, by unfold vp_updL; rw [if_pos rfl], hi, hf, Nat.le_refl _, fun _ => rfl⟩
    · obtain ⟨m, k, w, e, h1, h2, h3, h4⟩ := h j hj
      exact ⟨m, k, w, by unfold vp_updL; rw [if_neg q]; exact e, h1, h2, h3, h4⟩
