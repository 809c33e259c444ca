/-! sets by bits; filled rows -/
def clrB (w d : Nat) : Nat := w &&& (1023 ^^^ 2 ^ d)
def setB (w d : Nat) : Nat := w ||| 2 ^ d
theorem clr_e0 : ∀ w : Fin 1024, ∀ d : Fin 10, nI w.val &&& (((1 : Int32) <<< (nI d.val &&& 31)) ^^^ (-1)) = nI (clrB w.val d.val) := by decide +kernel
theorem set_e0 : ∀ w : Fin 1024, ∀ d : Fin 10, nI w.val ||| ((1 : Int32) <<< (nI d.val &&& 31)) = nI (setB w.val d.val) := by decide +kernel
theorem clr_e {w d : Nat} (hw : w < 1024) (hd : d < 10) : nI w &&& (((1 : Int32) <<< (nI d &&& 31)) ^^^ (-1)) = nI (clrB w d) := clr_e0 ⟨w, hw⟩ ⟨d, hd⟩
theorem set_e {w d : Nat} (hw : w < 1024) (hd : d < 10) : nI w ||| ((1 : Int32) <<< (nI d &&& 31)) = nI (setB w d) := set_e0 ⟨w, hw⟩ ⟨d, hd⟩
theorem t1023 {i : Nat} (h : i < 10) : (1023 : Nat).testBit i = true := by
  have : ∀ q : Fin 10, (1023 : Nat).testBit q.val = true := by decide
  exact this ⟨i, h⟩
theorem clr_t {w d i : Nat} (hi : i < 10) : (clrB w d).testBit i = (decide (i ≠ d) && w.testBit i) := by
  unfold clrB
  rw [Nat.testBit_and, Nat.testBit_xor, t1023 hi, Nat.testBit_two_pow]
  by_cases e : d = i
  · simp [e]
  · simp [e, Ne.symm e]
theorem set_t {w d i : Nat} : (setB w d).testBit i = (decide (i = d) || w.testBit i) := by
  unfold setB
  rw [Nat.testBit_or, Nat.testBit_two_pow]
  by_cases e : d = i
  · simp [e]
  · simp [e, Ne.symm e]
theorem clr_lt {w d n : Nat} (h : w < 2 ^ n) : clrB w d < 2 ^ n := Nat.lt_of_le_of_lt Nat.and_le_left h
theorem set_lt {w d n : Nat} (h : w < 2 ^ n) (hd : d < n) : setB w d < 2 ^ n := Nat.or_lt_two_pow h (Nat.pow_lt_pow_right (by decide) hd)
theorem pow_le10 {n : Nat} (hn : n ≤ 10) : 2 ^ n ≤ 1024 := Nat.pow_le_pow_right (by decide) hn
theorem BitsOf.clr {x : Int32} {n : Nat} {f g : Nat → Int32} (h : BitsOf x n f) (hn : n ≤ 10) {d : Nat} (hd : d < n) (hg : ∀ i, i < n → g i = if i = d then 0 else f i) : BitsOf (x &&& (((1 : Int32) <<< (nI d &&& 31)) ^^^ (-1))) n g := by
  obtain ⟨w, h1, h2, h3⟩ := h
  have := pow_le10 hn
  refine ⟨clrB w d, clr_lt h1, by rw [h2, clr_e (by omega) (by omega)], fun i hi => ?_⟩
  rw [hg i hi, clr_t (by omega)]
  by_cases e : i = d
  · simp [e]; rfl
  · rw [if_neg e, h3 i hi]; simp [e]
theorem BitsOf.set {x : Int32} {n : Nat} {f g : Nat → Int32} (h : BitsOf x n f) (hn : n ≤ 10) {d : Nat} (hd : d < n) (hg : ∀ i, i < n → g i = if i = d then 1 else f i) : BitsOf (x ||| ((1 : Int32) <<< (nI d &&& 31))) n g := by
  obtain ⟨w, h1, h2, h3⟩ := h
  have := pow_le10 hn
  refine ⟨setB w d, set_lt h1 hd, by rw [h2, set_e (by omega) (by omega)], fun i hi => ?_⟩
  rw [hg i hi, set_t]
  by_cases e : i = d
  · simp [e]; rfl
  · rw [if_neg e, h3 i hi]; simp [e]
theorem BitsOf.cong {x : Int32} {n : Nat} {f g : Nat → Int32} (h : BitsOf x n f) (hg : ∀ i, i < n → g i = f i) : BitsOf x n g := by
  obtain ⟨w, h1, h2, h3⟩ := h
  exact ⟨w, h1, h2, fun i hi => by rw [hg i hi]; exact h3 i hi⟩
def pop (w : Nat) : Nat := (List.range 10).foldl (fun a i => a + if w.testBit i then 1 else 0) 0
theorem bc_e0 : ∀ w : Fin 1024, f_J6_bitCount_0f7a4 (nI w.val) = some (nI (pop w.val)) := by decide +kernel
theorem bc_e {w : Nat} (h : w < 1024) : f_J6_bitCount_0f7a4 (nI w) = some (nI (pop w)) := bc_e0 ⟨w, h⟩
/-- Arrays.fill -/
theorem fill_e {k n : Nat} {M : Mem} {v : Int32} (hn : n ≤ 100) : ∃ M2, f_J7_fill_53178 k n M v = some M2 ∧ (∀ j, j ≠ k → M2 j = M j) ∧ (∀ i, i < n → M2 k i = v) ∧ ∀ i, n ≤ i → M2 k i = M k i := by
  unfold f_J7_fill_53178
  rw [nm_t, z0]
  show ∃ M2, f_J7_fill_53178_l5 k n FU v (nI 0) (nI n) M = some M2 ∧ _
  refine lpR (fun q d s => f_J7_fill_53178_l5 k n q v (nI d) (nI n) s) (fun d s => (∀ j, j ≠ k → s j = M j) ∧ (∀ i, i < d → s k i = v) ∧ ∀ i, d ≤ i → s k i = M k i) (fun o => ∃ M2, o = some M2 ∧ (∀ j, j ≠ k → M2 j = M j) ∧ (∀ i, i < n → M2 k i = v) ∧ ∀ i, n ≤ i → M2 k i = M k i) n ?_ ?_ n 0 FU M (by omega) (FU_gt (by omega)) ⟨fun _ _ => rfl, fun i hi => absurd hi (Nat.not_lt_zero i), fun _ _ => rfl⟩
  · intro q d s hd ⟨i1, i2, i3⟩
    left
    refine ⟨sto s k d v, ?_, fun j hj => by rw [sto_n hj, i1 j hj], fun i hi => ?_, fun i hi => by rw [sto_sn (by omega)]; exact i3 i (by omega)⟩
    · rw [f_J7_fill_53178_l5, if_neg (by rw [le_nI (by omega) (by omega)]; omega), wrn hd (by omega), nm_t, nI_1]
    · by_cases e : i = d
      · subst e; rw [sto_ss]
      · rw [sto_sn e]; exact i2 i (by omega)
  · intro q s ⟨i1, i2, i3⟩
    rw [f_J7_fill_53178_l5, if_pos (by rw [le_nI (by omega) (by omega)]; omega)]
    exact ⟨s, rfl, i1, i2, i3⟩
theorem cp_t {β : Type} {M : Mem} {k1 n1 k2 n2 : Nat} {n : Nat} {f : Mem → Option β} (h1 : n ≤ n1) (h2 : n ≤ n2) (hn : n < 2147483648) : cp M k1 n1 0 k2 n2 0 (nI n) f = f (up M k2 (va_cpy (M k1) (M k2) 0 0 n)) := by
  have hok : cpok n1 n2 0 0 (nI n) = true := by
    unfold cpok
    rw [ix_nI hn, toI_nI hn, show ix 0 = 0 from rfl]
    simp
    omega
  unfold cp
  rw [hok, ix_nI hn]
  rfl
theorem cpy0 {f g : Nat → Int32} {n i : Nat} (h : i < n) : va_cpy f g 0 0 n i = f i := by
  rw [pk_cpy_in (Nat.zero_le i) (by omega)]
  congr 1
  omega
