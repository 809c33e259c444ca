/-! PURE BASE: numbers, readers, writers, counted loops -/
theorem ix_nI {n : Nat} (h : n < 2147483648) : ix (nI n) = n := nI_clamp h
theorem ib_nI {i n : Nat} (h : i < n) (hn : n < 2147483648) : ib (nI i) n = true := by
  rw [ib, nI_toInt (show i < 2 ^ 31 by omega), Bool.and_eq_true, decide_eq_true_eq, decide_eq_true_eq]
  omega
theorem rd_t {β : Type} {M : Mem} {k n : Nat} {i : Int32} {f : Int32 → Option β} (h : ib i n = true) : rd M k n i f = f (M k (ix i)) := by
  unfold rd
  rw [h]
theorem wr_t {β : Type} {M : Mem} {k n : Nat} {i v : Int32} {f : Mem → Option β} (h : ib i n = true) : wr M k n i v f = f (sto M k (ix i) v) := by
  unfold wr
  rw [h]
theorem rdn {β : Type} {M : Mem} {k n i : Nat} {f : Int32 → Option β} (h : i < n) (hn : n < 2147483648) : rd M k n (nI i) f = f (M k i) := by
  rw [rd_t (ib_nI h hn), ix_nI (by omega)]
theorem wrn {β : Type} {M : Mem} {k n i : Nat} {v : Int32} {f : Mem → Option β} (h : i < n) (hn : n < 2147483648) : wr M k n (nI i) v f = f (sto M k i v) := by
  rw [wr_t (ib_nI h hn), ix_nI (by omega)]
theorem rdl {β : Type} {M : Mem} {k n : Nat} {i : Int32} (j : Nat) {f : Int32 → Option β} (e : i = nI j) (h : j < n) (hn : n < 2147483648) : rd M k n i f = f (M k j) := by
  rw [e, rdn h hn]
theorem wrl {β : Type} {M : Mem} {k n : Nat} {i v : Int32} (j : Nat) {f : Mem → Option β} (e : i = nI j) (h : j < n) (hn : n < 2147483648) : wr M k n i v f = f (sto M k j v) := by
  rw [e, wrn h hn]
theorem nm_t {α β : Type} {a : α} {k : α → Option β} : nm a k = k a := rfl
theorem bd_s {α β : Type} {a : α} {k : α → Option β} : bd (some a) k = k a := rfl
theorem bd2_s {α β γ : Type} {a : α} {b : β} {k : α → β → Option γ} : bd2 (some (a, b)) k = k a b := rfl
theorem gd_t {α : Type} {k : Option α} : gd true k = k := rfl
theorem sto_s {M : Mem} {k i : Nat} {v : Int32} : sto M k i v k = upd (M k) i v := up_s
theorem sto_n {M : Mem} {k i j : Nat} {v : Int32} (h : j ≠ k) : sto M k i v j = M j := up_n h
theorem sto_ss {M : Mem} {k i : Nat} {v : Int32} : sto M k i v k i = v := by rw [sto_s]; exact pk_us
theorem sto_sn {M : Mem} {k i j : Nat} {v : Int32} (h : j ≠ i) : sto M k i v k j = M k j := by rw [sto_s]; exact pk_un h
theorem sto_up {M : Mem} {k i : Nat} {v : Int32} : sto M k i v = up M k (upd (M k) i v) := rfl
theorem up_up {M : Mem} {k : Nat} {r q : Nat → Int32} : up (up M k r) k q = up M k q := by
  funext j
  unfold up
  split <;> rfl
theorem up_id {M : Mem} {k : Nat} : up M k (M k) = M := by
  funext j
  unfold up
  split
  · rename_i h; rw [h]
  · rfl
theorem up_comm {M : Mem} {k j : Nat} {r q : Nat → Int32} (h : k ≠ j) : up (up M k r) j q = up (up M j q) k r := by
  funext i
  unfold up
  by_cases h1 : i = j
  · subst h1; rw [if_pos rfl, if_neg (fun e => h e.symm), if_pos rfl]
  · rw [if_neg h1]
    by_cases h2 : i = k
    · rw [if_pos h2, if_pos h2]
    · rw [if_neg h2, if_neg h2, if_neg h1]
/-- k steps from place i on -/
def itr {σ : Type} (f : Nat → σ → σ) : Nat → Nat → σ → σ
  | _, 0, s => s
  | i, k + 1, s => itr f (i + 1) k (f i s)
theorem itr_snoc {σ : Type} {f : Nat → σ → σ} : ∀ (k i : Nat) (s : σ), itr f i (k + 1) s = f (i + k) (itr f i k s)
  | 0, i, s => rfl
  | k + 1, i, s => by
    show itr f (i + 1) (k + 1) (f i s) = f (i + (k + 1)) (itr f (i + 1) k (f i s))
    rw [itr_snoc k (i + 1) (f i s)]
    rw [show i + 1 + k = i + (k + 1) by omega]
/-- a counted loop, up to e -/
theorem lpU {σ β : Type} (F : Nat → Nat → σ → Option β) (step : Nat → σ → σ) (Inv : Nat → σ → Prop) (ex : σ → Option β) (e : Nat)
    (hs : ∀ n d s, d < e → Inv d s → F (n + 1) d s = F n (d + 1) (step d s) ∧ Inv (d + 1) (step d s)) (hx : ∀ n s, Inv e s → F (n + 1) e s = ex s) :
    ∀ (k i n : Nat) (s : σ), i + k = e → k < n → Inv i s → F n i s = ex (itr step i k s) ∧ Inv e (itr step i k s)
  | 0, i, n, s, h, hn, hi => by
    obtain ⟨m, rfl⟩ : ∃ m, n = m + 1 := ⟨n - 1, by omega⟩
    have : i = e := by omega
    subst this
    exact ⟨hx m s hi, hi⟩
  | k + 1, i, n, s, h, hn, hi => by
    obtain ⟨m, rfl⟩ : ∃ m, n = m + 1 := ⟨n - 1, by omega⟩
    obtain ⟨h1, h2⟩ := hs m i s (by omega) hi
    obtain ⟨h3, h4⟩ := lpU F step Inv ex e hs hx k (i + 1) m (step i s) (by omega) (by omega) h2
    exact ⟨h1.trans h3, h4⟩
/-- the same, with a relation kept and no function named: all ends meet ex's -/
theorem lpR {σ β : Type} (F : Nat → Nat → σ → Option β) (Inv : Nat → σ → Prop) (P : Option β → Prop) (e : Nat)
    (hs : ∀ n d s, d < e → Inv d s → (∃ s2, F (n + 1) d s = F n (d + 1) s2 ∧ Inv (d + 1) s2) ∨ P (F (n + 1) d s)) (hx : ∀ n s, Inv e s → P (F (n + 1) e s)) :
    ∀ (k i n : Nat) (s : σ), i + k = e → k < n → Inv i s → P (F n i s)
  | 0, i, n, s, h, hn, hi => by
    obtain ⟨m, rfl⟩ : ∃ m, n = m + 1 := ⟨n - 1, by omega⟩
    have : i = e := by omega
    subst this
    exact hx m s hi
  | k + 1, i, n, s, h, hn, hi => by
    obtain ⟨m, rfl⟩ : ∃ m, n = m + 1 := ⟨n - 1, by omega⟩
    rcases hs m i s (by omega) hi with ⟨s2, h1, h2⟩ | h1
    · rw [h1]
      exact lpR F Inv P e hs hx k (i + 1) m s2 (by omega) (by omega) h2
    · exact h1
theorem FU_gt {k : Nat} (h : k < 5000) : k < FU := h
theorem lt_nI {a b : Nat} (ha : a < 2147483648) (hb : b < 2147483648) : (nI a < nI b) = (a < b) := propext (nI_ltI ha hb)
theorem le_nI {a b : Nat} (ha : a < 2147483648) (hb : b < 2147483648) : (nI a ≤ nI b) = (a ≤ b) := propext (nI_leI ha hb)
theorem eq_nI {a b : Nat} (ha : a < 2147483648) (hb : b < 2147483648) : (nI a = nI b) = (a = b) := propext (nI_eq ha hb)
theorem i32le {a b : Int32} : a ≤ b ↔ a.toInt ≤ b.toInt := Int32.le_iff_toInt_le
theorem i32lt {a b : Int32} : a < b ↔ a.toInt < b.toInt := Int32.lt_iff_toInt_lt
theorem i32eq {a b : Int32} : a = b ↔ a.toInt = b.toInt := Int32.toInt_inj.symm
theorem toI_nI {n : Nat} (h : n < 2147483648) : (nI n).toInt = (n : Int) := nI_toInt h
/-- a number between two is nI of one -/
theorem nI_rng {x : Int32} (n : Nat) (h0 : 0 ≤ x.toInt) (h1 : x.toInt ≤ (n : Int)) : ∃ k : Nat, k ≤ n ∧ x = nI k := by
  refine ⟨x.toInt.toNat, by omega, ?_⟩
  rw [i32eq]
  have h2 : x.toInt < 2147483648 := by
    have := Int32.toInt_lt x
    simpa using this
  rw [nI_toInt (by omega)]
  omega
theorem toInt_lo (x : Int32) : -2147483648 ≤ x.toInt := by
  have := Int32.le_toInt x
  simpa using this
theorem toInt_hi (x : Int32) : x.toInt < 2147483648 := by
  have := Int32.toInt_lt x
  simpa using this
theorem toI_add {a b : Int32} (h1 : -2147483648 ≤ a.toInt + b.toInt) (h2 : a.toInt + b.toInt < 2147483648) : (a + b).toInt = a.toInt + b.toInt := by
  rw [Int32.toInt_add]
  simp only [Int.bmod_def]
  omega
theorem toI_sub {a b : Int32} (h1 : -2147483648 ≤ a.toInt - b.toInt) (h2 : a.toInt - b.toInt < 2147483648) : (a - b).toInt = a.toInt - b.toInt := by
  rw [Int32.toInt_sub]
  simp only [Int.bmod_def]
  omega
theorem toI_mul {a b : Int32} (h1 : -2147483648 ≤ a.toInt * b.toInt) (h2 : a.toInt * b.toInt < 2147483648) : (a * b).toInt = a.toInt * b.toInt := by
  rw [Int32.toInt_mul]
  simp only [Int.bmod_def]
  omega
/-- whether a number lies between -/
theorem f_in (v a b : Int32) : f_X10_in v a b = some (if a ≤ v ∧ v ≤ b then 1 else 0) := by
  unfold f_X10_in
  by_cases h1 : v < a
  · rw [if_pos h1, if_neg]
    intro h
    have := i32le.mp h.1
    have := i32lt.mp h1
    omega
  · rw [if_neg h1]
    by_cases h2 : b < v
    · rw [if_pos h2, if_neg]
      intro h
      have := i32le.mp h.2
      have := i32lt.mp h2
      omega
    · rw [if_neg h2, if_pos]
      refine ⟨i32le.mpr ?_, i32le.mpr ?_⟩
      · have := mt i32lt.mpr h1
        omega
      · have := mt i32lt.mpr h2
        omega
theorem f_within9 (v a b : Int32) : f_X9_isWithin v a b = some (if a ≤ v ∧ v ≤ b then 1 else 0) := f_in v a b
def clampR (v a b : Int32) : Int32 := if v < a then a else if b < v then b else v
theorem f_clamp10 (v a b : Int32) : f_X10_within v a b = some (clampR v a b) := by
  unfold f_X10_within clampR
  by_cases h1 : v < a
  · simp only [if_pos h1]
    have : ¬ (a ≤ v) := fun h => by
      have := i32le.mp h
      have := i32lt.mp h1
      omega
    simp [this]
  · have h3 : a ≤ v := i32le.mpr (by have := mt i32lt.mpr h1; omega)
    simp only [if_neg h1, if_pos h3]
    by_cases h2 : b < v
    · have : ¬ v ≤ b := fun h => by
        have := i32le.mp h
        have := i32lt.mp h2
        omega
      simp [this, h2]
    · have h4 : v ≤ b := i32le.mpr (by have := mt i32lt.mpr h2; omega)
      simp [h4, h2]
