/-! THE CLASS's HALL b beside a row R of the reference -/
def BitsOf (x : Int32) (n : Nat) (f : Nat → Int32) : Prop := ∃ w : Nat, w < 2 ^ n ∧ x = nI w ∧ ∀ i, i < n → f i = nI (if w.testBit i then 1 else 0)
def TRel (nl : Nat) (C : Mem) (b : Nat) (R : Nat → Int32) (t : Nat) : Prop := ∃ c key m : Nat, 1 ≤ c ∧ c ≤ nl ∧ key ≤ 2 ∧ 1 ≤ m ∧ m ≤ 96 ∧ C (HB b + 8) t = nI c ∧ C (80 + 2 * c) 0 = nI key ∧ R (88 + 2 * t) = nI (1000 * key + m) ∧ C (80 + 2 * c) 1 = R (89 + 2 * t) ∧ C (81 + 2 * c) 1000 = nI m ∧ ∀ k, k < m → C (81 + 2 * c) k = cmC (R (116 + 96 * t + k))
/-- doors and texts -/
def HS (nl : Nat) (C : Mem) (b : Nat) (R : Nat → Int32) : Prop :=
  C (HB b + 1) 0 = R 1 ∧ C (HB b + 6) 0 = R 5 ∧ (∀ d, d < ix (R 1) → C (HB b + 2) d = R (38 + 5 * d) ∧ C (HB b + 3) d = R (39 + 5 * d) ∧ C (HB b + 4) d = R (40 + 5 * d) ∧ C (HB b + 5) d = R (41 + 5 * d)) ∧
  BitsOf (C (HB b + 1) 1) (ix (R 1)) (fun d => R (42 + 5 * d)) ∧ (∀ t, t < ix (R 5) → TRel nl C b R t) ∧
  (∀ k, k < 3 → C (HB b + 7) k = if 0 ≤ cntR R (nI k) then cntR R (nI k) else -1000000005) ∧
  ∀ k w o : Nat, k < 6 → 1 ≤ w → w ≤ 9 → o ≤ 1 → C (HB b + 9) ((k * 10 + w) * 2 + o) = kLets (nI k) (plainR R (nI w) (nI o)) (nI w) (nI o)
/-- airs, fires, scents, candles and the rest -/
def HDy (C : Mem) (b : Nat) (R : Nat → Int32) : Prop :=
  C (HB b) 8 = R 0 ∧ C (HB b) 7 = R 2 ∧ C (HB b) 6 = R 4 ∧ C (HB b + 11) 8 = R 3 ∧ (∀ r, r < 8 → C (HB b + 11) r = R (6 + 4 * r) ∧ C (HB b + 12) r = R (7 + 4 * r) ∧ C (HB b + 13) r = R (8 + 4 * r)) ∧ BitsOf (C (HB b) 5) 8 (fun r => R (9 + 4 * r))
def DoorOK (R : Nat → Int32) (d : Nat) : Prop := Bd (R (38 + 5 * d)) 0 5 ∧ Bd (R (39 + 5 * d)) 0 7 ∧ Bd (R (40 + 5 * d)) 0 8 ∧ Bd (R (41 + 5 * d)) 1 9 ∧ Bd (R (42 + 5 * d)) 0 1
def RowOK (R : Nat → Int32) : Prop := StrOK R ∧ Bd (R 3) 0 9999 ∧ (∀ d, d < ix (R 1) → DoorOK R d) ∧ ∀ r, r < 8 → Bd (R (6 + 4 * r)) 0 9999 ∧ Bd (R (7 + 4 * r)) 0 9
theorem HB_ne {b i j : Nat} (h : i ≠ j) : HB b + i ≠ HB b + j := by omega
/-- another hall's, or a Law's, regions -/
theorem HS.mono {nl : Nat} {C C2 : Mem} {b : Nat} {R R2 : Nat → Int32} (h : HS nl C b R) (hc : ∀ j, 1 ≤ j → j ≤ 9 → C2 (HB b + j) = C (HB b + j)) (hl : ∀ k, 82 ≤ k → C2 k = C k) (hr : Core R R2) : HS nl C2 b R2 := by
  obtain ⟨h1, h2, h3, h4, h5, h6, h7⟩ := h
  have e1 := hr 1 (by omega)
  have e5 := hr 5 (by omega)
  refine ⟨by rw [hc 1 (by omega) (by omega), e1]; exact h1, by rw [hc 6 (by omega) (by omega), e5]; exact h2, fun d hd => ?_, ?_, fun t ht => ?_, fun k hk => ?_, fun k w o a1 a2 a3 a4 => ?_⟩
  · rw [e1] at hd
    rw [hc 2 (by omega) (by omega), hc 3 (by omega) (by omega), hc 4 (by omega) (by omega), hc 5 (by omega) (by omega), hr _ (by omega), hr _ (by omega), hr _ (by omega), hr _ (by omega)]
    exact h3 d hd
  · rw [hc 1 (by omega) (by omega), e1]
    obtain ⟨w, q1, q2, q3⟩ := h4
    exact ⟨w, q1, q2, fun i hi => by dsimp only; rw [hr _ (by omega)]; exact q3 i hi⟩
  · rw [e5] at ht
    obtain ⟨c, key, m, a1, a2, a3, a4, a5, a6, a7, a8, a9, a10, a11⟩ := h5 t ht
    refine ⟨c, key, m, a1, a2, a3, a4, a5, by rw [hc 8 (by omega) (by omega)]; exact a6, by rw [hl _ (by omega)]; exact a7, by rw [hr _ (by omega)]; exact a8, by rw [hl _ (by omega), hr _ (by omega)]; exact a9, by rw [hl _ (by omega)]; exact a10, fun k hk => by rw [hl _ (by omega), hr _ (by omega)]; exact a11 k hk⟩
  · rw [hc 7 (by omega) (by omega), hr.cnt]
    exact h6 k hk
  · rw [hc 9 (by omega) (by omega), hr.pl]
    exact h7 k w o a1 a2 a3 a4
theorem bit_nI {w d : Nat} (hw : w < 65536) (hd : d < 16) : (nI w >>> (nI d &&& 31)) &&& 1 = nI (if w.testBit d then 1 else 0) := by
  have e1 : (nI d &&& 31 : Int32) = nI d := by
    rw [show (31 : Int32) = nI (2 ^ 5 - 1) from rfl]
    have := pk_andN (n := d) (by omega) (m := nI (2 ^ 5 - 1)) 5 rfl
    rw [this, Nat.mod_eq_of_lt (by omega)]
  have e2 : ((nI d).toBitVec.smod 32).toNat = d := by
    have : ∀ q : Fin 16, ((nI q.val).toBitVec.smod 32).toNat = q.val := by decide
    exact this ⟨d, hd⟩
  rw [e1, pk_shrN (by omega) (nI d) d e2]
  have := pk_andN (n := w / 2 ^ d) (by have := Nat.div_le_self w (2 ^ d); omega) (m := (1 : Int32)) 1 rfl
  rw [this]
  have e3 : w.testBit d = decide (w / 2 ^ d % 2 = 1) := by
    rw [Nat.testBit_eq_decide_div_mod_eq]
  rw [e3]
  rcases Nat.mod_two_eq_zero_or_one (w / 2 ^ d) with h | h <;> simp [h]
theorem BitsOf.bit {x : Int32} {n : Nat} {f : Nat → Int32} (h : BitsOf x n f) (hn : n ≤ 16) {d : Nat} (hd : d < n) : (x >>> (nI d &&& 31)) &&& 1 = f d := by
  obtain ⟨w, h1, h2, h3⟩ := h
  rw [h2, h3 d hd]
  exact bit_nI (Nat.lt_of_lt_of_le h1 (Nat.le_trans (Nat.pow_le_pow_right (by decide) hn) (by decide))) (by omega)
theorem door_n {R : Nat → Int32} (h : RowOK R) {d : Nat} (hd : d < ix (R 1)) : ∃ k w o : Nat, R (38 + 5 * d) = nI k ∧ k < 6 ∧ R (41 + 5 * d) = nI w ∧ 1 ≤ w ∧ w ≤ 9 ∧ R (42 + 5 * d) = nI o ∧ o ≤ 1 := by
  obtain ⟨a1, a2, a3, a4, a5⟩ := h.2.2.1 d hd
  obtain ⟨k, hk, ek⟩ := (show Bd (R (38 + 5 * d)) 0 ((5 : Nat) : Int) from a1).n
  obtain ⟨w, hw, ew⟩ := (show Bd (R (41 + 5 * d)) 0 ((9 : Nat) : Int) from ⟨by have := a4.1; omega, a4.2⟩).n
  obtain ⟨o, ho, eo⟩ := (show Bd (R (42 + 5 * d)) 0 ((1 : Nat) : Int) from a5).n
  have h1 := a4.1
  rw [ew, toI_nI (by omega)] at h1
  exact ⟨k, w, o, ek, by omega, ew, by omega, hw, eo, ho⟩
theorem letsOf_c {nl : Nat} {C : Mem} {b : Nat} {R : Nat → Int32} (hS : HS nl C b R) (hR : RowOK R) {d : Nat} (hd : d < ix (R 1)) : f_X1_letsOf b C (nI d) = some (letR R d) := by
  obtain ⟨d10, -⟩ := fi_b hR.1 hd
  obtain ⟨k, w, o, e1, e2, e3, e4, e5, e6, e7⟩ := door_n hR hd
  have hq := hS.2.2.1 d hd
  unfold f_X1_letsOf
  rw [rdn d10 (by decide), rdn d10 (by decide), hq.1, hq.2.2.2, hS.2.2.2.1.bit (by have := (dn_b hR.1).2; omega) hd]
  unfold f_X5_letsOf letR
  rw [e1, e3, e6, rdl ((k * 10 + w) * 2 + o) (by rw [show (10 : Int32) = nI 10 from rfl, z2, pk_mul, nI_add, pk_mul, nI_add]) (by omega) (by decide), bd_s, hS.2.2.2.2.2.2 k w o e2 e4 e5 e7]
theorem tdiv_small (x : Int) (h1 : -700000 ≤ x) (h2 : x ≤ 700000) : -700 ≤ x.tdiv 1000 ∧ x.tdiv 1000 ≤ 700 := by
  rcases Int.le_total 0 x with h | h
  · have := Int.tdiv_eq_ediv_of_nonneg (b := 1000) h
    omega
  · have e : x.tdiv 1000 = -((-x).tdiv 1000) := by rw [Int.neg_tdiv]; omega
    have := Int.tdiv_eq_ediv_of_nonneg (a := -x) (b := 1000) (by omega)
    omega
/-- small numbers: the product is the same in an int and in a long -/
theorem flow_eq {a b : Int32} (ha : -9999 ≤ a.toInt ∧ a.toInt ≤ 9999) (hb : 0 ≤ b.toInt ∧ b.toInt ≤ 63) : ((a.toInt64 * b.toInt64) / 1000).toInt32 = (a * b) / 1000 := by
  have p1 : -629937 ≤ a.toInt * b.toInt ∧ a.toInt * b.toInt ≤ 629937 := by
    constructor
    · have := Int.mul_le_mul_of_nonneg_right ha.1 hb.1
      have h2 : -9999 * 63 ≤ -9999 * b.toInt := by omega
      omega
    · have := Int.mul_le_mul_of_nonneg_right ha.2 hb.1
      omega
  have e1 : (a * b).toInt = a.toInt * b.toInt := toI_mul (by omega) (by omega)
  have e2 : (a.toInt64 * b.toInt64).toInt = a.toInt * b.toInt := by
    rw [Int64.toInt_mul, Int32.toInt_toInt64, Int32.toInt_toInt64]
    simp only [Int.bmod_def]
    omega
  have td := tdiv_small (a.toInt * b.toInt) (by omega) (by omega)
  rw [i32eq, Int32.toInt_div, Int64.toInt_toInt32, Int64.toInt_div, e1, e2, show (1000 : Int32).toInt = 1000 from rfl, show (1000 : Int64).toInt = 1000 from rfl]
  simp only [Int.bmod_def]
  omega
theorem clamp_b {v a b : Int32} (h : a.toInt ≤ b.toInt) : a.toInt ≤ (clampR v a b).toInt ∧ (clampR v a b).toInt ≤ b.toInt := by
  unfold clampR
  by_cases h1 : v < a
  · rw [if_pos h1]; omega
  · rw [if_neg h1]
    have := mt i32lt.mpr h1
    by_cases h2 : b < v
    · rw [if_pos h2]; omega
    · rw [if_neg h2]
      have := mt i32lt.mpr h2
      omega
theorem plain_b {R : Nat → Int32} {w o : Nat} (hw : w ≤ 9) : 0 ≤ (plainR R (nI w) (nI o)).toInt ∧ (plainR R (nI w) (nI o)).toInt ≤ 60 := by
  unfold plainR
  split
  · exact clamp_b (by decide)
  · split
    · rw [show (6 : Int32) = nI 6 from rfl, pk_mul, toI_nI (by omega)]
      omega
    · decide
theorem half_b {p : Int32} (h : 0 ≤ p.toInt ∧ p.toInt ≤ 60) : 0 ≤ (p / 2).toInt ∧ (p / 2).toInt ≤ 30 := by
  obtain ⟨n, hn, rfl⟩ := nI_rng 60 h.1 h.2
  rw [z2, pk_div (by omega) (by decide) (by decide), toI_nI (by omega)]
  omega
theorem kLets_b {k p w o : Int32} (hp : 0 ≤ p.toInt ∧ p.toInt ≤ 60) (hw : 1 ≤ w.toInt ∧ w.toInt ≤ 9) : 0 ≤ (kLets k p w o).toInt ∧ (kLets k p w o).toInt ≤ 63 := by
  have h2 := half_b hp
  have h3 : (p + 3).toInt = p.toInt + 3 := toI_add (by rw [show (3 : Int32).toInt = 3 from rfl]; omega) (by rw [show (3 : Int32).toInt = 3 from rfl]; omega)
  have h4 := clamp_b (v := p + 3) (a := 0) (b := 10) (by decide)
  rw [show (0 : Int32).toInt = 0 from rfl, show (10 : Int32).toInt = 10 from rfl] at h4
  unfold kLets
  repeat' split
  all_goals first | omega | skip
  all_goals simp
theorem letR_b {R : Nat → Int32} (hR : RowOK R) {d : Nat} (hd : d < ix (R 1)) : 0 ≤ (letR R d).toInt ∧ (letR R d).toInt ≤ 63 := by
  obtain ⟨k, w, o, e1, e2, e3, e4, e5, e6, e7⟩ := door_n hR hd
  unfold letR
  rw [e3, e6]
  exact kLets_b (plain_b e5) (by rw [toI_nI (by omega)]; omega)
theorem airR_b {R : Nat → Int32} (hR : RowOK R) {r : Nat} (hr : r < 9) : 0 ≤ (airR R r).toInt ∧ (airR R r).toInt ≤ 9999 := by
  unfold airR
  split
  · exact hR.2.1
  · exact (hR.2.2.2 r (by omega)).1
theorem flowR_eq {R : Nat → Int32} (hR : RowOK R) {d : Nat} (hd : d < ix (R 1)) : flowR R d = (airR R (fiR R d) - airR R (seR R d)) * letR R d / 1000 := by
  obtain ⟨d10, h1, h2, -⟩ := fi_b hR.1 hd
  have a1 := airR_b hR (r := fiR R d) (by omega)
  have a2 := airR_b hR (r := seR R d) (by omega)
  have e := toI_sub (a := airR R (fiR R d)) (b := airR R (seR R d)) (by omega) (by omega)
  unfold flowR
  exact flow_eq (by omega) (letR_b hR hd)
theorem air_c {C : Mem} {b : Nat} {R : Nat → Int32} (h : HDy C b R) {r : Nat} (hr : r < 9) : C (HB b + 11) r = airR R r := by
  unfold airR
  by_cases e : r = 8
  · subst e; rw [if_pos rfl]; exact h.2.2.2.1
  · rw [if_neg e]; exact (h.2.2.2.2.1 r (by omega)).1
theorem flowOf_c {nl : Nat} {C : Mem} {b : Nat} {R : Nat → Int32} (hS : HS nl C b R) (hair : ∀ r, r < 9 → C (HB b + 11) r = airR R r) (hR : RowOK R) {d : Nat} (hd : d < ix (R 1)) : f_X1_flowOf b C (nI d) = some (flowR R d) := by
  obtain ⟨d10, h1, h2, ef, es⟩ := fi_b hR.1 hd
  have hq := hS.2.2.1 d hd
  unfold f_X1_flowOf
  rw [rdn d10 (by decide), hq.2.1, ef, rdn (by omega) (by decide), rdn d10 (by decide), hq.2.2.1, es, rdn (by omega) (by decide), letsOf_c hS hR hd, bd_s, hair _ (by omega), hair _ (by omega), flowR_eq hR hd]
