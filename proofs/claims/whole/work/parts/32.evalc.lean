/-! THE CLASS's VALUE of a text: its codes are the reference's by cmC -/
def cmC (y : Int32) : Int32 := if y = 10000 then -1 else if y = 10001 then -2 else if y = -10 then -33 else if y = -9 then -47 else if y = -8 then -42 else if y = -7 then -45 else if y = -6 then -43 else if y = -5 then -62 else if y = -4 then -61 else if y = -3 then -60 else if y = -2 then -38 else if y = -1 then -124 else y
theorem neg_cases {y : Int32} (h1 : -10 ≤ y.toInt) (h2 : y < 0) : y = -10 ∨ y = -9 ∨ y = -8 ∨ y = -7 ∨ y = -6 ∨ y = -5 ∨ y = -4 ∨ y = -3 ∨ y = -2 ∨ y = -1 := by
  have h3 := i32lt.mp h2
  have h0 : (0 : Int32).toInt = 0 := rfl
  simp only [i32eq]
  have e : ∀ n : Nat, n < 11 → (Int32.ofInt (-(n : Int))).toInt = -(n : Int) := by decide
  have e1 : (-1 : Int32).toInt = -1 := rfl
  have e2 : (-2 : Int32).toInt = -2 := rfl
  have e3 : (-3 : Int32).toInt = -3 := rfl
  have e4 : (-4 : Int32).toInt = -4 := rfl
  have e5 : (-5 : Int32).toInt = -5 := rfl
  have e6 : (-6 : Int32).toInt = -6 := rfl
  have e7 : (-7 : Int32).toInt = -7 := rfl
  have e8 : (-8 : Int32).toInt = -8 := rfl
  have e9 : (-9 : Int32).toInt = -9 := rfl
  have e10 : (-10 : Int32).toInt = -10 := rfl
  omega
theorem joined_e {y : Int32} (h1 : -10 ≤ y.toInt) (h2 : y < 0) (h3 : ¬ y = -10) (a b : Int32) : f_X3_joined (-(cmC y)) a b = some (two y a b) := by
  rw [← two_e]
  rcases neg_cases h1 h2 with h | h | h | h | h | h | h | h | h | h
  · exact absurd h h3
  all_goals subst h; rfl
theorem cmC_neg {y : Int32} (h1 : -10 ≤ y.toInt) (h2 : y < 0) : cmC y < -2 := by
  rcases neg_cases h1 h2 with h | h | h | h | h | h | h | h | h | h <;> subst h <;> decide
theorem cmC_not {y : Int32} (h1 : -10 ≤ y.toInt) (h2 : y < 0) : (cmC y = -33) = (y = -10) := by
  rcases neg_cases h1 h2 with h | h | h | h | h | h | h | h | h | h <;> subst h <;> decide
theorem nI_nn {n : Nat} (h : n < 2147483648) {y : Int32} (hy : y.toInt < 0) : ¬ nI n = y := fun e => by
  have := i32eq.mp e
  rw [toI_nI h] at this
  omega
theorem cmC_small {n : Nat} (h : n < 10000) : cmC (nI n) = nI n := by
  have h1 : ¬ nI n = 10000 := by rw [i10000, eq_nI (by omega) (by omega)]; omega
  have h2 : ¬ nI n = 10001 := by rw [show (10001 : Int32) = nI 10001 from rfl, eq_nI (by omega) (by omega)]; omega
  have hq : n < 2147483648 := by omega
  unfold cmC
  rw [if_neg h1, if_neg h2, if_neg (nI_nn hq (by decide)), if_neg (nI_nn hq (by decide)), if_neg (nI_nn hq (by decide)), if_neg (nI_nn hq (by decide)), if_neg (nI_nn hq (by decide)), if_neg (nI_nn hq (by decide)), if_neg (nI_nn hq (by decide)), if_neg (nI_nn hq (by decide)), if_neg (nI_nn hq (by decide)), if_neg (nI_nn hq (by decide))]
set_option maxHeartbeats 1000000 in
theorem valueWith_l {C : Mem} {c b m : Nat} {cc : Nat → Int32} {f0 f1 : Int32} (hm : m ≤ 96) (hv : VC cc m) (hlen : C (81 + 2 * c) 1000 = nI m) (hcd : ∀ k, k < m → C (81 + 2 * c) k = cmC (cc k)) (hbc : HB b + 10 ≠ 81 + 2 * c) :
    ∀ (k i n : Nat) (M : Mem), i + k = m → k < n → (∀ j, j ≠ HB b + 10 → M j = C j) → Stk (M (HB b + 10)) (evR cc f0 f1 i) →
      ∃ M2, f_X3_valueWith_l6 c b n f0 f1 (nI (dp cc i)) (nI i) M = some (valR cc m f0 f1, M2) ∧ ∀ j, j ≠ HB b + 10 → M2 j = C j
  | 0, i, n, M, hi, hn, hM, hS => by
    obtain ⟨n, rfl⟩ : ∃ q, n = q + 1 := ⟨n - 1, by omega⟩
    have : i = m := by omega
    subst this
    rw [f_X3_valueWith_l6, hM (81 + 2 * c) hbc.symm, hlen, ix_nI (by omega)]
    rw [if_pos (by show nI i ≤ nI i; rw [le_nI (by omega) (by omega)]; omega)]
    rw [rdl 0 z0 (by decide) (by decide)]
    refine ⟨M, ?_, hM⟩
    have hl := evR_len hv f0 f1 i (Nat.le_refl i)
    rw [hv.2] at hl
    unfold valR
    cases he : evR cc f0 f1 i with
    | nil => rw [he] at hl; cases hl
    | cons a r =>
      rw [he] at hl hS
      have : r = [] := by
        cases r with
        | nil => rfl
        | cons _ _ => simp at hl
      subst this
      have := hS.top
      simp at this
      rw [this]
      rfl
  | k + 1, i, n, M, hi, hn, hM, hS => by
    obtain ⟨n, rfl⟩ : ∃ q, n = q + 1 := ⟨n - 1, by omega⟩
    have hd := dp_le cc i
    have hl := evR_len hv f0 f1 i (by omega)
    obtain ⟨q1, q2, q3⟩ := hv.1 i (by omega)
    have hrec := fun M' a b' => valueWith_l (f0 := f0) (f1 := f1) hm hv hlen hcd hbc k (i + 1) n M' (by omega) (by omega) a b'
    have e1 : ∀ j, evR cc f0 f1 (j + 1) = stkE f0 f1 (evR cc f0 f1 j) (cc j) := fun j => rfl
    have e2 : ∀ j, dp cc (j + 1) = if cc j < 0 then (if cc j = -10 then dp cc j else dp cc j - 1) else dp cc j + 1 := fun j => rfl
    rw [e1, e2] at hrec
    rw [f_X3_valueWith_l6, hM (81 + 2 * c) hbc.symm, hlen, ix_nI (by omega)]
    rw [if_neg (by show ¬ nI m ≤ nI i; rw [le_nI (by omega) (by omega)]; omega)]
    rw [rdn (by omega) (by omega), hM (81 + 2 * c) hbc.symm, hcd i (by omega)]
    generalize cc i = x at q1 q2 q3 hrec ⊢
    generalize hL : evR cc f0 f1 i = l at *
    generalize hD : dp cc i = D at *
    by_cases hx : x < 0
    · rw [if_pos (cmC_neg q1.1 hx)]
      unfold f_X3_valueWith_j72
      rw [if_pos hx] at hrec
      by_cases hn10 : x = -10
      · rw [if_pos (by rw [cmC_not q1.1 hx]; exact hn10)]
        rw [if_pos hn10] at hrec
        have := q2 hn10
        rw [if_neg (show ¬ nI D < (1 : Int32) by rw [show (1 : Int32) = nI 1 from rfl, lt_nI (by omega) (by omega)]; omega)]
        cases l with
        | nil => simp at hl; omega
        | cons a r =>
          simp only [List.length_cons] at hl
          have ea : M (HB b + 10) (D - 1) = a := by
            have := hS.top
            rw [show D - 1 = r.length by omega]
            exact this
          rw [rdl (D - 1) (nI_pred1 (by omega)) (by omega) (by decide), ea]
          have key : ∀ u : Int32, (if a = 0 then (1 : Int32) else 0) = u → ∃ M2, f_X3_valueWith_j104 c b (f_X3_valueWith_l6 c b n) f0 f1 (nI D) (nI i) u (nI D - 1) M = some (valR cc m f0 f1, M2) ∧ ∀ j, j ≠ HB b + 10 → M2 j = C j := by
            intro u hu
            unfold f_X3_valueWith_j104
            rw [wrl (D - 1) (nI_pred1 (by omega)) (by omega) (by decide)]
            unfold f_X3_valueWith_j139
            rw [nm_t, nI_1]
            refine hrec _ (fun j hj => by rw [sto_n hj]; exact hM j hj) ?_
            rw [sto_s]
            unfold stkE
            rw [if_pos hx, if_pos hn10]
            simp only [hu]
            rw [show D - 1 = r.length by omega]
            exact hS.set
          by_cases ha : a = 0
          · rw [if_pos ha]
            exact key 1 (if_pos ha)
          · rw [if_neg ha]
            exact key 0 (if_neg ha)
      · rw [if_neg (by rw [cmC_not q1.1 hx]; exact hn10)]
        rw [if_neg hn10] at hrec
        have := q3 hx hn10
        unfold f_X3_valueWith_j108
        rw [if_neg (show ¬ nI D < (2 : Int32) by rw [show (2 : Int32) = nI 2 from rfl, lt_nI (by omega) (by omega)]; omega)]
        match l, hL, hl, hS, hrec with
        | [], _, hl, _, _ => simp at hl; omega
        | [_], _, hl, _, _ => simp at hl; omega
        | y :: a :: r, hL, hl, hS, hrec =>
          simp only [List.length_cons] at hl
          have eb : M (HB b + 10) (D - 1) = y := by
            have := hS.top
            rw [show D - 1 = (a :: r).length by simp; omega]
            exact this
          have ea : M (HB b + 10) (D - 1 - 1) = a := by
            have := hS.pop.top
            rw [show D - 1 - 1 = r.length by omega]
            exact this
          rw [nm_t, nI_predm (by omega), rdl (D - 1 - 1) (nI_pred1 (by omega)) (by omega) (by decide), rdl (D - 1) rfl (by omega) (by decide), ea, eb, joined_e q1.1 hx hn10, bd_s, wrl (D - 1 - 1) (nI_pred1 (by omega)) (by omega) (by decide)]
          unfold f_X3_valueWith_j139
          rw [nm_t, nI_1]
          refine hrec _ (fun j hj => by rw [sto_n hj]; exact hM j hj) ?_
          rw [sto_s]
          unfold stkE
          rw [if_pos hx, if_neg hn10]
          dsimp only
          rw [show D - 1 - 1 = r.length by omega]
          exact hS.pop.set
    · rw [if_neg hx] at hrec
      have hx0 : 0 ≤ x.toInt := by
        have := mt i32lt.mpr hx
        have h0 : (0 : Int32).toInt = 0 := rfl
        omega
      have key : ∀ u : Int32, (if 10000 ≤ x then (if x = 10000 then f0 else f1) else x) = u → ∃ M2, f_X3_valueWith_j65 c b (f_X3_valueWith_l6 c b n) f0 f1 (nI D) (nI i) u (nI D) M = some (valR cc m f0 f1, M2) ∧ ∀ j, j ≠ HB b + 10 → M2 j = C j := by
        intro u hu
        unfold f_X3_valueWith_j65
        rw [wrl D rfl (by omega) (by decide), nm_t, nI_1]
        unfold f_X3_valueWith_j139
        rw [nm_t, nI_1]
        refine hrec _ (fun j hj => by rw [sto_n hj]; exact hM j hj) ?_
        rw [sto_s]
        unfold stkE
        rw [if_neg hx]
        have : (if 10000 ≤ x then (if x = 10000 then f0 else f1) :: l else x :: l) = u :: l := by
          rw [← hu]
          split <;> rfl
        rw [this, ← hl]
        exact hS.push
      have h96 : ¬ (Int32.ofNat 96 ≤ nI D) := by
        show ¬ nI 96 ≤ nI D
        rw [le_nI (by omega) (by omega)]
        omega
      obtain ⟨z, hz, rfl⟩ := nI_rng 10001 hx0 q1.2
      by_cases hb : z < 10000
      · have hq : z < 2147483648 := by omega
        rw [cmC_small hb, if_neg (by rw [i32lt, toI_nI (by omega), show (-2 : Int32).toInt = -2 from rfl]; omega), if_neg h96, if_neg (nI_nn hq (by decide)), if_neg (nI_nn hq (by decide))]
        exact key (nI z) (if_neg (by rw [i10000, le_nI (by omega) (by omega)]; omega))
      · rcases (show z = 10000 ∨ z = 10001 by omega) with rfl | rfl
        · rw [show cmC (nI 10000) = -1 from rfl, if_neg (by decide), if_neg h96, if_pos rfl]
          exact key f0 rfl
        · rw [show cmC (nI 10001) = -2 from rfl, if_neg (by decide), if_neg h96, if_neg (by decide), if_pos rfl]
          exact key f1 rfl
theorem valueWith_e {C : Mem} {c b m : Nat} {cc : Nat → Int32} (f0 f1 : Int32) (hm : m ≤ 96) (hv : VC cc m) (hlen : C (81 + 2 * c) 1000 = nI m) (hcd : ∀ k, k < m → C (81 + 2 * c) k = cmC (cc k)) (hbc : HB b + 10 ≠ 81 + 2 * c) :
    ∃ M2, f_X3_valueWith c b C f0 f1 = some (valR cc m f0 f1, M2) ∧ ∀ j, j ≠ HB b + 10 → M2 j = C j :=
  valueWith_l hm hv hlen hcd hbc m 0 FU C (by omega) (FU_gt (by omega)) (fun _ _ => rfl) (fun i hi => absurd hi (Nat.not_lt_zero i))
