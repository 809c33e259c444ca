/-! A TEXT's VALUE: the stack behind k of its codes (the reference's codes: numbers, 10000 and 10001 the names, -10 not, -9 .. -1 the signs) -/
def two (x a b : Int32) : Int32 := (f_X10_two x a b).getD 0
theorem two_e (x a b : Int32) : f_X10_two x a b = some (two x a b) := by
  unfold two f_X10_two
  repeat' split
  all_goals first | rfl | skip
  all_goals simp_all [gd]
def stkE (f0 f1 : Int32) (l : List Int32) (x : Int32) : List Int32 :=
  if x < 0 then (if x = -10 then (match l with
    | a :: r => (if a = 0 then 1 else 0) :: r
    | [] => []) else (match l with
    | b :: a :: r => two x a b :: r
    | _ => [])) else if 10000 ≤ x then (if x = 10000 then f0 else f1) :: l else x :: l
def evR (c : Nat → Int32) (f0 f1 : Int32) : Nat → List Int32
  | 0 => []
  | k + 1 => stkE f0 f1 (evR c f0 f1 k) (c k)
def dp (c : Nat → Int32) : Nat → Nat
  | 0 => 0
  | k + 1 => if c k < 0 then (if c k = -10 then dp c k else dp c k - 1) else dp c k + 1
/-- m codes that never take what isn't there, and leave one number -/
def VC (c : Nat → Int32) (m : Nat) : Prop := (∀ k, k < m → (-10 ≤ (c k).toInt ∧ (c k).toInt ≤ 10001) ∧ (c k = -10 → 1 ≤ dp c k) ∧ (c k < 0 → ¬ c k = -10 → 2 ≤ dp c k)) ∧ dp c m = 1
theorem dp_le (c : Nat → Int32) : ∀ k, dp c k ≤ k
  | 0 => Nat.le_refl 0
  | k + 1 => by
    have := dp_le c k
    unfold dp
    split
    · split <;> omega
    · omega
theorem evR_len {c : Nat → Int32} {m : Nat} (hv : VC c m) (f0 f1 : Int32) : ∀ k, k ≤ m → (evR c f0 f1 k).length = dp c k
  | 0, _ => rfl
  | k + 1, h => by
    have ih := evR_len hv f0 f1 k (by omega)
    obtain ⟨h1, h2, h3⟩ := hv.1 k (by omega)
    show (stkE f0 f1 (evR c f0 f1 k) (c k)).length = dp c (k + 1)
    unfold stkE dp
    by_cases hx : c k < 0
    · rw [if_pos hx, if_pos hx]
      by_cases hn : c k = -10
      · rw [if_pos hn, if_pos hn]
        have := h2 hn
        cases hl : evR c f0 f1 k with
        | nil => rw [hl] at ih; simp at ih; omega
        | cons a r => rw [hl] at ih; simpa using ih
      · rw [if_neg hn, if_neg hn]
        have := h3 hx hn
        cases hl : evR c f0 f1 k with
        | nil => rw [hl] at ih; simp at ih; omega
        | cons a r =>
          cases r with
          | nil => rw [hl] at ih; simp at ih; omega
          | cons b r => rw [hl] at ih; simp at ih ⊢; omega
    · rw [if_neg hx, if_neg hx]
      by_cases hn : 10000 ≤ c k
      · rw [if_pos hn]; simp [ih]
      · rw [if_neg hn]; simp [ih]
/-- a row holds a stack, its top last -/
def Stk (S : Nat → Int32) (l : List Int32) : Prop := ∀ i, i < l.length → S i = l.getD (l.length - 1 - i) 0
theorem Stk.push {S : Nat → Int32} {l : List Int32} {v : Int32} (h : Stk S l) : Stk (upd S l.length v) (v :: l) := by
  intro i hi
  simp only [List.length_cons] at hi ⊢
  by_cases e : i = l.length
  · subst e
    rw [pk_us, show l.length + 1 - 1 - l.length = 0 by omega]
    rfl
  · rw [pk_un e, h i (by omega), show l.length + 1 - 1 - i = (l.length - 1 - i) + 1 by omega]
    rfl
theorem Stk.top {S : Nat → Int32} {v : Int32} {l : List Int32} (h : Stk S (v :: l)) : S l.length = v := by
  have := h l.length (by simp)
  rw [this]
  simp
theorem Stk.pop {S : Nat → Int32} {v : Int32} {l : List Int32} (h : Stk S (v :: l)) : Stk S l := by
  intro i hi
  have := h i (by simp; omega)
  rw [this]
  simp only [List.length_cons]
  rw [show l.length + 1 - 1 - i = (l.length - 1 - i) + 1 by omega]
  rfl
theorem Stk.set {S : Nat → Int32} {v u : Int32} {l : List Int32} (h : Stk S (v :: l)) : Stk (upd S l.length u) (u :: l) := h.pop.push
theorem Stk.other {S : Nat → Int32} {l : List Int32} {j : Nat} {u : Int32} (h : Stk S l) (hj : l.length ≤ j) : Stk (upd S j u) l := fun i hi => by rw [pk_un (by omega)]; exact h i hi
def valR (c : Nat → Int32) (m : Nat) (f0 f1 : Int32) : Int32 := (evR c f0 f1 m).headD 0
theorem nI_pred1 {k : Nat} (h : 1 ≤ k) : nI k - 1 = nI (k - 1) := by
  obtain ⟨j, rfl⟩ : ∃ j, k = j + 1 := ⟨k - 1, by omega⟩
  exact nI_pred j
theorem nI_predm {k : Nat} (h : 1 ≤ k) : nI k + (-1) = nI (k - 1) := by
  obtain ⟨j, rfl⟩ : ∃ j, k = j + 1 := ⟨k - 1, by omega⟩
  exact pk_m1 j
theorem z0 : (0 : Int32) = nI 0 := rfl
theorem z1 : (1 : Int32) = nI 1 := rfl
theorem z2 : (2 : Int32) = nI 2 := rfl
theorem z3 : (3 : Int32) = nI 3 := rfl
theorem z4 : (4 : Int32) = nI 4 := rfl
theorem z5 : (5 : Int32) = nI 5 := rfl
theorem i10000 : (10000 : Int32) = nI 10000 := rfl
set_option maxHeartbeats 1000000 in
/-- the reference's worksOut: the value; only its stack is touched -/
theorem worksOut_l {N : Mem} {t m : Nat} {f0 f1 : Int32} (ht : t < 14) (hm : m ≤ 96) (hv : VC (fun j => N 1 (116 + 96 * t + j)) m) (h0 : N 16 0 = f0) (h1 : N 16 1 = f1) :
    ∀ (k i n : Nat) (M : Mem), i + k = m → k < n → (∀ j, j ≠ 15 → M j = N j) → Stk (M 15) (evR (fun j => N 1 (116 + 96 * t + j)) f0 f1 i) →
      ∃ M2, f_X10_worksOut_l21 n (nI t) (nI (dp (fun j => N 1 (116 + 96 * t + j)) i)) (nI m) (nI i) M = some (valR (fun j => N 1 (116 + 96 * t + j)) m f0 f1, M2) ∧ ∀ j, j ≠ 15 → M2 j = N j
  | 0, i, n, M, hi, hn, hM, hS => by
    obtain ⟨n, rfl⟩ : ∃ q, n = q + 1 := ⟨n - 1, by omega⟩
    have : i = m := by omega
    subst this
    rw [f_X10_worksOut_l21, if_pos (by rw [le_nI (by omega) (by omega)]; omega)]
    rw [rdl 0 z0 (by decide) (by decide)]
    refine ⟨M, ?_, hM⟩
    have hl := evR_len hv f0 f1 i (Nat.le_refl i)
    rw [hv.2] at hl
    unfold valR
    cases he : evR (fun j => N 1 (116 + 96 * t + j)) f0 f1 i with
    | nil => rw [he] at hl; cases hl
    | cons a r =>
      rw [he] at hl hS
      have : r = [] := by
        cases r with
        | nil => rfl
        | cons _ _ => simp at hl
      subst this
      have := hS.top
      simp at this
      rw [this]
      rfl
  | k + 1, i, n, M, hi, hn, hM, hS => by
    obtain ⟨n, rfl⟩ : ∃ q, n = q + 1 := ⟨n - 1, by omega⟩
    have hd := dp_le (fun j => N 1 (116 + 96 * t + j)) i
    have hl := evR_len hv f0 f1 i (by omega)
    obtain ⟨q1, q2, q3⟩ := hv.1 i (by omega)
    have hrec := fun M' a b => worksOut_l ht hm hv h0 h1 k (i + 1) n M' (by omega) (by omega) a b
    have e1 : ∀ j, evR (fun j => N 1 (116 + 96 * t + j)) f0 f1 (j + 1) = stkE f0 f1 (evR (fun j => N 1 (116 + 96 * t + j)) f0 f1 j) (N 1 (116 + 96 * t + j)) := fun j => rfl
    have e2 : ∀ j, dp (fun j => N 1 (116 + 96 * t + j)) (j + 1) = if N 1 (116 + 96 * t + j) < 0 then (if N 1 (116 + 96 * t + j) = -10 then dp (fun j => N 1 (116 + 96 * t + j)) j else dp (fun j => N 1 (116 + 96 * t + j)) j - 1) else dp (fun j => N 1 (116 + 96 * t + j)) j + 1 := fun j => rfl
    rw [e1, e2] at hrec
    rw [f_X10_worksOut_l21, if_neg (by rw [le_nI (by omega) (by omega)]; omega)]
    rw [rdl (116 + 96 * t + i) (by rw [show (116 : Int32) = nI 116 from rfl, show (96 : Int32) = nI 96 from rfl, pk_mul, nI_add, nI_add]) (by omega) (by decide)]
    rw [hM 1 (by decide)]
    dsimp only at q1 q2 q3
    generalize N 1 (116 + 96 * t + i) = x at q1 q2 q3 hrec ⊢
    generalize hc : (fun j => N 1 (116 + 96 * t + j)) = c at *
    generalize hL : evR c f0 f1 i = l at *
    generalize hD : dp c i = D at *
    by_cases hx : x < 0
    · rw [if_pos hx]
      rw [if_pos hx] at hrec
      by_cases hn10 : x = -10
      · rw [if_pos hn10]
        rw [if_pos hn10] at hrec
        have := q2 hn10
        cases l with
        | nil => simp at hl; omega
        | cons a r =>
          simp only [List.length_cons] at hl
          have ea : M 15 (D - 1) = a := by
            have := hS.top
            rw [show D - 1 = r.length by omega]
            exact this
          rw [rdl (D - 1) (nI_pred1 (by omega)) (by omega) (by decide), ea]
          have key : ∀ u : Int32, (if a = 0 then (1 : Int32) else 0) = u → ∃ M2, f_X10_worksOut_j115 (f_X10_worksOut_l21 n) (nI t) (nI D) (nI m) (nI i) u (nI D - 1) M = some (valR c m f0 f1, M2) ∧ ∀ j, j ≠ 15 → M2 j = N j := by
            intro u hu
            unfold f_X10_worksOut_j115
            rw [wrl (D - 1) (nI_pred1 (by omega)) (by omega) (by decide)]
            unfold f_X10_worksOut_j149
            rw [nm_t, nI_1]
            refine hrec _ (fun j hj => by rw [sto_n hj]; exact hM j hj) ?_
            rw [sto_s]
            unfold stkE
            rw [if_pos hx, if_pos hn10]
            simp only [hu]
            rw [show D - 1 = r.length by omega]
            exact hS.set
          by_cases ha : a = 0
          · rw [if_pos ha]
            exact key 1 (if_pos ha)
          · rw [if_neg ha]
            exact key 0 (if_neg ha)
      · rw [if_neg hn10]
        rw [if_neg hn10] at hrec
        have := q3 hx hn10
        match l, hL, hl, hS, hrec with
        | [], _, hl, _, _ => simp at hl; omega
        | [_], _, hl, _, _ => simp at hl; omega
        | b :: a :: r, hL, hl, hS, hrec =>
          simp only [List.length_cons] at hl
          have eb : M 15 (D - 1) = b := by
            have := hS.top
            rw [show D - 1 = (a :: r).length by simp; omega]
            exact this
          have ea : M 15 (D - 1 - 1) = a := by
            have := hS.pop.top
            rw [show D - 1 - 1 = r.length by omega]
            exact this
          rw [nm_t, nI_predm (by omega), rdl (D - 1 - 1) (nI_pred1 (by omega)) (by omega) (by decide), rdl (D - 1) rfl (by omega) (by decide), ea, eb, two_e, bd_s, wrl (D - 1 - 1) (nI_pred1 (by omega)) (by omega) (by decide)]
          unfold f_X10_worksOut_j149
          rw [nm_t, nI_1]
          refine hrec _ (fun j hj => by rw [sto_n hj]; exact hM j hj) ?_
          rw [sto_s]
          unfold stkE
          rw [if_pos hx, if_neg hn10]
          dsimp only
          rw [show D - 1 - 1 = r.length by omega]
          exact hS.pop.set
    · rw [if_neg hx]
      rw [if_neg hx] at hrec
      have hx0 : 0 ≤ x.toInt := by
        have := mt i32lt.mpr hx
        have h0 : (0 : Int32).toInt = 0 := rfl
        omega
      have key : ∀ u : Int32, (if 10000 ≤ x then (if x = 10000 then f0 else f1) else x) = u → ∃ M2, f_X10_worksOut_j78 (f_X10_worksOut_l21 n) (nI t) (nI D) (nI m) (nI i) u (nI D) M = some (valR c m f0 f1, M2) ∧ ∀ j, j ≠ 15 → M2 j = N j := by
        intro u hu
        unfold f_X10_worksOut_j78
        rw [wrl D rfl (by omega) (by decide), nm_t, nI_1]
        unfold f_X10_worksOut_j149
        rw [nm_t, nI_1]
        refine hrec _ (fun j hj => by rw [sto_n hj]; exact hM j hj) ?_
        rw [sto_s]
        unfold stkE
        rw [if_neg hx]
        have : (if 10000 ≤ x then (if x = 10000 then f0 else f1) :: l else x :: l) = u :: l := by
          rw [← hu]
          split <;> rfl
        rw [this, ← hl]
        exact hS.push
      by_cases hb : 10000 ≤ x
      · rw [if_pos hb]
        have hb1 := i32le.mp hb
        have h1k : (10000 : Int32).toInt = 10000 := rfl
        obtain ⟨z, hz, rfl⟩ := nI_rng 10001 hx0 q1.2
        rw [toI_nI (by omega)] at hb1
        rcases (show z = 10000 ∨ z = 10001 by omega) with rfl | rfl
        · rw [rdl 0 (show nI 10000 - 10000 = nI 0 from rfl) (by decide) (by decide), hM 16 (by decide), h0]
          exact key f0 (by rw [if_pos hb]; rfl)
        · rw [rdl 1 (show nI 10001 - 10000 = nI 1 from rfl) (by decide) (by decide), hM 16 (by decide), h1]
          exact key f1 (by rw [if_pos hb]; rfl)
      · rw [if_neg hb]
        exact key x (if_neg hb)
