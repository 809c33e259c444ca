theorem stepBl_at {F R : Nat → Int32} {d r : Nat} (hr : r < 8) : stepBl F d R (6 + 4 * r) = if seR R d < 8 ∧ r = seR R d then (if r = fiR R d then R (6 + 4 * r) - F d + F d else R (6 + 4 * r) + F d) else if r = fiR R d then R (6 + 4 * r) - F d else R (6 + 4 * r) := by
  unfold stepBl
  by_cases h8 : 8 ≤ seR R d
  · rw [if_pos h8, if_neg (by omega), pk_un (by omega)]
    by_cases e : r = fiR R d
    · rw [if_pos e, ← e, pk_us]
    · rw [if_neg e, pk_un (by omega)]
  · rw [if_neg h8]
    by_cases e2 : r = seR R d
    · rw [if_pos ⟨by omega, e2⟩, ← e2, pk_us]
      by_cases e : r = fiR R d
      · rw [if_pos e, ← e, pk_us]
      · rw [if_neg e, pk_un (by omega)]
    · rw [if_neg (by omega), pk_un (by omega)]
      by_cases e : r = fiR R d
      · rw [if_pos e, ← e, pk_us]
      · rw [if_neg e, pk_un (by omega)]
theorem airR_lt {R : Nat → Int32} {r : Nat} (h : r < 8) : airR R r = R (6 + 4 * r) := by unfold airR; rw [if_neg (by omega)]
set_option maxHeartbeats 1000000 in
theorem bl_b {R R0 : Nat → Int32} (hR : RowOK R) (hc : Core R R0) (ha : ∀ r, r < 8 → R0 (6 + 4 * r) = R (6 + 4 * r)) : ∀ k, k ≤ ix (R 1) → Core R (itr (stepBl (flowR R)) 0 k R0) ∧ ∀ r, r < 8 → -63 * ((k : Int) * (R (6 + 4 * r)).toInt) ≤ 1000 * ((itr (stepBl (flowR R)) 0 k R0 (6 + 4 * r)).toInt - (R (6 + 4 * r)).toInt) ∧ 1000 * ((itr (stepBl (flowR R)) 0 k R0 (6 + 4 * r)).toInt - (R (6 + 4 * r)).toInt) ≤ 63 * ((k : Int) * (9999 - (R (6 + 4 * r)).toInt))
  | 0, _ => ⟨hc, fun r hr => by
      show _ ≤ 1000 * ((R0 (6 + 4 * r)).toInt - _) ∧ 1000 * ((R0 (6 + 4 * r)).toInt - _) ≤ _
      rw [ha r hr]
      simp⟩
  | k + 1, hk => by
    obtain ⟨c1, ih⟩ := bl_b hR hc ha k (by omega)
    have hD := (dn_b hR.1).2
    obtain ⟨d10, h1, h2, -⟩ := fi_b hR.1 (d := k) (by omega)
    have fb := flow_b hR (d := k) (by omega)
    rw [itr_snoc, Nat.zero_add]
    generalize itr (stepBl (flowR R)) 0 k R0 = Rk at *
    have eF := c1.fi k
    have eS := c1.se k
    refine ⟨c1.tr (stepBl_core (by rw [eF]; exact h1)), fun r hr => ?_⟩
    obtain ⟨i1, i2⟩ := ih r hr
    have ab := (hR.2.2.2 r hr).1
    have a1 := ab.1
    have a2 := ab.2
    have m1 : ((k : Int) * (R (6 + 4 * r)).toInt) ≤ 10 * (R (6 + 4 * r)).toInt := Int.mul_le_mul_of_nonneg_right (by omega) a1
    have m2 : ((k : Int) * (9999 - (R (6 + 4 * r)).toInt)) ≤ 10 * (9999 - (R (6 + 4 * r)).toInt) := Int.mul_le_mul_of_nonneg_right (by omega) (by omega)
    have e1 : (((k + 1 : Nat) : Int) * (R (6 + 4 * r)).toInt) = (k : Int) * (R (6 + 4 * r)).toInt + (R (6 + 4 * r)).toInt := by
      rw [Int.natCast_add, Int.add_mul]
      simp
    have e2 : (((k + 1 : Nat) : Int) * (9999 - (R (6 + 4 * r)).toInt)) = (k : Int) * (9999 - (R (6 + 4 * r)).toInt) + (9999 - (R (6 + 4 * r)).toInt) := by
      rw [Int.natCast_add, Int.add_mul]
      simp
    rw [e1, e2, stepBl_at hr, eF, eS]
    have fs : -63 * 9999 ≤ 1000 * (flowR R k).toInt ∧ 1000 * (flowR R k).toInt ≤ 63 * 9999 := by
      have b1 := airR_b hR (r := fiR R k) (by omega)
      have b2 := airR_b hR (r := seR R k) (by omega)
      omega
    have sub : (Rk (6 + 4 * r) - flowR R k).toInt = (Rk (6 + 4 * r)).toInt - (flowR R k).toInt := toI_sub (by omega) (by omega)
    have add : (Rk (6 + 4 * r) + flowR R k).toInt = (Rk (6 + 4 * r)).toInt + (flowR R k).toInt := toI_add (by omega) (by omega)
    by_cases c2 : seR R k < 8 ∧ r = seR R k
    · rw [if_pos c2]
      by_cases c3 : r = fiR R k
      · rw [if_pos c3, toI_add (by rw [sub]; omega) (by rw [sub]; omega), sub]
        omega
      · rw [if_neg c3, add]
        have := airR_lt (R := R) (r := seR R k) c2.1
        rw [this, ← c2.2] at fb
        omega
    · rw [if_neg c2]
      by_cases c3 : r = fiR R k
      · rw [if_pos c3, sub]
        have := airR_lt (R := R) (r := fiR R k) (by omega)
        rw [this, ← c3] at fb
        omega
      · rw [if_neg c3]
        omega
theorem stepFi_b {R : Nat → Int32} {r : Nat} (h1 : Bd (R (6 + 4 * r)) 0 9999) (h2 : Bd (R (7 + 4 * r)) 0 9) : Bd (stepFi r R (6 + 4 * r)) 0 9999 := by
  unfold stepFi
  rw [pk_us]
  have a1 := h1.1
  have a2 := h1.2
  have b1 := h2.1
  have b2 := h2.2
  have e := toI_sub (a := R (6 + 4 * r)) (b := R (7 + 4 * r)) (by omega) (by omega)
  split
  · rename_i h
    have := i32le.mp h
    have h0 : (0 : Int32).toInt = 0 := rfl
    exact ⟨by omega, by rw [e]; omega⟩
  · exact ⟨by decide, by decide⟩
theorem fi_bd : ∀ (k i : Nat) (R : Nat → Int32), i + k = 8 → (∀ r, r < 8 → Bd (R (6 + 4 * r)) 0 9999 ∧ Bd (R (7 + 4 * r)) 0 9) → ∀ r, r < 8 → Bd (itr stepFi i k R (6 + 4 * r)) 0 9999 ∧ itr stepFi i k R (7 + 4 * r) = R (7 + 4 * r) ∧ itr stepFi i k R (8 + 4 * r) = R (8 + 4 * r) ∧ itr stepFi i k R (9 + 4 * r) = R (9 + 4 * r)
  | 0, i, R, _, h, r, hr => ⟨(h r hr).1, rfl, rfl, rfl⟩
  | k + 1, i, R, hi, h, r, hr => by
    have e7 : ∀ r, r < 8 → stepFi i R (7 + 4 * r) = R (7 + 4 * r) := fun r _ => by unfold stepFi; rw [pk_un (by omega)]
    have e8 : ∀ r, r < 8 → stepFi i R (8 + 4 * r) = R (8 + 4 * r) := fun r _ => by unfold stepFi; rw [pk_un (by omega)]
    have e9 : ∀ r, r < 8 → stepFi i R (9 + 4 * r) = R (9 + 4 * r) := fun r _ => by unfold stepFi; rw [pk_un (by omega)]
    have h2 : ∀ r, r < 8 → Bd (stepFi i R (6 + 4 * r)) 0 9999 ∧ Bd (stepFi i R (7 + 4 * r)) 0 9 := fun r hr => by
      refine ⟨?_, by rw [e7 r hr]; exact (h r hr).2⟩
      by_cases e : r = i
      · subst e; exact stepFi_b (h r hr).1 (h r hr).2
      · unfold stepFi; rw [pk_un (by omega)]; exact (h r hr).1
    obtain ⟨q1, q2, q3, q4⟩ := fi_bd k (i + 1) (stepFi i R) (by omega) h2 r hr
    exact ⟨q1, q2.trans (e7 r hr), q3.trans (e8 r hr), q4.trans (e9 r hr)⟩
/-- behind the doors and the fires all airs are within bounds -/
theorem blow_b {R R0 : Nat → Int32} (hR : RowOK R) (hc : Core R R0) (ha : ∀ r, r < 8 → R0 (6 + 4 * r) = R (6 + 4 * r) ∧ R0 (7 + 4 * r) = R (7 + 4 * r)) : ∀ r, r < 8 → Bd (blowR (flowR R) R0 (6 + 4 * r)) 0 9999 := by
  have e1 : R0 1 = R 1 := hc 1 (by omega)
  unfold blowR
  rw [e1]
  obtain ⟨c1, h1⟩ := bl_b hR hc (fun r hr => (ha r hr).1) (ix (R 1)) (Nat.le_refl _)
  have e7 : ∀ (k : Nat) (r : Nat), r < 8 → itr (stepBl (flowR R)) 0 k R0 (7 + 4 * r) = R0 (7 + 4 * r) := by
    intro k r hr
    induction k with
    | zero => rfl
    | succ k ih =>
      rw [itr_snoc, ← ih]
      unfold stepBl
      split
      · rw [pk_un (by omega), pk_un (by omega)]
      · rw [pk_un (by omega), pk_un (by omega)]
  have hD := (dn_b hR.1).2
  refine fun r hr => (fi_bd 8 0 _ rfl (fun r hr => ⟨?_, ?_⟩) r hr).1
  · have ab := (hR.2.2.2 r hr).1
    have a1 := ab.1
    have a2 := ab.2
    obtain ⟨i1, i2⟩ := h1 r hr
    have m1 : ((ix (R 1) : Int) * (R (6 + 4 * r)).toInt) ≤ 10 * (R (6 + 4 * r)).toInt := Int.mul_le_mul_of_nonneg_right (by omega) a1
    have m2 : ((ix (R 1) : Int) * (9999 - (R (6 + 4 * r)).toInt)) ≤ 10 * (9999 - (R (6 + 4 * r)).toInt) := Int.mul_le_mul_of_nonneg_right (by omega) (by omega)
    exact ⟨by omega, by omega⟩
  · rw [e7 _ r hr, (ha r hr).2]
    exact (hR.2.2.2 r hr).2
/-! a text's value in the class -/
theorem held_e {v a b : Int32} (h : a.toInt ≤ b.toInt) : f_X9_heldWithin v a b = some (clampR v a b) := by
  unfold f_X9_heldWithin clampR
  congr 1
  by_cases h1 : v < b
  · rw [if_pos h1]
    by_cases h2 : a < v
    · rw [if_pos h2, if_neg (fun q => by have := i32lt.mp q; have := i32lt.mp h2; omega), if_neg (fun q => by have := i32lt.mp q; have := i32lt.mp h1; omega)]
    · rw [if_neg h2]
      by_cases h3 : v < a
      · rw [if_pos h3]
      · rw [if_neg h3, if_neg (fun q => by have := i32lt.mp q; have := i32lt.mp h1; omega), i32eq]
        have := mt i32lt.mpr h2
        have := mt i32lt.mpr h3
        omega
  · rw [if_neg h1]
    have h1' := mt i32lt.mpr h1
    by_cases h2 : a < b
    · rw [if_pos h2]
      have h2' := i32lt.mp h2
      rw [if_neg (fun q => by have := i32lt.mp q; omega)]
      by_cases h3 : b < v
      · rw [if_pos h3]
      · rw [if_neg h3, i32eq]
        have := mt i32lt.mpr h3
        omega
    · rw [if_neg h2]
      have h2' := mt i32lt.mpr h2
      by_cases h3 : v < a
      · rw [if_pos h3]
      · rw [if_neg h3]
        have h3' := mt i32lt.mpr h3
        by_cases h4 : b < v
        · rw [if_pos h4, i32eq]; omega
        · rw [if_neg h4, i32eq]
          have := mt i32lt.mpr h4
          omega
theorem within_t {v a b : Int32} (h : a ≤ v ∧ v ≤ b) : f_X9_isWithin v a b = some 1 := by rw [f_within9, if_pos h]
theorem within_f {v a b : Int32} (h : ¬ (a ≤ v ∧ v ≤ b)) : f_X9_isWithin v a b = some 0 := by rw [f_within9, if_neg h]
theorem in_t {v a b : Int32} (h : a ≤ v ∧ v ≤ b) : f_X10_in v a b = some 1 := by rw [f_in, if_pos h]
theorem in_f {v a b : Int32} (h : ¬ (a ≤ v ∧ v ≤ b)) : f_X10_in v a b = some 0 := by rw [f_in, if_neg h]
theorem cnt_neg {R : Nat → Int32} (h : Bd (R 5) 0 14) {k : Int32} (hc : ¬ 0 ≤ cntR R k) : cntR R k = -1 := by
  rcases cntR_s h k with h1 | ⟨t, -, h2, h3, -⟩
  · exact h1
  · rw [h3] at hc
    exact absurd (nI_pos' (by omega)) hc
theorem txt_m {R : Nat → Int32} {t key m : Nat} (hT : TextOK R t) (hk : key ≤ 2) (hm : m ≤ 96) (e : R (88 + 2 * t) = nI (1000 * key + m)) : VC (fun j => R (116 + 96 * t + j)) m ∧ ix (R (88 + 2 * t)) % 1000 = m := by
  obtain ⟨key2, m2, h1, h2, h3, h4, h5⟩ := hT
  rw [e, eq_nI (by omega) (by omega)] at h4
  have : m2 = m := by omega
  subst this
  exact ⟨h5, by rw [e, ix_nI (by omega)]; omega⟩
set_option maxHeartbeats 1000000 in
theorem valueOf_c {nl : Nat} {C : Mem} {b : Nat} {R : Nat → Int32} (hb : b < 3) (hnl : nl < 100000) (hS : HS nl C b R) (hR : StrOK R) {k : Nat} (hk : k < 3) (f0 f1 w : Int32) :
    ∃ C2, f_X5_valueOf nl b C (nI k) f0 f1 w = some (if 0 ≤ cntR R (nI k) then evT R (ix (cntR R (nI k))) f0 f1 else w, C2) ∧ ∀ j, j ≠ HB b + 10 → C2 j = C j := by
  have hB := HB_lt hb
  obtain ⟨e5, h5⟩ := (show Bd (R 5) 0 ((14 : Nat) : Int) from hR.2.1).i
  unfold f_X5_valueOf
  rw [rdn hk (by decide), hS.2.2.2.2.2.1 k hk]
  by_cases hc : 0 ≤ cntR R (nI k)
  · rw [if_pos hc, if_pos hc]
    rcases cntR_s hR.2.1 (nI k) with h1 | ⟨t, h1, h2, h3, h4⟩
    · rw [h1] at hc; exact absurd hc (by decide)
    rw [h3]
    obtain ⟨c, key, m, a1, a2, a3, a4, a5, a6, a7, a8, a9, a10, a11⟩ := hS.2.2.2.2.1 t h1
    have hl : f_X5_lawAt nl b C (nI t) = some (nI c) := by
      unfold f_X5_lawAt
      rw [hS.2.1, e5, nI_pred1 (by omega), within_t ⟨nI_pos' (by omega), by rw [le_nI (by omega) (by omega)]; omega⟩, bd_s, if_neg (by decide), rdn h2 (by decide), a6, if_neg (nI_ne0 (by omega) (by omega))]
      have : lok nl (nI c) = true := by
        unfold lok
        rw [ix_nI (by omega)]
        simp
        omega
      rw [this, gd_t, nm_t]
    have hlok : lok nl (nI c) = true := by
      unfold lok
      rw [ix_nI (by omega)]
      simp
      omega
    rw [hl, bd_s, if_neg (nI_ne0 (by omega) (by omega)), hlok, gd_t, nm_t, ix_nI (by omega), ix_nI (by omega)]
    obtain ⟨vc, vm⟩ := txt_m (hR.2.2.2 t h1) a3 a5 a8
    obtain ⟨C2, w1, w2⟩ := valueWith_e (b := b) f0 f1 a5 vc a10 a11 (by omega)
    rw [w1, bd2_s]
    refine ⟨C2, ?_, w2⟩
    unfold evT
    rw [vm]
  · rw [if_neg hc, if_neg hc]
    have hl : f_X5_lawAt nl b C (-1000000005) = some 0 := by
      unfold f_X5_lawAt
      rw [within_f (fun q => absurd q.1 (by decide)), bd_s, if_pos rfl]
    rw [hl, bd_s, if_pos rfl]
    exact ⟨C, rfl, fun _ _ => rfl⟩
