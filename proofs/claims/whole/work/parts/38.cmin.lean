/-! THE CLASS's MINUTE -/
theorem abs_c (x : Int32) : (if 0 ≤ x then x else 0 - x) = absR x := by
  unfold absR
  split
  · rfl
  · rw [Int32.zero_sub]
theorem HB_lt {b : Nat} (hb : b < 3) : HB b ≤ 35 := by unfold HB; omega
def MFpost (C C2 : Mem) (b : Nat) (R : Nat → Int32) : Prop := (∀ k, k ≠ HB b + 14 → k ≠ HB b + 15 → C2 k = C k) ∧ (∀ d, d < ix (R 1) → C2 (HB b + 14) d = flowR R d) ∧ ∀ r, r < 9 → C2 (HB b + 15) r = drR R (ix (R 1)) r
set_option maxHeartbeats 1000000 in
theorem measureFlows_c {nl : Nat} {C : Mem} {b : Nat} {R : Nat → Int32} (hb : b < 3) (hS : HS nl C b R) (hair : ∀ r, r < 9 → C (HB b + 11) r = airR R r) (hR : RowOK R) : ∃ C2, f_X1_measureFlows b C = some C2 ∧ MFpost C C2 b R := by
  obtain ⟨e0, h0⟩ := dn_b hR.1
  have hB := HB_lt hb
  unfold f_X1_measureFlows
  obtain ⟨C1, a1, a2, a3, a4⟩ := fill_e (k := HB b + 15) (n := 9) (M := C) (v := 0) (by decide)
  rw [a1, bd_s, z0]
  refine lpR (fun n d s => f_X1_measureFlows_l10 b n (nI d) s) (fun d s => (∀ k, k ≠ HB b + 14 → k ≠ HB b + 15 → s k = C k) ∧ (∀ q, q < d → s (HB b + 14) q = flowR R q) ∧ ∀ r, r < 9 → s (HB b + 15) r = drR R d r) (fun o => ∃ C2, o = some C2 ∧ MFpost C C2 b R) (ix (R 1)) ?_ ?_ (ix (R 1)) 0 FU C1 (by omega) (FU_gt (by omega)) ⟨fun k _ h => a2 k h, fun q hq => absurd hq (Nat.not_lt_zero q), fun r hr => a3 r hr⟩
  · intro n d s hd ⟨i1, i2, i3⟩
    left
    obtain ⟨d10, hf, hs, ef, es⟩ := fi_b hR.1 hd
    have hSs : HS nl s b R := hS.mono (fun j _ _ => i1 _ (by omega) (by omega)) (fun k hk => i1 k (by omega) (by omega)) Core.rf
    have airs : ∀ r, r < 9 → s (HB b + 11) r = airR R r := fun r hr => by rw [i1 _ (by omega) (by omega)]; exact hair r hr
    have hq := hS.2.2.1 d hd
    have c1 : s (HB b + 1) 0 = nI (ix (R 1)) := by rw [hSs.1]; exact e0
    have o1 : ∀ k, k ≠ HB b + 14 → sto s (HB b + 14) d (flowR R d) k = s k := fun k hk => sto_n hk
    rw [f_X1_measureFlows_l10, c1, if_neg (by rw [le_nI (by omega) (by omega)]; omega), flowOf_c hSs airs hR hd, bd_s, wrn d10 (by decide), rdn d10 (by decide), sto_ss, nm_t, abs_c, rdn d10 (by decide), o1 (HB b + 3) (by omega), i1 (HB b + 3) (by omega) (by omega), hq.2.1, ef, rdn (by omega) (by decide), wrn (by omega) (by decide), rdn d10 (by decide), sto_n (show HB b + 4 ≠ HB b + 15 by omega), o1 (HB b + 4) (by omega), i1 (HB b + 4) (by omega) (by omega), hq.2.2.1, es, rdn (by omega) (by decide), wrn (by omega) (by decide), nm_t, nI_1]
    refine ⟨_, rfl, ?_, fun q hq => ?_, fun r hr => ?_⟩
    · intro k h1 h2
      rw [sto_n h2, sto_n h2, o1 k h1, i1 k h1 h2]
    · rw [sto_n (show HB b + 14 ≠ HB b + 15 by omega), sto_n (show HB b + 14 ≠ HB b + 15 by omega)]
      by_cases e : q = d
      · subst e; rw [sto_ss]
      · rw [sto_sn e]; exact i2 q (by omega)
    · have e5 : ∀ r, r < 9 → sto s (HB b + 14) d (flowR R d) (HB b + 15) r = drR R d r := fun r hr => by rw [o1 _ (by omega)]; exact i3 r hr
      have e5' : ∀ r, r < 9 → sto (sto s (HB b + 14) d (flowR R d)) (HB b + 15) (fiR R d) (sto s (HB b + 14) d (flowR R d) (HB b + 15) (fiR R d) + absR (flowR R d)) (HB b + 15) r = upd (drR R d) (fiR R d) (drR R d (fiR R d) + absR (flowR R d)) r := fun r hr => by
        rw [sto_s, e5 _ (by omega)]
        by_cases e : r = fiR R d
        · subst e; rw [pk_us, pk_us]
        · rw [pk_un e, pk_un e, e5 r hr]
      show _ = stepD R d (drR R d) r
      unfold stepD
      rw [sto_s, e5' _ (by omega)]
      by_cases e : r = seR R d
      · subst e; rw [pk_us, pk_us]
      · rw [pk_un e, pk_un e, e5' r hr]
  · intro n s ⟨i1, i2, i3⟩
    rw [f_X1_measureFlows_l10, i1 (HB b + 1) (by omega) (by omega), hS.1, if_pos (by rw [← e0]; exact i32le.mpr (Int.le_refl _))]
    exact ⟨s, rfl, i1, i2, i3⟩
theorem den_c (x : Int32) : (if (1 : Int32) < x then x else 1) = if 1 ≤ x then x else 1 := by
  by_cases h : (1 : Int32) < x
  · rw [if_pos h, if_pos (i32le.mpr (by have := i32lt.mp h; omega))]
  · rw [if_neg h]
    by_cases h2 : 1 ≤ x
    · rw [if_pos h2, i32eq]
      have := i32le.mp h2
      have := mt i32lt.mpr h
      omega
    · rw [if_neg h2]
theorem den1 (x : Int32) : 1 ≤ (if 1 ≤ x then x else 1) := by
  split
  · assumption
  · exact i32le.mpr (Int.le_refl _)
theorem goes_c (q : Int64) (x : Int32) : (if x.toInt64 < q then x.toInt64 else q).toInt32 = goesR q x := by
  unfold goesR
  have h : (lg_cmp q x.toInt64 ≤ 0) = ¬ (x.toInt64 < q) := by
    unfold lg_cmp
    apply propext
    by_cases h1 : x.toInt64 < q
    · have h2 : ¬ q < x.toInt64 := fun h2 => by
        have a := Int64.lt_iff_toInt_lt.mp h1
        have b := Int64.lt_iff_toInt_lt.mp h2
        omega
      have h3 : ¬ q = x.toInt64 := fun e => by
        have a := Int64.lt_iff_toInt_lt.mp h1
        rw [e] at a
        omega
      simp [h1, h2, h3]
      try decide
    · by_cases h3 : q = x.toInt64
      · simp [h3]
      · have h2 : q < x.toInt64 := by
          apply Int64.lt_iff_toInt_lt.mpr
          have a := mt Int64.lt_iff_toInt_lt.mpr h1
          have b := mt Int64.toInt_inj.mp h3
          omega
        simp [h1, h2, h3]
        try decide
  by_cases h1 : x.toInt64 < q
  · rw [if_pos h1, if_neg (by rw [h]; exact fun z => z h1)]
    exact Int32.toInt32_toInt64 x
  · rw [if_neg h1, if_pos (by rw [h]; exact h1)]
set_option maxHeartbeats 2000000 in
theorem carryScent_c {nl : Nat} {C : Mem} {b : Nat} {R : Nat → Int32} (hb : b < 3) (hS : HS nl C b R) (hR : StrOK R) (hfl : ∀ d, d < ix (R 1) → C (HB b + 14) d = flowR R d) (hair : ∀ r, r < 8 → C (HB b + 11) r = R (6 + 4 * r)) (hsc : ∀ r, r < 8 → C (HB b + 13) r = R (8 + 4 * r)) :
    ∃ C2, f_X1_carryScent b C = some C2 ∧ (∀ k, k ≠ HB b + 13 → k ≠ HB b + 16 → C2 k = C k) ∧ ∀ r, r < 8 → C2 (HB b + 13) r = carR R (8 + 4 * r) := by
  obtain ⟨e0, h0⟩ := dn_b hR
  have hB := HB_lt hb
  unfold f_X1_carryScent
  rw [show (8 : Int32) = nI 8 from rfl, cp_t (by decide) (by decide) (by decide), z0]
  generalize hst : stepCar (flowR R) (fun r => R (8 + 4 * r)) (fun r => R (6 + 4 * r)) = st
  have hcar : carR R = itr st 0 (ix (R 1)) R := by unfold carR; rw [hst]
  refine lpR (fun n d s => f_X1_carryScent_l17 b n (nI d) s) (fun d s => (∀ k, k ≠ HB b + 13 → k ≠ HB b + 16 → s k = C k) ∧ (∀ r, r < 8 → s (HB b + 16) r = R (8 + 4 * r)) ∧ (∀ r, r < 8 → s (HB b + 13) r = itr st 0 d R (8 + 4 * r)) ∧ Core R (itr st 0 d R)) (fun o => ∃ C2, o = some C2 ∧ (∀ k, k ≠ HB b + 13 → k ≠ HB b + 16 → C2 k = C k) ∧ ∀ r, r < 8 → C2 (HB b + 13) r = carR R (8 + 4 * r)) (ix (R 1)) ?_ ?_ (ix (R 1)) 0 FU _ (by omega) (FU_gt (by omega)) ⟨fun k _ h => up_n h, fun r hr => by rw [up_s, cpy0 hr]; exact hsc r hr, fun r hr => by rw [up_n (by omega)]; exact hsc r hr, Core.rf⟩
  · intro n d s hd ⟨i1, i2, i3, i4⟩
    left
    obtain ⟨d10, hf, hs, ef, es⟩ := fi_b hR hd
    have hq := hS.2.2.1 d hd
    generalize hRd : itr st 0 d R = Rd at *
    have cr : Core Rd (st d Rd) := by rw [← hst]; exact stepCar_core (by rw [i4.fi]; exact hf) (by rw [i4.se]; exact hs)
    have nxt : itr st 0 (d + 1) R = st d Rd := by rw [itr_snoc, Nat.zero_add, hRd]
    have fl : s (HB b + 14) d = flowR R d := by rw [i1 _ (by omega) (by omega)]; exact hfl d hd
    have fst : s (HB b + 3) d = nI (fiR R d) := by rw [i1 _ (by omega) (by omega), hq.2.1]; exact ef
    have snd : s (HB b + 4) d = nI (seR R d) := by rw [i1 _ (by omega) (by omega), hq.2.2.1]; exact es
    have efr : fromR (flowR R) Rd d = if flowR R d ≤ 0 then seR R d else fiR R d := by unfold fromR; rw [i4.fi, i4.se]
    have eto : toR (flowR R) Rd d = if flowR R d ≤ 0 then fiR R d else seR R d := by unfold toR; rw [i4.fi, i4.se]
    have hfr : fromR (flowR R) Rd d ≤ 8 := by rw [efr]; split <;> omega
    have hto : toR (flowR R) Rd d ≤ 8 := by rw [eto]; split <;> omega
    have hstd : st d Rd = stepCar (flowR R) (fun r => R (8 + 4 * r)) (fun r => R (6 + 4 * r)) d Rd := by rw [hst]
    have key : ∃ s2, f_X1_carryScent_j94 b (f_X1_carryScent_l17 b n) (nI d) (nI (fromR (flowR R) Rd d)) (nI (toR (flowR R) Rd d)) s = f_X1_carryScent_l17 b n (nI (d + 1)) s2 ∧ (∀ k, k ≠ HB b + 13 → s2 k = s k) ∧ ∀ r, r < 8 → s2 (HB b + 13) r = st d Rd (8 + 4 * r) := by
      rw [hstd]
      unfold f_X1_carryScent_j94 stepCar
      rw [rdn d10 (by decide), fl]
      by_cases hz : flowR R d = 0
      · rw [if_pos hz, if_pos (Or.inl hz)]
        unfold f_X1_carryScent_j188
        rw [nm_t, nI_1]
        exact ⟨s, rfl, fun _ _ => rfl, i3⟩
      rw [if_neg hz]
      by_cases h8 : fromR (flowR R) Rd d = 8
      · rw [if_pos (show nI (fromR (flowR R) Rd d) = 8 by rw [h8]; rfl), if_pos (Or.inr h8)]
        unfold f_X1_carryScent_j188
        rw [nm_t, nI_1]
        exact ⟨s, rfl, fun _ _ => rfl, i3⟩
      rw [if_neg (by rw [show (8 : Int32) = nI 8 from rfl, eq_nI (by omega) (by omega)]; exact h8), if_neg (by rintro (h | h); exact hz h; exact h8 h)]
      generalize fromR (flowR R) Rd d = fr at hfr h8
      generalize toR (flowR R) Rd d = to at hto
      have hfr8 : fr < 8 := by omega
      have q1 : s (HB b + 11) fr = R (6 + 4 * fr) := by rw [i1 _ (by omega) (by omega)]; exact hair fr hfr8
      have q2 : qR (flowR R) (fun r => R (8 + 4 * r)) (fun r => R (6 + 4 * r)) fr d = ((R (8 + 4 * fr)).toInt64 * (absR (flowR R d)).toInt64) / (if 1 ≤ R (6 + 4 * fr) then R (6 + 4 * fr) else 1).toInt64 := rfl
      rw [rdn hfr8 (by decide), rdn d10 (by decide), rdn (by omega) (by decide), q1, fl, abs_c, den_c, decide_eq_true (den_ne (den1 _)), gd_t, nm_t, i2 fr hfr8, ← q2, rdn hfr8 (by decide), nm_t, goes_c, i3 fr hfr8, rdn hfr8 (by decide), i3 fr hfr8, wrn hfr8 (by decide)]
      generalize goesR (qR (flowR R) (fun r => R (8 + 4 * r)) (fun r => R (6 + 4 * r)) fr d) (Rd (8 + 4 * fr)) = g
      have m1 : ∀ r, r < 8 → sto s (HB b + 13) fr (Rd (8 + 4 * fr) - g) (HB b + 13) r = upd Rd (8 + 4 * fr) (Rd (8 + 4 * fr) - g) (8 + 4 * r) := fun r hr => by
        rw [sto_s]
        by_cases e : r = fr
        · subst e; rw [pk_us, pk_us]
        · rw [pk_un e, pk_un (by omega), i3 r hr]
      by_cases ht8 : to = 8
      · rw [if_pos (show nI to = 8 by rw [ht8]; rfl), if_pos (show 8 ≤ to by omega)]
        unfold f_X1_carryScent_j188
        rw [nm_t, nI_1]
        exact ⟨_, rfl, fun k hk => sto_n hk, m1⟩
      · rw [if_neg (by rw [show (8 : Int32) = nI 8 from rfl, eq_nI (by omega) (by omega)]; exact ht8), if_neg (show ¬ 8 ≤ to by omega), rdn (by omega) (by decide), m1 to (by omega), wrn (by omega) (by decide)]
        unfold f_X1_carryScent_j188
        rw [nm_t, nI_1]
        refine ⟨_, rfl, fun k hk => by rw [sto_n hk, sto_n hk], fun r hr => ?_⟩
        rw [sto_s]
        by_cases e : r = to
        · subst e; rw [pk_us, pk_us]
        · rw [pk_un e, pk_un (by omega), m1 r hr]
    obtain ⟨s2, k1, k2, k3⟩ := key
    refine ⟨s2, ?_, fun k h1 h2 => by rw [k2 k h1, i1 k h1 h2], fun r hr => by rw [k2 _ (by omega)]; exact i2 r hr, by rw [nxt]; exact k3, by rw [nxt]; exact i4.tr cr⟩
    rw [← k1, f_X1_carryScent_l17, i1 (HB b + 1) (by omega) (by omega), hS.1, e0, if_neg (by rw [le_nI (by omega) (by omega)]; omega), rdn d10 (by decide), fl, efr, eto]
    by_cases hp : flowR R d ≤ 0
    · rw [if_pos hp, if_pos hp, if_pos hp]
      unfold f_X1_carryScent_j42
      rw [if_pos rfl, rdn d10 (by decide), snd]
      unfold f_X1_carryScent_j68
      rw [if_pos rfl, rdn d10 (by decide), fst]
    · rw [if_neg hp, if_neg hp, if_neg hp]
      unfold f_X1_carryScent_j42
      rw [if_neg (by decide), rdn d10 (by decide), fst]
      unfold f_X1_carryScent_j68
      rw [if_neg (by decide), rdn d10 (by decide), snd]
  · intro n s ⟨i1, i2, i3, i4⟩
    rw [f_X1_carryScent_l17, i1 (HB b + 1) (by omega) (by omega), hS.1, if_pos (by rw [← e0]; exact i32le.mpr (Int.le_refl _))]
    exact ⟨s, rfl, i1, by rw [hcar]; exact i3⟩
