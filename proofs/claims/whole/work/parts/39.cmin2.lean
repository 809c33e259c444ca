/-! air moves; how much air a room can have -/
def CoreW (R R2 : Nat → Int32) : Prop := ∀ j, (j = 1 ∨ j = 5 ∨ 38 ≤ j) → R2 j = R j
theorem Core.w {R R2 : Nat → Int32} (h : Core R R2) : CoreW R R2 := fun j hj => h j (by omega)
/-- a row like R2 that is R's at 0, 2, 3: what hangs on doors and texts alone is the same -/
theorem CoreW.core {R R2 : Nat → Int32} (h : CoreW R R2) : Core R (upd (upd (upd R2 0 (R 0)) 2 (R 2)) 3 (R 3)) := fun j hj => by
  by_cases h3 : j = 3
  · subst h3; rw [pk_us]
  rw [pk_un h3]
  by_cases h2 : j = 2
  · subst h2; rw [pk_us]
  rw [pk_un h2]
  by_cases h0 : j = 0
  · subst h0; rw [pk_us]
  rw [pk_un h0]
  exact h j (by omega)
theorem cnt_upd {R : Nat → Int32} {i : Nat} {v k : Int32} (hi : i < 4) (hi1 : i ≠ 1) : cntR (upd R i v) k = cntR R k := by
  unfold cntR
  rw [pk_un (show 5 ≠ i by omega)]
  generalize ix (R 5) = T
  induction T with
  | zero => rfl
  | succ T ih => unfold cntL; rw [pk_un (by omega), ih]
theorem ev_upd {R : Nat → Int32} {i t : Nat} {v a b : Int32} (hi : i < 4) : evT (upd R i v) t a b = evT R t a b := by
  unfold evT
  rw [pk_un (by omega)]
  have : (fun j => upd R i v (116 + 96 * t + j)) = fun j => R (116 + 96 * t + j) := by
    funext j
    rw [pk_un (by omega)]
  rw [this]
theorem pl_upd {R : Nat → Int32} {i : Nat} {v w o : Int32} (hi : i < 4) (hi1 : i ≠ 1) : plainR (upd R i v) w o = plainR R w o := by
  unfold plainR
  rw [cnt_upd hi hi1, ev_upd hi]
theorem CoreW.cnt {R R2 : Nat → Int32} (h : CoreW R R2) (k : Int32) : cntR R2 k = cntR R k := by
  have := h.core.cnt k
  rwa [cnt_upd (by decide) (by decide), cnt_upd (by decide) (by decide), cnt_upd (by decide) (by decide)] at this
theorem CoreW.ev {R R2 : Nat → Int32} (h : CoreW R R2) (t : Nat) (a b : Int32) : evT R2 t a b = evT R t a b := by
  have := h.core.ev t a b
  rwa [ev_upd (by decide), ev_upd (by decide), ev_upd (by decide)] at this
theorem CoreW.pl {R R2 : Nat → Int32} (h : CoreW R R2) (w o : Int32) : plainR R2 w o = plainR R w o := by
  have := h.core.pl w o
  rwa [pl_upd (by decide) (by decide), pl_upd (by decide) (by decide), pl_upd (by decide) (by decide)] at this
theorem CoreW.let {R R2 : Nat → Int32} (h : CoreW R R2) (d : Nat) : letR R2 d = letR R d := by
  unfold letR
  rw [h.pl, h (38 + 5 * d) (by omega), h (41 + 5 * d) (by omega), h (42 + 5 * d) (by omega)]
theorem CoreW.text {R R2 : Nat → Int32} (h : CoreW R R2) {t : Nat} (ht : TextOK R t) : TextOK R2 t := by
  obtain ⟨key, m, h1, h2, h3, h4, h5⟩ := ht
  refine ⟨key, m, h1, h2, h3, by rw [h _ (by omega)]; exact h4, ?_⟩
  have : (fun j => R2 (116 + 96 * t + j)) = fun j => R (116 + 96 * t + j) := by
    funext j
    rw [h _ (by omega)]
  rw [this]
  exact h5
theorem CoreW.str {R R2 : Nat → Int32} (h : CoreW R R2) (hs : StrOK R) : StrOK R2 := by
  obtain ⟨h1, h2, h3, h4⟩ := hs
  have e1 := h 1 (by omega)
  have e5 := h 5 (by omega)
  refine ⟨by rw [e1]; exact h1, by rw [e5]; exact h2, fun d hd => ?_, fun t ht => h.text (h4 t (by rw [← e5]; exact ht))⟩
  rw [e1] at hd
  rw [h (39 + 5 * d) (by omega), h (40 + 5 * d) (by omega)]
  exact h3 d hd
theorem CoreW.tr {R R2 R3 : Nat → Int32} (h : CoreW R R2) (h2 : CoreW R2 R3) : CoreW R R3 := fun j hj => (h2 j hj).trans (h j hj)
theorem CoreW.fi {R R2 : Nat → Int32} (h : CoreW R R2) (d : Nat) : fiR R2 d = fiR R d := by unfold fiR; rw [h _ (by omega)]
theorem CoreW.se {R R2 : Nat → Int32} (h : CoreW R R2) (d : Nat) : seR R2 d = seR R d := by unfold seR; rw [h _ (by omega)]
theorem HS.monoW {nl : Nat} {C C2 : Mem} {b : Nat} {R R2 : Nat → Int32} (h : HS nl C b R) (hc : ∀ j, 1 ≤ j → j ≤ 9 → C2 (HB b + j) = C (HB b + j)) (hl : ∀ k, 82 ≤ k → C2 k = C k) (hr : CoreW R R2) : HS nl C2 b R2 := by
  obtain ⟨h1, h2, h3, h4, h5, h6, h7⟩ := h.mono hc hl hr.core
  have g : ∀ j, (j = 1 ∨ j = 5 ∨ 38 ≤ j) → upd (upd (upd R2 0 (R 0)) 2 (R 2)) 3 (R 3) j = R2 j := fun j hj => by rw [pk_un (by omega), pk_un (by omega), pk_un (by omega)]
  rw [g 1 (by omega)] at h1 h3 h4
  rw [g 5 (by omega)] at h2 h5
  refine ⟨h1, h2, fun d hd => ?_, h4.cong (fun i _ => (g _ (by omega)).symm), fun t ht => ?_, fun k hk => ?_, fun k w o a1 a2 a3 a4 => ?_⟩
  · have := h3 d hd
    rwa [g _ (by omega), g _ (by omega), g _ (by omega), g _ (by omega)] at this
  · obtain ⟨c, key, m, a1, a2, a3, a4, a5, a6, a7, a8, a9, a10, a11⟩ := h5 t ht
    refine ⟨c, key, m, a1, a2, a3, a4, a5, a6, a7, by rw [← g _ (by omega)]; exact a8, by rw [← g _ (by omega)]; exact a9, a10, fun k hk => by rw [← g _ (by omega)]; exact a11 k hk⟩
  · have := h6 k hk
    rwa [cnt_upd (by decide) (by decide), cnt_upd (by decide) (by decide), cnt_upd (by decide) (by decide)] at this
  · have := h7 k w o a1 a2 a3 a4
    rwa [pl_upd (by decide) (by decide), pl_upd (by decide) (by decide), pl_upd (by decide) (by decide)] at this
theorem fire_c (x : Int32) : (if (0 : Int32) < x then x else 0) = if 0 ≤ x then x else 0 := by
  by_cases h : (0 : Int32) < x
  · rw [if_pos h, if_pos (i32le.mpr (by have := i32lt.mp h; omega))]
  · rw [if_neg h]
    by_cases h2 : 0 ≤ x
    · rw [if_pos h2, i32eq]
      have := i32le.mp h2
      have := mt i32lt.mpr h
      omega
    · rw [if_neg h2]
set_option maxHeartbeats 2000000 in
/-- moveAir, of flows F, beside a row R -/
theorem moveAir_c {C : Mem} {b : Nat} {R F : Nat → Int32} (hb : b < 3) (hR : StrOK R) (h1 : C (HB b + 1) 0 = R 1) (hd0 : ∀ d, d < ix (R 1) → C (HB b + 3) d = R (39 + 5 * d) ∧ C (HB b + 4) d = R (40 + 5 * d)) (hfl : ∀ d, d < ix (R 1) → C (HB b + 14) d = F d) (hair : ∀ r, r < 8 → C (HB b + 11) r = R (6 + 4 * r)) (hfi : ∀ r, r < 8 → C (HB b + 12) r = R (7 + 4 * r)) (hg : C (HB b) 6 = R 4) :
    ∃ C2, f_X1_moveAir b C = some C2 ∧ (∀ k, k ≠ HB b + 11 → k ≠ HB b → C2 k = C k) ∧ (∀ r, r < 8 → C2 (HB b + 11) r = blowR F R (6 + 4 * r)) ∧ C2 (HB b + 11) 8 = C (HB b + 11) 8 ∧ C2 (HB b) 6 = blowR F R 4 ∧ ∀ j, j ≠ 6 → C2 (HB b) j = C (HB b) j := by
  obtain ⟨e0, h0⟩ := dn_b hR
  have hB := HB_lt hb
  unfold f_X1_moveAir
  rw [z0]
  refine lpR (fun n d s => f_X1_moveAir_l2 b n (nI d) s) (fun d s => (∀ k, k ≠ HB b + 11 → k ≠ HB b → s k = C k) ∧ (∀ r, r < 8 → s (HB b + 11) r = itr (stepBl F) 0 d R (6 + 4 * r)) ∧ s (HB b + 11) 8 = C (HB b + 11) 8 ∧ s (HB b) 6 = itr (stepBl F) 0 d R 4 ∧ (∀ j, j ≠ 6 → s (HB b) j = C (HB b) j) ∧ Core R (itr (stepBl F) 0 d R) ∧ ∀ r, r < 8 → itr (stepBl F) 0 d R (7 + 4 * r) = R (7 + 4 * r)) (fun o => ∃ C2, o = some C2 ∧ (∀ k, k ≠ HB b + 11 → k ≠ HB b → C2 k = C k) ∧ (∀ r, r < 8 → C2 (HB b + 11) r = blowR F R (6 + 4 * r)) ∧ C2 (HB b + 11) 8 = C (HB b + 11) 8 ∧ C2 (HB b) 6 = blowR F R 4 ∧ ∀ j, j ≠ 6 → C2 (HB b) j = C (HB b) j) (ix (R 1)) ?_ ?_ (ix (R 1)) 0 FU C (by omega) (FU_gt (by omega)) ⟨fun _ _ _ => rfl, hair, rfl, hg, fun _ _ => rfl, Core.rf, fun _ _ => rfl⟩
  · intro n d s hd ⟨i1, i2, i3, i4, i5, i6, i7⟩
    left
    obtain ⟨d10, hf, hs, ef, es⟩ := fi_b hR hd
    generalize hRd : itr (stepBl F) 0 d R = Rd at *
    have nxt : itr (stepBl F) 0 (d + 1) R = stepBl F d Rd := by rw [itr_snoc, Nat.zero_add, hRd]
    have fst : s (HB b + 3) d = nI (fiR R d) := by rw [i1 _ (by omega) (by omega), (hd0 d hd).1]; exact ef
    have snd : s (HB b + 4) d = nI (seR R d) := by rw [i1 _ (by omega) (by omega), (hd0 d hd).2]; exact es
    have fl : s (HB b + 14) d = F d := by rw [i1 _ (by omega) (by omega)]; exact hfl d hd
    have eF := i6.fi d
    have eS := i6.se d
    have cr : Core Rd (stepBl F d Rd) := stepBl_core (by rw [eF]; exact hf)
    rw [f_X1_moveAir_l2, i1 (HB b + 1) (by omega) (by omega), h1, e0, if_neg (by rw [le_nI (by omega) (by omega)]; omega), rdn d10 (by decide), fst, rdn (by omega) (by decide), rdn d10 (by decide), fl, i2 _ (by omega), wrn (by omega) (by decide), rdn d10 (by decide), sto_n (show HB b + 4 ≠ HB b + 11 by omega), snd]
    have m1 : ∀ r, r < 8 → sto s (HB b + 11) (fiR R d) (Rd (6 + 4 * fiR R d) - F d) (HB b + 11) r = upd Rd (6 + 4 * fiR R d) (Rd (6 + 4 * fiR R d) - F d) (6 + 4 * r) := fun r hr => by
      rw [sto_s]
      by_cases e : r = fiR R d
      · subst e; rw [pk_us, pk_us]
      · rw [pk_un e, pk_un (by omega), i2 r hr]
    have m8 : sto s (HB b + 11) (fiR R d) (Rd (6 + 4 * fiR R d) - F d) (HB b + 11) 8 = C (HB b + 11) 8 := by rw [sto_sn (by omega), i3]
    have mo : ∀ k, k ≠ HB b + 11 → sto s (HB b + 11) (fiR R d) (Rd (6 + 4 * fiR R d) - F d) k = s k := fun k hk => sto_n hk
    generalize sto s (HB b + 11) (fiR R d) (Rd (6 + 4 * fiR R d) - F d) = M9 at m1 m8 mo
    have h7 : ∀ r, r < 8 → stepBl F d Rd (7 + 4 * r) = R (7 + 4 * r) := fun r hr => by
      unfold stepBl
      split
      · rw [pk_un (by omega), pk_un (by omega), i7 r hr]
      · rw [pk_un (by omega), pk_un (by omega), i7 r hr]
    by_cases h8 : seR R d = 8
    · rw [if_pos (show nI (seR R d) = 8 by rw [h8]; rfl), rdn d10 (by decide), mo (HB b + 14) (by omega), fl, nm_t]
      unfold f_X1_moveAir_j91
      rw [nm_t, nI_1]
      have sb : stepBl F d Rd = upd (upd Rd (6 + 4 * fiR R d) (Rd (6 + 4 * fiR R d) - F d)) 4 (upd Rd (6 + 4 * fiR R d) (Rd (6 + 4 * fiR R d) - F d) 4 + F d) := by
        unfold stepBl
        rw [eF, eS, if_pos (by omega)]
      refine ⟨_, rfl, fun k g1 g2 => by rw [sto_n g2, mo k g1, i1 k g1 g2], fun r hr => ?_, by rw [sto_n (by omega)]; exact m8, ?_, fun j hj => by rw [sto_sn hj, mo _ (by omega)]; exact i5 j hj, by rw [nxt]; exact i6.tr cr, fun r hr => by rw [nxt]; exact h7 r hr⟩
      · rw [nxt, sb, sto_n (by omega), m1 r hr, pk_un (show 6 + 4 * r ≠ 4 by omega)]
      · rw [nxt, sb, sto_ss, pk_us, mo _ (by omega), i4, pk_un (by omega)]
    · rw [if_neg (by rw [show (8 : Int32) = nI 8 from rfl, eq_nI (by omega) (by omega)]; exact h8), rdn d10 (by decide), mo (HB b + 4) (by omega), snd, rdn (by omega) (by decide), rdn d10 (by decide), mo (HB b + 14) (by omega), fl, m1 _ (by omega), wrn (by omega) (by decide)]
      unfold f_X1_moveAir_j91
      rw [nm_t, nI_1]
      have sb : stepBl F d Rd = upd (upd Rd (6 + 4 * fiR R d) (Rd (6 + 4 * fiR R d) - F d)) (6 + 4 * seR R d) (upd Rd (6 + 4 * fiR R d) (Rd (6 + 4 * fiR R d) - F d) (6 + 4 * seR R d) + F d) := by
        unfold stepBl
        rw [eF, eS, if_neg (by omega)]
      refine ⟨_, rfl, fun k g1 g2 => by rw [sto_n g1, mo k g1, i1 k g1 g2], fun r hr => ?_, by rw [sto_sn (by omega)]; exact m8, ?_, fun j hj => by rw [sto_n (by omega), mo _ (by omega)]; exact i5 j hj, by rw [nxt]; exact i6.tr cr, fun r hr => by rw [nxt]; exact h7 r hr⟩
      · rw [nxt, sb, sto_s]
        by_cases e : r = seR R d
        · subst e; rw [pk_us, pk_us]
        · rw [pk_un e, pk_un (by omega), m1 r hr]
      · rw [nxt, sb, sto_n (by omega), mo _ (by omega), i4, pk_un (by omega), pk_un (by omega)]
  · intro n s ⟨i1, i2, i3, i4, i5, i6, i7⟩
    rw [f_X1_moveAir_l2, i1 (HB b + 1) (by omega) (by omega), h1, if_pos (by rw [← e0]; exact i32le.mpr (Int.le_refl _)), z0]
    generalize hRd : itr (stepBl F) 0 (ix (R 1)) R = Rd at *
    have hbl : blowR F R = itr stepFi 0 8 Rd := by unfold blowR; rw [hRd]
    refine lpR (fun n d s => f_X1_moveAir_l99 b n (nI d) s) (fun d s => (∀ k, k ≠ HB b + 11 → k ≠ HB b → s k = C k) ∧ (∀ r, r < 8 → s (HB b + 11) r = itr stepFi 0 d Rd (6 + 4 * r)) ∧ s (HB b + 11) 8 = C (HB b + 11) 8 ∧ s (HB b) 6 = itr stepFi 0 d Rd 4 ∧ (∀ j, j ≠ 6 → s (HB b) j = C (HB b) j) ∧ ∀ r, r < 8 → itr stepFi 0 d Rd (7 + 4 * r) = R (7 + 4 * r)) (fun o => ∃ C2, o = some C2 ∧ (∀ k, k ≠ HB b + 11 → k ≠ HB b → C2 k = C k) ∧ (∀ r, r < 8 → C2 (HB b + 11) r = blowR F R (6 + 4 * r)) ∧ C2 (HB b + 11) 8 = C (HB b + 11) 8 ∧ C2 (HB b) 6 = blowR F R 4 ∧ ∀ j, j ≠ 6 → C2 (HB b) j = C (HB b) j) 8 ?_ ?_ 8 0 FU s rfl (FU_gt (by decide)) ⟨i1, i2, i3, i4, i5, i7⟩
    · intro n d s hd ⟨k1, k2, k3, k4, k5, k6⟩
      left
      generalize hRe : itr stepFi 0 d Rd = Re at *
      have nxt : itr stepFi 0 (d + 1) Rd = stepFi d Re := by rw [itr_snoc, Nat.zero_add, hRe]
      have f12 : s (HB b + 12) d = Re (7 + 4 * d) := by rw [k1 _ (by omega) (by omega), hfi d hd, k6 d hd]
      rw [f_X1_moveAir_l99, if_neg (by rw [show (8 : Int32) = nI 8 from rfl, le_nI (by omega) (by omega)]; omega), rdn (by omega) (by decide), rdn hd (by decide), wrn (by omega) (by decide), nm_t, nI_1, k2 d hd, f12, fire_c]
      refine ⟨_, rfl, fun k g1 g2 => by rw [sto_n g1, k1 k g1 g2], fun r hr => ?_, by rw [sto_sn (by omega)]; exact k3, ?_, fun j hj => by rw [sto_n (by omega)]; exact k5 j hj, fun r hr => ?_⟩
      · rw [nxt, sto_s]
        unfold stepFi
        by_cases e : r = d
        · subst e; rw [pk_us, pk_us]
        · rw [pk_un e, pk_un (by omega), k2 r hr]
      · rw [nxt, sto_n (by omega), k4]
        unfold stepFi
        rw [pk_un (by omega)]
      · rw [nxt]
        unfold stepFi
        rw [pk_un (by omega), k6 r hr]
    · intro n s ⟨k1, k2, k3, k4, k5, k6⟩
      rw [f_X1_moveAir_l99, if_pos (show (8 : Int32) ≤ nI 8 by decide)]
      exact ⟨s, rfl, k1, by rw [hbl]; exact k2, k3, by rw [hbl]; exact k4, k5⟩
/-! no room's air leaves 0 .. 9999 -/
theorem tdiv_lo (x : Int) : 1000 * x.tdiv 1000 ≤ x ∨ x < 0 := by
  rcases Int.lt_or_le x 0 with h | h
  · exact Or.inr h
  · have := Int.tdiv_eq_ediv_of_nonneg (b := 1000) h
    omega
/-- a flow's size: a thousandth of its product, cut towards 0 -/
theorem tdiv_s (x : Int) : (0 ≤ x → 0 ≤ x.tdiv 1000 ∧ 1000 * x.tdiv 1000 ≤ x) ∧ (x ≤ 0 → x.tdiv 1000 ≤ 0 ∧ x ≤ 1000 * x.tdiv 1000) := by
  constructor
  · intro h
    have := Int.tdiv_eq_ediv_of_nonneg (b := 1000) h
    omega
  · intro h
    have e : x.tdiv 1000 = -((-x).tdiv 1000) := by rw [Int.neg_tdiv]; omega
    have := Int.tdiv_eq_ediv_of_nonneg (a := -x) (b := 1000) (by omega)
    omega
theorem flow_b {R : Nat → Int32} (hR : RowOK R) {d : Nat} (hd : d < ix (R 1)) :
    -63 * (airR R (seR R d)).toInt ≤ 1000 * (flowR R d).toInt ∧ 1000 * (flowR R d).toInt ≤ 63 * (airR R (fiR R d)).toInt ∧ -63 * (9999 - (airR R (fiR R d)).toInt) ≤ 1000 * (flowR R d).toInt ∧ 1000 * (flowR R d).toInt ≤ 63 * (9999 - (airR R (seR R d)).toInt) := by
  obtain ⟨d10, h1, h2, -⟩ := fi_b hR.1 hd
  have a1 := airR_b hR (r := fiR R d) (by omega)
  have a2 := airR_b hR (r := seR R d) (by omega)
  have lb := letR_b hR hd
  have e := toI_sub (a := airR R (fiR R d)) (b := airR R (seR R d)) (by omega) (by omega)
  rw [flowR_eq hR hd]
  generalize (airR R (fiR R d)) = x at *
  generalize (airR R (seR R d)) = y at *
  generalize letR R d = l at *
  have p1 : (x.toInt - y.toInt) * l.toInt ≤ 63 * x.toInt ∧ -(63 * y.toInt) ≤ (x.toInt - y.toInt) * l.toInt ∧ (x.toInt - y.toInt) * l.toInt ≤ 63 * (9999 - y.toInt) ∧ -(63 * (9999 - x.toInt)) ≤ (x.toInt - y.toInt) * l.toInt := by
    have m1 : 0 ≤ x.toInt * l.toInt := Int.mul_nonneg a1.1 lb.1
    have m2 : 0 ≤ y.toInt * l.toInt := Int.mul_nonneg a2.1 lb.1
    have m3 : x.toInt * l.toInt ≤ x.toInt * 63 := Int.mul_le_mul_of_nonneg_left lb.2 a1.1
    have m4 : y.toInt * l.toInt ≤ y.toInt * 63 := Int.mul_le_mul_of_nonneg_left lb.2 a2.1
    have m5 : 0 ≤ (9999 - x.toInt) * l.toInt := Int.mul_nonneg (by omega) lb.1
    have m6 : 0 ≤ (9999 - y.toInt) * l.toInt := Int.mul_nonneg (by omega) lb.1
    have m7 : (9999 - x.toInt) * l.toInt ≤ (9999 - x.toInt) * 63 := Int.mul_le_mul_of_nonneg_left lb.2 (by omega)
    have m8 : (9999 - y.toInt) * l.toInt ≤ (9999 - y.toInt) * 63 := Int.mul_le_mul_of_nonneg_left lb.2 (by omega)
    rw [Int.sub_mul]
    rw [Int.sub_mul] at m5 m6 m7 m8
    omega
  have e1 : ((x - y) * l).toInt = (x.toInt - y.toInt) * l.toInt := by
    rw [toI_mul (by rw [e]; omega) (by rw [e]; omega), e]
  have ts := tdiv_s ((x.toInt - y.toInt) * l.toInt)
  have td := tdiv_small ((x.toInt - y.toInt) * l.toInt) (by omega) (by omega)
  have e2 : ((x - y) * l / 1000).toInt = ((x.toInt - y.toInt) * l.toInt).tdiv 1000 := by
    rw [Int32.toInt_div, e1, show (1000 : Int32).toInt = 1000 from rfl]
    simp only [Int.bmod_def]
    omega
  rw [e2]
  rcases Int.le_total 0 ((x.toInt - y.toInt) * l.toInt) with h | h
  · have := ts.1 h
    omega
  · have := ts.2 h
    omega
