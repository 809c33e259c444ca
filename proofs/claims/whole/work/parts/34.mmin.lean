/-! THE REFERENCE's MINUTE as a function of its row -/
def absR (x : Int32) : Int32 := if 0 ≤ x then x else -x
def stepD (R : Nat → Int32) (d : Nat) (D : Nat → Int32) : Nat → Int32 := upd (upd D (fiR R d) (D (fiR R d) + absR (flowR R d))) (seR R d) (upd D (fiR R d) (D (fiR R d) + absR (flowR R d)) (seR R d) + absR (flowR R d))
def drR (R : Nat → Int32) : Nat → Nat → Int32
  | 0 => fun _ => 0
  | d + 1 => stepD R d (drR R d)
def Core (R R2 : Nat → Int32) : Prop := ∀ j, (j < 4 ∨ j = 5 ∨ 38 ≤ j) → R2 j = R j
theorem Core.rf {R : Nat → Int32} : Core R R := fun _ _ => rfl
theorem Core.tr {R R2 R3 : Nat → Int32} (h : Core R R2) (h2 : Core R2 R3) : Core R R3 := fun j hj => (h2 j hj).trans (h j hj)
theorem Core.fi {R R2 : Nat → Int32} (h : Core R R2) (d : Nat) : fiR R2 d = fiR R d := by unfold fiR; rw [h _ (by omega)]
theorem Core.se {R R2 : Nat → Int32} (h : Core R R2) (d : Nat) : seR R2 d = seR R d := by unfold seR; rw [h _ (by omega)]
theorem Core.text {R R2 : Nat → Int32} (h : Core R R2) {t : Nat} (ht : TextOK R t) : TextOK R2 t := by
  obtain ⟨key, m, h1, h2, h3, h4, h5⟩ := ht
  refine ⟨key, m, h1, h2, h3, by rw [h _ (by omega)]; exact h4, ?_⟩
  have : (fun j => R2 (116 + 96 * t + j)) = fun j => R (116 + 96 * t + j) := by
    funext j
    rw [h _ (by omega)]
  rw [this]
  exact h5
theorem Core.str {R R2 : Nat → Int32} (h : Core R R2) (hs : StrOK R) : StrOK R2 := by
  obtain ⟨h1, h2, h3, h4⟩ := hs
  have e1 := h 1 (by omega)
  have e5 := h 5 (by omega)
  refine ⟨by rw [e1]; exact h1, by rw [e5]; exact h2, fun d hd => ?_, fun t ht => h.text (h4 t (by rw [← e5]; exact ht))⟩
  rw [e1] at hd
  rw [h (39 + 5 * d) (by omega), h (40 + 5 * d) (by omega)]
  exact h3 d hd
theorem Core.cnt {R R2 : Nat → Int32} (h : Core R R2) (k : Int32) : cntR R2 k = cntR R k := by
  unfold cntR
  rw [h 5 (by omega)]
  generalize ix (R 5) = T
  induction T with
  | zero => rfl
  | succ T ih => unfold cntL; rw [h _ (by omega), ih]
theorem Core.ev {R R2 : Nat → Int32} (h : Core R R2) (t : Nat) (a b : Int32) : evT R2 t a b = evT R t a b := by
  unfold evT
  rw [h (88 + 2 * t) (by omega)]
  have : (fun j => R2 (116 + 96 * t + j)) = fun j => R (116 + 96 * t + j) := by
    funext j
    rw [h _ (by omega)]
  rw [this]
theorem Core.pl {R R2 : Nat → Int32} (h : Core R R2) (w o : Int32) : plainR R2 w o = plainR R w o := by
  unfold plainR
  rw [h.cnt, h.ev]
theorem Core.let {R R2 : Nat → Int32} (h : Core R R2) (d : Nat) : letR R2 d = letR R d := by
  unfold letR
  rw [h.pl, h (38 + 5 * d) (by omega), h (41 + 5 * d) (by omega), h (42 + 5 * d) (by omega)]
theorem fi_b {R : Nat → Int32} (h : StrOK R) {d : Nat} (hd : d < ix (R 1)) : d < 10 ∧ fiR R d ≤ 7 ∧ seR R d ≤ 8 ∧ R (39 + 5 * d) = nI (fiR R d) ∧ R (40 + 5 * d) = nI (seR R d) := by
  obtain ⟨e0, h0⟩ := (show Bd (R 1) 0 ((10 : Nat) : Int) from h.1).i
  obtain ⟨b1, b2⟩ := h.2.2.1 d hd
  obtain ⟨e1, h1⟩ := (show Bd (R (39 + 5 * d)) 0 ((7 : Nat) : Int) from b1).i
  obtain ⟨e2, h2⟩ := (show Bd (R (40 + 5 * d)) 0 ((8 : Nat) : Int) from b2).i
  exact ⟨by omega, h1, h2, e1, e2⟩
theorem dn_b {R : Nat → Int32} (h : StrOK R) : R 1 = nI (ix (R 1)) ∧ ix (R 1) ≤ 10 := (show Bd (R 1) 0 ((10 : Nat) : Int) from h.1).i
def FFpost (N N2 : Mem) : Prop := (∀ j, j ≠ 4 → j ≠ 5 → j ≠ 15 → j ≠ 16 → N2 j = N j) ∧ (∀ q, q < ix (N 1 1) → N2 4 q = flowR (N 1) q) ∧ ∀ r, r < 9 → N2 5 r = drR (N 1) (ix (N 1 1)) r
set_option maxHeartbeats 1000000 in
theorem ff_l23 {N : Mem} (hR : StrOK (N 1)) : ∀ (k i n : Nat) (s : Mem), i + k = ix (N 1 1) → k < n → ((∀ j, j ≠ 4 → j ≠ 5 → j ≠ 15 → j ≠ 16 → s j = N j) ∧ (∀ q, q < i → s 4 q = flowR (N 1) q) ∧ ∀ r, r < 9 → s 5 r = drR (N 1) i r) →
    ∃ N2, f_X10_findFlows_l23 n (nI i) s = some N2 ∧ FFpost N N2 := by
  obtain ⟨e0, h0⟩ := dn_b hR
  refine lpR (fun n d s => f_X10_findFlows_l23 n (nI d) s) (fun d s => (∀ j, j ≠ 4 → j ≠ 5 → j ≠ 15 → j ≠ 16 → s j = N j) ∧ (∀ q, q < d → s 4 q = flowR (N 1) q) ∧ ∀ r, r < 9 → s 5 r = drR (N 1) d r) (fun o => ∃ N2, o = some N2 ∧ FFpost N N2) (ix (N 1 1)) ?_ ?_
  · intro n d s hd ⟨i1, i2, i3⟩
    left
    have s1 := i1 1 (by decide) (by decide) (by decide) (by decide)
    obtain ⟨d10, hf, hs, ef, es⟩ := fi_b hR hd
    obtain ⟨M9, w1, w2⟩ := flowOf_e (N := s) (d := d) (by rw [s1]; exact hR) (by rw [s1]; exact hd)
    rw [s1] at w1
    rw [f_X10_findFlows_l23, rdl 1 z1 (by decide) (by decide), s1, e0, if_neg (by rw [le_nI (by omega) (by omega)]; omega), w1, bd2_s, wrn d10 (by decide)]
    have f9 : ∀ j, j ≠ 4 → j ≠ 15 → j ≠ 16 → sto M9 4 d (flowR (N 1) d) j = s j := fun j a b c => by rw [sto_n a, w2 j b c]
    generalize hM11 : sto M9 4 d (flowR (N 1) d) = M11
    rw [hM11] at f9
    have v11 : M11 4 d = flowR (N 1) d := by rw [← hM11, sto_ss]
    have o11 : ∀ q, q ≠ d → M11 4 q = s 4 q := fun q hq => by rw [← hM11, sto_sn hq, w2 4 (by decide) (by decide)]
    rw [rdn d10 (by decide), v11]
    have key : f_X10_findFlows_j69 (f_X10_findFlows_l23 n) (nI d) (absR (flowR (N 1) d)) M11 = f_X10_findFlows_l23 n (nI (d + 1)) (sto (sto M11 5 (fiR (N 1) d) (M11 5 (fiR (N 1) d) + absR (flowR (N 1) d))) 5 (seR (N 1) d) (sto M11 5 (fiR (N 1) d) (M11 5 (fiR (N 1) d) + absR (flowR (N 1) d)) 5 (seR (N 1) d) + absR (flowR (N 1) d))) := by
      unfold f_X10_findFlows_j69
      rw [of1 d10, bd_s, f9 1 (by decide) (by decide) (by decide), s1, ef, rdn (by omega) (by decide), wrn (by omega) (by decide), of2 d10, bd_s, sto_n (by decide), f9 1 (by decide) (by decide) (by decide), s1, es, rdn (by omega) (by decide), wrn (by omega) (by decide), nm_t, nI_1]
    refine ⟨sto (sto M11 5 (fiR (N 1) d) (M11 5 (fiR (N 1) d) + absR (flowR (N 1) d))) 5 (seR (N 1) d) (sto M11 5 (fiR (N 1) d) (M11 5 (fiR (N 1) d) + absR (flowR (N 1) d)) 5 (seR (N 1) d) + absR (flowR (N 1) d)), ?_, ?_⟩
    · rw [← key]
      unfold absR
      by_cases hp : 0 ≤ flowR (N 1) d
      · rw [if_pos hp, rdn d10 (by decide), v11, if_pos hp]
      · rw [if_neg hp, rdn d10 (by decide), v11, if_neg hp]
    · refine ⟨fun j a b c e => by rw [sto_n b, sto_n b, f9 j a c e, i1 j a b c e], fun q hq => ?_, fun r hr => ?_⟩
      · rw [sto_n (by decide), sto_n (by decide)]
        by_cases e : q = d
        · subst e; exact v11
        · rw [o11 q e]; exact i2 q (by omega)
      · have e5 : ∀ r, r < 9 → M11 5 r = drR (N 1) d r := fun r hr => by rw [f9 5 (by decide) (by decide) (by decide)]; exact i3 r hr
        have e5' : ∀ r, r < 9 → sto M11 5 (fiR (N 1) d) (M11 5 (fiR (N 1) d) + absR (flowR (N 1) d)) 5 r = upd (drR (N 1) d) (fiR (N 1) d) (drR (N 1) d (fiR (N 1) d) + absR (flowR (N 1) d)) r := fun r hr => by
          rw [sto_s, e5 _ (by omega)]
          by_cases e : r = fiR (N 1) d
          · subst e; rw [pk_us, pk_us]
          · rw [pk_un e, pk_un e, e5 r hr]
        show _ = stepD (N 1) d (drR (N 1) d) r
        unfold stepD
        rw [sto_s, e5' _ (by omega)]
        by_cases e : r = seR (N 1) d
        · subst e; rw [pk_us, pk_us]
        · rw [pk_un e, pk_un e, e5' r hr]
  · intro n s ⟨i1, i2, i3⟩
    have s1 := i1 1 (by decide) (by decide) (by decide) (by decide)
    rw [f_X10_findFlows_l23, rdl 1 z1 (by decide) (by decide), s1, if_pos (by rw [← e0]; exact i32le.mpr (Int.le_refl _))]
    exact ⟨s, rfl, i1, i2, i3⟩
theorem findFlows_e {N : Mem} (hR : StrOK (N 1)) : ∃ N2, f_X10_findFlows N = some N2 ∧ FFpost N N2 := by
  unfold f_X10_findFlows
  rw [z0]
  refine lpR (fun n d s => f_X10_findFlows_l2 n (nI d) s) (fun d s => (∀ j, j ≠ 5 → s j = N j) ∧ ∀ r, r < d → s 5 r = 0) (fun o => ∃ N2, o = some N2 ∧ FFpost N N2) 9 ?_ ?_ 9 0 FU N rfl (FU_gt (by decide)) ⟨fun _ _ => rfl, fun r hr => absurd hr (Nat.not_lt_zero r)⟩
  · intro n d s hd ⟨i1, i2⟩
    left
    refine ⟨sto s 5 d 0, ?_, fun j hj => by rw [sto_n hj, i1 j hj], fun r hr => ?_⟩
    · rw [f_X10_findFlows_l2, if_neg (by rw [show (9 : Int32) = nI 9 from rfl, le_nI (by omega) (by omega)]; omega), wrn (by omega) (by decide), nm_t, nI_1]
    · by_cases e : r = d
      · subst e; rw [sto_ss]
      · rw [sto_sn e]; exact i2 r (by omega)
  · intro n s ⟨i1, i2⟩
    rw [f_X10_findFlows_l2, if_pos (show (9 : Int32) ≤ nI 9 by decide), z0]
    have e1 := i1 1 (by decide)
    exact ff_l23 hR (ix (N 1 1)) 0 FU s (by omega) (FU_gt (by have := (dn_b hR).2; omega)) ⟨fun j _ b _ _ => i1 j b, fun q hq => absurd hq (Nat.not_lt_zero q), fun r hr => i2 r hr⟩
/-! scents -/
def fromR (F : Nat → Int32) (R : Nat → Int32) (d : Nat) : Nat := if F d ≤ 0 then seR R d else fiR R d
def toR (F : Nat → Int32) (R : Nat → Int32) (d : Nat) : Nat := if F d ≤ 0 then fiR R d else seR R d
def qR (F S A : Nat → Int32) (fr d : Nat) : Int64 := ((S fr).toInt64 * (absR (F d)).toInt64) / (if 1 ≤ A fr then A fr else 1).toInt64
def goesR (q : Int64) (x : Int32) : Int32 := if lg_cmp q x.toInt64 ≤ 0 then q.toInt32 else x
def stepCar (F S A : Nat → Int32) (d : Nat) (R : Nat → Int32) : Nat → Int32 :=
  if F d = 0 ∨ fromR F R d = 8 then R else
  if 8 ≤ toR F R d then upd R (8 + 4 * fromR F R d) (R (8 + 4 * fromR F R d) - goesR (qR F S A (fromR F R d) d) (R (8 + 4 * fromR F R d)))
  else upd (upd R (8 + 4 * fromR F R d) (R (8 + 4 * fromR F R d) - goesR (qR F S A (fromR F R d) d) (R (8 + 4 * fromR F R d)))) (8 + 4 * toR F R d) (upd R (8 + 4 * fromR F R d) (R (8 + 4 * fromR F R d) - goesR (qR F S A (fromR F R d) d) (R (8 + 4 * fromR F R d))) (8 + 4 * toR F R d) + goesR (qR F S A (fromR F R d) d) (R (8 + 4 * fromR F R d)))
theorem upd_core {R : Nat → Int32} {j : Nat} {v : Int32} (h1 : 6 ≤ j) (h2 : j < 38) : Core R (upd R j v) := fun i hi => pk_un (by omega)
theorem upd_core4 {R : Nat → Int32} {v : Int32} : Core R (upd R 4 v) := fun i hi => pk_un (by omega)
theorem stepCar_core {F S A R : Nat → Int32} {d : Nat} (hf : fiR R d ≤ 7) (hs : seR R d ≤ 8) : Core R (stepCar F S A d R) := by
  have h1 : fromR F R d ≤ 8 := by unfold fromR; split <;> omega
  unfold stepCar
  split
  · exact Core.rf
  · rename_i hq
    have h2 : fromR F R d < 8 := by omega
    split
    · exact upd_core (by omega) (by omega)
    · exact (upd_core (by omega) (by omega)).tr (upd_core (by omega) (by omega))
theorem den_ne {a : Int32} (h : 1 ≤ a) : ¬ a.toInt64 = 0 := by
  intro e
  have h1 := i32le.mp h
  have e2 : a.toInt64.toInt = (0 : Int64).toInt := by rw [e]
  rw [Int32.toInt_toInt64] at e2
  have e3 : (0 : Int64).toInt = 0 := rfl
  have e4 : (1 : Int32).toInt = 1 := rfl
  omega
set_option maxHeartbeats 1000000 in
theorem carries_e {N : Mem} (hR : StrOK (N 1)) : ∃ N2, f_X10_carries N = some N2 ∧ (∀ j, j ≠ 1 → N2 j = N j) ∧ N2 1 = itr (stepCar (N 4) (N 6) (N 7)) 0 (ix (N 1 1)) (N 1) ∧ Core (N 1) (N2 1) := by
  obtain ⟨e0, h0⟩ := dn_b hR
  unfold f_X10_carries
  rw [z0]
  refine lpR (fun n d s => f_X10_carries_l2 n (nI d) s) (fun d s => (∀ j, j ≠ 1 → s j = N j) ∧ s 1 = itr (stepCar (N 4) (N 6) (N 7)) 0 d (N 1) ∧ Core (N 1) (s 1)) (fun o => ∃ N2, o = some N2 ∧ (∀ j, j ≠ 1 → N2 j = N j) ∧ N2 1 = itr (stepCar (N 4) (N 6) (N 7)) 0 (ix (N 1 1)) (N 1) ∧ Core (N 1) (N2 1)) (ix (N 1 1)) ?_ ?_ (ix (N 1 1)) 0 FU N (by omega) (FU_gt (by omega)) ⟨fun _ _ => rfl, rfl, Core.rf⟩
  · intro n d s hd ⟨i1, i2, i3⟩
    left
    have hRs := i3.str hR
    have en : s 1 1 = N 1 1 := i3 1 (by omega)
    obtain ⟨d10, hf, hs, ef, es⟩ := fi_b hRs (d := d) (by rw [en]; exact hd)
    have s4 := i1 4 (by decide)
    have s6 := i1 6 (by decide)
    have s7 := i1 7 (by decide)
    have cr := stepCar_core (F := N 4) (S := N 6) (A := N 7) hf hs
    have hfr : fromR (N 4) (s 1) d ≤ 8 := by unfold fromR; split <;> omega
    have hto : toR (N 4) (s 1) d ≤ 8 := by unfold toR; split <;> omega
    have goal2 : ∀ s2 : Mem, (∀ j, j ≠ 1 → s2 j = s j) → s2 1 = stepCar (N 4) (N 6) (N 7) d (s 1) → (∀ j, j ≠ 1 → s2 j = N j) ∧ s2 1 = itr (stepCar (N 4) (N 6) (N 7)) 0 (d + 1) (N 1) ∧ Core (N 1) (s2 1) := by
      intro s2 a b
      refine ⟨fun j hj => (a j hj).trans (i1 j hj), ?_, by rw [b]; exact i3.tr cr⟩
      rw [itr_snoc, b, ← i2, Nat.zero_add]
    -- the join behind both ends: j61
    have key : ∃ s2, f_X10_carries_j61 (f_X10_carries_l2 n) (nI d) (nI (fromR (N 4) (s 1) d)) (nI (toR (N 4) (s 1) d)) s = f_X10_carries_l2 n (nI (d + 1)) s2 ∧ (∀ j, j ≠ 1 → s2 j = s j) ∧ s2 1 = stepCar (N 4) (N 6) (N 7) d (s 1) := by
      unfold f_X10_carries_j61 stepCar
      rw [rdn d10 (by decide), s4]
      by_cases hz : N 4 d = 0
      · rw [if_pos hz, if_pos (Or.inl hz)]
        unfold f_X10_carries_j212
        rw [nm_t, nI_1]
        exact ⟨s, rfl, fun _ _ => rfl, rfl⟩
      rw [if_neg hz]
      by_cases h8 : fromR (N 4) (s 1) d = 8
      · rw [if_pos (show nI (fromR (N 4) (s 1) d) = 8 by rw [h8]; rfl), if_pos (Or.inr h8)]
        unfold f_X10_carries_j212
        rw [nm_t, nI_1]
        exact ⟨s, rfl, fun _ _ => rfl, rfl⟩
      rw [if_neg (by rw [show (8 : Int32) = nI 8 from rfl, eq_nI (by omega) (by omega)]; exact h8), if_neg (by rintro (h | h); exact hz h; exact h8 h)]
      generalize fromR (N 4) (s 1) d = fr at hfr h8
      generalize toR (N 4) (s 1) d = to at hto
      have hfr8 : fr < 8 := by omega
      -- the size
      have sz : ∀ (a3 : Int64), a3 = (absR (N 4 d)).toInt64 → ∃ s2, f_X10_carries_j107 (f_X10_carries_l2 n) (nI d) (nI fr) (nI to) a3 s = f_X10_carries_l2 n (nI (d + 1)) s2 ∧ (∀ j, j ≠ 1 → s2 j = s j) ∧ s2 1 = (if 8 ≤ to then upd (s 1) (8 + 4 * fr) (s 1 (8 + 4 * fr) - goesR (qR (N 4) (N 6) (N 7) fr d) (s 1 (8 + 4 * fr))) else upd (upd (s 1) (8 + 4 * fr) (s 1 (8 + 4 * fr) - goesR (qR (N 4) (N 6) (N 7) fr d) (s 1 (8 + 4 * fr)))) (8 + 4 * to) (upd (s 1) (8 + 4 * fr) (s 1 (8 + 4 * fr) - goesR (qR (N 4) (N 6) (N 7) fr d) (s 1 (8 + 4 * fr))) (8 + 4 * to) + goesR (qR (N 4) (N 6) (N 7) fr d) (s 1 (8 + 4 * fr)))) := by
        intro a3 ha3
        unfold f_X10_carries_j107
        rw [rdn hfr8 (by decide), rdn hfr8 (by decide), s6, s7]
        have k139 : ∀ q : Int32, q = (if 1 ≤ N 7 fr then N 7 fr else 1) → ∃ s2, f_X10_carries_j139 (f_X10_carries_l2 n) (nI d) (nI fr) (nI to) q ((N 6 fr).toInt64 * a3) s = f_X10_carries_l2 n (nI (d + 1)) s2 ∧ (∀ j, j ≠ 1 → s2 j = s j) ∧ s2 1 = (if 8 ≤ to then upd (s 1) (8 + 4 * fr) (s 1 (8 + 4 * fr) - goesR (qR (N 4) (N 6) (N 7) fr d) (s 1 (8 + 4 * fr))) else upd (upd (s 1) (8 + 4 * fr) (s 1 (8 + 4 * fr) - goesR (qR (N 4) (N 6) (N 7) fr d) (s 1 (8 + 4 * fr)))) (8 + 4 * to) (upd (s 1) (8 + 4 * fr) (s 1 (8 + 4 * fr) - goesR (qR (N 4) (N 6) (N 7) fr d) (s 1 (8 + 4 * fr))) (8 + 4 * to) + goesR (qR (N 4) (N 6) (N 7) fr d) (s 1 (8 + 4 * fr)))) := by
          intro q hq
          have q1 : 1 ≤ q := by
            rw [hq]
            split
            · assumption
            · exact i32le.mpr (Int.le_refl _)
          unfold f_X10_carries_j139
          rw [decide_eq_true (den_ne q1), gd_t, nm_t, at2 (by omega), bd_s]
          have eq : ((N 6 fr).toInt64 * a3) / q.toInt64 = qR (N 4) (N 6) (N 7) fr d := by
            unfold qR
            rw [ha3, hq]
          rw [eq]
          have k168 : ∀ g : Int32, g = goesR (qR (N 4) (N 6) (N 7) fr d) (s 1 (8 + 4 * fr)) → ∃ s2, f_X10_carries_j168 (f_X10_carries_l2 n) (nI d) (nI fr) (nI to) g s = f_X10_carries_l2 n (nI (d + 1)) s2 ∧ (∀ j, j ≠ 1 → s2 j = s j) ∧ s2 1 = (if 8 ≤ to then upd (s 1) (8 + 4 * fr) (s 1 (8 + 4 * fr) - g) else upd (upd (s 1) (8 + 4 * fr) (s 1 (8 + 4 * fr) - g)) (8 + 4 * to) (upd (s 1) (8 + 4 * fr) (s 1 (8 + 4 * fr) - g) (8 + 4 * to) + g)) := by
            intro g hg
            have ei : ∀ z : Nat, (6 : Int32) + 4 * nI z + 2 = nI (8 + 4 * z) := fun z => by rw [z2, idx4, show 6 + 4 * z + 2 = 8 + 4 * z by omega]
            unfold f_X10_carries_j168
            rw [rdl (8 + 4 * fr) (ei fr) (by omega) (by decide), wrl (8 + 4 * fr) (ei fr) (by omega) (by decide)]
            by_cases ht8 : 8 ≤ to
            · rw [if_pos (show (8 : Int32) ≤ nI to by rw [show (8 : Int32) = nI 8 from rfl, le_nI (by omega) (by omega)]; exact ht8), if_pos ht8]
              unfold f_X10_carries_j212
              rw [nm_t, nI_1]
              exact ⟨_, rfl, fun j hj => sto_n hj, sto_s⟩
            · rw [if_neg (show ¬ (8 : Int32) ≤ nI to by rw [show (8 : Int32) = nI 8 from rfl, le_nI (by omega) (by omega)]; exact ht8), if_neg ht8, rdl (8 + 4 * to) (ei to) (by omega) (by decide), wrl (8 + 4 * to) (ei to) (by omega) (by decide)]
              unfold f_X10_carries_j212
              rw [nm_t, nI_1]
              exact ⟨_, rfl, fun j hj => by rw [sto_n hj, sto_n hj], by rw [sto_s, sto_s]⟩
          by_cases hc : lg_cmp (qR (N 4) (N 6) (N 7) fr d) (s 1 (8 + 4 * fr)).toInt64 ≤ 0
          · rw [if_pos hc]
            have := k168 _ (show (qR (N 4) (N 6) (N 7) fr d).toInt32 = goesR (qR (N 4) (N 6) (N 7) fr d) (s 1 (8 + 4 * fr)) by unfold goesR; rw [if_pos hc])
            have e : goesR (qR (N 4) (N 6) (N 7) fr d) (s 1 (8 + 4 * fr)) = (qR (N 4) (N 6) (N 7) fr d).toInt32 := by unfold goesR; rw [if_pos hc]
            rw [e]
            exact this
          · rw [if_neg hc]
            have := k168 _ (show s 1 (8 + 4 * fr) = goesR (qR (N 4) (N 6) (N 7) fr d) (s 1 (8 + 4 * fr)) by unfold goesR; rw [if_neg hc])
            have e : goesR (qR (N 4) (N 6) (N 7) fr d) (s 1 (8 + 4 * fr)) = s 1 (8 + 4 * fr) := by unfold goesR; rw [if_neg hc]
            rw [e]
            exact this
        by_cases h1 : 1 ≤ N 7 fr
        · rw [if_pos h1, rdn hfr8 (by decide), s7]
          exact k139 _ (by rw [if_pos h1])
        · rw [if_neg h1]
          exact k139 _ (by rw [if_neg h1])
      rw [rdn d10 (by decide), s4]
      by_cases hp : 0 ≤ N 4 d
      · rw [if_pos hp, rdn d10 (by decide), s4]
        exact sz _ (by unfold absR; rw [if_pos hp])
      · rw [if_neg hp, rdn d10 (by decide), s4]
        exact sz _ (by unfold absR; rw [if_neg hp])
    obtain ⟨s2, k1, k2, k3⟩ := key
    refine ⟨s2, ?_, goal2 s2 k2 k3⟩
    rw [← k1, f_X10_carries_l2, rdl 1 z1 (by decide) (by decide), en, e0, if_neg (by rw [le_nI (by omega) (by omega)]; omega), rdn d10 (by decide), s4]
    unfold fromR toR
    by_cases hp : N 4 d ≤ 0
    · rw [if_pos hp, if_pos hp, if_pos hp, of2 d10, bd_s]
      unfold f_X10_carries_j36
      rw [rdn d10 (by decide), s4, if_pos hp, of1 d10, bd_s, es, ef]
    · rw [if_neg hp, if_neg hp, if_neg hp, of1 d10, bd_s]
      unfold f_X10_carries_j36
      rw [rdn d10 (by decide), s4, if_neg hp, of2 d10, bd_s, es, ef]
  · intro n s ⟨i1, i2, i3⟩
    have en : s 1 1 = N 1 1 := i3 1 (by omega)
    rw [f_X10_carries_l2, rdl 1 z1 (by decide) (by decide), en, if_pos (by rw [← e0]; exact i32le.mpr (Int.le_refl _))]
    exact ⟨s, rfl, i1, i2, i3⟩
