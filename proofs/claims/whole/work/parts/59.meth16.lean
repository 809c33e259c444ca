/-! keep, back: a row is what stands below 1460 -/
theorem evR_cong {c c2 : Nat → Int32} {f0 f1 : Int32} : ∀ m, (∀ j, j < m → c2 j = c j) → evR c2 f0 f1 m = evR c f0 f1 m
  | 0, _ => rfl
  | m + 1, h => by unfold evR; rw [evR_cong m (fun j hj => h j (by omega)), h m (by omega)]
theorem dp_cong {c c2 : Nat → Int32} : ∀ m, (∀ j, j < m → c2 j = c j) → dp c2 m = dp c m
  | 0, _ => rfl
  | m + 1, h => by unfold dp; rw [dp_cong m (fun j hj => h j (by omega)), h m (by omega)]
theorem VC_cong {c c2 : Nat → Int32} {m : Nat} (h : ∀ j, j < m → c2 j = c j) (hv : VC c m) : VC c2 m := by
  refine ⟨fun k hk => ?_, by rw [dp_cong m h]; exact hv.2⟩
  rw [h k hk, dp_cong k (fun j hj => h j (by omega))]
  exact hv.1 k hk
def E14 (R R2 : Nat → Int32) : Prop := ∀ j, j < 1460 → R2 j = R j
theorem E14.text {R R2 : Nat → Int32} (h : E14 R R2) {t : Nat} (ht : t < 14) (hT : TextOK R t) : TextOK R2 t := by
  obtain ⟨key, m, h1, h2, h3, h4, h5⟩ := hT
  exact ⟨key, m, h1, h2, h3, by rw [h _ (by omega)]; exact h4, VC_cong (fun j hj => h _ (by omega)) h5⟩
theorem E14.ev {R R2 : Nat → Int32} (h : E14 R R2) {t : Nat} (ht : t < 14) (hT : TextOK R t) (a b : Int32) : evT R2 t a b = evT R t a b := by
  obtain ⟨key, m, h1, h2, h3, h4, h5⟩ := hT
  have e := (txt_m ⟨key, m, h1, h2, h3, h4, h5⟩ h1 h3 h4).2
  unfold evT valR
  rw [h (88 + 2 * t) (by omega), e, evR_cong m (fun j hj => h _ (by omega))]
theorem E14.cnt {R R2 : Nat → Int32} (h : E14 R R2) (hb : Bd (R 5) 0 14) (k : Int32) : cntR R2 k = cntR R k := by
  have hT := (show Bd (R 5) 0 ((14 : Nat) : Int) from hb).i.2
  unfold cntR
  rw [h 5 (by decide)]
  generalize ix (R 5) = T at hT
  induction T with
  | zero => rfl
  | succ T ih => unfold cntL; rw [h _ (by omega), ih (by omega)]
theorem E14.pl {R R2 : Nat → Int32} (h : E14 R R2) (hR : StrOK R) (w o : Int32) : plainR R2 w o = plainR R w o := by
  unfold plainR
  rw [h.cnt hR.2.1]
  by_cases q : 0 ≤ cntR R 0
  · rcases cntR_s hR.2.1 0 with e | ⟨t, ht, ht2, e, -⟩
    · rw [e] at q; exact absurd q (by decide)
    · rw [if_pos q, if_pos q, e, ix_nI (by omega), h.ev ht2 (hR.2.2.2 t ht)]
  · rw [if_neg q, if_neg q]
theorem E14.row {R R2 : Nat → Int32} (h : E14 R R2) (hR : RowOK R) : RowOK R2 := by
  have hd := (dn_b hR.1).2
  have hT := (show Bd (R 5) 0 ((14 : Nat) : Int) from hR.1.2.1).i.2
  have dk : ∀ d, d < ix (R2 1) → DoorOK R2 d := fun d hq => by
    rw [h 1 (by decide)] at hq
    have := hR.2.2.1 d hq
    unfold DoorOK at *
    rw [h _ (by omega), h (39 + 5 * d) (by omega), h (40 + 5 * d) (by omega), h (41 + 5 * d) (by omega), h (42 + 5 * d) (by omega)]
    exact this
  refine ⟨⟨by rw [h 1 (by decide)]; exact hR.1.1, by rw [h 5 (by decide)]; exact hR.1.2.1, fun d q => ⟨(dk d q).2.1, (dk d q).2.2.1⟩, fun t ht => ?_⟩, by rw [h 3 (by decide)]; exact hR.2.1, dk, fun r hr => ?_⟩
  · rw [h 5 (by decide)] at ht
    exact h.text (by omega) (hR.1.2.2.2 t ht)
  · rw [h _ (by omega), h (7 + 4 * r) (by omega)]; exact hR.2.2.2 r hr
theorem HRel.cong {nl : Nat} {C : Mem} {b : Nat} {R R2 : Nat → Int32} (g : HRel nl C b R) (h : E14 R R2) : HRel nl C b R2 := by
  obtain ⟨⟨s1, s2, s3, s4, s5, s6, s7⟩, ⟨d1, d2, d3, d4, d5, d6⟩, hR⟩ := g
  have hd := (dn_b hR.1).2
  have hT := (show Bd (R 5) 0 ((14 : Nat) : Int) from hR.1.2.1).i.2
  have e1 := h 1 (by decide)
  have e5 := h 5 (by decide)
  refine ⟨⟨by rw [e1]; exact s1, by rw [e5]; exact s2, fun d q => ?_, ?_, fun t ht => ?_, fun k hk => ?_, fun k w o a1 a2 a3 a4 => ?_⟩, ⟨by rw [h 0 (by decide)]; exact d1, by rw [h 2 (by decide)]; exact d2, by rw [h 4 (by decide)]; exact d3, by rw [h 3 (by decide)]; exact d4, fun r hr => ?_, d6.cong (fun i hi => h _ (by omega))⟩, h.row hR⟩
  · rw [e1] at q
    rw [h _ (by omega), h (39 + 5 * d) (by omega), h (40 + 5 * d) (by omega), h (41 + 5 * d) (by omega)]; exact s3 d q
  · rw [e1]; exact s4.cong (fun i hi => h _ (by omega))
  · rw [e5] at ht
    obtain ⟨c, key, m, a1, a2, a3, a4, a5, a6, a7, a8, a9, a10, a11⟩ := s5 t ht
    exact ⟨c, key, m, a1, a2, a3, a4, a5, a6, a7, by rw [h _ (by omega)]; exact a8, by rw [h _ (by omega)]; exact a9, a10, fun k hk => by rw [h _ (by omega)]; exact a11 k hk⟩
  · rw [h.cnt hR.1.2.1]; exact s6 k hk
  · rw [h.pl hR.1]; exact s7 k w o a1 a2 a3 a4
  · rw [h _ (by omega), h (7 + 4 * r) (by omega), h (8 + 4 * r) (by omega)]; exact d5 r hr
theorem copy_l {N : Mem} {p q : Nat} (hpq : p ≠ q) : ∀ (k i n : Nat) (s : Mem), i + k = 1460 → k < n → (∀ j, j ≠ q → s j = N j) → (∀ j, j < i → s q j = N p j) → ∃ N2, f_X10_copyAll_l2 p q n (nI i) s = some N2 ∧ (∀ j, j ≠ q → N2 j = N j) ∧ ∀ j, j < 1460 → N2 q j = N p j
  | 0, i, n + 1, s, hi, _, h1, h2 => by
    unfold f_X10_copyAll_l2
    rw [show i = 1460 by omega, if_pos (by decide)]
    exact ⟨s, rfl, h1, fun j hj => h2 j (by omega)⟩
  | k + 1, i, n + 1, s, hi, hk, h1, h2 => by
    unfold f_X10_copyAll_l2
    rw [if_neg (show ¬ (1460 : Int32) ≤ nI i from fu_nle (a := 1460) (by decide) (by omega) (by omega)), rdn (by omega) (by decide), wrn (by omega) (by decide), nm_t, z1, nI_add]
    refine copy_l hpq k (i + 1) n _ (by omega) (by omega) (fun j hj => (sto_n hj).trans (h1 j hj)) (fun j hj => ?_)
    by_cases w : j = i
    · rw [w, sto_ss, h1 p hpq]
    · rw [sto_sn w]; exact h2 j (by omega)
theorem copyAll_e {N : Mem} {p q : Nat} (hpq : p ≠ q) : ∃ N2, f_X10_copyAll N p q = some N2 ∧ (∀ j, j ≠ q → N2 j = N j) ∧ E14 (N p) (N2 q) :=
  copy_l hpq 1460 0 FU N (by omega) (FU_gt (by omega)) (fun _ _ => rfl) (fun j hj => absurd hj (by omega))
theorem back_s {nl : Nat} {C N : Mem} (h : Rel nl C N) : Sim nl (f_X9_back nl C) (f_X10_back N) := by
  obtain ⟨i1, i2⟩ := h.2.2.2.2.1
  unfold f_X9_back f_X10_back
  rw [i1]
  rcases i2 with q | ⟨q, q1, q2⟩
  · rw [if_pos q, if_pos q]; exact sim_bad h _
  · obtain ⟨C2, c1, c2, c3, c4⟩ := takeFrom_c (b := 0) (b1 := 1) (by decide) (by decide) (by decide) q1 h.2.2.2.2.2.1
    obtain ⟨N2, n1, n2, n3⟩ := copyAll_e (N := N) (p := 2) (q := 1) (by decide)
    rw [if_neg (by rw [q]; decide), if_neg (by rw [q]; decide), c1, bd_s, n1, bd_s, rdl 1 z1 (by decide) (by decide), c2.1.1, n3 1 (by decide)]
    refine ⟨_, _, _, rfl, rfl, c2.cong n3, by rw [n3 2 (by decide)]; exact q2, c4, fun i hi => by rw [c3 _ (by decide)]; exact h.2.2.2.1 i hi, h.2.2.2.2.mono (fun k hk => c3 k (by unfold HB; omega)) (fun k hk => n2 k (by omega))⟩
theorem keep_s {nl : Nat} {C N : Mem} (h : Rel nl C N) : Sim nl (f_X9_keep nl C) (f_X10_keep N) := by
  obtain ⟨g1, g2, g3, g4, ⟨i0, o2, ⟨t1, t2, t3⟩, o4, o5, ⟨w1, w2, w3⟩, ⟨k1, k2⟩⟩⟩ := h
  obtain ⟨C2, c1, c2, c3, c4⟩ := takeFrom_c (b := 1) (b1 := 0) (by decide) (by decide) (by decide) g1 g3
  obtain ⟨N2, n1, n2, n3⟩ := copyAll_e (N := N) (p := 1) (q := 2) (by decide)
  have cF : ∀ k, k ≠ 0 → (k < 18 ∨ 35 ≤ k) → sto C2 0 2 1 k = C k := fun k h0 hk => (sto_n h0).trans (c3 k (by unfold HB; omega))
  have nF : ∀ k, k ≠ 0 → k ≠ 2 → sto N2 0 3 1 k = N k := fun k h0 h2 => (sto_n h0).trans (n2 k h2)
  have cZ : ∀ j, j ≠ 2 → sto C2 0 2 1 0 j = C 0 j := fun j hj => (sto_sn hj).trans (by rw [c3 0 (by decide)])
  have nZ : ∀ j, j ≠ 3 → sto N2 0 3 1 0 j = N 0 j := fun j hj => (sto_sn hj).trans (by rw [n2 0 (by decide)])
  have h1 : HRel nl (sto C2 0 2 1) 1 (sto N2 0 3 1 2) := by
    rw [sto_n (show (2 : Nat) ≠ 0 by decide)]
    exact (c2.cong n3).out (fun j hj => sto_n (by unfold HB; omega)) (fun k hk => sto_n (by omega))
  unfold f_X9_keep f_X10_keep
  rw [c1, bd_s, nm_t, n1, bd_s, nm_t, rdl 1 z1 (by decide) (by decide), sto_n (show HB 1 + 1 ≠ 0 by decide), c2.1.1, nF 1 (by decide) (by decide)]
  refine ⟨_, _, _, rfl, rfl, ?_, ?_, fun i hi => by rw [cF _ (by decide) (by decide)]; exact g3 i hi, fun i hi => by rw [cF _ (by decide) (by decide)]; exact g4 i hi, ⟨sto_ss.trans sto_ss.symm, Or.inr ⟨sto_ss, h1, ?_⟩⟩, fun i hi => by rw [sto_n (by decide)]; exact c4 i hi, ⟨by rw [nZ 10 (by decide)]; exact t1, by rw [nZ 10 (by decide), cF 54 (by decide) (by decide)]; exact t2, fun k hk => ?_⟩, fun i hi => ?_, fun i hi => ?_, ⟨by rw [nZ 36 (by decide)]; exact w1, by rw [nZ 36 (by decide), cZ 10 (by decide)]; exact w2, fun k hk => ?_⟩, ⟨fun k hk => by rw [nF 10 (by decide) (by decide)]; exact k1 k hk, by rw [nF 11 (by decide) (by decide)]; exact k2⟩⟩
  · rw [nF 1 (by decide) (by decide)]
    exact g1.out (fun j hj => cF _ (by unfold HB; omega) (by unfold HB; omega)) (fun k hk => cF k (by omega) (by omega))
  · rw [nF 1 (by decide) (by decide)]; exact g2
  · rw [sto_n (show (2 : Nat) ≠ 0 by decide), n3 2 (by decide)]; exact g2
  · rw [nZ 10 (by decide)] at hk
    rw [nF 9 (by decide) (by decide), cF 53 (by decide) (by decide)]; exact t3 k hk
  · rw [cF _ (by omega) (by omega), nF 17 (by decide) (by decide), nF 18 (by decide) (by decide), nF 19 (by decide) (by decide), cF (58 + 2 * i) (by omega) (by omega)]; exact o4 i hi
  · rw [cF _ (by omega) (by omega), nF 20 (by decide) (by decide), nF 21 (by decide) (by decide), nF 22 (by decide) (by decide), nF 23 (by decide) (by decide), cF (67 + 3 * i) (by omega) (by omega), cF (68 + 3 * i) (by omega) (by omega)]; exact o5 i hi
  · rw [nZ 36 (by decide)] at hk
    rw [nF 25 (by decide) (by decide), cF 81 (by decide) (by decide)]; exact w3 k hk
