/-! footman, hall -/
/-- how many of the first n bits are set -/
def pk1 (w : Nat) : Nat → Nat
  | 0 => 0
  | n + 1 => pk1 w n + (if w.testBit n then 1 else 0)
theorem pop_10 (w : Nat) : pop w = pk1 w 10 := rfl
theorem pk1_le (w : Nat) : ∀ n, pk1 w n ≤ n
  | 0 => Nat.le_refl _
  | n + 1 => by have := pk1_le w n; unfold pk1; split <;> omega
theorem pk1_top {w n : Nat} (h : w < 2 ^ n) : ∀ k, pk1 w (n + k) = pk1 w n
  | 0 => rfl
  | k + 1 => by
    show pk1 w (n + k) + (if w.testBit (n + k) then 1 else 0) = pk1 w n
    rw [Nat.testBit_lt_two_pow (Nat.lt_of_lt_of_le h (Nat.pow_le_pow_right (by decide) (by omega))), if_neg (by decide), pk1_top h k, Nat.add_zero]
theorem pk1_10 {w n : Nat} (h : w < 2 ^ n) (hn : n ≤ 10) : pop w = pk1 w n := by
  rw [pop_10, show 10 = n + (10 - n) by omega, pk1_top h]
theorem pk1_cong {w v : Nat} : ∀ n, (∀ i, i < n → w.testBit i = v.testBit i) → pk1 w n = pk1 v n
  | 0, _ => rfl
  | n + 1, h => by
    unfold pk1
    rw [pk1_cong n (fun i hi => h i (by omega)), h n (by omega)]
theorem pk1_clr {w d : Nat} : ∀ n, n ≤ 10 → d < n → pk1 (clrB w d) n + (if w.testBit d then 1 else 0) = pk1 w n
  | 0, _, h => absurd h (by omega)
  | n + 1, hn, h => by
    unfold pk1
    rw [clr_t (by omega)]
    by_cases q : n = d
    · rw [pk1_cong (w := clrB w d) (v := w) n (fun i hi => by rw [clr_t (by omega), decide_eq_true (by omega)]; rfl), q]
      simp
    · have := pk1_clr (w := w) (d := d) n (by omega) (by omega)
      rw [decide_eq_true q, Bool.true_and]
      omega
theorem many_c {x : Int32} {n : Nat} {f : Nat → Int32} (h : BitsOf x n f) (hn : n ≤ 10) : ∃ w, w < 2 ^ n ∧ x = nI w ∧ f_J6_bitCount_0f7a4 x = some (nI (pk1 w n)) := by
  obtain ⟨w, h1, h2, -⟩ := h
  exact ⟨w, h1, h2, by rw [h2, bc_e (Nat.lt_of_lt_of_le h1 (pow_le10 hn)), pk1_10 h1 hn]⟩
theorem open_rel {nl : Nat} {C N : Mem} (h : Rel nl C N) {d : Nat} (hd : d < ix (N 1 1)) {o x : Int32} (hc2 : 0 ≤ o ∧ o ≤ 1) (k2 : BitsOf x (ix (N 1 1)) (fun i => if i = d then o else N 1 (42 + 5 * i))) : Rel nl (sto C (HB 0 + 1) 1 x) (sto N 1 (42 + 5 * d) o) := by
  obtain ⟨s1, s2, s3, s4, s5, s6, s7⟩ := h.1.1
  have hR := h.1.2.2
  have hd2 := (dn_b hR.1).2
  refine dr_set h (fun k hk => sto_n (by unfold HB; omega)) keep1 (coreT1 (by omega)) (fun j _ hj => low1 (by omega)) ?_ (fun i hi => ?_) ?_ ?_ (fun i hi => ?_)
  · rw [sto_sn (by decide), low1 (by omega)]; exact s1
  · rw [low1 (by omega)] at hi
    rw [sto_n (show HB 0 + 2 ≠ HB 0 + 1 by decide), sto_n (show HB 0 + 3 ≠ HB 0 + 1 by decide), sto_n (show HB 0 + 4 ≠ HB 0 + 1 by decide), sto_n (show HB 0 + 5 ≠ HB 0 + 1 by decide), low1 (show 38 + 5 * i ≠ 42 + 5 * d by omega), low1 (show 39 + 5 * i ≠ 42 + 5 * d by omega), low1 (show 40 + 5 * i ≠ 42 + 5 * d by omega), low1 (show 41 + 5 * i ≠ 42 + 5 * d by omega)]
    exact s3 i hi
  · rw [sto_ss, low1 (by omega)]
    refine k2.cong (fun i hi => ?_)
    by_cases q : i = d
    · rw [q, if_pos rfl]; exact sto_ss
    · rw [if_neg q]; exact low1 (by omega)
  · rw [low1 (by omega)]; exact hR.1.1
  · rw [low1 (by omega)] at hi
    obtain ⟨g1, g2, g3, g4, g5⟩ := hR.2.2.1 i hi
    unfold DoorOK
    rw [low1 (show 38 + 5 * i ≠ 42 + 5 * d by omega), low1 (show 39 + 5 * i ≠ 42 + 5 * d by omega), low1 (show 40 + 5 * i ≠ 42 + 5 * d by omega), low1 (show 41 + 5 * i ≠ 42 + 5 * d by omega)]
    refine ⟨g1, g2, g3, g4, ?_⟩
    by_cases q : i = d
    · rw [q, sto_ss]; exact in_rng hc2
    · rw [low1 (by omega)]; exact g5
theorem draw_s2 {nl : Nat} {C N : Mem} (h : Rel nl C N) : ∃ (k : Nat) (C2 N2 : Mem), k < 16777216 ∧ f_X1_draw 0 C = some (nI k, C2) ∧ f_X10_draw N = some (nI k, N2) ∧ Rel nl C2 N2 ∧ N2 1 1 = N 1 1 ∧ C2 (HB 0 + 1) = C (HB 0 + 1) := by
  obtain ⟨k, C2, N2, h1, h2, h3, h4, h5⟩ := draw_s h
  refine ⟨k, C2, N2, h1, h2, h3, h4, h5, ?_⟩
  unfold f_X1_draw at h2
  rw [nm_t] at h2
  rw [← (Prod.mk.inj (Option.some.inj h2)).2]
  exact sto_n (by decide)
theorem foot_l {nl n w0 a : Nat} (ha : a ≤ 100) (hn : n ≤ 10) : ∀ (k i n1 n2 w : Nat) (C N : Mem), i + k = n → k < n1 → k < n2 → Rel nl C N → N 1 1 = nI n → C (HB 0 + 1) 1 = nI w → w < 2 ^ n → pk1 w n ≤ pk1 w0 n →
    ∃ C2 N2 v, f_X1_goRound_l2 0 n1 (nI a) (nI i) C = some C2 ∧ f_X10_footman_l17 n2 (nI a) (nI (pk1 w0 n - pk1 w n)) (nI i) N = some (nI (pk1 w0 n - pk1 v n), N2) ∧ Rel nl C2 N2 ∧ C2 (HB 0 + 1) 1 = nI v ∧ v < 2 ^ n ∧ pk1 v n ≤ pk1 w0 n
  | 0, i, n1 + 1, n2 + 1, w, C, N, hi, _, _, h, e, h3, h4, h5 => by
    rw [Nat.add_zero] at hi
    unfold f_X1_goRound_l2 f_X10_footman_l17
    rw [rdl 1 z1 (by decide) (by decide), h.1.1.1, e, hi, if_pos (by rw [le_nI (by omega) (by omega)]; omega), if_pos (by rw [le_nI (by omega) (by omega)]; omega)]
    exact ⟨C, N, w, rfl, rfl, h, h3, h4, h5⟩
  | k + 1, i, n1 + 1, n2 + 1, w, C, N, hi, h1, h2, h, e, h3, h4, h5 => by
    unfold f_X1_goRound_l2 f_X10_footman_l17
    obtain ⟨k1, C1, N1, l1, c1, d1, r1, u1, v1⟩ := draw_s2 h
    rw [rdl 1 z1 (by decide) (by decide), h.1.1.1, e, if_neg (by rw [le_nI (by omega) (by omega)]; omega), if_neg (by rw [le_nI (by omega) (by omega)]; omega), c1, d1, bd2_s, bd2_s, show (100 : Int32) = nI 100 from rfl, pk_rem (by omega) (by decide) (by decide)]
    have e1 : N1 1 1 = nI n := u1.trans e
    have hx : ix (N1 1 1) = n := by rw [e1]; exact ix_nI (by omega)
    have h3' : C1 (HB 0 + 1) 1 = nI w := by rw [v1]; exact h3
    by_cases q : a ≤ k1 % 100
    · rw [if_pos (by rw [le_nI (by omega) (by omega)]; exact q), if_pos (by rw [le_nI (by omega) (by omega)]; exact q)]
      unfold f_X1_goRound_j33 f_X10_footman_j61
      rw [nm_t, nm_t, z1, nI_add]
      exact foot_l ha hn k (i + 1) n1 n2 w C1 N1 (by omega) (by omega) (by omega) r1 e1 h3' h4 h5
    · rw [if_neg (by rw [le_nI (by omega) (by omega)]; exact q), if_neg (by rw [le_nI (by omega) (by omega)]; exact q)]
      have s4 := r1.1.1.2.2.2.1
      rw [hx] at s4
      have hw : ∀ j, j < n → N1 1 (42 + 5 * j) = nI (if w.testBit j then 1 else 0) := by
        obtain ⟨w2, g1, g2, g3⟩ := s4
        have : w2 = w := by
          rw [h3'] at g2
          have h10 := pow_le10 hn
          have := (eq_nI (a := w) (b := w2) (by omega) (by omega)).mp g2
          exact this.symm
        rw [← this]; exact g3
      have bits := s4.clr (d := i) (g := fun j => if j = i then 0 else N1 1 (42 + 5 * j)) hn (by omega) (fun j hj => rfl)
      have rel2 := open_rel (d := i) (o := 0) (x := (C1 (HB 0 + 1) 1) &&& (((1 : Int32) <<< (nI i &&& 31)) ^^^ (-1))) r1 (by omega) (by decide) (by rw [hx]; exact bits)
      have pc := pk1_clr (w := w) (d := i) n hn (by omega)
      have h10 := pow_le10 hn
      unfold f_X0_swing
      rw [if_pos rfl, nm_t, bd_s, of4 (by omega), bd_s, nm_t, wrl (42 + 5 * i) (by rw [z4, idx5, show 38 + 5 * i + 4 = 42 + 5 * i by omega]) (by omega) (by decide), hw i (by omega), nI_add, show pk1 w0 n - pk1 w n + (if w.testBit i then 1 else 0) = pk1 w0 n - pk1 (clrB w i) n by omega]
      unfold f_X1_goRound_j33 f_X10_footman_j61
      rw [nm_t, nm_t, z1, nI_add]
      refine foot_l ha hn k (i + 1) n1 n2 (clrB w i) _ _ (by omega) (by omega) (by omega) rel2 ?_ ?_ (clr_lt h4) (by omega)
      · rw [low1 (by omega)]; exact e1
      · rw [sto_ss, h3']; exact clr_e (by omega) (by omega)
theorem footman_s {nl : Nat} {C N : Mem} (h : Rel nl C N) (a1 : Int32) : Sim nl (f_X9_footman C a1) (f_X10_footman N a1) := by
  obtain ⟨e0, hn⟩ := dn_b h.1.2.2.1
  unfold f_X9_footman f_X10_footman
  rw [f_within9, f_in, bd_s, bd_s]
  by_cases hc : 0 ≤ a1 ∧ a1 ≤ 100
  · obtain ⟨a, ha, ea⟩ := rng_n (n := 100) (by decide) hc
    rw [if1 hc, if1 hc]
    have s4 := h.1.1.2.2.2.1
    generalize hv : ix (N 1 1) = n at e0 hn s4
    obtain ⟨w, h1, h2, h3⟩ := many_c s4 hn
    obtain ⟨C2, N2, v, q1, q2, q3, q4, q5, q6⟩ := foot_l (nl := nl) (w0 := w) ha hn n 0 FU FU w C N (by omega) (FU_gt (by omega)) (FU_gt (by omega)) h e0 h2 h1 (Nat.le_refl _)
    have q2 : f_X10_footman_l17 FU a1 0 0 N = some (nI (pk1 w n - pk1 v n), N2) := by
      rw [Nat.sub_self] at q2
      rw [ea]; exact q2
    unfold f_X0_openMany f_X1_goRound
    rw [h3, bd_s, bd_s, q2, ea, z0, q1, bd_s, q4, bc_e (Nat.lt_of_lt_of_le q5 (pow_le10 hn)), pk1_10 q5 hn, bd_s, bd_s, pk_sub q6]
    exact ⟨_, _, _, rfl, rfl, q3⟩
  · rw [if0 hc, if0 hc]
    exact sim_bad h _
