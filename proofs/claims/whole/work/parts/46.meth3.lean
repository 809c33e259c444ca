/-! door, deal, footman -/
theorem add_e {C : Mem} {n : Nat} (hn : n < 10) (e : C (HB 0 + 1) 0 = nI n) (a1 a2 a3 a4 : Int32) : ∃ C2, f_X0_add 0 C a1 a2 a3 a4 = some (nI n, C2) ∧ (∀ k, (k = 0 ∨ k = 1 ∨ 7 ≤ k) → C2 k = C k) ∧ C2 (HB 0 + 1) 0 = nI (n + 1) ∧ C2 (HB 0 + 1) 1 = C (HB 0 + 1) 1 ∧ (C2 (HB 0 + 2) n = a1 ∧ C2 (HB 0 + 3) n = a2 ∧ C2 (HB 0 + 4) n = a3 ∧ C2 (HB 0 + 5) n = a4) ∧ ∀ d, d ≠ n → C2 (HB 0 + 2) d = C (HB 0 + 2) d ∧ C2 (HB 0 + 3) d = C (HB 0 + 3) d ∧ C2 (HB 0 + 4) d = C (HB 0 + 4) d ∧ C2 (HB 0 + 5) d = C (HB 0 + 5) d := by
  refine ⟨sto (sto (sto (sto (sto C (HB 0 + 2) n a1) (HB 0 + 3) n a2) (HB 0 + 4) n a3) (HB 0 + 5) n a4) (HB 0 + 1) 0 (nI (n + 1)), ?_, ?_, sto_ss, ?_, ⟨?_, ?_, ?_, ?_⟩, fun d hd => ⟨?_, ?_, ?_, ?_⟩⟩
  · unfold f_X0_add
    rw [e, nm_t, wrn (by omega) (by decide), wrn (by omega) (by decide), wrn (by omega) (by decide), wrn (by omega) (by decide), nm_t]
    rw [sto_n (show HB 0 + 1 ≠ HB 0 + 5 by decide), sto_n (show HB 0 + 1 ≠ HB 0 + 4 by decide), sto_n (show HB 0 + 1 ≠ HB 0 + 3 by decide), sto_n (show HB 0 + 1 ≠ HB 0 + 2 by decide), e, z1, nI_add]
  · intro k hk
    rw [sto_n (by unfold HB; omega), sto_n (by unfold HB; omega), sto_n (by unfold HB; omega), sto_n (by unfold HB; omega), sto_n (by unfold HB; omega)]
  · rw [sto_sn (by decide), sto_n (show HB 0 + 1 ≠ HB 0 + 5 by decide), sto_n (show HB 0 + 1 ≠ HB 0 + 4 by decide), sto_n (show HB 0 + 1 ≠ HB 0 + 3 by decide), sto_n (show HB 0 + 1 ≠ HB 0 + 2 by decide)]
  · rw [sto_n (show HB 0 + 2 ≠ HB 0 + 1 by decide), sto_n (show HB 0 + 2 ≠ HB 0 + 5 by decide), sto_n (show HB 0 + 2 ≠ HB 0 + 4 by decide), sto_n (show HB 0 + 2 ≠ HB 0 + 3 by decide), sto_ss]
  · rw [sto_n (show HB 0 + 3 ≠ HB 0 + 1 by decide), sto_n (show HB 0 + 3 ≠ HB 0 + 5 by decide), sto_n (show HB 0 + 3 ≠ HB 0 + 4 by decide), sto_ss]
  · rw [sto_n (show HB 0 + 4 ≠ HB 0 + 1 by decide), sto_n (show HB 0 + 4 ≠ HB 0 + 5 by decide), sto_ss]
  · rw [sto_n (show HB 0 + 5 ≠ HB 0 + 1 by decide), sto_ss]
  · rw [sto_n (show HB 0 + 2 ≠ HB 0 + 1 by decide), sto_n (show HB 0 + 2 ≠ HB 0 + 5 by decide), sto_n (show HB 0 + 2 ≠ HB 0 + 4 by decide), sto_n (show HB 0 + 2 ≠ HB 0 + 3 by decide), sto_sn hd]
  · rw [sto_n (show HB 0 + 3 ≠ HB 0 + 1 by decide), sto_n (show HB 0 + 3 ≠ HB 0 + 5 by decide), sto_n (show HB 0 + 3 ≠ HB 0 + 4 by decide), sto_sn hd, sto_n (show HB 0 + 3 ≠ HB 0 + 2 by decide)]
  · rw [sto_n (show HB 0 + 4 ≠ HB 0 + 1 by decide), sto_n (show HB 0 + 4 ≠ HB 0 + 5 by decide), sto_sn hd, sto_n (show HB 0 + 4 ≠ HB 0 + 3 by decide), sto_n (show HB 0 + 4 ≠ HB 0 + 2 by decide)]
  · rw [sto_n (show HB 0 + 5 ≠ HB 0 + 1 by decide), sto_sn hd, sto_n (show HB 0 + 5 ≠ HB 0 + 4 by decide), sto_n (show HB 0 + 5 ≠ HB 0 + 3 by decide), sto_n (show HB 0 + 5 ≠ HB 0 + 2 by decide)]
/-- a door comes on both sides -/
theorem come_s {nl : Nat} {C N : Mem} (h : Rel nl C N) {n : Nat} (hn : n < 10) (e : N 1 1 = nI n) {a1 a2 a3 a4 : Int32} (b1 : Bd a1 0 5) (b2 : Bd a2 0 7) (b3 : Bd a3 0 8) (b4 : Bd a4 1 9) :
    ∃ C2 C3 N2 N3, f_X0_add 0 C a1 a2 a3 a4 = some (nI n, C2) ∧ f_X0_swing 0 C2 (nI n) 1 = some C3 ∧ f_X10_comes N a1 a2 a3 a4 0 = some (nI n, N2) ∧ f_X10_comes N a1 a2 a3 a4 1 = some (nI n, N3) ∧ Rel nl C2 N2 ∧ Rel nl C3 N3 ∧ N3 1 1 = nI (n + 1) := by
  obtain ⟨s1, s2, s3, s4, s5, s6, s7⟩ := h.1.1
  have hR := h.1.2.2
  have hx : ix (N 1 1) = n := by rw [e]; exact ix_nI (by omega)
  obtain ⟨C2, c1, c2, c3, c4, ⟨c5, c6, c7, c8⟩, c9⟩ := add_e (C := C) hn (s1.trans e) a1 a2 a3 a4
  obtain ⟨N2, n1, n2, n3, n4, n5, n6, n7, n8, n9⟩ := comes_e (N := N) hn e a1 a2 a3 a4 0
  obtain ⟨N3, m1, m2, m3, m4, m5, m6, m7, m8, m9⟩ := comes_e (N := N) hn e a1 a2 a3 a4 1
  rw [hx] at s3 s4
  have gen : ∀ (C4 N4 : Mem) (o : Int32), (o = 0 ∨ o = 1) → (∀ k, k ≠ HB 0 + 1 → C4 k = C2 k) → C4 (HB 0 + 1) 0 = nI (n + 1) → BitsOf (C4 (HB 0 + 1) 1) (n + 1) (fun d => N4 1 (42 + 5 * d)) → (∀ k, k ≠ 1 → N4 k = N k) → N4 1 1 = nI (n + 1) → N4 1 (38 + 5 * n) = a1 → N4 1 (39 + 5 * n) = a2 → N4 1 (40 + 5 * n) = a3 → N4 1 (41 + 5 * n) = a4 → N4 1 (42 + 5 * n) = o → (∀ j, j ≠ 1 → (j < 38 + 5 * n ∨ 43 + 5 * n ≤ j) → N4 1 j = N 1 j) → Rel nl C4 N4 := by
    intro C4 N4 o ho g1 g2 g3 g4 g5 g6 g7 g8 g9 g10 g11
    have hx4 : ix (N4 1 1) = n + 1 := by rw [g5]; exact ix_nI (by omega)
    refine dr_set h (fun k hk => (g1 k (by unfold HB; omega)).trans (c2 k hk)) (fun k hk => g4 k (by omega)) (fun j hj => g11 j (by omega) (by omega)) (fun j h1 h2 => g11 j h1 (by omega)) (g2.trans g5.symm) (fun d hd => ?_) (by rw [hx4]; exact g3) (by rw [g5]; exact Bd_nI (by omega) (by omega) (by omega)) (fun d hd => ?_)
    · rw [hx4] at hd
      rw [g1 _ (by decide), g1 (HB 0 + 3) (by decide), g1 (HB 0 + 4) (by decide), g1 (HB 0 + 5) (by decide)]
      by_cases q : d = n
      · rw [q, g6, g7, g8, g9]; exact ⟨c5, c6, c7, c8⟩
      · obtain ⟨k1, k2, k3, k4⟩ := c9 d q
        rw [k1, k2, k3, k4, g11 _ (by omega) (by omega), g11 (39 + 5 * d) (by omega) (by omega), g11 (40 + 5 * d) (by omega) (by omega), g11 (41 + 5 * d) (by omega) (by omega)]
        exact s3 d (by omega)
    · rw [hx4] at hd
      unfold DoorOK
      by_cases q : d = n
      · rw [q, g6, g7, g8, g9, g10]
        refine ⟨b1, b2, b3, b4, ?_⟩
        rcases ho with w | w
        · rw [w]; exact ⟨by decide, by decide⟩
        · rw [w]; exact ⟨by decide, by decide⟩
      · rw [g11 _ (by omega) (by omega), g11 (39 + 5 * d) (by omega) (by omega), g11 (40 + 5 * d) (by omega) (by omega), g11 (41 + 5 * d) (by omega) (by omega), g11 (42 + 5 * d) (by omega) (by omega)]
        exact hR.2.2.1 d (by omega)
  have bits0 : BitsOf (C2 (HB 0 + 1) 1) (n + 1) (fun d => N2 1 (42 + 5 * d)) := by
    rw [c4]
    exact s4.more (fun i hi => n9 _ (by omega) (by omega)) n8
  refine ⟨C2, sto C2 (HB 0 + 1) 1 ((C2 (HB 0 + 1) 1) ||| ((1 : Int32) <<< (nI n &&& 31))), N2, N3, c1, ?_, n1, m1, gen C2 N2 0 (Or.inl rfl) (fun _ _ => rfl) c3 bits0 n2 n3 n4 n5 n6 n7 n8 n9, gen _ N3 1 (Or.inr rfl) (fun k hk => sto_n hk) (by rw [sto_sn (by decide)]; exact c3) ?_ m2 m3 m4 m5 m6 m7 m8 m9, m3⟩
  · unfold f_X0_swing
    rw [if_neg (by decide)]
    rfl
  · rw [sto_ss]
    refine bits0.set (by omega) (by omega) (fun i hi => ?_)
    by_cases q : i = n
    · rw [if_pos q, q]; exact m8
    · rw [if_neg q, m9 _ (by omega) (by omega), n9 _ (by omega) (by omega)]
theorem door_s {nl : Nat} {C N : Mem} (h : Rel nl C N) (a1 a2 a3 a4 : Int32) : Sim nl (f_X9_door C a1 a2 a3 a4) (f_X10_door N a1 a2 a3 a4) := by
  have s1 := h.1.1.1
  obtain ⟨e0, hn⟩ := dn_b h.1.2.2.1
  unfold f_X9_door f_X10_door
  rw [isKind_e, f_in, bd_s, bd_s]
  by_cases hc : 0 ≤ a1 ∧ a1 ≤ 5
  · rw [if1 hc, if1 hc, isRoom9_e, isRoom10_e, bd_s, bd_s]
    by_cases hc2 : 0 ≤ a2 ∧ a2 ≤ 7
    · rw [if1 hc2, if1 hc2, f_within9, f_in, bd_s, bd_s]
      by_cases hc3 : 0 ≤ a3 ∧ a3 ≤ 8
      · rw [if1 hc3, if1 hc3]
        by_cases hq : a3 = a2
        · rw [if_pos hq, if_pos hq.symm]
          exact sim_bad h _
        · rw [if_neg hq, if_neg (show ¬ a2 = a3 from fun q => hq q.symm), f_within9, f_in, bd_s, bd_s]
          by_cases hc4 : 1 ≤ a4 ∧ a4 ≤ 9
          · rw [if1 hc4, if1 hc4, rdl 1 z1 (by decide) (by decide), s1]
            generalize hv : ix (N 1 1) = n at e0 hn
            by_cases hl : n = 10
            · rw [e0, hl, if_neg (by decide), if_pos (show nI 10 = (10 : Int32) from rfl)]
              exact sim_bad h _
            · obtain ⟨C2, C3, N2, N3, r1, r2, r3, r4, r5, -, -⟩ := come_s h (n := n) (by omega) e0 (in_rng hc) (in_rng hc2) (in_rng hc3) (in_rng hc4)
              rw [r1, r3, e0, if_pos (by rw [show (10 : Int32) = nI 10 from rfl, lt_nI (by omega) (by decide)]; omega), if_neg (by rw [show (10 : Int32) = nI 10 from rfl, eq_nI (by omega) (by decide)]; omega), bd2_s, bd2_s]
              exact ⟨_, _, _, rfl, rfl, r5⟩
          · rw [if0 hc4, if0 hc4]
            exact sim_bad h _
      · rw [if0 hc3, if0 hc3]
        exact sim_bad h _
    · rw [if0 hc2, if0 hc2]
      exact sim_bad h _
  · rw [if0 hc, if0 hc]
    exact sim_bad h _
theorem nI_all (x : Int32) : x = nI x.toBitVec.toNat := by
  apply Int32.toBitVec_inj.mp
  show x.toBitVec = BitVec.ofNat 32 x.toBitVec.toNat
  rw [BitVec.ofNat_toNat, BitVec.setWidth_eq]
theorem draw_s {nl : Nat} {C N : Mem} (h : Rel nl C N) : ∃ (k : Nat) (C2 N2 : Mem), k < 16777216 ∧ f_X1_draw 0 C = some (nI k, C2) ∧ f_X10_draw N = some (nI k, N2) ∧ Rel nl C2 N2 ∧ N2 1 1 = N 1 1 := by
  obtain ⟨d1, d2, d3, d4, d5, d6⟩ := h.1.2.1
  obtain ⟨r, C2, N2, q1, q2, q3⟩ := seed_s h (C (HB 0) 8 * 1103515245 + 12345)
  have e1 : C2 = sto C (HB 0) 8 (C (HB 0) 8 * 1103515245 + 12345) := by
    unfold f_X9_seed at q1
    rw [nm_t, nm_t] at q1
    exact (Prod.mk.inj (Option.some.inj q1)).2.symm
  have e2 : N2 = sto N 1 0 (C (HB 0) 8 * 1103515245 + 12345) := by
    unfold f_X10_seed at q2
    rw [bec 0 z0 (by decide), bd2_s] at q2
    exact (Prod.mk.inj (Option.some.inj q2)).2.symm
  have e3 := nI_all (C (HB 0) 8 * 1103515245 + 12345)
  have e4 := (C (HB 0) 8 * 1103515245 + 12345).toBitVec.isLt
  have e5 : ((C (HB 0) 8 * 1103515245 + 12345).toUInt32 >>> ((8 : Int32).toUInt32 &&& Int32.toUInt32 31)).toInt32 = nI ((C (HB 0) 8 * 1103515245 + 12345).toBitVec.toNat / 2 ^ 8) := by
    conv => lhs; rw [e3]
    exact pk_ushrN e4 8 8 (by decide)
  refine ⟨(C (HB 0) 8 * 1103515245 + 12345).toBitVec.toNat / 2 ^ 8, C2, N2, by omega, ?_, ?_, q3, by rw [e2]; exact sto_sn (by decide)⟩
  · unfold f_X1_draw
    rw [nm_t, sto_ss, e5, e1]
  · unfold f_X10_draw
    rw [rdl 0 z0 (by decide) (by decide), wrl 0 z0 (by decide) (by decide), rdl 0 z0 (by decide) (by decide), sto_ss, ← d1, e5, e2]
theorem deal_l {nl a m n0 : Nat} (ha : a ≤ 10) (hm : m ≤ a) (h10 : n0 + m ≤ 10) (hor : m = a ∨ n0 + m = 10) : ∀ (k i n1 n2 : Nat) (C N : Mem), i + k = m → k < n1 → k < n2 → Rel nl C N → N 1 1 = nI (n0 + i) → Sim nl (f_X9_deal_l33 n1 (nI m) (nI i) C) (f_X10_deal_l15 n2 (nI a) (nI i) N)
  | 0, i, n1 + 1, n2 + 1, C, N, hi, _, _, h, e => by
    rw [Nat.add_zero] at hi
    unfold f_X9_deal_l33 f_X10_deal_l15
    rw [hi, if_pos (by rw [le_nI (by omega) (by omega)]; omega)]
    by_cases q : m = a
    · rw [if_pos (by rw [le_nI (by omega) (by omega)]; omega)]
      exact sim_bad h _
    · rw [if_neg (by rw [le_nI (by omega) (by omega)]; omega), rdl 1 z1 (by decide) (by decide), e, if_pos (by rw [show (10 : Int32) = nI 10 from rfl, le_nI (by omega) (by omega)]; omega)]
      exact sim_bad h _
  | k + 1, i, n1 + 1, n2 + 1, C, N, hi, h1, h2, h, e => by
    unfold f_X9_deal_l33 f_X10_deal_l15
    rw [if_neg (by rw [le_nI (by omega) (by omega)]; omega), if_neg (by rw [le_nI (by omega) (by omega)]; omega), rdl 1 z1 (by decide) (by decide), e, if_neg (by rw [show (10 : Int32) = nI 10 from rfl, le_nI (by omega) (by omega)]; omega)]
    unfold f_X1_drawDoor
    obtain ⟨k1, C1, N1, l1, c1, d1, r1, u1⟩ := draw_s h
    rw [c1, d1, bd2_s, bd2_s, nm_t, nm_t, show (6 : Int32) = nI 6 from rfl, pk_rem (by omega) (by decide) (by decide)]
    obtain ⟨k2, C2, N2, l2, c2, d2, r2, u2⟩ := draw_s r1
    rw [c2, d2, bd2_s, bd2_s, nm_t, nm_t, show (8 : Int32) = nI 8 from rfl, pk_rem (by omega) (by decide) (by decide)]
    obtain ⟨k3, C3, N3, l3, c3, d3, r3, u3⟩ := draw_s r2
    rw [c3, d3, bd2_s, bd2_s, nm_t, nm_t, pk_rem (by omega) (by decide) (by decide), z1, nI_add, nI_add, show (9 : Int32) = nI 9 from rfl, pk_rem (by omega) (by decide) (by decide)]
    obtain ⟨k4, C4, N4, l4, c4, d4, r4, u4⟩ := draw_s r3
    rw [c4, d4, bd2_s, bd2_s, nm_t, pk_rem (by omega) (by decide) (by decide), nI_add]
    obtain ⟨C5, C6, N5, N6, g1, g2, g3, g4, g5, g6, g7⟩ := come_s r4 (n := n0 + i) (by omega) (by rw [u4, u3, u2, u1]; exact e) (a1 := nI (k1 % 6)) (a2 := nI (k2 % 8)) (a3 := nI ((k2 % 8 + 1 + k3 % 8) % 9)) (a4 := nI (1 + k4 % 9)) (Bd_nI (by omega) (by omega) (by omega)) (Bd_nI (by omega) (by omega) (by omega)) (Bd_nI (by omega) (by omega) (by omega)) (Bd_nI (by omega) (by omega) (by omega))
    rw [← z1, g1, g4, bd2_s, bd2_s, g2, bd_s, bd_s, nm_t, nm_t, z1, nI_add]
    exact deal_l ha hm h10 hor k (i + 1) n1 n2 C6 N6 (by omega) (by omega) (by omega) g6 g7
theorem deal_s {nl : Nat} {C N : Mem} (h : Rel nl C N) (a1 : Int32) : Sim nl (f_X9_deal C a1) (f_X10_deal N a1) := by
  have s1 := h.1.1.1
  obtain ⟨e0, hn⟩ := dn_b h.1.2.2.1
  unfold f_X9_deal f_X10_deal
  rw [f_within9, f_in, bd_s, bd_s]
  by_cases hc : 1 ≤ a1 ∧ a1 ≤ 10
  · obtain ⟨a, ha, ea⟩ := rng_n (n := 10) (by decide) ⟨i32le.mpr (by have := i32le.mp hc.1; rw [show (1 : Int32).toInt = 1 from rfl] at this; rw [show (0 : Int32).toInt = 0 from rfl]; omega), hc.2⟩
    rw [if1 hc, if1 hc, nm_t, s1]
    generalize hv : ix (N 1 1) = n at e0 hn
    rw [e0, ea, show (10 : Int32) = nI 10 from rfl, pk_sub hn]
    by_cases q : 10 - n < a
    · rw [if_pos (by rw [lt_nI (by omega) (by omega)]; exact q)]
      exact deal_l (m := 10 - n) (n0 := n) ha (by omega) (by omega) (Or.inr (by omega)) (10 - n) 0 FU FU C N (by omega) (FU_gt (by omega)) (FU_gt (by omega)) h e0
    · rw [if_neg (by rw [lt_nI (by omega) (by omega)]; exact q)]
      exact deal_l (m := a) (n0 := n) ha (by omega) (by omega) (Or.inl rfl) a 0 FU FU C N (by omega) (FU_gt (by omega)) (FU_gt (by omega)) h e0
  · rw [if0 hc, if0 hc]
    exact sim_bad h _
