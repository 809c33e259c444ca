/-! why, trim, tell, rest, ask, count -/
theorem why_s {nl : Nat} {C N : Mem} (h : Rel nl C N) (a1 : Int32) : Sim nl (withM (f_X9_why C a1) C) (withM (f_X10_why N a1) N) := by
  unfold f_X9_why f_X10_why
  rw [f_within9, f_in, bd_s, bd_s]
  by_cases hc : 0 ≤ a1 ∧ a1 ≤ 2
  · obtain ⟨k, hk, ek⟩ := rng_n (n := 2) (by decide) hc
    rw [if1 hc, if1 hc, ek, rdn (by omega) (by decide), counts_e h.1.2.2.1.2.1, bd_s, h.1.1.2.2.2.2.2.1 k (by omega)]
    by_cases q : 0 ≤ cntR (N 1) (nI k)
    · rw [if_pos q, if_pos q]; exact sim_bad h _
    · rw [if_neg q, if_neg q]; exact sim_bad h _
  · rw [if0 hc, if0 hc]
    exact sim_bad h _
/-- the object's own numbers, the tape and the waiting change -/
theorem rel_z {nl : Nat} {C C2 N N2 : Mem} (h : Rel nl C N) (hC : ∀ k, k ≠ 0 → k ≠ 53 → k ≠ 54 → k ≠ 81 → C2 k = C k) (hN : ∀ k, k ≠ 0 → k ≠ 9 → k ≠ 25 → N2 k = N k) (h1 : C2 0 2 = C 0 2) (h2 : N2 0 3 = N 0 3) (ht : TapeRel C2 N2) (hw : WaitRel C2 N2) : Rel nl C2 N2 := by
  obtain ⟨g1, g2, g3, g4, ⟨⟨i1, i2⟩, o2, o3, o4, o5, o6, ⟨k1, k2⟩⟩⟩ := h
  have e1 := hN 1 (by decide) (by decide) (by decide)
  refine ⟨by rw [e1]; exact g1.out (fun j hj => hC _ (by unfold HB; omega) (by unfold HB; omega) (by unfold HB; omega) (by unfold HB; omega)) (fun k hk => hC k (by omega) (by omega) (by omega) (by omega)), by rw [e1]; exact g2, fun i hi => by rw [hC _ (by decide) (by decide) (by decide) (by decide)]; exact g3 i hi, fun i hi => by rw [hC _ (by decide) (by decide) (by decide) (by decide)]; exact g4 i hi, ⟨by rw [h1, h2]; exact i1, ?_⟩, fun i hi => by rw [hC _ (by decide) (by decide) (by decide) (by decide)]; exact o2 i hi, ht, fun i hi => ?_, fun i hi => ?_, hw, ⟨fun k hk => by rw [hN 10 (by decide) (by decide) (by decide)]; exact k1 k hk, by rw [hN 11 (by decide) (by decide) (by decide)]; exact k2⟩⟩
  · rw [h2, hN 2 (by decide) (by decide) (by decide)]
    rcases i2 with q | ⟨q, q1, q2⟩
    · exact Or.inl q
    · exact Or.inr ⟨q, q1.out (fun j hj => hC _ (by unfold HB; omega) (by unfold HB; omega) (by unfold HB; omega) (by unfold HB; omega)) (fun k hk => hC k (by omega) (by omega) (by omega) (by omega)), q2⟩
  · rw [hC _ (by omega) (by omega) (by omega) (by omega), hN 17 (by decide) (by decide) (by decide), hN 18 (by decide) (by decide) (by decide), hN 19 (by decide) (by decide) (by decide), hC (58 + 2 * i) (by omega) (by omega) (by omega) (by omega)]
    exact o4 i hi
  · rw [hC _ (by omega) (by omega) (by omega) (by omega), hN 20 (by decide) (by decide) (by decide), hN 21 (by decide) (by decide) (by decide), hN 22 (by decide) (by decide) (by decide), hN 23 (by decide) (by decide) (by decide), hC (67 + 3 * i) (by omega) (by omega) (by omega) (by omega), hC (68 + 3 * i) (by omega) (by omega) (by omega) (by omega)]
    exact o5 i hi
theorem Rel.tape {nl : Nat} {C N : Mem} (h : Rel nl C N) : TapeRel C N := h.2.2.2.2.2.2.1
theorem Rel.sheets {nl : Nat} {C N : Mem} (h : Rel nl C N) : SheetRel C N := h.2.2.2.2.2.2.2.1
theorem Rel.slots {nl : Nat} {C N : Mem} (h : Rel nl C N) : SlotRel C N := h.2.2.2.2.2.2.2.2.1
theorem Rel.wait {nl : Nat} {C N : Mem} (h : Rel nl C N) : WaitRel C N := h.2.2.2.2.2.2.2.2.2.1
theorem trim_s {nl : Nat} {C N : Mem} (h : Rel nl C N) (a1 : Int32) : Sim nl (f_X9_trim C a1) (f_X10_trim N a1) := by
  obtain ⟨t1, t2, t3⟩ := h.tape
  obtain ⟨w1, w2, w3⟩ := h.wait
  unfold f_X9_trim f_X10_trim
  rw [f_within9, f_in, bd_s, bd_s, t2]
  obtain ⟨m, hm, em⟩ := (show Bd (N 0 10) 0 ((96 : Nat) : Int) from t1).n
  by_cases hc : 0 ≤ a1 ∧ a1 ≤ N 0 10
  · rw [if1 hc, if1 hc, nm_t, nm_t]
    rw [em] at hc
    obtain ⟨k, hk, ek⟩ := rng_n (n := m) (by omega) hc
    refine ⟨_, _, _, rfl, rfl, rel_z h (fun k _ _ h54 _ => sto_n h54) (fun k h0 _ _ => sto_n h0) (by rw [sto_n (by decide)]) (sto_sn (by decide)) ⟨?_, ?_, fun i hi => ?_⟩ ⟨?_, ?_, fun i hi => ?_⟩⟩
    · rw [sto_ss, ek]; exact Bd_nI (by omega) (by omega) (by omega)
    · rw [sto_ss, sto_ss]
    · rw [sto_ss, ek, ix_nI (by omega)] at hi
      rw [sto_n (by decide), sto_n (by decide)]
      exact t3 i (by rw [em, ix_nI (by omega)]; omega)
    · rw [sto_sn (by decide)]; exact w1
    · rw [sto_n (show (0 : Nat) ≠ 54 by decide), sto_sn (by decide)]; exact w2
    · rw [sto_sn (by decide)] at hi
      rw [sto_n (by decide), sto_n (by decide)]; exact w3 i hi
  · rw [if0 hc, if0 hc]
    exact sim_bad h _
theorem tell_s {nl : Nat} {C N : Mem} (h : Rel nl C N) (a1 : Int32) : Sim nl (f_X9_tell C a1) (f_X10_tell N a1) := by
  obtain ⟨t1, t2, t3⟩ := h.tape
  obtain ⟨w1, w2, w3⟩ := h.wait
  unfold f_X9_tell f_X10_tell
  obtain ⟨m, hm, em⟩ := (show Bd (N 0 36) 0 ((60 : Nat) : Int) from w1).n
  rw [w2, em]
  by_cases q : m = 60
  · rw [q, if_neg (by decide), if_pos (show nI 60 = (60 : Int32) from rfl)]
    exact sim_bad h _
  · rw [if_pos (by rw [show (60 : Int32) = nI 60 from rfl, lt_nI (by omega) (by decide)]; omega), if_neg (by rw [show (60 : Int32) = nI 60 from rfl, eq_nI (by omega) (by decide)]; exact q), wrn (by omega) (by decide), wrn (by omega) (by decide), nm_t, nm_t, sto_ss, sto_ss, sto_n (show (0 : Nat) ≠ 81 by decide), sto_n (show (0 : Nat) ≠ 25 by decide), w2, em, z1, nI_add]
    refine ⟨_, _, _, rfl, rfl, rel_z h (fun k h0 _ _ h2 => (sto_n h0).trans (sto_n h2)) (fun k h0 _ h2 => (sto_n h0).trans (sto_n h2)) ?_ ?_ ⟨?_, ?_, fun i hi => ?_⟩ ⟨?_, ?_, fun i hi => ?_⟩⟩
    · rw [sto_sn (by decide), sto_n (by decide)]
    · rw [sto_sn (by decide), sto_n (by decide)]
    · rw [sto_sn (by decide), sto_n (by decide)]; exact t1
    · rw [sto_n (show (54 : Nat) ≠ 0 by decide), sto_n (show (54 : Nat) ≠ 81 by decide), sto_sn (by decide), sto_n (by decide)]; exact t2
    · rw [sto_sn (by decide), sto_n (by decide)] at hi
      rw [sto_n (by decide), sto_n (by decide), sto_n (by decide), sto_n (by decide)]; exact t3 i hi
    · rw [sto_ss]; exact Bd_nI (by omega) (by omega) (by omega)
    · rw [sto_ss, sto_ss]
    · rw [sto_ss, ix_nI (by omega)] at hi
      rw [sto_n (show (81 : Nat) ≠ 0 by decide), sto_n (show (25 : Nat) ≠ 0 by decide)]
      by_cases w : i = m
      · rw [w, sto_ss, sto_ss]
      · rw [sto_sn w, sto_sn w]
        exact w3 i (by rw [em, ix_nI (by omega)]; omega)
theorem slot_n {a : Int32} (h : 0 ≤ a ∧ a ≤ 4) : ∃ r, r < 5 ∧ a = nI r := by
  obtain ⟨k, hk, e⟩ := rng_n (n := 4) (by decide) h
  exact ⟨k, by omega, e⟩
theorem rest_m (x : Int32) : x - x / (-1) * (-1) = 0 := by
  have e : x / (-1) = -x := by
    apply Int32.toInt_inj.mp
    rw [Int32.toInt_div, show (-1 : Int32).toInt = -1 from rfl, Int.tdiv_neg, Int.tdiv_one, Int32.toInt_neg]
  rw [e, Int32.neg_mul, Int32.mul_neg, Int32.neg_neg, Int32.mul_one, Int32.sub_self]
theorem rest_s {nl : Nat} {C N : Mem} (h : Rel nl C N) (a1 a2 : Int32) : Sim nl (withM (f_X9_rest C a1 a2) C) (withM (f_X10_rest N a1 a2) N) := by
  unfold f_X9_rest f_X10_rest
  rw [isSlot9_e, isSlot10_e, bd_s, bd_s]
  by_cases hc : 0 ≤ a1 ∧ a1 ≤ 4
  · obtain ⟨i, hi, ei⟩ := slot_n hc
    obtain ⟨s1, s2, s3, s4, s5⟩ := h.slots i hi
    rw [if1 hc, if1 hc, ei, ib_nI (by omega) (by decide), gd_t, nm_t, ix_nI (by omega), rdn (by omega) (by decide), rdn (by omega) (by decide), s1]
    by_cases q : N 20 i = 0
    · rw [if_pos q, if_pos q]; exact sim_bad h _
    · rw [if_neg q, if_neg q]
      by_cases q3 : N 20 i = 3
      · rw [if_pos q3, if_pos q3, s5 q3]
        by_cases p0 : a2 = 0
        · rw [if_pos p0, if_pos p0]; exact sim_bad h _
        · rw [if_neg p0, if_neg p0, rdn (by omega) (by decide), decide_eq_true p0, gd_t]
          by_cases p1 : a2 = -1
          · rw [if_pos p1, p1, rest_m]; exact sim_bad h _
          · rw [if_neg p1]; exact sim_bad h _
      · rw [if_neg q3, if_neg q3]; exact sim_bad h _
  · rw [if0 hc, if0 hc]
    exact sim_bad h _
theorem ask_s {nl : Nat} {C N : Mem} (h : Rel nl C N) (a1 a2 : Int32) : Sim nl (withM (f_X9_ask C a1 a2) C) (withM (f_X10_ask N a1 a2) N) := by
  unfold f_X9_ask f_X10_ask
  rw [isSlot9_e, isSlot10_e, bd_s, bd_s]
  by_cases hc : 0 ≤ a1 ∧ a1 ≤ 4
  · obtain ⟨i, hi, ei⟩ := slot_n hc
    obtain ⟨s1, s2, s3, s4, s5⟩ := h.slots i hi
    rw [if1 hc, if1 hc, isKind_e, f_in, bd_s, bd_s]
    by_cases hc2 : 0 ≤ a2 ∧ a2 ≤ 5
    · obtain ⟨k, hk, ek⟩ := rng_n (n := 5) (by decide) hc2
      rw [if1 hc2, if1 hc2, ei, ib_nI (by omega) (by decide), gd_t, nm_t, ix_nI (by omega), rdn (by omega) (by decide), rdn (by omega) (by decide), s1]
      by_cases q : N 20 i = 0
      · rw [if_pos q, if_pos q]; exact sim_bad h _
      · rw [if_neg q, if_neg q]
        by_cases q3 : N 20 i = 1
        · obtain ⟨g1, g2, g3⟩ := s3 q3
          obtain ⟨m, hm, em⟩ := (show Bd (N 21 i) 0 ((5 : Nat) : Int) from g2).n
          rw [if_pos q3, if_pos q3, rdn (by omega) (by decide), rdn (by omega) (by decide), g3, g1, em, ek, isOf_e (by omega) (by omega)]
          have : ∀ k a : Fin 6, f_X10_isUnder (nI k.val) (nI a.val) = some 0 ∨ f_X10_isUnder (nI k.val) (nI a.val) = some 1 := by decide
          rcases this ⟨m, by omega⟩ ⟨k, by omega⟩ with e | e
          · have e : f_X10_isUnder (nI m) (nI k) = some 0 := e
            rw [e, bd_s, if_pos rfl, bd_s, if_pos rfl]
            exact sim_bad h _
          · have e : f_X10_isUnder (nI m) (nI k) = some 1 := e
            rw [e, bd_s, if_neg (by decide), bd_s, bd_s, if_neg (by decide)]
            exact sim_bad h _
        · rw [if_neg q3, if_neg q3]; exact sim_bad h _
    · rw [if0 hc2, if0 hc2]
      exact sim_bad h _
  · rw [if0 hc, if0 hc]
    exact sim_bad h _
theorem bo_e0 : ∀ w : Fin 1024, f_X10_bitsOf (nI w.val) = some (nI (pop w.val)) := by decide +kernel
theorem count_s {nl : Nat} {C N : Mem} (h : Rel nl C N) (a1 : Int32) : Sim nl (withM (f_X9_count C a1) C) (withM (f_X10_count N a1) N) := by
  obtain ⟨d1, d2, d3, d4, d5, d6⟩ := h.1.2.1
  obtain ⟨e0, hn⟩ := dn_b h.1.2.2.1
  unfold f_X9_count f_X10_count
  by_cases c0 : a1 = 0
  · rw [if_pos c0, if_pos c0, rdl 1 z1 (by decide) (by decide), h.1.1.1]; exact sim_bad h _
  rw [if_neg c0, if_neg c0]
  by_cases c1 : a1 = 1
  · obtain ⟨w, w1, w2, w3⟩ := many_c h.1.1.2.2.2.1 hn
    have h10 := pow_le10 hn
    have b1 : f_X10_bitsOf (nI w) = some (nI (pop w)) := bo_e0 ⟨w, by omega⟩
    unfold f_X0_openMany
    rw [if_pos c1, if_pos c1, openSet_e h.1, bd_s, w3, w2, b1, pk1_10 w1 hn, bd_s, bd_s]; exact sim_bad h _
  rw [if_neg c1, if_neg c1]
  by_cases c2 : a1 = 2
  · rw [if_pos c2, if_pos c2, c2, rdl 2 z2 (by decide) (by decide), d2]; exact sim_bad h _
  rw [if_neg c2, if_neg c2]
  by_cases c3 : a1 = 3
  · rw [if_pos c3, if_pos c3, c3, rdl 3 z3 (by decide) (by decide), rdl 8 (show (8 : Int32) = nI 8 from rfl) (by decide) (by decide), d4]; exact sim_bad h _
  rw [if_neg c3, if_neg c3]
  by_cases c4 : a1 = 4
  · rw [if_pos c4, if_pos c4, litMany_c h.1, sumL_e h.1, bd_s]; exact sim_bad h _
  rw [if_neg c4, if_neg c4]
  by_cases c5 : a1 = 5
  · rw [if_pos c5, if_pos c5, rdl 5 z5 (by decide) (by decide), h.1.1.2.1]; exact sim_bad h _
  rw [if_neg c5, if_neg c5]
  by_cases c6 : a1 = 6
  · rw [if_pos c6, if_pos c6, h.wait.2.1]; exact sim_bad h _
  rw [if_neg c6, if_neg c6]
  by_cases c7 : a1 = 7
  · rw [if_pos c7, if_pos c7, h.tape.2.1]; exact sim_bad h _
  rw [if_neg c7, if_neg c7]
  by_cases c8 : a1 = 8
  · rw [if_pos c8, if_pos c8, rdl 0 z0 (by decide) (by decide), d1]; exact sim_bad h _
  rw [if_neg c8, if_neg c8]
  exact sim_bad h _
