/-! item, reads, textTold -/
theorem x6has_e {C : Mem} {s : Nat} (a : Int32) : f_X6_has s C a = some (if 0 ≤ a ∧ a ≤ C s 1 - 1 then 1 else 0) := by
  unfold f_X6_has
  rw [f_within9, bd_s, bz01, gd_t]
/-- a place of a sheet of m places -/
theorem place_n {a : Int32} {m : Nat} (hm : m ≤ 24) (h : 0 ≤ a ∧ a ≤ nI m - 1) : ∃ k, k < m ∧ a = nI k := by
  by_cases hz : m = 0
  · rw [hz] at h
    exact absurd (i32le.mp h.2) (by have := i32le.mp h.1; rw [show (nI 0 - 1 : Int32).toInt = -1 from rfl]; rw [show (0 : Int32).toInt = 0 from rfl] at this; omega)
  · rw [nI_pred1 (by omega)] at h
    obtain ⟨k, hk, e⟩ := rng_n (by omega) h
    exact ⟨k, by omega, e⟩
theorem idx24 (i k : Nat) : (24 : Int32) * nI i + nI k = nI (24 * i + k) := by
  rw [show (24 : Int32) = nI 24 from rfl, pk_mul, nI_add]
theorem item_s {nl : Nat} {C N : Mem} (h : Rel nl C N) (a1 a2 : Int32) : Sim nl (withM (f_X9_item C a1 a2) C) (withM (f_X10_item N a1 a2) N) := by
  unfold f_X9_item f_X10_item
  rw [isSlot9_e, isSlot10_e, bd_s, bd_s]
  by_cases hc : 0 ≤ a1 ∧ a1 ≤ 4
  · obtain ⟨i, hi, ei⟩ := slot_n hc
    obtain ⟨s1, s2, s3, s4, s5⟩ := h.slots i hi
    rw [if1 hc, if1 hc, ei, ib_nI (by omega) (by decide), gd_t, nm_t, ix_nI (by omega), rdn (by omega) (by decide), rdn (by omega) (by decide), s1]
    by_cases q : N 20 i = 0
    · rw [if_pos q, if_pos q]; exact sim_bad h _
    · rw [if_neg q, if_neg q]
      by_cases q3 : N 20 i = 2
      · obtain ⟨g1, g2, g3⟩ := s4 q3
        obtain ⟨m, hm, em⟩ := (show Bd (N 21 i) 0 ((24 : Nat) : Int) from g2).n
        unfold f_X6_hasNumber
        rw [if_pos q3, if_pos q3, rdn (by omega) (by decide), x6has_e, f_in, bd_s, bd_s, g1, em]
        by_cases hc2 : 0 ≤ a2 ∧ a2 ≤ nI m - 1
        · obtain ⟨k, hk, ek⟩ := place_n hm hc2
          rw [if1 hc2, if1 hc2, bd_s, if1 hc2, ek, rdn (by omega) (by decide), rdl (24 * i + k) (idx24 i k) (by omega) (by decide), show 67 + 3 * i + 1 = 68 + 3 * i by omega, g3 k (by omega)]
          by_cases w : N 23 (24 * i + k) = -1000000005
          · rw [if_pos w, bd_s, if_pos rfl, if_pos w]; exact sim_bad h _
          · rw [if_neg w, bd_s, if_neg (by decide), if_neg w, rdn (by omega) (by decide), g3 k (by omega)]; exact sim_bad h _
        · rw [if0 hc2, bd_s, if0 hc2]; exact sim_bad h _
      · rw [if_neg q3, if_neg q3]; exact sim_bad h _
  · rw [if0 hc, if0 hc]
    exact sim_bad h _
theorem sheet_n {a : Int32} (h : 0 ≤ a ∧ a ≤ 3) : ∃ r, r < 4 ∧ a = nI r := by
  obtain ⟨k, hk, e⟩ := rng_n (n := 3) (by decide) h
  exact ⟨k, by omega, e⟩
theorem miss_e {C N : Mem} {i : Nat} (h : C (57 + 2 * i) 0 = N 17 i) (hb : Bd (N 17 i) (-1) 1) : (f_X6_isMissing (57 + 2 * i) C = some 0 ∧ 0 ≤ N 17 i) ∨ (f_X6_isMissing (57 + 2 * i) C = some 1 ∧ ¬ 0 ≤ N 17 i) := by
  unfold f_X6_isMissing
  rw [h]
  by_cases q : N 17 i = -1
  · right
    rw [if_pos q, q]
    exact ⟨rfl, by decide⟩
  · left
    rw [if_neg q]
    refine ⟨rfl, i32le.mpr ?_⟩
    have : (N 17 i).toInt ≠ -1 := fun e => q (i32eq.mpr e)
    have := hb.1
    rw [show (0 : Int32).toInt = 0 from rfl]
    omega
theorem reads_l {nl : Nat} {C N : Mem} (h : Rel nl C N) {i m : Nat} (hi : i < 4) (hm : m ≤ 24) (em : N 18 i = nI m) : ∀ (k j n1 n2 : Nat), j + k = m → k < n1 → k < n2 → ∃ r, f_X9_reads_l29 n1 (57 + 2 * i) (nI j) C = some r ∧ f_X10_reads_l24 n2 (nI i) (nI j) N = some r
  | 0, j, n1 + 1, n2 + 1, hj, _, _ => by
    obtain ⟨s1, s2, s3, s4, s5⟩ := h.sheets i hi
    unfold f_X9_reads_l29 f_X10_reads_l24
    rw [rdn (M := N) (k := 18) (n := 4) (i := i) (by omega) (by decide), s2, em, show j = m by omega, if_pos (fu_le (by omega) (by omega) (Nat.le_refl _)), if_pos (fu_le (by omega) (by omega) (Nat.le_refl _))]
    exact ⟨_, rfl, rfl⟩
  | k + 1, j, n1 + 1, n2 + 1, hj, l1, l2 => by
    obtain ⟨s1, s2, s3, s4, s5⟩ := h.sheets i hi
    have hc2 : 0 ≤ nI j ∧ nI j ≤ nI m - 1 := ⟨fu_le (a := 0) (by omega) (by omega) (by omega), by rw [nI_pred1 (by omega)]; exact fu_le (by omega) (by omega) (by omega)⟩
    obtain ⟨r, r1, r2⟩ := reads_l h hi hm em k (j + 1) n1 n2 (by omega) (by omega) (by omega)
    unfold f_X9_reads_l29 f_X10_reads_l24 f_X6_hasNumber f_X9_reads_j72 f_X10_reads_j71
    rw [x6has_e, rdn (M := N) (k := 18) (n := 4) (i := i) (by omega) (by decide), s2, em, if_neg (fu_nle (by omega) (by omega) (by omega)), if_neg (fu_nle (by omega) (by omega) (by omega)), bd_s, if1 hc2, rdn (by omega) (by decide), rdl (24 * i + j) (idx24 i j) (by omega) (by decide), show 57 + 2 * i + 1 = 58 + 2 * i by omega, (s5 j (by omega)).1, nm_t, nm_t, z1, nI_add, r1, r2]
    by_cases w : N 19 (24 * i + j) = -1000000005
    · rw [if_pos w, bd_s, if_pos rfl, if_pos w]; exact ⟨_, rfl, rfl⟩
    · rw [if_neg w, bd_s, if_neg (by decide), if_neg w, isRoom9_e, isRoom10_e, bd_s, bd_s]
      by_cases hr : 0 ≤ nI j ∧ nI j ≤ 7
      · have j8 : j < 8 := by
          have := hr.2
          rw [show (7 : Int32) = nI 7 from rfl, le_nI (by omega) (by decide)] at this
          omega
        rw [if1 hr, if1 hr, rdn (by omega) (by decide), rdn (by omega) (by decide), at0 (by omega), bd_s, (s5 j (by omega)).1, (h.1.2.1.2.2.2.2.1 j j8).1]
        by_cases v : N 19 (24 * i + j) = N 1 (6 + 4 * j)
        · rw [if_pos v]; exact ⟨_, rfl, rfl⟩
        · rw [if_neg v]; exact ⟨_, rfl, rfl⟩
      · rw [if0 hr, if0 hr]; exact ⟨_, rfl, rfl⟩
theorem reads_s {nl : Nat} {C N : Mem} (h : Rel nl C N) (a1 : Int32) : Sim nl (withM (f_X9_reads C a1) C) (withM (f_X10_reads N a1) N) := by
  unfold f_X9_reads f_X10_reads
  rw [isSheet9_e, isSheet10_e, bd_s, bd_s]
  by_cases hc : 0 ≤ a1 ∧ a1 ≤ 3
  · obtain ⟨i, hi, ei⟩ := sheet_n hc
    obtain ⟨s1, s2, s3, s4, s5⟩ := h.sheets i hi
    obtain ⟨m, hm, em⟩ := (show Bd (N 18 i) 0 ((24 : Nat) : Int) from s4).n
    rw [if1 hc, if1 hc, ei, ib_nI (by omega) (by decide), gd_t, nm_t, ix_nI (by omega), rdn (by omega) (by decide)]
    rcases miss_e s1 s3 with ⟨q1, q2⟩ | ⟨q1, q2⟩
    · obtain ⟨r, r1, r2⟩ := reads_l h hi hm em m 0 FU FU (by omega) (FU_gt (by omega)) (FU_gt (by omega))
      rw [q1, bd_s, if_pos rfl, if_pos q2, show f_X9_reads_l29 FU (57 + 2 * i) 0 C = some r from r1, show f_X10_reads_l24 FU (nI i) 0 N = some r from r2]
      exact sim_bad h _
    · rw [q1, bd_s, if_neg (by decide), if_neg q2]
      exact sim_bad h _
  · rw [if0 hc, if0 hc]
    exact sim_bad h _
/-- a sheet changes -/
theorem rel_sh {nl : Nat} {C C2 N N2 : Mem} (h : Rel nl C N) (hC : ∀ k, (k < 57 ∨ 65 ≤ k) → C2 k = C k) (hN : ∀ k, k ≠ 17 → k ≠ 18 → k ≠ 19 → k ≠ 24 → N2 k = N k) (hs : SheetRel C2 N2) : Rel nl C2 N2 := by
  obtain ⟨g1, g2, g3, g4, ⟨⟨i1, i2⟩, o2, ⟨t1, t2, t3⟩, o4, o5, ⟨w1, w2, w3⟩, ⟨k1, k2⟩⟩⟩ := h
  have e0 := hN 0 (by decide) (by decide) (by decide) (by decide)
  have c0 := hC 0 (by decide)
  have e1 := hN 1 (by decide) (by decide) (by decide) (by decide)
  refine ⟨by rw [e1]; exact g1.out (fun j hj => hC _ (by unfold HB; omega)) (fun k hk => hC k (by omega)), by rw [e1]; exact g2, fun i hi => by rw [hC _ (by decide)]; exact g3 i hi, fun i hi => by rw [hC _ (by decide)]; exact g4 i hi, ⟨by rw [c0, e0]; exact i1, ?_⟩, fun i hi => by rw [hC _ (by decide)]; exact o2 i hi, ⟨by rw [e0]; exact t1, by rw [hC 54 (by decide), e0]; exact t2, fun k hk => ?_⟩, hs, fun i hi => ?_, ⟨by rw [e0]; exact w1, by rw [c0, e0]; exact w2, fun k hk => ?_⟩, ⟨fun k hk => by rw [hN 10 (by decide) (by decide) (by decide) (by decide)]; exact k1 k hk, by rw [hN 11 (by decide) (by decide) (by decide) (by decide)]; exact k2⟩⟩
  · rw [e0, hN 2 (by decide) (by decide) (by decide) (by decide)]
    rcases i2 with q | ⟨q, q1, q2⟩
    · exact Or.inl q
    · exact Or.inr ⟨q, q1.out (fun j hj => hC _ (by unfold HB; omega)) (fun k hk => hC k (by omega)), q2⟩
  · rw [e0] at hk
    rw [hN 9 (by decide) (by decide) (by decide) (by decide), hC 53 (by decide)]; exact t3 k hk
  · rw [hC _ (by omega), hN 20 (by decide) (by decide) (by decide) (by decide), hN 21 (by decide) (by decide) (by decide) (by decide), hN 22 (by decide) (by decide) (by decide) (by decide), hN 23 (by decide) (by decide) (by decide) (by decide), hC (67 + 3 * i) (by omega), hC (68 + 3 * i) (by omega)]
    exact o5 i hi
  · rw [e0] at hk
    rw [hN 25 (by decide) (by decide) (by decide) (by decide), hC 81 (by decide)]; exact w3 k hk
theorem sheet_l {N : Mem} {i : Nat} (hi : i < 4) : ∀ (k j n : Nat) (s : Mem), j + k = 24 → k < n → (∀ q, q ≠ 19 → s q = N q) → (∀ q, (q < 24 * i ∨ 24 * i + 24 ≤ q) → s 19 q = N 19 q) → (∀ q, q < j → s 19 (24 * i + q) = 0) → ∃ N2, f_X10_sheet_l66 n (nI i) (nI j) s = some (N 18 i, N2) ∧ (∀ q, q ≠ 19 → N2 q = N q) ∧ (∀ q, (q < 24 * i ∨ 24 * i + 24 ≤ q) → N2 19 q = N 19 q) ∧ ∀ q, q < 24 → N2 19 (24 * i + q) = 0
  | 0, j, n + 1, s, hj, _, h1, h2, h3 => by
    unfold f_X10_sheet_l66
    rw [show j = 24 by omega, if_pos (by decide), rdn (by omega) (by decide), h1 18 (by decide)]
    exact ⟨s, rfl, h1, h2, fun q hq => h3 q (by omega)⟩
  | k + 1, j, n + 1, s, hj, l1, h1, h2, h3 => by
    unfold f_X10_sheet_l66
    rw [if_neg (show ¬ (24 : Int32) ≤ nI j from fu_nle (a := 24) (by decide) (by omega) (by omega)), wrl (24 * i + j) (idx24 i j) (by omega) (by decide), nm_t, z1, nI_add]
    refine sheet_l hi k (j + 1) n _ (by omega) (by omega) (fun q hq => (sto_n hq).trans (h1 q hq)) (fun q hq => (sto_sn (by omega)).trans (h2 q hq)) (fun q hq => ?_)
    by_cases w : q = j
    · rw [w, sto_ss]
    · rw [sto_sn (by omega)]; exact h3 q (by omega)
/-- both make the sheet anew -/
theorem become_s {nl : Nat} {C N : Mem} (h : Rel nl C N) {i : Nat} (hi : i < 4) {a b : Int32} (ha : Bd a (-1) 1) (hb : Bd b 0 24) : ∃ C2 N2, f_X6_become (57 + 2 * i) C a b = some C2 ∧ (wr N 17 4 (nI i) a fun M10 => f_X10_sheet_j62 (nI i) b (nI i) M10) = some (b, N2) ∧ Rel nl C2 N2 := by
  obtain ⟨C2, k1, k2, k3, k4⟩ := fill_e (k := 57 + 2 * i + 1) (n := 24) (M := sto (sto C (57 + 2 * i) 0 a) (57 + 2 * i) 1 b) (v := 0) (by decide)
  obtain ⟨N2, m1, m2, m3, m4⟩ := sheet_l (N := sto (sto N 17 i a) 18 i b) hi 24 0 FU _ (by omega) (FU_gt (by omega)) (fun _ _ => rfl) (fun _ _ => rfl) (fun q hq => absurd hq (by omega))
  refine ⟨C2, N2, ?_, ?_, rel_sh h (fun k hk => ?_) (fun k q1 q2 q3 _ => ?_) (fun j hj => ?_)⟩
  · unfold f_X6_become
    rw [nm_t, nm_t, k1, bd_s]
  · unfold f_X10_sheet_j62
    rw [wrn (by omega) (by decide), wrn (by omega) (by decide)]
    rw [sto_ss] at m1
    exact m1
  · rw [k2 k (by omega), sto_n (by omega), sto_n (by omega)]
  · rw [m2 k q3, sto_n q2, sto_n q1]
  · obtain ⟨s1, s2, s3, s4, s5⟩ := h.sheets j hj
    have e17 : N2 17 = sto N 17 i a 17 := (m2 17 (by decide)).trans (sto_n (by decide))
    have e18 : N2 18 = sto (sto N 17 i a) 18 i b 18 := m2 18 (by decide)
    rw [e17, e18]
    by_cases w : j = i
    · rw [w, k2 (57 + 2 * i) (by omega), sto_ss, sto_ss, sto_ss, sto_sn (show (0 : Nat) ≠ 1 by decide), sto_ss]
      refine ⟨rfl, rfl, ha, hb, fun k hk => ?_⟩
      rw [m4 k hk, show 58 + 2 * i = 57 + 2 * i + 1 by omega, k3 k hk]
      exact ⟨rfl, Or.inr ⟨by decide, by decide⟩⟩
    · rw [k2 (57 + 2 * j) (by omega), sto_n (show 57 + 2 * j ≠ 57 + 2 * i by omega), sto_n (show 57 + 2 * j ≠ 57 + 2 * i by omega), sto_sn w, sto_sn w, sto_n (show (18 : Nat) ≠ 17 by decide)]
      refine ⟨s1, s2, s3, s4, fun k hk => ?_⟩
      rw [m3 _ (by omega), sto_n (show (19 : Nat) ≠ 18 by decide), sto_n (show (19 : Nat) ≠ 17 by decide), k2 (58 + 2 * j) (by omega), sto_n (by omega), sto_n (by omega)]
      exact s5 k hk
