/-! lay, check -/
def SlotAt (C N : Mem) (i : Nat) : Prop := C (66 + 3 * i) 0 = N 20 i ∧ Bd (N 20 i) 0 3 ∧ (N 20 i = 1 → C (66 + 3 * i) 1 = N 21 i ∧ Bd (N 21 i) 0 5 ∧ f_X2_worthOf (C (66 + 3 * i) 1) (C (66 + 3 * i) 2) = some (N 22 i)) ∧ (N 20 i = 2 → C (67 + 3 * i) 1 = N 21 i ∧ Bd (N 21 i) 0 24 ∧ ∀ k, k < 24 → C (68 + 3 * i) k = N 23 (24 * i + k)) ∧ (N 20 i = 3 → C (66 + 3 * i) 3 = N 21 i)
theorem slot_set {nl : Nat} {C C2 N N2 : Mem} (h : Rel nl C N) {i : Nat} (hi : i < 5) (hC : ∀ k, (k < 66 + 3 * i ∨ 69 + 3 * i ≤ k) → C2 k = C k) (hN : ∀ k, k ≠ 20 → k ≠ 21 → k ≠ 22 → k ≠ 23 → N2 k = N k) (h20 : ∀ j, j ≠ i → N2 20 j = N 20 j ∧ N2 21 j = N 21 j ∧ N2 22 j = N 22 j) (h23 : ∀ q, (q < 24 * i ∨ 24 * i + 24 ≤ q) → N2 23 q = N 23 q) (hs : SlotAt C2 N2 i) : Rel nl C2 N2 := by
  refine rel_sl h (fun k hk => hC k (by omega)) hN (fun j hj => ?_)
  by_cases w : j = i
  · rw [w]; exact hs
  · obtain ⟨e1, e2, e3⟩ := h20 j w
    obtain ⟨s1, s2, s3, s4, s5⟩ := h.slots j hj
    rw [hC _ (by omega), hC (67 + 3 * j) (by omega), hC (68 + 3 * j) (by omega), e1, e2, e3]
    refine ⟨s1, s2, s3, fun q => ?_, s5⟩
    obtain ⟨g1, g2, g3⟩ := s4 q
    exact ⟨g1, g2, fun k hk => by rw [h23 _ (by omega)]; exact g3 k hk⟩
theorem lay_0 {a0 a1 a2 a3 : Int32} {M : Mem} (h : ¬ a1 = 2) : f_X10_lay_l134 FU a0 a1 a2 a3 0 M = some (a3, M) := by
  show f_X10_lay_l134 (4999 + 1) a0 a1 a2 a3 0 M = some (a3, M)
  rw [f_X10_lay_l134, if_neg (by decide), if_neg h]
theorem lay_l {N : Mem} {i q : Nat} (hi : i < 5) (hq : q < 4) (v : Int32) : ∀ (k j n : Nat) (s : Mem), j + k = 24 → k < n → (∀ p, p ≠ 23 → s p = N p) → (∀ p, (p < 24 * i ∨ 24 * i + 24 ≤ p) → s 23 p = N 23 p) → (∀ p, p < j → s 23 (24 * i + p) = N 19 (24 * q + p)) → ∃ N2, f_X10_lay_l134 n (nI i) 2 (nI q) v (nI j) s = some (v, N2) ∧ (∀ p, p ≠ 23 → N2 p = N p) ∧ (∀ p, (p < 24 * i ∨ 24 * i + 24 ≤ p) → N2 23 p = N 23 p) ∧ ∀ p, p < 24 → N2 23 (24 * i + p) = N 19 (24 * q + p)
  | 0, j, n + 1, s, hj, _, h1, h2, h3 => by
    rw [f_X10_lay_l134, show j = 24 by omega, if_pos (by decide)]
    exact ⟨s, rfl, h1, h2, fun p hp => h3 p (by omega)⟩
  | k + 1, j, n + 1, s, hj, hk, h1, h2, h3 => by
    rw [f_X10_lay_l134, if_neg (show ¬ (24 : Int32) ≤ nI j from fu_nle (a := 24) (by decide) (by omega) (by omega)), if_pos rfl, rdl (24 * q + j) (idx24 q j) (by omega) (by decide), wrl (24 * i + j) (idx24 i j) (by omega) (by decide), nm_t, z1, nI_add]
    refine lay_l hi hq v k (j + 1) n _ (by omega) (by omega) (fun p hp => (sto_n hp).trans (h1 p hp)) (fun p hp => (sto_sn (by omega)).trans (h2 p hp)) (fun p hp => ?_)
    by_cases w : p = j
    · rw [w, sto_ss, h1 19 (by decide)]
    · rw [sto_sn (by omega)]; exact h3 p (by omega)
theorem lay_j {nl : Nat} {C N : Mem} (h : Rel nl C N) {i : Nat} (hi : i < 5) {w a : Int32} (hw : w = 0 ∨ w = 3) : Sim nl (f_X9_lay_j39 (nI i) w a C) (f_X10_lay_j61 (nI i) w a N) := by
  have w1 : ¬ w = 1 := by rcases hw with e | e <;> rw [e] <;> decide
  have w2 : ¬ w = 2 := by rcases hw with e | e <;> rw [e] <;> decide
  obtain ⟨s1, s2, s3, s4, s5⟩ := h.slots i hi
  unfold f_X9_lay_j39 f_X10_lay_j61 f_X10_lay_j110 f_X10_lay_j130
  rw [ib_nI hi (by decide), gd_t, nm_t, ix_nI (by omega), nm_t, nm_t, if_neg w1, if_neg w2, nm_t, rdn hi (by decide), wrn hi (by decide), if_neg w1, if_neg w2, wrn hi (by decide), if_neg w1, wrn hi (by decide), lay_0 w2, s1]
  refine ⟨_, _, _, rfl, rfl, slot_set h hi (fun k hk => by rw [sto_n (by omega), sto_n (by omega)]) (fun k a1 a2 a3 a4 => by rw [sto_n a3, sto_n a2, sto_n a1]) (fun j hj => ?_) (fun q hq => by rw [sto_n (by decide), sto_n (by decide), sto_n (by decide)]) ?_⟩
  · rw [sto_n (show (20 : Nat) ≠ 22 by decide), sto_n (show (20 : Nat) ≠ 21 by decide), sto_sn hj, sto_n (show (21 : Nat) ≠ 22 by decide), sto_sn hj, sto_n (show (21 : Nat) ≠ 20 by decide), sto_sn hj, sto_n (show (22 : Nat) ≠ 21 by decide), sto_n (show (22 : Nat) ≠ 20 by decide)]
    exact ⟨rfl, rfl, rfl⟩
  · unfold SlotAt
    rw [sto_n (show (20 : Nat) ≠ 22 by decide), sto_n (show (20 : Nat) ≠ 21 by decide), sto_ss, sto_n (show (21 : Nat) ≠ 22 by decide), sto_ss, sto_sn (show (0 : Nat) ≠ 3 by decide), sto_ss]
    refine ⟨rfl, ?_, fun e => absurd e w1, fun e => absurd e w2, fun _ => sto_ss⟩
    rcases hw with e | e <;> rw [e] <;> exact ⟨by decide, by decide⟩
theorem lay_1 {nl : Nat} {C N : Mem} (h : Rel nl C N) {i d : Nat} (hi : i < 5) (hd : d < ix (N 1 1)) (hd2 : d < 10) : Sim nl (f_X9_lay_j39 (nI i) 1 (nI d) C) (f_X10_lay_j61 (nI i) 1 (nI d) N) := by
  obtain ⟨s1, s2, s3, s4, s5⟩ := h.slots i hi
  obtain ⟨k1, k2, k3, k4⟩ := h.1.1.2.2.1 d hd
  obtain ⟨v, hv⟩ := worth_s (N 1 (38 + 5 * d)) (N 1 (41 + 5 * d))
  have hb := (h.1.2.2.2.2.1 d hd).1
  unfold f_X9_lay_j39 f_X10_lay_j61 f_X10_lay_j110 f_X10_lay_j130
  rw [ib_nI hi (by decide), gd_t, nm_t, ix_nI (by omega), nm_t, nm_t, if_pos rfl, rdn hd2 (by decide), nm_t, rdn hd2 (by decide), nm_t, sto_n (show HB 0 + 2 ≠ 66 + 3 * i by unfold HB; omega), sto_n (show HB 0 + 5 ≠ 66 + 3 * i by unfold HB; omega), sto_n (show HB 0 + 5 ≠ 66 + 3 * i by unfold HB; omega), k1, k4, rdn hi (by decide), wrn hi (by decide), if_pos rfl, of0 hd2, bd_s, wrn hi (by decide), if_pos rfl, worth_e hd2, sto_n (show (1 : Nat) ≠ 21 by decide), sto_n (show (1 : Nat) ≠ 20 by decide), hv, bd_s, wrn hi (by decide), lay_0 (by decide), s1]
  refine ⟨_, _, _, rfl, rfl, slot_set h hi (fun k hk => by rw [sto_n (by omega), sto_n (by omega), sto_n (by omega)]) (fun k a1 a2 a3 a4 => by rw [sto_n a3, sto_n a2, sto_n a1]) (fun j hj => ?_) (fun q hq => by rw [sto_n (by decide), sto_n (by decide), sto_n (by decide)]) ?_⟩
  · rw [sto_n (show (20 : Nat) ≠ 22 by decide), sto_n (show (20 : Nat) ≠ 21 by decide), sto_sn hj, sto_n (show (21 : Nat) ≠ 22 by decide), sto_sn hj, sto_n (show (21 : Nat) ≠ 20 by decide), sto_sn hj, sto_n (show (22 : Nat) ≠ 21 by decide), sto_n (show (22 : Nat) ≠ 20 by decide)]
    exact ⟨rfl, rfl, rfl⟩
  · unfold SlotAt
    rw [sto_n (show (20 : Nat) ≠ 22 by decide), sto_n (show (20 : Nat) ≠ 21 by decide), sto_ss, sto_n (show (21 : Nat) ≠ 22 by decide), sto_ss, sto_sn (show (0 : Nat) ≠ 2 by decide), sto_sn (show (0 : Nat) ≠ 1 by decide), sto_ss, sto_sn (show (1 : Nat) ≠ 2 by decide), sto_ss, sto_ss, sto_ss]
    exact ⟨rfl, ⟨by decide, by decide⟩, fun _ => ⟨rfl, hb, hv⟩, fun e => absurd e (by decide), fun e => absurd e (by decide)⟩
theorem lay_2 {nl : Nat} {C N : Mem} (h : Rel nl C N) {i q : Nat} (hi : i < 5) (hq : q < 4) : Sim nl (f_X9_lay_j39 (nI i) 2 (nI q) C) (f_X10_lay_j61 (nI i) 2 (nI q) N) := by
  obtain ⟨s1, s2, s3, s4, s5⟩ := h.slots i hi
  obtain ⟨p1, p2, p3, p4, p5⟩ := h.sheets q hq
  unfold f_X9_lay_j39 f_X10_lay_j61 f_X10_lay_j110 f_X10_lay_j130 f_X6_takeFrom
  obtain ⟨C2, c1, c2, c3⟩ := cp_x (β := Mem) (M := sto (sto (sto C (66 + 3 * i) 0 2) (67 + 3 * i) 0 (N 17 q)) (67 + 3 * i) 1 (N 18 q)) (k1 := 57 + 2 * q + 1) (n1 := 24) (k2 := 67 + 3 * i + 1) (n2 := 24) (n := 24) (by decide) (by decide) (by decide)
  obtain ⟨N2, n1, n2, n3, n4⟩ := lay_l (N := sto (sto (sto N 20 i 2) 21 i (N 18 q)) 22 i 0) hi hq (N 20 i) 24 0 FU _ (by omega) (FU_gt (by omega)) (fun _ _ => rfl) (fun _ _ => rfl) (fun p hp => absurd hp (by omega))
  have n1 : f_X10_lay_l134 FU (nI i) 2 (nI q) (N 20 i) 0 (sto (sto (sto N 20 i 2) 21 i (N 18 q)) 22 i 0) = some (N 20 i, N2) := n1
  rw [ib_nI hi (by decide), gd_t, nm_t, ix_nI (by omega), nm_t, nm_t, if_neg (by decide), if_pos rfl, ib_nI hq (by decide), gd_t, nm_t, ix_nI (by omega), nm_t, nm_t, sto_n (show 57 + 2 * q ≠ 66 + 3 * i by omega), sto_n (show 57 + 2 * q ≠ 67 + 3 * i by omega), sto_n (show 57 + 2 * q ≠ 66 + 3 * i by omega), p1, p2, show (24 : Int32) = nI 24 from rfl, c1, bd_s, rdn hi (by decide), wrn hi (by decide), if_neg (by decide), if_pos rfl, rdn hq (by decide), sto_n (show (18 : Nat) ≠ 20 by decide), wrn hi (by decide), if_neg (by decide), wrn hi (by decide), n1, s1]
  refine ⟨_, _, _, rfl, rfl, slot_set h hi (fun k hk => by rw [c2 _ (by omega), sto_n (by omega), sto_n (by omega), sto_n (by omega)]) (fun k a1 a2 a3 a4 => by rw [n2 k a4, sto_n a3, sto_n a2, sto_n a1]) (fun j hj => ?_) (fun p hp => ?_) ?_⟩
  · rw [n2 20 (by decide), n2 21 (by decide), n2 22 (by decide), sto_n (show (20 : Nat) ≠ 22 by decide), sto_n (show (20 : Nat) ≠ 21 by decide), sto_sn hj, sto_n (show (21 : Nat) ≠ 22 by decide), sto_sn hj, sto_n (show (21 : Nat) ≠ 20 by decide), sto_sn hj, sto_n (show (22 : Nat) ≠ 21 by decide), sto_n (show (22 : Nat) ≠ 20 by decide)]
    exact ⟨rfl, rfl, rfl⟩
  · rw [n3 p hp, sto_n (by decide), sto_n (by decide), sto_n (by decide)]
  · unfold SlotAt
    rw [n2 20 (by decide), n2 21 (by decide), n2 22 (by decide), sto_n (show (20 : Nat) ≠ 22 by decide), sto_n (show (20 : Nat) ≠ 21 by decide), sto_ss, sto_n (show (21 : Nat) ≠ 22 by decide), sto_ss, c2 _ (show 66 + 3 * i ≠ 67 + 3 * i + 1 by omega), sto_n (show 66 + 3 * i ≠ 67 + 3 * i by omega), sto_n (show 66 + 3 * i ≠ 67 + 3 * i by omega), sto_ss, c2 _ (show 67 + 3 * i ≠ 67 + 3 * i + 1 by omega), sto_ss]
    refine ⟨rfl, ⟨by decide, by decide⟩, fun e => absurd e (by decide), fun _ => ⟨sto_ss, p4, fun k hk => ?_⟩, fun e => absurd e (by decide)⟩
    rw [n4 k hk, sto_n (show (19 : Nat) ≠ 22 by decide), sto_n (show (19 : Nat) ≠ 21 by decide), sto_n (show (19 : Nat) ≠ 20 by decide), show 68 + 3 * i = 67 + 3 * i + 1 by omega, c3 k hk, sto_n (by omega), sto_n (by omega), sto_n (by omega), show 57 + 2 * q + 1 = 58 + 2 * q by omega]
    exact (p5 k hk).1
theorem lay_s {nl : Nat} {C N : Mem} (h : Rel nl C N) (a1 a2 a3 : Int32) : Sim nl (f_X9_lay C a1 a2 a3) (f_X10_lay N a1 a2 a3) := by
  unfold f_X9_lay f_X10_lay
  rw [isSlot9_e, isSlot10_e, bd_s, bd_s]
  by_cases hc : 0 ≤ a1 ∧ a1 ≤ 4
  · obtain ⟨i, hi, ei⟩ := slot_n hc
    rw [if1 hc, if1 hc, f_in, bd_s, ei]
    unfold f_X9_canLay f_X10_lay_j29 f_X10_lay_j44
    by_cases hc2 : 0 ≤ a2 ∧ a2 ≤ 3
    · obtain ⟨w, hw, ew⟩ := rng_n (n := 3) (by decide) hc2
      rw [if1 hc2]
      rcases (show w = 0 ∨ w = 1 ∨ w = 2 ∨ w = 3 by omega) with e | e | e | e
      · rw [ew, e]
        simp only [e_00, e_01, e_02, e_03, if_true, if_false, bd_s, show ((1 : Int32) = 0) = False from eq_false (by decide)]
        exact lay_j h hi (Or.inl rfl)
      · rw [ew, e]
        simp only [e_10, e_11, e_12, e_13, if_true, if_false]
        rw [has_e, bd_s, bz01, gd_t, bd_s, isDoor_e, bd_s, h.1.1.1]
        by_cases hd : 0 ≤ a3 ∧ a3 ≤ N 1 1 - 1
        · obtain ⟨d, hd1, hd2, ed⟩ := door_n2 h.1.2.2 hd
          rw [if1 hd, if1 hd, ed]
          exact lay_1 h hi hd1 hd2
        · rw [if0 hd, if0 hd]; exact sim_bad h _
      · rw [ew, e]
        simp only [e_20, e_21, e_22, e_23, if_true, if_false]
        rw [isSheet9_e, isSheet10_e, bd_s, bz01, gd_t, bd_s, bd_s]
        by_cases hd : 0 ≤ a3 ∧ a3 ≤ 3
        · obtain ⟨q, hq, eq⟩ := sheet_n hd
          obtain ⟨p1, p2, p3, p4, p5⟩ := h.sheets q hq
          rw [if1 hd, if1 hd, eq, ib_nI hq (by decide), gd_t, nm_t, ix_nI (by omega), rdn hq (by decide)]
          rcases miss_e p1 p3 with ⟨q1, q2⟩ | ⟨q1, q2⟩
          · rw [q1, bd_s, if_pos rfl, if_pos q2]
            exact lay_2 h hi hq
          · rw [q1, bd_s, if_neg (by decide), if_neg q2]; exact sim_bad h _
        · rw [if0 hd, if0 hd]; exact sim_bad h _
      · rw [ew, e]
        simp only [e_30, e_31, e_32, e_33, if_true, if_false, bd_s, show ((1 : Int32) = 0) = False from eq_false (by decide)]
        exact lay_j h hi (Or.inr rfl)
    · have ne : ∀ k : Int32, (0 ≤ k ∧ k ≤ 3) → ¬ a2 = k := fun k hk e => hc2 (by rw [e]; exact hk)
      rw [if0 hc2, if_neg (ne 0 (by decide)), if_neg (ne 1 (by decide)), if_neg (ne 2 (by decide)), if_neg (ne 3 (by decide)), bd_s, if_pos rfl]
      exact sim_bad h _
  · rw [if0 hc, if0 hc]; exact sim_bad h _
/-! check: the image's hall is gone on with in hall 2, in the reference in row 1, its own row lying in region 3 -/
def Ck (nl : Nat) (C N C1 N1 : Mem) : Prop := Out 2 C C1 ∧ LOK nl C1 2 ∧ HRel nl C1 2 (N1 1) ∧ E14 (N 1) (N1 3) ∧ KeepN N N1
theorem airAll_e {nl : Nat} {C N : Mem} {b : Nat} (h : HRel nl C b (N 1)) : ∃ S, f_X1_airOfAll b C = some S ∧ f_X10_sumOf N 0 = some S := by
  refine ⟨_, airAll_l (C := C) (b := b) 8 0 FU (by omega) (FU_gt (by omega)), ?_⟩
  have k2 : f_X10_sumOf N 0 = some (sumN (fun r => N 1 (6 + 4 * r + 0)) 8) := sumOf_l (q := 0) (by decide) 8 0 FU (by omega) (FU_gt (by omega))
  rw [k2, sumN_cong 8 (fun r hr => (h.2.1.2.2.2.2.1 r hr).1)]
  rfl
theorem chk_end {m T r i n : Nat} {M : Mem} (hr : r < 1000) (hi : i < 100) (h : r ≠ 2 * i) : f_X10_check_l80 (n + 1) (nI m) (nI (2 * T)) (nI r) (nI i) M = f_X10_check_j181 (nI m) (nI (2 * T)) (nI r) M := by
  rw [f_X10_check_l80, z2, pk_mul]
  by_cases q : nI (2 * T) ≤ nI (2 * i)
  · rw [if_pos q]
  · rw [if_neg q, if_neg (by rw [eq_nI (by omega) (by omega)]; exact h)]
theorem chk_l {nl m T : Nat} {C N : Mem} (hnl : nl < 100000) (hm : m ≤ 60) (hT : T ≤ 30) (hW : ∀ k, k < m → C 81 k = N 25 k) : ∀ (k i n1 n2 : Nat) (C1 N1 : Mem), i + k = T → k < n1 → k + 1 < n2 → Ck nl C N C1 N1 → ∃ v C2 N2, f_X8_rightOnes_l25 nl 1 n1 (nI m) (nI T) (nI (2 * i)) (nI i) C1 = some (nI v, C2) ∧ f_X10_check_l80 n2 (nI m) (nI (2 * T)) (nI (2 * i)) (nI i) N1 = f_X10_check_j181 (nI m) (nI (2 * T)) (nI v) N2 ∧ v ≤ 60 ∧ Ck nl C N C2 N2
  | 0, i, n1 + 1, n2 + 1, C1, N1, hi, _, _, t => by
    rw [f_X8_rightOnes_l25, f_X10_check_l80, z2, pk_mul, if_pos (fu_le (by omega) (by omega) (by omega)), if_pos (fu_le (by omega) (by omega) (by omega))]
    exact ⟨2 * i, C1, N1, rfl, rfl, by omega, t⟩
  | k + 1, i, n1 + 1, n2 + 2, C1, N1, hi, l1, l2, t => by
    obtain ⟨t1, t2, t3, t4, t5⟩ := t
    obtain ⟨C2, c1, c2, c3⟩ := passMinute_c (b := 2) (by decide) hnl t3
    obtain ⟨N2, d1, d2, d3⟩ := minute_e t3.2.2.1
    have o2 : Out 2 C C2 := t1.tr (fun k hk => c3 k (by omega))
    have h2 : HRel nl C2 2 (N2 1) := by rw [d2]; exact c2
    have kp : KeepN N N2 := fun k hk => (d3 k (by omega) (by omega) (by omega) (by omega) (by omega) (by omega) (by omega)).trans (t5 k hk)
    have t' : Ck nl C N C2 N2 := ⟨o2, fun i hi => by rw [c3 _ (by omega)]; exact t2 i hi, h2, by rw [d3 3 (by decide) (by decide) (by decide) (by decide) (by decide) (by decide) (by decide)]; exact t4, kp⟩
    obtain ⟨S, e1, e2⟩ := airAll_e h2
    have e3 := litSet_e h2
    have fin : ∀ r, r < 100 → r ≠ 2 * (i + 1) → ∀ x : Int32, x = nI r → f_X10_check_j171 (f_X10_check_l80 (n2 + 1)) (nI m) (nI (2 * T)) (nI i) x N2 = f_X10_check_j181 (nI m) (nI (2 * T)) (nI r) N2 := fun r hr hne x ex => by
      unfold f_X10_check_j171 f_X10_check_j172
      rw [nm_t, nm_t, ex, z0, nI_add, z1, nI_add]
      exact chk_end (by omega) (by omega) hne
    have fin0 : f_X10_check_j130 (f_X10_check_l80 (n2 + 1)) (nI m) (nI (2 * T)) (nI i) (nI (2 * i)) N2 = f_X10_check_j181 (nI m) (nI (2 * T)) (nI (2 * i)) N2 := by
      unfold f_X10_check_j130 f_X10_check_j131
      rw [nm_t, z0, nI_add, z2, pk_mul, z1, nI_add, if_neg (by rw [eq_nI (by omega) (by omega)]; omega)]
      exact fin (2 * i) (by omega) (by omega) _ rfl
    rw [f_X8_rightOnes_l25, f_X10_check_l80, if_neg (show ¬ nI T ≤ nI i from fu_nle (by omega) (by omega) (by omega)), c1, bd_s, show (2 : Int32) * nI i = nI (2 * i) by rw [z2, pk_mul], if_neg (show ¬ nI (2 * T) ≤ nI (2 * i) from fu_nle (by omega) (by omega) (by omega)), if_pos rfl, d1, bd2_s]
    by_cases q : m ≤ 2 * i
    · rw [if_pos (fu_le (by omega) (by omega) q), if_pos (fu_le (by omega) (by omega) q), fin0]
      exact ⟨2 * i, C2, N2, rfl, rfl, by omega, t'⟩
    · rw [if_neg (fu_nle (by omega) (by omega) q), if_neg (fu_nle (by omega) (by omega) q), rdn (by omega) (by decide), rdn (by omega) (by decide), e1, e2, bd_s, bd_s, out2 o2 (by omega), kp 25 (by omega), hW _ (by omega)]
      by_cases g : N 25 (2 * i) = S
      · unfold f_X10_check_j131
        rw [if_pos g, if_pos g]
        simp only [nm_t]
        rw [show (2 : Int32) * nI i = nI (2 * i) by rw [z2, pk_mul], z1, nI_add, if_pos rfl]
        by_cases q2 : m ≤ 2 * i + 1
        · rw [if_pos (fu_le (by omega) (by omega) q2), if_pos (fu_le (by omega) (by omega) q2), fin (2 * i + 1) (by omega) (by omega) _ rfl]
          exact ⟨2 * i + 1, C2, N2, rfl, rfl, by omega, t'⟩
        · rw [if_neg (fu_nle (by omega) (by omega) q2), if_neg (fu_nle (by omega) (by omega) q2), rdn (by omega) (by decide), rdn (by omega) (by decide), e3, bd_s, out2 o2 (by omega), kp 25 (by omega), hW _ (by omega)]
          by_cases g2 : N 25 (2 * i + 1) = C2 (HB 2) 5
          · unfold f_X10_check_j172
            rw [if_pos g2, if_pos g2, nm_t, nm_t, z1, nI_add, nI_add, show 2 * i + 1 + 1 = 2 * (i + 1) by omega]
            exact chk_l hnl hm hT hW k (i + 1) n1 (n2 + 1) C2 N2 (by omega) (by omega) (by omega) t'
          · rw [if_neg g2, if_neg g2, fin (2 * i + 1) (by omega) (by omega) _ rfl]
            exact ⟨2 * i + 1, C2, N2, rfl, rfl, by omega, t'⟩
      · rw [if_neg g, if_neg g, fin0]
        exact ⟨2 * i, C2, N2, rfl, rfl, by omega, t'⟩
theorem ck_back {nl : Nat} {C N C1 N1 : Mem} (h : Rel nl C N) (t : Ck nl C N C1 N1) : ∃ N2, f_X10_copyAll N1 3 1 = some N2 ∧ Rel nl C1 N2 := by
  obtain ⟨t1, t2, t3, t4, t5⟩ := t
  obtain ⟨N2, n1, n2, n3⟩ := copyAll_e (N := N1) (p := 3) (q := 1) (by decide)
  have e : E14 (N 1) (N2 1) := fun j hj => (n3 j hj).trans (t4 j hj)
  refine ⟨N2, n1, (h.1.out (fun j hj => out2 t1 (by unfold HB; omega)) (fun k hk => out2 t1 (by omega))).cong e, by rw [e 2 (by decide)]; exact h.2.1, fun i hi => by rw [out2 t1 (by decide)]; exact h.2.2.1 i hi, t2, h.2.2.2.2.mono (fun k hk => out2 t1 (by omega)) (fun k hk => (n2 k (by omega)).trans (t5 k hk))⟩
theorem left_e {m a : Nat} (hm : m ≤ 9999) (ha : a ≤ 9999) : (if (if (0 : Int32) < nI (9999 - m) then nI (9999 - m) else 0) < nI a then (if (0 : Int32) < nI (9999 - m) then nI (9999 - m) else 0) else nI a) = nI (min (9999 - m) a) ∧ clampR (nI (9999 - m)) 0 (nI a) = nI (min (9999 - m) a) := by
  have k1 : (if (0 : Int32) < nI (9999 - m) then nI (9999 - m) else 0) = nI (9999 - m) := by
    by_cases q : 0 < 9999 - m
    · rw [if_pos (by rw [z0, lt_nI (by omega) (by omega)]; exact q)]
    · rw [if_neg (by rw [z0, lt_nI (by omega) (by omega)]; exact q), show 9999 - m = 0 by omega]; rfl
  rw [k1]
  unfold clampR
  rw [if_neg (show ¬ nI (9999 - m) < 0 by rw [z0, lt_nI (by omega) (by omega)]; omega)]
  by_cases q : 9999 - m < a
  · rw [if_pos (show nI (9999 - m) < nI a by rw [lt_nI (by omega) (by omega)]; exact q), if_neg (show ¬ nI a < nI (9999 - m) by rw [lt_nI (by omega) (by omega)]; omega), Nat.min_eq_left (by omega)]
    exact ⟨rfl, rfl⟩
  · rw [if_neg (show ¬ nI (9999 - m) < nI a by rw [lt_nI (by omega) (by omega)]; exact q), Nat.min_eq_right (by omega)]
    refine ⟨rfl, ?_⟩
    by_cases q2 : a < 9999 - m
    · rw [if_pos (show nI a < nI (9999 - m) by rw [lt_nI (by omega) (by omega)]; exact q2)]
    · rw [if_neg (show ¬ nI a < nI (9999 - m) by rw [lt_nI (by omega) (by omega)]; exact q2), show 9999 - m = a by omega]
theorem check_s {nl : Nat} {C N : Mem} (hnl : nl < 100000) (h0 : Rel nl C N) (a1 : Int32) : Sim nl (f_X9_check nl C a1) (f_X10_check N a1) := by
  obtain ⟨t1, t2, t3⟩ := h0.tape
  obtain ⟨w1, w2, w3⟩ := h0.wait
  obtain ⟨m, hm, em⟩ := (show Bd (N 0 36) 0 ((60 : Nat) : Int) from w1).n
  have h : Rel nl (sto C 0 10 0) (sto N 0 36 0) := by
    refine rel_z h0 (fun k h0 _ _ _ => sto_n h0) (fun k h0 _ _ => sto_n h0) (sto_sn (by decide)) (sto_sn (by decide)) ⟨?_, ?_, fun i hi => ?_⟩ ⟨?_, ?_, fun i hi => ?_⟩
    · rw [sto_sn (by decide)]; exact t1
    · rw [sto_n (show (54 : Nat) ≠ 0 by decide), sto_sn (by decide)]; exact t2
    · rw [sto_sn (by decide)] at hi
      rw [sto_n (by decide), sto_n (by decide)]; exact t3 i hi
    · rw [sto_ss]; exact ⟨by decide, by decide⟩
    · rw [sto_ss, sto_ss]
    · rw [sto_ss] at hi; exact absurd hi (by rw [z0, ix_nI (by decide)]; omega)
  have hW : ∀ k, k < m → sto C 0 10 0 81 k = sto N 0 36 0 25 k := fun k hk => by
    rw [sto_n (by decide), sto_n (by decide)]; exact w3 k (by rw [em, ix_nI (by omega)]; exact hk)
  unfold f_X9_check f_X10_check
  rw [nm_t, nm_t, nm_t, nm_t, w2, em, f_within9, f_in, bd_s, bd_s]
  generalize sto C 0 10 0 = C0 at h hW
  generalize sto N 0 36 0 = N0 at h hW
  by_cases hc : 1 ≤ a1 ∧ a1 ≤ 30
  · obtain ⟨a, ha, ea⟩ := rng_n (n := 30) (by decide) ⟨i32le.mpr (by have := i32le.mp hc.1; rw [show (1 : Int32).toInt = 1 from rfl] at this; rw [show (0 : Int32).toInt = 0 from rfl]; omega), hc.2⟩
    obtain ⟨i1, i2⟩ := h.2.2.2.2.1
    rw [if1 hc, if1 hc, i1, ea]
    rcases i2 with q | ⟨q, q1, q2⟩
    · rw [if_pos q, if_pos q]; exact sim_bad h _
    · obtain ⟨u, hu, eu⟩ := (show Bd (N0 2 2) 0 ((9999 : Nat) : Int) from q2).n
      obtain ⟨l1, l2⟩ := left_e (m := u) (a := a) hu (by omega)
      obtain ⟨C1, c1, c2, c3, c4⟩ := takeFrom_c (b := 2) (b1 := 1) (by decide) (by decide) (by decide) q1 h.2.2.2.2.2.1
      obtain ⟨N1, n1, n2, n3⟩ := copyAll_e (N := N0) (p := 1) (q := 3) (by decide)
      obtain ⟨N2, m1, m2, m3⟩ := copyAll_e (N := N1) (p := 2) (q := 1) (by decide)
      have e2 : N1 2 = N0 2 := n2 2 (by decide)
      rw [e2] at m3
      have t : Ck nl C0 N0 C1 N2 := ⟨c3, c4, c2.cong m3, by rw [m2 3 (by decide)]; exact n3, fun k hk => (m2 k (by omega)).trans (n2 k (by omega))⟩
      obtain ⟨v, C2, N3, p1, p2, p3, p4⟩ := chk_l (m := m) (T := min (9999 - u) a) hnl hm (by have := Nat.min_le_right (9999 - u) a; omega) hW (min (9999 - u) a) 0 FU FU C1 N2 (by omega) (FU_gt (by omega)) (FU_gt (by omega)) t
      have p1 : f_X8_rightOnes_l25 nl 1 FU (nI m) (nI (min (9999 - u) a)) 0 0 C1 = some (nI v, C2) := p1
      have p2 : f_X10_check_l80 FU (nI m) (nI (2 * min (9999 - u) a)) 0 0 N2 = f_X10_check_j181 (nI m) (nI (2 * min (9999 - u) a)) (nI v) N3 := p2
      obtain ⟨N4, b1, b2⟩ := ck_back h p4
      have g1 : C1 (HB 1) 7 = nI u := by rw [out2 c3 (by decide), q1.2.1.2.1, eu]
      have g2 : C2 (HB 1) 7 = nI u := by rw [out2 p4.1 (by decide), q1.2.1.2.1, eu]
      have lt : min (9999 - u) a ≤ 30 := by have := Nat.min_le_right (9999 - u) a; omega
      unfold f_X8_rightOnes f_X1_minutesLeft
      rw [if_neg (by rw [q]; decide), if_neg (by rw [q]; decide), c1, bd_s, bd_s, g1, show (9999 : Int32) = nI 9999 from rfl, pk_sub hu, nm_t, l1, p1, bd2_s, bd_s, g2, pk_sub hu, l1, nm_t, n1, bd_s, m1, bd_s, rdl 2 z2 (by decide) (by decide), m3 2 (by decide), eu, pk_sub hu, f_clamp10, bd_s, l2, nm_t, z2, pk_mul, p2]
      generalize min (9999 - u) a = T at lt
      unfold f_X10_check_j181
      rw [b1, bd_s]
      by_cases x1 : v = 2 * T
      · rw [if_pos (by rw [x1])]
        by_cases x2 : m = 2 * T
        · rw [if_pos (by rw [x2]), if_pos (by rw [x1, x2]), if_pos (by rw [x1])]
          exact ⟨_, _, _, rfl, rfl, b2⟩
        · rw [if_neg (by rw [eq_nI (by omega) (by omega)]; exact x2), if_neg (by rw [eq_nI (by omega) (by omega)]; omega)]
          exact ⟨_, _, _, rfl, rfl, b2⟩
      · rw [if_neg (by rw [eq_nI (by omega) (by omega)]; exact x1)]
        by_cases x3 : v = m
        · rw [if_pos (by rw [x3]), if_neg (by rw [eq_nI (by omega) (by omega)]; exact x1)]
          exact ⟨_, _, _, rfl, rfl, b2⟩
        · rw [if_neg (by rw [eq_nI (by omega) (by omega)]; exact x3)]
          exact ⟨_, _, _, rfl, rfl, b2⟩
  · rw [if0 hc, if0 hc]; exact sim_bad h _
