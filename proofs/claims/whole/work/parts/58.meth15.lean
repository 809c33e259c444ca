/-! pour -/
theorem sto_id {N : Mem} {a b : Nat} : sto N a b (N a b) = N := by
  funext k j
  by_cases h : k = a
  · rw [h]
    by_cases h2 : j = b
    · rw [h2, sto_ss]
    · rw [sto_sn h2]
  · rw [sto_n h]
theorem scent_rel {nl : Nat} {C N : Mem} (h : Rel nl C N) {r : Nat} (hr : r < 8) (v : Int32) : Rel nl (sto C (HB 0 + 13) r v) (sto N 1 (8 + 4 * r) v) := by
  obtain ⟨d1, d2, d3, d4, d5, d6⟩ := h.1.2.1
  refine dy_set h (Or.inr (by decide)) (by omega) ?_ (by omega) (fun e => absurd e (by omega)) (fun _ _ e => by omega) (fun r _ e => by omega)
  refine ⟨?_, ?_, ?_, ?_, fun i hi => ⟨?_, ?_, ?_⟩, ?_⟩
  · rw [sto_n (by decide), pk_un (by omega)]; exact d1
  · rw [sto_n (by decide), pk_un (by omega)]; exact d2
  · rw [sto_n (by decide), pk_un (by omega)]; exact d3
  · rw [sto_n (by decide), pk_un (by omega)]; exact d4
  · rw [sto_n (by decide), pk_un (by omega)]; exact (d5 i hi).1
  · rw [sto_n (by decide), pk_un (by omega)]; exact (d5 i hi).2.1
  · by_cases q : i = r
    · rw [q, sto_ss, pk_us]
    · rw [sto_sn q, pk_un (by omega)]; exact (d5 i hi).2.2
  · rw [sto_n (by decide)]
    exact d6.cong (fun i hi => pk_un (by omega))
theorem nplace {m j : Nat} (hm : m ≤ 24) (hj : j < 24) (h : m ≤ j) : ¬ (0 ≤ nI j ∧ nI j ≤ nI m - 1) := fun q => by
  obtain ⟨k, hk, e⟩ := place_n hm q
  rw [eq_nI (by omega) (by omega)] at e
  omega
theorem isplace {m j : Nat} (hm : m ≤ 24) (h : j < m) : 0 ≤ nI j ∧ nI j ≤ nI m - 1 := ⟨fu_le (a := 0) (by omega) (by omega) (by omega), by rw [nI_pred1 (by omega)]; exact fu_le (by omega) (by omega) (by omega)⟩
theorem pour_t {C : Mem} {i m : Nat} (hm : m ≤ 24) (em : C (57 + 2 * i) 1 = nI m) : ∀ (k j n1 : Nat) (acc : Int32), j + k = 8 → k < n1 → m ≤ j → f_X9_pour_l32 n1 (57 + 2 * i) acc (nI j) C = some (acc, C)
  | 0, j, n1 + 1, acc, hj, _, _ => by
    unfold f_X9_pour_l32
    rw [show j = 8 by omega, if_pos (by decide)]
  | k + 1, j, n1 + 1, acc, hj, l1, hmj => by
    unfold f_X9_pour_l32 f_X6_hasNumber f_X9_pour_j99
    rw [if_neg (le8 (by omega)), x6has_e, em, bd_s, if0 (nplace hm (by omega) hmj), bd_s, if_pos rfl, nm_t, z1, nI_add]
    exact pour_t hm em k (j + 1) n1 acc (by omega) (by omega) (by omega)
theorem pour_l {nl i m : Nat} (hi : i < 4) (hm : m ≤ 24) : ∀ (k j n1 n2 : Nat) (acc : Int32) (C N : Mem), j + k = 8 → k < n1 → k < n2 → Rel nl C N → N 18 i = nI m → Sim nl (f_X9_pour_l32 n1 (57 + 2 * i) acc (nI j) C) (f_X10_pour_l26 n2 (nI i) acc (nI j) N)
  | 0, j, n1 + 1, n2 + 1, acc, C, N, hj, _, _, h, em => by
    unfold f_X9_pour_l32 f_X10_pour_l26
    rw [rdn (M := N) (k := 18) (n := 4) (i := i) (by omega) (by decide), show j = 8 by omega, if_pos (show (8 : Int32) ≤ nI 8 by decide)]
    by_cases q : N 18 i ≤ nI 8
    · rw [if_pos q]; exact sim_bad h _
    · rw [if_neg q, if_pos (show (8 : Int32) ≤ nI 8 by decide)]; exact sim_bad h _
  | k + 1, j, n1 + 1, n2 + 1, acc, C, N, hj, l1, l2, h, em => by
    obtain ⟨s1, s2, s3, s4, s5⟩ := h.sheets i hi
    by_cases q : m ≤ j
    · rw [pour_t hm (s2.trans em) (k + 1) j (n1 + 1) acc hj l1 q]
      unfold f_X10_pour_l26
      rw [rdn (M := N) (k := 18) (n := 4) (i := i) (by omega) (by decide), em, if_pos (fu_le (by omega) (by omega) q)]
      exact sim_bad h _
    · have hp := isplace hm (show j < m by omega)
      unfold f_X9_pour_l32 f_X10_pour_l26 f_X6_hasNumber
      rw [if_neg (le8 (by omega)), x6has_e, s2, rdn (M := N) (k := 18) (n := 4) (i := i) (by omega) (by decide), em, if_neg (fu_nle (by omega) (by omega) q), if_neg (le8 (by omega)), bd_s, if1 hp, rdn (M := C) (k := 57 + 2 * i + 1) (i := j) (by omega) (by decide), rdl (24 * i + j) (idx24 i j) (by omega) (by decide), show 57 + 2 * i + 1 = 58 + 2 * i by omega, (s5 j (by omega)).1]
      by_cases w : N 19 (24 * i + j) = -1000000005
      · unfold f_X9_pour_j99 f_X10_pour_j80 f_X10_pour_j107
        rw [if_pos w, bd_s, if_pos rfl, nm_t, if_pos w, at2 (by omega), bd_s, bec (8 + 4 * j) (by rw [z2, idx4, show 6 + 4 * j + 2 = 8 + 4 * j by omega]) (by omega), bd2_s, if_pos rfl, sto_id, nm_t, nm_t, Int32.add_zero, z1, nI_add]
        exact pour_l hi hm k (j + 1) n1 n2 acc C N (by omega) (by omega) (by omega) h em
      · have hj8 : j < 8 := by omega
        have hr := scent_rel h hj8 (clampR (N 19 (24 * i + j)) 0 9999)
        have hsc := (h.1.2.1.2.2.2.2.1 j hj8).2.2
        rw [if_neg w, bd_s, if_neg (by decide), if_neg w, rdn (M := C) (k := 58 + 2 * i) (i := j) (by omega) (by decide), (s5 j (by omega)).1, held_e (by decide), f_clamp10, bd_s, bd_s, rdn (M := C) (k := HB 0 + 13) (i := j) (by omega) (by decide), hsc]
        unfold f_X9_pour_j85 f_X9_pour_j99 f_X10_pour_j80 f_X10_pour_j107
        rw [bec (8 + 4 * j) (by rw [z2, idx4, show 6 + 4 * j + 2 = 8 + 4 * j by omega]) (by omega), bd2_s]
        by_cases v : clampR (N 19 (24 * i + j)) 0 9999 = N 1 (8 + 4 * j)
        · rw [if_pos v, if_pos v.symm, nm_t, nm_t, nm_t, wrn (by omega) (by decide), nm_t, z1, nI_add]
          exact pour_l hi hm k (j + 1) n1 n2 _ _ _ (by omega) (by omega) (by omega) hr (by rw [sto_n (by decide)]; exact em)
        · rw [if_neg v, if_neg (fun e => v e.symm), nm_t, nm_t, nm_t, wrn (by omega) (by decide), nm_t, z1, nI_add]
          exact pour_l hi hm k (j + 1) n1 n2 _ _ _ (by omega) (by omega) (by omega) hr (by rw [sto_n (by decide)]; exact em)
theorem pour_s {nl : Nat} {C N : Mem} (h : Rel nl C N) (a1 : Int32) : Sim nl (f_X9_pour C a1) (f_X10_pour N a1) := by
  unfold f_X9_pour f_X10_pour
  rw [isSheet9_e, isSheet10_e, bd_s, bd_s]
  by_cases hc : 0 ≤ a1 ∧ a1 ≤ 3
  · obtain ⟨i, hi, ei⟩ := sheet_n hc
    obtain ⟨s1, s2, s3, s4, s5⟩ := h.sheets i hi
    obtain ⟨m, hm, em⟩ := (show Bd (N 18 i) 0 ((24 : Nat) : Int) from s4).n
    rw [if1 hc, if1 hc, ei, ib_nI (by omega) (by decide), gd_t, nm_t, ix_nI (by omega), rdn (M := N) (k := 17) (n := 4) (i := i) (by omega) (by decide)]
    rcases miss_e s1 s3 with ⟨q1, q2⟩ | ⟨q1, q2⟩
    · rw [q1, bd_s, if_pos rfl, if_pos q2]
      exact pour_l hi hm 8 0 FU FU 0 C N (by omega) (FU_gt (by omega)) (FU_gt (by omega)) h em
    · rw [q1, bd_s, if_neg (by decide), if_neg q2]; exact sim_bad h _
  · rw [if0 hc, if0 hc]; exact sim_bad h _
