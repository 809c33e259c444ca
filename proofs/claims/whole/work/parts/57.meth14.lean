/-! mark, pour -/
theorem i16_b (a : Int32) : Bd (a.toInt16.toInt32) (-99999) 99999 := by
  have h1 := Int16.toInt_lt a.toInt16
  have h2 := Int16.le_toInt a.toInt16
  unfold Bd
  rw [Int16.toInt_toInt32]
  omega
/-- one place of a sheet is marked -/
theorem cell_s {nl : Nat} {C N : Mem} (h : Rel nl C N) {i k : Nat} (hi : i < 4) (hk : k < 24) {v : Int32} (hv : v = -1000000005 ∨ Bd v (-99999) 99999) : Rel nl (sto C (57 + 2 * i + 1) k v) (sto N 19 (24 * i + k) v) := by
  refine rel_sh h (fun q hq => sto_n (by omega)) (fun q _ _ q3 _ => sto_n q3) (fun j hj => ?_)
  obtain ⟨s1, s2, s3, s4, s5⟩ := h.sheets j hj
  rw [sto_n (show 57 + 2 * j ≠ 57 + 2 * i + 1 by omega), sto_n (show (17 : Nat) ≠ 19 by decide), sto_n (show (18 : Nat) ≠ 19 by decide)]
  refine ⟨s1, s2, s3, s4, fun q hq => ?_⟩
  by_cases w : j = i
  · rw [w, show 58 + 2 * i = 57 + 2 * i + 1 by omega]
    by_cases p : q = k
    · rw [p, sto_ss, sto_ss]; exact ⟨rfl, hv⟩
    · rw [sto_sn p, sto_sn (by omega)]
      have := s5 q hq
      rw [w, show 58 + 2 * i = 57 + 2 * i + 1 by omega] at this
      exact this
  · rw [sto_n (by omega), sto_sn (by omega)]
    exact s5 q hq
theorem mark_s {nl : Nat} {C N : Mem} (h : Rel nl C N) (a1 a2 a3 : Int32) : Sim nl (f_X9_mark C a1 a2 a3) (f_X10_mark N a1 a2 a3) := by
  unfold f_X9_mark f_X10_mark
  rw [isSheet9_e, isSheet10_e, bd_s, bd_s]
  by_cases hc : 0 ≤ a1 ∧ a1 ≤ 3
  · obtain ⟨i, hi, ei⟩ := sheet_n hc
    obtain ⟨s1, s2, s3, s4, s5⟩ := h.sheets i hi
    obtain ⟨m, hm, em⟩ := (show Bd (N 18 i) 0 ((24 : Nat) : Int) from s4).n
    have r17 : ∀ {β : Type} (f : Int32 → Option β), rd N 17 4 (nI i) f = f (N 17 i) := fun f => rdn (by omega) (by decide)
    have r18 : ∀ {β : Type} (f : Int32 → Option β), rd N 18 4 (nI i) f = f (N 18 i) := fun f => rdn (by omega) (by decide)
    rw [if1 hc, if1 hc, ei, ib_nI (by omega) (by decide), gd_t, nm_t, ix_nI (by omega), r17]
    rcases miss_e s1 s3 with ⟨q1, q2⟩ | ⟨q1, q2⟩
    · rw [q1, bd_s, if_pos rfl, if_pos q2, x6has_e, s2, r18, f_in, bd_s, bd_s, em]
      by_cases hc2 : 0 ≤ a2 ∧ a2 ≤ nI m - 1
      · obtain ⟨k, hk, ek⟩ := place_n hm hc2
        have hcell : ∀ v : Int32, (v = -1000000005 ∨ Bd v (-99999) 99999) → Sim nl (wr C (57 + 2 * i + 1) 24 (nI k) v fun M => some (1, M)) (wr N 19 96 ((24 : Int32) * nI i + nI k) v fun M => some (1, M)) := fun v hv => by
          rw [wrn (by omega) (by decide), wrl (24 * i + k) (idx24 i k) (by omega) (by decide)]
          exact ⟨_, _, _, rfl, rfl, cell_s h hi (by omega) hv⟩
        unfold f_X10_mark_j60 f_X10_mark_j92 f_X9_mark_j92
        rw [if1 hc2, if1 hc2, s1, ek]
        simp only [r17]
        rcases bd_sort ⟨i32le.mpr s3.1, i32le.mpr s3.2⟩ with e | e | e
        · rw [e] at q2; exact absurd q2 (by decide)
        · rw [e]
          simp only [show ((0 : Int32) = 1) = False from eq_false (by decide), if_true, if_false]
          by_cases p : a3 = -1000000005
          · rw [if_pos p, if_pos p]; exact sim_bad h _
          · rw [if_neg p, if_neg p]; exact hcell _ (Or.inr (i16_b a3))
        · rw [e]
          simp only [show ((1 : Int32) = 0) = False from eq_false (by decide), if_true, if_false]
          by_cases p : a3 = -1000000005
          · simp only [p, if_true]
            exact hcell _ (Or.inl rfl)
          · rw [if_neg p, if_neg p, if_neg p, f_within9, f_in, bd_s, bd_s]
            by_cases hc3 : -99999 ≤ a3 ∧ a3 ≤ 99999
            · rw [if1 hc3, if1 hc3]; exact hcell _ (Or.inr (in_rng hc3))
            · rw [if0 hc3, if0 hc3]; exact sim_bad h _
      · rw [if0 hc2, if0 hc2]; exact sim_bad h _
    · rw [q1, bd_s, if_neg (by decide), if_neg q2]; exact sim_bad h _
  · rw [if0 hc, if0 hc]; exact sim_bad h _
