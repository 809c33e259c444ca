/-! sheet, textTold, mark -/
theorem bd_sort {a : Int32} (h : -1 ≤ a ∧ a ≤ 1) : a = -1 ∨ a = 0 ∨ a = 1 := by
  have h1 := i32le.mp h.1
  have h2 := i32le.mp h.2
  rw [show (-1 : Int32).toInt = -1 from rfl] at h1
  rw [show (1 : Int32).toInt = 1 from rfl] at h2
  rcases (show a.toInt = -1 ∨ a.toInt = 0 ∨ a.toInt = 1 by omega) with e | e | e
  · exact Or.inl (i32eq.mpr e)
  · exact Or.inr (Or.inl (i32eq.mpr e))
  · exact Or.inr (Or.inr (i32eq.mpr e))
theorem sheet_s {nl : Nat} {C N : Mem} (h : Rel nl C N) (a1 a2 a3 : Int32) : Sim nl (f_X9_sheet C a1 a2 a3) (f_X10_sheet N a1 a2 a3) := by
  unfold f_X9_sheet f_X10_sheet
  rw [isSheet9_e, isSheet10_e, bd_s, bd_s]
  by_cases hc : 0 ≤ a1 ∧ a1 ≤ 3
  · obtain ⟨i, hi, ei⟩ := sheet_n hc
    rw [if1 hc, if1 hc, f_within9, f_in, bd_s, bd_s]
    by_cases hc2 : -1 ≤ a2 ∧ a2 ≤ 1
    · rw [if1 hc2, if1 hc2, ei, ib_nI (by omega) (by decide), gd_t, gd_t, nm_t, nm_t, ix_nI (by omega)]
      rcases bd_sort hc2 with e | e
      · obtain ⟨C2, N2, b1, b2, b3⟩ := become_s h hi (a := -1) (b := 0) ⟨by decide, by decide⟩ ⟨by decide, by decide⟩
        unfold f_X10_sheet_j29 f_X10_sheet_j41
        rw [e, if_pos rfl, if_pos (by decide), if_pos (by decide), b1, bd_s]
        have q : (fun M10 => if (0 : Int32) ≤ -1 then f_X10_sheet_j62 (nI i) a3 (nI i) M10 else f_X10_sheet_j62 (nI i) 0 (nI i) M10) = fun M10 => f_X10_sheet_j62 (nI i) 0 (nI i) M10 := by
          funext M; rw [if_neg (by decide)]
        rw [q, b2]
        exact ⟨_, _, _, rfl, rfl, b3⟩
      · have hn1 : ¬ a2 = -1 := by rcases e with e | e <;> rw [e] <;> decide
        have hn2 : ¬ a2 < 0 := by rcases e with e | e <;> rw [e] <;> decide
        have hn3 : 0 ≤ a2 := by rcases e with e | e <;> rw [e] <;> decide
        rw [if_neg hn1, if_neg hn2]
        by_cases q1 : a3 ≤ 24
        · rw [if_pos q1, if_pos q1]
          unfold f_X10_sheet_j29
          rw [if_neg hn2]
          by_cases q2 : 0 ≤ a3
          · obtain ⟨C2, N2, b1, b2, b3⟩ := become_s h hi (a := a2) (b := a3) (in_rng hc2) (in_rng ⟨q2, q1⟩)
            unfold f_X10_sheet_j41
            have q : (fun M10 => if (0 : Int32) ≤ a2 then f_X10_sheet_j62 (nI i) a3 (nI i) M10 else f_X10_sheet_j62 (nI i) 0 (nI i) M10) = fun M10 => f_X10_sheet_j62 (nI i) a3 (nI i) M10 := by
              funext M; rw [if_pos hn3]
            rw [if_pos q2, if_pos q2, b1, bd_s, q, b2]
            exact ⟨_, _, _, rfl, rfl, b3⟩
          · rw [if_neg q2, if_neg q2]; exact sim_bad h _
        · rw [if_neg q1, if_neg q1]; exact sim_bad h _
    · rw [if0 hc2, if0 hc2]; exact sim_bad h _
  · rw [if0 hc, if0 hc]; exact sim_bad h _
theorem textTold_s {nl : Nat} {C N : Mem} (hnl : nl < 100000) (h : Rel nl C N) (a1 a2 : Int32) : Sim nl (withM (f_X9_textTold nl C a1 a2) C) (withM (f_X10_textTold N a1 a2) N) := by
  obtain ⟨s1, s2, s3, s4, s5, s6, s7⟩ := h.1.1
  obtain ⟨T, hT, eT⟩ := (show Bd (N 1 5) 0 ((14 : Nat) : Int) from h.1.2.2.1.2.1).n
  have hx : ix (N 1 5) = T := by rw [eT]; exact ix_nI (by omega)
  unfold f_X9_textTold f_X10_textTold f_X5_lawAt
  rw [rdl 5 z5 (by decide) (by decide), s2, f_within9, f_in, bd_s, bd_s, eT]
  by_cases hc : 0 ≤ a1 ∧ a1 ≤ nI T - 1
  · obtain ⟨t, ht, et⟩ := place_n (by omega) hc
    obtain ⟨c, key, m, g1, g2, g3, g4, g5, g6, g7, g8, g9, g10, g11⟩ := s5 t (by rw [hx]; exact ht)
    have hlok : lok nl (nI c) = true := by
      unfold lok
      rw [ix_nI (by omega), decide_eq_true g1, decide_eq_true g2]; rfl
    have hne : ¬ nI c = (0 : Int32) := by rw [z0, eq_nI (by omega) (by decide)]; omega
    rw [if1 hc, if1 hc, et, rdn (by omega) (by decide), g6, if_neg hne, hlok, gd_t, nm_t, bd_s, if_neg hne, hlok, gd_t, nm_t, ix_nI (by omega), f_within9, f_in, bd_s, bd_s]
    by_cases hc2 : 0 ≤ a2 ∧ a2 ≤ 1
    · rw [if1 hc2, if1 hc2]
      have i0 : (88 : Int32) + 2 * nI t = nI (88 + 2 * t) := by rw [show (88 : Int32) = nI 88 from rfl, z2, pk_mul, nI_add]
      rcases one_n hc2 with e | e
      · rw [if_pos e, if_pos e, rdl (88 + 2 * t) i0 (by omega) (by decide), g7, g8, show (1000 : Int32) = nI 1000 from rfl, pk_div (by omega) (by decide) (by decide), show (1000 * key + m) / 1000 = key by omega]
        exact sim_bad h _
      · rw [if_neg (by rw [e]; decide), if_neg (by rw [e]; decide), rdl (89 + 2 * t) (by rw [i0, z1, nI_add, show 88 + 2 * t + 1 = 89 + 2 * t by omega]) (by omega) (by decide), g9]
        exact sim_bad h _
    · rw [if0 hc2, if0 hc2]; exact sim_bad h _
  · rw [if0 hc, if0 hc, bd_s, if_pos rfl]; exact sim_bad h _
