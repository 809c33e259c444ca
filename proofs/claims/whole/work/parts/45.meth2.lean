/-! THE PUBLIC METHODS of the doors: open, turns, told, as, door -/
theorem RowOK.doors {R R2 : Nat → Int32} (h : RowOK R) (hT : CoreT R R2) (h1 : Bd (R2 1) 0 10) (hd : ∀ d, d < ix (R2 1) → DoorOK R2 d) (hlow : ∀ j, j ≠ 1 → j < 38 → R2 j = R j) : RowOK R2 := by
  refine ⟨⟨h1, by rw [hT 5 (by omega)]; exact h.1.2.1, fun d q => ⟨(hd d q).2.1, (hd d q).2.2.1⟩, fun t ht => ?_⟩, by rw [hlow 3 (by decide) (by decide)]; exact h.2.1, hd, fun r hr => ?_⟩
  · rw [hT 5 (by omega)] at ht
    exact hT.text (h.1.2.2.2 t ht)
  · rw [hlow _ (by omega) (by omega), hlow (7 + 4 * r) (by omega) (by omega)]
    exact h.2.2.2 r hr
/-- the doors change on both sides -/
theorem dr_set {nl : Nat} {C C2 N N2 : Mem} (h : Rel nl C N) (hC : ∀ k, (k = 0 ∨ k = 1 ∨ 7 ≤ k) → C2 k = C k) (hN : KeepN N N2) (hT : CoreT (N 1) (N2 1)) (hlow : ∀ j, j ≠ 1 → j < 38 → N2 1 j = N 1 j) (h1 : C2 (HB 0 + 1) 0 = N2 1 1)
    (h3 : ∀ d, d < ix (N2 1 1) → C2 (HB 0 + 2) d = N2 1 (38 + 5 * d) ∧ C2 (HB 0 + 3) d = N2 1 (39 + 5 * d) ∧ C2 (HB 0 + 4) d = N2 1 (40 + 5 * d) ∧ C2 (HB 0 + 5) d = N2 1 (41 + 5 * d)) (h4 : BitsOf (C2 (HB 0 + 1) 1) (ix (N2 1 1)) (fun d => N2 1 (42 + 5 * d)))
    (hb : Bd (N2 1 1) 0 10) (hd : ∀ d, d < ix (N2 1 1) → DoorOK (N2 1) d) : Rel nl C2 N2 := by
  obtain ⟨d1, d2, d3, d4, d5, d6⟩ := h.1.2.1
  have q0 : C2 (HB 0) = C (HB 0) := hC _ (by unfold HB; omega)
  refine rel_now h (fun k hk => hC k (by omega)) (hC _ (by unfold HB; omega)) hN ⟨?_, ?_, h.1.2.2.doors hT hb hd hlow⟩ (by rw [hlow 2 (by decide) (by decide)]; exact h.2.1)
  · exact h.1.1.doors (fun j a1 a2 => hC _ (by unfold HB; omega)) (fun k hk => hC k (by omega)) hT h1 h3 h4
  · refine ⟨?_, ?_, ?_, ?_, fun r hr => ?_, ?_⟩
    · rw [q0, hlow 0 (by decide) (by decide)]; exact d1
    · rw [q0, hlow 2 (by decide) (by decide)]; exact d2
    · rw [q0, hlow 4 (by decide) (by decide)]; exact d3
    · rw [hC (HB 0 + 11) (by unfold HB; omega), hlow 3 (by decide) (by decide)]; exact d4
    · rw [hC (HB 0 + 11) (by unfold HB; omega), hC (HB 0 + 12) (by unfold HB; omega), hC (HB 0 + 13) (by unfold HB; omega), hlow _ (by omega) (by omega), hlow (7 + 4 * r) (by omega) (by omega), hlow (8 + 4 * r) (by omega) (by omega)]; exact d5 r hr
    · rw [q0]; exact d6.cong (fun i hi => hlow _ (by omega) (by omega))
theorem isOpen_c {C : Mem} {b n : Nat} {f : Nat → Int32} (h : BitsOf (C (HB b + 1) 1) n f) (hn : n ≤ 10) {d : Nat} (hd : d < n) : f_X0_isOpen b C (nI d) = some (f d) := by
  unfold f_X0_isOpen
  rw [h.bit (by omega) hd]
  rcases bits01 h hd with e | e
  · rw [e, if_neg (by decide)]
  · rw [e, if_pos rfl]
theorem one_n {a : Int32} (h : 0 ≤ a ∧ a ≤ 1) : a = 0 ∨ a = 1 := by
  obtain ⟨o, ho, eo⟩ := rng_n (n := 1) (by decide) h
  rcases (show o = 0 ∨ o = 1 by omega) with q | q
  · exact Or.inl (by rw [eo, q]; rfl)
  · exact Or.inr (by rw [eo, q]; rfl)
theorem swing_c {C : Mem} {d n : Nat} {o : Int32} (ho : o = 0 ∨ o = 1) {f : Nat → Int32} (h : BitsOf (C (HB 0 + 1) 1) n f) (hn : n ≤ 10) (hr : d < n) (m : Int32) : ∃ x, f_X9_open_j45 (nI d) o m C = some (m, sto C (HB 0 + 1) 1 x) ∧ BitsOf x n (fun i => if i = d then o else f i) := by
  rcases ho with e | e
  · refine ⟨(C (HB 0 + 1) 1) &&& (((1 : Int32) <<< (nI d &&& 31)) ^^^ (-1)), ?_, h.clr hn hr (fun i _ => by rw [e])⟩
    unfold f_X9_open_j45 f_X0_swing
    rw [e, if_neg (by decide), if_pos rfl]
    rfl
  · refine ⟨(C (HB 0 + 1) 1) ||| ((1 : Int32) <<< (nI d &&& 31)), ?_, h.set hn hr (fun i _ => by rw [e])⟩
    unfold f_X9_open_j45 f_X0_swing
    rw [e, if_pos rfl, if_neg (by decide)]
    rfl
theorem low1 {N : Mem} {j k : Nat} {v : Int32} (h : k ≠ j) : sto N 1 j v 1 k = N 1 k := sto_sn h
theorem coreT1 {N : Mem} {j : Nat} {v : Int32} (h : j ≠ 5 ∧ j < 88) : CoreT (N 1) (sto N 1 j v 1) := fun k hk => sto_sn (by omega)
theorem open_s {nl : Nat} {C N : Mem} (h : Rel nl C N) (a1 a2 : Int32) : Sim nl (f_X9_open C a1 a2) (f_X10_open N a1 a2) := by
  obtain ⟨s1, s2, s3, s4, s5, s6, s7⟩ := h.1.1
  have hR := h.1.2.2
  unfold f_X9_open f_X10_open
  rw [has_e, isDoor_e, bd_s, bd_s, s1]
  by_cases hc : 0 ≤ a1 ∧ a1 ≤ N 1 1 - 1
  · obtain ⟨d, hd, hd2, ed⟩ := door_n2 hR hc
    rw [if1 hc, if1 hc, f_within9, f_in, bd_s, bd_s]
    by_cases hc2 : 0 ≤ a2 ∧ a2 ≤ 1
    · have ho := one_n hc2
      have hn := (dn_b hR.1).2
      rw [if1 hc2, if1 hc2, ed, isOpen_c s4 hn hd, bd_s, bec (42 + 5 * d) (by rw [z4, idx5, show 38 + 5 * d + 4 = 42 + 5 * d by omega]) (by omega), bd2_s]
      have key : ∃ x, (if N 1 (42 + 5 * d) = 0 then f_X9_open_j45 (nI d) a2 0 C else f_X9_open_j45 (nI d) a2 1 C) = some (N 1 (42 + 5 * d), sto C (HB 0 + 1) 1 x) ∧ BitsOf x (ix (N 1 1)) (fun i => if i = d then a2 else N 1 (42 + 5 * i)) := by
        rcases bits01 s4 hd with q | q
        · have q : N 1 (42 + 5 * d) = 0 := q
          rw [if_pos q, q]; exact swing_c ho s4 hn hd 0
        · have q : N 1 (42 + 5 * d) = 1 := q
          rw [if_neg (by rw [q]; decide), q]; exact swing_c ho s4 hn hd 1
      obtain ⟨x, k1, k2⟩ := key
      rw [k1]
      refine ⟨_, _, _, rfl, rfl, dr_set h (fun k hk => sto_n (by unfold HB; omega)) keep1 (coreT1 (by omega)) (fun j _ hj => low1 (by omega)) ?_ (fun i hi => ?_) ?_ ?_ (fun i hi => ?_)⟩
      · rw [sto_sn (by decide), low1 (by omega)]; exact s1
      · rw [low1 (by omega)] at hi
        rw [sto_n (show HB 0 + 2 ≠ HB 0 + 1 by decide), sto_n (show HB 0 + 3 ≠ HB 0 + 1 by decide), sto_n (show HB 0 + 4 ≠ HB 0 + 1 by decide), sto_n (show HB 0 + 5 ≠ HB 0 + 1 by decide), low1 (show 38 + 5 * i ≠ 42 + 5 * d by omega), low1 (show 39 + 5 * i ≠ 42 + 5 * d by omega), low1 (show 40 + 5 * i ≠ 42 + 5 * d by omega), low1 (show 41 + 5 * i ≠ 42 + 5 * d by omega)]
        exact s3 i hi
      · rw [sto_ss, low1 (by omega)]
        refine k2.cong (fun i hi => ?_)
        by_cases q : i = d
        · rw [q, if_pos rfl]; exact sto_ss
        · rw [if_neg q]; exact low1 (by omega)
      · rw [low1 (by omega)]; exact hR.1.1
      · rw [low1 (by omega)] at hi
        obtain ⟨g1, g2, g3, g4, g5⟩ := hR.2.2.1 i hi
        unfold DoorOK
        rw [low1 (show 38 + 5 * i ≠ 42 + 5 * d by omega), low1 (show 39 + 5 * i ≠ 42 + 5 * d by omega), low1 (show 40 + 5 * i ≠ 42 + 5 * d by omega), low1 (show 41 + 5 * i ≠ 42 + 5 * d by omega)]
        refine ⟨g1, g2, g3, g4, ?_⟩
        by_cases q : i = d
        · rw [q, sto_ss]; exact in_rng hc2
        · rw [low1 (by omega)]; exact g5
    · rw [if0 hc2, if0 hc2]
      exact sim_bad h _
  · rw [if0 hc, if0 hc]
    exact sim_bad h _
theorem turns_s {nl : Nat} {C N : Mem} (h : Rel nl C N) (a1 a2 : Int32) : Sim nl (f_X9_turns C a1 a2) (f_X10_turns N a1 a2) := by
  obtain ⟨s1, s2, s3, s4, s5, s6, s7⟩ := h.1.1
  have hR := h.1.2.2
  unfold f_X9_turns f_X10_turns
  rw [has_e, isDoor_e, bd_s, bd_s, s1]
  by_cases hc : 0 ≤ a1 ∧ a1 ≤ N 1 1 - 1
  · obtain ⟨d, hd, hd2, ed⟩ := door_n2 hR hc
    rw [if1 hc, if1 hc, isKind_e, f_in, bd_s, bd_s]
    by_cases hc2 : 0 ≤ a2 ∧ a2 ≤ 5
    · rw [if1 hc2, if1 hc2, ed, rdn (by omega) (by decide), wrn (by omega) (by decide), bec (38 + 5 * d) (by have := idx5 d 0; rw [Nat.add_zero] at this; rw [← this, ← z0]; exact (Int32.add_zero _).symm) (by omega), bd2_s, (s3 d hd).1]
      refine ⟨_, _, _, rfl, rfl, dr_set h (fun k hk => sto_n (by unfold HB; omega)) keep1 (coreT1 (by omega)) (fun j _ hj => low1 (by omega)) ?_ (fun i hi => ?_) ?_ ?_ (fun i hi => ?_)⟩
      · rw [sto_n (by decide), low1 (by omega)]; exact s1
      · rw [low1 (by omega)] at hi
        rw [sto_n (show HB 0 + 3 ≠ HB 0 + 2 by decide), sto_n (show HB 0 + 4 ≠ HB 0 + 2 by decide), sto_n (show HB 0 + 5 ≠ HB 0 + 2 by decide), low1 (show 39 + 5 * i ≠ 38 + 5 * d by omega), low1 (show 40 + 5 * i ≠ 38 + 5 * d by omega), low1 (show 41 + 5 * i ≠ 38 + 5 * d by omega)]
        refine ⟨?_, (s3 i hi).2⟩
        by_cases q : i = d
        · rw [q, sto_ss, sto_ss]
        · rw [sto_sn q, low1 (by omega)]; exact (s3 i hi).1
      · rw [sto_n (by decide), low1 (by omega)]
        exact s4.cong (fun i hi => low1 (by omega))
      · rw [low1 (by omega)]; exact hR.1.1
      · rw [low1 (by omega)] at hi
        obtain ⟨g1, g2, g3, g4, g5⟩ := hR.2.2.1 i hi
        unfold DoorOK
        rw [low1 (show 39 + 5 * i ≠ 38 + 5 * d by omega), low1 (show 40 + 5 * i ≠ 38 + 5 * d by omega), low1 (show 41 + 5 * i ≠ 38 + 5 * d by omega), low1 (show 42 + 5 * i ≠ 38 + 5 * d by omega)]
        refine ⟨?_, g2, g3, g4, g5⟩
        by_cases q : i = d
        · rw [q, sto_ss]; exact in_rng hc2
        · rw [low1 (by omega)]; exact g1
    · rw [if0 hc2, if0 hc2]
      exact sim_bad h _
  · rw [if0 hc, if0 hc]
    exact sim_bad h _
theorem isOf_m (M M2 : Mem) : ∀ (n : Nat) (a b c : Int32), f_X2_isOf_l4 n a b c M = f_X2_isOf_l4 n a b c M2
  | 0, _, _, _ => rfl
  | n + 1, a, b, c => by
    unfold f_X2_isOf_l4
    simp only [nm_t, isOf_m M M2 n]
theorem isOf_e0 : ∀ k a : Fin 6, f_X2_isOf (fun _ _ => 0) (nI k.val) (nI a.val) = f_X10_isUnder (nI k.val) (nI a.val) := by decide +kernel
theorem isOf_e {M : Mem} {k a : Nat} (hk : k < 6) (ha : a < 6) : f_X2_isOf M (nI k) (nI a) = f_X10_isUnder (nI k) (nI a) := by
  have := isOf_e0 ⟨k, hk⟩ ⟨a, ha⟩
  unfold f_X2_isOf at *
  rw [isOf_m M (fun _ _ => 0)]
  exact this
theorem as_s {nl : Nat} {C N : Mem} (h : Rel nl C N) (a1 a2 : Int32) : Sim nl (withM (f_X9_as C a1 a2) C) (withM (f_X10_as N a1 a2) N) := by
  obtain ⟨s1, s2, s3, s4, s5, s6, s7⟩ := h.1.1
  have hR := h.1.2.2
  unfold f_X9_as f_X10_as
  rw [has_e, isDoor_e, bd_s, bd_s, s1]
  by_cases hc : 0 ≤ a1 ∧ a1 ≤ N 1 1 - 1
  · obtain ⟨d, hd, hd2, ed⟩ := door_n2 hR hc
    rw [if1 hc, if1 hc, isKind_e, f_in, bd_s, bd_s]
    by_cases hc2 : 0 ≤ a2 ∧ a2 ≤ 5
    · obtain ⟨q, hq, eq⟩ := rng_n (n := 5) (by decide) hc2
      obtain ⟨k, w, o, g1, g2, -⟩ := door_n hR hd
      rw [if1 hc2, if1 hc2, ed, rdn (by omega) (by decide), of0 hd2, bd_s, (s3 d hd).1, g1, eq, isOf_e g2 (by omega), rdn (by omega) (by decide), of3 hd2, bd_s, (s3 d hd).2.2.2]
      have : ∀ k a : Fin 6, f_X10_isUnder (nI k.val) (nI a.val) = some 0 ∨ f_X10_isUnder (nI k.val) (nI a.val) = some 1 := by decide
      rcases this ⟨k, g2⟩ ⟨q, by omega⟩ with e | e
      · have e : f_X10_isUnder (nI k) (nI q) = some 0 := e
        rw [e, bd_s, if_pos rfl]
        exact sim_bad h _
      · have e : f_X10_isUnder (nI k) (nI q) = some 1 := e
        rw [e, bd_s, if_neg (by decide)]
        exact sim_bad h _
    · rw [if0 hc2, if0 hc2]
      exact sim_bad h _
  · rw [if0 hc, if0 hc]
    exact sim_bad h _
theorem worth_e {N : Mem} {d : Nat} (hd : d < 10) : f_X10_worthOf N (nI d) = f_X2_worthOf (N 1 (38 + 5 * d)) (N 1 (41 + 5 * d)) := by
  unfold f_X10_worthOf f_X2_worthOf
  rw [of3 hd, of0 hd, bd_s, bd_s, nm_t, nm_t]
  have : ∀ x : Int32, (25 : Int32) - x = 30 - x - 5 := fun x => by
    rw [Int32.sub_eq_add_neg, Int32.sub_eq_add_neg, Int32.sub_eq_add_neg, Int32.add_assoc, Int32.add_comm (-x), ← Int32.add_assoc]; rfl
  rw [this]
theorem worth_s (k w : Int32) : ∃ v, f_X2_worthOf k w = some v := by
  unfold f_X2_worthOf
  rw [nm_t, nm_t]
  repeat' split
  all_goals exact ⟨_, rfl⟩
theorem told_s {nl : Nat} {C N : Mem} (h : Rel nl C N) (a1 a2 : Int32) : Sim nl (withM (f_X9_told C a1 a2) C) (f_X10_told N a1 a2) := by
  have hdy := h.1.2.1
  obtain ⟨s1, s2, s3, s4, s5, s6, s7⟩ := h.1.1
  have hR := h.1.2.2
  have hn := (dn_b hR.1).2
  unfold f_X9_told f_X10_told
  rw [has_e, isDoor_e, bd_s, bd_s, s1]
  by_cases hc : 0 ≤ a1 ∧ a1 ≤ N 1 1 - 1
  · obtain ⟨d, hd, hd2, ed⟩ := door_n2 hR hc
    obtain ⟨t1, t2, t3, t4⟩ := s3 d hd
    rw [if1 hc, if1 hc, ed]
    by_cases hc2 : 0 ≤ a2 ∧ a2 ≤ 7
    · obtain ⟨w, hw, ew⟩ := rng_n (n := 7) (by decide) hc2
      rcases (show w = 0 ∨ w = 1 ∨ w = 2 ∨ w = 3 ∨ w = 4 ∨ w = 5 ∨ w = 6 ∨ w = 7 by omega) with e | e | e | e | e | e | e | e
      · rw [ew, e]
        simp only [e_00, e_01, e_02, e_03, e_04, e_05, e_06, e_07, if_true, if_false]
        rw [rdn (by omega) (by decide), show nI 0 = (0 : Int32) from rfl, of0 hd2, bd_s, t1]
        exact sim_bad h _
      · rw [ew, e]
        simp only [e_10, e_11, e_12, e_13, e_14, e_15, e_16, e_17, if_true, if_false]
        rw [rdn (by omega) (by decide), show nI 1 = (1 : Int32) from rfl, of1 hd2, bd_s, t2]
        exact sim_bad h _
      · rw [ew, e]
        simp only [e_20, e_21, e_22, e_23, e_24, e_25, e_26, e_27, if_true, if_false]
        rw [rdn (by omega) (by decide), show nI 2 = (2 : Int32) from rfl, of2 hd2, bd_s, t3]
        exact sim_bad h _
      · rw [ew, e]
        simp only [e_30, e_31, e_32, e_33, e_34, e_35, e_36, e_37, if_true, if_false]
        rw [rdn (by omega) (by decide), show nI 3 = (3 : Int32) from rfl, of3 hd2, bd_s, t4]
        exact sim_bad h _
      · rw [ew, e]
        simp only [e_40, e_41, e_42, e_43, e_44, e_45, e_46, e_47, if_true, if_false]
        rw [isOpen_c s4 hn hd, bd_s, show nI 4 = (4 : Int32) from rfl, of4 hd2, bd_s]
        rcases bits01 s4 hd with q | q
        · have q : N 1 (42 + 5 * d) = 0 := q
          rw [if_pos q, q]
          exact sim_bad h _
        · have q : N 1 (42 + 5 * d) = 1 := q
          rw [if_neg (by rw [q]; decide), q]
          exact sim_bad h _
      · rw [ew, e]
        simp only [e_50, e_51, e_52, e_53, e_54, e_55, e_56, e_57, if_true, if_false]
        obtain ⟨N2, n1, n2⟩ := letsOf_e (N := N) hR.1 hd2
        rw [letsOf_c h.1.1 hR hd, bd_s, n1, bd2_s]
        exact ⟨_, _, _, rfl, rfl, rel_c h (fun _ _ _ => rfl) (fun k _ _ h3 h4 => n2 k h3 h4)⟩
      · rw [ew, e]
        simp only [e_60, e_61, e_62, e_63, e_64, e_65, e_66, e_67, if_true, if_false]
        obtain ⟨N2, n1, n2⟩ := flowOf_e (N := N) hR.1 hd
        rw [flowOf_c h.1.1 (fun r hr => air_c hdy hr) hR hd, bd_s, n1, bd2_s]
        exact ⟨_, _, _, rfl, rfl, rel_c h (fun _ _ _ => rfl) (fun k _ _ h3 h4 => n2 k h3 h4)⟩
      · rw [ew, e]
        simp only [e_70, e_71, e_72, e_73, e_74, e_75, e_76, e_77, if_true, if_false]
        obtain ⟨v, ev⟩ := worth_s (N 1 (38 + 5 * d)) (N 1 (41 + 5 * d))
        rw [rdn (by omega) (by decide), rdn (by omega) (by decide), worth_e hd2, t1, t4, ev, bd_s, bd_s]
        exact sim_bad h _
    · have k : ∀ q : Nat, q ≤ 7 → ¬ a2 = nI q := fun q hq e => hc2 (by
        rw [e]
        have : ∀ q : Fin 8, (0 : Int32) ≤ nI q.val ∧ nI q.val ≤ 7 := by decide
        exact this ⟨q, by omega⟩)
      have k0 : (a2 = 0) = False := eq_false (k 0 (by decide))
      have k1 : (a2 = 1) = False := eq_false (k 1 (by decide))
      have k2 : (a2 = 2) = False := eq_false (k 2 (by decide))
      have k3 : (a2 = 3) = False := eq_false (k 3 (by decide))
      have k4 : (a2 = 4) = False := eq_false (k 4 (by decide))
      have k5 : (a2 = 5) = False := eq_false (k 5 (by decide))
      have k6 : (a2 = 6) = False := eq_false (k 6 (by decide))
      have k7 : (a2 = 7) = False := eq_false (k 7 (by decide))
      simp only [k0, k1, k2, k3, k4, k5, k6, k7, if_false]
      exact sim_bad h _
  · rw [if0 hc, if0 hc]
    exact sim_bad h _
/-- a door more on both sides -/
theorem BitsOf.more {x : Int32} {n : Nat} {f g : Nat → Int32} (h : BitsOf x n f) (hg : ∀ i, i < n → g i = f i) (h0 : g n = 0) : BitsOf x (n + 1) g := by
  obtain ⟨w, h1, h2, h3⟩ := h
  refine ⟨w, Nat.lt_of_lt_of_le h1 (Nat.pow_le_pow_right (by decide) (by omega)), h2, fun i hi => ?_⟩
  by_cases q : i = n
  · rw [q, h0, Nat.testBit_lt_two_pow h1]; rfl
  · rw [hg i (by omega), h3 i (by omega)]
theorem comes_e {N : Mem} {n : Nat} (hn : n < 10) (e : N 1 1 = nI n) (a1 a2 a3 a4 a5 : Int32) : ∃ N2, f_X10_comes N a1 a2 a3 a4 a5 = some (nI n, N2) ∧ (∀ k, k ≠ 1 → N2 k = N k) ∧ N2 1 1 = nI (n + 1) ∧ N2 1 (38 + 5 * n) = a1 ∧ N2 1 (39 + 5 * n) = a2 ∧ N2 1 (40 + 5 * n) = a3 ∧ N2 1 (41 + 5 * n) = a4 ∧ N2 1 (42 + 5 * n) = a5 ∧ ∀ j, j ≠ 1 → (j < 38 + 5 * n ∨ 43 + 5 * n ≤ j) → N2 1 j = N 1 j := by
  have i0 : (38 : Int32) + 5 * nI n = nI (38 + 5 * n) := by
    have := idx5 n 0; rw [Nat.add_zero] at this; rw [← this, ← z0]; exact (Int32.add_zero _).symm
  have i1 : nI (38 + 5 * n) + 1 = nI (39 + 5 * n) := by rw [← i0, z1, idx5, show 38 + 5 * n + 1 = 39 + 5 * n by omega]
  have i2 : nI (38 + 5 * n) + 2 = nI (40 + 5 * n) := by rw [← i0, z2, idx5, show 38 + 5 * n + 2 = 40 + 5 * n by omega]
  have i3 : nI (38 + 5 * n) + 3 = nI (41 + 5 * n) := by rw [← i0, z3, idx5, show 38 + 5 * n + 3 = 41 + 5 * n by omega]
  have i4 : nI (38 + 5 * n) + 4 = nI (42 + 5 * n) := by rw [← i0, z4, idx5, show 38 + 5 * n + 4 = 42 + 5 * n by omega]
  refine ⟨sto (sto (sto (sto (sto (sto N 1 (38 + 5 * n) a1) 1 (39 + 5 * n) a2) 1 (40 + 5 * n) a3) 1 (41 + 5 * n) a4) 1 (42 + 5 * n) a5) 1 1 (nI (n + 1)), ?_, ?_, sto_ss, ?_, ?_, ?_, ?_, ?_, ?_⟩
  · unfold f_X10_comes
    rw [rdl 1 z1 (by decide) (by decide), e, nm_t, i0, i1, i2, i3, i4, wrn (by omega) (by decide), wrn (by omega) (by decide), wrn (by omega) (by decide), wrn (by omega) (by decide), wrn (by omega) (by decide), rdl 1 z1 (by decide) (by decide), low1 (by omega), low1 (by omega), low1 (by omega), low1 (by omega), low1 (by omega), e, wrl 1 z1 (by decide) (by decide), rdl 1 z1 (by decide) (by decide), sto_ss, show nI n + 1 = nI (n + 1) from z1 ▸ (nI_add ..), nI_pred1 (by omega)]
    rfl
  · intro k hk
    rw [sto_n hk, sto_n hk, sto_n hk, sto_n hk, sto_n hk, sto_n hk]
  · rw [low1 (by omega), low1 (by omega), low1 (by omega), low1 (by omega), low1 (by omega), sto_ss]
  · rw [low1 (by omega), low1 (by omega), low1 (by omega), low1 (by omega), sto_ss]
  · rw [low1 (by omega), low1 (by omega), low1 (by omega), sto_ss]
  · rw [low1 (by omega), low1 (by omega), sto_ss]
  · rw [low1 (by omega), sto_ss]
  · intro j h1 h2
    rw [low1 h1, low1 (by omega), low1 (by omega), low1 (by omega), low1 (by omega), low1 (by omega)]
