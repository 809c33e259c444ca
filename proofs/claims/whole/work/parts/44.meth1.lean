/-! THE PUBLIC METHODS, one by one: seed, wind, set, room, open, turns, told, as, door -/
theorem e_00 : (nI 0 = (0 : Int32)) = True := eq_true rfl
theorem e_01 : (nI 0 = (1 : Int32)) = False := eq_false (by decide)
theorem e_02 : (nI 0 = (2 : Int32)) = False := eq_false (by decide)
theorem e_03 : (nI 0 = (3 : Int32)) = False := eq_false (by decide)
theorem e_04 : (nI 0 = (4 : Int32)) = False := eq_false (by decide)
theorem e_05 : (nI 0 = (5 : Int32)) = False := eq_false (by decide)
theorem e_06 : (nI 0 = (6 : Int32)) = False := eq_false (by decide)
theorem e_07 : (nI 0 = (7 : Int32)) = False := eq_false (by decide)
theorem e_10 : (nI 1 = (0 : Int32)) = False := eq_false (by decide)
theorem e_11 : (nI 1 = (1 : Int32)) = True := eq_true rfl
theorem e_12 : (nI 1 = (2 : Int32)) = False := eq_false (by decide)
theorem e_13 : (nI 1 = (3 : Int32)) = False := eq_false (by decide)
theorem e_14 : (nI 1 = (4 : Int32)) = False := eq_false (by decide)
theorem e_15 : (nI 1 = (5 : Int32)) = False := eq_false (by decide)
theorem e_16 : (nI 1 = (6 : Int32)) = False := eq_false (by decide)
theorem e_17 : (nI 1 = (7 : Int32)) = False := eq_false (by decide)
theorem e_20 : (nI 2 = (0 : Int32)) = False := eq_false (by decide)
theorem e_21 : (nI 2 = (1 : Int32)) = False := eq_false (by decide)
theorem e_22 : (nI 2 = (2 : Int32)) = True := eq_true rfl
theorem e_23 : (nI 2 = (3 : Int32)) = False := eq_false (by decide)
theorem e_24 : (nI 2 = (4 : Int32)) = False := eq_false (by decide)
theorem e_25 : (nI 2 = (5 : Int32)) = False := eq_false (by decide)
theorem e_26 : (nI 2 = (6 : Int32)) = False := eq_false (by decide)
theorem e_27 : (nI 2 = (7 : Int32)) = False := eq_false (by decide)
theorem e_30 : (nI 3 = (0 : Int32)) = False := eq_false (by decide)
theorem e_31 : (nI 3 = (1 : Int32)) = False := eq_false (by decide)
theorem e_32 : (nI 3 = (2 : Int32)) = False := eq_false (by decide)
theorem e_33 : (nI 3 = (3 : Int32)) = True := eq_true rfl
theorem e_34 : (nI 3 = (4 : Int32)) = False := eq_false (by decide)
theorem e_35 : (nI 3 = (5 : Int32)) = False := eq_false (by decide)
theorem e_36 : (nI 3 = (6 : Int32)) = False := eq_false (by decide)
theorem e_37 : (nI 3 = (7 : Int32)) = False := eq_false (by decide)
theorem e_40 : (nI 4 = (0 : Int32)) = False := eq_false (by decide)
theorem e_41 : (nI 4 = (1 : Int32)) = False := eq_false (by decide)
theorem e_42 : (nI 4 = (2 : Int32)) = False := eq_false (by decide)
theorem e_43 : (nI 4 = (3 : Int32)) = False := eq_false (by decide)
theorem e_44 : (nI 4 = (4 : Int32)) = True := eq_true rfl
theorem e_45 : (nI 4 = (5 : Int32)) = False := eq_false (by decide)
theorem e_46 : (nI 4 = (6 : Int32)) = False := eq_false (by decide)
theorem e_47 : (nI 4 = (7 : Int32)) = False := eq_false (by decide)
theorem e_50 : (nI 5 = (0 : Int32)) = False := eq_false (by decide)
theorem e_51 : (nI 5 = (1 : Int32)) = False := eq_false (by decide)
theorem e_52 : (nI 5 = (2 : Int32)) = False := eq_false (by decide)
theorem e_53 : (nI 5 = (3 : Int32)) = False := eq_false (by decide)
theorem e_54 : (nI 5 = (4 : Int32)) = False := eq_false (by decide)
theorem e_55 : (nI 5 = (5 : Int32)) = True := eq_true rfl
theorem e_56 : (nI 5 = (6 : Int32)) = False := eq_false (by decide)
theorem e_57 : (nI 5 = (7 : Int32)) = False := eq_false (by decide)
theorem e_60 : (nI 6 = (0 : Int32)) = False := eq_false (by decide)
theorem e_61 : (nI 6 = (1 : Int32)) = False := eq_false (by decide)
theorem e_62 : (nI 6 = (2 : Int32)) = False := eq_false (by decide)
theorem e_63 : (nI 6 = (3 : Int32)) = False := eq_false (by decide)
theorem e_64 : (nI 6 = (4 : Int32)) = False := eq_false (by decide)
theorem e_65 : (nI 6 = (5 : Int32)) = False := eq_false (by decide)
theorem e_66 : (nI 6 = (6 : Int32)) = True := eq_true rfl
theorem e_67 : (nI 6 = (7 : Int32)) = False := eq_false (by decide)
theorem e_70 : (nI 7 = (0 : Int32)) = False := eq_false (by decide)
theorem e_71 : (nI 7 = (1 : Int32)) = False := eq_false (by decide)
theorem e_72 : (nI 7 = (2 : Int32)) = False := eq_false (by decide)
theorem e_73 : (nI 7 = (3 : Int32)) = False := eq_false (by decide)
theorem e_74 : (nI 7 = (4 : Int32)) = False := eq_false (by decide)
theorem e_75 : (nI 7 = (5 : Int32)) = False := eq_false (by decide)
theorem e_76 : (nI 7 = (6 : Int32)) = False := eq_false (by decide)
theorem e_77 : (nI 7 = (7 : Int32)) = True := eq_true rfl
theorem bec {N : Mem} {i v : Int32} (j : Nat) (e : i = nI j) (h : j < 1460) : f_X10_becomes N i v = some (N 1 j, sto N 1 j v) := by
  unfold f_X10_becomes
  rw [rdl j e h (by decide), wrl j e h (by decide)]
theorem rel_now {nl : Nat} {C C2 N N2 : Mem} (h : Rel nl C N) (hC : ∀ k, (k = 0 ∨ 18 ≤ k) → C2 k = C k) (h8 : C2 (HB 0 + 8) = C (HB 0 + 8)) (hN : KeepN N N2) (h1 : HRel nl C2 0 (N2 1)) (h2 : Bd (N2 1 2) 0 9999) : Rel nl C2 N2 := by
  obtain ⟨-, -, l0, l2, ho⟩ := h
  exact ⟨h1, h2, fun i hi => by rw [h8]; exact l0 i hi, fun i hi => by rw [hC _ (by unfold HB; omega)]; exact l2 i hi, ho.mono (fun k hk => hC k (by omega)) hN⟩
theorem RowOK.w {R R2 : Nat → Int32} (h : RowOK R) (hc : CoreW R R2) (h3 : Bd (R2 3) 0 9999) (ha : ∀ r, r < 8 → Bd (R2 (6 + 4 * r)) 0 9999 ∧ Bd (R2 (7 + 4 * r)) 0 9) : RowOK R2 := by
  refine ⟨hc.str h.1, h3, fun d hd => ?_, ha⟩
  rw [hc 1 (by omega)] at hd
  have := h.2.2.1 d hd
  unfold DoorOK at *
  rw [hc _ (by omega), hc (39 + 5 * d) (by omega), hc (40 + 5 * d) (by omega), hc (41 + 5 * d) (by omega), hc (42 + 5 * d) (by omega)]
  exact this
theorem hrel_dy {nl : Nat} {C C2 : Mem} {b : Nat} {R R2 : Nat → Int32} (h : HRel nl C b R) (hc : ∀ j, 1 ≤ j → j ≤ 9 → C2 (HB b + j) = C (HB b + j)) (hl : ∀ k, 82 ≤ k → C2 k = C k) (hw : CoreW R R2) (hd : HDy C2 b R2) (h3 : Bd (R2 3) 0 9999) (ha : ∀ r, r < 8 → Bd (R2 (6 + 4 * r)) 0 9999 ∧ Bd (R2 (7 + 4 * r)) 0 9) : HRel nl C2 b R2 := ⟨h.1.monoW hc hl hw, hd, h.2.2.w hw h3 ha⟩
theorem keep1 {N : Mem} {j : Nat} {v : Int32} : KeepN N (sto N 1 j v) := fun k hk => sto_n (by omega)
theorem updw {R : Nat → Int32} {j : Nat} {v : Int32} (h : j ≠ 1 ∧ j ≠ 5 ∧ j < 38) : CoreW R (upd R j v) := fun k hk => pk_un (by omega)
/-- one number of the dynamic part changes on both sides -/
theorem dy_set {nl : Nat} {C N : Mem} (h : Rel nl C N) {q i j : Nat} {v w : Int32} (hq : q = 0 ∨ (11 ≤ q ∧ q < 17)) (hj : j ≠ 1 ∧ j ≠ 5 ∧ j < 38) (hd : HDy (sto C (HB 0 + q) i w) 0 (upd (N 1) j v)) (h2 : j ≠ 2) (h3 : j = 3 → Bd v 0 9999) (h6 : ∀ r, r < 8 → j = 6 + 4 * r → Bd v 0 9999) (h7 : ∀ r, r < 8 → j = 7 + 4 * r → Bd v 0 9) : Rel nl (sto C (HB 0 + q) i w) (sto N 1 j v) := by
  have e : sto N 1 j v 1 = upd (N 1) j v := sto_s
  have hh := h.1
  refine rel_now h (fun k hk => sto_n (by unfold HB; omega)) (sto_n (by omega)) keep1 ?_ ?_
  · rw [e]
    refine hrel_dy hh (fun j h1 h2 => sto_n (by omega)) (fun k hk => sto_n (by unfold HB; omega)) (updw hj) hd ?_ (fun r hr => ⟨?_, ?_⟩)
    · by_cases q : 3 = j
      · rw [← q, pk_us]; exact h3 q.symm
      · rw [pk_un q]; exact hh.2.2.2.1
    · by_cases q : 6 + 4 * r = j
      · rw [← q, pk_us]; exact h6 r hr q.symm
      · rw [pk_un q]; exact (hh.2.2.2.2.2 r hr).1
    · by_cases q : 7 + 4 * r = j
      · rw [← q, pk_us]; exact h7 r hr q.symm
      · rw [pk_un q]; exact (hh.2.2.2.2.2 r hr).2
  · rw [e, pk_un (Ne.symm h2)]; exact h.2.1
theorem BitsOf.upd {x : Int32} {n : Nat} {f g : Nat → Int32} (h : BitsOf x n f) (hg : ∀ i, i < n → g i = f i) : BitsOf x n g := h.cong hg
theorem seed_s {nl : Nat} {C N : Mem} (h : Rel nl C N) (a : Int32) : Sim nl (f_X9_seed C a) (f_X10_seed N a) := by
  obtain ⟨d1, d2, d3, d4, d5, d6⟩ := h.1.2.1
  refine ⟨C (HB 0) 8, sto C (HB 0 + 0) 8 a, sto N 1 0 a, rfl, ?_, ?_⟩
  · unfold f_X10_seed
    rw [bec 0 z0 (by decide), bd2_s, d1]
  · refine dy_set h (Or.inl rfl) (by decide) ?_ (by decide) (fun e => absurd e (by decide)) (fun r _ e => by omega) (fun r _ e => by omega)
    refine ⟨sto_ss.trans pk_us.symm, ?_, ?_, ?_, fun r hr => ?_, ?_⟩
    · exact (sto_sn (by decide)).trans (d2.trans (pk_un (by decide)).symm)
    · exact (sto_sn (by decide)).trans (d3.trans (pk_un (by decide)).symm)
    · rw [sto_n (by decide), pk_un (by decide)]; exact d4
    · rw [sto_n (by decide), sto_n (by decide), sto_n (by decide), pk_un (by omega), pk_un (by omega), pk_un (by omega)]; exact d5 r hr
    · rw [show sto C (HB 0 + 0) 8 a (HB 0) 5 = C (HB 0) 5 from sto_sn (by decide)]
      exact d6.cong (fun i hi => pk_un (by omega))
theorem in_rng {a : Int32} {lo hi : Int32} (h : lo ≤ a ∧ a ≤ hi) : Bd a lo.toInt hi.toInt := ⟨i32le.mp h.1, i32le.mp h.2⟩
theorem sim_bad {nl : Nat} {C N : Mem} (h : Rel nl C N) (v : Int32) : Sim nl (some (v, C)) (some (v, N)) := ⟨v, C, N, rfl, rfl, h⟩
theorem wind_s {nl : Nat} {C N : Mem} (h : Rel nl C N) (a : Int32) : Sim nl (f_X9_wind C a) (f_X10_wind N a) := by
  obtain ⟨d1, d2, d3, d4, d5, d6⟩ := h.1.2.1
  unfold f_X9_wind f_X10_wind
  rw [f_within9, f_in, bd_s, bd_s]
  by_cases hc : 0 ≤ a ∧ a ≤ 9999
  · rw [if1 hc, if1 hc, rdl 8 (show (8 : Int32) = nI 8 from rfl) (by decide) (by decide), wrl 8 (show (8 : Int32) = nI 8 from rfl) (by decide) (by decide), bec 3 z3 (by decide), bd2_s, d4]
    refine ⟨_, _, _, rfl, rfl, ?_⟩
    refine dy_set h (Or.inr (by decide)) (by decide) ?_ (by decide) (fun _ => in_rng hc) (fun r _ e => by omega) (fun r _ e => by omega)
    refine ⟨?_, ?_, ?_, sto_ss.trans pk_us.symm, fun r hr => ?_, ?_⟩
    · rw [sto_n (by decide), pk_un (by decide)]; exact d1
    · rw [sto_n (by decide), pk_un (by decide)]; exact d2
    · rw [sto_n (by decide), pk_un (by decide)]; exact d3
    · rw [sto_sn (by omega), sto_n (by decide), sto_n (by decide), pk_un (by omega), pk_un (by omega), pk_un (by omega)]; exact d5 r hr
    · rw [sto_n (by decide)]
      exact d6.cong (fun i hi => pk_un (by omega))
  · rw [if0 hc, if0 hc]
    exact sim_bad h _
theorem room_n {a : Int32} (h : 0 ≤ a ∧ a ≤ 7) : ∃ r, r < 8 ∧ a = nI r := by
  obtain ⟨k, hk, e⟩ := rng_n (n := 7) (by decide) h
  exact ⟨k, by omega, e⟩
theorem light_c {C : Mem} {r : Nat} {o : Int32} (ho : o = 0 ∨ o = 1) {f : Nat → Int32} (h : BitsOf (C (HB 0) 5) 8 f) (hr : r < 8) (m : Int32) : ∃ x, f_X9_set_j148 (nI r) o m C = some (m, sto C (HB 0) 5 x) ∧ BitsOf x 8 (fun i => if i = r then o else f i) := by
  rcases ho with e | e
  · refine ⟨(C (HB 0) 5) &&& (((1 : Int32) <<< (nI r &&& 31)) ^^^ (-1)), ?_, h.clr (by decide) hr (fun i _ => by rw [e])⟩
    unfold f_X9_set_j148 f_X1_light
    rw [e, if_neg (by decide), if_pos rfl]
    rfl
  · refine ⟨(C (HB 0) 5) ||| ((1 : Int32) <<< (nI r &&& 31)), ?_, h.set (by decide) hr (fun i _ => by rw [e])⟩
    unfold f_X9_set_j148 f_X1_light
    rw [e, if_pos rfl, if_neg (by decide)]
    rfl
theorem set_s {nl : Nat} {C N : Mem} (h : Rel nl C N) (a1 a2 a3 : Int32) : Sim nl (f_X9_set C a1 a2 a3) (f_X10_set N a1 a2 a3) := by
  obtain ⟨d1, d2, d3, d4, d5, d6⟩ := h.1.2.1
  unfold f_X9_set f_X10_set
  rw [isRoom9_e, isRoom10_e, bd_s, bd_s]
  by_cases hc : 0 ≤ a1 ∧ a1 ≤ 7
  · rw [if1 hc, if1 hc, f_within9, f_in, bd_s, bd_s]
    by_cases hc2 : 0 ≤ a2 ∧ a2 ≤ 3
    · rw [if1 hc2, if1 hc2]
      obtain ⟨r, hr, er⟩ := room_n hc
      obtain ⟨w, hw, ew⟩ := rng_n (n := 3) (by decide) hc2
      have ew4 : w = 0 ∨ w = 1 ∨ w = 2 ∨ w = 3 := by omega
      rw [er]
      rcases ew4 with e | e | e | e
      · rw [ew, e, show f_X9_mostOf (nI 0) = some 9999 from rfl, bd_s, f_within9, bd_s]
        unfold f_X10_set_j40
        simp only [e_00, e_01, e_02, e_03, e_04, e_05, e_06, e_07, if_true, if_false]
        rw [f_in, bd_s]
        by_cases hc3 : 0 ≤ a3 ∧ a3 ≤ 9999
        · rw [if1 hc3, if1 hc3, rdn (by omega) (by decide), wrn (by omega) (by decide), bec (6 + 4 * r) (by rw [idx4]; rfl) (by omega), bd2_s, (d5 r hr).1]
          refine ⟨_, _, _, rfl, rfl, dy_set h (Or.inr (by decide)) (by omega) ?_ (by omega) (fun e => absurd e (by omega)) (fun _ _ _ => in_rng hc3) (fun r _ e => by omega)⟩
          refine ⟨?_, ?_, ?_, ?_, fun i hi => ⟨?_, ?_, ?_⟩, ?_⟩
          · rw [sto_n (by decide), pk_un (by omega)]; exact d1
          · rw [sto_n (by decide), pk_un (by omega)]; exact d2
          · rw [sto_n (by decide), pk_un (by omega)]; exact d3
          · rw [sto_sn (by omega), pk_un (by omega)]; exact d4
          · by_cases q : i = r
            · rw [q, sto_ss, pk_us]
            · rw [sto_sn q, pk_un (by omega)]; exact (d5 i hi).1
          · rw [sto_n (by decide), pk_un (by omega)]; exact (d5 i hi).2.1
          · rw [sto_n (by decide), pk_un (by omega)]; exact (d5 i hi).2.2
          · rw [sto_n (by decide)]
            exact d6.cong (fun i hi => pk_un (by omega))
        · rw [if0 hc3, if0 hc3]
          exact sim_bad h _
      · rw [ew, e, show f_X9_mostOf (nI 1) = some 9 from rfl, bd_s, f_within9, bd_s]
        unfold f_X10_set_j40
        simp only [e_10, e_11, e_12, e_13, e_14, e_15, e_16, e_17, if_true, if_false]
        rw [f_in, bd_s]
        by_cases hc3 : 0 ≤ a3 ∧ a3 ≤ 9
        · rw [if1 hc3, if1 hc3, rdn (by omega) (by decide), wrn (by omega) (by decide), bec (7 + 4 * r) (by rw [idx4, show 6 + 4 * r + 1 = 7 + 4 * r by omega]) (by omega), bd2_s, (d5 r hr).2.1]
          refine ⟨_, _, _, rfl, rfl, dy_set h (Or.inr (by decide)) (by omega) ?_ (by omega) (fun e => absurd e (by omega)) (fun _ _ e => by omega) (fun r _ e => in_rng hc3)⟩
          refine ⟨?_, ?_, ?_, ?_, fun i hi => ⟨?_, ?_, ?_⟩, ?_⟩
          · rw [sto_n (by decide), pk_un (by omega)]; exact d1
          · rw [sto_n (by decide), pk_un (by omega)]; exact d2
          · rw [sto_n (by decide), pk_un (by omega)]; exact d3
          · rw [sto_n (by decide), pk_un (by omega)]; exact d4
          · rw [sto_n (by decide), pk_un (by omega)]; exact (d5 i hi).1
          · by_cases q : i = r
            · rw [q, sto_ss, pk_us]
            · rw [sto_sn q, pk_un (by omega)]; exact (d5 i hi).2.1
          · rw [sto_n (by decide), pk_un (by omega)]; exact (d5 i hi).2.2
          · rw [sto_n (by decide)]
            exact d6.cong (fun i hi => pk_un (by omega))
        · rw [if0 hc3, if0 hc3]
          exact sim_bad h _
      · rw [ew, e, show f_X9_mostOf (nI 2) = some 9999 from rfl, bd_s, f_within9, bd_s]
        unfold f_X10_set_j40
        simp only [e_20, e_21, e_22, e_23, e_24, e_25, e_26, e_27, if_true, if_false]
        rw [f_in, bd_s]
        by_cases hc3 : 0 ≤ a3 ∧ a3 ≤ 9999
        · rw [if1 hc3, if1 hc3, rdn (by omega) (by decide), wrn (by omega) (by decide), bec (8 + 4 * r) (by rw [idx4, show 6 + 4 * r + 2 = 8 + 4 * r by omega]) (by omega), bd2_s, (d5 r hr).2.2]
          refine ⟨_, _, _, rfl, rfl, dy_set h (Or.inr (by decide)) (by omega) ?_ (by omega) (fun e => absurd e (by omega)) (fun _ _ e => by omega) (fun r _ e => by omega)⟩
          refine ⟨?_, ?_, ?_, ?_, fun i hi => ⟨?_, ?_, ?_⟩, ?_⟩
          · rw [sto_n (by decide), pk_un (by omega)]; exact d1
          · rw [sto_n (by decide), pk_un (by omega)]; exact d2
          · rw [sto_n (by decide), pk_un (by omega)]; exact d3
          · rw [sto_n (by decide), pk_un (by omega)]; exact d4
          · rw [sto_n (by decide), pk_un (by omega)]; exact (d5 i hi).1
          · rw [sto_n (by decide), pk_un (by omega)]; exact (d5 i hi).2.1
          · by_cases q : i = r
            · rw [q, sto_ss, pk_us]
            · rw [sto_sn q, pk_un (by omega)]; exact (d5 i hi).2.2
          · rw [sto_n (by decide)]
            exact d6.cong (fun i hi => pk_un (by omega))
        · rw [if0 hc3, if0 hc3]
          exact sim_bad h _
      · rw [ew, e, show f_X9_mostOf (nI 3) = some 1 from rfl, bd_s, f_within9, bd_s]
        unfold f_X10_set_j40
        simp only [e_30, e_31, e_32, e_33, e_34, e_35, e_36, e_37, if_true, if_false]
        rw [f_in, bd_s]
        by_cases hc3 : 0 ≤ a3 ∧ a3 ≤ 1
        · obtain ⟨o, ho, eo⟩ := rng_n (n := 1) (by decide) hc3
          have ho2 : a3 = 0 ∨ a3 = 1 := by
            rcases (show o = 0 ∨ o = 1 by omega) with q | q
            · exact Or.inl (by rw [eo, q]; rfl)
            · exact Or.inr (by rw [eo, q]; rfl)
          rw [if1 hc3, if1 hc3, isLit_c d6 hr, bd_s, bec (9 + 4 * r) (by rw [idx4, show 6 + 4 * r + 3 = 9 + 4 * r by omega]) (by omega), bd2_s]
          have key : ∃ x, (if N 1 (9 + 4 * r) = 0 then f_X9_set_j148 (nI r) a3 0 C else f_X9_set_j148 (nI r) a3 1 C) = some (N 1 (9 + 4 * r), sto C (HB 0) 5 x) ∧ BitsOf x 8 (fun i => if i = r then a3 else N 1 (9 + 4 * i)) := by
            rcases bits01 d6 hr with q | q
            · have q : N 1 (9 + 4 * r) = 0 := q
              rw [if_pos q, q]; exact light_c ho2 d6 hr 0
            · have q : N 1 (9 + 4 * r) = 1 := q
              rw [if_neg (by rw [q]; decide), q]; exact light_c ho2 d6 hr 1
          obtain ⟨x, k1, k2⟩ := key
          rw [k1]
          refine ⟨_, _, _, rfl, rfl, dy_set (q := 0) h (Or.inl rfl) (by omega) ?_ (by omega) (fun e => absurd e (by omega)) (fun _ _ e => by omega) (fun r _ e => by omega)⟩
          refine ⟨?_, ?_, ?_, ?_, fun i hi => ⟨?_, ?_, ?_⟩, ?_⟩
          · rw [show sto C (HB 0 + 0) 5 x (HB 0) 8 = C (HB 0) 8 from sto_sn (by decide), pk_un (by omega)]; exact d1
          · rw [show sto C (HB 0 + 0) 5 x (HB 0) 7 = C (HB 0) 7 from sto_sn (by decide), pk_un (by omega)]; exact d2
          · rw [show sto C (HB 0 + 0) 5 x (HB 0) 6 = C (HB 0) 6 from sto_sn (by decide), pk_un (by omega)]; exact d3
          · rw [sto_n (by decide), pk_un (by omega)]; exact d4
          · rw [sto_n (by decide), pk_un (by omega)]; exact (d5 i hi).1
          · rw [sto_n (by decide), pk_un (by omega)]; exact (d5 i hi).2.1
          · rw [sto_n (by decide), pk_un (by omega)]; exact (d5 i hi).2.2
          · rw [show sto C (HB 0 + 0) 5 x (HB 0) 5 = x from sto_ss]
            refine k2.cong (fun i hi => ?_)
            by_cases q : i = r
            · rw [q, if_pos rfl, pk_us]
            · rw [if_neg q, pk_un (by omega)]
        · rw [if0 hc3, if0 hc3]
          exact sim_bad h _
    · rw [if0 hc2, if0 hc2]
      exact sim_bad h _
  · rw [if0 hc, if0 hc]
    exact sim_bad h _
theorem rel_c {nl : Nat} {C C2 N N2 : Mem} (h : Rel nl C N) (hC : ∀ k, k ≠ HB 0 + 14 → k ≠ HB 0 + 15 → C2 k = C k) (hN : ∀ k, k ≠ 4 → k ≠ 5 → k ≠ 15 → k ≠ 16 → N2 k = N k) : Rel nl C2 N2 := by
  have e : N2 1 = N 1 := hN 1 (by decide) (by decide) (by decide) (by decide)
  obtain ⟨d1, d2, d3, d4, d5, d6⟩ := h.1.2.1
  refine rel_now h (fun k hk => hC k (by unfold HB; omega) (by unfold HB; omega)) (hC _ (by omega) (by omega)) (fun k hk => hN k (by omega) (by omega) (by omega) (by omega)) ?_ (by rw [e]; exact h.2.1)
  rw [e]
  refine ⟨h.1.1.mono (fun j h1 h2 => hC _ (by omega) (by omega)) (fun k hk => hC k (by unfold HB; omega) (by unfold HB; omega)) Core.rf, ?_, h.1.2.2⟩
  have q0 := hC (HB 0) (by omega) (by omega)
  unfold HDy
  rw [q0, hC (HB 0 + 11) (by omega) (by omega), hC (HB 0 + 12) (by omega) (by omega), hC (HB 0 + 13) (by omega) (by omega)]
  exact h.1.2.1
theorem room_s {nl : Nat} {C N : Mem} (h : Rel nl C N) (a1 a2 : Int32) : Sim nl (f_X9_room C a1 a2) (f_X10_room N a1 a2) := by
  have hd := h.1.2.1
  obtain ⟨d1, d2, d3, d4, d5, d6⟩ := h.1.2.1
  unfold f_X9_room f_X10_room
  rw [isRoom9_e, isRoom10_e, bd_s, bd_s]
  by_cases hc : 0 ≤ a1 ∧ a1 ≤ 7
  · obtain ⟨r, hr, er⟩ := room_n hc
    rw [if1 hc, if1 hc, f_in, bd_s, er]
    by_cases hc2 : 0 ≤ a2 ∧ a2 ≤ 4
    · rw [if1 hc2]
      obtain ⟨w, hw, ew⟩ := rng_n (n := 4) (by decide) hc2
      rcases (show w = 0 ∨ w = 1 ∨ w = 2 ∨ w = 3 ∨ w = 4 by omega) with e | e | e | e | e
      · rw [ew, e]
        simp only [e_00, e_01, e_02, e_03, e_04, e_05, e_06, e_07, if_true, if_false]
        rw [if_neg (show ¬ (4 : Int32) ≤ nI 0 by decide), rdn (by omega) (by decide), show nI 0 = (0 : Int32) from rfl, at0 (by omega), bd_s, (d5 r hr).1]
        exact sim_bad h _
      · rw [ew, e]
        simp only [e_10, e_11, e_12, e_13, e_14, e_15, e_16, e_17, if_true, if_false]
        rw [if_neg (show ¬ (4 : Int32) ≤ nI 1 by decide), rdn (by omega) (by decide), show nI 1 = (1 : Int32) from rfl, at1 (by omega), bd_s, (d5 r hr).2.1]
        exact sim_bad h _
      · rw [ew, e]
        simp only [e_20, e_21, e_22, e_23, e_24, e_25, e_26, e_27, if_true, if_false]
        rw [if_neg (show ¬ (4 : Int32) ≤ nI 2 by decide), rdn (by omega) (by decide), show nI 2 = (2 : Int32) from rfl, at2 (by omega), bd_s, (d5 r hr).2.2]
        exact sim_bad h _
      · rw [ew, e]
        simp only [e_30, e_31, e_32, e_33, e_34, e_35, e_36, e_37, if_true, if_false]
        rw [if_neg (show ¬ (4 : Int32) ≤ nI 3 by decide), isLit_c d6 hr, bd_s, show nI 3 = (3 : Int32) from rfl, at3 (by omega), bd_s]
        rcases bits01 d6 hr with q | q
        · have q : N 1 (9 + 4 * r) = 0 := q
          rw [if_pos q, q]
          exact sim_bad h _
        · have q : N 1 (9 + 4 * r) = 1 := q
          rw [if_neg (by rw [q]; decide), q]
          exact sim_bad h _
      · obtain ⟨C2, c1, c2, c3, c4⟩ := measureFlows_c (by decide) h.1.1 (fun r hr => air_c hd hr) h.1.2.2
        obtain ⟨N2, n1, n2, n3, n4⟩ := findFlows_e h.1.2.2.1
        unfold f_X1_draughtOf
        rw [ew, e]
        simp only [e_40, e_41, e_42, e_43, e_44, e_45, e_46, e_47, if_true, if_false]
        rw [if_pos (show (4 : Int32) ≤ nI 4 by decide), c1, n1, bd_s, bd_s, rdn (by omega) (by decide), rdn (by omega) (by decide), bd2_s, c4 r (by omega), n4 r (by omega)]
        exact ⟨_, _, _, rfl, rfl, rel_c h c2 n2⟩
    · have k : ∀ q : Nat, q ≤ 4 → ¬ a2 = nI q := fun q hq e => hc2 (by
        rw [e]
        have : ∀ q : Fin 5, (0 : Int32) ≤ nI q.val ∧ nI q.val ≤ 4 := by decide
        exact this ⟨q, by omega⟩)
      rw [if0 hc2, if_neg (show ¬ a2 = (0 : Int32) from k 0 (by decide)), if_neg (show ¬ a2 = (1 : Int32) from k 1 (by decide)), if_neg (show ¬ a2 = (2 : Int32) from k 2 (by decide)), if_neg (show ¬ a2 = (3 : Int32) from k 3 (by decide)), if_neg (show ¬ a2 = (4 : Int32) from k 4 (by decide))]
      exact sim_bad h _
  · rw [if0 hc, if0 hc]
    exact sim_bad h _
