/-! behind, fine, snuffs -/
theorem Out.rf {b : Nat} {C : Mem} : Out b C C := fun _ _ => rfl
theorem th_n {nl : Nat} {C N C1 N1 N2 : Mem} (t : Th nl C N C1 N1) (h : ∀ k, k ≠ 4 → k ≠ 5 → k ≠ 15 → k ≠ 16 → N2 k = N1 k) : Th nl C N C1 N2 := by
  obtain ⟨t1, t2, t3, t4, t5, t6⟩ := t
  have e1 := h 1 (by decide) (by decide) (by decide) (by decide)
  exact ⟨t1, t2, by rw [e1]; exact t3, fun j hj => by rw [h 8 (by decide) (by decide) (by decide) (by decide)]; exact t4 j hj, fun j hj => by rw [e1]; exact t5 j hj, fun k hk => (h k (by omega) (by omega) (by omega) (by omega)).trans (t6 k hk)⟩
theorem goes_e {nl T : Nat} {C N C1 N1 : Mem} (hnl : nl < 100000) (hT : T ≤ 1000) (t : Th nl C N C1 N1) : ∃ C2 N2, f_X8_behindMinutes_l10 nl 0 FU (nI T) 0 C1 = some C2 ∧ f_X10_goesOn N1 (nI T) = some (nI (lc (N1 1) 8 - lc (N2 1) 8), N2) ∧ Th nl C N C2 N2 ∧ lc (N2 1) 8 ≤ lc (N1 1) 8 := by
  obtain ⟨C2, N2, c1, c2, c3, c4⟩ := th_goes hnl hT (lc_le (N1 1) 8) T 0 FU FU C1 N1 (by omega) (FU_gt (by omega)) (FU_gt (by omega)) t (Nat.le_refl _)
  rw [Nat.sub_self] at c2
  exact ⟨C2, N2, c1, c2, c3, c4⟩
theorem behind_s {nl : Nat} {C N : Mem} (hnl : nl < 100000) (h : Rel nl C N) (a1 a2 a3 : Int32) : Sim nl (f_X9_behind nl C a1 a2 a3) (f_X10_behind N a1 a2 a3) := by
  unfold f_X9_behind f_X10_behind
  rw [isRoom9_e, isRoom10_e, bd_s, bd_s]
  by_cases hc : 0 ≤ a1 ∧ a1 ≤ 7
  · obtain ⟨r, hr, er⟩ := room_n hc
    rw [if1 hc, if1 hc, f_within9, f_in, bd_s, bd_s, er]
    by_cases hc2 : 0 ≤ a2 ∧ a2 ≤ 100
    · rw [if1 hc2, if1 hc2, f_within9, f_in, bd_s, bd_s]
      by_cases hc3 : 0 ≤ a3 ∧ a3 ≤ 3
      · rw [if1 hc3, if1 hc3]
        obtain ⟨T, hT, eT⟩ := rng_n (n := 100) (by decide) hc2
        obtain ⟨w, hw, ew⟩ := rng_n (n := 3) (by decide) hc3
        obtain ⟨N1, n1, n2⟩ := thinks_e N
        obtain ⟨C1, c1, t1⟩ := th_take h Out.rf n2
        obtain ⟨C2, N2, c2, n3, t2, -⟩ := goes_e (T := T) hnl (by omega) t1
        obtain ⟨N3, n4, n5, n6, n7⟩ := findFlows_e t2.2.2.1.2.2.1
        have t3 := th_n t2 n5
        obtain ⟨N4, n8, n9⟩ := th_back t3
        have rel := rdy_rel h t3.1 t3.2.1 n9
        have e1 : N3 1 = N2 1 := n5 1 (by decide) (by decide) (by decide) (by decide)
        have hD := t3.2.2.1.2.1
        obtain ⟨d1, d2, d3, d4, d5, d6⟩ := t3.2.2.1.2.1
        have cc : f_X8_behindMinutes nl 0 C a2 = some C2 := by
          unfold f_X8_behindMinutes
          rw [c1, bd_s, eT]; exact c2
        rw [cc, bd_s, n1, bd_s, eT, n3, bd2_s, n4, bd_s]
        rcases (show w = 0 ∨ w = 1 ∨ w = 2 ∨ w = 3 by omega) with e | e | e | e
        · rw [ew, e]
          simp only [e_00, e_01, e_02, e_03, e_04, e_05, e_06, e_07, if_true, if_false]
          rw [rdn (by omega) (by decide), at0 (by omega), bd_s, n8, bd_s, (d5 r hr).1]
          exact ⟨_, _, _, rfl, rfl, rel⟩
        · rw [ew, e]
          simp only [e_10, e_11, e_12, e_13, e_14, e_15, e_16, e_17, if_true, if_false]
          rw [rdn (by omega) (by decide), at2 (by omega), bd_s, n8, bd_s, (d5 r hr).2.2]
          exact ⟨_, _, _, rfl, rfl, rel⟩
        · rw [ew, e]
          simp only [e_20, e_21, e_22, e_23, e_24, e_25, e_26, e_27, if_true, if_false]
          obtain ⟨C3, c4, c5, c6, c7⟩ := measureFlows_c (b := 2) (by decide) t2.2.2.1.1 (fun r hr => air_c t2.2.2.1.2.1 hr) t2.2.2.1.2.2
          unfold f_X1_draughtOf
          rw [c4, bd_s, rdn (by omega) (by decide), bd2_s, rdn (by omega) (by decide), n8, bd_s, c7 r (by omega), n7 r (by omega)]
          refine ⟨_, _, _, rfl, rfl, rdy_rel h (t3.1.tr (fun k hk => c5 k (by omega) (by omega))) (fun i hi => ?_) n9⟩
          rw [c5 _ (by omega) (by omega)]; exact t3.2.1 i hi
        · rw [ew, e]
          simp only [e_30, e_31, e_32, e_33, e_34, e_35, e_36, e_37, if_true, if_false]
          rw [isLit_c d6 hr, bd_s, at3 (by omega), bd_s, n8, bd_s]
          rcases bits01 d6 hr with q | q
          · have q : N3 1 (9 + 4 * r) = 0 := q
            rw [if_pos q, q]
            exact ⟨_, _, _, rfl, rfl, rel⟩
          · have q : N3 1 (9 + 4 * r) = 1 := q
            rw [if_neg (by rw [q]; decide), q]
            exact ⟨_, _, _, rfl, rfl, rel⟩
      · rw [if0 hc3, if0 hc3]
        exact sim_bad h _
    · rw [if0 hc2, if0 hc2]
      exact sim_bad h _
  · rw [if0 hc, if0 hc]
    exact sim_bad h _
theorem rel_c2 {nl : Nat} {C C2 N N2 : Mem} (h : Rel nl C N) (hC : ∀ k, k ≠ HB 0 + 10 → C2 k = C k) (hN : ∀ k, k ≠ 4 → k ≠ 5 → k ≠ 15 → k ≠ 16 → N2 k = N k) : Rel nl C2 N2 := by
  have e : N2 1 = N 1 := hN 1 (by decide) (by decide) (by decide) (by decide)
  refine rel_now h (fun k hk => hC k (by unfold HB; omega)) (hC _ (by omega)) (fun k hk => hN k (by omega) (by omega) (by omega) (by omega)) ?_ (by rw [e]; exact h.2.1)
  rw [e]
  refine ⟨h.1.1.mono (fun j h1 h2 => hC _ (by omega)) (fun k hk => hC k (by unfold HB; omega)) Core.rf, ?_, h.1.2.2⟩
  have q0 := hC (HB 0) (by omega)
  unfold HDy
  rw [q0, hC (HB 0 + 11) (by omega), hC (HB 0 + 12) (by omega), hC (HB 0 + 13) (by omega)]
  exact h.1.2.1
theorem fine_s {nl : Nat} {C N : Mem} (hnl : nl < 100000) (h : Rel nl C N) : Sim nl (f_X9_fine nl C) (f_X10_fine N) := by
  obtain ⟨d1, d2, d3, d4, d5, d6⟩ := h.1.2.1
  have hR := h.1.2.2.1
  unfold f_X9_fine f_X10_fine
  obtain ⟨C2, c1, c2⟩ := valueOf_c (b := 0) (by decide) hnl h.1.1 hR (k := 2) (by decide) (C (HB 0) 6) (C (HB 0) 7) (C (HB 0) 6)
  rw [← z2] at c1
  rw [c1, bd2_s, counts_e hR.2.1, bd_s, rdl 4 z4 (by decide) (by decide), wrl 0 z0 (by decide) (by decide), rdl 2 z2 (by decide) (by decide), sto_n (show (1 : Nat) ≠ 16 by decide), wrl 1 z1 (by decide) (by decide), d3, d2]
  have k16 : ∀ k, k ≠ 16 → sto (sto N 16 0 (N 1 4)) 16 1 (N 1 2) k = N k := fun k hk => (sto_n hk).trans (sto_n hk)
  by_cases q : 0 ≤ cntR (N 1) 2
  · rcases cntR_s hR.2.1 2 with e | ⟨t, ht, ht2, e, -⟩
    · rw [e] at q; exact absurd q (by decide)
    · obtain ⟨N3, n1, n2⟩ := worksOut_e (N := sto (sto N 16 0 (N 1 4)) 16 1 (N 1 2)) ht2 (by rw [k16 1 (by decide)]; exact hR.2.2.2 t ht)
      rw [if_pos q, if_pos q, e, n1, bd2_s, ix_nI (by omega), k16 1 (by decide), sto_ss, show sto (sto N 16 0 (N 1 4)) 16 1 (N 1 2) 16 0 = N 1 4 from (sto_sn (by decide)).trans sto_ss]
      exact ⟨_, _, _, rfl, rfl, rel_c2 h c2 (fun k _ _ h3 h4 => (n2 k h3).trans (k16 k h4))⟩
  · rw [if_neg q, if_neg q, rdl 4 z4 (by decide) (by decide), k16 1 (by decide)]
    exact ⟨_, _, _, rfl, rfl, rel_c2 h c2 (fun k _ _ h3 h4 => k16 k h4)⟩
/-- a door of hall b is set -/
theorem hrel_open {nl : Nat} {C : Mem} {b : Nat} {R : Nat → Int32} (hb : b < 3) (h : HRel nl C b R) {d : Nat} (hd : d < ix (R 1)) {o x : Int32} (ho : 0 ≤ o ∧ o ≤ 1) (k2 : BitsOf x (ix (R 1)) (fun i => if i = d then o else R (42 + 5 * i))) : HRel nl (sto C (HB b + 1) 1 x) b (upd R (42 + 5 * d) o) := by
  have hB := HB_lt hb
  obtain ⟨⟨s1, s2, s3, s4, s5, s6, s7⟩, ⟨d1, d2, d3, d4, d5, d6⟩, hR⟩ := h
  have hd2 := (dn_b hR.1).2
  have hS : HS nl C b R := ⟨s1, s2, s3, s4, s5, s6, s7⟩
  refine ⟨hS.doors (fun j a1 a2 => sto_n (by omega)) (fun k hk => sto_n (by omega)) (fun j hj => pk_un (by omega)) ?_ (fun i hi => ?_) ?_, ⟨?_, ?_, ?_, ?_, fun r hr => ?_, ?_⟩, hR.doors (fun j hj => pk_un (by omega)) ?_ (fun i hi => ?_) (fun j _ hj => pk_un (by omega))⟩
  · rw [sto_sn (by decide), pk_un (by omega)]; exact s1
  · rw [pk_un (by omega)] at hi
    rw [sto_n (show HB b + 2 ≠ HB b + 1 by omega), sto_n (show HB b + 3 ≠ HB b + 1 by omega), sto_n (show HB b + 4 ≠ HB b + 1 by omega), sto_n (show HB b + 5 ≠ HB b + 1 by omega), pk_un (show 38 + 5 * i ≠ 42 + 5 * d by omega), pk_un (show 39 + 5 * i ≠ 42 + 5 * d by omega), pk_un (show 40 + 5 * i ≠ 42 + 5 * d by omega), pk_un (show 41 + 5 * i ≠ 42 + 5 * d by omega)]
    exact s3 i hi
  · rw [sto_ss, pk_un (by omega)]
    refine k2.cong (fun i hi => ?_)
    by_cases q : i = d
    · rw [q, if_pos rfl]; exact pk_us
    · rw [if_neg q]; exact pk_un (by omega)
  · rw [sto_n (by omega), pk_un (by omega)]; exact d1
  · rw [sto_n (by omega), pk_un (by omega)]; exact d2
  · rw [sto_n (by omega), pk_un (by omega)]; exact d3
  · rw [sto_n (by omega), pk_un (by omega)]; exact d4
  · rw [sto_n (show HB b + 11 ≠ HB b + 1 by omega), sto_n (show HB b + 12 ≠ HB b + 1 by omega), sto_n (show HB b + 13 ≠ HB b + 1 by omega), pk_un (show 6 + 4 * r ≠ 42 + 5 * d by omega), pk_un (show 7 + 4 * r ≠ 42 + 5 * d by omega), pk_un (show 8 + 4 * r ≠ 42 + 5 * d by omega)]; exact d5 r hr
  · rw [sto_n (by omega)]; exact d6.cong (fun i hi => pk_un (by omega))
  · rw [pk_un (by omega)]; exact hR.1.1
  · rw [pk_un (by omega)] at hi
    obtain ⟨g1, g2, g3, g4, g5⟩ := hR.2.2.1 i hi
    unfold DoorOK
    rw [pk_un (show 38 + 5 * i ≠ 42 + 5 * d by omega), pk_un (show 39 + 5 * i ≠ 42 + 5 * d by omega), pk_un (show 40 + 5 * i ≠ 42 + 5 * d by omega), pk_un (show 41 + 5 * i ≠ 42 + 5 * d by omega)]
    refine ⟨g1, g2, g3, g4, ?_⟩
    by_cases q : i = d
    · rw [q, pk_us]; exact in_rng ho
    · rw [pk_un (by omega)]; exact g5
theorem th_open {nl : Nat} {C N C1 N1 : Mem} (t : Th nl C N C1 N1) {d : Nat} (hd : d < ix (N1 1 1)) {o : Int32} (ho : o = 0 ∨ o = 1) : ∃ C2, f_X0_swing 2 C1 (nI d) o = some C2 ∧ Th nl C N C2 (sto N1 1 (42 + 5 * d) o) := by
  obtain ⟨t1, t2, t3, t4, t5, t6⟩ := t
  have s4 := t3.1.2.2.2.1
  have hn := (dn_b t3.2.2.1).2
  have key : ∃ x, f_X0_swing 2 C1 (nI d) o = some (sto C1 (HB 2 + 1) 1 x) ∧ BitsOf x (ix (N1 1 1)) (fun i => if i = d then o else N1 1 (42 + 5 * i)) := by
    rcases ho with e | e
    · refine ⟨(C1 (HB 2 + 1) 1) &&& (((1 : Int32) <<< (nI d &&& 31)) ^^^ (-1)), ?_, s4.clr hn hd (fun i _ => by rw [e])⟩
      unfold f_X0_swing
      rw [if_pos e]
      rfl
    · refine ⟨(C1 (HB 2 + 1) 1) ||| ((1 : Int32) <<< (nI d &&& 31)), ?_, s4.set hn hd (fun i _ => by rw [e])⟩
      unfold f_X0_swing
      rw [if_neg (by rw [e]; decide)]
      rfl
  obtain ⟨x, k1, k2⟩ := key
  refine ⟨_, k1, t1.tr (fun k hk => sto_n (by unfold HB at *; omega)), fun i hi => by rw [sto_n (by omega)]; exact t2 i hi, ?_, fun j hj => by rw [sto_n (by decide)]; exact t4 j hj, fun j hj => by rw [sto_sn (by omega)]; exact t5 j hj, fun k hk => (sto_n (by omega)).trans (t6 k hk)⟩
  rw [sto_s]
  exact hrel_open (by decide) t3 hd (by rcases ho with e | e <;> rw [e] <;> decide) k2
theorem litWith_l {nl : Nat} : ∀ (n : Nat) (a0 a1 : Int32) (M : Mem), f_X8_litWith_l23 nl 0 n a0 a1 M = bd (f_X8_behindMinutes_l10 nl 0 n a0 a1 M) fun M2 => bd (f_X1_litMany 2 M2) fun r => some (r, M2)
  | 0, _, _, _ => rfl
  | n + 1, a0, a1, M => by
    unfold f_X8_litWith_l23 f_X8_behindMinutes_l10
    by_cases q : a0 ≤ a1
    · rw [if_pos q, if_pos q, bd_s]
    · rw [if_neg q, if_neg q]
      cases f_X1_passMinute nl 2 M with
      | none => rfl
      | some M3 =>
        rw [bd_s, bd_s, nm_t, nm_t]
        exact litWith_l n a0 (a1 + 1) M3
theorem sumL_e {nl : Nat} {C N : Mem} {b : Nat} (h : HRel nl C b (N 1)) : f_X10_sumOf N 3 = some (nI (lc (N 1) 8)) := by
  have k2 : f_X10_sumOf N 3 = some (sumN (fun r => N 1 (6 + 4 * r + 3)) 8) := sumOf_l (q := 3) (by decide) 8 0 FU (by omega) (FU_gt (by omega))
  rw [k2]
  have : ∀ n, n ≤ 8 → sumN (fun r => N 1 (6 + 4 * r + 3)) n = nI (lc (N 1) n) := by
    intro n
    induction n with
    | zero => intro _; rfl
    | succ n ih =>
      intro hn
      unfold sumN lc
      rw [ih (by omega)]
      show nI (lc (N 1) n) + N 1 (6 + 4 * n + 3) = _
      rw [show 6 + 4 * n + 3 = 9 + 4 * n by omega]
      rcases bits01 h.2.1.2.2.2.2.2 (i := n) (by omega) with q | q
      · have q : N 1 (9 + 4 * n) = 0 := q
        rw [q, if_neg (by decide), z0, nI_add]
      · have q : N 1 (9 + 4 * n) = 1 := q
        rw [q, if_pos rfl, z1, nI_add]
  rw [this 8 (by omega)]
theorem litBehind_e {nl T d : Nat} {C N C1 N1 : Mem} (hnl : nl < 100000) (hT : T ≤ 1000) (h : Rel nl C N) (o : Out 2 C C1) (r : Rdy N N1) (hd : d < ix (N 1 1)) {q : Int32} (hq : q = 0 ∨ q = 1) : ∃ v C2 N2, f_X8_litWith nl 0 C1 (nI d) q (nI T) = some (v, C2) ∧ f_X10_litBehind N1 (nI d) q (nI T) = some (v, N2) ∧ Out 2 C C2 ∧ LOK nl C2 2 ∧ Rdy N N2 := by
  have hd2 := (dn_b h.1.2.2.1).2
  obtain ⟨C2, c1, t1⟩ := th_take h o r
  obtain ⟨C3, c2, t2⟩ := th_open t1 (by rw [r.1]; exact hd) hq
  obtain ⟨C4, N4, c3, n1, t3, -⟩ := goes_e (T := T) hnl hT t2
  obtain ⟨N5, n2, n3⟩ := th_back t3
  refine ⟨nI (lc (N4 1) 8), C4, N5, ?_, ?_, t3.1, t3.2.1, n3⟩
  · unfold f_X8_litWith
    rw [c1, bd_s, c2, bd_s, litWith_l, c3, bd_s, litMany_c t3.2.2.1, bd_s]
  · unfold f_X10_litBehind
    rw [wrl (42 + 5 * d) (by rw [z4, idx5, show 38 + 5 * d + 4 = 42 + 5 * d by omega]) (by omega) (by decide), n1, bd2_s, sumL_e t3.2.2.1, bd_s, n2, bd_s]
theorem snuffs_s {nl : Nat} {C N : Mem} (hnl : nl < 100000) (h : Rel nl C N) (a1 a2 : Int32) : Sim nl (f_X9_snuffs nl C a1 a2) (f_X10_snuffs N a1 a2) := by
  unfold f_X9_snuffs f_X10_snuffs
  rw [has_e, isDoor_e, bd_s, bd_s, h.1.1.1]
  by_cases hc : 0 ≤ a1 ∧ a1 ≤ N 1 1 - 1
  · obtain ⟨d, hd, hd2, ed⟩ := door_n2 h.1.2.2 hc
    rw [if1 hc, if1 hc, f_within9, f_in, bd_s, bd_s]
    by_cases hc2 : 1 ≤ a2 ∧ a2 ≤ 60
    · obtain ⟨T, hT, eT⟩ := rng_n (n := 60) (by decide) ⟨i32le.mpr (by have := i32le.mp hc2.1; rw [show (1 : Int32).toInt = 1 from rfl] at this; rw [show (0 : Int32).toInt = 0 from rfl]; omega), hc2.2⟩
      obtain ⟨N1, n1, n2⟩ := thinks_e N
      obtain ⟨v1, C2, N2, k1, k2, k3, k4, k5⟩ := litBehind_e (T := T) (d := d) (q := 0) hnl (by omega) h Out.rf n2 hd (Or.inl rfl)
      obtain ⟨v2, C3, N3, m1, m2, m3, m4, m5⟩ := litBehind_e (T := T) (d := d) (q := 1) hnl (by omega) h k3 k5 hd (Or.inr rfl)
      rw [if1 hc2, if1 hc2, ed, eT, n1, bd_s, k1, k2, bd2_s, bd2_s, m1, m2, bd2_s, bd2_s]
      exact ⟨_, _, _, rfl, rfl, rdy_rel h m3 m4 m5⟩
    · rw [if0 hc2, if0 hc2]
      exact sim_bad h _
  · rw [if0 hc, if0 hc]
    exact sim_bad h _
