/-! run, behind, fine -/
theorem fu_le {a b : Nat} (ha : a < 2147483648) (hb : b < 2147483648) (h : a ≤ b) : nI a ≤ nI b := by rw [le_nI ha hb]; exact h
theorem fu_nle {a b : Nat} (ha : a < 2147483648) (hb : b < 2147483648) (h : ¬ a ≤ b) : ¬ nI a ≤ nI b := by rw [le_nI ha hb]; exact h
theorem min_s {nl : Nat} {C N : Mem} (hnl : nl < 100000) (h : Rel nl C N) (h2 : Bd (N 1 2) 0 9998) : ∃ C2 N2, f_X1_passMinute nl 0 C = some C2 ∧ f_X10_minute N = some (outR (N 1), N2) ∧ N2 1 = minR (N 1) ∧ Rel nl C2 N2 := by
  obtain ⟨C2, c1, c2, c3⟩ := passMinute_c (b := 0) (by decide) hnl h.1
  obtain ⟨N2, n1, n2, n3⟩ := minute_e h.1.2.2.1
  refine ⟨C2, N2, c1, n1, n2, rel_now h (fun k hk => c3 k (by unfold HB; omega)) (c3 _ (by omega)) (fun k hk => n3 k (by omega) (by omega) (by omega) (by omega) (by omega) (by omega) (by omega)) (by rw [n2]; exact c2) ?_⟩
  rw [n2, (min_row h.1.2.2).2.2.2.1]
  obtain ⟨g1, g2⟩ := h2
  have e : (N 1 2 + 1).toInt = (N 1 2).toInt + 1 := by
    rw [toI_add (by rw [show (1 : Int32).toInt = 1 from rfl]; omega) (by rw [show (1 : Int32).toInt = 1 from rfl]; omega)]; rfl
  exact ⟨by rw [e]; omega, by rw [e]; omega⟩
theorem run_l {nl T m0 L : Nat} (hnl : nl < 100000) (hT : T ≤ 100) (hm : m0 + T ≤ 9999) : ∀ (k i n1 n2 : Nat) (C N : Mem), i + k = T → k < n1 → k < n2 → Rel nl C N → N 1 2 = nI (m0 + i) → lc (N 1) 8 ≤ L → L ≤ 8 → Sim nl (f_X9_run_l36 nl n1 (nI L) (nI T) (nI i) C) (f_X10_goesOn_l4 n2 (nI T) (nI (L - lc (N 1) 8)) (nI i) N)
  | 0, i, n1 + 1, n2 + 1, C, N, hi, _, _, h, e, hl, hL => by
    rw [Nat.add_zero] at hi
    unfold f_X9_run_l36 f_X10_goesOn_l4
    rw [hi, if_pos (fu_le (by omega) (by omega) (Nat.le_refl _)), if_pos (fu_le (by omega) (by omega) (Nat.le_refl _)), litMany_c h.1, bd_s, pk_sub hl]
    exact sim_bad h _
  | k + 1, i, n1 + 1, n2 + 1, C, N, hi, h1, h2, h, e, hl, hL => by
    unfold f_X9_run_l36 f_X10_goesOn_l4
    obtain ⟨C2, N2, c1, d1, u1, r1⟩ := min_s hnl h (by rw [e]; exact Bd_nI (by omega) (by omega) (by omega))
    obtain ⟨c, o1, o2⟩ := out_lc h.1.2.2.1
    rw [if_neg (fu_nle (by omega) (by omega) (by omega)), if_neg (fu_nle (by omega) (by omega) (by omega)), c1, d1, bd_s, bd2_s, nm_t, nm_t, nm_t, z1, nI_add, o1, nI_add, show L - lc (N 1) 8 + c = L - lc (N2 1) 8 by rw [u1]; omega]
    refine run_l hnl hT hm k (i + 1) n1 n2 C2 N2 (by omega) (by omega) (by omega) r1 ?_ (by rw [u1]; omega) hL
    rw [u1, (min_row h.1.2.2).2.2.2.1, e, z1, nI_add, Nat.add_assoc]
theorem run_s {nl : Nat} {C N : Mem} (hnl : nl < 100000) (h : Rel nl C N) (a1 : Int32) : Sim nl (f_X9_run nl C a1) (f_X10_run N a1) := by
  have d2 := h.1.2.1.2.1
  obtain ⟨m, hm, em⟩ := (show Bd (N 1 2) 0 ((9999 : Nat) : Int) from h.2.1).n
  unfold f_X9_run f_X10_run
  rw [f_within9, f_in, bd_s, bd_s]
  by_cases hc : 1 ≤ a1 ∧ a1 ≤ 100
  · obtain ⟨a, ha, ea⟩ := rng_n (n := 100) (by decide) ⟨i32le.mpr (by have := i32le.mp hc.1; rw [show (1 : Int32).toInt = 1 from rfl] at this; rw [show (0 : Int32).toInt = 0 from rfl]; omega), hc.2⟩
    have hL := lc_le (N 1) 8
    unfold f_X1_minutesLeft
    rw [if1 hc, if1 hc, litMany_c h.1, bd_s, bd_s, rdl 2 z2 (by decide) (by decide), d2, em, show (9999 : Int32) = nI 9999 from rfl, pk_sub hm, f_clamp10, bd_s, nm_t, ea]
    have k1 : (if (0 : Int32) < nI (9999 - m) then nI (9999 - m) else 0) = nI (9999 - m) := by
      by_cases q : 0 < 9999 - m
      · rw [if_pos (by rw [z0, lt_nI (by omega) (by omega)]; exact q)]
      · rw [if_neg (by rw [z0, lt_nI (by omega) (by omega)]; exact q), show 9999 - m = 0 by omega]; rfl
    rw [k1]
    have go : ∀ T, T ≤ 100 → m + T ≤ 9999 → Sim nl (f_X9_run_l36 nl FU (nI (lc (N 1) 8)) (nI T) 0 C) (bd2 (f_X10_goesOn N (nI T)) fun r6 M7 => some (r6, M7)) := fun T t1 t2 => by
      have := run_l (L := lc (N 1) 8) (m0 := m) hnl t1 t2 T 0 FU FU C N (by omega) (FU_gt (by omega)) (FU_gt (by omega)) h em (Nat.le_refl _) hL
      rw [Nat.sub_self] at this
      obtain ⟨r, C2, N2, q1, q2, q3⟩ := this
      refine ⟨r, C2, N2, q1, ?_, q3⟩
      unfold f_X10_goesOn
      rw [show f_X10_goesOn_l4 FU (nI T) 0 0 N = some (r, N2) from q2, bd2_s]
    unfold clampR
    rw [if_neg (show ¬ nI (9999 - m) < 0 by rw [z0, lt_nI (by omega) (by omega)]; omega)]
    by_cases q : 9999 - m < a
    · rw [if_pos (show nI (9999 - m) < nI a by rw [lt_nI (by omega) (by omega)]; exact q), if_neg (show ¬ nI a < nI (9999 - m) by rw [lt_nI (by omega) (by omega)]; omega)]
      exact go (9999 - m) (by omega) (by omega)
    · rw [if_neg (show ¬ nI (9999 - m) < nI a by rw [lt_nI (by omega) (by omega)]; exact q)]
      by_cases q2 : a < 9999 - m
      · rw [if_pos (show nI a < nI (9999 - m) by rw [lt_nI (by omega) (by omega)]; exact q2)]
        exact go a (by omega) (by omega)
      · rw [if_neg (show ¬ nI a < nI (9999 - m) by rw [lt_nI (by omega) (by omega)]; exact q2), show 9999 - m = a by omega]
        exact go a (by omega) (by omega)
  · rw [if0 hc, if0 hc]
    exact sim_bad h _
/-! THOUGHTS: the reference keeps its row aside in region 8, the class works in hall 2 -/
theorem thinks_l {N : Mem} : ∀ (k i n : Nat) (s : Mem), i + k = 88 → k < n → (∀ j, j ≠ 8 → s j = N j) → (∀ j, j < i → s 8 j = N 1 j) → ∃ N2, f_X10_thinks_l2 n (nI i) s = some N2 ∧ (∀ j, j ≠ 8 → N2 j = N j) ∧ ∀ j, j < 88 → N2 8 j = N 1 j
  | 0, i, n + 1, s, hi, _, h1, h2 => by
    unfold f_X10_thinks_l2
    rw [show i = 88 by omega, if_pos (by decide)]
    exact ⟨s, rfl, h1, fun j hj => h2 j (by omega)⟩
  | k + 1, i, n + 1, s, hi, hk, h1, h2 => by
    unfold f_X10_thinks_l2
    rw [if_neg (show ¬ (88 : Int32) ≤ nI i from fu_nle (a := 88) (by decide) (by omega) (by omega)), rdn (by omega) (by decide), wrn (by omega) (by decide), nm_t, z1, nI_add]
    refine thinks_l k (i + 1) n _ (by omega) (by omega) (fun j hj => (sto_n hj).trans (h1 j hj)) (fun j hj => ?_)
    by_cases q : j = i
    · rw [q, sto_ss, h1 1 (by decide)]
    · rw [sto_sn q]; exact h2 j (by omega)
theorem back_l {N : Mem} : ∀ (k i n : Nat) (s : Mem), i + k = 88 → k < n → (∀ j, j ≠ 1 → s j = N j) → (∀ j, j < i → s 1 j = N 8 j) → (∀ j, 88 ≤ j → s 1 j = N 1 j) → ∃ N2, f_X10_putsBack_l2 n (nI i) s = some N2 ∧ (∀ j, j ≠ 1 → N2 j = N j) ∧ (∀ j, j < 88 → N2 1 j = N 8 j) ∧ ∀ j, 88 ≤ j → N2 1 j = N 1 j
  | 0, i, n + 1, s, hi, _, h1, h2, h3 => by
    unfold f_X10_putsBack_l2
    rw [show i = 88 by omega, if_pos (by decide)]
    exact ⟨s, rfl, h1, fun j hj => h2 j (by omega), h3⟩
  | k + 1, i, n + 1, s, hi, hk, h1, h2, h3 => by
    unfold f_X10_putsBack_l2
    rw [if_neg (show ¬ (88 : Int32) ≤ nI i from fu_nle (a := 88) (by decide) (by omega) (by omega)), rdn (by omega) (by decide), wrn (by omega) (by decide), nm_t, z1, nI_add]
    refine back_l k (i + 1) n _ (by omega) (by omega) (fun j hj => (sto_n hj).trans (h1 j hj)) (fun j hj => ?_) (fun j hj => (sto_sn (by omega)).trans (h3 j hj))
    by_cases q : j = i
    · rw [q, sto_ss, h1 8 (by decide)]
    · rw [sto_sn q]; exact h2 j (by omega)
def Rdy (N N1 : Mem) : Prop := N1 1 = N 1 ∧ (∀ j, j < 88 → N1 8 j = N 1 j) ∧ KeepN N N1
def Th (nl : Nat) (C N C1 N1 : Mem) : Prop := Out 2 C C1 ∧ LOK nl C1 2 ∧ HRel nl C1 2 (N1 1) ∧ (∀ j, j < 88 → N1 8 j = N 1 j) ∧ (∀ j, 88 ≤ j → N1 1 j = N 1 j) ∧ KeepN N N1
theorem thinks_e (N : Mem) : ∃ N2, f_X10_thinks N = some N2 ∧ Rdy N N2 := by
  obtain ⟨N2, h1, h2, h3⟩ := thinks_l (N := N) 88 0 FU N (by omega) (FU_gt (by omega)) (fun _ _ => rfl) (fun j hj => absurd hj (by omega))
  exact ⟨N2, h1, h2 1 (by decide), h3, fun k hk => h2 k (by omega)⟩
theorem th_back {nl : Nat} {C N C1 N1 : Mem} (t : Th nl C N C1 N1) : ∃ N2, f_X10_putsBack N1 = some N2 ∧ Rdy N N2 := by
  obtain ⟨t1, t2, t3, t4, t5, t6⟩ := t
  obtain ⟨N2, h1, h2, h3, h4⟩ := back_l (N := N1) 88 0 FU N1 (by omega) (FU_gt (by omega)) (fun _ _ => rfl) (fun j hj => absurd hj (by omega)) (fun _ _ => rfl)
  refine ⟨N2, h1, ?_, fun j hj => by rw [h2 8 (by decide)]; exact t4 j hj, fun k hk => (h2 k (by omega)).trans (t6 k hk)⟩
  funext j
  by_cases q : j < 88
  · rw [h3 j q]; exact t4 j q
  · rw [h4 j (by omega)]; exact t5 j (by omega)
theorem out2 {C C1 : Mem} (o : Out 2 C C1) {k : Nat} (h : k < 35 ∨ 52 ≤ k) : C1 k = C k := o k (by unfold HB; omega)
theorem rdy_rel {nl : Nat} {C N C1 N1 : Mem} (h : Rel nl C N) (o : Out 2 C C1) (l : LOK nl C1 2) (r : Rdy N N1) : Rel nl C1 N1 := by
  obtain ⟨g1, g2, g3, g4, g5⟩ := h
  obtain ⟨r1, r2, r3⟩ := r
  refine ⟨by rw [r1]; exact g1.out (fun j hj => out2 o (by unfold HB; omega)) (fun k hk => out2 o (by omega)), by rw [r1]; exact g2, fun i hi => by rw [out2 o (by unfold HB; omega)]; exact g3 i hi, l, g5.mono (fun k hk => out2 o (by omega)) r3⟩
theorem th_take {nl : Nat} {C N C1 N1 : Mem} (h : Rel nl C N) (o : Out 2 C C1) (r : Rdy N N1) : ∃ C2, f_X1_takeFrom nl 2 0 C1 = some C2 ∧ Th nl C N C2 N1 := by
  obtain ⟨r1, r2, r3⟩ := r
  obtain ⟨C2, c1, c2, c3, c4⟩ := takeFrom_c (b := 2) (b1 := 0) (by decide) (by decide) (by decide) (h.1.out (C2 := C1) (fun j hj => out2 o (by unfold HB; omega)) (fun k hk => out2 o (by omega))) (fun i hi => by rw [out2 o (by unfold HB; omega)]; exact h.2.2.1 i hi)
  exact ⟨C2, c1, o.tr c3, c4, by rw [r1]; exact c2, r2, fun j hj => by rw [r1], r3⟩
theorem th_min {nl : Nat} {C N C1 N1 : Mem} (hnl : nl < 100000) (t : Th nl C N C1 N1) : ∃ C2 N2, f_X1_passMinute nl 2 C1 = some C2 ∧ f_X10_minute N1 = some (outR (N1 1), N2) ∧ N2 1 = minR (N1 1) ∧ Th nl C N C2 N2 := by
  obtain ⟨t1, t2, t3, t4, t5, t6⟩ := t
  obtain ⟨C2, c1, c2, c3⟩ := passMinute_c (b := 2) (by decide) hnl t3
  obtain ⟨N2, n1, n2, n3⟩ := minute_e t3.2.2.1
  refine ⟨C2, N2, c1, n1, n2, t1.tr (fun k hk => c3 k (by omega)), fun i hi => by rw [c3 _ (by omega)]; exact t2 i hi, by rw [n2]; exact c2, fun j hj => by rw [n3 8 (by decide) (by decide) (by decide) (by decide) (by decide) (by decide) (by decide)]; exact t4 j hj, fun j hj => ?_, fun k hk => (n3 k (by omega) (by omega) (by omega) (by omega) (by omega) (by omega) (by omega)).trans (t6 k hk)⟩
  rw [n2, (min_row t3.2.2).2.1 j (by omega)]; exact t5 j hj
/-- T minutes in thought -/
theorem th_goes {nl T L : Nat} {C N : Mem} (hnl : nl < 100000) (hT : T ≤ 1000) (hL : L ≤ 8) : ∀ (k i n1 n2 : Nat) (C1 N1 : Mem), i + k = T → k < n1 → k < n2 → Th nl C N C1 N1 → lc (N1 1) 8 ≤ L → ∃ C2 N2, f_X8_behindMinutes_l10 nl 0 n1 (nI T) (nI i) C1 = some C2 ∧ f_X10_goesOn_l4 n2 (nI T) (nI (L - lc (N1 1) 8)) (nI i) N1 = some (nI (L - lc (N2 1) 8), N2) ∧ Th nl C N C2 N2 ∧ lc (N2 1) 8 ≤ L
  | 0, i, n1 + 1, n2 + 1, C1, N1, hi, _, _, h, hl => by
    unfold f_X8_behindMinutes_l10 f_X10_goesOn_l4
    rw [Nat.add_zero] at hi
    rw [hi, if_pos (fu_le (by omega) (by omega) (Nat.le_refl _)), if_pos (fu_le (by omega) (by omega) (Nat.le_refl _))]
    exact ⟨C1, N1, rfl, rfl, h, hl⟩
  | k + 1, i, n1 + 1, n2 + 1, C1, N1, hi, h1, h2, h, hl => by
    unfold f_X8_behindMinutes_l10 f_X10_goesOn_l4
    obtain ⟨C2, N2, c1, d1, u1, r1⟩ := th_min hnl h
    obtain ⟨c, o1, o2⟩ := out_lc h.2.2.1.2.2.1
    rw [if_neg (fu_nle (by omega) (by omega) (by omega)), if_neg (fu_nle (by omega) (by omega) (by omega)), c1, d1, bd_s, bd2_s, nm_t, nm_t, nm_t, z1, nI_add, o1, nI_add, show L - lc (N1 1) 8 + c = L - lc (N2 1) 8 by rw [u1]; omega]
    exact th_goes hnl hT hL k (i + 1) n1 n2 C2 N2 (by omega) (by omega) (by omega) r1 (by rw [u1]; omega)
