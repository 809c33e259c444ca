/-! smells -/
def ThS (nl : Nat) (C N C1 N1 : Mem) : Prop := ThA nl C N C1 N1 ∧ ∀ r, r < 8 → C1 (HB 2 + 13) r = N1 1 (8 + 4 * r)
theorem hs_min {nl : Nat} {C : Mem} {b : Nat} {R : Nat → Int32} (hb : b < 3) (h : HA nl C b R) (hsc : ∀ r, r < 8 → C (HB b + 13) r = R (8 + 4 * r)) : ∃ C1 C2 C3, f_X1_measureFlows b C = some C1 ∧ f_X1_carryScent b C1 = some C2 ∧ f_X1_moveAir b C2 = some C3 ∧ HA nl C3 b (minR R) ∧ (∀ r, r < 8 → C3 (HB b + 13) r = minR R (8 + 4 * r)) ∧ ∀ k, k ≠ HB b → k ≠ HB b + 11 → k ≠ HB b + 13 → k ≠ HB b + 14 → k ≠ HB b + 15 → k ≠ HB b + 16 → C3 k = C k := by
  have hB := HB_lt hb
  obtain ⟨hS, hR, hair, hfi⟩ := h
  obtain ⟨m1, m2, m3, m4, m5, m6⟩ := min_row hR
  obtain ⟨C1, a1, a2⟩ := measureFlows_c hb hS hair hR
  have a3 := a2.1
  have hS1 : HS nl C1 b R := hS.mono (fun j _ _ => a3 _ (by omega) (by omega)) (fun k hk => a3 k (by omega) (by omega)) Core.rf
  obtain ⟨C2, b1, b2, b3⟩ := carryScent_c hb hS1 hR.1 a2.2.1 (fun r hr => by rw [a3 _ (by omega) (by omega), hair r (by omega), airR_lt hr]) (fun r hr => by rw [a3 _ (by omega) (by omega)]; exact hsc r hr)
  have e3 : ∀ k, k ≠ HB b + 13 → k ≠ HB b + 14 → k ≠ HB b + 15 → k ≠ HB b + 16 → C2 k = C k := fun k g1 g2 g3 g4 => by rw [b2 k g1 g4, a3 k g2 g3]
  have hw : CoreW R (upd R 4 (C (HB b) 6)) := updw (by omega)
  obtain ⟨C3, f1, f2, f3, f4, f5, f6⟩ := moveAir_c (C := C2) (R := upd R 4 (C (HB b) 6)) (F := flowR R) hb (hw.str hR.1) (by rw [e3 _ (by omega) (by omega) (by omega) (by omega), pk_un (by decide)]; exact hS.1)
    (fun d hd => by rw [pk_un (by decide)] at hd; rw [e3 _ (by omega) (by omega) (by omega) (by omega), e3 _ (by omega) (by omega) (by omega) (by omega), pk_un (by omega), pk_un (by omega)]; exact ⟨(hS.2.2.1 d hd).2.1, (hS.2.2.1 d hd).2.2.1⟩)
    (fun d hd => by rw [pk_un (by decide)] at hd; rw [b2 _ (by omega) (by omega)]; exact a2.2.1 d hd)
    (fun r hr => by rw [e3 _ (by omega) (by omega) (by omega) (by omega), pk_un (by omega), hair r (by omega), airR_lt hr])
    (fun r hr => by rw [e3 _ (by omega) (by omega) (by omega) (by omega), pk_un (by omega)]; exact hfi r hr)
    (by rw [e3 _ (by omega) (by omega) (by omega) (by omega), pk_us])
  have fr : ∀ k, k ≠ HB b → k ≠ HB b + 11 → k ≠ HB b + 13 → k ≠ HB b + 14 → k ≠ HB b + 15 → k ≠ HB b + 16 → C3 k = C k := fun k k1 k2 k3 k4 k5 k6 => (f2 k k2 k1).trans (e3 k k3 k4 k5 k6)
  have o1 := car_only hR.1
  have c1 := scent_core o1
  refine ⟨C1, C2, C3, a1, b1, f1, ⟨?_, m1, fun r hr => ?_, fun r hr => ?_⟩, fun r hr => ?_, fr⟩
  · exact hS.monoW (fun j _ _ => fr _ (by omega) (by omega) (by omega) (by omega) (by omega) (by omega)) (fun k hk => fr k (by omega) (by omega) (by omega) (by omega) (by omega) (by omega)) m2
  · by_cases q : r = 8
    · rw [q, f4, e3 _ (by omega) (by omega) (by omega) (by omega), hair 8 (by decide)]
      unfold airR
      rw [if_pos rfl, if_pos rfl, m5]
    · have hr8 : r < 8 := by omega
      have ag : AgA (carR R) (upd R 4 (C (HB b) 6)) := by
        refine ⟨fun j hj => ?_, fun i hi => ⟨?_, ?_⟩⟩
        · rw [pk_un (by omega), o1 j (by rintro ⟨r, g1, g2⟩; omega)]
        · rw [pk_un (by omega), o1 _ (by rintro ⟨r, g1, g2⟩; omega)]
        · rw [pk_un (by omega), o1 _ (by rintro ⟨r, g1, g2⟩; omega)]
      rw [f3 r hr8, airR_lt hr8, ((blow_ag (c1.str hR.1) ag).2 r hr8).1, minR_at R (by omega), snR_only R _ (by rintro ⟨r, g1, g2⟩; omega)]
  · rw [fr _ (by omega) (by omega) (by omega) (by omega) (by omega) (by omega), m6 r hr]; exact hfi r hr
  · rw [f2 _ (by omega) (by omega), b3 r hr, minR_at R (by omega), snR_only R _ (by rintro ⟨r, g1, g2⟩; omega), blow_only (c1.str hR.1) _ (by rintro (q | ⟨r, g1, g2⟩) <;> omega)]
theorem smell_l {nl T : Nat} {C N : Mem} (hT : T ≤ 1000) : ∀ (k i n1 n2 : Nat) (acc : Int32) (C1 N1 : Mem), i + k = T → k < n1 → k < n2 → ThS nl C N C1 N1 → ∃ v C2 N2, f_X8_roomsThatSmell_l34 nl 0 n1 (nI T) (nI i) C1 = f_X8_roomsThatSmell_l73 nl 0 FU 0 0 C2 ∧ f_X10_goesOn_l4 n2 (nI T) acc (nI i) N1 = some (v, N2) ∧ ThS nl C N C2 N2
  | 0, i, n1 + 1, n2 + 1, acc, C1, N1, hi, _, _, t => by
    unfold f_X8_roomsThatSmell_l34 f_X10_goesOn_l4
    rw [Nat.add_zero] at hi
    rw [hi, if_pos (fu_le (by omega) (by omega) (Nat.le_refl _)), if_pos (fu_le (by omega) (by omega) (Nat.le_refl _))]
    exact ⟨acc, C1, N1, rfl, rfl, t⟩
  | k + 1, i, n1 + 1, n2 + 1, acc, C1, N1, hi, l1, l2, t => by
    unfold f_X8_roomsThatSmell_l34 f_X10_goesOn_l4
    obtain ⟨⟨t1, t2, t3, t4⟩, t5⟩ := t
    obtain ⟨C2, C3, C4, a1, a2, a3, a4, a5, a6⟩ := hs_min (b := 2) (by decide) t3 t5
    obtain ⟨N2, m1, m2, m3⟩ := nt_min t4 t3.2.1
    rw [if_neg (fu_nle (by omega) (by omega) (by omega)), if_neg (fu_nle (by omega) (by omega) (by omega)), a1, bd_s, a2, bd_s, a3, bd_s, m1, bd2_s, nm_t, nm_t, nm_t, z1, nI_add]
    exact smell_l hT k (i + 1) n1 n2 _ C4 N2 (by omega) (by omega) (by omega) ⟨⟨t1.tr (fun k hk => a6 k (by omega) (by omega) (by omega) (by omega) (by omega) (by omega)), fun i hi => by rw [a6 _ (by omega) (by omega) (by omega) (by omega) (by omega) (by omega)]; exact t2 i hi, by rw [m2]; exact a4, m3⟩, fun r hr => by rw [m2]; exact a5 r hr⟩
theorem smell_e {nl : Nat} {C N C1 N1 : Mem} (h : Rel nl C N) (t : ThS nl C N C1 N1) : ∀ (k i n1 n2 : Nat) (acc : Int32), i + k = 8 → k < n1 → k < n2 → Sim nl (f_X8_roomsThatSmell_l73 nl 0 n1 acc (nI i) C1) (f_X10_smells_l75 n2 acc (nI i) N1)
  | 0, i, n1 + 1, n2 + 1, acc, hi, _, _ => by
    unfold f_X8_roomsThatSmell_l73 f_X10_smells_l75
    obtain ⟨N2, b1, b2⟩ := nt_back t.1.2.2.2
    rw [show i = 8 by omega, if_pos (by decide), if_pos (by decide), b1, bd_s]
    exact ⟨_, _, _, rfl, rfl, rdy_rel h t.1.1 t.1.2.1 b2⟩
  | k + 1, i, n1 + 1, n2 + 1, acc, hi, l1, l2 => by
    unfold f_X8_roomsThatSmell_l73 f_X10_smells_l75
    rw [if_neg (le8 (by omega)), if_neg (le8 (by omega)), rdn (by omega) (by decide), at2 (by omega), bd_s, t.2 i (by omega)]
    by_cases q : N1 1 (8 + 4 * i) ≤ 0
    · rw [if_pos q, if_pos q]
      unfold f_X8_roomsThatSmell_j102 f_X10_smells_j102
      rw [nm_t, nm_t, nm_t, z1, nI_add, Int32.or_zero]
      exact smell_e h t k (i + 1) n1 n2 acc (by omega) (by omega) (by omega)
    · rw [if_neg q, if_neg q]
      unfold f_X8_roomsThatSmell_j102 f_X10_smells_j102
      rw [nm_t, nm_t, nm_t, nm_t, z1, nI_add]
      exact smell_e h t k (i + 1) n1 n2 _ (by omega) (by omega) (by omega)
theorem smell_i {N : Mem} {q T : Nat} (hq : q < 8) : ∀ (k i n : Nat) (s : Mem), i + k = 8 → k < n → (∀ j, j ≠ 1 → s j = N j) → (∀ j, ¬ isScent j → s 1 j = N 1 j) → (∀ r, r < i → s 1 (8 + 4 * r) = if r = q then 9999 else 0) → ∃ N2, f_X10_smells_l26 n (nI q) (nI T) (nI i) s = (bd2 (f_X10_goesOn N2 (nI T)) fun r8 M9 => f_X10_smells_l75 FU 0 0 M9) ∧ (∀ j, j ≠ 1 → N2 j = N j) ∧ (∀ j, ¬ isScent j → N2 1 j = N 1 j) ∧ ∀ r, r < 8 → N2 1 (8 + 4 * r) = if r = q then 9999 else 0
  | 0, i, n + 1, s, hi, _, h1, h2, h3 => by
    unfold f_X10_smells_l26
    rw [show i = 8 by omega, if_pos (by decide)]
    exact ⟨s, rfl, h1, h2, fun r hr => h3 r (by omega)⟩
  | k + 1, i, n + 1, s, hi, hk, h1, h2, h3 => by
    have key : ∀ v : Int32, (v = if i = q then 9999 else 0) → ∃ N2, f_X10_smells_j56 (f_X10_smells_l26 n) (nI q) (nI T) (nI i) v ((6 : Int32) + 4 * nI i + 2) s = (bd2 (f_X10_goesOn N2 (nI T)) fun r8 M9 => f_X10_smells_l75 FU 0 0 M9) ∧ (∀ j, j ≠ 1 → N2 j = N j) ∧ (∀ j, ¬ isScent j → N2 1 j = N 1 j) ∧ ∀ r, r < 8 → N2 1 (8 + 4 * r) = if r = q then 9999 else 0 := by
      intro v hv
      unfold f_X10_smells_j56
      rw [wrl (8 + 4 * i) (by rw [z2, idx4, show 6 + 4 * i + 2 = 8 + 4 * i by omega]) (by omega) (by decide), nm_t, z1, nI_add]
      refine smell_i hq k (i + 1) n _ (by omega) (by omega) (fun j hj => (sto_n hj).trans (h1 j hj)) (fun j hj => (sto_sn (fun e => hj ⟨i, by omega, e⟩)).trans (h2 j hj)) (fun r hr => ?_)
      by_cases w : r = i
      · rw [w, sto_ss]; exact hv
      · rw [sto_sn (by omega)]; exact h3 r (by omega)
    unfold f_X10_smells_l26
    rw [if_neg (le8 (by omega))]
    by_cases w : i = q
    · rw [if_pos (show nI i = nI q by rw [w])]
      exact key 9999 (by rw [if_pos w])
    · rw [if_neg (by rw [eq_nI (by omega) (by omega)]; exact w)]
      exact key 0 (by rw [if_neg w])
theorem smells_s {nl : Nat} {C N : Mem} (h : Rel nl C N) (a1 a2 : Int32) : Sim nl (f_X9_smells nl C a1 a2) (f_X10_smells N a1 a2) := by
  unfold f_X9_smells f_X10_smells
  rw [isRoom9_e, isRoom10_e, bd_s, bd_s]
  by_cases hc : 0 ≤ a1 ∧ a1 ≤ 7
  · obtain ⟨q, hq, eq⟩ := room_n hc
    rw [if1 hc, if1 hc, f_within9, f_in, bd_s, bd_s]
    by_cases hc2 : 0 ≤ a2 ∧ a2 ≤ 60
    · obtain ⟨T, hT, eT⟩ := rng_n (n := 60) (by decide) hc2
      obtain ⟨N1, n1, n2⟩ := thinks_e N
      obtain ⟨C1, c1, t1⟩ := th_take h Out.rf n2
      obtain ⟨N2, i1, i2, i3, i4⟩ := smell_i (N := N1) (T := T) hq 8 0 FU N1 (by omega) (FU_gt (by omega)) (fun _ _ => rfl) (fun _ _ => rfl) (fun r hr => absurd hr (by omega))
      obtain ⟨C2, k1, k2, k3, -⟩ := fill_e (k := HB 2 + 13) (n := 8) (M := C1) (v := 0) (by decide)
      have hw : Core (N1 1) (N2 1) := scent_core i3
      obtain ⟨s1, s2, s3, s4⟩ := t1.a
      have fr : ∀ k, k ≠ HB 2 + 13 → sto C2 (HB 2 + 13) q 9999 k = C1 k := fun k hk => (sto_n hk).trans (k2 k hk)
      have tS : ThS nl C N (sto C2 (HB 2 + 13) q 9999) N2 := by
        refine ⟨⟨s1.tr (fun k hk => fr k (by omega)), fun i hi => by rw [fr _ (by omega)]; exact s2 i hi, ⟨s3.1.mono (fun j _ _ => fr _ (by omega)) (fun k hk => fr k (by unfold HB; omega)) hw, s3.2.1.w hw.w (by rw [hw 3 (by omega)]; exact s3.2.1.2.1) (fun r hr => by rw [i3 _ (by rintro ⟨r, g1, g2⟩; omega), i3 _ (by rintro ⟨r, g1, g2⟩; omega)]; exact s3.2.1.2.2.2 r hr), fun r hr => ?_, fun r hr => ?_⟩, ?_⟩, fun r hr => ?_⟩
        · rw [fr _ (by omega), s3.2.2.1 r hr]
          unfold airR
          rw [hw 3 (by omega), i3 (6 + 4 * r) (by rintro ⟨r, g1, g2⟩; omega)]
        · rw [fr _ (by omega), i3 _ (by rintro ⟨r, g1, g2⟩; omega)]; exact s3.2.2.2 r hr
        · exact ⟨fun j hj => by rw [i2 8 (by decide)]; exact s4.1 j hj, fun j hj => by rw [i3 _ (by rintro ⟨r, g1, g2⟩; omega)]; exact s4.2.1 j hj, fun k hk => (i2 k (by omega)).trans (s4.2.2 k hk)⟩
        · rw [i4 r hr]
          by_cases w : r = q
          · rw [w, sto_ss, if_pos rfl]
          · rw [sto_sn w, k3 r hr, if_neg w]
      obtain ⟨v, C3, N3, g1, g2, g3⟩ := smell_l (T := T) (by omega) T 0 FU FU 0 _ _ (by omega) (FU_gt (by omega)) (FU_gt (by omega)) tS
      obtain ⟨r, C4, N4, u1, u2, u3⟩ := smell_e h g3 8 0 FU FU 0 (by omega) (FU_gt (by omega)) (FU_gt (by omega))
      refine ⟨r, C4, N4, ?_, ?_, u3⟩
      · unfold f_X8_roomsThatSmell
        rw [if1 hc2, eq, eT, c1, bd_s, k1, bd_s, wrn (by omega) (by decide), show f_X8_roomsThatSmell_l34 nl 0 FU (nI T) 0 (sto C2 (HB 2 + 13) q 9999) = _ from g1, show f_X8_roomsThatSmell_l73 nl 0 FU 0 0 C3 = some (r, C4) from u1, bd2_s]
      · have g2 : f_X10_goesOn N2 (nI T) = some (v, N3) := g2
        rw [if1 hc2, n1, bd_s, eq, eT, show f_X10_smells_l26 FU (nI q) (nI T) 0 N1 = _ from i1, g2, bd2_s]
        exact u2
    · rw [if0 hc2, if0 hc2]
      exact sim_bad h _
  · rw [if0 hc, if0 hc]
    exact sim_bad h _
