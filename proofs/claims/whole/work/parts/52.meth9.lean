/-! storm -/
theorem bits_eq {x y : Int32} {f g : Nat → Int32} (h1 : BitsOf x 8 f) (h2 : BitsOf y 8 g) : x = y ↔ ∀ i, i < 8 → f i = g i := by
  constructor
  · intro e i hi
    rw [← h1.bit (by decide) hi, ← h2.bit (by decide) hi, e]
  · intro e
    rw [← h1.orL (by decide), ← h2.orL (by decide), orL_cong 8 e]
/-- candles only go out -/
def LitS (R2 R : Nat → Int32) : Prop := ∀ r, r < 8 → R2 (9 + 4 * r) = R (9 + 4 * r) ∨ R2 (9 + 4 * r) = 0
theorem LitS.tr {R1 R2 R3 : Nat → Int32} (h : LitS R2 R1) (h2 : LitS R3 R2) : LitS R3 R1 := fun r hr => by
  rcases h2 r hr with e | e
  · rw [e]; exact h r hr
  · exact Or.inr e
theorem min_ls {R : Nat → Int32} (hR : StrOK R) : LitS (minR R) R := by
  have h0 : ∀ i, i < 8 → blowR (flowR R) (carR R) (9 + 4 * i) = R (9 + 4 * i) := fun i hi => by
    rw [blow_only ((scent_core (car_only hR)).str hR) _ (by rintro (h1 | ⟨r, h1, h2⟩) <;> omega), car_only hR _ (by rintro ⟨r, h1, h2⟩; omega)]
  have h1 : ∀ E, E ≤ 8 → LitS (itr (stepSn (drR R (ix (R 1)))) 0 E (blowR (flowR R) (carR R), 0)).1 R := fun E hE =>
    itr_P (f := stepSn (drR R (ix (R 1)))) (fun s => LitS s.1 R) 8 (fun d s hd hs => by
      unfold stepSn
      split
      · split
        · exact hs
        · intro r hr
          by_cases q : r = d
          · right; rw [q]; exact pk_us
          · rcases hs r hr with e | e
            · left; exact (pk_un (by omega)).trans e
            · right; exact (pk_un (by omega)).trans e
      · exact hs) E 0 _ (by omega) (fun r hr => Or.inl (h0 r hr))
  have h2 : LitS (snR R).1 R := h1 8 (Nat.le_refl _)
  intro r hr
  rw [minR_at R (by omega)]
  exact h2 r hr
theorem lc_ls {R2 R : Nat → Int32} (h : LitS R2 R) (h01 : ∀ r, r < 8 → R (9 + 4 * r) = 0 ∨ R (9 + 4 * r) = 1) : ∀ n, n ≤ 8 → lc R2 n ≤ lc R n ∧ (lc R2 n = lc R n → ∀ r, r < n → R2 (9 + 4 * r) = R (9 + 4 * r))
  | 0, _ => ⟨Nat.le_refl _, fun _ r hr => absurd hr (by omega)⟩
  | n + 1, hn => by
    obtain ⟨i1, i2⟩ := lc_ls h h01 n (by omega)
    have key : (if R2 (9 + 4 * n) = 1 then 1 else 0) ≤ (if R (9 + 4 * n) = 1 then 1 else 0) ∧ ((if R2 (9 + 4 * n) = 1 then 1 else 0) = (if R (9 + 4 * n) = 1 then 1 else 0) → R2 (9 + 4 * n) = R (9 + 4 * n)) := by
      rcases h n (by omega) with e | e
      · rw [e]; exact ⟨Nat.le_refl _, fun _ => rfl⟩
      · rw [e, if_neg (by decide)]
        refine ⟨Nat.zero_le _, fun q => ?_⟩
        rcases h01 n (by omega) with w | w
        · exact w.symm
        · rw [w, if_pos rfl] at q; exact absurd q (by decide)
    unfold lc
    refine ⟨by omega, fun q r hr => ?_⟩
    by_cases w : r = n
    · rw [w]; exact key.2 (by omega)
    · exact i2 (by omega) r (by omega)
theorem nt_goes {N : Mem} {T L : Nat} (hT : T ≤ 1000) (hL : L ≤ 8) : ∀ (k i n2 : Nat) (N1 : Mem), i + k = T → k < n2 → NT N N1 → RowOK (N1 1) → lc (N1 1) 8 ≤ L → ∃ N2, f_X10_goesOn_l4 n2 (nI T) (nI (L - lc (N1 1) 8)) (nI i) N1 = some (nI (L - lc (N2 1) 8), N2) ∧ NT N N2 ∧ lc (N2 1) 8 ≤ lc (N1 1) 8
  | 0, i, n2 + 1, N1, hi, _, h, hR, hl => by
    unfold f_X10_goesOn_l4
    rw [Nat.add_zero] at hi
    rw [hi, if_pos (fu_le (by omega) (by omega) (Nat.le_refl _))]
    exact ⟨N1, rfl, h, Nat.le_refl _⟩
  | k + 1, i, n2 + 1, N1, hi, h2, h, hR, hl => by
    unfold f_X10_goesOn_l4
    obtain ⟨N2, d1, u1, r1⟩ := nt_min h hR
    obtain ⟨c, o1, o2⟩ := out_lc hR.1
    rw [if_neg (fu_nle (by omega) (by omega) (by omega)), d1, bd2_s, nm_t, nm_t, z1, nI_add, o1, nI_add, show L - lc (N1 1) 8 + c = L - lc (N2 1) 8 by rw [u1]; omega]
    obtain ⟨N3, g1, g2, g3⟩ := nt_goes hT hL k (i + 1) n2 N2 (by omega) (by omega) r1 (by rw [u1]; exact (min_row hR).1) (by rw [u1]; omega)
    exact ⟨N3, g1, g2, by rw [u1] at g3; omega⟩
theorem lit01 {nl : Nat} {C : Mem} {b : Nat} {R : Nat → Int32} (h : HRel nl C b R) : ∀ r, r < 8 → R (9 + 4 * r) = 0 ∨ R (9 + 4 * r) = 1 := fun _ hr => bits01 h.2.1.2.2.2.2.2 hr
theorem stay_l {nl T : Nat} {C N : Mem} (hnl : nl < 100000) (hT : T ≤ 1000) (h : Rel nl C N) : ∀ (k i n1 n2 : Nat) (C1 N1 : Mem), i + k = T → k < n1 → k < n2 → Th nl C N C1 N1 → LitS (N1 1) (N 1) →
    ∃ r C2 N2, f_X8_allStayLit_l22 nl 0 n1 (nI T) (nI i) C1 = some (r, C2) ∧ f_X10_goesOn_l4 n2 (nI T) (nI (lc (N 1) 8 - lc (N1 1) 8)) (nI i) N1 = some (nI (lc (N 1) 8 - lc (N2 1) 8), N2) ∧ Out 2 C C2 ∧ LOK nl C2 2 ∧ NT N N2 ∧ ((r = 1 ∧ lc (N2 1) 8 = lc (N 1) 8) ∨ (r = 0 ∧ lc (N2 1) 8 < lc (N 1) 8))
  | 0, i, n1 + 1, n2 + 1, C1, N1, hi, _, _, t, ls => by
    rw [Nat.add_zero] at hi
    obtain ⟨g1, g2⟩ := lc_ls ls (lit01 h.1) 8 (Nat.le_refl _)
    have be := bits_eq t.2.2.1.2.1.2.2.2.2.2 h.1.2.1.2.2.2.2.2
    have e0 : C1 (HB 0) = C (HB 0) := out2 t.1 (by unfold HB; omega)
    unfold f_X8_allStayLit_l22 f_X10_goesOn_l4
    rw [hi, if_pos (fu_le (by omega) (by omega) (Nat.le_refl _)), if_pos (fu_le (by omega) (by omega) (Nat.le_refl _)), e0]
    by_cases q : C1 (HB 2) 5 = C (HB 0) 5
    · rw [if_pos q]
      exact ⟨1, C1, N1, rfl, rfl, t.1, t.2.1, t.2.2.2, Or.inl ⟨rfl, lc_cong 8 (fun i hi => be.mp q i hi)⟩⟩
    · rw [if_neg q]
      refine ⟨0, C1, N1, rfl, rfl, t.1, t.2.1, t.2.2.2, Or.inr ⟨rfl, ?_⟩⟩
      rcases Nat.lt_or_ge (lc (N1 1) 8) (lc (N 1) 8) with w | w
      · exact w
      · exact absurd (be.mpr (fun i hi => g2 (by omega) i hi)) q
  | k + 1, i, n1 + 1, n2 + 1, C1, N1, hi, l1, l2, t, ls => by
    obtain ⟨g1, g2⟩ := lc_ls ls (lit01 h.1) 8 (Nat.le_refl _)
    have be := bits_eq t.2.2.1.2.1.2.2.2.2.2 h.1.2.1.2.2.2.2.2
    have e0 : C1 (HB 0) = C (HB 0) := out2 t.1 (by unfold HB; omega)
    have hL := lc_le (N 1) 8
    by_cases q : C1 (HB 2) 5 = C (HB 0) 5
    · unfold f_X8_allStayLit_l22 f_X10_goesOn_l4
      obtain ⟨C2, N2, c1, d1, u1, r1⟩ := th_min hnl t
      obtain ⟨c, o1, o2⟩ := out_lc t.2.2.1.2.2.1
      rw [if_neg (fu_nle (by omega) (by omega) (by omega)), if_neg (fu_nle (by omega) (by omega) (by omega)), e0, if_pos q, c1, d1, bd_s, bd2_s, nm_t, nm_t, nm_t, z1, nI_add, o1, nI_add, show lc (N 1) 8 - lc (N1 1) 8 + c = lc (N 1) 8 - lc (N2 1) 8 by rw [u1]; omega]
      exact stay_l hnl hT h k (i + 1) n1 n2 C2 N2 (by omega) (by omega) (by omega) r1 (by rw [u1]; exact ls.tr (min_ls t.2.2.1.2.2.1))
    · obtain ⟨N2, m1, m2, m3⟩ := nt_goes (N := N) hT hL (k + 1) i (n2 + 1) N1 hi l2 t.2.2.2 t.2.2.1.2.2 g1
      have lt : lc (N1 1) 8 < lc (N 1) 8 := by
        rcases Nat.lt_or_ge (lc (N1 1) 8) (lc (N 1) 8) with w | w
        · exact w
        · exact absurd (be.mpr (fun i hi => g2 (by omega) i hi)) q
      unfold f_X8_allStayLit_l22
      rw [if_neg (fu_nle (by omega) (by omega) (by omega)), e0, if_neg q, if_neg q]
      exact ⟨0, C1, N2, rfl, m1, t.1, t.2.1, m2, Or.inr ⟨rfl, by omega⟩⟩
theorem th_wind {nl : Nat} {C N C1 N1 : Mem} (t : Th nl C N C1 N1) {v : Int32} (hv : Bd v 0 9999) : Th nl C N (sto C1 (HB 2 + 11) 8 v) (sto N1 1 3 v) := by
  obtain ⟨t1, t2, t3, t4, t5, t6⟩ := t
  obtain ⟨d1, d2, d3, d4, d5, d6⟩ := t3.2.1
  refine ⟨t1.tr (fun k hk => sto_n (by omega)), fun i hi => by rw [sto_n (by omega)]; exact t2 i hi, ?_, fun j hj => by rw [sto_n (by decide)]; exact t4 j hj, fun j hj => by rw [sto_sn (by omega)]; exact t5 j hj, fun k hk => (sto_n (by omega)).trans (t6 k hk)⟩
  rw [sto_s]
  refine hrel_dy t3 (fun j h1 h2 => sto_n (by omega)) (fun k hk => sto_n (by unfold HB; omega)) (updw (by decide)) ⟨?_, ?_, ?_, sto_ss.trans pk_us.symm, fun r hr => ?_, ?_⟩ (by rw [pk_us]; exact hv) (fun r hr => by rw [pk_un (by omega), pk_un (by omega)]; exact t3.2.2.2.2.2 r hr)
  · rw [sto_n (by decide), pk_un (by decide)]; exact d1
  · rw [sto_n (by decide), pk_un (by decide)]; exact d2
  · rw [sto_n (by decide), pk_un (by decide)]; exact d3
  · rw [sto_sn (by omega), sto_n (by decide), sto_n (by decide), pk_un (by omega), pk_un (by omega), pk_un (by omega)]; exact d5 r hr
  · rw [sto_n (by decide)]
    exact d6.cong (fun i hi => pk_un (by omega))
theorem w100 : ∀ i : Fin 99, nI (9999 - 100 * i.val) + (-100) = nI (9999 - 100 * (i.val + 1)) := by decide
theorem storm_l {nl T : Nat} {C N : Mem} (hnl : nl < 100000) (hT : T ≤ 1000) (h : Rel nl C N) : ∀ (k i n1 n2 : Nat) (C1 N1 : Mem), i + k = 99 → k + 1 < n1 → k + 1 < n2 → Out 2 C C1 → LOK nl C1 2 → Rdy N N1 → Sim nl (f_X9_storm_l17 nl n1 (nI T) (nI (9999 - 100 * i)) C1) (f_X10_storm_l21 n2 (nI T) (nI (9999 - 100 * i)) N1)
  | k, i, n1 + 1, n2 + 1, C1, N1, hi, l1, l2, o, l, r => by
    have p1 : ¬ nI (9999 - 100 * i) < (0 : Int32) := by rw [z0, lt_nI (by omega) (by decide)]; omega
    have p2 : ¬ nI (9999 - 100 * i) ≤ (0 : Int32) := by rw [z0, le_nI (by omega) (by decide)]; omega
    obtain ⟨C2, c1, t1⟩ := th_take h o r
    have t2 := th_wind (v := nI (9999 - 100 * i)) t1 (Bd_nI (by omega) (by omega) (by omega))
    have ls : LitS (sto N1 1 3 (nI (9999 - 100 * i)) 1) (N 1) := fun r' hr => Or.inl (by rw [sto_sn (by omega), r.1])
    obtain ⟨v, C3, N3, g1, g2, g3, g4, g5, g6⟩ := stay_l hnl hT h T 0 FU FU _ _ (by omega) (FU_gt (by omega)) (FU_gt (by omega)) t2 ls
    have eL : lc (N 1) 8 - lc (sto N1 1 3 (nI (9999 - 100 * i)) 1) 8 = 0 := by
      rw [lc_cong (R := N 1) (R2 := sto N1 1 3 (nI (9999 - 100 * i)) 1) 8 (fun j hj => by rw [sto_sn (by omega), r.1])]; omega
    rw [eL] at g2
    obtain ⟨N4, b1, b2⟩ := nt_back g5
    have hL := lc_le (N 1) 8
    unfold f_X9_storm_l17 f_X10_storm_l21 f_X8_allStayLit f_X10_goesOn
    rw [if_neg p1, if_neg p2, c1, bd_s, wrl 8 (show (8 : Int32) = nI 8 from rfl) (by decide) (by decide), show f_X8_allStayLit_l22 nl 0 FU (nI T) 0 (sto C2 (HB 2 + 11) 8 (nI (9999 - 100 * i))) = some (v, C3) from g1, bd2_s, wrl 3 z3 (by decide) (by decide), show f_X10_goesOn_l4 FU (nI T) 0 0 (sto N1 1 3 (nI (9999 - 100 * i))) = some (nI (lc (N 1) 8 - lc (N3 1) 8), N3) from g2, bd2_s, b1, bd_s]
    rcases g6 with ⟨e1, e2⟩ | ⟨e1, e2⟩
    · rw [e1, if_neg (by decide), if_pos (by rw [e2, Nat.sub_self]; rfl)]
      exact ⟨_, _, _, rfl, rfl, rdy_rel h g3 g4 b2⟩
    · rw [e1, if_pos rfl, if_neg (by rw [z0, eq_nI (by omega) (by decide)]; omega), nm_t, nm_t]
      match k, l1, l2, hi with
      | 0, l1, l2, hi =>
        obtain ⟨n1, rfl⟩ : ∃ m, n1 = m + 1 := ⟨n1 - 1, by omega⟩
        obtain ⟨n2, rfl⟩ : ∃ m, n2 = m + 1 := ⟨n2 - 1, by omega⟩
        unfold f_X9_storm_l17 f_X10_storm_l21
        rw [show i = 99 by omega, if_pos (by decide), if_pos (by decide)]
        exact ⟨_, _, _, rfl, rfl, rdy_rel h g3 g4 b2⟩
      | k + 1, l1, l2, hi =>
        rw [w100 ⟨i, by omega⟩]
        exact storm_l hnl hT h k (i + 1) n1 n2 C3 N4 (by omega) (by omega) (by omega) g3 g4 b2
theorem storm_s {nl : Nat} {C N : Mem} (hnl : nl < 100000) (h : Rel nl C N) (a1 : Int32) : Sim nl (f_X9_storm nl C a1) (f_X10_storm N a1) := by
  unfold f_X9_storm f_X10_storm
  rw [f_within9, f_in, bd_s, bd_s]
  by_cases hc : 1 ≤ a1 ∧ a1 ≤ 20
  · obtain ⟨T, hT, eT⟩ := rng_n (n := 20) (by decide) ⟨i32le.mpr (by have := i32le.mp hc.1; rw [show (1 : Int32).toInt = 1 from rfl] at this; rw [show (0 : Int32).toInt = 0 from rfl]; omega), hc.2⟩
    obtain ⟨N1, n1, n2⟩ := thinks_e N
    rw [if1 hc, if1 hc, n1, bd_s, eT]
    exact storm_l hnl (by omega) h 99 0 FU FU C N1 (by omega) (FU_gt (by omega)) (FU_gt (by omega)) Out.rf h.2.2.2.1 n2
  · rw [if0 hc, if0 hc]
    exact sim_bad h _
