/-! AIR ALONE: still; the class moves only the air, the reference whole minutes -/
def AgA (R S : Nat → Int32) : Prop := (∀ j, (j = 1 ∨ 38 ≤ j) → S j = R j) ∧ ∀ r, r < 8 → S (6 + 4 * r) = R (6 + 4 * r) ∧ S (7 + 4 * r) = R (7 + 4 * r)
theorem itr_two {σ τ : Type} {f : Nat → σ → σ} {g : Nat → τ → τ} (P : σ → τ → Prop) (e : Nat) (hP : ∀ d s t, d < e → P s t → P (f d s) (g d t)) : ∀ (k i : Nat) (s : σ) (t : τ), i + k ≤ e → P s t → P (itr f i k s) (itr g i k t)
  | 0, _, _, _, _, h => h
  | k + 1, i, s, t, hi, h => by
    unfold itr
    exact itr_two P e hP k (i + 1) _ _ (by omega) (hP i s t (by omega) h)
theorem stepBl_7 {F R : Nat → Int32} {d r : Nat} : stepBl F d R (7 + 4 * r) = R (7 + 4 * r) := by
  unfold stepBl
  split
  · rw [pk_un (by omega), pk_un (by omega)]
  · rw [pk_un (by omega), pk_un (by omega)]
theorem AgA.fi {R S : Nat → Int32} (h : AgA R S) (d : Nat) : fiR S d = fiR R d := by unfold fiR; rw [h.1 _ (by omega)]
theorem AgA.se {R S : Nat → Int32} (h : AgA R S) (d : Nat) : seR S d = seR R d := by unfold seR; rw [h.1 _ (by omega)]
theorem stepBl_ag {F R S : Nat → Int32} {d : Nat} (h : AgA R S) (hf : fiR R d ≤ 7) : AgA (stepBl F d R) (stepBl F d S) := by
  refine ⟨fun j hj => ?_, fun r hr => ⟨?_, ?_⟩⟩
  · rw [stepBl_core hf j (by omega), stepBl_core (R := S) (by rw [h.fi]; exact hf) j (by omega)]
    exact h.1 j hj
  · rw [stepBl_at hr, stepBl_at hr, h.fi, h.se, (h.2 r hr).1]
  · rw [stepBl_7, stepBl_7]; exact (h.2 r hr).2
theorem stepFi_ag {R S : Nat → Int32} {d : Nat} (h : AgA R S) (hd : d < 8) : AgA (stepFi d R) (stepFi d S) := by
  unfold stepFi
  rw [(h.2 d hd).1, (h.2 d hd).2]
  refine ⟨fun j hj => ?_, fun r hr => ⟨?_, ?_⟩⟩
  · rw [pk_un (by omega), pk_un (by omega)]; exact h.1 j hj
  · by_cases q : r = d
    · rw [q, pk_us, pk_us]
    · rw [pk_un (by omega), pk_un (by omega)]; exact (h.2 r hr).1
  · rw [pk_un (by omega), pk_un (by omega)]; exact (h.2 r hr).2
theorem blow_ag {F R S : Nat → Int32} (hR : StrOK R) (h : AgA R S) : AgA (blowR F R) (blowR F S) := by
  unfold blowR
  rw [h.1 1 (by omega)]
  have h1 := itr_two (f := stepBl F) (g := stepBl F) (fun s t => AgA s t ∧ Core R s) (ix (R 1)) (fun d s t hd hs => by
    have b1 : fiR s d ≤ 7 := by rw [hs.2.fi]; exact (fi_b hR hd).2.1
    exact ⟨stepBl_ag hs.1 b1, hs.2.tr (stepBl_core b1)⟩) (ix (R 1)) 0 R S (by omega) ⟨h, Core.rf⟩
  exact itr_two (f := stepFi) (g := stepFi) (fun s t => AgA s t) 8 (fun d s t hd hs => stepFi_ag hs hd) 8 0 _ _ (by omega) h1.1
/-- hall b beside the row R, in air and fire -/
def HA (nl : Nat) (C : Mem) (b : Nat) (R : Nat → Int32) : Prop := HS nl C b R ∧ RowOK R ∧ (∀ r, r < 9 → C (HB b + 11) r = airR R r) ∧ ∀ r, r < 8 → C (HB b + 12) r = R (7 + 4 * r)
theorem HRel.ha {nl : Nat} {C : Mem} {b : Nat} {R : Nat → Int32} (h : HRel nl C b R) : HA nl C b R := ⟨h.1, h.2.2, fun _ hr => air_c h.2.1 hr, fun r hr => (h.2.1.2.2.2.2.1 r hr).2.1⟩
theorem ha_min {nl : Nat} {C : Mem} {b : Nat} {R : Nat → Int32} (hb : b < 3) (h : HA nl C b R) : ∃ C1 C2, f_X1_measureFlows b C = some C1 ∧ MFpost C C1 b R ∧ f_X1_moveAir b C1 = some C2 ∧ HA nl C2 b (minR R) ∧ ∀ k, k ≠ HB b → k ≠ HB b + 11 → k ≠ HB b + 14 → k ≠ HB b + 15 → C2 k = C k := by
  have hB := HB_lt hb
  obtain ⟨hS, hR, hair, hfi⟩ := h
  obtain ⟨m1, m2, m3, m4, m5, m6⟩ := min_row hR
  obtain ⟨C1, a1, a2⟩ := measureFlows_c hb hS hair hR
  have a3 := a2.1
  have hw : CoreW R (upd R 4 (C (HB b) 6)) := updw (by omega)
  obtain ⟨C2, f1, f2, f3, f4, f5, f6⟩ := moveAir_c (C := C1) (R := upd R 4 (C (HB b) 6)) (F := flowR R) hb (hw.str hR.1) (by rw [a3 _ (by omega) (by omega), pk_un (by decide)]; exact hS.1)
    (fun d hd => by rw [pk_un (by decide)] at hd; rw [a3 _ (by omega) (by omega), a3 _ (by omega) (by omega), pk_un (by omega), pk_un (by omega)]; exact ⟨(hS.2.2.1 d hd).2.1, (hS.2.2.1 d hd).2.2.1⟩)
    (fun d hd => by rw [pk_un (by decide)] at hd; exact a2.2.1 d hd)
    (fun r hr => by rw [a3 _ (by omega) (by omega), pk_un (by omega), hair r (by omega), airR_lt hr])
    (fun r hr => by rw [a3 _ (by omega) (by omega), pk_un (by omega)]; exact hfi r hr)
    (by rw [a3 _ (by omega) (by omega), pk_us])
  have fr : ∀ k, k ≠ HB b → k ≠ HB b + 11 → k ≠ HB b + 14 → k ≠ HB b + 15 → C2 k = C k := fun k k1 k2 k3 k4 => (f2 k k2 k1).trans (a3 k k3 k4)
  refine ⟨C1, C2, a1, a2, f1, ⟨?_, m1, fun r hr => ?_, fun r hr => ?_⟩, fr⟩
  · exact hS.monoW (fun j _ _ => fr _ (by omega) (by omega) (by omega) (by omega)) (fun k hk => fr k (by omega) (by omega) (by omega) (by omega)) m2
  · by_cases q : r = 8
    · rw [q, f4, a3 _ (by omega) (by omega), hair 8 (by decide)]
      unfold airR
      rw [if_pos rfl, if_pos rfl, m5]
    · have hr8 : r < 8 := by omega
      have o1 := car_only hR.1
      have ag : AgA (carR R) (upd R 4 (C (HB b) 6)) := by
        refine ⟨fun j hj => ?_, fun i hi => ⟨?_, ?_⟩⟩
        · rw [pk_un (by omega), o1 j (by rintro ⟨r, g1, g2⟩; omega)]
        · rw [pk_un (by omega), o1 _ (by rintro ⟨r, g1, g2⟩; omega)]
        · rw [pk_un (by omega), o1 _ (by rintro ⟨r, g1, g2⟩; omega)]
      rw [f3 r hr8, airR_lt hr8, ((blow_ag ((scent_core o1).str hR.1) ag).2 r hr8).1, minR_at R (by omega), snR_only R _ (by rintro ⟨r, g1, g2⟩; omega)]
  · rw [fr _ (by omega) (by omega) (by omega) (by omega), m6 r hr]; exact hfi r hr
def NT (N N1 : Mem) : Prop := (∀ j, j < 88 → N1 8 j = N 1 j) ∧ (∀ j, 88 ≤ j → N1 1 j = N 1 j) ∧ KeepN N N1
theorem nt_back {N N1 : Mem} (t : NT N N1) : ∃ N2, f_X10_putsBack N1 = some N2 ∧ Rdy N N2 := by
  obtain ⟨t4, t5, t6⟩ := t
  obtain ⟨N2, h1, h2, h3, h4⟩ := back_l (N := N1) 88 0 FU N1 (by omega) (FU_gt (by omega)) (fun _ _ => rfl) (fun j hj => absurd hj (by omega)) (fun _ _ => rfl)
  refine ⟨N2, h1, ?_, fun j hj => by rw [h2 8 (by decide)]; exact t4 j hj, fun k hk => (h2 k (by omega)).trans (t6 k hk)⟩
  funext j
  by_cases q : j < 88
  · rw [h3 j q]; exact t4 j q
  · rw [h4 j (by omega)]; exact t5 j (by omega)
theorem nt_n {N N1 N2 : Mem} (t : NT N N1) (h : ∀ k, k ≠ 4 → k ≠ 5 → k ≠ 15 → k ≠ 16 → N2 k = N1 k) : NT N N2 :=
  ⟨fun j hj => by rw [h 8 (by decide) (by decide) (by decide) (by decide)]; exact t.1 j hj, fun j hj => by rw [h 1 (by decide) (by decide) (by decide) (by decide)]; exact t.2.1 j hj, fun k hk => (h k (by omega) (by omega) (by omega) (by omega)).trans (t.2.2 k hk)⟩
theorem nt_min {N N1 : Mem} (t : NT N N1) (hR : RowOK (N1 1)) : ∃ N2, f_X10_minute N1 = some (outR (N1 1), N2) ∧ N2 1 = minR (N1 1) ∧ NT N N2 := by
  obtain ⟨N2, n1, n2, n3⟩ := minute_e hR.1
  refine ⟨N2, n1, n2, fun j hj => by rw [n3 8 (by decide) (by decide) (by decide) (by decide) (by decide) (by decide) (by decide)]; exact t.1 j hj, fun j hj => ?_, fun k hk => (n3 k (by omega) (by omega) (by omega) (by omega) (by omega) (by omega) (by omega)).trans (t.2.2 k hk)⟩
  rw [n2, (min_row hR).2.1 j (by omega)]; exact t.2.1 j hj
def ThA (nl : Nat) (C N C1 N1 : Mem) : Prop := Out 2 C C1 ∧ LOK nl C1 2 ∧ HA nl C1 2 (N1 1) ∧ NT N N1
theorem Th.a {nl : Nat} {C N C1 N1 : Mem} (t : Th nl C N C1 N1) : ThA nl C N C1 N1 := ⟨t.1, t.2.1, t.2.2.1.ha, t.2.2.2⟩
/-- both look whether all flows are nought -/
theorem nought_l {C N : Mem} {n : Nat} {F : Nat → Int32} (hn : n ≤ 10) (h1 : C (HB 2 + 1) 0 = nI n) (h2 : N 1 1 = nI n) (h3 : ∀ d, d < n → C (HB 2 + 14) d = F d) (h4 : ∀ d, d < n → N 4 d = F d) : ∀ (k i n1 n2 : Nat), i + k = n → k < n1 → k < n2 → ∃ r, f_X1_flowsAreNought_l2 2 n1 (nI i) C = some r ∧ f_X10_isStill_l6 n2 (nI i) N = some (r, N)
  | 0, i, n1 + 1, n2 + 1, hi, _, _ => by
    rw [Nat.add_zero] at hi
    unfold f_X1_flowsAreNought_l2 f_X10_isStill_l6
    rw [h1, rdl 1 z1 (by decide) (by decide), h2, hi, if_pos (fu_le (by omega) (by omega) (Nat.le_refl _)), if_pos (fu_le (by omega) (by omega) (Nat.le_refl _))]
    exact ⟨1, rfl, rfl⟩
  | k + 1, i, n1 + 1, n2 + 1, hi, l1, l2 => by
    unfold f_X1_flowsAreNought_l2 f_X10_isStill_l6
    rw [h1, rdl 1 z1 (by decide) (by decide), h2, if_neg (fu_nle (by omega) (by omega) (by omega)), if_neg (fu_nle (by omega) (by omega) (by omega)), rdn (by omega) (by decide), rdn (by omega) (by decide), h3 i (by omega), h4 i (by omega)]
    by_cases q : F i = 0
    · rw [if_pos q, if_pos q, nm_t, nm_t, z1, nI_add]
      exact nought_l hn h1 h2 h3 h4 k (i + 1) n1 n2 (by omega) (by omega) (by omega)
    · rw [if_neg q, if_neg q]
      exact ⟨0, rfl, rfl⟩
theorem still_l {nl : Nat} {C N : Mem} (h : Rel nl C N) : ∀ (k i n1 n2 : Nat) (C1 N1 : Mem), i + k = 201 → k < n1 → k < n2 → ThA nl C N C1 N1 → Sim nl (f_X8_minutesUntilStill_l10 nl 0 n1 (nI i) C1) (f_X10_still_l6 n2 (nI i) N1)
  | 0, i, n1 + 1, n2 + 1, C1, N1, hi, _, _, t => by
    unfold f_X8_minutesUntilStill_l10 f_X10_still_l6 f_X10_still_j31
    obtain ⟨N2, b1, b2⟩ := nt_back t.2.2.2
    rw [show i = 201 by omega, if_pos (show (200 : Int32) < nI 201 by decide), if_pos (show (200 : Int32) < nI 201 by decide), b1, bd_s, if_pos (show (200 : Int32) < nI 201 by decide)]
    exact ⟨_, _, _, rfl, rfl, rdy_rel h t.1 t.2.1 b2⟩
  | k + 1, i, n1 + 1, n2 + 1, C1, N1, hi, l1, l2, t => by
    have q200 : ¬ (200 : Int32) < nI i := by rw [show (200 : Int32) = nI 200 from rfl, lt_nI (by decide) (by omega)]; omega
    unfold f_X8_minutesUntilStill_l10 f_X10_still_l6 f_X10_isStill f_X1_flowsAreNought
    obtain ⟨t1, t2, t3, t4⟩ := t
    obtain ⟨C2, C3, a1, a2, a3, a4, a5⟩ := ha_min (b := 2) (by decide) t3
    obtain ⟨N2, n1', n2', n3, n4⟩ := findFlows_e t3.2.1.1
    obtain ⟨e0, hn⟩ := dn_b t3.2.1.1
    have eN : N2 1 = N1 1 := n2' 1 (by decide) (by decide) (by decide) (by decide)
    obtain ⟨r, r1, r2⟩ := nought_l (C := C2) (N := N2) (F := flowR (N1 1)) hn (by rw [a2.1 _ (by decide) (by decide), t3.1.1]; exact e0) (by rw [eN]; exact e0) a2.2.1 n3 (ix (N1 1 1)) 0 FU FU (by omega) (FU_gt (by omega)) (FU_gt (by omega))
    have r1 : f_X1_flowsAreNought_l2 2 FU 0 C2 = some r := r1
    have r2 : f_X10_isStill_l6 FU 0 N2 = some (r, N2) := r2
    have nt2 := nt_n t4 n2'
    have oC2 : Out 2 C C2 := t1.tr (fun k hk => a2.1 k (by omega) (by omega))
    have lC2 : LOK nl C2 2 := fun i hi => by rw [a2.1 _ (by omega) (by omega)]; exact t2 i hi
    rw [if_neg q200, if_neg q200, a1, bd_s, r1, bd_s, n1', bd_s, r2, bd2_s]
    by_cases q : r = 0
    · obtain ⟨N3, m1, m2, m3⟩ := nt_min nt2 (by rw [eN]; exact t3.2.1)
      rw [if_pos q, if_pos q, a3, bd_s, m1, bd2_s, nm_t, nm_t, z1, nI_add]
      refine still_l h k (i + 1) n1 n2 C3 N3 (by omega) (by omega) (by omega) ⟨t1.tr (fun k hk => a5 k (by omega) (by omega) (by omega) (by omega)), fun i hi => by rw [a5 _ (by omega) (by omega) (by omega) (by omega)]; exact t2 i hi, ?_, m3⟩
      rw [m2, eN]; exact a4
    · obtain ⟨N3, b1, b2⟩ := nt_back nt2
      unfold f_X10_still_j31
      rw [if_neg q, if_neg q, b1, bd_s, if_neg q200]
      exact ⟨_, _, _, rfl, rfl, rdy_rel h oC2 lC2 b2⟩
theorem still_s {nl : Nat} {C N : Mem} (h : Rel nl C N) : Sim nl (f_X9_still nl C) (f_X10_still N) := by
  obtain ⟨N1, n1, n2⟩ := thinks_e N
  obtain ⟨C1, c1, t1⟩ := th_take h Out.rf n2
  obtain ⟨r, C2, N2, q1, q2, q3⟩ := still_l h 201 0 FU FU C1 N1 (by omega) (FU_gt (by omega)) (FU_gt (by omega)) t1.a
  refine ⟨r, C2, N2, ?_, ?_, q3⟩
  · unfold f_X9_still f_X8_minutesUntilStill
    rw [c1, bd_s, show f_X8_minutesUntilStill_l10 nl 0 FU 0 C1 = some (r, C2) from q1, bd2_s]
  · unfold f_X10_still
    rw [n1, bd_s]; exact q2
