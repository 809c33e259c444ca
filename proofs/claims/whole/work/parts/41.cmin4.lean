/-! candles; a whole minute of the class -/
def Only (p : Nat → Prop) (R R2 : Nat → Int32) : Prop := ∀ j, ¬ p j → R2 j = R j
theorem Only.rf {p : Nat → Prop} {R : Nat → Int32} : Only p R R := fun _ _ => rfl
theorem Only.tr {p : Nat → Prop} {R R2 R3 : Nat → Int32} (h : Only p R R2) (h2 : Only p R2 R3) : Only p R R3 := fun j hj => (h2 j hj).trans (h j hj)
theorem Only.upd {p : Nat → Prop} {R : Nat → Int32} {i : Nat} {v : Int32} (h : p i) : Only p R (upd R i v) := fun j hj => pk_un (fun e => hj (e ▸ h))
theorem itr_P {σ : Type} {f : Nat → σ → σ} (P : σ → Prop) (e : Nat) (hP : ∀ d s, d < e → P s → P (f d s)) : ∀ (k i : Nat) (s : σ), i + k ≤ e → P s → P (itr f i k s)
  | 0, _, _, _, h => h
  | k + 1, i, s, hi, h => itr_P P e hP k (i + 1) (f i s) (by omega) (hP i s (by omega) h)
def isScent (j : Nat) : Prop := ∃ r, r < 8 ∧ j = 8 + 4 * r
def isAir (j : Nat) : Prop := j = 4 ∨ ∃ r, r < 8 ∧ j = 6 + 4 * r
def isLit (j : Nat) : Prop := ∃ r, r < 8 ∧ j = 9 + 4 * r
theorem car_only {R : Nat → Int32} (hR : StrOK R) : Only isScent R (carR R) := by
  have := itr_P (f := stepCar (flowR R) (fun r => R (8 + 4 * r)) (fun r => R (6 + 4 * r))) (fun s => Only isScent R s ∧ Core R s) (ix (R 1)) (fun d s hd hs => ?_) (ix (R 1)) 0 R (by omega) ⟨Only.rf, Core.rf⟩
  · exact this.1
  · obtain ⟨h1, h2⟩ := hs
    have b1 : fiR s d ≤ 7 := by rw [h2.fi]; exact (fi_b hR hd).2.1
    have b2 : seR s d ≤ 8 := by rw [h2.se]; exact (fi_b hR hd).2.2.1
    refine ⟨h1.tr ?_, h2.tr (stepCar_core b1 b2)⟩
    have f8 : fromR (flowR R) s d ≤ 8 := by unfold fromR; split <;> omega
    unfold stepCar
    split
    · exact Only.rf
    · rename_i hq
      split
      · exact Only.upd ⟨_, by omega, rfl⟩
      · exact (Only.upd ⟨_, by omega, rfl⟩).tr (Only.upd ⟨_, by omega, rfl⟩)
theorem blow_only {R F : Nat → Int32} (hR : StrOK R) : Only isAir R (blowR F R) := by
  unfold blowR
  have h1 := itr_P (f := stepBl F) (fun s => Only isAir R s ∧ Core R s) (ix (R 1)) (fun d s hd hs => ?_) (ix (R 1)) 0 R (by omega) ⟨Only.rf, Core.rf⟩
  · exact itr_P (f := stepFi) (fun s => Only isAir R s) 8 (fun d s hd hs => hs.tr (Only.upd (Or.inr ⟨d, hd, rfl⟩))) 8 0 _ (by omega) h1.1
  · obtain ⟨h1, h2⟩ := hs
    have b1 : fiR s d ≤ 7 := by rw [h2.fi]; exact (fi_b hR hd).2.1
    refine ⟨h1.tr ?_, h2.tr (stepBl_core b1)⟩
    unfold stepBl
    split
    · exact (Only.upd (Or.inr ⟨_, by omega, rfl⟩)).tr (Only.upd (Or.inl rfl))
    · exact (Only.upd (Or.inr ⟨_, by omega, rfl⟩)).tr (Only.upd (Or.inr ⟨_, by omega, rfl⟩))
theorem stepSn_only {D : Nat → Int32} {r : Nat} {q : (Nat → Int32) × Int32} (hr : r < 8) : Only isLit q.1 (stepSn D r q).1 := by
  unfold stepSn
  split
  · split
    · exact Only.rf
    · exact Only.upd ⟨r, hr, rfl⟩
  · exact Only.rf
theorem sn_only {D : Nat → Int32} {q : (Nat → Int32) × Int32} (k : Nat) (hk : k ≤ 8) : Only isLit q.1 (itr (stepSn D) 0 k q).1 := itr_P (f := stepSn D) (fun s => Only isLit q.1 s.1) 8 (fun _ _ hd hs => hs.tr (stepSn_only hd)) k 0 q (by omega) Only.rf
theorem lit_core {R R2 : Nat → Int32} (h : Only isLit R R2) : Core R R2 := fun j hj => h j (by rintro ⟨r, h1, h2⟩; omega)
theorem air_core {R R2 : Nat → Int32} (h : Only isAir R R2) : Core R R2 := fun j hj => h j (by rintro (h1 | ⟨r, h1, h2⟩) <;> omega)
theorem scent_core {R R2 : Nat → Int32} (h : Only isScent R R2) : Core R R2 := fun j hj => h j (by rintro ⟨r, h1, h2⟩; omega)
theorem isLit_c {C : Mem} {b : Nat} {f : Nat → Int32} (h : BitsOf (C (HB b) 5) 8 f) {r : Nat} (hr : r < 8) : f_X1_isLit b C (nI r) = some (f r) := by
  unfold f_X1_isLit
  rw [h.bit (by decide) hr]
  obtain ⟨w, h1, h2, h3⟩ := h
  rw [h3 r hr]
  by_cases e : w.testBit r
  · simp [e]; rfl
  · simp [e]; decide
theorem bits01 {x : Int32} {n : Nat} {f : Nat → Int32} (h : BitsOf x n f) {i : Nat} (hi : i < n) : f i = 0 ∨ f i = 1 := by
  obtain ⟨w, h1, h2, h3⟩ := h
  rw [h3 i hi]
  by_cases e : w.testBit i
  · simp [e]; exact Or.inr rfl
  · simp [e]; exact Or.inl rfl
set_option maxHeartbeats 1000000 in
theorem snuff_cE (E : Nat) (hE : E = 8) {nl : Nat} {C : Mem} {b : Nat} {R D : Nat → Int32} (hb : b < 3) (hnl : nl < 100000) (hS : HS nl C b R) (hR : StrOK R) (hfi : ∀ r, r < 8 → C (HB b + 12) r = R (7 + 4 * r)) (hsc : ∀ r, r < 8 → C (HB b + 13) r = R (8 + 4 * r)) (hD : ∀ r, r < 8 → C (HB b + 15) r = D r) (hl : BitsOf (C (HB b) 5) 8 (fun r => R (9 + 4 * r))) :
    ∃ C2, f_X1_snuffCandles nl b C = some C2 ∧ (∀ k, k ≠ HB b → k ≠ HB b + 10 → C2 k = C k) ∧ (∀ j, j ≠ 5 → C2 (HB b) j = C (HB b) j) ∧ BitsOf (C2 (HB b) 5) 8 (fun r => (itr (stepSn D) 0 E (R, 0)).1 (9 + 4 * r)) := by
  have hB := HB_lt hb
  unfold f_X1_snuffCandles
  rw [z0]
  refine lpR (fun n d s => f_X1_snuffCandles_l2 nl b n (nI d) s) (fun d s => (∀ k, k ≠ HB b → k ≠ HB b + 10 → s k = C k) ∧ (∀ j, j ≠ 5 → s (HB b) j = C (HB b) j) ∧ BitsOf (s (HB b) 5) 8 (fun r => (itr (stepSn D) 0 d (R, 0)).1 (9 + 4 * r))) (fun o => ∃ C2, o = some C2 ∧ (∀ k, k ≠ HB b → k ≠ HB b + 10 → C2 k = C k) ∧ (∀ j, j ≠ 5 → C2 (HB b) j = C (HB b) j) ∧ BitsOf (C2 (HB b) 5) 8 (fun r => (itr (stepSn D) 0 E (R, 0)).1 (9 + 4 * r))) E ?_ ?_ E 0 FU C (by omega) (FU_gt (by omega)) ⟨fun _ _ _ => rfl, fun _ _ => rfl, hl⟩
  · intro n d s hd ⟨i1, i2, i3⟩
    left
    have on := sn_only (D := D) (q := (R, (0 : Int32))) d (by omega)
    have nxt : itr (stepSn D) 0 (d + 1) (R, 0) = stepSn D d (itr (stepSn D) 0 d (R, 0)) := by rw [itr_snoc, Nat.zero_add]
    rw [nxt]
    generalize itr (stepSn D) 0 d (R, 0) = q at *
    dsimp only at on
    have cq := lit_core on
    have hSs : HS nl s b R := hS.mono (fun j _ _ => i1 _ (by omega) (by omega)) (fun k hk => i1 k (by omega) (by omega)) Core.rf
    rw [f_X1_snuffCandles_l2, if_neg (by rw [show (8 : Int32) = nI 8 from rfl, le_nI (by omega) (by omega)]; omega), isLit_c i3 (r := d) (by omega), bd_s]
    unfold stepSn
    rcases bits01 i3 (i := d) (by omega) with h0 | h1
    · rw [if_pos h0, if_neg (by rw [h0]; decide)]
      unfold f_X1_snuffCandles_j62
      rw [nm_t, nI_1]
      exact ⟨s, rfl, i1, i2, i3⟩
    · rw [if_neg (by rw [h1]; decide), if_pos h1, rdn (by omega) (by decide), rdn (by omega) (by decide), i1 (HB b + 12) (by omega) (by omega), i1 (HB b + 13) (by omega) (by omega), hfi d (by omega), hsc d (by omega)]
      obtain ⟨M9, w1, w2⟩ := valueOf_c hb hnl hSs hR (k := 1) (by decide) (R (7 + 4 * d)) (R (8 + 4 * d)) 20
      rw [z1, w1, bd2_s, rdn (by omega) (by decide), w2 (HB b + 15) (by omega), i1 (HB b + 15) (by omega) (by omega), hD d (by omega), held_e (by decide), bd_s]
      have eg : clampR (if 0 ≤ cntR R (nI 1) then evT R (ix (cntR R (nI 1))) (R (7 + 4 * d)) (R (8 + 4 * d)) else 20) 0 999 = gustR q.1 d := by
        unfold gustR
        rw [cq.cnt, cq.ev, on (7 + 4 * d) (by rintro ⟨r, g1, g2⟩; omega), on (8 + 4 * d) (by rintro ⟨r, g1, g2⟩; omega)]
        rw [show (1 : Int32) = nI 1 from rfl]
        by_cases hc : 0 ≤ cntR R (nI 1)
        · rw [if_pos hc, if_pos hc]
        · rw [if_neg hc, if_neg hc]; rfl
      rw [eg]
      by_cases hg : D d ≤ gustR q.1 d
      · rw [if_pos hg, if_pos hg]
        unfold f_X1_snuffCandles_j62
        rw [nm_t, nI_1]
        refine ⟨M9, rfl, fun k g1 g2 => by rw [w2 k g2, i1 k g1 g2], fun j hj => by rw [w2 _ (by omega)]; exact i2 j hj, by rw [w2 _ (by omega)]; exact i3⟩
      · rw [if_neg hg, if_neg hg]
        unfold f_X1_light
        rw [if_pos rfl, nm_t, bd_s]
        unfold f_X1_snuffCandles_j62
        rw [nm_t, nI_1]
        refine ⟨_, rfl, fun k g1 g2 => by rw [sto_n g1, w2 k g2, i1 k g1 g2], fun j hj => by rw [sto_sn hj, w2 _ (by omega)]; exact i2 j hj, ?_⟩
        rw [sto_ss, w2 _ (by omega)]
        refine i3.clr (by decide) (d := d) (by omega) (fun i hi => ?_)
        by_cases e : i = d
        · subst e; rw [if_pos rfl]; dsimp only; rw [pk_us]
        · rw [if_neg e]; dsimp only; rw [pk_un (by omega)]
  · intro n s ⟨i1, i2, i3⟩
    rw [f_X1_snuffCandles_l2, if_pos (show (8 : Int32) ≤ nI E by rw [hE]; decide)]
    exact ⟨s, rfl, i1, i2, i3⟩
theorem snuff_c {nl : Nat} {C : Mem} {b : Nat} {R D : Nat → Int32} (hb : b < 3) (hnl : nl < 100000) (hS : HS nl C b R) (hR : StrOK R) (hfi : ∀ r, r < 8 → C (HB b + 12) r = R (7 + 4 * r)) (hsc : ∀ r, r < 8 → C (HB b + 13) r = R (8 + 4 * r)) (hD : ∀ r, r < 8 → C (HB b + 15) r = D r) (hl : BitsOf (C (HB b) 5) 8 (fun r => R (9 + 4 * r))) :
    ∃ C2, f_X1_snuffCandles nl b C = some C2 ∧ (∀ k, k ≠ HB b → k ≠ HB b + 10 → C2 k = C k) ∧ (∀ j, j ≠ 5 → C2 (HB b) j = C (HB b) j) ∧ BitsOf (C2 (HB b) 5) 8 (fun r => (itr (stepSn D) 0 8 (R, 0)).1 (9 + 4 * r)) := snuff_cE 8 rfl hb hnl hS hR hfi hsc hD hl
theorem snR_only (R : Nat → Int32) : Only isLit (blowR (flowR R) (carR R)) (snR R).1 := by
  unfold snR
  exact sn_only (q := (blowR (flowR R) (carR R), (0 : Int32))) 8 (by decide)
theorem minR_at (R : Nat → Int32) {j : Nat} (hj : j ≠ 2) : minR R j = (snR R).1 j := by
  unfold minR
  rw [pk_un hj]
theorem minR_2 (R : Nat → Int32) : minR R 2 = (snR R).1 2 + 1 := by
  unfold minR
  rw [pk_us]
def HRel (nl : Nat) (C : Mem) (b : Nat) (R : Nat → Int32) : Prop := HS nl C b R ∧ HDy C b R ∧ RowOK R
theorem min_row {R : Nat → Int32} (hR : RowOK R) : RowOK (minR R) ∧ CoreW R (minR R) ∧ minR R 0 = R 0 ∧ minR R 2 = R 2 + 1 ∧ minR R 3 = R 3 ∧ ∀ r, r < 8 → minR R (7 + 4 * r) = R (7 + 4 * r) := by
  have o1 := car_only hR.1
  have c1 := scent_core o1
  have o2 := blow_only (F := flowR R) (c1.str hR.1)
  have c2 := air_core o2
  have o3 := snR_only R
  have c3 := lit_core o3
  have k : ∀ j, j ≠ 2 → minR R j = (snR R).1 j := fun j hj => minR_at R hj
  have cc : ∀ j, (j < 4 ∨ j = 5 ∨ 38 ≤ j) → (snR R).1 j = R j := fun j hj => (c1.tr (c2.tr c3)) j hj
  have e7 : ∀ r, r < 8 → minR R (7 + 4 * r) = R (7 + 4 * r) := fun r hr => by
    rw [k _ (by omega)]
    exact (o3 _ (by rintro ⟨q, g1, g2⟩; omega)).trans ((o2 _ (by rintro (g | ⟨q, g1, g2⟩) <;> omega)).trans (o1 _ (by rintro ⟨q, g1, g2⟩; omega)))
  have w : CoreW R (minR R) := fun j hj => by rw [k j (by omega)]; exact cc j (by omega)
  have e3 : minR R 3 = R 3 := by rw [k 3 (by decide)]; exact cc 3 (by omega)
  refine ⟨⟨w.str hR.1, by rw [e3]; exact hR.2.1, fun d hd => ?_, fun r hr => ⟨?_, by rw [e7 r hr]; exact (hR.2.2.2 r hr).2⟩⟩, w, ?_, ?_, e3, e7⟩
  · rw [w 1 (by omega)] at hd
    have := hR.2.2.1 d hd
    unfold DoorOK at this ⊢
    rw [w _ (by omega), w _ (by omega), w _ (by omega), w _ (by omega), w _ (by omega)]
    exact this
  · rw [k _ (by omega)]
    have : (snR R).1 (6 + 4 * r) = blowR (flowR R) (carR R) (6 + 4 * r) := o3 _ (by rintro ⟨q, g1, g2⟩; omega)
    rw [this]
    exact blow_b hR c1 (fun r hr => ⟨o1 _ (by rintro ⟨q, g1, g2⟩; omega), o1 _ (by rintro ⟨q, g1, g2⟩; omega)⟩) r hr
  · rw [k 0 (by decide)]; exact cc 0 (by omega)
  · rw [minR_2, cc 2 (by omega)]
set_option maxHeartbeats 1000000 in
theorem passMinute_c {nl : Nat} {C : Mem} {b : Nat} {R : Nat → Int32} (hb : b < 3) (hnl : nl < 100000) (h : HRel nl C b R) : ∃ C2, f_X1_passMinute nl b C = some C2 ∧ HRel nl C2 b (minR R) ∧ ∀ k, (k < HB b ∨ HB b + 17 ≤ k ∨ k = HB b + 8) → C2 k = C k := by
  have hB := HB_lt hb
  obtain ⟨hS, hD, hR⟩ := h
  obtain ⟨m1, m2, m3, m4, m5, m6⟩ := min_row hR
  have o1 := car_only hR.1
  have c1 := scent_core o1
  have o2 := blow_only (F := flowR R) (c1.str hR.1)
  have c2 := air_core o2
  have o3 := snR_only R
  have kk : ∀ j, j ≠ 2 → minR R j = (snR R).1 j := fun j hj => minR_at R hj
  obtain ⟨d1, d2, d3, d4, d5, d6⟩ := hD
  have hair : ∀ r, r < 9 → C (HB b + 11) r = airR R r := fun r hr => air_c ⟨d1, d2, d3, d4, d5, d6⟩ hr
  unfold f_X1_passMinute
  -- flows
  obtain ⟨C1, a1, a2, a3, a4⟩ := measureFlows_c hb hS hair hR
  rw [a1, bd_s]
  have hS1 : HS nl C1 b R := hS.mono (fun j _ _ => a2 _ (by omega) (by omega)) (fun k hk => a2 k (by omega) (by omega)) Core.rf
  -- scents
  obtain ⟨C3, b1, b2, b3⟩ := carryScent_c hb hS1 hR.1 a3 (fun r hr => by rw [a2 _ (by omega) (by omega)]; exact (d5 r hr).1) (fun r hr => by rw [a2 _ (by omega) (by omega)]; exact (d5 r hr).2.2)
  rw [b1, bd_s]
  have e3 : ∀ k, k ≠ HB b + 13 → k ≠ HB b + 14 → k ≠ HB b + 15 → k ≠ HB b + 16 → C3 k = C k := fun k g1 g2 g3 g4 => by rw [b2 k g1 g4, a2 k g2 g3]
  have cn : carR R 1 = R 1 := c1 1 (by omega)
  -- air
  obtain ⟨C5, f1, f2, f3, f4, f5, f6⟩ := moveAir_c (C := C3) (R := carR R) (F := flowR R) hb (c1.str hR.1) (by rw [e3 _ (by omega) (by omega) (by omega) (by omega), cn]; exact hS.1)
    (fun d hd => by rw [cn] at hd; rw [e3 _ (by omega) (by omega) (by omega) (by omega), e3 _ (by omega) (by omega) (by omega) (by omega), c1 _ (by omega), c1 _ (by omega)]; exact ⟨(hS.2.2.1 d hd).2.1, (hS.2.2.1 d hd).2.2.1⟩)
    (fun d hd => by rw [cn] at hd; rw [b2 _ (by omega) (by omega)]; exact a3 d hd)
    (fun r hr => by rw [e3 _ (by omega) (by omega) (by omega) (by omega), o1 _ (by rintro ⟨q, g1, g2⟩; omega)]; exact (d5 r hr).1)
    (fun r hr => by rw [e3 _ (by omega) (by omega) (by omega) (by omega), o1 _ (by rintro ⟨q, g1, g2⟩; omega)]; exact (d5 r hr).2.1)
    (by rw [e3 _ (by omega) (by omega) (by omega) (by omega), o1 _ (by rintro ⟨q, g1, g2⟩; omega)]; exact d3)
  rw [f1, bd_s]
  have e5 : ∀ k, k ≠ HB b → k ≠ HB b + 11 → k ≠ HB b + 13 → k ≠ HB b + 14 → k ≠ HB b + 15 → k ≠ HB b + 16 → C5 k = C k := fun k g0 g1 g2 g3 g4 g5 => by rw [f2 k g1 g0, e3 k g2 g3 g4 g5]
  -- candles
  obtain ⟨C7, g1, g2, g3, g4⟩ := snuff_c (C := C5) (R := blowR (flowR R) (carR R)) (D := drR R (ix (R 1))) hb hnl (hS.mono (fun j _ _ => e5 _ (by omega) (by omega) (by omega) (by omega) (by omega) (by omega)) (fun k hk => e5 k (by omega) (by omega) (by omega) (by omega) (by omega) (by omega)) (c1.tr c2)) (c2.str (c1.str hR.1))
    (fun r hr => by rw [e5 _ (by omega) (by omega) (by omega) (by omega) (by omega) (by omega), o2 _ (by rintro (q | ⟨q, g1, g2⟩) <;> omega), o1 _ (by rintro ⟨q, g1, g2⟩; omega)]; exact (d5 r hr).2.1)
    (fun r hr => by rw [f2 _ (by omega) (by omega), b3 r hr, o2 _ (by rintro (q | ⟨q, g1, g2⟩) <;> omega)])
    (fun r hr => by rw [f2 _ (by omega) (by omega), b2 _ (by omega) (by omega)]; exact a4 r (by omega))
    (by
      rw [f6 5 (by decide), e3 _ (by omega) (by omega) (by omega) (by omega)]
      exact d6.cong (fun i hi => by rw [o2 _ (by rintro (q | ⟨q, g1, g2⟩) <;> omega), o1 _ (by rintro ⟨q, g1, g2⟩; omega)]))
  have g4 : BitsOf (C7 (HB b) 5) 8 (fun r => (snR R).1 (9 + 4 * r)) := by unfold snR; exact g4
  rw [g1, bd_s, nm_t]
  have e7 : ∀ k, k ≠ HB b → k ≠ HB b + 10 → k ≠ HB b + 11 → k ≠ HB b + 13 → k ≠ HB b + 14 → k ≠ HB b + 15 → k ≠ HB b + 16 → C7 k = C k := fun k q0 q1 q2 q3 q4 q5 q6 => by rw [g2 k q0 q1, e5 k q0 q2 q3 q4 q5 q6]
  have hb0 : ∀ j, j ≠ 5 → j ≠ 6 → C7 (HB b) j = C (HB b) j := fun j q1 q2 => by rw [g3 j q1, f6 j q2, e3 _ (by omega) (by omega) (by omega) (by omega)]
  refine ⟨_, rfl, ⟨?_, ?_, m1⟩, fun k hk => ?_⟩
  · exact hS.monoW (fun j _ _ => by rw [sto_n (by omega)]; exact e7 _ (by omega) (by omega) (by omega) (by omega) (by omega) (by omega) (by omega)) (fun k hk => by rw [sto_n (by omega)]; exact e7 k (by omega) (by omega) (by omega) (by omega) (by omega) (by omega) (by omega)) m2
  · refine ⟨?_, ?_, ?_, ?_, fun r hr => ⟨?_, ?_, ?_⟩, ?_⟩
    · rw [sto_sn (by decide), hb0 8 (by decide) (by decide), m3]; exact d1
    · rw [sto_ss, hb0 7 (by decide) (by decide), m4, d2]
    · rw [sto_sn (by decide), g3 6 (by decide), f5, kk 4 (by decide)]
      exact (o3 4 (by rintro ⟨q, q1, q2⟩; omega)).symm
    · rw [sto_n (by omega), g2 _ (by omega) (by omega), f4, e3 _ (by omega) (by omega) (by omega) (by omega), m5]; exact d4
    · rw [sto_n (by omega), g2 _ (by omega) (by omega), f3 r hr, kk _ (by omega)]
      exact (o3 _ (by rintro ⟨q, q1, q2⟩; omega)).symm
    · rw [sto_n (by omega), e7 _ (by omega) (by omega) (by omega) (by omega) (by omega) (by omega) (by omega), m6 r hr]; exact (d5 r hr).2.1
    · rw [sto_n (by omega), g2 _ (by omega) (by omega), f2 _ (by omega) (by omega), b3 r hr, kk _ (by omega)]
      exact ((o3 _ (by rintro ⟨q, q1, q2⟩; omega)).trans (o2 _ (by rintro (q | ⟨q, q1, q2⟩) <;> omega))).symm
    · rw [sto_sn (by decide)]
      exact g4.cong (fun i hi => kk _ (by omega))
  · rw [sto_n (by omega)]
    exact e7 k (by omega) (by omega) (by omega) (by omega) (by omega) (by omega) (by omega)
