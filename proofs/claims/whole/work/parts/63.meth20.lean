/-! birth -/
theorem andn_e {w u : Nat} (hw : w < 1024) : nI w &&& (nI u ^^^ (-1)) = nI (w &&& (1023 ^^^ u)) := by
  apply Int32.toBitVec_inj.mp
  show BitVec.ofNat 32 w &&& (BitVec.ofNat 32 u ^^^ (-1 : Int32).toBitVec) = BitVec.ofNat 32 (w &&& (1023 ^^^ u))
  rw [show (-1 : Int32).toBitVec = BitVec.allOnes 32 from by decide]
  apply BitVec.eq_of_getLsbD_eq
  intro j hj
  rw [BitVec.getLsbD_and, BitVec.getLsbD_xor, BitVec.getLsbD_allOnes, BitVec.getLsbD_ofNat, BitVec.getLsbD_ofNat, BitVec.getLsbD_ofNat, Nat.testBit_and, Nat.testBit_xor]
  by_cases q : j < 10
  · rw [t1023 q, decide_eq_true hj]
    cases w.testBit j <;> cases u.testBit j <;> rfl
  · rw [Nat.testBit_lt_two_pow (x := w) (i := j) (Nat.lt_of_lt_of_le hw (Nat.pow_le_pow_right (n := 2) (by decide) (show 10 ≤ j by omega)))]
    simp
theorem sub_t {i w : Nat} (hi : i < 1024) (h : nI i &&& (nI w ^^^ (-1)) = 0) : i ≤ w ∧ ∀ j, i.testBit j = true → w.testBit j = true := by
  rw [andn_e hi, z0, eq_nI (Nat.lt_of_le_of_lt Nat.and_le_left (by omega)) (by decide)] at h
  have hb : ∀ j, i.testBit j = true → w.testBit j = true := by
    intro j hj
    have h1 : (i &&& (1023 ^^^ w)).testBit j = false := by rw [h]; simp
    rw [Nat.testBit_and, Nat.testBit_xor, hj] at h1
    by_cases q : j < 10
    · rw [t1023 q] at h1
      cases hw : w.testBit j with
      | true => rfl
      | false => rw [hw] at h1; cases h1
    · rw [Nat.testBit_lt_two_pow (x := i) (i := j) (Nat.lt_of_lt_of_le hi (Nat.pow_le_pow_right (n := 2) (by decide) (show 10 ≤ j by omega)))] at hj
      cases hj
  refine ⟨?_, hb⟩
  have h3 : i &&& w = i := by
    apply Nat.eq_of_testBit_eq
    intro j
    rw [Nat.testBit_and]
    cases q : i.testBit j with
    | true => rw [hb j q]; rfl
    | false => rfl
  rw [← h3]
  exact Nat.and_le_right
theorem upd_upd {f : Nat → Int32} {i : Nat} {x y : Int32} : upd (upd f i x) i y = upd f i y := by
  funext j
  by_cases q : j = i
  · rw [q, pk_us, pk_us]
  · rw [pk_un q, pk_un q, pk_un q]
/-- the ways of a set of doors are shut -/
def WaysOf (n u : Nat) (R R1 : Nat → Int32) : Prop := (∀ d, d < n → R1 (42 + 5 * d) = if u.testBit d then 0 else R (42 + 5 * d)) ∧ ∀ j, (∀ d, d < n → j ≠ 42 + 5 * d) → R1 j = R j
theorem cal_w {N : Mem} {n u : Nat} {a0 a1 a2 : Int32} (hn : n ≤ 10) (hu : u < 1024) (e : N 1 1 = nI n) : ∀ (k i q : Nat) (s : Mem), i + k = n → k < q → (∀ j, j ≠ 1 → s j = N j) → WaysOf i u (N 1) (s 1) → ∃ s2, f_X10_isCalm_l3 q a0 a1 a2 (nI u) (nI i) s = f_X10_isCalm_l62 FU a0 a1 a2 1 0 s2 ∧ (∀ j, j ≠ 1 → s2 j = N j) ∧ WaysOf n u (N 1) (s2 1)
  | 0, i, q + 1, s, hi, _, h1, h2 => by
    have e1 : s 1 1 = nI n := by rw [h2.2 1 (fun d _ => by omega)]; exact e
    rw [f_X10_isCalm_l3, rdl 1 z1 (by decide) (by decide), e1, if_pos (fu_le (by omega) (by omega) (by omega))]
    exact ⟨s, rfl, h1, by rw [show i = n by omega] at h2; exact h2⟩
  | k + 1, i, q + 1, s, hi, hk, h1, h2 => by
    have e1 : s 1 1 = nI n := by rw [h2.2 1 (fun d _ => by omega)]; exact e
    have wi : s 1 (42 + 5 * i) = N 1 (42 + 5 * i) := h2.2 _ (fun d _ => by omega)
    have nxt : ∀ v : Int32, v = (if u.testBit i then 0 else N 1 (42 + 5 * i)) → ∃ s2, f_X10_isCalm_j49 (f_X10_isCalm_l3 q) a0 a1 a2 (nI u) (nI i) v ((38 : Int32) + 5 * nI i + 4) s = f_X10_isCalm_l62 FU a0 a1 a2 1 0 s2 ∧ (∀ j, j ≠ 1 → s2 j = N j) ∧ WaysOf n u (N 1) (s2 1) := by
      intro v hv
      unfold f_X10_isCalm_j49
      rw [wrl (42 + 5 * i) (by rw [z4, idx5, show 38 + 5 * i + 4 = 42 + 5 * i by omega]) (by omega) (by decide), nm_t, z1, nI_add]
      refine cal_w hn hu e k (i + 1) q _ (by omega) (by omega) (fun j hj => (sto_n hj).trans (h1 j hj)) ⟨fun d hd => ?_, fun j hj => ?_⟩
      · by_cases w : d = i
        · rw [w, sto_ss, hv]
        · rw [sto_sn (by omega)]; exact h2.1 d (by omega)
      · rw [sto_sn (hj i (by omega))]; exact h2.2 j (fun d hd => hj d (by omega))
    rw [f_X10_isCalm_l3, rdl 1 z1 (by decide) (by decide), e1, if_neg (fu_nle (by omega) (by omega) (by omega)), bit_nI (by omega) (by omega)]
    cases hb : u.testBit i with
    | true =>
      rw [if_pos rfl, if_pos (show nI 1 = (1 : Int32) from rfl)]
      exact nxt 0 (by rw [hb]; rfl)
    | false =>
      rw [if_neg (by decide), of4 (by omega), bd_s]
      exact nxt _ (by rw [hb, wi]; rfl)
/-- the calm minutes of both -/
theorem cal_l {nl T r : Nat} {N : Mem} {d : Int32} (hT : T ≤ 5) (hr : r < 8) : ∀ (k i n1 n2 : Nat) (C1 N1 : Mem), i + k = T + 1 → k < n1 → k + 1 < n2 → HA nl C1 2 (N1 1) → NT N N1 → ∃ v C2 N2, f_X8_isCalm_l3 n1 (nI r) d (nI T) (nI i) C1 = some (v, C2) ∧ f_X10_isCalm_l62 n2 (nI r) d (nI T) 1 (nI i) N1 = some (v, N2) ∧ Rdy N N2 ∧ ∀ k, k ≠ HB 2 → k ≠ HB 2 + 11 → k ≠ HB 2 + 14 → k ≠ HB 2 + 15 → C2 k = C1 k
  | 0, i, n1 + 1, n2 + 1, C1, N1, hi, _, _, t, u => by
    obtain ⟨N2, b1, b2⟩ := nt_back u
    have q : nI T < nI i := by rw [lt_nI (by omega) (by omega)]; omega
    rw [f_X8_isCalm_l3, f_X10_isCalm_l62, if_pos q, if_pos q, b1, bd_s]
    exact ⟨1, C1, N2, rfl, rfl, b2, fun _ _ _ _ _ => rfl⟩
  | k + 1, i, n1 + 1, n2 + 2, C1, N1, hi, l1, l2, t, u => by
    have q : ¬ nI T < nI i := by rw [lt_nI (by omega) (by omega)]; omega
    obtain ⟨C2, C3, a1, a2, a3, a4, a5⟩ := ha_min (b := 2) (by decide) t
    obtain ⟨N2, f1, f2, f3, f4⟩ := findFlows_e t.2.1.1
    have eN : N2 1 = N1 1 := f2 1 (by decide) (by decide) (by decide) (by decide)
    have nt2 := nt_n u f2
    obtain ⟨N3, m1, m2, m3⟩ := nt_min nt2 (by rw [eN]; exact t.2.1)
    rw [f_X8_isCalm_l3, f_X10_isCalm_l62, if_neg q, if_neg q, if_neg (show ¬ (1 : Int32) = 0 by decide), a1, bd_s, f1, bd_s, rdn (by omega) (by decide), rdn (by omega) (by decide), a2.2.2 r (by omega), f4 r (by omega)]
    unfold f_X10_isCalm_j92
    by_cases g : drR (N1 1) (ix (N1 1 1)) r ≤ d
    · rw [if_pos g, if_neg (fun x => by have := i32lt.mp x; have := i32le.mp g; omega), a3, bd_s, m1, bd2_s, nm_t, nm_t, z1, nI_add]
      obtain ⟨v, C4, N4, p1, p2, p3, p4⟩ := cal_l (N := N) (d := d) hT hr k (i + 1) n1 (n2 + 1) C3 N3 (by omega) (by omega) (by omega) (by rw [m2, eN]; exact a4) m3
      exact ⟨v, C4, N4, p1, p2, p3, fun k k1 k2 k3 k4 => (p4 k k1 k2 k3 k4).trans (a5 k k1 k2 k3 k4)⟩
    · obtain ⟨N4, b1, b2⟩ := nt_back m3
      rw [if_neg g, if_pos (i32lt.mpr (by have := mt i32le.mpr g; omega)), m1, bd2_s, nm_t, z1, nI_add, f_X10_isCalm_l62, b1, bd_s]
      refine ⟨0, C2, N4, rfl, ?_, b2, fun k k1 k2 k3 k4 => a2.1 k k3 k4⟩
      by_cases x : nI T < nI (i + 1)
      · rw [if_pos x]; rfl
      · rw [if_neg x, if_pos rfl]; rfl
/-- hall 2 is ready for another set -/
def Bt (nl : Nat) (C N C1 : Mem) : Prop := Out 2 C C1 ∧ LOK nl C1 2 ∧ (∃ x, HS nl (sto C1 (HB 2 + 1) 1 x) 2 (N 1)) ∧ ∀ r, r < 8 → C1 (HB 2 + 12) r = N 1 (7 + 4 * r)
theorem calm_e {nl T r u w n : Nat} {C N C1 N1 : Mem} {d : Int32} (hT : T ≤ 5) (hr : r < 8) (h : Rel nl C N) (t : Bt nl C N C1) (y : Rdy N N1) (hn : n ≤ 10) (e : N 1 1 = nI n) (hw : w < 2 ^ n) (ew : ∀ i, i < n → N 1 (42 + 5 * i) = nI (if w.testBit i then 1 else 0)) (hu : u < 1024) :
    ∃ v C3 N2 M9, f_X1_takeAirFrom 2 0 C1 = some M9 ∧ f_X8_isCalm (sto M9 (HB 2 + 1) 1 (nI w &&& (nI u ^^^ (-1)))) (nI r) d (nI T) = some (v, C3) ∧ f_X10_isCalm N1 (nI r) d (nI T) (nI u) = some (v, N2) ∧ Bt nl C N C3 ∧ Rdy N N2 := by
  obtain ⟨t1, t2, ⟨x, t3⟩, t4⟩ := t
  obtain ⟨y1, y2, y3⟩ := y
  have hx : ix (N 1 1) = n := by rw [e]; exact ix_nI (by omega)
  have h10 := pow_le10 hn
  obtain ⟨M9, c1, c2, c3⟩ := cp_x (β := Mem) (M := C1) (k1 := HB 0 + 11) (n1 := 9) (k2 := HB 2 + 11) (n2 := 9) (n := 9) (by decide) (by decide) (by decide)
  obtain ⟨N2, n1, n2, n3⟩ := cal_w (N := N1) (a0 := nI r) (a1 := d) (a2 := nI T) hn hu (by rw [y1]; exact e) n 0 FU N1 (by omega) (FU_gt (by omega)) (fun _ _ => rfl) ⟨fun d hd => absurd hd (by omega), fun _ _ => rfl⟩
  rw [y1] at n3
  have n1 : f_X10_isCalm_l3 FU (nI r) d (nI T) (nI u) 0 N1 = _ := n1
  obtain ⟨g1, g2⟩ := n3
  have lo : ∀ j, (∀ d, d < 10 → j ≠ 42 + 5 * d) → N2 1 j = N 1 j := fun j hj => g2 j (fun d hd => hj d (by omega))
  generalize eC : sto M9 (HB 2 + 1) 1 (nI w &&& (nI u ^^^ (-1))) = C2
  have o2 : ∀ k, k ≠ HB 2 + 1 → k ≠ HB 2 + 11 → C2 k = C1 k := fun k k1 k2 => by rw [← eC, sto_n k1, c2 k k2]
  have v1 : C2 (HB 2 + 1) 0 = C1 (HB 2 + 1) 0 := by rw [← eC, sto_sn (by decide), c2 _ (by decide)]
  have v2 : C2 (HB 2 + 1) 1 = nI (w &&& (1023 ^^^ u)) := by rw [← eC, sto_ss, andn_e (by omega)]
  have dk : ∀ d, d < ix (N2 1 1) → DoorOK (N2 1) d := fun d hd => by
    rw [lo 1 (fun d _ => by omega), hx] at hd
    obtain ⟨p1, p2, p3, p4, p5⟩ := h.1.2.2.2.2.1 d (by rw [hx]; exact hd)
    refine ⟨by rw [lo _ (fun d _ => by omega)]; exact p1, by rw [lo _ (fun d _ => by omega)]; exact p2, by rw [lo _ (fun d _ => by omega)]; exact p3, by rw [lo _ (fun d _ => by omega)]; exact p4, ?_⟩
    rw [g1 d hd]
    split
    · exact ⟨by decide, by decide⟩
    · exact p5
  have hT2 : CoreT (N 1) (N2 1) := fun j hj => lo j (fun d _ => by omega)
  have hR : RowOK (N2 1) := h.1.2.2.doors hT2 (by rw [lo 1 (fun d _ => by omega)]; exact h.1.2.2.1.1) dk (fun j _ hj => lo j (fun d _ => by omega))
  have hS : HS nl C2 2 (N2 1) := by
    have s3 := t3.2.2.1
    refine t3.doors (fun j j1 j2 => by rw [o2 _ (by omega) (by omega), sto_n (by omega)]) (fun k hk => by rw [o2 k (by unfold HB; omega) (by unfold HB; omega), sto_n (by unfold HB; omega)]) hT2 ?_ (fun d hd => ?_) ?_
    · rw [v1, lo 1 (fun d _ => by omega)]
      have := t3.1
      rwa [sto_sn (by decide)] at this
    · rw [lo 1 (fun d _ => by omega)] at hd
      have := s3 d hd
      rw [sto_n (show HB 2 + 2 ≠ HB 2 + 1 by decide), sto_n (show HB 2 + 3 ≠ HB 2 + 1 by decide), sto_n (show HB 2 + 4 ≠ HB 2 + 1 by decide), sto_n (show HB 2 + 5 ≠ HB 2 + 1 by decide)] at this
      rw [o2 _ (by decide) (by decide), o2 (HB 2 + 3) (by decide) (by decide), o2 (HB 2 + 4) (by decide) (by decide), o2 (HB 2 + 5) (by decide) (by decide), lo _ (fun d _ => by omega), lo (39 + 5 * d) (fun d _ => by omega), lo (40 + 5 * d) (fun d _ => by omega), lo (41 + 5 * d) (fun d _ => by omega)]
      exact this
    · rw [v2, lo 1 (fun d _ => by omega), hx]
      refine ⟨w &&& (1023 ^^^ u), Nat.lt_of_le_of_lt Nat.and_le_left hw, rfl, fun i hi => ?_⟩
      dsimp only
      rw [g1 i hi, ew i hi, Nat.testBit_and, Nat.testBit_xor, t1023 (by omega)]
      cases u.testBit i <;> cases w.testBit i <;> rfl
  have hA : HA nl C2 2 (N2 1) := by
    refine ⟨hS, hR, fun r hr => ?_, fun r hr => ?_⟩
    · rw [← eC, sto_n (by decide), c3 r hr, t1 _ (by decide), air_c h.1.2.1 hr]
      unfold airR
      rw [lo 3 (fun d _ => by omega)]
      by_cases q : r = 8
      · rw [if_pos q, if_pos q]
      · rw [if_neg q, if_neg q, lo _ (fun d _ => by omega)]
    · rw [o2 _ (by decide) (by decide), t4 r hr, lo _ (fun d _ => by omega)]
  have nt : NT N N2 := ⟨fun j hj => by rw [n2 8 (by decide)]; exact y2 j hj, fun j hj => lo j (fun d _ => by omega), fun k hk => (n2 k (by omega)).trans (y3 k hk)⟩
  obtain ⟨v, C3, N3, p1, p2, p3, p4⟩ := cal_l (N := N) (d := d) hT hr (T + 1) 0 FU FU C2 N2 (by omega) (FU_gt (by omega)) (FU_gt (by omega)) hA nt
  have p4' : ∀ k, k ≠ HB 2 → k ≠ HB 2 + 1 → k ≠ HB 2 + 11 → k ≠ HB 2 + 14 → k ≠ HB 2 + 15 → C3 k = C1 k := fun k k0 k1 k2 k3 k4 => (p4 k k0 k2 k3 k4).trans (o2 k k1 k2)
  refine ⟨v, C3, N3, M9, ?_, by rw [eC]; exact p1, ?_, ⟨t1.tr (fun k hk => p4' k (by omega) (by omega) (by omega) (by omega) (by omega)), fun i hi => by rw [p4' _ (by decide) (by decide) (by decide) (by decide) (by decide)]; exact t2 i hi, ⟨x, ?_⟩, fun r hr => by rw [p4' _ (by decide) (by decide) (by decide) (by decide) (by decide)]; exact t4 r hr⟩, p3⟩
  · unfold f_X1_takeAirFrom
    rw [show (9 : Int32) = nI 9 from rfl, c1]
  · unfold f_X10_isCalm
    rw [n1]; exact p2
  · refine t3.mono (fun j j1 j2 => ?_) (fun k hk => by rw [sto_n (by unfold HB; omega), sto_n (by unfold HB; omega)]; exact p4' k (by unfold HB; omega) (by unfold HB; omega) (by unfold HB; omega) (by unfold HB; omega) (by unfold HB; omega)) Core.rf
    by_cases q : j = 1
    · rw [q, sto_s, sto_s, p4 _ (by decide) (by decide) (by decide) (by decide), ← eC, sto_s, upd_upd, c2 _ (by decide)]
    · rw [sto_n (by omega), sto_n (by omega)]; exact p4' _ (by omega) (by omega) (by omega) (by omega) (by omega)
theorem shl1 : ∀ n : Fin 11, (1 : Int32) <<< (nI n.val &&& 31) = nI (2 ^ n.val) := by decide
theorem none_ne {v : Nat} (h : v < 1024) : ¬ nI v = (-1000000005 : Int32) := fun e => by
  have := i32eq.mp e
  rw [toI_nI (by omega), show (-1000000005 : Int32).toInt = -1000000005 from rfl] at this
  omega
/-- behind the open set no set is within it -/
theorem brt_2 {n w : Nat} {N1 : Mem} {a0 a1 a2 best : Int32} (hn : n ≤ 10) (e : N1 1 1 = nI n) : ∀ (k i q : Nat), i + k = 2 ^ n → k < q → w < i → f_X10_birth_l47 q a0 a1 a2 (nI w) best (nI i) N1 = some (best, N1)
  | 0, i, q + 1, hi, _, _ => by
    have h10 := pow_le10 hn
    rw [f_X10_birth_l47, rdl 1 z1 (by decide) (by decide), e, show (1 : Int32) <<< (nI n &&& 31) = nI (2 ^ n) from shl1 ⟨n, by omega⟩, if_pos (fu_le (by omega) (by omega) (by omega))]
  | k + 1, i, q + 1, hi, hk, hw => by
    have h10 := pow_le10 hn
    rw [f_X10_birth_l47, rdl 1 z1 (by decide) (by decide), e, show (1 : Int32) <<< (nI n &&& 31) = nI (2 ^ n) from shl1 ⟨n, by omega⟩, if_neg (fu_nle (by omega) (by omega) (by omega)), if_neg (fun q => by have := (sub_t (by omega) q).1; omega)]
    unfold f_X10_birth_j94 f_X10_birth_j95 f_X10_birth_j119 f_X10_birth_j121
    rw [if_pos rfl, nm_t, z1, nI_add]
    exact brt_2 hn e k (i + 1) q (by omega) (by omega) (by omega)
theorem brt_1 {nl T r w n : Nat} {C N : Mem} {d : Int32} (hT : T ≤ 5) (hr : r < 8) (h : Rel nl C N) (hn : n ≤ 10) (e : N 1 1 = nI n) (hw : w < 2 ^ n) (ew : ∀ i, i < n → N 1 (42 + 5 * i) = nI (if w.testBit i then 1 else 0)) : ∀ (k i n1 n2 : Nat) (C1 N1 : Mem) (best few : Int32), i + k = w + 1 → k < n1 → k + 2 ^ n < n2 → Bt nl C N C1 → Rdy N N1 → ((best = -1000000005 ∧ few = 11) ∨ ∃ v, v < 1024 ∧ best = nI v ∧ few = nI (pop v)) → Sim nl (f_X8_fewestToShut_l28 nl 0 n1 (nI r) d (nI T) (nI w) best few (nI i) C1) (f_X10_birth_l47 n2 (nI r) d (nI T) (nI w) best (nI i) N1)
  | 0, i, n1 + 1, n2 + 1, C1, N1, best, few, hi, _, l2, t, y, hb => by
    have h10 := pow_le10 hn
    rw [f_X8_fewestToShut_l28, if_pos (by rw [lt_nI (by omega) (by omega)]; omega), brt_2 hn (by rw [y.1]; exact e) (2 ^ n - i) i (n2 + 1) (by omega) (by omega) (by omega)]
    exact ⟨_, _, _, rfl, rfl, rdy_rel h t.1 t.2.1 y⟩
  | k + 1, i, n1 + 1, n2 + 1, C1, N1, best, few, hi, l1, l2, t, y, hb => by
    have h10 := pow_le10 hn
    have hp : pop i ≤ 10 := by rw [pop_10]; exact pk1_le i 10
    have b1 : f_X10_bitsOf (nI i) = some (nI (pop i)) := bo_e0 ⟨i, by omega⟩
    have skip : ∀ (C2 N2 : Mem), Bt nl C N C2 → Rdy N N2 → Sim nl (f_X8_fewestToShut_j102 nl 0 (f_X8_fewestToShut_l28 nl 0 n1) (nI r) d (nI T) (nI w) best few (nI i) C2) (f_X10_birth_j119 (f_X10_birth_l47 n2) (nI r) d (nI T) (nI w) best (nI i) N2) := fun C2 N2 t2 y2 => by
      unfold f_X8_fewestToShut_j102 f_X10_birth_j119 f_X10_birth_j121
      rw [nm_t, nm_t, z1, nI_add]
      exact brt_1 hT hr h hn e hw ew k (i + 1) n1 n2 C2 N2 best few (by omega) (by omega) (by omega) t2 y2 hb
    have try_ : Sim nl (bd (f_X1_takeAirFrom 2 0 C1) fun M9 => nm (sto M9 (HB 2 + 1) 1 (nI w &&& (nI i ^^^ (-1)))) fun M10 => bd2 (f_X8_isCalm M10 (nI r) d (nI T)) fun r11 M12 => if r11 = 0 then (f_X8_fewestToShut_j102 nl 0 (f_X8_fewestToShut_l28 nl 0 n1) (nI r) d (nI T) (nI w) best few (nI i) M12) else bd (some (nI (pop i))) fun r14 => f_X8_fewestToShut_j102 nl 0 (f_X8_fewestToShut_l28 nl 0 n1) (nI r) d (nI T) (nI w) (nI i) r14 (nI i) M12) (f_X10_birth_j90 (f_X10_birth_l47 n2) (nI r) d (nI T) (nI w) best (nI i) N1) := by
      obtain ⟨v, C3, N2, M9, c1, c2, c3, c4, c5⟩ := calm_e (u := i) (d := d) hT hr h t y hn e hw ew (by omega)
      unfold f_X10_birth_j90 f_X10_birth_j95
      rw [c1, bd_s, nm_t, c2, bd2_s, if_neg (show ¬ (1 : Int32) = 0 by decide), c3, bd2_s]
      by_cases q : v = 0
      · rw [if_pos q, if_pos q]
        exact skip C3 N2 c4 c5
      · unfold f_X8_fewestToShut_j102 f_X10_birth_j121
        rw [if_neg q, if_neg q, bd_s, nm_t, nm_t, z1, nI_add]
        exact brt_1 hT hr h hn e hw ew k (i + 1) n1 n2 C3 N2 (nI i) (nI (pop i)) (by omega) (by omega) (by omega) c4 c5 (Or.inr ⟨i, by omega, rfl, rfl⟩)
    rw [f_X8_fewestToShut_l28, f_X10_birth_l47, if_neg (by rw [lt_nI (by omega) (by omega)]; omega), rdl 1 z1 (by decide) (by decide), y.1, e, show (1 : Int32) <<< (nI n &&& 31) = nI (2 ^ n) from shl1 ⟨n, by omega⟩, if_neg (show ¬ nI (2 ^ n) ≤ nI i from fu_nle (by omega) (by omega) (by omega))]
    by_cases g : nI i &&& (nI w ^^^ (-1)) = 0
    · rw [if_pos g, if_pos g, bc_e (by omega), bd_s]
      rcases hb with ⟨q1, q2⟩ | ⟨v, v1, v2, v3⟩
      · rw [if_pos q1, if_neg (by rw [q2, show (11 : Int32) = nI 11 from rfl, le_nI (by decide) (by omega)]; omega)]
        exact try_
      · have hv : pop v ≤ 10 := by rw [pop_10]; exact pk1_le v 10
        have b2 : f_X10_bitsOf best = some (nI (pop v)) := by rw [v2]; exact bo_e0 ⟨v, v1⟩
        rw [if_neg (show ¬ best = -1000000005 by rw [v2]; exact none_ne v1), b1, b2, bd_s, bd_s]
        by_cases x : few ≤ nI (pop i)
        · rw [if_pos x, if_pos (by rw [← v3]; exact x)]
          unfold f_X10_birth_j94 f_X10_birth_j95
          rw [if_pos rfl]
          exact skip C1 N1 t y
        · rw [if_neg x, if_neg (by rw [← v3]; exact x)]
          exact try_
    · rw [if_neg g, if_neg g]
      unfold f_X10_birth_j94 f_X10_birth_j95
      rw [if_pos rfl]
      exact skip C1 N1 t y
theorem birth_s {nl : Nat} {C N : Mem} (h : Rel nl C N) (a1 a2 a3 : Int32) : Sim nl (f_X9_birth nl C a1 a2 a3) (f_X10_birth N a1 a2 a3) := by
  unfold f_X9_birth f_X10_birth
  rw [isRoom9_e, isRoom10_e, bd_s, bd_s]
  by_cases hc : 0 ≤ a1 ∧ a1 ≤ 7
  · obtain ⟨r, hr, er⟩ := room_n hc
    rw [if1 hc, if1 hc, f_within9, f_in, bd_s, bd_s]
    by_cases hc2 : 0 ≤ a2 ∧ a2 ≤ 999
    · rw [if1 hc2, if1 hc2, f_within9, f_in, bd_s, bd_s]
      by_cases hc3 : 0 ≤ a3 ∧ a3 ≤ 5
      · obtain ⟨T, hT, eT⟩ := rng_n (n := 5) (by decide) hc3
        obtain ⟨N1, n1, n2⟩ := thinks_e N
        obtain ⟨C1, c1, t1⟩ := th_take h Out.rf n2
        obtain ⟨e, hn⟩ := dn_b h.1.2.2.1
        obtain ⟨w, w1, w2, w3⟩ := h.1.1.2.2.2.1
        have h10 := pow_le10 hn
        have bt : Bt nl C N C1 := ⟨t1.1, t1.2.1, ⟨C1 (HB 2 + 1) 1, by rw [sto_id, ← n2.1]; exact t1.2.2.1.1⟩, fun r hr => by rw [← n2.1]; exact (t1.2.2.1.2.1.2.2.2.2.1 r hr).2.1⟩
        obtain ⟨v, C2, N2, q1, q2, q3⟩ := brt_1 (n := ix (N 1 1)) (w := w) (T := T) (d := a2) hT hr h hn e w1 w3 (w + 1) 0 FU FU C1 N1 (-1000000005) 11 (by omega) (FU_gt (by omega)) (FU_gt (by omega)) bt n2 (Or.inl ⟨rfl, rfl⟩)
        have q1 : f_X8_fewestToShut_l28 nl 0 FU (nI r) a2 (nI T) (nI w) (-1000000005) 11 0 C1 = some (v, C2) := q1
        have q2 : f_X10_birth_l47 FU (nI r) a2 (nI T) (nI w) (-1000000005) 0 N1 = some (v, N2) := q2
        unfold f_X8_fewestToShut
        rw [if1 hc3, if1 hc3, c1, bd_s, nm_t, out2 t1.1 (by decide), w2, er, eT, q1, bd2_s, n1, bd_s, openSet_e (C := C) (b := 0) (by rw [n2.1]; exact h.1), bd_s, w2, q2]
        exact ⟨_, _, _, rfl, rfl, q3⟩
      · rw [if0 hc3, if0 hc3]; exact sim_bad h _
    · rw [if0 hc2, if0 hc2]; exact sim_bad h _
  · rw [if0 hc, if0 hc]; exact sim_bad h _
