/-! hall, run -/
def sumN (f : Nat → Int32) : Nat → Int32
  | 0 => 0
  | n + 1 => sumN f n + f n
theorem sumN_cong {f g : Nat → Int32} : ∀ n, (∀ i, i < n → f i = g i) → sumN f n = sumN g n
  | 0, _ => rfl
  | n + 1, h => by unfold sumN; rw [sumN_cong n (fun i hi => h i (by omega)), h n (by omega)]
theorem le8 {i : Nat} (h : i < 8) : ¬ (8 : Int32) ≤ nI i := by rw [show (8 : Int32) = nI 8 from rfl, le_nI (by decide) (by omega)]; omega
theorem airAll_l {C : Mem} {b : Nat} : ∀ (k i n : Nat), i + k = 8 → k < n → f_X1_airOfAll_l4 b n (sumN (C (HB b + 11)) i) (nI i) C = some (sumN (C (HB b + 11)) 8)
  | 0, i, n + 1, hi, _ => by
    unfold f_X1_airOfAll_l4
    rw [show i = 8 by omega, if_pos (by decide)]
  | k + 1, i, n + 1, hi, h => by
    unfold f_X1_airOfAll_l4
    rw [if_neg (le8 (by omega)), rdn (by omega) (by decide), nm_t, nm_t, z1, nI_add]
    exact airAll_l k (i + 1) n (by omega) (by omega)
theorem scentAll_l {C : Mem} {b : Nat} : ∀ (k i n : Nat), i + k = 8 → k < n → f_X1_scentOfAll_l4 b n (sumN (C (HB b + 13)) i) (nI i) C = some (sumN (C (HB b + 13)) 8)
  | 0, i, n + 1, hi, _ => by
    unfold f_X1_scentOfAll_l4
    rw [show i = 8 by omega, if_pos (by decide)]
  | k + 1, i, n + 1, hi, h => by
    unfold f_X1_scentOfAll_l4
    rw [if_neg (le8 (by omega)), rdn (by omega) (by decide), nm_t, nm_t, z1, nI_add]
    exact scentAll_l k (i + 1) n (by omega) (by omega)
theorem sumOf_l {N : Mem} {q : Nat} (hq : q < 4) : ∀ (k i n : Nat), i + k = 8 → k < n → f_X10_sumOf_l4 n (nI q) (sumN (fun r => N 1 (6 + 4 * r + q)) i) (nI i) N = some (sumN (fun r => N 1 (6 + 4 * r + q)) 8)
  | 0, i, n + 1, hi, _ => by
    unfold f_X10_sumOf_l4
    rw [show i = 8 by omega, if_pos (by decide)]
  | k + 1, i, n + 1, hi, h => by
    unfold f_X10_sumOf_l4
    rw [if_neg (le8 (by omega)), at_e (by omega), bd_s, nm_t, nm_t, z1, nI_add]
    exact sumOf_l hq k (i + 1) n (by omega) (by omega)
def orL (f : Nat → Int32) : Nat → Int32
  | 0 => 0
  | n + 1 => orL f n ||| (f n <<< (nI n &&& 31))
theorem orL_cong {f g : Nat → Int32} : ∀ n, (∀ i, i < n → f i = g i) → orL f n = orL g n
  | 0, _ => rfl
  | n + 1, h => by unfold orL; rw [orL_cong n (fun i hi => h i (by omega)), h n (by omega)]
theorem orL_e0 : ∀ n : Fin 11, ∀ w : Fin 1024, w.val < 2 ^ n.val → orL (fun i => nI (if w.val.testBit i then 1 else 0)) n.val = nI w.val := by decide +kernel
theorem BitsOf.orL {x : Int32} {n : Nat} {f : Nat → Int32} (h : BitsOf x n f) (hn : n ≤ 10) : orL f n = x := by
  obtain ⟨w, h1, h2, h3⟩ := h
  rw [orL_cong n h3, h2]
  have h10 := pow_le10 hn
  exact orL_e0 ⟨n, by omega⟩ ⟨w, by omega⟩ h1
theorem litSet_l {N : Mem} : ∀ (k i n : Nat), i + k = 8 → k < n → f_X10_litSet_l4 n (orL (fun r => N 1 (9 + 4 * r)) i) (nI i) N = some (orL (fun r => N 1 (9 + 4 * r)) 8)
  | 0, i, n + 1, hi, _ => by
    unfold f_X10_litSet_l4
    rw [show i = 8 by omega, if_pos (by decide)]
  | k + 1, i, n + 1, hi, h => by
    unfold f_X10_litSet_l4
    rw [if_neg (le8 (by omega)), at3 (by omega), bd_s, nm_t, nm_t, z1, nI_add]
    exact litSet_l k (i + 1) n (by omega) (by omega)
theorem openSet_l {N : Mem} {e : Nat} (he : e ≤ 10) (h1 : N 1 1 = nI e) : ∀ (k i n : Nat), i + k = e → k < n → f_X10_openSet_l4 n (orL (fun r => N 1 (42 + 5 * r)) i) (nI i) N = some (orL (fun r => N 1 (42 + 5 * r)) e)
  | 0, i, n + 1, hi, _ => by
    unfold f_X10_openSet_l4
    rw [rdl 1 z1 (by decide) (by decide), h1, show i = e by omega, if_pos (by rw [le_nI (by omega) (by omega)]; omega)]
  | k + 1, i, n + 1, hi, h => by
    unfold f_X10_openSet_l4
    rw [rdl 1 z1 (by decide) (by decide), h1, if_neg (by rw [le_nI (by omega) (by omega)]; omega), of4 (by omega), bd_s, nm_t, nm_t, z1, nI_add]
    exact openSet_l he h1 k (i + 1) n (by omega) (by omega)
theorem openSet_e {nl : Nat} {C N : Mem} {b : Nat} (h : HRel nl C b (N 1)) : f_X10_openSet N = some (C (HB b + 1) 1) := by
  obtain ⟨e0, hn⟩ := dn_b h.2.2.1
  have := openSet_l hn e0 (ix (N 1 1)) 0 FU (by omega) (FU_gt (by omega))
  rw [(h.1.2.2.2.1).orL hn] at this
  exact this
theorem litSet_e {nl : Nat} {C N : Mem} {b : Nat} (h : HRel nl C b (N 1)) : f_X10_litSet N = some (C (HB b) 5) := by
  have := litSet_l (N := N) 8 0 FU (by omega) (FU_gt (by omega))
  rw [(h.2.1.2.2.2.2.2).orL (by decide)] at this
  exact this
theorem hall_s {nl : Nat} {C N : Mem} (h : Rel nl C N) (a1 : Int32) : Sim nl (withM (f_X9_hall C a1) C) (withM (f_X10_hall N a1) N) := by
  obtain ⟨d1, d2, d3, d4, d5, d6⟩ := h.1.2.1
  unfold f_X9_hall f_X10_hall
  by_cases e0 : a1 = 0
  · rw [if_pos e0, if_pos e0, rdl 4 z4 (by decide) (by decide), d3]
    exact sim_bad h _
  rw [if_neg e0, if_neg e0]
  by_cases e1 : a1 = 1
  · have k1 : f_X1_airOfAll 0 C = some (sumN (C (HB 0 + 11)) 8) := airAll_l 8 0 FU (by omega) (FU_gt (by omega))
    have k2 : f_X10_sumOf N 0 = some (sumN (fun r => N 1 (6 + 4 * r + 0)) 8) := sumOf_l (q := 0) (by decide) 8 0 FU (by omega) (FU_gt (by omega))
    rw [if_pos e1, if_pos e1, k1, k2, bd_s, bd_s, sumN_cong 8 (fun i hi => (d5 i hi).1)]
    exact sim_bad h _
  rw [if_neg e1, if_neg e1]
  by_cases e2 : a1 = 2
  · have k1 : f_X1_scentOfAll 0 C = some (sumN (C (HB 0 + 13)) 8) := scentAll_l 8 0 FU (by omega) (FU_gt (by omega))
    have k2 : f_X10_sumOf N 2 = some (sumN (fun r => N 1 (6 + 4 * r + 2)) 8) := sumOf_l (q := 2) (by decide) 8 0 FU (by omega) (FU_gt (by omega))
    rw [if_pos e2, if_pos e2, k1, k2, bd_s, bd_s, sumN_cong 8 (fun i hi => (d5 i hi).2.2), sumN_cong (g := fun r => N 1 (6 + 4 * r + 2)) 8 (fun i hi => by show N 1 (8 + 4 * i) = N 1 (6 + 4 * i + 2); rw [show 6 + 4 * i + 2 = 8 + 4 * i by omega])]
    exact sim_bad h _
  rw [if_neg e2, if_neg e2]
  by_cases e3 : a1 = 3
  · rw [if_pos e3, if_pos e3, litSet_e h.1, bd_s]
    exact sim_bad h _
  rw [if_neg e3, if_neg e3]
  by_cases e4 : a1 = 4
  · rw [if_pos e4, if_pos e4, openSet_e h.1, bd_s]
    exact sim_bad h _
  rw [if_neg e4, if_neg e4]
  exact sim_bad h _
/-- how many candles burn -/
def lc (R : Nat → Int32) : Nat → Nat
  | 0 => 0
  | n + 1 => lc R n + (if R (9 + 4 * n) = 1 then 1 else 0)
theorem lc_cong {R R2 : Nat → Int32} : ∀ n, (∀ i, i < n → R2 (9 + 4 * i) = R (9 + 4 * i)) → lc R2 n = lc R n
  | 0, _ => rfl
  | n + 1, h => by unfold lc; rw [lc_cong n (fun i hi => h i (by omega)), h n (by omega)]
theorem lc_le (R : Nat → Int32) : ∀ n, lc R n ≤ n
  | 0 => Nat.le_refl _
  | n + 1 => by have := lc_le R n; unfold lc; split <;> omega
theorem lc_upd {R : Nat → Int32} {r : Nat} (h1 : R (9 + 4 * r) = 1) : ∀ n, r < n → lc (upd R (9 + 4 * r) 0) n + 1 = lc R n
  | 0, h => absurd h (by omega)
  | n + 1, h => by
    unfold lc
    by_cases q : n = r
    · rw [q, pk_us, if_neg (by decide), if_pos h1, lc_cong r (fun i hi => pk_un (by omega))]
    · rw [pk_un (by omega)]
      have := lc_upd h1 n (by omega)
      omega
theorem lc_bits {x : Int32} {R : Nat → Int32} : ∀ n, ∀ w : Nat, (∀ i, i < n → R (9 + 4 * i) = nI (if w.testBit i then 1 else 0)) → pk1 w n = lc R n
  | 0, _, _ => rfl
  | n + 1, w, h => by
    unfold lc pk1
    rw [lc_bits (x := x) n w (fun i hi => h i (by omega)), h n (by omega)]
    by_cases q : w.testBit n
    · rw [if_pos q, if_pos (show nI 1 = (1 : Int32) from rfl)]
    · rw [if_neg q, if_neg (by decide)]
theorem litMany_c {nl : Nat} {C : Mem} {b : Nat} {R : Nat → Int32} (h : HRel nl C b R) : f_X1_litMany b C = some (nI (lc R 8)) := by
  obtain ⟨w, h1, h2, h3⟩ := h.2.1.2.2.2.2.2
  unfold f_X1_litMany
  rw [h2, bc_e (Nat.lt_of_lt_of_le h1 (pow_le10 (by decide))), pk1_10 h1 (by decide), lc_bits (x := 0) 8 w h3, bd_s]
theorem stepSn_lc {D : Nat → Int32} {r : Nat} {q : (Nat → Int32) × Int32} (hr : r < 8) {c : Nat} (e : q.2 = nI c) : ∃ c2, (stepSn D r q).2 = nI c2 ∧ c2 + lc (stepSn D r q).1 8 = c + lc q.1 8 := by
  unfold stepSn
  by_cases h1 : q.1 (9 + 4 * r) = 1
  · rw [if_pos h1]
    by_cases h2 : D r ≤ gustR q.1 r
    · rw [if_pos h2]; exact ⟨c, e, rfl⟩
    · rw [if_neg h2]
      refine ⟨c + 1, ?_, ?_⟩
      · show q.2 + 1 = nI (c + 1)
        rw [e, z1, nI_add]
      · show c + 1 + lc (upd q.1 (9 + 4 * r) 0) 8 = c + lc q.1 8
        have := lc_upd h1 8 hr
        omega
  · rw [if_neg h1]; exact ⟨c, e, rfl⟩
theorem sn_lc {D R : Nat → Int32} (E : Nat) (hE : E = 8) : ∃ c, (itr (stepSn D) 0 E (R, 0)).2 = nI c ∧ c + lc (itr (stepSn D) 0 E (R, 0)).1 8 = lc R 8 := by
  have := itr_P (f := stepSn D) (fun s => ∃ c, s.2 = nI c ∧ c + lc s.1 8 = lc R 8) 8 (fun d s hd hs => by
    obtain ⟨c, h1, h2⟩ := hs
    obtain ⟨c2, g1, g2⟩ := stepSn_lc (D := D) hd h1
    exact ⟨c2, g1, by omega⟩) E 0 (R, 0) (by omega) ⟨0, rfl, by simp⟩
  exact this
theorem out_lc {R : Nat → Int32} (hR : StrOK R) : ∃ c, outR R = nI c ∧ c + lc (minR R) 8 = lc R 8 := by
  have h0 : lc (blowR (flowR R) (carR R)) 8 = lc R 8 := lc_cong 8 (fun i hi => by
    rw [blow_only ((scent_core (car_only hR)).str hR) _ (by rintro (h1 | ⟨r, h1, h2⟩) <;> omega), car_only hR _ (by rintro ⟨r, h1, h2⟩; omega)])
  obtain ⟨c, h1, h2⟩ := sn_lc (D := drR R (ix (R 1))) (R := blowR (flowR R) (carR R)) 8 rfl
  refine ⟨c, h1, ?_⟩
  rw [lc_cong (R := (snR R).1) (R2 := minR R) 8 (fun i hi => minR_at R (by omega)), ← h0]
  exact h2
