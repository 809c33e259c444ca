/-! feed, copy -/
theorem and255_b (x : Int32) : Bd (x &&& 255) 0 255 := by
  rw [nI_all x, pk_andN (BitVec.isLt _) (m := (255 : Int32)) 8 rfl]
  have := Nat.mod_lt x.toBitVec.toNat (show 0 < 2 ^ 8 by decide)
  exact Bd_nI (by omega) (by omega) (by omega)
theorem by8 (b : BitVec 32) (k : Nat) (hk : k ≤ 24) : (b >>> k).setWidth 8 = (b.sshiftRight k &&& 255#32).setWidth 8 := by
  apply BitVec.eq_of_getLsbD_eq
  intro i hi
  have h255 : (255#32).getLsbD i = true := by
    have : ∀ q : Fin 8, (255#32).getLsbD q.val = true := by decide
    exact this ⟨i, hi⟩
  rw [BitVec.getLsbD_setWidth, BitVec.getLsbD_setWidth, BitVec.getLsbD_and, h255, BitVec.getLsbD_ushiftRight, BitVec.getLsbD_sshiftRight]
  have : k + i < 32 := by omega
  simp [this, show ¬ 32 ≤ i by omega]
theorem by_e (a s : Int32) (k : Nat) (hk : k ≤ 24) (h1 : ((s &&& 31).toBitVec.smod 32).toNat = k) (h2 : ((s.toUInt32 &&& Int32.toUInt32 31).toBitVec % 32).toNat = k) : vp_nar .byte (((a.toUInt32 >>> (s.toUInt32 &&& Int32.toUInt32 31)).toInt32).toInt8.toInt32) = ((a >>> (s &&& 31)) &&& 255).toInt8.toInt32 := by
  unfold vp_nar
  rw [pk_nb]
  show ((a.toUInt32 >>> (s.toUInt32 &&& Int32.toUInt32 31)).toInt32).toInt8.toInt32 = _
  have e : ((a.toUInt32 >>> (s.toUInt32 &&& Int32.toUInt32 31)).toInt32).toInt8 = ((a >>> (s &&& 31)) &&& 255).toInt8 := by
    apply Int8.toBitVec_inj.mp
    show ((a.toBitVec >>> ((s.toUInt32 &&& Int32.toUInt32 31).toBitVec % 32).toNat)).signExtend 8 = ((a.toBitVec.sshiftRight ((s &&& 31).toBitVec.smod 32).toNat) &&& 255#32).signExtend 8
    rw [h1, h2, BitVec.signExtend_eq_setWidth_of_le _ (by decide), BitVec.signExtend_eq_setWidth_of_le _ (by decide)]
    exact by8 _ k hk
  rw [e]
def shB (q : Nat) : Int32 := 24 - nI (8 * q)
def byB (a : Int32) (q : Nat) : Int32 := (a >>> (shB q &&& 31)) &&& 255
theorem shB_1 : ∀ q : Fin 4, ((shB q.val &&& 31).toBitVec.smod 32).toNat = 24 - 8 * q.val := by decide
theorem shB_2 : ∀ q : Fin 4, (((shB q.val).toUInt32 &&& Int32.toUInt32 31).toBitVec % 32).toNat = 24 - 8 * q.val := by decide
theorem shB_3 : ∀ q : Fin 4, ¬ shB q.val < 0 := by decide
theorem shB_4 : ∀ q : Fin 4, shB q.val + (-8) = shB (q.val + 1) := by decide
theorem pb1 {M : Mem} {L n : Nat} (hL : L < 96) (e : M 54 1 = nI L) (a s : Int32) (hs : ¬ s < 0) : f_X4_putBytes_l3 (n + 1) a s M = f_X4_putBytes_l3 n a (s + (-8)) (sto (sto M 53 L (vp_nar .byte (((a.toUInt32 >>> (s.toUInt32 &&& Int32.toUInt32 31)).toInt32).toInt8.toInt32))) 54 1 (nI (L + 1))) := by
  rw [f_X4_putBytes_l3, if_neg hs, if_neg (show ¬ (96 : Int32) ≤ M 54 1 by rw [e]; exact fu_nle (a := 96) (by decide) (by omega) (by omega)), e, wrn hL (by decide), nm_t, nm_t, sto_n (show (54 : Nat) ≠ 53 by decide), e, z1, nI_add]
def PB (M M2 : Mem) (L : Nat) (a : Int32) : Prop := (∀ k, k ≠ 54 → k ≠ 53 → M2 k = M k) ∧ (∀ j, j ≠ 1 → M2 54 j = M 54 j) ∧ M2 54 1 = nI (L + 4) ∧ (∀ j, j < L → M2 53 j = M 53 j) ∧ ∀ q, q < 4 → M2 53 (L + q) = (byB a q).toInt8.toInt32
theorem pb_l {M : Mem} {L : Nat} (hL : L + 4 ≤ 96) (a : Int32) : ∀ (k i n : Nat) (s : Mem), i + k = 4 → k < n → (∀ k, k ≠ 54 → k ≠ 53 → s k = M k) → (∀ j, j ≠ 1 → s 54 j = M 54 j) → s 54 1 = nI (L + i) → (∀ j, j < L → s 53 j = M 53 j) → (∀ q, q < i → s 53 (L + q) = (byB a q).toInt8.toInt32) → ∃ M2, f_X4_putBytes_l3 n a (shB i) s = some M2 ∧ PB M M2 L a
  | 0, i, n + 1, s, hi, _, h1, h2, h3, h4, h5 => by
    have e : i = 4 := by omega
    rw [e] at h3 h5
    rw [e, f_X4_putBytes_l3, if_pos (show shB 4 < 0 by decide)]
    exact ⟨s, rfl, h1, h2, h3, h4, h5⟩
  | k + 1, i, n + 1, s, hi, hk, h1, h2, h3, h4, h5 => by
    have hi4 : i < 4 := by omega
    have p1 := shB_1 ⟨i, hi4⟩
    have p2 := shB_2 ⟨i, hi4⟩
    have p3 := shB_3 ⟨i, hi4⟩
    have p4 := shB_4 ⟨i, hi4⟩
    dsimp only at p1 p2 p3 p4
    rw [pb1 (by omega) h3 a _ p3, p4, by_e a (shB i) (24 - 8 * i) (by omega) p1 p2]
    refine pb_l hL a k (i + 1) n _ (by omega) (by omega) (fun k k0 k53 => ?_) (fun j hj => ?_) ?_ (fun j hj => ?_) (fun q hq => ?_)
    · rw [sto_n k0, sto_n k53]; exact h1 k k0 k53
    · rw [sto_sn hj, sto_n (by decide)]; exact h2 j hj
    · rw [sto_ss]; rfl
    · rw [sto_n (by decide), sto_sn (by omega)]; exact h4 j hj
    · rw [sto_n (by decide)]
      by_cases w : q = i
      · rw [w, sto_ss]; rfl
      · rw [sto_sn (by omega)]; exact h5 q (by omega)
theorem putB {M : Mem} {L : Nat} (hL : L + 4 ≤ 96) (e : M 54 1 = nI L) (a : Int32) : ∃ M2, f_X4_putBytes M a = some M2 ∧ PB M M2 L a :=
  pb_l hL a 4 0 FU M (by omega) (FU_gt (by omega)) (fun _ _ _ => rfl) (fun _ _ => rfl) e (fun _ _ => rfl) (fun q hq => absurd hq (by omega))
def sel3 (a b c : Int32) (q : Nat) : Int32 := if q < 4 then a else if q < 8 then b else c
theorem fd_l {N : Mem} {L : Nat} (hL : L + 12 ≤ 96) (e : N 0 10 = nI L) (a b c : Int32) : ∀ (k i n : Nat) (s : Mem), i + k = 12 → k < n → (∀ k, k ≠ 9 → s k = N k) → (∀ j, j < L → s 9 j = N 9 j) → (∀ q, q < i → s 9 (L + q) = byB (sel3 a b c q) (q % 4)) → ∃ N2, f_X10_feed_l18 n a b c (nI i) s = some (nI (L + 12), N2) ∧ (∀ k, k ≠ 0 → k ≠ 9 → N2 k = N k) ∧ (∀ j, j ≠ 10 → N2 0 j = N 0 j) ∧ N2 0 10 = nI (L + 12) ∧ (∀ j, j < L → N2 9 j = N 9 j) ∧ ∀ q, q < 12 → N2 9 (L + q) = byB (sel3 a b c q) (q % 4)
  | 0, i, n + 1, s, hi, _, h1, h2, h3 => by
    have ei : i = 12 := by omega
    rw [ei] at h3
    rw [ei, f_X10_feed_l18, if_pos (show (12 : Int32) ≤ nI 12 by decide), nm_t, sto_ss, h1 0 (by decide), e, show (12 : Int32) = nI 12 from rfl, nI_add]
    refine ⟨_, rfl, fun k k0 k9 => (sto_n k0).trans (h1 k k9), fun j hj => (sto_sn hj).trans (by rw [h1 0 (by decide)]), sto_ss, fun j hj => by rw [sto_n (by decide)]; exact h2 j hj, fun q hq => by rw [sto_n (by decide)]; exact h3 q hq⟩
  | k + 1, i, n + 1, s, hi, hk, h1, h2, h3 => by
    have s10 : s 0 10 = nI L := by rw [h1 0 (by decide)]; exact e
    have j : ∀ v, f_X10_feed_j47 (f_X10_feed_l18 n) a b c (nI i) v s = f_X10_feed_l18 n a b c (nI (i + 1)) (sto s 9 (L + i) (byB v (i % 4))) := by
      intro v
      unfold f_X10_feed_j47
      rw [s10, nI_add, wrn (by omega) (by decide), nm_t, show (4 : Int32) = nI 4 from rfl, pk_rem (by omega) (by decide) (by decide), show (8 : Int32) = nI 8 from rfl, pk_mul, z1, nI_add]
      rfl
    have bod : f_X10_feed_l18 (n + 1) a b c (nI i) s = f_X10_feed_l18 n a b c (nI (i + 1)) (sto s 9 (L + i) (byB (sel3 a b c i) (i % 4))) := by
      unfold sel3
      rw [f_X10_feed_l18, if_neg (show ¬ (12 : Int32) ≤ nI i from fu_nle (a := 12) (by decide) (by omega) (by omega))]
      by_cases q : i < 4
      · rw [if_neg (show ¬ (4 : Int32) ≤ nI i from fu_nle (a := 4) (by decide) (by omega) (by omega)), if_pos q, j]
      · rw [if_pos (show (4 : Int32) ≤ nI i from fu_le (a := 4) (by decide) (by omega) (by omega)), if_neg q]
        by_cases q8 : i < 8
        · rw [if_neg (show ¬ (8 : Int32) ≤ nI i from fu_nle (a := 8) (by decide) (by omega) (by omega)), if_pos q8, j]
        · rw [if_pos (show (8 : Int32) ≤ nI i from fu_le (a := 8) (by decide) (by omega) (by omega)), if_neg q8, j]
    rw [bod]
    refine fd_l hL e a b c k (i + 1) n _ (by omega) (by omega) (fun k hk => (sto_n hk).trans (h1 k hk)) (fun j hj => by rw [sto_sn (by omega)]; exact h2 j hj) (fun q hq => ?_)
    by_cases w : q = i
    · rw [w, sto_ss]
    · rw [sto_sn (by omega)]; exact h3 q (by omega)
theorem feed_s {nl : Nat} {C N : Mem} (h : Rel nl C N) (a1 a2 a3 : Int32) : Sim nl (f_X9_feed C a1 a2 a3) (f_X10_feed N a1 a2 a3) := by
  obtain ⟨t1, t2, t3⟩ := h.tape
  obtain ⟨w1, w2, w3⟩ := h.wait
  obtain ⟨L, hL, eL⟩ := (show Bd (N 0 10) 0 ((96 : Nat) : Int) from t1).n
  have hx : ix (N 0 10) = L := by rw [eL]; exact ix_nI (by omega)
  unfold f_X9_feed f_X10_feed
  rw [t2, eL, show (12 : Int32) = nI 12 from rfl, nI_add]
  by_cases q : L + 12 ≤ 96
  · rw [if_pos (show nI (L + 12) ≤ 96 from fu_le (b := 96) (by omega) (by decide) q), if_pos (show nI (L + 12) ≤ 96 from fu_le (b := 96) (by omega) (by decide) q)]
    obtain ⟨C1, b1, b2, b3, b4, b5, b6⟩ := putB (M := C) (L := L) (by omega) (by rw [t2, eL]) a1
    obtain ⟨C2, c1, c2, c3, c4, c5, c6⟩ := putB (M := C1) (L := L + 4) (by omega) b4 a2
    obtain ⟨C3, d1, d2, d3, d4, d5, d6⟩ := putB (M := C2) (L := L + 8) (by omega) c4 a3
    obtain ⟨N2, n1, n2, n3, n4, n5, n6⟩ := fd_l (N := N) q eL a1 a2 a3 12 0 FU N (by omega) (FU_gt (by omega)) (fun _ _ => rfl) (fun _ _ => rfl) (fun q hq => absurd hq (by omega))
    have n1 : f_X10_feed_l18 FU a1 a2 a3 0 N = some (nI (L + 12), N2) := n1
    rw [b1, bd_s, c1, bd_s, d1, bd_s, n1, d4]
    have f5 : ∀ k, k ≠ 54 → k ≠ 53 → C3 k = C k := fun k k0 k5 => by rw [d2 k k0 k5, c2 k k0 k5, b2 k k0 k5]
    refine ⟨_, _, _, rfl, rfl, rel_z h (fun k _ h53 h54 _ => f5 k h54 h53) (fun k h0 h9 _ => n2 k h0 h9) (by rw [f5 0 (by decide) (by decide)]) (n3 3 (by decide)) ⟨by rw [n4]; exact Bd_nI (by omega) (by omega) (by omega), by rw [n4, d4], fun i hi => ?_⟩ ⟨by rw [n3 36 (by decide)]; exact w1, by rw [n3 36 (by decide), f5 0 (by decide) (by decide)]; exact w2, fun i hi => ?_⟩⟩
    · rw [n4, ix_nI (by omega)] at hi
      by_cases p : i < L
      · rw [n5 i p, d5 i (by omega), c5 i (by omega), b5 i p]
        exact t3 i (by rw [hx]; exact p)
      · obtain ⟨j, hj, ej⟩ : ∃ j, j < 12 ∧ i = L + j := ⟨i - L, by omega, by omega⟩
        rw [ej, n6 j hj]
        refine ⟨and255_b _, ?_⟩
        unfold sel3
        by_cases p4 : j < 4
        · rw [if_pos p4, d5 _ (by omega), c5 _ (by omega), b6 j p4, show j % 4 = j by omega]
        · rw [if_neg p4]
          by_cases p8 : j < 8
          · have := c6 (j - 4) (by omega)
            rw [show L + 4 + (j - 4) = L + j by omega] at this
            rw [if_pos p8, d5 _ (by omega), this, show j % 4 = j - 4 by omega]
          · have := d6 (j - 8) (by omega)
            rw [show L + 8 + (j - 8) = L + j by omega] at this
            rw [if_neg p8, this, show j % 4 = j - 8 by omega]
    · rw [n3 36 (by decide)] at hi
      rw [n2 25 (by decide) (by decide), f5 81 (by decide) (by decide)]; exact w3 i hi
  · rw [if_neg (show ¬ nI (L + 12) ≤ 96 from fu_nle (b := 96) (by omega) (by decide) q), if_neg (show ¬ nI (L + 12) ≤ 96 from fu_nle (b := 96) (by omega) (by decide) q)]
    exact sim_bad h _
theorem hr_e {M : Mem} {s m : Nat} (hm : m ≤ 24) (e : M s 1 = nI m) (a b : Int32) : f_X6_hasRange s M a b = some (if 0 ≤ a.toInt ∧ 0 ≤ b.toInt ∧ a.toInt + b.toInt ≤ (m : Int) then 1 else 0) := by
  unfold f_X6_hasRange
  rw [e]
  have em : (nI m).toInt = m := toI_nI (by omega)
  have ea := toInt_hi a
  have z : (0 : Int32).toInt = 0 := rfl
  by_cases h1 : a < 0
  · rw [if_pos h1, if_neg (by have := i32lt.mp h1; rw [z] at this; omega)]
  have g1 := mt i32lt.mpr h1
  rw [z] at g1
  by_cases h2 : b < 0
  · rw [if_neg h1, if_pos h2, if_neg (by have := i32lt.mp h2; rw [z] at this; omega)]
  have g2 := mt i32lt.mpr h2
  rw [z] at g2
  by_cases h3 : nI m < a
  · rw [if_neg h1, if_neg h2, if_pos h3, if_neg (by have := i32lt.mp h3; rw [em] at this; omega)]
  have g3 := mt i32lt.mpr h3
  rw [em] at g3
  have es : (nI m - a).toInt = m - a.toInt := by rw [toI_sub (by rw [em]; omega) (by rw [em]; omega), em]
  by_cases h4 : nI m - a < b
  · rw [if_neg h1, if_neg h2, if_neg h3, if_pos h4, if_neg (by have := i32lt.mp h4; rw [es] at this; omega)]
  · rw [if_neg h1, if_neg h2, if_neg h3, if_neg h4, if_pos (by have := mt i32lt.mpr h4; rw [es] at this; omega)]
theorem cp_g {β : Type} {M : Mem} {k1 k2 p a m : Nat} (h1 : p + m ≤ 24) (h2 : a + m ≤ 24) (f : Mem → Option β) : cp M k1 24 (nI p) k2 24 (nI a) (nI m) f = f (up M k2 (va_cpy (M k1) (M k2) p a m)) := by
  have hok : cpok 24 24 (nI p) (nI a) (nI m) = true := by
    unfold cpok
    rw [ix_nI (by omega), ix_nI (by omega), ix_nI (by omega), toI_nI (by omega), toI_nI (by omega), toI_nI (by omega)]
    simp
    omega
  unfold cp
  rw [hok, ix_nI (by omega), ix_nI (by omega), ix_nI (by omega)]
theorem idx24b (i k j : Nat) : (24 : Int32) * nI i + nI k + nI j = nI (24 * i + k + j) := by rw [idx24, nI_add]
theorem cp1_l {N : Mem} {f p t a m : Nat} (hf : f < 4) (hm : p + m ≤ 24) : ∀ (k i n : Nat) (s : Mem), i + k = m → k < n → (∀ q, q ≠ 24 → s q = N q) → (∀ q, q < i → s 24 q = N 19 (24 * f + p + q)) → ∃ s2, f_X10_copy_l104 n (nI f) (nI p) (nI t) (nI a) (nI m) (nI i) s = f_X10_copy_l141 FU (nI t) (nI a) (nI m) (nI 0) s2 ∧ (∀ q, q ≠ 24 → s2 q = N q) ∧ ∀ q, q < m → s2 24 q = N 19 (24 * f + p + q)
  | 0, i, n + 1, s, hi, _, h1, h2 => by
    rw [f_X10_copy_l104, if_pos (fu_le (by omega) (by omega) (by omega))]
    exact ⟨s, rfl, h1, fun q hq => h2 q (by omega)⟩
  | k + 1, i, n + 1, s, hi, hk, h1, h2 => by
    rw [f_X10_copy_l104, if_neg (fu_nle (by omega) (by omega) (by omega)), rdl (24 * f + p + i) (idx24b f p i) (by omega) (by decide), wrn (by omega) (by decide), nm_t, z1, nI_add]
    refine cp1_l hf hm k (i + 1) n _ (by omega) (by omega) (fun q hq => (sto_n hq).trans (h1 q hq)) (fun q hq => ?_)
    by_cases w : q = i
    · rw [w, sto_ss, h1 19 (by decide)]
    · rw [sto_sn w]; exact h2 q (by omega)
theorem cp2_l {N : Mem} {t a m : Nat} (ht : t < 4) (hm : a + m ≤ 24) : ∀ (k i n : Nat) (s : Mem), i + k = m → k < n → (∀ q, q ≠ 19 → s q = N q) → (∀ q, (q < 24 * t + a ∨ 24 * t + a + m ≤ q) → s 19 q = N 19 q) → (∀ q, q < i → s 19 (24 * t + a + q) = N 24 q) → ∃ N2, f_X10_copy_l141 n (nI t) (nI a) (nI m) (nI i) s = some (nI m, N2) ∧ (∀ q, q ≠ 19 → N2 q = N q) ∧ (∀ q, (q < 24 * t + a ∨ 24 * t + a + m ≤ q) → N2 19 q = N 19 q) ∧ ∀ q, q < m → N2 19 (24 * t + a + q) = N 24 q
  | 0, i, n + 1, s, hi, _, h1, h2, h3 => by
    rw [f_X10_copy_l141, if_pos (fu_le (by omega) (by omega) (by omega))]
    exact ⟨s, rfl, h1, h2, fun q hq => h3 q (by omega)⟩
  | k + 1, i, n + 1, s, hi, hk, h1, h2, h3 => by
    rw [f_X10_copy_l141, if_neg (fu_nle (by omega) (by omega) (by omega)), rdn (by omega) (by decide), wrl (24 * t + a + i) (idx24b t a i) (by omega) (by decide), nm_t, z1, nI_add]
    refine cp2_l ht hm k (i + 1) n _ (by omega) (by omega) (fun q hq => (sto_n hq).trans (h1 q hq)) (fun q hq => (sto_sn (by omega)).trans (h2 q hq)) (fun q hq => ?_)
    by_cases w : q = i
    · rw [w, sto_ss, h1 24 (by decide)]
    · rw [sto_sn (by omega)]; exact h3 q (by omega)
theorem copy_ok {nl : Nat} {C N : Mem} (h : Rel nl C N) {f p t a m : Nat} (hf : f < 4) (ht : t < 4) (h1 : p + m ≤ 24) (h2 : a + m ≤ 24) : Sim nl (cp C (57 + 2 * f + 1) 24 (nI p) (57 + 2 * t + 1) 24 (nI a) (nI m) fun M18 => some (nI m, M18)) (f_X10_copy_l104 FU (nI f) (nI p) (nI t) (nI a) (nI m) 0 N) := by
  obtain ⟨s2, a1, a2, a3⟩ := cp1_l (N := N) (t := t) (a := a) hf h1 m 0 FU N (by omega) (FU_gt (by omega)) (fun _ _ => rfl) (fun q hq => absurd hq (by omega))
  obtain ⟨N2, b1, b2, b3, b4⟩ := cp2_l (N := s2) ht h2 m 0 FU s2 (by omega) (FU_gt (by omega)) (fun _ _ => rfl) (fun _ _ => rfl) (fun q hq => absurd hq (by omega))
  rw [cp_g h1 h2, show f_X10_copy_l104 FU (nI f) (nI p) (nI t) (nI a) (nI m) 0 N = _ from a1, b1]
  refine ⟨_, _, _, rfl, rfl, rel_sh h (fun k hk => up_n (by omega)) (fun k _ _ k19 k24 => (b2 k k19).trans (a2 k k24)) (fun j hj => ?_)⟩
  obtain ⟨s1, s2', s3, s4, s5⟩ := h.sheets j hj
  obtain ⟨-, -, -, -, f5⟩ := h.sheets f hf
  rw [up_n (by omega), b2 17 (by decide), b2 18 (by decide), a2 17 (by decide), a2 18 (by decide)]
  refine ⟨s1, s2', s3, s4, fun k hk => ?_⟩
  have o19 : s2 19 = N 19 := a2 19 (by decide)
  by_cases w : j = t
  · rw [w, show 58 + 2 * t = 57 + 2 * t + 1 by omega, up_s]
    by_cases p1 : a ≤ k ∧ k < a + m
    · have e4 := b4 (k - a) (by omega)
      rw [show 24 * t + a + (k - a) = 24 * t + k by omega, a3 (k - a) (by omega), show 24 * f + p + (k - a) = 24 * f + (p + (k - a)) by omega] at e4
      rw [pk_cpy_in p1.1 p1.2, e4, show 57 + 2 * f + 1 = 58 + 2 * f by omega]
      exact f5 (p + (k - a)) (by omega)
    · rw [pk_cpy_out (by omega), b3 _ (by omega), o19]
      rw [w] at s5
      have := s5 k hk
      rwa [show 58 + 2 * t = 57 + 2 * t + 1 by omega] at this
  · rw [up_n (by omega), b3 _ (by omega), o19]
    exact s5 k hk
theorem copy_s {nl : Nat} {C N : Mem} (h : Rel nl C N) (a1 a2 a3 a4 a5 : Int32) : Sim nl (f_X9_copy C a1 a2 a3 a4 a5) (f_X10_copy N a1 a2 a3 a4 a5) := by
  unfold f_X9_copy f_X10_copy
  rw [isSheet9_e, isSheet10_e, bd_s, bd_s]
  by_cases hc : 0 ≤ a1 ∧ a1 ≤ 3
  · rw [if1 hc, if1 hc, isSheet9_e, isSheet10_e, bd_s, bd_s]
    by_cases hc2 : 0 ≤ a3 ∧ a3 ≤ 3
    · obtain ⟨i, hi, ei⟩ := sheet_n hc
      obtain ⟨j, hj, ej⟩ := sheet_n hc2
      obtain ⟨s1, s2, s3, s4, s5⟩ := h.sheets i hi
      obtain ⟨u1, u2, u3, u4, u5⟩ := h.sheets j hj
      obtain ⟨m, hm, em⟩ := (show Bd (N 18 i) 0 ((24 : Nat) : Int) from s4).n
      obtain ⟨l, hl, el⟩ := (show Bd (N 18 j) 0 ((24 : Nat) : Int) from u4).n
      have r17 : ∀ (i : Nat), i < 4 → ∀ {β : Type} (f : Int32 → Option β), rd N 17 4 (nI i) f = f (N 17 i) := fun i hi _ f => rdn hi (by decide)
      have r18 : ∀ (i : Nat), i < 4 → ∀ {β : Type} (f : Int32 → Option β), rd N 18 4 (nI i) f = f (N 18 i) := fun i hi _ f => rdn hi (by decide)
      have neg : ∀ x : Int32, ¬ 0 ≤ x → x < 0 := fun x hx => i32lt.mpr (by have := mt i32le.mpr hx; omega)
      rw [if1 hc2, if1 hc2, ei, ej, ib_nI hi (by decide), ib_nI hj (by decide), gd_t, nm_t, gd_t, nm_t, ix_nI (by omega), ix_nI (by omega), r17 i hi]
      rcases miss_e s1 s3 with ⟨q1, q2⟩ | ⟨q1, q2⟩
      · rw [q1, bd_s, if_pos rfl, if_neg (show ¬ N 17 i < 0 from fun q => by have := i32lt.mp q; have := i32le.mp q2; omega), r17 j hj]
        rcases miss_e u1 u3 with ⟨p1, p2⟩ | ⟨p1, p2⟩
        · rw [p1, bd_s, if_pos rfl, if_pos p2, s1, u1, r17 i hi, r17 j hj]
          by_cases k : N 17 i = N 17 j
          · rw [if_pos k, if_pos k, hr_e hm (by rw [s2, em]), hr_e hl (by rw [u2, el]), bd_s, bd_s]
            have em' : (nI m).toInt = m := toI_nI (by omega)
            have el' : (nI l).toInt = l := toI_nI (by omega)
            have z : (0 : Int32).toInt = 0 := rfl
            have b5 := toInt_hi a5
            by_cases g2 : a2 < 0
            · have := i32lt.mp g2
              rw [if_pos g2, if0 (by rw [z] at this; omega)]
              exact sim_bad h _
            have e2 := mt i32lt.mpr g2
            rw [z] at e2
            rw [if_neg g2]
            by_cases g4 : a4 < 0
            · have := i32lt.mp g4
              rw [z] at this
              rw [if_pos g4]
              by_cases w : 0 ≤ a2.toInt ∧ 0 ≤ a5.toInt ∧ a2.toInt + a5.toInt ≤ (m : Int)
              · rw [if1 w, if0 (by omega)]; exact sim_bad h _
              · rw [if0 w]; exact sim_bad h _
            have e4 := mt i32lt.mpr g4
            rw [z] at e4
            rw [if_neg g4]
            by_cases g5 : a5 < 0
            · have := i32lt.mp g5
              rw [if_pos g5, if0 (by rw [z] at this; omega)]
              exact sim_bad h _
            have e5 := mt i32lt.mpr g5
            rw [z] at e5
            have x1 : (nI m - a5).toInt = m - a5.toInt := by rw [toI_sub (by rw [em']; omega) (by rw [em']; omega), em']
            have x2 : (nI l - a5).toInt = l - a5.toInt := by rw [toI_sub (by rw [el']; omega) (by rw [el']; omega), el']
            rw [if_neg g5, r18 i hi, em]
            by_cases g6 : nI m - a5 < a2
            · have := i32lt.mp g6
              rw [x1] at this
              rw [if_pos g6, if0 (by omega)]
              exact sim_bad h _
            have e6 := mt i32lt.mpr g6
            rw [x1] at e6
            rw [if_neg g6, if1 (show 0 ≤ a2.toInt ∧ 0 ≤ a5.toInt ∧ a2.toInt + a5.toInt ≤ (m : Int) by omega), r18 j hj, el]
            by_cases g7 : a4 ≤ nI l - a5
            · have := i32le.mp g7
              rw [x2] at this
              rw [if_pos g7, if1 (show 0 ≤ a4.toInt ∧ 0 ≤ a5.toInt ∧ a4.toInt + a5.toInt ≤ (l : Int) by omega)]
              obtain ⟨p, hp, ep⟩ := nI_rng (x := a2) 24 (by omega) (by omega)
              obtain ⟨a, ha, ea⟩ := nI_rng (x := a4) 24 (by omega) (by omega)
              obtain ⟨mm, hmm, emm⟩ := nI_rng (x := a5) 24 (by omega) (by omega)
              rw [ep, emm, toI_nI (by omega), toI_nI (by omega)] at e6
              rw [ea, emm, toI_nI (by omega), toI_nI (by omega)] at this
              rw [ep, ea, emm]
              exact copy_ok h hi hj (by omega) (by omega)
            · have := mt i32le.mpr g7
              rw [x2] at this
              rw [if_neg g7, if0 (by omega)]
              exact sim_bad h _
          · rw [if_neg k, if_neg k]; exact sim_bad h _
        · rw [p1, bd_s, if_neg (by decide), if_neg p2]; exact sim_bad h _
      · rw [q1, bd_s, if_neg (by decide), if_pos (neg _ q2)]; exact sim_bad h _
    · rw [if0 hc2, if0 hc2]; exact sim_bad h _
  · rw [if0 hc, if0 hc]; exact sim_bad h _
