/-! THE TEXTS, 10: a text more, in both -/
theorem dl_dp {b : List Int32} : ∀ (k i : Nat), i + k = b.length → dl (b.drop i) (dp (fun j => b.getD j 0) i) = some 1 → (∀ q, i ≤ q → q < b.length → (b.getD q 0 = -10 → 1 ≤ dp (fun j => b.getD j 0) q) ∧ (b.getD q 0 < 0 → ¬ b.getD q 0 = -10 → 2 ≤ dp (fun j => b.getD j 0) q)) ∧ dp (fun j => b.getD j 0) b.length = 1
  | 0, i, hi, h => by
    rw [List.drop_of_length_le (by omega), dl] at h
    have : i = b.length := by omega
    rw [this] at h
    exact ⟨fun q q1 q2 => by omega, Option.some.inj h⟩
  | k + 1, i, hi, h => by
    have hlt : i < b.length := by omega
    have e1 : b.drop i = b.getD i 0 :: b.drop (i + 1) := by
      rw [List.drop_eq_getElem_cons hlt, List.getD_eq_getElem?_getD, List.getElem?_eq_getElem hlt]
      rfl
    rw [e1, dl] at h
    have e2 : dp (fun j => b.getD j 0) (i + 1) = if b.getD i 0 < 0 then (if b.getD i 0 = -10 then dp (fun j => b.getD j 0) i else dp (fun j => b.getD j 0) i - 1) else dp (fun j => b.getD j 0) i + 1 := rfl
    have key : dl (b.drop (i + 1)) (dp (fun j => b.getD j 0) (i + 1)) = some 1 ∧ ((b.getD i 0 = -10 → 1 ≤ dp (fun j => b.getD j 0) i) ∧ (b.getD i 0 < 0 → ¬ b.getD i 0 = -10 → 2 ≤ dp (fun j => b.getD j 0) i)) := by
      rw [e2]
      by_cases q1 : b.getD i 0 < 0
      · rw [if_pos q1] at h
        rw [if_pos q1]
        by_cases q2 : b.getD i 0 = -10
        · rw [if_pos q2] at h
          rw [if_pos q2]
          by_cases q3 : 1 ≤ dp (fun j => b.getD j 0) i
          · rw [if_pos q3] at h
            exact ⟨h, fun _ => q3, fun _ z => absurd q2 z⟩
          · rw [if_neg q3] at h; cases h
        · rw [if_neg q2] at h
          rw [if_neg q2]
          by_cases q3 : 2 ≤ dp (fun j => b.getD j 0) i
          · rw [if_pos q3] at h
            exact ⟨h, fun z => absurd z q2, fun _ _ => q3⟩
          · rw [if_neg q3] at h; cases h
      · rw [if_neg q1] at h
        rw [if_neg q1]
        exact ⟨h, fun z => absurd (by rw [z]; decide) q1, fun z => absurd z q1⟩
    obtain ⟨r1, r2⟩ := dl_dp k (i + 1) (by omega) key.1
    refine ⟨fun q q1 q2 => ?_, r2⟩
    by_cases z : q = i
    · rw [z]; exact key.2
    · exact r1 q (by omega) q2
theorem CodeOK.vc {b : List Int32} (h : CodeOK b) : VC (fun j => b.getD j 0) b.length ∧ 1 ≤ b.length := by
  obtain ⟨h1, h2, h3⟩ := h
  obtain ⟨r1, r2⟩ := dl_dp (b := b) b.length 0 (by omega) (by rw [List.drop_zero]; exact h1)
  refine ⟨⟨fun k hk => ⟨?_, r1 k (by omega) hk⟩, r2⟩, ?_⟩
  · refine h2 _ ?_
    dsimp only
    rw [List.getD_eq_getElem?_getD, List.getElem?_eq_getElem hk]
    exact List.getElem_mem hk
  · cases b with
    | nil => rw [dl] at h1; exact absurd (Option.some.inj h1) (by decide)
    | cons x b => rw [List.length_cons]; omega
/-- the same hall where more Laws are -/
theorem HRel.grow {nl nl2 : Nat} {C C2 : Mem} {b : Nat} {R : Nat → Int32} (h : HRel nl C b R) (hle : nl ≤ nl2) (hc : ∀ j, j < 17 → C2 (HB b + j) = C (HB b + j)) (hl : ∀ k, 82 ≤ k → k < 82 + 2 * nl → C2 k = C k) : HRel nl2 C2 b R := by
  obtain ⟨⟨h1, h2, h3, h4, h5, h6, h7⟩, ⟨d1, d2, d3, d4, d5, d6⟩, hR⟩ := h
  have e0 : C2 (HB b) = C (HB b) := hc 0 (by decide)
  refine ⟨⟨by rw [hc 1 (by decide)]; exact h1, by rw [hc 6 (by decide)]; exact h2, fun d hd => by rw [hc 2 (by decide), hc 3 (by decide), hc 4 (by decide), hc 5 (by decide)]; exact h3 d hd, by rw [hc 1 (by decide)]; exact h4, fun t ht => ?_, fun k hk => by rw [hc 7 (by decide)]; exact h6 k hk, fun k w o a1 a2 a3 a4 => by rw [hc 9 (by decide)]; exact h7 k w o a1 a2 a3 a4⟩, ⟨by rw [e0]; exact d1, by rw [e0]; exact d2, by rw [e0]; exact d3, by rw [hc 11 (by decide)]; exact d4, fun r hr => by rw [hc 11 (by decide), hc 12 (by decide), hc 13 (by decide)]; exact d5 r hr, by rw [e0]; exact d6⟩, hR⟩
  obtain ⟨c, key, m, a1, a2, a3, a4, a5, a6, a7, a8, a9, a10, a11⟩ := h5 t ht
  exact ⟨c, key, m, a1, by omega, a3, a4, a5, by rw [hc 8 (by decide)]; exact a6, by rw [hl _ (by omega) (by omega)]; exact a7, a8, by rw [hl _ (by omega) (by omega)]; exact a9, by rw [hl _ (by omega) (by omega)]; exact a10, fun k hk => by rw [hl _ (by omega) (by omega)]; exact a11 k hk⟩
theorem lok_mono {nl nl2 : Nat} {v : Int32} (h : lok nl v = true) (hle : nl ≤ nl2) : lok nl2 v = true := by
  unfold lok at *
  rw [Bool.and_eq_true, decide_eq_true_eq, decide_eq_true_eq] at *
  omega
theorem LOK.grow {nl nl2 : Nat} {C C2 : Mem} {b : Nat} (h : LOK nl C b) (hle : nl ≤ nl2) (h8 : C2 (HB b + 8) = C (HB b + 8)) : LOK nl2 C2 b := fun i hi => by
  rw [h8]
  exact (h i hi).elim Or.inl (fun q => Or.inr (lok_mono q hle))
/-- the reference writes the text down -/
def RowT (R R2 : Nat → Int32) (T ky A : Nat) (b : List Int32) : Prop := R2 5 = nI (T + 1) ∧ R2 (88 + 2 * T) = nI (1000 * ky + b.length) ∧ R2 (89 + 2 * T) = nI A ∧ (∀ q, q < b.length → R2 (116 + 96 * T + q) = b.getD q 0) ∧ ∀ j, j ≠ 5 → j ≠ 88 + 2 * T → j ≠ 89 + 2 * T → (j < 116 + 96 * T ∨ 116 + 96 * T + b.length ≤ j) → R2 j = R j
theorem txt_l {N : Mem} {b : List Int32} {A T m : Nat} (hT : T < 14) (hm : m ≤ 96) (h5 : N 1 5 = nI T) (h20 : N 0 20 = nI m) : ∀ (k i n : Nat) (s : Mem), i + k = m → k < n → (∀ q, q ≠ 1 → s q = N q) → (∀ q, q < i → s 1 (116 + 96 * T + q) = N 12 q) → (∀ j, (j < 116 + 96 * T ∨ 116 + 96 * T + m ≤ j) → s 1 j = N 1 j) → ∃ N2, f_X10_text_l115 n (nI T) (nI i) s = some (nI T, N2) ∧ (∀ q, q ≠ 1 → N2 q = N q) ∧ N2 1 5 = nI (T + 1) ∧ (∀ q, q < m → N2 1 (116 + 96 * T + q) = N 12 q) ∧ ∀ j, j ≠ 5 → (j < 116 + 96 * T ∨ 116 + 96 * T + m ≤ j) → N2 1 j = N 1 j
  | 0, i, n + 1, s, hi, _, h1, h2, h3 => by
    rw [f_X10_text_l115, h1 0 (by decide), h20, if_pos (fu_le (by omega) (by omega) (by omega)), rdl 5 z5 (by decide) (by decide), h3 5 (by omega), h5, wrl 5 z5 (by decide) (by decide), z1, nI_add]
    exact ⟨_, rfl, fun q hq => by rw [sto_n hq]; exact h1 q hq, sto_ss, fun q hq => by rw [sto_sn (by omega)]; exact h2 q (by omega), fun j j5 hj => by rw [sto_sn j5]; exact h3 j hj⟩
  | k + 1, i, n + 1, s, hi, hk, h1, h2, h3 => by
    rw [f_X10_text_l115, h1 0 (by decide), h20, if_neg (fu_nle (by omega) (by omega) (by omega)), rdn (by omega) (by decide), h1 12 (by decide), wrl (116 + 96 * T + i) (by rw [show (116 : Int32) = nI 116 from rfl, show (96 : Int32) = nI 96 from rfl, pk_mul, nI_add, nI_add]) (by omega) (by decide), nm_t, show nI i + 1 = nI (i + 1) by rw [z1, nI_add]]
    refine txt_l (b := b) (A := A) hT hm h5 h20 k (i + 1) n _ (by omega) (by omega) (fun q hq => (sto_n hq).trans (h1 q hq)) (fun q hq => ?_) (fun j hj => (sto_sn (by omega)).trans (h3 j hj))
    by_cases z : q = i
    · rw [z, sto_ss]
    · rw [sto_sn (by omega)]; exact h2 q (by omega)
theorem txt_e {N : Mem} {b : List Int32} {A T ky : Nat} (hT : T < 14) (hm : b.length ≤ 96) (hk : ky ≤ 2) (h5 : N 1 5 = nI T) (h16 : N 0 16 = nI ky) (r : RS N b [] A) : ∃ N2, f_X10_text_j33 1 N = some (nI T, N2) ∧ (∀ q, q ≠ 0 → q ≠ 1 → N2 q = N q) ∧ (∀ j, j ≠ 10 → N2 0 j = N 0 j) ∧ N2 0 10 = 0 ∧ RowT (N 1) (N2 1) T ky A b := by
  obtain ⟨r1, r2, r3, r4, r5⟩ := r
  generalize hN4 : sto (sto (sto N 0 10 0) 1 (88 + 2 * T) (nI (1000 * ky + b.length))) 1 (89 + 2 * T) (nI A) = N4
  have o1 : ∀ q, q ≠ 0 → q ≠ 1 → N4 q = N q := fun q q0 q1 => by rw [← hN4, sto_n q1, sto_n q1, sto_n q0]
  have o0 : ∀ j, j ≠ 10 → N4 0 j = N 0 j := fun j hj => by rw [← hN4, sto_n (by decide), sto_n (by decide), sto_sn hj]
  have o10 : N4 0 10 = 0 := by rw [← hN4, sto_n (by decide), sto_n (by decide), sto_ss]
  have w1 : ∀ j, j ≠ 88 + 2 * T → j ≠ 89 + 2 * T → N4 1 j = N 1 j := fun j j1 j2 => by rw [← hN4, sto_sn j2, sto_sn j1, sto_n (by decide)]
  have w88 : N4 1 (88 + 2 * T) = nI (1000 * ky + b.length) := by rw [← hN4, sto_sn (by omega), sto_ss]
  have w89 : N4 1 (89 + 2 * T) = nI A := by rw [← hN4, sto_ss]
  obtain ⟨N2, t1, t2, t3, t4, t5⟩ := txt_l (N := N4) (b := b) (A := A) hT hm (by rw [w1 5 (by omega) (by omega)]; exact h5) (by rw [o0 20 (by decide)]; exact r1) b.length 0 FU N4 (by omega) (FU_gt (by omega)) (fun _ _ => rfl) (fun q hq => absurd hq (by omega)) (fun _ _ => rfl)
  refine ⟨N2, ?_, fun q q0 q1 => by rw [t2 q q1, o1 q q0 q1], fun j hj => by rw [t2 0 (by decide), o0 j hj], by rw [t2 0 (by decide)]; exact o10, t3, by rw [t5 _ (by omega) (by omega)]; exact w88, by rw [t5 _ (by omega) (by omega)]; exact w89, fun q hq => by rw [t4 q hq, o1 12 (by decide) (by decide), r2 q hq], fun j j5 j88 j89 hj => by rw [t5 j j5 hj, w1 j j88 j89]⟩
  unfold f_X10_text_j33
  rw [nm_t, if_neg (show ¬ (1 : Int32) = 0 by decide), rdl 5 z5 (by decide) (by decide), sto_n (show (1 : Nat) ≠ 0 by decide), h5, if_neg (by rw [show (14 : Int32) = nI 14 from rfl, eq_nI (by omega) (by decide)]; omega), rdl 5 z5 (by decide) (by decide), sto_n (show (1 : Nat) ≠ 0 by decide), h5, sto_sn (show (16 : Nat) ≠ 10 by decide), sto_sn (show (20 : Nat) ≠ 10 by decide), h16, r1, show (1000 : Int32) = nI 1000 from rfl, pk_mul, nI_add, wrl (88 + 2 * T) (by rw [show (88 : Int32) = nI 88 from rfl, z2, pk_mul, nI_add]) (by omega) (by decide), wrl (89 + 2 * T) (by rw [show (88 : Int32) = nI 88 from rfl, z2, pk_mul, nI_add, z1, nI_add, show 88 + 2 * T + 1 = 89 + 2 * T by omega]) (by omega) (by decide), sto_n (show (0 : Nat) ≠ 1 by decide), sto_sn (show (21 : Nat) ≠ 10 by decide), r5, hN4]
  exact t1
theorem RowT.old {R R2 : Nat → Int32} {T ky A : Nat} {b : List Int32} (h : RowT R R2 T ky A b) (hT14 : T < 14) (hm : b.length ≤ 96) {t : Nat} (ht : t < T) (hT : TextOK R t) : TextOK R2 t ∧ (∀ a c, evT R2 t a c = evT R t a c) ∧ R2 (88 + 2 * t) = R (88 + 2 * t) ∧ R2 (89 + 2 * t) = R (89 + 2 * t) ∧ ∀ q, q < 96 → R2 (116 + 96 * t + q) = R (116 + 96 * t + q) := by
  obtain ⟨h1, h2, h3, h4, h5⟩ := h
  have e88 := h5 (88 + 2 * t) (by omega) (by omega) (by omega) (by omega)
  have e89 := h5 (89 + 2 * t) (by omega) (by omega) (by omega) (by omega)
  have ec : ∀ q, q < 96 → R2 (116 + 96 * t + q) = R (116 + 96 * t + q) := fun q hq => h5 _ (by omega) (by omega) (by omega) (by omega)
  obtain ⟨key, m, g1, g2, g3, g4, g5⟩ := hT
  have em := (txt_m ⟨key, m, g1, g2, g3, g4, g5⟩ g1 g3 g4).2
  refine ⟨⟨key, m, g1, g2, g3, by rw [e88]; exact g4, VC_cong (fun j hj => ec j (by omega)) g5⟩, fun a c => ?_, e88, e89, ec⟩
  unfold evT valR
  rw [e88, em, evR_cong m (fun j hj => ec j (by omega))]
theorem RowT.cnt {R R2 : Nat → Int32} {T ky A : Nat} {b : List Int32} (h : RowT R R2 T ky A b) (hT : T < 14) (hm : b.length ≤ 96) (hk : ky ≤ 2) (e5 : R 5 = nI T) (k : Nat) (hk2 : k < 3) : cntR R2 (nI k) = if ky = k then nI T else cntR R (nI k) := by
  have e1 : ix (R2 5) = T + 1 := by rw [h.1]; exact ix_nI (by omega)
  have e2 : ix (R 5) = T := by rw [e5]; exact ix_nI (by omega)
  unfold cntR
  rw [e1, e2]
  have ed : R2 (88 + 2 * T) / 1000 = nI ky := by
    rw [h.2.1, show (1000 : Int32) = nI 1000 from rfl, pk_div (by omega) (by decide) (by decide), show (1000 * ky + b.length) / 1000 = ky by omega]
  have old : ∀ n, n ≤ T → cntL R2 (nI k) n = cntL R (nI k) n := by
    intro n
    induction n with
    | zero => intro _; rfl
    | succ n ih => intro hn; unfold cntL; rw [h.2.2.2.2 _ (by omega) (by omega) (by omega) (by omega), ih (by omega)]
  rw [cntL, ed, old T (Nat.le_refl _)]
  by_cases q : ky = k
  · rw [if_pos q, if_pos (by rw [q])]
  · rw [if_neg q, if_neg (by rw [eq_nI (by omega) (by omega)]; exact q)]
def lawM (nl : Nat) (C : Mem) : Mem := up (up C (80 + 2 * (nl + 1)) (fun j => if j = 0 then C 54 5 else C 54 6)) (81 + 2 * (nl + 1)) (fun j => if j = 1000 then C 54 8 else C 55 j)
def f_X9_text (nl : Nat) (M : Mem) : Option (Nat × Int32 × Mem) := bd2 (f_X4_faultFound M) fun r1 M1 => nm (sto M1 54 1 0) fun M2 => if r1 = -1000000005 then (if M2 (HB 0 + 6) 0 < 14 then gd (ib (M2 54 8) 96) (bd2 (f_X5_add (nl + 1) 0 (nl + 1) (lawM nl M2)) fun r M3 => some (nl + 1, r, M3)) else some (nl, -1000000003, M2)) else some (nl, -100 - r1, M2)
set_option maxHeartbeats 1000000 in
theorem text_s {nl : Nat} {C N : Mem} (hnl : nl < 90000) (h : Rel nl C N) : ∃ nl2 r C2 N2, f_X9_text nl C = some (nl2, r, C2) ∧ f_X10_text N = some (r, N2) ∧ Rel nl2 C2 N2 ∧ nl ≤ nl2 ∧ nl2 ≤ nl + 1 := by
  obtain ⟨t1, t2, t3⟩ := h.tape
  obtain ⟨w1, w2, w3⟩ := h.wait
  obtain ⟨L, hL, eL⟩ := (show Bd (N 0 10) 0 ((96 : Nat) : Int) from t1).n
  have hx : ix (N 0 10) = L := by rw [eL]; exact ix_nI (by omega)
  have kr : KeyRel N := h.2.2.2.2.2.2.2.2.2.2
  have T : Tp C N L (fun k => ix (N 9 k)) := by
    refine ⟨hL, by rw [t2, eL], eL, fun k hk => ?_⟩
    obtain ⟨b1, b2⟩ := t3 k (by rw [hx]; exact hk)
    obtain ⟨e1, e2⟩ := (show Bd (N 9 k) 0 ((255 : Nat) : Int) from b1).i
    refine ⟨by dsimp only; omega, e1, ?_⟩
    rw [b2]
    unfold b8
    rw [← e1]
  obtain ⟨r, C1, p1, p2, p3⟩ := parse_e T kr
  -- with the tape empty, all stays in relation
  have base : ∀ N1 : Mem, FrN2 N N1 → Rel nl (sto C1 54 1 0) (sto N1 0 10 0) := fun N1 f => by
    have oC : ∀ k, k ≠ 0 → k ≠ 54 → k ≠ 55 → sto C1 54 1 0 k = C k := fun k k0 k1 k2 => by rw [sto_n k1, p2 k k1 k2]
    have oZ : ∀ j, j ≠ 5 → sto C1 54 1 0 0 j = C 0 j := fun j hj => by rw [sto_n (by decide), p2 0 (by decide) (by decide)]
    have oN : ∀ k, k ≠ 0 → k ≠ 12 → k ≠ 13 → k ≠ 14 → sto N1 0 10 0 k = N k := fun k k0 k1 k2 k3 => by rw [sto_n k0, f.1 k k0 k1 k2 k3]
    have oNz : ∀ j, (j = 3 ∨ j = 36) → sto N1 0 10 0 0 j = N 0 j := fun j hj => by rw [sto_sn (by omega), f.2 j (by omega)]
    obtain ⟨g1, g2, g3, g4, ⟨⟨i1, i2⟩, o2, o3, o4, o5, o6, ⟨k1, k2⟩⟩⟩ := h
    have e1 := oN 1 (by decide) (by decide) (by decide) (by decide)
    refine ⟨by rw [e1]; exact g1.out (fun j hj => oC _ (by unfold HB; omega) (by unfold HB; omega) (by unfold HB; omega)) (fun k hk => oC k (by omega) (by omega) (by omega)), by rw [e1]; exact g2, fun i hi => by rw [oC _ (by decide) (by decide) (by decide)]; exact g3 i hi, fun i hi => by rw [oC _ (by decide) (by decide) (by decide)]; exact g4 i hi, ⟨by rw [oZ 2 (by decide), oNz 3 (by decide)]; exact i1, ?_⟩, fun i hi => by rw [oC _ (by decide) (by decide) (by decide)]; exact o2 i hi, ⟨by rw [sto_ss]; exact ⟨by decide, by decide⟩, by rw [sto_ss, sto_ss], fun k hk => ?_⟩, fun i hi => ?_, fun i hi => ?_, ⟨by rw [oNz 36 (by decide)]; exact w1, by rw [oZ 10 (by decide), oNz 36 (by decide)]; exact w2, fun k hk => ?_⟩, ⟨fun k hk => by rw [oN 10 (by decide) (by decide) (by decide) (by decide)]; exact k1 k hk, by rw [oN 11 (by decide) (by decide) (by decide) (by decide)]; exact k2⟩⟩
    · rw [oNz 3 (by decide), oN 2 (by decide) (by decide) (by decide) (by decide)]
      rcases i2 with q | ⟨q, q1, q2⟩
      · exact Or.inl q
      · exact Or.inr ⟨q, q1.out (fun j hj => oC _ (by unfold HB; omega) (by unfold HB; omega) (by unfold HB; omega)) (fun k hk => oC k (by omega) (by omega) (by omega)), q2⟩
    · rw [sto_ss, z0, ix_nI (by decide)] at hk; omega
    · rw [oC _ (by omega) (by omega) (by omega), oN 17 (by decide) (by decide) (by decide) (by decide), oN 18 (by decide) (by decide) (by decide) (by decide), oN 19 (by decide) (by decide) (by decide) (by decide), oC (58 + 2 * i) (by omega) (by omega) (by omega)]
      exact o4 i hi
    · rw [oC _ (by omega) (by omega) (by omega), oN 20 (by decide) (by decide) (by decide) (by decide), oN 21 (by decide) (by decide) (by decide) (by decide), oN 22 (by decide) (by decide) (by decide) (by decide), oN 23 (by decide) (by decide) (by decide) (by decide), oC (67 + 3 * i) (by omega) (by omega) (by omega), oC (68 + 3 * i) (by omega) (by omega) (by omega)]
      exact o5 i hi
    · rw [oNz 36 (by decide)] at hk
      rw [oN 25 (by decide) (by decide) (by decide) (by decide), oC 81 (by decide) (by decide) (by decide)]; exact w3 k hk
  unfold f_X9_text
  rw [p1, bd2_s, nm_t]
  rcases p3 with ⟨ky, b, A, N1, q1, q2, q3, q4, q5, q6, q7, q8, q9⟩ | ⟨a, N1, q1, q2, q3, q4, q5⟩
  · have rel0 := base N1 q9
    have hR0 := rel0.1
    have hR := hR0.2.2
    obtain ⟨Tn, hTn, eTn⟩ := (show Bd (sto N1 0 10 0 1 5) 0 ((14 : Nat) : Int) from hR.1.2.1).n
    have eN1 : N1 1 5 = nI Tn := by rw [← eTn, sto_n (by decide)]
    have eM : sto C1 54 1 0 (HB 0 + 6) 0 = nI Tn := by rw [hR0.1.2.1, eTn]
    have c8 : sto C1 54 1 0 54 8 = nI b.length := by rw [sto_sn (by decide)]; exact q8.1
    rw [if_pos q3, eM, q4]
    by_cases hfull : Tn = 14
    · rw [hfull, if_neg (by decide)]
      refine ⟨nl, _, _, _, rfl, ?_, rel0, by omega, by omega⟩
      unfold f_X10_text_j33
      rw [nm_t, if_neg (show ¬ (1 : Int32) = 0 by decide), rdl 5 z5 (by decide) (by decide), eTn, hfull, if_pos (show nI 14 = (14 : Int32) from rfl)]
    · have hT : Tn < 14 := by omega
      have hm2 := q2.2.2
      have hm : b.length ≤ 96 := by omega
      obtain ⟨vc, m1⟩ := q2.vc
      obtain ⟨N2, u1, u2, u3, u4, u5⟩ := txt_e hT hm q1 eN1 q5 q7
      rw [if_pos (by rw [show (14 : Int32) = nI 14 from rfl, lt_nI (by omega) (by decide)]; exact hT), c8, ib_nI (by omega) (by decide), gd_t]
      -- the class's side
      generalize hC0 : sto C1 54 1 0 = C0 at *
      have c0_5 : C0 54 5 = nI ky := by rw [← hC0, sto_sn (by decide)]; exact q6
      have c0_6 : C0 54 6 = nI A := by rw [← hC0, sto_sn (by decide)]; exact q8.2.2.1
      have c0_c : ∀ k, k < b.length → C0 55 k = cmC (b.getD k 0) := fun k hk => by rw [← hC0, sto_n (by decide)]; exact q8.2.1 k hk
      have oL : ∀ k, k < 82 + 2 * nl → lawM nl C0 k = C0 k := fun k hk => by unfold lawM; rw [up_n (by omega), up_n (by omega)]
      have l0 : lawM nl C0 (80 + 2 * (nl + 1)) = fun j => if j = 0 then C0 54 5 else C0 54 6 := by unfold lawM; rw [up_n (by omega), up_s]
      have l1 : lawM nl C0 (81 + 2 * (nl + 1)) = fun j => if j = 1000 then C0 54 8 else C0 55 j := by unfold lawM; rw [up_s]
      generalize hC3 : lawM nl C0 = C3 at *
      have k0 : C3 (80 + 2 * (nl + 1)) 0 = nI ky := by rw [l0]; exact c0_5
      generalize hC6 : sto (sto (sto C3 (HB 0 + 8) Tn (nI (nl + 1))) (HB 0 + 7) ky (nI Tn)) (HB 0 + 6) 0 (nI (Tn + 1)) = C6
      have o6 : ∀ k, k ≠ HB 0 + 6 → k ≠ HB 0 + 7 → k ≠ HB 0 + 8 → C6 k = C3 k := fun k a1 a2 a3 => by rw [← hC6, sto_n a1, sto_n a2, sto_n a3]
      have e6 : C6 (HB 0 + 6) 0 = nI (Tn + 1) := by rw [← hC6, sto_ss]
      have e7 : C6 (HB 0 + 7) ky = nI Tn := by rw [← hC6, sto_n (by decide), sto_ss]
      have e7' : ∀ k, k ≠ ky → C6 (HB 0 + 7) k = C3 (HB 0 + 7) k := fun k hk => by rw [← hC6, sto_n (by decide), sto_sn hk, sto_n (by decide)]
      have e8 : C6 (HB 0 + 8) Tn = nI (nl + 1) := by rw [← hC6, sto_n (by decide), sto_n (by decide), sto_ss]
      have e8' : ∀ i, i ≠ Tn → C6 (HB 0 + 8) i = C3 (HB 0 + 8) i := fun i hi => by rw [← hC6, sto_n (by decide), sto_n (by decide), sto_sn hi]
      have eAdd : f_X5_add (nl + 1) 0 (nl + 1) C3 = if ky = 0 then (bd (f_X5_workOutLets (nl + 1) 0 C6) fun M9 => some (nI Tn, M9)) else some (nI Tn, C6) := by
        unfold f_X5_add
        rw [nm_t, oL _ (by unfold HB; omega), eM, wrn hT (by decide), sto_n (show 80 + 2 * (nl + 1) ≠ HB 0 + 8 by unfold HB; omega), k0, wrn (by omega) (by decide), nm_t, sto_n (show HB 0 + 6 ≠ HB 0 + 7 by decide), sto_n (show HB 0 + 6 ≠ HB 0 + 8 by decide), oL _ (by unfold HB; omega), eM, show nI Tn + 1 = nI (Tn + 1) by rw [z1, nI_add], show Int32.ofNat (nl + 1) = nI (nl + 1) from rfl, hC6, o6 _ (by unfold HB; omega) (by unfold HB; omega) (by unfold HB; omega), k0]
        by_cases z : ky = 0
        · rw [if_pos (by rw [z]; rfl), if_pos z]
        · rw [if_neg (by rw [z0, eq_nI (by omega) (by decide)]; exact z), if_neg z]
      -- the row
      have eR : sto N1 0 10 0 1 = N1 1 := sto_n (by decide)
      rw [eR] at hR0 hR eTn
      have hst := hR.1
      have ixT : ix (N1 1 5) = Tn := by rw [eTn]; exact ix_nI (by omega)
      have ixT2 : ix (N2 1 5) = Tn + 1 := by rw [u5.1]; exact ix_nI (by omega)
      have lowR : ∀ j, j ≠ 5 → j < 88 → N2 1 j = N1 1 j := fun j j5 hj => u5.2.2.2.2 j j5 (by omega) (by omega) (by omega)
      have vc2 : VC (fun j => N2 1 (116 + 96 * Tn + j)) b.length := VC_cong (fun j hj => u5.2.2.2.1 j hj) vc
      have txtN : TextOK (N2 1) Tn := ⟨ky, b.length, q1, m1, hm, u5.2.1, vc2⟩
      have dk : ∀ d, d < ix (N2 1 1) → DoorOK (N2 1) d := fun d hd => by
        rw [lowR 1 (by omega) (by omega)] at hd
        have hd2 := (dn_b hst).2
        have := hR.2.2.1 d hd
        unfold DoorOK at *
        rw [lowR _ (by omega) (by omega), lowR (39 + 5 * d) (by omega) (by omega), lowR (40 + 5 * d) (by omega) (by omega), lowR (41 + 5 * d) (by omega) (by omega), lowR (42 + 5 * d) (by omega) (by omega)]
        exact this
      have stR : StrOK (N2 1) := ⟨by rw [lowR 1 (by omega) (by omega)]; exact hst.1, by rw [u5.1]; exact Bd_nI (by omega) (by omega) (by omega), fun d hd => ⟨(dk d hd).2.1, (dk d hd).2.2.1⟩, fun t ht => by
        rw [ixT2] at ht
        by_cases z : t = Tn
        · rw [z]; exact txtN
        · exact (u5.old hT hm (show t < Tn by omega) (hst.2.2.2 t (by rw [ixT]; omega))).1⟩
      have rowR : RowOK (N2 1) := ⟨stR, by rw [lowR 3 (by omega) (by omega)]; exact hR.2.1, dk, fun r hr => by rw [lowR _ (by omega) (by omega), lowR (7 + 4 * r) (by omega) (by omega)]; exact hR.2.2.2 r hr⟩
      obtain ⟨⟨g1, g2, g3, g4, g5, g6, g7⟩, ⟨d1, d2, d3, d4, d5, d6⟩, -⟩ := hR0
      have hT6 : HT (nl + 1) C6 0 (N2 1) := by
        refine ⟨by rw [e6, u5.1], fun t ht => ?_, fun k hk => ?_⟩
        · rw [ixT2] at ht
          by_cases z : t = Tn
          · rw [z]
            refine ⟨nl + 1, ky, b.length, by omega, by omega, q1, m1, hm, e8, ?_, u5.2.1, ?_, ?_, fun k hk => ?_⟩
            · rw [o6 _ (by unfold HB; omega) (by unfold HB; omega) (by unfold HB; omega)]; exact k0
            · rw [o6 _ (by unfold HB; omega) (by unfold HB; omega) (by unfold HB; omega), l0, u5.2.2.1]; exact c0_6
            · rw [o6 _ (by unfold HB; omega) (by unfold HB; omega) (by unfold HB; omega), l1]; exact c8
            · rw [o6 _ (by unfold HB; omega) (by unfold HB; omega) (by unfold HB; omega), l1, u5.2.2.2.1 k hk]
              dsimp only
              rw [if_neg (by omega)]
              exact c0_c k hk
          · have ht2 : t < Tn := by omega
            obtain ⟨c, key, m, a1, a2, a3, a4, a5, a6, a7, a8, a9, a10, a11⟩ := g5 t (by rw [ixT]; exact ht2)
            obtain ⟨-, -, e88, e89, ec⟩ := u5.old hT hm ht2 (hst.2.2.2 t (by rw [ixT]; exact ht2))
            have oc : ∀ k, 82 ≤ k → k < 82 + 2 * nl → C6 k = C0 k := fun k x1 x2 => by rw [o6 k (by unfold HB; omega) (by unfold HB; omega) (by unfold HB; omega), oL k x2]
            exact ⟨c, key, m, a1, by omega, a3, a4, a5, by rw [e8' t z, oL _ (by unfold HB; omega)]; exact a6, by rw [oc _ (by omega) (by omega)]; exact a7, by rw [e88]; exact a8, by rw [oc _ (by omega) (by omega), e89]; exact a9, by rw [oc _ (by omega) (by omega)]; exact a10, fun k hk => by rw [oc _ (by omega) (by omega), ec k (by omega)]; exact a11 k hk⟩
        · rw [u5.cnt hT hm q1 eTn k hk]
          by_cases z : ky = k
          · rw [← z, e7, if_pos rfl, if_pos (nI_pos' (by omega))]
          · rw [if_neg z, e7' k (fun y => z y.symm), oL _ (by unfold HB; omega)]
            exact g6 k hk
      -- what follows, given the lets
      have fin : ∀ C9 : Mem, (∀ j, j ≠ HB 0 + 9 → j ≠ HB 0 + 10 → C9 j = C6 j) → (∀ k w o : Nat, k < 6 → 1 ≤ w → w ≤ 9 → o ≤ 1 → C9 (HB 0 + 9) ((k * 10 + w) * 2 + o) = kLets (nI k) (plainR (N2 1) (nI w) (nI o)) (nI w) (nI o)) → Rel (nl + 1) C9 N2 := fun C9 oc9 hl => by
        have hT9 : HT (nl + 1) C9 0 (N2 1) := hT6.fr (oc9 _ (by decide) (by decide)) (oc9 _ (by decide) (by decide)) (oc9 _ (by decide) (by decide)) (fun k hk => oc9 k (by unfold HB; omega) (by unfold HB; omega))
        have oo : ∀ k, k ≠ HB 0 + 6 → k ≠ HB 0 + 7 → k ≠ HB 0 + 8 → k ≠ HB 0 + 9 → k ≠ HB 0 + 10 → k < 82 + 2 * nl → C9 k = C0 k := fun k a1 a2 a3 a4 a5 a6 => by rw [oc9 k a4 a5, o6 k a1 a2 a3, oL k a6]
        have hS : HS (nl + 1) C9 0 (N2 1) := ⟨by rw [oo _ (by decide) (by decide) (by decide) (by decide) (by decide) (by unfold HB; omega), lowR 1 (by omega) (by omega)]; exact g1, hT9.1, fun d hd => by
          rw [lowR 1 (by omega) (by omega)] at hd
          have hd2 := (dn_b hst).2
          rw [oo (HB 0 + 2) (by decide) (by decide) (by decide) (by decide) (by decide) (by unfold HB; omega), oo (HB 0 + 3) (by decide) (by decide) (by decide) (by decide) (by decide) (by unfold HB; omega), oo (HB 0 + 4) (by decide) (by decide) (by decide) (by decide) (by decide) (by unfold HB; omega), oo (HB 0 + 5) (by decide) (by decide) (by decide) (by decide) (by decide) (by unfold HB; omega), lowR _ (by omega) (by omega), lowR (39 + 5 * d) (by omega) (by omega), lowR (40 + 5 * d) (by omega) (by omega), lowR (41 + 5 * d) (by omega) (by omega)]
          exact g3 d hd, by
          have hd2 := (dn_b hst).2
          rw [oo _ (by decide) (by decide) (by decide) (by decide) (by decide) (by unfold HB; omega), lowR 1 (by omega) (by omega)]
          exact g4.cong (fun i hi => lowR _ (by omega) (by omega)), hT9.2.1, hT9.2.2, hl⟩
        have hD : HDy C9 0 (N2 1) := by
          have e0 : C9 (HB 0) = C0 (HB 0) := oo _ (by decide) (by decide) (by decide) (by decide) (by decide) (by unfold HB; omega)
          have e11 : C9 (HB 0 + 11) = C0 (HB 0 + 11) := oo _ (by decide) (by decide) (by decide) (by decide) (by decide) (by unfold HB; omega)
          have e12 : C9 (HB 0 + 12) = C0 (HB 0 + 12) := oo _ (by decide) (by decide) (by decide) (by decide) (by decide) (by unfold HB; omega)
          have e13 : C9 (HB 0 + 13) = C0 (HB 0 + 13) := oo _ (by decide) (by decide) (by decide) (by decide) (by decide) (by unfold HB; omega)
          exact ⟨by rw [e0, lowR 0 (by omega) (by omega)]; exact d1, by rw [e0, lowR 2 (by omega) (by omega)]; exact d2, by rw [e0, lowR 4 (by omega) (by omega)]; exact d3, by rw [e11, lowR 3 (by omega) (by omega)]; exact d4, fun r hr => by rw [e11, e12, e13, lowR _ (by omega) (by omega), lowR (7 + 4 * r) (by omega) (by omega), lowR (8 + 4 * r) (by omega) (by omega)]; exact d5 r hr, by rw [e0]; exact d6.cong (fun i hi => lowR _ (by omega) (by omega))⟩
        obtain ⟨f1, f2, f3, f4, ⟨⟨i1, i2⟩, o2, ⟨y1, y2, y3⟩, o4, o5, ⟨z1', z2', z3'⟩, ⟨k1, k2⟩⟩⟩ := rel0
        have oN : ∀ q, q ≠ 0 → q ≠ 1 → N2 q = sto N1 0 10 0 q := fun q q0 q1 => by rw [u2 q q0 q1, sto_n q0]
        have oz : ∀ j, N2 0 j = sto N1 0 10 0 0 j := fun j => by
          by_cases z : j = 10
          · rw [z, u4, sto_ss]
          · rw [u3 j z, sto_sn z]
        have ob : ∀ k, (k = 0 ∨ (18 ≤ k ∧ k < 82 + 2 * nl)) → C9 k = C0 k := fun k hk => oo k (by unfold HB; omega) (by unfold HB; omega) (by unfold HB; omega) (by unfold HB; omega) (by unfold HB; omega) (by omega)
        refine ⟨⟨hS, hD, rowR⟩, by rw [lowR 2 (by omega) (by omega)]; rw [eR] at f2; exact f2, fun i hi => ?_, f4.grow (by omega) (ob _ (by unfold HB; omega)), ⟨by rw [ob 0 (by omega), oz]; exact i1, ?_⟩, o2.grow (by omega) (ob _ (by unfold HB; omega)), ⟨by rw [oz]; exact y1, by rw [ob 54 (by omega), oz]; exact y2, fun k hk => ?_⟩, fun i hi => ?_, fun i hi => ?_, ⟨by rw [oz]; exact z1', by rw [ob 0 (by omega), oz]; exact z2', fun k hk => ?_⟩, ⟨fun k hk => by rw [oN 10 (by decide) (by decide)]; exact k1 k hk, by rw [oN 11 (by decide) (by decide)]; exact k2⟩⟩
        · rw [oc9 _ (by decide) (by decide)]
          by_cases z : i = Tn
          · right
            rw [z, e8]
            unfold lok
            rw [ix_nI (by omega)]
            simp
          · rw [e8' i z, oL _ (by unfold HB; omega)]
            exact (f3 i hi).elim Or.inl (fun q => Or.inr (lok_mono q (by omega)))
        · rw [oz, oN 2 (by decide) (by decide)]
          rcases i2 with q | ⟨q, q1, q2⟩
          · exact Or.inl q
          · exact Or.inr ⟨q, q1.grow (by omega) (fun j hj => ob _ (by unfold HB; omega)) (fun k x1 x2 => ob k (by omega)), q2⟩
        · rw [oz] at hk
          rw [oN 9 (by decide) (by decide), ob 53 (by omega)]; exact y3 k hk
        · rw [ob _ (by omega), oN 17 (by decide) (by decide), oN 18 (by decide) (by decide), oN 19 (by decide) (by decide), ob (58 + 2 * i) (by omega)]; exact o4 i hi
        · rw [ob _ (by omega), oN 20 (by decide) (by decide), oN 21 (by decide) (by decide), oN 22 (by decide) (by decide), oN 23 (by decide) (by decide), ob (67 + 3 * i) (by omega), ob (68 + 3 * i) (by omega)]; exact o5 i hi
        · rw [oz] at hk
          rw [oN 25 (by decide) (by decide), ob 81 (by omega)]; exact z3' k hk
      rw [eAdd]
      by_cases z : ky = 0
      · obtain ⟨C9, v1, v2, v3⟩ := wol_e (nl := nl + 1) (b := 0) (C := C6) (by decide) (by omega) hT6 stR
        rw [if_pos z, v1, bd_s, bd2_s]
        exact ⟨nl + 1, _, _, _, rfl, u1, fin C9 v2 v3, by omega, by omega⟩
      · rw [if_neg z, bd2_s]
        refine ⟨nl + 1, _, _, _, rfl, u1, fin C6 (fun _ _ _ => rfl) (fun k w o a1 a2 a3 a4 => ?_), by omega, by omega⟩
        rw [o6 _ (by decide) (by decide) (by decide), oL _ (by unfold HB; omega), g7 k w o a1 a2 a3 a4]
        have ec : cntR (N2 1) 0 = cntR (N1 1) 0 := by
          have := u5.cnt hT hm q1 eTn 0 (by decide)
          rw [if_neg z] at this
          exact this
        have : plainR (N2 1) (nI w) (nI o) = plainR (N1 1) (nI w) (nI o) := by
          unfold plainR
          rw [ec]
          by_cases y : 0 ≤ cntR (N1 1) 0
          · rcases cntR_s hst.2.1 0 with x | ⟨t, x1, x2, x3, -⟩
            · rw [x] at y; exact absurd y (by decide)
            · rw [if_pos y, if_pos y, x3, ix_nI (by omega), (u5.old hT hm (by rw [ixT] at x1; exact x1) (hst.2.2.2 t x1)).2.1]
          · rw [if_neg y, if_neg y]
        rw [this]
  · have ne : ¬ nI a = (-1000000005 : Int32) := none_ne (by omega)
    rw [q2, if_neg ne, q3]
    refine ⟨nl, _, _, _, rfl, ?_, base N1 q5, by omega, by omega⟩
    unfold f_X10_text_j33
    rw [nm_t, if_pos rfl, sto_sn (show (12 : Nat) ≠ 10 by decide), q4]
