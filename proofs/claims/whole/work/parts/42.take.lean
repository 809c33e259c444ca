/-! one hall becomes another -/
theorem cp_x {β : Type} {M : Mem} {k1 n1 k2 n2 n : Nat} (h1 : n ≤ n1) (h2 : n ≤ n2) (hn : n < 2147483648) : ∃ M2 : Mem, (∀ f : Mem → Option β, cp M k1 n1 0 k2 n2 0 (nI n) f = f M2) ∧ (∀ j, j ≠ k2 → M2 j = M j) ∧ ∀ i, i < n → M2 k2 i = M k1 i :=
  ⟨up M k2 (va_cpy (M k1) (M k2) 0 0 n), fun f => cp_t h1 h2 hn, fun _ hj => up_n hj, fun i hi => by rw [up_s, cpy0 hi]⟩
def Out (b : Nat) (C C2 : Mem) : Prop := ∀ k, (k < HB b ∨ HB b + 17 ≤ k) → C2 k = C k
theorem Out.tr {b : Nat} {C C2 C3 : Mem} (h : Out b C C2) (h2 : Out b C2 C3) : Out b C C3 := fun k hk => (h2 k hk).trans (h k hk)
theorem HB_apart {b b1 i : Nat} (h : b ≠ b1) (hi : i < 17) : HB b1 + i < HB b ∨ HB b + 17 ≤ HB b1 + i := by unfold HB; omega
set_option maxHeartbeats 1000000 in
theorem doorsTake {C : Mem} {b b1 : Nat} (hne : b ≠ b1) : ∃ C2, f_X0_takeFrom b b1 C = some C2 ∧ Out b C C2 ∧ C2 (HB b + 1) 0 = C (HB b1 + 1) 0 ∧ C2 (HB b + 1) 1 = C (HB b1 + 1) 1 ∧ ∀ i, i < 10 → C2 (HB b + 2) i = C (HB b1 + 2) i ∧ C2 (HB b + 3) i = C (HB b1 + 3) i ∧ C2 (HB b + 4) i = C (HB b1 + 4) i ∧ C2 (HB b + 5) i = C (HB b1 + 5) i := by
  have ap : ∀ i, i < 17 → ∀ j, j < 17 → HB b1 + i ≠ HB b + j := fun i hi j hj => by have := HB_apart hne hi; omega
  unfold f_X0_takeFrom
  rw [show (10 : Int32) = nI 10 from rfl, nm_t, nm_t]
  generalize hM2 : sto (sto C (HB b + 1) 0 (C (HB b1 + 1) 0)) (HB b + 1) 1 (sto C (HB b + 1) 0 (C (HB b1 + 1) 0) (HB b1 + 1) 1) = M2
  have o2 : ∀ k, k ≠ HB b + 1 → M2 k = C k := fun k hk => by rw [← hM2, sto_n hk, sto_n hk]
  have v0 : M2 (HB b + 1) 0 = C (HB b1 + 1) 0 := by rw [← hM2, sto_sn (by decide), sto_ss]
  have v1 : M2 (HB b + 1) 1 = C (HB b1 + 1) 1 := by rw [← hM2, sto_ss, sto_n (ap 1 (by decide) 1 (by decide))]
  obtain ⟨M3, p1, p2, p3⟩ := cp_x (β := Mem) (M := M2) (k1 := HB b1 + 2) (n1 := 10) (k2 := HB b + 2) (n2 := 10) (n := 10) (by decide) (by decide) (by decide)
  rw [p1]
  obtain ⟨M4, q1, q2, q3⟩ := cp_x (β := Mem) (M := M3) (k1 := HB b1 + 3) (n1 := 10) (k2 := HB b + 3) (n2 := 10) (n := 10) (by decide) (by decide) (by decide)
  rw [q1]
  obtain ⟨M5, r1, r2, r3⟩ := cp_x (β := Mem) (M := M4) (k1 := HB b1 + 4) (n1 := 10) (k2 := HB b + 4) (n2 := 10) (n := 10) (by decide) (by decide) (by decide)
  rw [r1]
  obtain ⟨M6, s1, s2, s3⟩ := cp_x (β := Mem) (M := M5) (k1 := HB b1 + 5) (n1 := 10) (k2 := HB b + 5) (n2 := 10) (n := 10) (by decide) (by decide) (by decide)
  rw [s1]
  have all : ∀ k, k ≠ HB b + 1 → k ≠ HB b + 2 → k ≠ HB b + 3 → k ≠ HB b + 4 → k ≠ HB b + 5 → M6 k = C k := fun k g1 g2 g3 g4 g5 => by rw [s2 k g5, r2 k g4, q2 k g3, p2 k g2, o2 k g1]
  refine ⟨M6, rfl, fun k hk => all k (by omega) (by omega) (by omega) (by omega) (by omega), ?_, ?_, fun i hi => ⟨?_, ?_, ?_, ?_⟩⟩
  · rw [s2 _ (by omega), r2 _ (by omega), q2 _ (by omega), p2 _ (by omega), v0]
  · rw [s2 _ (by omega), r2 _ (by omega), q2 _ (by omega), p2 _ (by omega), v1]
  · rw [s2 _ (by omega), r2 _ (by omega), q2 _ (by omega), p3 i hi, o2 _ (ap 2 (by decide) 1 (by decide))]
  · rw [s2 _ (by omega), r2 _ (by omega), q3 i hi, p2 _ (ap 3 (by decide) 2 (by decide)), o2 _ (ap 3 (by decide) 1 (by decide))]
  · rw [s2 _ (by omega), r3 i hi, q2 _ (ap 4 (by decide) 3 (by decide)), p2 _ (ap 4 (by decide) 2 (by decide)), o2 _ (ap 4 (by decide) 1 (by decide))]
  · rw [s3 i hi, r2 _ (ap 5 (by decide) 4 (by decide)), q2 _ (ap 5 (by decide) 3 (by decide)), p2 _ (ap 5 (by decide) 2 (by decide)), o2 _ (ap 5 (by decide) 1 (by decide))]
/-- which Laws a hall's row may name -/
def LOK (nl : Nat) (C : Mem) (b : Nat) : Prop := ∀ i, i < 14 → C (HB b + 8) i = 0 ∨ lok nl (C (HB b + 8) i) = true
set_option maxHeartbeats 1000000 in
theorem lawsTake {nl : Nat} {C : Mem} {b b1 : Nat} (hne : b ≠ b1) (hL : LOK nl C b1) : ∃ C2, f_X5_takeFrom nl b b1 C = some C2 ∧ Out b C C2 ∧ C2 (HB b + 6) 0 = C (HB b1 + 6) 0 ∧ (∀ i, i < 3 → C2 (HB b + 7) i = C (HB b1 + 7) i) ∧ (∀ i, i < 14 → C2 (HB b + 8) i = C (HB b1 + 8) i) ∧ (∀ i, i < 120 → C2 (HB b + 9) i = C (HB b1 + 9) i) ∧ ∀ j, j < 17 → j ≠ 6 → j ≠ 7 → j ≠ 8 → j ≠ 9 → C2 (HB b + j) = C (HB b + j) := by
  have ap : ∀ i, i < 17 → ∀ j, j < 17 → HB b1 + i ≠ HB b + j := fun i hi j hj => by have := HB_apart hne hi; omega
  unfold f_X5_takeFrom
  rw [nm_t, z0]
  generalize hM : sto C (HB b + 6) (ix (nI 0)) (C (HB b1 + 6) 0) = M1
  have hM' : sto C (HB b + 6) 0 (C (HB b1 + 6) 0) = M1 := by rw [← hM]; rfl
  rw [hM']
  have o1 : ∀ k, k ≠ HB b + 6 → M1 k = C k := fun k hk => by rw [← hM', sto_n hk]
  have v6 : M1 (HB b + 6) 0 = C (HB b1 + 6) 0 := by rw [← hM', sto_ss]
  refine lpR (fun n d s => f_X5_takeFrom_l10 nl b b1 n (nI d) s) (fun d s => (∀ k, k ≠ HB b + 8 → s k = M1 k) ∧ ∀ i, i < d → s (HB b + 8) i = C (HB b1 + 8) i) (fun o => ∃ C2, o = some C2 ∧ Out b C C2 ∧ C2 (HB b + 6) 0 = C (HB b1 + 6) 0 ∧ (∀ i, i < 3 → C2 (HB b + 7) i = C (HB b1 + 7) i) ∧ (∀ i, i < 14 → C2 (HB b + 8) i = C (HB b1 + 8) i) ∧ (∀ i, i < 120 → C2 (HB b + 9) i = C (HB b1 + 9) i) ∧ ∀ j, j < 17 → j ≠ 6 → j ≠ 7 → j ≠ 8 → j ≠ 9 → C2 (HB b + j) = C (HB b + j)) 14 ?_ ?_ 14 0 FU M1 rfl (FU_gt (by decide)) ⟨fun _ _ => rfl, fun i hi => absurd hi (Nat.not_lt_zero i)⟩
  · intro n d s hd ⟨i1, i2⟩
    left
    have e8 : s (HB b1 + 8) d = C (HB b1 + 8) d := by rw [i1 _ (ap 8 (by decide) 8 (by decide)), o1 _ (ap 8 (by decide) 6 (by decide))]
    refine ⟨sto s (HB b + 8) d (C (HB b1 + 8) d), ?_, fun k hk => by rw [sto_n hk, i1 k hk], fun i hi => ?_⟩
    · rw [f_X5_takeFrom_l10, if_neg (by rw [show (14 : Int32) = nI 14 from rfl, le_nI (by omega) (by omega)]; omega), rdn hd (by decide), e8]
      by_cases h0 : C (HB b1 + 8) d = 0
      · rw [if_pos h0, wrn hd (by decide), nm_t, nI_1, h0]
      · rw [if_neg h0]
        rcases hL d hd with h | h
        · exact absurd h h0
        · rw [h, gd_t, nm_t, wrn hd (by decide), nm_t, nI_1]
    · by_cases e : i = d
      · subst e; rw [sto_ss]
      · rw [sto_sn e]; exact i2 i (by omega)
  · intro n s ⟨i1, i2⟩
    rw [f_X5_takeFrom_l10, if_pos (show (14 : Int32) ≤ nI 14 by decide), show (3 : Int32) = nI 3 from rfl, show (120 : Int32) = nI 120 from rfl]
    obtain ⟨M3, p1, p2, p3⟩ := cp_x (β := Mem) (M := s) (k1 := HB b1 + 7) (n1 := 3) (k2 := HB b + 7) (n2 := 3) (n := 3) (by decide) (by decide) (by decide)
    rw [p1]
    obtain ⟨M4, q1, q2, q3⟩ := cp_x (β := Mem) (M := M3) (k1 := HB b1 + 9) (n1 := 120) (k2 := HB b + 9) (n2 := 120) (n := 120) (by decide) (by decide) (by decide)
    rw [q1]
    have all : ∀ k, k ≠ HB b + 6 → k ≠ HB b + 7 → k ≠ HB b + 8 → k ≠ HB b + 9 → M4 k = C k := fun k g1 g2 g3 g4 => by rw [q2 k g4, p2 k g2, i1 k g3, o1 k g1]
    refine ⟨M4, rfl, fun k hk => all k (by omega) (by omega) (by omega) (by omega), ?_, fun i hi => ?_, fun i hi => ?_, fun i hi => ?_, fun j hj a1 a2 a3 a4 => all _ (by omega) (by omega) (by omega) (by omega)⟩
    · rw [q2 _ (by omega), p2 _ (by omega), i1 _ (by omega), v6]
    · rw [q2 _ (by omega), p3 i hi, i1 _ (ap 7 (by decide) 8 (by decide)), o1 _ (ap 7 (by decide) 6 (by decide))]
    · rw [q2 _ (by omega), p2 _ (by omega)]; exact i2 i hi
    · rw [q3 i hi, p2 _ (ap 9 (by decide) 7 (by decide)), i1 _ (ap 9 (by decide) 8 (by decide)), o1 _ (ap 9 (by decide) 6 (by decide))]
theorem letIdx {k w o : Nat} (h1 : k < 6) (h2 : w ≤ 9) (h3 : o ≤ 1) : (k * 10 + w) * 2 + o < 120 := by omega
set_option maxHeartbeats 1000000 in
theorem takeFrom_c {nl : Nat} {C : Mem} {b b1 : Nat} {R : Nat → Int32} (hb : b < 3) (hb1 : b1 < 3) (hne : b ≠ b1) (h : HRel nl C b1 R) (hL : LOK nl C b1) : ∃ C2, f_X1_takeFrom nl b b1 C = some C2 ∧ HRel nl C2 b R ∧ Out b C C2 ∧ LOK nl C2 b := by
  have hB := HB_lt hb
  have ap : ∀ i, i < 17 → ∀ j, j < 17 → HB b1 + i ≠ HB b + j := fun i hi j hj => by have := HB_apart hne hi; omega
  obtain ⟨⟨h1, h2, h3, h4, h5, h6, h7⟩, ⟨d1, d2, d3, d4, d5, d6⟩, hR⟩ := h
  have hD := (dn_b hR.1).2
  have hT := ((show Bd (R 5) 0 ((14 : Nat) : Int) from hR.1.2.1).i).2
  unfold f_X1_takeFrom
  obtain ⟨C1, a1, a2, a3, a4, a5⟩ := doorsTake (C := C) hne
  rw [a1, bd_s]
  have same1 : ∀ i, i < 17 → C1 (HB b1 + i) = C (HB b1 + i) := fun i hi => a2 _ (HB_apart hne hi)
  obtain ⟨C2, b1', b2, b3, b4, b5, b6, b7⟩ := lawsTake (nl := nl) (C := C1) hne (fun i hi => by rw [same1 8 (by decide)]; exact hL i hi)
  rw [b1', bd_s]
  have same2 : ∀ i, i < 17 → C2 (HB b1 + i) = C (HB b1 + i) := fun i hi => (b2 _ (HB_apart hne hi)).trans (same1 i hi)
  unfold f_X1_takeAirFrom
  rw [show (9 : Int32) = nI 9 from rfl, show (8 : Int32) = nI 8 from rfl]
  obtain ⟨C3, p1, p2, p3⟩ := cp_x (β := Mem) (M := C2) (k1 := HB b1 + 11) (n1 := 9) (k2 := HB b + 11) (n2 := 9) (n := 9) (by decide) (by decide) (by decide)
  rw [p1, bd_s]
  obtain ⟨C4, q1, q2, q3⟩ := cp_x (β := Mem) (M := C3) (k1 := HB b1 + 12) (n1 := 8) (k2 := HB b + 12) (n2 := 8) (n := 8) (by decide) (by decide) (by decide)
  rw [q1]
  obtain ⟨C5, r1, r2, r3⟩ := cp_x (β := Mem) (M := C4) (k1 := HB b1 + 13) (n1 := 8) (k2 := HB b + 13) (n2 := 8) (n := 8) (by decide) (by decide) (by decide)
  rw [r1, nm_t, nm_t, nm_t, nm_t]
  have n0 : HB b1 ≠ HB b := ap 0 (by decide) 0 (by decide)
  have src : ∀ j, C5 (HB b1) j = C (HB b1) j := fun j => by
    rw [r2 (HB b1) (ap 0 (by decide) 13 (by decide)), q2 (HB b1) (ap 0 (by decide) 12 (by decide)), p2 (HB b1) (ap 0 (by decide) 11 (by decide))]
    exact congrFun (same2 0 (by decide)) j
  generalize hM : sto (sto (sto (sto C5 (HB b) 5 (C5 (HB b1) 5)) (HB b) 6 (sto C5 (HB b) 5 (C5 (HB b1) 5) (HB b1) 6)) (HB b) 7 (sto (sto C5 (HB b) 5 (C5 (HB b1) 5)) (HB b) 6 (sto C5 (HB b) 5 (C5 (HB b1) 5) (HB b1) 6) (HB b1) 7)) (HB b) 8 (sto (sto (sto C5 (HB b) 5 (C5 (HB b1) 5)) (HB b) 6 (sto C5 (HB b) 5 (C5 (HB b1) 5) (HB b1) 6)) (HB b) 7 (sto (sto C5 (HB b) 5 (C5 (HB b1) 5)) (HB b) 6 (sto C5 (HB b) 5 (C5 (HB b1) 5) (HB b1) 6) (HB b1) 7) (HB b1) 8) = M
  have oM : ∀ k, k ≠ HB b → M k = C5 k := fun k hk => by rw [← hM, sto_n hk, sto_n hk, sto_n hk, sto_n hk]
  have m5 : M (HB b) 5 = C (HB b1) 5 := by rw [← hM, sto_sn (by decide), sto_sn (by decide), sto_sn (by decide), sto_ss, src]
  have m6 : M (HB b) 6 = C (HB b1) 6 := by rw [← hM, sto_sn (by decide), sto_sn (by decide), sto_ss, sto_n n0, src]
  have m7 : M (HB b) 7 = C (HB b1) 7 := by rw [← hM, sto_sn (by decide), sto_ss, sto_n n0, sto_n n0, src]
  have m8 : M (HB b) 8 = C (HB b1) 8 := by rw [← hM, sto_ss, sto_n n0, sto_n n0, sto_n n0, src]
  have row : ∀ j, 1 ≤ j → j < 11 → M (HB b + j) = C2 (HB b + j) := fun j g1 g2 => by rw [oM _ (by omega), r2 _ (by omega), q2 _ (by omega), p2 _ (by omega)]
  have out : Out b C M := fun k hk => by rw [oM k (by omega), r2 k (by omega), q2 k (by omega), p2 k (by omega), b2 k hk, a2 k hk]
  refine ⟨M, rfl, ⟨⟨?_, ?_, fun d hd => ?_, ?_, fun t ht => ?_, fun k hk => ?_, fun k w o g1 g2 g3 g4 => ?_⟩, ⟨?_, ?_, ?_, ?_, fun r hr => ⟨?_, ?_, ?_⟩, ?_⟩, hR⟩, out, fun i hi => ?_⟩
  · rw [row 1 (by decide) (by decide), b7 1 (by decide) (by decide) (by decide) (by decide) (by decide), a3]; exact h1
  · rw [row 6 (by decide) (by decide), b3, same1 6 (by decide)]; exact h2
  · have g := a5 d (by omega)
    rw [row 2 (by decide) (by decide), row 3 (by decide) (by decide), row 4 (by decide) (by decide), row 5 (by decide) (by decide), b7 2 (by decide) (by decide) (by decide) (by decide) (by decide), b7 3 (by decide) (by decide) (by decide) (by decide) (by decide), b7 4 (by decide) (by decide) (by decide) (by decide) (by decide), b7 5 (by decide) (by decide) (by decide) (by decide) (by decide), g.1, g.2.1, g.2.2.1, g.2.2.2]
    exact h3 d hd
  · rw [row 1 (by decide) (by decide), b7 1 (by decide) (by decide) (by decide) (by decide) (by decide), a4]; exact h4
  · obtain ⟨c, key, m, x1, x2, x3, x4, x5, x6, x7, x8, x9, x10, x11⟩ := h5 t ht
    have ol : ∀ k, 82 ≤ k → M k = C k := fun k hk => out k (by omega)
    refine ⟨c, key, m, x1, x2, x3, x4, x5, ?_, by rw [ol _ (by omega)]; exact x7, x8, by rw [ol _ (by omega)]; exact x9, by rw [ol _ (by omega)]; exact x10, fun k hk => by rw [ol _ (by omega)]; exact x11 k hk⟩
    rw [row 8 (by decide) (by decide), b5 t (by omega), same1 8 (by decide)]; exact x6
  · rw [row 7 (by decide) (by decide), b4 k hk, same1 7 (by decide)]; exact h6 k hk
  · rw [row 9 (by decide) (by decide), b6 _ (letIdx g1 g3 g4), same1 9 (by decide)]; exact h7 k w o g1 g2 g3 g4
  · rw [m8]; exact d1
  · rw [m7]; exact d2
  · rw [m6]; exact d3
  · rw [oM _ (by omega), r2 _ (by omega), q2 _ (by omega), p3 8 (by decide), same2 11 (by decide)]; exact d4
  · rw [oM _ (by omega), r2 _ (by omega), q2 _ (by omega), p3 r (by omega), same2 11 (by decide)]; exact (d5 r hr).1
  · rw [oM _ (by omega), r2 _ (by omega), q3 r hr, p2 _ (ap 12 (by decide) 11 (by decide)), same2 12 (by decide)]; exact (d5 r hr).2.1
  · rw [oM _ (by omega), r3 r hr, q2 _ (ap 13 (by decide) 12 (by decide)), p2 _ (ap 13 (by decide) 11 (by decide)), same2 13 (by decide)]; exact (d5 r hr).2.2
  · rw [m5]; exact d6
  · rw [row 8 (by decide) (by decide), b5 i hi, same1 8 (by decide)]; exact hL i hi
