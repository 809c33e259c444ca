/-! THE TEXTS, 6: the class reads by levels, the reference by what waits -/
def Bad (C N C2 : Mem) (q : Option (Int32 × Mem)) : Prop := ∃ a2 N2, a2 ≤ 96 ∧ C2 54 9 = nI a2 ∧ Bd (C2 54 8) 0 96 ∧ FrC C C2 ∧ q = some (0, N2) ∧ N2 0 12 = nI a2 ∧ FrN N N2
def GoodP (C N C2 : Mem) (L : Nat) (t : Nat → Nat) (ky a br c j : Nat) (E W0 : List Int32) (q : Option (Int32 × Mem)) : Prop := ∃ N2 n2 a2 e2 b A2, a ≤ a2 ∧ q = f_X10_takesE_l28 n2 (nI br) (nI (c - j)) 0 N2 ∧ L + 2 ≤ n2 + a2 ∧ Blk b ∧ PS C2 N2 L t ky a2 e2 (E ++ b) (E ++ b ++ List.replicate j (-10)) W0 A2 ∧ (∀ i, i ≤ br → N2 14 i = N 14 i) ∧ FrC C C2 ∧ FrN N N2
def GoodL (C N C2 : Mem) (L : Nat) (t : Nat → Nat) (ky a br c l : Nat) (E W : List Int32) (q : Option (Int32 × Mem)) : Prop := ∃ N2 n2 a2 e2 b A2 E2 pend, a ≤ a2 ∧ q = f_X10_takesE_l28 n2 (nI br) (nI c) 0 N2 ∧ L + 2 ≤ n2 + a2 ∧ Blk b ∧ PS C2 N2 L t ky a2 e2 (E ++ b) E2 (W ++ pend) A2 ∧ E ++ b = E2 ++ pend.reverse ∧ (∀ x, x ∈ pend → OpOK l x) ∧ (∀ i, i < br → N2 14 i = N 14 i) ∧ (N2 14 br = 0 ∨ N2 14 br = 1) ∧ (3 ≤ l → N2 14 br = N 14 br) ∧ (C2 54 4 = 3 → rk (t a2) ≤ l ∨ (rk (t a2) = 3 ∧ N2 14 br = 1)) ∧ FrC C C2 ∧ FrN N N2
def PLd (d : Nat) : Prop := ∀ (l br c n L ky a e A : Nat) (t : Nat → Nat) (C N : Mem) (E W : List Int32), l ≤ 5 → br ≤ 8 → c ≤ 8 → cN W = c → topOK W (l + 1) → PS C N L t ky a e E E W A → (N 14 br = 0 ∨ N 14 br = 1) → (l ≤ 2 → N 14 br = 0) → 7 * (8 - br) + (8 - c) + (6 - l) + 1 ≤ d → L + 2 ≤ n + a → ∃ C2, (RR d).1 C (nI l) (nI br) (nI c) = some C2 ∧ (GoodL C N C2 L t ky a br c l E W (f_X10_takesE_l28 n (nI br) (nI c) 1 N) ∨ Bad C N C2 (f_X10_takesE_l28 n (nI br) (nI c) 1 N))
def PPd (d : Nat) : Prop := ∀ (br c j n L ky a e A : Nat) (t : Nat → Nat) (C N : Mem) (E W0 : List Int32), br ≤ 8 → c ≤ 8 → cN (W0 ++ List.replicate j (-10)) = c → topOK W0 6 → PS C N L t ky a e E E (W0 ++ List.replicate j (-10)) A → 7 * (8 - br) + (8 - c) + 1 ≤ d → L + 2 ≤ n + a → ∃ C2, (RR d).2 C (nI br) (nI c) = some C2 ∧ (GoodP C N C2 L t ky a br c j E W0 (f_X10_takesE_l28 n (nI br) (nI c) 1 N) ∨ Bad C N C2 (f_X10_takesE_l28 n (nI br) (nI c) 1 N))
theorem Lx.fr {C C2 N : Mem} {L a e : Nat} {t : Nat → Nat} (h : Lx C N L t a e) (h2 : C2 54 2 = C 54 2) (h3 : C2 54 3 = C 54 3) (h4 : C2 54 4 = C 54 4) : Lx C2 N L t a e := by
  unfold Lx K0 K1 K2 K3 K4 at *
  rw [h2, h3, h4]
  exact h
theorem PS.put {C N : Mem} {L ky a e A : Nat} {t : Nat → Nat} {Ec E W : List Int32} (h : PS C N L t ky a e Ec E W A) {x y : Int32} (hy : y = cmC x) (hl : Ec.length < 96) : ∃ C2, f_X4_put C y = some C2 ∧ PS C2 N L t ky a e (Ec ++ [x]) E W A ∧ FrC C C2 ∧ C2 54 4 = C 54 4 := by
  obtain ⟨T, c5, n16, hk, x0, r, c, hlen⟩ := h
  obtain ⟨p1, p2⟩ := c.put hy hl
  have e54 : ∀ j, j ≠ 8 → sto (sto C 55 Ec.length y) 54 8 (nI (Ec.length + 1)) 54 j = C 54 j := fun j hj => by rw [sto_sn hj, sto_n (by decide)]
  have eo : ∀ k, k ≠ 54 → k ≠ 55 → sto (sto C 55 Ec.length y) 54 8 (nI (Ec.length + 1)) k = C k := fun k h1 h2 => by rw [sto_n h1, sto_n h2]
  exact ⟨_, p1, ⟨T.fr (eo 53 (by decide) (by decide)) (e54 1 (by decide)) rfl rfl, by rw [e54 5 (by decide)]; exact c5, n16, hk, x0.fr (e54 2 (by decide)) (e54 3 (by decide)) (e54 4 (by decide)), r, p2, hlen⟩, ⟨eo, e54 1 (by decide), e54 5 (by decide)⟩, e54 4 (by decide)⟩
theorem Lx.k3 {C N : Mem} {L a e : Nat} {t : Nat → Nat} (h : Lx C N L t a e) (h4 : C 54 4 = 3) : K3 C N t a e := by
  obtain ⟨x1, x2, x3, x4, x5, x6, x7⟩ := h
  rcases x7 with q | q | q | q | q
  · rw [q.1] at h4; exact absurd h4 (by decide)
  · rw [q.1] at h4; exact absurd h4 (by decide)
  · rw [q.1] at h4; exact absurd h4 (by decide)
  · exact q
  · rcases q.2.1 with w | w
    · rw [w] at h4; exact absurd h4 (by decide)
    · rw [w.1] at h4; exact absurd h4 (by decide)
/-- a fault stays behind a put -/
theorem Bad.put {C N C2 : Mem} {q : Option (Int32 × Mem)} (h : Bad C N C2 q) (y : Int32) : ∃ C3, f_X4_put C2 y = some C3 ∧ Bad C N C3 q ∧ ¬ C3 54 9 = -1000000005 := by
  obtain ⟨a2, N2, h1, h2, h3, h4, h5, h6, h7⟩ := h
  obtain ⟨C3, p1, p2, p3, p4⟩ := put_f C2 y h3
  exact ⟨C3, p1, ⟨a2, N2, h1, by rw [p3 9 (by decide)]; exact h2, p4, h4.tr ⟨p2, p3 1 (by decide), p3 5 (by decide)⟩, h5, h6, h7⟩, by rw [p3 9 (by decide), h2]; exact none_ne (by omega)⟩
theorem Bad.ne {C N C2 : Mem} {q : Option (Int32 × Mem)} (h : Bad C N C2 q) : ¬ C2 54 9 = -1000000005 := by
  obtain ⟨a2, N2, h1, h2, h3⟩ := h
  rw [h2]
  exact none_ne (by omega)
theorem Bad.tr {C N C1 N1 C2 : Mem} {q : Option (Int32 × Mem)} (hc : FrC C C1) (hn : FrN N N1) (h : Bad C1 N1 C2 q) : Bad C N C2 q := by
  obtain ⟨a2, N2, h1, h2, h3, h4, h5, h6, h7⟩ := h
  exact ⟨a2, N2, h1, h2, h3, hc.tr h4, h5, h6, hn.tr h7⟩
/-- the fault is here -/
theorem bad_here {C N : Mem} {L ky a e A : Nat} {t : Nat → Nat} {Ec E W : List Int32} (h : PS C N L t ky a e Ec E W A) (hE : Ec.length ≤ 96) {N2 : Mem} (h1 : N2 0 12 = nI a) (h2 : FrN N N2) : Bad C N (sto C 54 9 (C 54 2)) (some (0, N2)) := by
  obtain ⟨T, c5, n16, hk, x0, r, c, hlen⟩ := h
  have hL := T.1
  obtain ⟨x1, x2, x3, x4, x5, x6, x7⟩ := x0
  exact ⟨a, N2, by omega, by rw [sto_ss, x1], by rw [sto_sn (by decide), c.1]; exact Bd_nI (by omega) (by omega) (by omega), ⟨fun k k1 _ => sto_n k1, sto_sn (by decide), sto_sn (by decide)⟩, rfl, h1, h2⟩
set_option maxHeartbeats 1000000 in
theorem lvl_l {d l br c L ky : Nat} {t : Nat → Nat} {E0 W : List Int32} (hP : PLd d) (hl : l ≤ 4) (hbr : br ≤ 8) (hc : c ≤ 8) (hcn : cN W = c) (hW : topOK W (l + 1)) (hd : 7 * (8 - br) + (8 - c) + (6 - (l + 1)) + 1 ≤ d) : ∀ (k i n1 n a e A : Nat) (C N : Mem) (b E2 pend : List Int32), L < a + k → k < n1 → i ≤ a → L + 2 ≤ n + a → Blk b → PS C N L t ky a e (E0 ++ b) E2 (W ++ pend) A → E0 ++ b = E2 ++ pend.reverse → (∀ x, x ∈ pend → OpOK l x) → (N 14 br = 0 ∨ N 14 br = 1) → (l = 2 → (i = 0 ∧ N 14 br = 0) ∨ (i = 1 ∧ N 14 br = 1)) → (C 54 4 = 3 → rk (t a) ≤ l + 1 ∨ (rk (t a) = 3 ∧ N 14 br = 1)) →
    ∃ C2, f_X4_readLevel_l37 (RR d).1 (RR d).2 n1 (nI l) (nI br) (nI c) (if l = 2 then 1 else 96) (nI i) C = some C2 ∧ (GoodL C N C2 L t ky a br c l E0 W (f_X10_takesE_l28 n (nI br) (nI c) 0 N) ∨ Bad C N C2 (f_X10_takesE_l28 n (nI br) (nI c) 0 N))
  | 0, i, n1, n, a, e, A, C, N, b, E2, pend, hk, _, _, _, _, h, _, _, _, _, _ => by
    obtain ⟨T, c5, n16, hky, ⟨x1, x2, x3, x4, x5, x6, x7⟩, r, c, hlen⟩ := h
    omega
  | k + 1, i, n1 + 1, n, a, e, A, C, N, b, E2, pend, hk, hn1, hi, hn, hb, h, hE, hp, h01, h2, hx => by
    have h' := h
    obtain ⟨T, c5, n16, hky, x0, r, cs, hlen⟩ := h'
    have hL := T.1
    have x0' := x0
    obtain ⟨x1, x2, x3, x4, x5, x6, x7⟩ := x0'
    -- to leave it here
    have leave : (C 54 4 = 3 → rk (t a) ≤ l ∨ (rk (t a) = 3 ∧ N 14 br = 1)) → GoodL C N C L t ky a br c l E0 W (f_X10_takesE_l28 n (nI br) (nI c) 0 N) := fun q => ⟨N, n, a, e, b, A, E2, pend, Nat.le_refl _, rfl, hn, hb, h, hE, hp, fun _ _ => rfl, h01, fun _ => rfl, q, FrC.rf, FrN.rf⟩
    have sgO : f_X4_signsOf (nI l) = some (12 + l) := by
      unfold f_X4_signsOf
      rcases (show l = 0 ∨ l = 1 ∨ l = 2 ∨ l = 3 ∨ l = 4 by omega) with q | q | q | q | q <;> rw [q] <;> rfl
    rw [f_X4_readLevel_l37]
    by_cases hm : (if l = 2 then (1 : Int32) else 96) ≤ nI i
    · rw [if_pos hm]
      refine ⟨C, rfl, Or.inl (leave fun q4 => ?_)⟩
      by_cases q : l = 2
      · rw [if_pos q, z1, le_nI (by omega) (by omega)] at hm
        rcases h2 q with w | w
        · omega
        · rcases hx q4 with z | z
          · by_cases z3 : rk (t a) = 3
            · exact Or.inr ⟨z3, w.2⟩
            · exact Or.inl (by omega)
          · exact Or.inr z
      · rw [if_neg q, show (96 : Int32) = nI 96 from rfl, le_nI (by omega) (by omega)] at hm
        have := (x0.k3 q4).2.2.1
        omega
    · rw [if_neg hm, if_pos cs.2.2.2, sgO, bd_s, decide_eq_true (show 12 + l < 17 by omega), gd_t]
      by_cases q4 : C 54 4 = 3
      · have K := x0.k3 q4
        have haL : a < L := by have := K.2.2.1; omega
        obtain ⟨d1, d2, d3⟩ := T.2.2.2 a haL
        rw [isSign3 (e := e) T x1 haL q4 (s := 12 + l) (by omega) (by omega), bd_s]
        have eIn : inS (12 + l) (t a) = decide (rk (t a) = l + 1) := by
          unfold inS
          rw [if_neg (by omega), if_neg (by omega), if_neg (by omega), show 12 + l - 11 = l + 1 by omega]
          rfl
        rw [eIn]
        by_cases hv : rk (t a) = l + 1
        · -- a sign of this level
          obtain ⟨n', rfl⟩ : ∃ n', n = n' + 1 := ⟨n - 1, by omega⟩
          have i0 : l = 2 → i = 0 ∧ N 14 br = 0 := fun q => by
            rw [if_pos q, z1, le_nI (by omega) (by omega)] at hm
            rcases h2 q with w | w
            · exact w
            · omega
          obtain ⟨C2, N2, a2, e2, s1, s2, s3, s4, s5, s6, s7, s8⟩ := sign_e (n := n') (no := nI c) h hE K hl hv hp hW hbr rfl h01 (fun q => (i0 q).2)
          have g := (sgn_r ⟨t a, d1⟩).2 (by dsimp only; omega)
          dsimp only at g
          obtain ⟨g1, g2, g3, g4, g5, g6, g7, g8, g9⟩ := g
          have b01 : N2 14 br = 0 ∨ N2 14 br = 1 := by
            rw [s8]
            split
            · exact Or.inr rfl
            · split
              · exact Or.inl rfl
              · exact h01
          obtain ⟨C3, r1, r2⟩ := hP (l + 1) br c n' L ky a2 e2 A t C2 N2 (E0 ++ b) (W ++ [sgn (t a)]) (by omega) hbr hc (by rw [cN_app, cN, cN, if_neg g4, hcn]; omega) (Or.inr ⟨W, sgn (t a), rfl, Or.inr (by omega)⟩) s4 b01 (fun q => by rw [s8, if_neg (by omega), if_pos (by omega)]) hd (by omega)
          rw [decide_eq_true hv, if_pos rfl, if_neg (by decide), x1, rdn (by omega) (by decide), d3, s1, bd_s, show nI l + 1 = nI (l + 1) by rw [z1, nI_add], r1, bd_s, s2]
          rcases r2 with r2 | r2
          · obtain ⟨N3, n3, a3, e3, b2, A3, E3, pend2, u1, u2, u3, u4, u5, u6, u7, u8, u9, u10, u11, u12, u13⟩ := r2
            have hl3 : E3.length + ((W ++ [sgn (t a)]).length + pend2.length) ≤ a3 := by
              have := u5.2.2.2.2.2.2.2
              rw [List.length_append] at this
              omega
            have ha3 : a3 ≤ L := by
              obtain ⟨-, -, -, -, ⟨y1, y2, y3, y4, y5, y6, y7⟩, -⟩ := u5
              omega
            have hlE : (E0 ++ b ++ b2).length = E3.length + pend2.length := by rw [u6, List.length_append, List.length_reverse]
            rw [len_s] at hl3
            obtain ⟨C4, p1, p2, p3, p4⟩ := u5.put (x := sgn (t a)) (y := -(b8 (t a))) g7.symm (by omega)
            rw [p1, bd_s, nm_t, show nI i + 1 = nI (i + 1) by rw [z1, nI_add]]
            have ew : W ++ [sgn (t a)] ++ pend2 = W ++ sgn (t a) :: pend2 := by rw [List.append_assoc]; rfl
            rw [ew] at p2
            have hbb : E0 ++ (b ++ b2 ++ [sgn (t a)]) = E0 ++ b ++ b2 ++ [sgn (t a)] := by rw [← List.append_assoc, ← List.append_assoc]
            obtain ⟨C5, v1, v2⟩ := lvl_l (t := t) (ky := ky) (E0 := E0) hP hl hbr hc hcn hW hd k (i + 1) n1 n3 a3 e3 A3 C4 N3 (b ++ b2 ++ [sgn (t a)]) E3 (sgn (t a) :: pend2) (by omega) (by omega) (by omega) u3 (hb.op u4 g5 g4 g6) (by rw [hbb]; exact p2) (by rw [hbb, u6, List.reverse_cons, List.append_assoc]) (fun x hx => by
              rcases List.mem_cons.mp hx with q | q
              · rw [q]; exact ⟨g3, g4, by omega⟩
              · have := u7 x q; exact ⟨this.1, this.2.1, by have := this.2.2; omega⟩) u9 (fun q => Or.inr ⟨by have := (i0 q).1; omega, by rw [u10 (by omega), s8, if_pos q]⟩) (fun q => by rw [p4] at q; exact u11 q)
            refine ⟨C5, v1, ?_⟩
            rw [u2]
            rcases v2 with v2 | v2
            · left
              obtain ⟨N5, n5, a5, e5, b5, A5, E5, pend5, w1, w2, w3, w4, w5, w6, w7, w8, w9, w10, w11, w12, w13⟩ := v2
              refine ⟨N5, n5, a5, e5, b5, A5, E5, pend5, by omega, w2, w3, w4, w5, w6, w7, fun i hi => by rw [w8 i hi, u8 i hi, s7 i (by omega)], w9, fun q => ?_, w11, s5.tr (u12.tr (p3.tr w12)), s6.tr (u13.tr w13)⟩
              rw [w10 q, u10 (by omega), s8, if_neg (by omega), if_neg (by omega)]
            · exact Or.inr (v2.tr (s5.tr (u12.tr p3)) (s6.tr u13))
          · obtain ⟨C4, p1, p2, p3⟩ := r2.put (-(b8 (t a)))
            rw [p1, bd_s, nm_t]
            refine ⟨C4, ?_, Or.inr (p2.tr s5 s6)⟩
            obtain ⟨m, rfl⟩ : ∃ m, n1 = m + 1 := ⟨n1 - 1, by omega⟩
            rw [f_X4_readLevel_l37, if_neg p3, ite_self]
        · rw [decide_eq_false hv, if_pos (show (if false = true then (1 : Int32) else 0) = 0 from rfl)]
          refine ⟨C, rfl, Or.inl (leave fun _ => ?_)⟩
          rcases hx q4 with z | z
          · exact Or.inl (by omega)
          · exact Or.inr z
      · rw [isSignN q4, bd_s, if_pos rfl]
        exact ⟨C, rfl, Or.inl (leave fun q => absurd q q4)⟩
/-- a level, out of what it is made of -/
theorem lvl_s {d : Nat} (hP : PLd d) (hQ : PPd d) : PLd (d + 1) := by
  intro l br c n L ky a e A t C N E W hl hbr hc hcn hW h h01 h0 hd hn
  show ∃ C2, f_X4_readLevel (RR d).1 (RR d).2 C (nI l) (nI br) (nI c) = some C2 ∧ _
  unfold f_X4_readLevel f_X4_readLevel_j32
  by_cases h5 : l = 5
  · rw [if_neg (show ¬ nI l ≤ 4 by rw [h5]; decide)]
    obtain ⟨C2, p1, p2⟩ := hQ br c 0 n L ky a e A t C N E W hbr hc (by rw [List.replicate_zero, List.append_nil]; exact hcn) (hW.mono (by omega)) (by rw [List.replicate_zero, List.append_nil]; exact h) (by omega) hn
    rw [p1, bd_s]
    refine ⟨C2, rfl, ?_⟩
    rcases p2 with p2 | p2
    · left
      obtain ⟨N2, n2, a2, e2, b, A2, u1, u2, u3, u4, u5, u6, u7, u8⟩ := p2
      rw [List.replicate_zero, List.append_nil] at u5
      refine ⟨N2, n2, a2, e2, b, A2, E ++ b, [], u1, u2, u3, u4, by rw [List.append_nil]; exact u5, by simp, fun x hx => absurd hx (by simp), fun i hi => u6 i (by omega), by rw [u6 br (Nat.le_refl _)]; exact h01, fun _ => u6 br (Nat.le_refl _), fun q4 => ?_, u7, u8⟩
      have K := u5.2.2.2.2.1.k3 q4
      have x6 := u5.2.2.2.2.1.2.2.2.2.2.1
      have d1 := (u5.1.2.2.2 a2 (by have := K.2.2.1; omega)).1
      have := rk_le ⟨t a2, d1⟩
      dsimp only at this
      exact Or.inl (by omega)
    · exact Or.inr p2
  · have l4 : l ≤ 4 := by omega
    rw [if_pos (show nI l ≤ 4 from fu_le (b := 4) (by omega) (by decide) l4)]
    obtain ⟨C2, p1, p2⟩ := hP (l + 1) br c n L ky a e A t C N E W (by omega) hbr hc hcn (hW.mono (by omega)) h h01 (fun q => h0 (by omega)) (by omega) hn
    rw [show nI l + 1 = nI (l + 1) by rw [z1, nI_add], p1, bd_s]
    have em : (if nI l = 2 then f_X4_readLevel_l37 (RR d).1 (RR d).2 FU (nI l) (nI br) (nI c) 1 0 C2 else f_X4_readLevel_l37 (RR d).1 (RR d).2 FU (nI l) (nI br) (nI c) 96 0 C2) = f_X4_readLevel_l37 (RR d).1 (RR d).2 FU (nI l) (nI br) (nI c) (if l = 2 then 1 else 96) (nI 0) C2 := by
      by_cases q : l = 2
      · rw [q, if_pos (show nI 2 = (2 : Int32) from rfl), if_pos rfl]; rfl
      · rw [if_neg (by rw [z2, eq_nI (by omega) (by decide)]; exact q), if_neg q]; rfl
    rw [em]
    rcases p2 with p2 | p2
    · obtain ⟨N3, n3, a3, e3, b2, A3, E3, pend2, u1, u2, u3, u4, u5, u6, u7, u8, u9, u10, u11, u12, u13⟩ := p2
      have hL := u5.1.1
      obtain ⟨C5, v1, v2⟩ := lvl_l hP l4 hbr hc hcn hW (by omega) (L + 1) 0 FU n3 a3 e3 A3 C2 N3 b2 E3 pend2 (by omega) (FU_gt (by omega)) (by omega) u3 u4 u5 u6 (fun x hx => ⟨(u7 x hx).1, (u7 x hx).2.1, by have := (u7 x hx).2.2; omega⟩) u9 (fun q => Or.inl ⟨rfl, by rw [u10 (by omega), h0 (by omega)]⟩) u11
      refine ⟨C5, v1, ?_⟩
      rw [u2]
      rcases v2 with v2 | v2
      · left
        obtain ⟨N5, n5, a5, e5, b5, A5, E5, pend5, w1, w2, w3, w4, w5, w6, w7, w8, w9, w10, w11, w12, w13⟩ := v2
        exact ⟨N5, n5, a5, e5, b5, A5, E5, pend5, by omega, w2, w3, w4, w5, w6, w7, fun i hi => by rw [w8 i hi, u8 i hi], w9, fun q => by rw [w10 q, u10 (by omega)], w11, u12.tr w12, u13.tr w13⟩
      · exact Or.inr (v2.tr u12 u13)
    · refine ⟨C2, ?_, Or.inr p2⟩
      show f_X4_readLevel_l37 (RR d).1 (RR d).2 (4999 + 1) (nI l) (nI br) (nI c) (if l = 2 then 1 else 96) (nI 0) C2 = some C2
      rw [f_X4_readLevel_l37, if_neg p2.ne, ite_self]
