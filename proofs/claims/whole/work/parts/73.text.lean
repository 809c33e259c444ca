/-! THE TEXTS, 9: text -/
def wS4 : ∀ w : Fin 3, (wS w.val).length = 4 := by decide
theorem keyc : ∀ w : Fin 3, ∀ q : Fin 4, keysV.getD (4 * w.val + q.val) 0 = nI ((wS w.val).getD q.val 0) := by decide
theorem key_at {N : Mem} (h : KeyRel N) {w : Nat} (hw : w ≤ 3) : N 11 w = nI (4 * w) := by
  obtain ⟨h0, h1, h2, h3, h4⟩ := h
  rcases (show w = 0 ∨ w = 1 ∨ w = 2 ∨ w = 3 by omega) with q | q | q | q <;> rw [q]
  · exact h1
  · exact h2
  · exact h3
  · exact h4
/-- whether the word is the key w, in the reference -/
theorem key_l {C N : Mem} {L a w : Nat} {t : Nat → Nat} {rec12 : Int32 → Mem → Option (Int32 × Mem)} (T : Tp C N L t) (kr : KeyRel N) (h12 : N 0 12 = nI a) (hw : w < 3) (he : a + 4 ≤ L) : ∀ (k i n : Nat), i + k = 4 → k + 1 < n → ((∀ q, i ≤ q → q < 4 → t (a + q) = (wS w).getD q 0) ∧ f_X10_takesKey_l55 rec12 n (nI w) (nI 4) 1 (nI i) N = f_X10_takesKey_j106 rec12 (nI w) 1 N) ∨ ((¬ ∀ q, i ≤ q → q < 4 → t (a + q) = (wS w).getD q 0) ∧ f_X10_takesKey_l55 rec12 n (nI w) (nI 4) 1 (nI i) N = f_X10_takesKey_j106 rec12 (nI w) 0 N)
  | 0, i, n + 1, hi, _ => by
    left
    refine ⟨fun q q1 q2 => by omega, ?_⟩
    rw [f_X10_takesKey_l55, if_pos (fu_le (by decide) (by omega) (by omega))]
  | k + 1, i, n + 2, hi, hk => by
    have hL := T.1
    obtain ⟨d1, d2, d3⟩ := T.2.2.2 (a + i) (by omega)
    have kc := keyc ⟨w, hw⟩ ⟨i, by omega⟩
    dsimp only at kc
    have c4 := (wS_4 ⟨w, by omega⟩).2 ⟨i, by omega⟩
    dsimp only at c4
    rw [f_X10_takesKey_l55, if_neg (show ¬ nI 4 ≤ nI i from fu_nle (by decide) (by omega) (by omega)), if_neg (show ¬ (1 : Int32) = 0 by decide), h12, nI_add, rdn (by omega) (by decide), d2, rdn (by omega) (by decide), key_at kr (by omega), nI_add, rdn (by omega) (by decide), kr.1 _ (by omega), kc]
    unfold f_X10_takesKey_j99
    rw [nm_t, show nI i + 1 = nI (i + 1) by rw [z1, nI_add]]
    by_cases q : t (a + i) = (wS w).getD i 0
    · rw [if_pos (by rw [q])]
      rcases key_l T kr h12 hw he k (i + 1) (n + 1) (by omega) (by omega) with ⟨x1, x2⟩ | ⟨x1, x2⟩
      · left
        refine ⟨fun j j1 j2 => ?_, x2⟩
        by_cases z : j = i
        · rw [z]; exact q
        · exact x1 j (by omega) j2
      · right
        exact ⟨fun y => x1 (fun j j1 j2 => y j (by omega) j2), x2⟩
    · right
      refine ⟨fun y => q (y i (by omega) (by omega)), ?_⟩
      rw [if_neg (by rw [eq_nI (by omega) (by omega)]; exact q), nm_t, f_X10_takesKey_l55]
      by_cases z : nI 4 ≤ nI (i + 1)
      · rw [if_pos z]
      · rw [if_neg z, if_pos rfl]
theorem key_w {C N : Mem} {L a e w n : Nat} {t : Nat → Nat} (T : Tp C N L t) (kr : KeyRel N) (h12 : N 0 12 = nI a) (h11 : N 0 11 = nI e) (hae : a ≤ e) (he : e ≤ L) (hw : w < 3) : (Wd t a e w ∧ f_X10_takesKey_l12 (n + 1) (nI w) N = bd (f_X10_go (sto N 0 16 (nI w))) fun M22 => some (1, M22)) ∨ (¬ Wd t a e w ∧ f_X10_takesKey_l12 (n + 1) (nI w) N = f_X10_takesKey_l12 n (nI (w + 1)) N) := by
  have hL := T.1
  have l4 := wS4 ⟨w, hw⟩
  dsimp only at l4
  rw [f_X10_takesKey_l12, if_neg (show ¬ (3 : Int32) ≤ nI w from fu_nle (a := 3) (by decide) (by omega) (by omega)), show nI w + 1 = nI (w + 1) by rw [z1, nI_add], rdn (by omega) (by decide), rdn (by omega) (by decide), key_at kr (by omega), key_at kr (by omega), pk_sub (by omega), nm_t, show 4 * (w + 1) - 4 * w = 4 by omega, h11, h12, pk_sub hae]
  unfold f_X10_takesKey_j51
  have j0 : f_X10_takesKey_j106 (f_X10_takesKey_l12 n) (nI w) 0 N = f_X10_takesKey_l12 n (nI (w + 1)) N := by
    unfold f_X10_takesKey_j106
    rw [if_pos rfl, nm_t, show nI w + 1 = nI (w + 1) by rw [z1, nI_add]]
  by_cases q : e - a = 4
  · rw [q, if_pos rfl]
    rcases key_l (rec12 := f_X10_takesKey_l12 n) T kr h12 hw (by omega) 4 0 FU (by omega) (FU_gt (by omega)) with ⟨x1, x2⟩ | ⟨x1, x2⟩
    · left
      refine ⟨⟨by rw [l4]; exact q, fun j hj => x1 j (by omega) (by omega)⟩, ?_⟩
      rw [show f_X10_takesKey_l55 (f_X10_takesKey_l12 n) FU (nI w) (nI 4) 1 0 N = f_X10_takesKey_l55 (f_X10_takesKey_l12 n) FU (nI w) (nI 4) 1 (nI 0) N from rfl, x2]
      unfold f_X10_takesKey_j106
      rw [if_neg (show ¬ (1 : Int32) = 0 by decide), nm_t]
    · right
      refine ⟨fun y => x1 (fun j _ hj => y.2 j (by omega)), ?_⟩
      rw [show f_X10_takesKey_l55 (f_X10_takesKey_l12 n) FU (nI w) (nI 4) 1 0 N = f_X10_takesKey_l55 (f_X10_takesKey_l12 n) FU (nI w) (nI 4) 1 (nI 0) N from rfl, x2, j0]
  · right
    refine ⟨fun y => q (by have := y.1; omega), ?_⟩
    rw [if_neg (by rw [eq_nI (by omega) (by omega)]; omega)]
    show f_X10_takesKey_l55 (f_X10_takesKey_l12 n) (4999 + 1) (nI w) (nI 4) 0 0 N = _
    rw [f_X10_takesKey_l55, if_neg (by decide), if_pos rfl, j0]
def FrN2 (N N2 : Mem) : Prop := (∀ k, k ≠ 0 → k ≠ 12 → k ≠ 13 → k ≠ 14 → N2 k = N k) ∧ ∀ j, (j = 3 ∨ j = 10 ∨ j = 36) → N2 0 j = N 0 j
theorem FrN.f2 {N N2 : Mem} (h : FrN N N2) : FrN2 N N2 := ⟨h.1, fun j hj => h.2 j (by omega)⟩
theorem FrN2.tr {N N2 N3 : Mem} (h : FrN2 N N2) (g : FrN2 N2 N3) : FrN2 N N3 := ⟨fun k a b c d => (g.1 k a b c d).trans (h.1 k a b c d), fun j hj => (g.2 j hj).trans (h.2 j hj)⟩
theorem FN.f2 {N N2 : Mem} (h : FN N N2) : FrN2 N N2 := h.fr.f2
def CodeOK (b : List Int32) : Prop := dl b 0 = some 1 ∧ (∀ x, x ∈ b → -10 ≤ x.toInt ∧ x.toInt ≤ 10001) ∧ b.length ≤ 95
/-- behind the key: what both make of the rest -/
theorem body_e {C N : Mem} {L ky a e : Nat} {t : Nat → Nat} (T : Tp C N L t) (hk : ky ≤ 2) (c5 : C 54 5 = nI ky) (n16 : N 0 16 = nI ky) (x : Lx C N L t a e) (c6 : C 54 6 = 0) (c8 : C 54 8 = 0) (c9 : C 54 9 = -1000000005) (h1 : 1 ≤ a) :
    ∃ C2 C3 r, f_X4_rd C 0 0 0 = some C2 ∧ f_X4_faultFound_j50 C2 = some (r, C3) ∧ FrC C C3 ∧ ((∃ b A N2, CodeOK b ∧ r = -1000000005 ∧ f_X10_takesE N = some (1, N2) ∧ N2 0 16 = nI ky ∧ C3 54 5 = nI ky ∧ RS N2 b [] A ∧ CS C3 b A ∧ FrN N N2) ∨ (∃ a2 N2, a2 ≤ 96 ∧ r = nI a2 ∧ f_X10_takesE N = some (0, N2) ∧ N2 0 12 = nI a2 ∧ FrN N N2)) := by
  have hL := T.1
  generalize hN5 : sto (sto (sto (sto N 0 20 0) 0 21 0) 0 23 0) 14 0 0 = N5
  have eE : f_X10_takesE N = f_X10_takesE_l28 FU 0 0 1 N5 := by
    unfold f_X10_takesE
    rw [nm_t, nm_t, nm_t, wrl 0 z0 (by decide) (by decide), bool0, hN5]
  have n5o : ∀ k, k ≠ 0 → k ≠ 14 → N5 k = N k := fun k k0 k1 => by rw [← hN5, sto_n k1, sto_n k0, sto_n k0, sto_n k0]
  have n5z : ∀ j, j ≠ 20 → j ≠ 21 → j ≠ 23 → N5 0 j = N 0 j := fun j j1 j2 j3 => by rw [← hN5, sto_n (by decide), sto_sn j3, sto_sn j2, sto_sn j1]
  have fr5 : FrN N N5 := ⟨fun k k0 _ _ k14 => n5o k k0 k14, fun j hj => n5z j (by omega) (by omega) (by omega)⟩
  have rs : RS N5 [] [] 0 := ⟨by rw [← hN5, sto_n (by decide), sto_sn (by decide), sto_sn (by decide), sto_ss]; rfl, fun k hk => absurd hk (by simp), by rw [← hN5, sto_n (by decide), sto_ss]; rfl, fun k hk => absurd hk (by simp), by rw [← hN5, sto_n (by decide), sto_sn (by decide), sto_ss]; rfl⟩
  have cs : CS C [] 0 := ⟨by rw [c8]; rfl, fun k hk => absurd hk (by simp), by rw [c6]; rfl, c9⟩
  have lx : Lx C N5 L t a e := by
    unfold Lx K0 K1 K2 K3 K4 at *
    rw [n5z 11 (by decide) (by decide) (by decide), n5z 12 (by decide) (by decide) (by decide), n5z 13 (by decide) (by decide) (by decide), n5z 14 (by decide) (by decide) (by decide), n5z 15 (by decide) (by decide) (by decide)]
    exact x
  have ps : PS C N5 L t ky a e [] [] [] 0 := ⟨T.fr rfl rfl (n5o 9 (by decide) (by decide)) (n5z 10 (by decide) (by decide) (by decide)), c5, by rw [n5z 16 (by decide) (by decide) (by decide)]; exact n16, hk, lx, rs, cs, by simp; omega⟩
  have t0 : N5 14 0 = 0 := by rw [← hN5, sto_ss]
  obtain ⟨C2, p1, p2⟩ := (both_d 100).1 0 0 0 FU L ky a e 0 t C N5 [] [] (by decide) (by decide) (by decide) rfl (Or.inl rfl) ps (Or.inl t0) (fun _ => t0) (by decide) (by have := (show FU = 5000 from rfl); omega)
  have p1 : f_X4_rd C 0 0 0 = some C2 := p1
  have e0 : f_X10_takesE_l28 FU (nI 0) (nI 0) 1 N5 = f_X10_takesE N := by rw [eE]; rfl
  rw [e0] at p2
  rcases p2 with p2 | p2
  · obtain ⟨N3, n3, a3, e3, b, A3, E3, pend, w1, w2, w3, w4, w5, w6, w7, w8, w9, w10, w11, w12, w13⟩ := p2
    have w5' := w5
    obtain ⟨T3, c53, n163, -, y0, r3, cs3, hl3⟩ := w5'
    obtain ⟨y1, y2, y3, y4, y5, y6, y7⟩ := y0
    rw [List.nil_append] at w6 cs3
    have hlE : b.length = E3.length + pend.length := by rw [w6, List.length_append, List.length_reverse]
    rw [List.nil_append] at hl3 r3
    obtain ⟨n3', rfl⟩ : ∃ m, n3 = m + 1 := ⟨n3 - 1, by omega⟩
    by_cases z : C2 54 4 = 0
    · have tk : N3 0 13 = 0 := by
        rcases y7 with q | q | q | q | q
        · exact q.2.1
        · rw [q.1] at z; exact absurd z (by decide)
        · rw [q.1] at z; exact absurd z (by decide)
        · rw [q.1] at z; exact absurd z (by decide)
        · rcases q.2.1 with q | q
          · rw [q] at z; exact absurd z (by decide)
          · rw [q.1] at z; exact absurd z (by decide)
      obtain ⟨N4, s1, s2, s3⟩ := settle_e (r := 0) (W := []) (by decide) (Or.inl rfl) (by rw [List.nil_append]; exact r3) (fun x hx => ⟨(w7 x hx).1, by omega⟩) (by simp; omega)
      rw [← w6] at s2
      refine ⟨C2, C2, -1000000005, p1, ?_, w12, Or.inl ⟨b, A3, N4, ⟨w4.1 0, w4.2, by omega⟩, rfl, ?_, by rw [s3.2 16 (by decide) (by decide)]; exact n163, c53, s2, cs3, fr5.tr (w13.tr s3.fr)⟩⟩
      · unfold f_X4_faultFound_j50
        rw [if_pos cs3.2.2.2, if_pos z, cs3.2.2.2]
      · rw [w2, f_X10_takesE_l28, if_pos rfl, if_pos tk, show f_X10_settle N3 0 = some N4 from s1, bd_s, if_pos (show nI 0 = (0 : Int32) from rfl)]
    · obtain ⟨N4, q1, q2, q3⟩ := end_f (n := n3') (no := nI 0) (br := 0) w5 w7 (Or.inl rfl) (by decide) w11 (fun _ => z) (fun q => absurd q (by decide))
      refine ⟨C2, sto C2 54 9 (C2 54 2), nI a3, p1, ?_, w12.tr ⟨fun k k1 _ => sto_n k1, sto_sn (by decide), sto_sn (by decide)⟩, Or.inr ⟨a3, N4, by have := T3.1; omega, rfl, by rw [w2, q1], q2, fr5.tr (w13.tr q3)⟩⟩
      unfold f_X4_faultFound_j50
      rw [if_pos cs3.2.2.2, if_neg z, nm_t, sto_ss, y1]
  · have ne := p2.ne
    obtain ⟨a2, N2, h1, h2, h3, h4, h5, h6, h7⟩ := p2
    refine ⟨C2, C2, nI a2, p1, ?_, h4, Or.inr ⟨a2, N2, h1, rfl, h5, h6, fr5.tr h7⟩⟩
    unfold f_X4_faultFound_j50
    rw [if_neg ne, h2]
/-- the whole reading, in both -/
theorem parse_e {C N : Mem} {L : Nat} {t : Nat → Nat} (T : Tp C N L t) (kr : KeyRel N) :
    ∃ r C1, f_X4_faultFound C = some (r, C1) ∧ (∀ k, k ≠ 54 → k ≠ 55 → C1 k = C k) ∧ ((∃ ky b A N1, ky ≤ 2 ∧ CodeOK b ∧ r = -1000000005 ∧ f_X10_text N = f_X10_text_j33 1 N1 ∧ N1 0 16 = nI ky ∧ C1 54 5 = nI ky ∧ RS N1 b [] A ∧ CS C1 b A ∧ FrN2 N N1) ∨ (∃ a N1, a ≤ 96 ∧ r = nI a ∧ f_X10_text N = f_X10_text_j33 0 N1 ∧ N1 0 12 = nI a ∧ FrN2 N N1)) := by
  have hL := T.1
  generalize hC6 : sto (sto (sto (sto (sto C 54 3 0) 54 4 0) 54 6 0) 54 8 0) 54 9 (-1000000005) = C6
  have c6o : ∀ k, k ≠ 54 → C6 k = C k := fun k hk => by rw [← hC6, sto_n hk, sto_n hk, sto_n hk, sto_n hk, sto_n hk]
  have v1 : C6 54 1 = C 54 1 := by rw [← hC6, sto_sn (by decide), sto_sn (by decide), sto_sn (by decide), sto_sn (by decide), sto_sn (by decide)]
  have v3 : C6 54 3 = nI 0 := by rw [← hC6, sto_sn (by decide), sto_sn (by decide), sto_sn (by decide), sto_sn (by decide), sto_ss]; rfl
  have v4 : C6 54 4 = 0 := by rw [← hC6, sto_sn (by decide), sto_sn (by decide), sto_sn (by decide), sto_ss]
  have v6 : C6 54 6 = 0 := by rw [← hC6, sto_sn (by decide), sto_sn (by decide), sto_ss]
  have v8 : C6 54 8 = 0 := by rw [← hC6, sto_sn (by decide), sto_ss]
  have v9 : C6 54 9 = -1000000005 := by rw [← hC6, sto_ss]
  generalize hN2 : sto (sto N 0 11 0) 0 15 (-1) = N2
  have n2o : ∀ k, k ≠ 0 → N2 k = N k := fun k hk => by rw [← hN2, sto_n hk, sto_n hk]
  have n2z : ∀ j, j ≠ 11 → j ≠ 15 → N2 0 j = N 0 j := fun j j1 j2 => by rw [← hN2, sto_sn j2, sto_sn j1]
  have fr2 : FrN2 N N2 := ⟨fun k k0 _ _ _ => n2o k k0, fun j hj => n2z j (by omega) (by omega)⟩
  have T6 : Tp C6 N2 L t := T.fr (c6o 53 (by decide)) v1 (n2o 9 (by decide)) (n2z 10 (by decide) (by decide))
  obtain ⟨C8, N4, a, e, s1, s2, s3, s4, s5, s6⟩ := lex (p := 0) T6 (by omega) v3 (by rw [← hN2, sto_sn (by decide), sto_ss]; rfl) (Or.inr ⟨by rw [v4]; decide, by rw [v4]; decide, by rw [← hN2, sto_ss]; decide⟩)
  have T8 : Tp C8 N4 L t := T6.fr (s3.1 53 (by decide)) (s3.2 1 (by decide) (by decide) (by decide)) (s4.1 9 (by decide)) (s4.2 10 (by decide) (by decide) (by decide) (by decide) (by decide))
  have k4 : KeyRel N4 := by
    obtain ⟨k1, k2⟩ := kr
    exact ⟨fun k hk => by rw [s4.1 10 (by decide), n2o 10 (by decide)]; exact k1 k hk, by rw [s4.1 11 (by decide), n2o 11 (by decide)]; exact k2⟩
  have s6' := s6
  obtain ⟨x1, x2, x3, x4, x5, x6, x7⟩ := s6'
  have eF : ∀ o : Option Mem, f_X4_readKey C8 = o → f_X4_faultFound C = bd o fun M10 => if (M10 54 9) = (-1000000005) then (bd (f_X4_rd M10 (0 : Int32) (0 : Int32) (0 : Int32)) fun M13 => f_X4_faultFound_j50 M13) else f_X4_faultFound_j50 M10 := fun o ho => by
    unfold f_X4_faultFound
    simp only [nm_t]
    rw [hC6, s1, bd_s, ho]
  have eT : f_X10_text N = bd2 (f_X10_takesKey N4) fun r5 M6 => if r5 = 0 then (f_X10_text_j32 M6) else bd2 (f_X10_takesE M6) fun r8 M9 => if r8 = 0 then (f_X10_text_j32 M9) else f_X10_text_j33 (1 : Int32) M9 := by
    unfold f_X10_text
    simp only [nm_t]
    rw [hN2, s2, bd_s]
  have fr4 : FrN2 N N4 := fr2.tr s4.f2
  have c8o : ∀ k, k ≠ 54 → C8 k = C k := fun k hk => (s3.1 k hk).trans (c6o k hk)
  -- no key
  have noKey : f_X4_readKey C8 = some (sto C8 54 9 (C8 54 2)) → f_X10_takesKey N4 = some (0, N4) → ∃ r C1, f_X4_faultFound C = some (r, C1) ∧ (∀ k, k ≠ 54 → k ≠ 55 → C1 k = C k) ∧ ((∃ ky b A N1, ky ≤ 2 ∧ CodeOK b ∧ r = -1000000005 ∧ f_X10_text N = f_X10_text_j33 1 N1 ∧ N1 0 16 = nI ky ∧ C1 54 5 = nI ky ∧ RS N1 b [] A ∧ CS C1 b A ∧ FrN2 N N1) ∨ (∃ a N1, a ≤ 96 ∧ r = nI a ∧ f_X10_text N = f_X10_text_j33 0 N1 ∧ N1 0 12 = nI a ∧ FrN2 N N1)) := fun q1 q2 => by
    have ne : ¬ sto C8 54 9 (C8 54 2) 54 9 = -1000000005 := by rw [sto_ss, x1]; exact none_ne (by omega)
    refine ⟨nI a, sto C8 54 9 (C8 54 2), ?_, fun k k1 _ => by rw [sto_n k1, c8o k k1], Or.inr ⟨a, N4, by omega, rfl, ?_, x3, fr4⟩⟩
    · rw [eF _ q1, bd_s, if_neg ne]
      unfold f_X4_faultFound_j50
      rw [if_neg ne, sto_ss, x1]
    · rw [eT, q2, bd2_s, if_pos rfl]; rfl
  -- a key
  have aKey : ∀ w, w < 3 → K1 C8 N4 t a e → f_X4_readKey C8 = (bd (f_X4_step (sto C8 54 5 (nI w))) fun M => some M) → f_X10_takesKey N4 = (bd (f_X10_go (sto N4 0 16 (nI w))) fun M22 => some (1, M22)) → ∃ r C1, f_X4_faultFound C = some (r, C1) ∧ (∀ k, k ≠ 54 → k ≠ 55 → C1 k = C k) ∧ ((∃ ky b A N1, ky ≤ 2 ∧ CodeOK b ∧ r = -1000000005 ∧ f_X10_text N = f_X10_text_j33 1 N1 ∧ N1 0 16 = nI ky ∧ C1 54 5 = nI ky ∧ RS N1 b [] A ∧ CS C1 b A ∧ FrN2 N N1) ∨ (∃ a N1, a ≤ 96 ∧ r = nI a ∧ f_X10_text N = f_X10_text_j33 0 N1 ∧ N1 0 12 = nI a ∧ FrN2 N N1)) := fun w hw K q1 q2 => by
    obtain ⟨C9, N6, a2, e2, u1, u2, u3, u4, u5, u6⟩ := lex (C := sto C8 54 5 (nI w)) (N := sto N4 0 16 (nI w)) (p := e) (T8.fr (sto_n (by decide)) (sto_sn (by decide)) (sto_n (by decide)) (sto_sn (by decide))) x6 (by rw [sto_sn (by decide)]; exact x2) (by rw [sto_sn (by decide)]; exact x4) (Or.inl ⟨Or.inl (by rw [sto_sn (by decide)]; exact K.1), by rw [sto_sn (by decide)]; exact K.2.2.2.2.1⟩)
    have T9 : Tp C9 N6 L t := T8.fr (by rw [u3.1 53 (by decide), sto_n (by decide)]) (by rw [u3.2 1 (by decide) (by decide) (by decide), sto_sn (by decide)]) (by rw [u4.1 9 (by decide), sto_n (by decide)]) (by rw [u4.2 10 (by decide) (by decide) (by decide) (by decide) (by decide), sto_sn (by decide)])
    have c9 : ∀ j, j ≠ 2 → j ≠ 3 → j ≠ 4 → j ≠ 5 → C9 54 j = C6 54 j := fun j j2 j3 j4 j5 => by rw [u3.2 j j2 j3 j4, sto_sn j5, s3.2 j j2 j3 j4]
    obtain ⟨C2, C3, r, b1, b2, b3, b4⟩ := body_e (ky := w) T9 (by omega) (by rw [u3.2 5 (by decide) (by decide) (by decide), sto_ss]) (by rw [u4.2 16 (by decide) (by decide) (by decide) (by decide) (by decide), sto_ss]) u6 (by rw [c9 6 (by decide) (by decide) (by decide) (by decide), v6]) (by rw [c9 8 (by decide) (by decide) (by decide) (by decide), v8]) (by rw [c9 9 (by decide) (by decide) (by decide) (by decide), v9]) (by have := K.2.2.1; omega)
    have f9 : C9 54 9 = -1000000005 := by rw [c9 9 (by decide) (by decide) (by decide) (by decide), v9]
    have fr6 : FrN2 N N6 := fr4.tr ⟨fun k k0 _ _ _ => by rw [u4.1 k k0, sto_n k0], fun j hj => by rw [u4.2 j (by omega) (by omega) (by omega) (by omega) (by omega), sto_sn (by omega)]⟩
    rw [u1, bd_s] at q1
    rw [u2, bd_s] at q2
    refine ⟨r, C3, ?_, fun k k1 k2 => by rw [b3.1 k k1 k2, u3.1 k k1, sto_n k1, c8o k k1], ?_⟩
    · rw [eF _ q1, bd_s, if_pos f9, b1, bd_s, b2]
    · rcases b4 with ⟨b, A, N2, g1, g2, g3, g4, g5, g6, g7, g8⟩ | ⟨a2, N2, g1, g2, g3, g4, g5⟩
      · left
        refine ⟨w, b, A, N2, by omega, g1, g2, ?_, g4, g5, g6, g7, fr6.tr g8.f2⟩
        rw [eT, q2, bd2_s, if_neg (by decide), g3, bd2_s, if_neg (by decide)]
      · right
        refine ⟨a2, N2, g1, g2, ?_, g4, fr6.tr g5.f2⟩
        rw [eT, q2, bd2_s, if_neg (by decide), g3, bd2_s, if_pos rfl]; rfl
  have nk1 : ¬ C8 54 4 = 1 → ¬ N4 0 13 = 1 → ∃ r C1, f_X4_faultFound C = some (r, C1) ∧ (∀ k, k ≠ 54 → k ≠ 55 → C1 k = C k) ∧ ((∃ ky b A N1, ky ≤ 2 ∧ CodeOK b ∧ r = -1000000005 ∧ f_X10_text N = f_X10_text_j33 1 N1 ∧ N1 0 16 = nI ky ∧ C1 54 5 = nI ky ∧ RS N1 b [] A ∧ CS C1 b A ∧ FrN2 N N1) ∨ (∃ a N1, a ≤ 96 ∧ r = nI a ∧ f_X10_text N = f_X10_text_j33 0 N1 ∧ N1 0 12 = nI a ∧ FrN2 N N1)) := fun q1 q2 => by
    refine noKey ?_ ?_
    · unfold f_X4_readKey
      rw [isWordN q1, bd_s, if_pos rfl, isWordN q1, bd_s, if_pos rfl, isWordN q1, bd_s, if_pos rfl, nm_t]
    · unfold f_X10_takesKey
      rw [if_neg q2]
  rcases x7 with K | K | K | K | K
  · exact nk1 (by rw [K.1]; decide) (by rw [K.2.1]; decide)
  · have fS : FU = 4997 + 1 + 1 + 1 := rfl
    have hk : f_X10_takesKey N4 = f_X10_takesKey_l12 (4997 + 1 + 1 + 1) (nI 0) N4 := by
      unfold f_X10_takesKey
      rw [if_pos K.2.1, fS]; rfl
    rcases isWord_e (s := 0) T8 x1 x2 K.1 x6 (by decide) K.2.2.1 K.2.2.2.2.2 with ⟨q1, q2⟩ | ⟨q1, q2⟩
    · rcases key_w (n := 4997 + 1 + 1) T8 k4 x3 x4 x5 x6 (show 0 < 3 by decide) with ⟨p1, p2⟩ | ⟨p1, p2⟩
      · refine aKey 0 (by decide) K ?_ (by rw [hk]; exact p2)
        unfold f_X4_readKey
        rw [q2, bd_s, if_neg (by decide), nm_t]; rfl
      · exact absurd q1 p1
    · rcases key_w (n := 4997 + 1 + 1) T8 k4 x3 x4 x5 x6 (show 0 < 3 by decide) with ⟨p1, p2⟩ | ⟨p1, p2⟩
      · exact absurd p1 q1
      · rcases isWord_e (s := 1) T8 x1 x2 K.1 x6 (by decide) K.2.2.1 K.2.2.2.2.2 with ⟨q3, q4⟩ | ⟨q3, q4⟩
        · rcases key_w (n := 4997 + 1) T8 k4 x3 x4 x5 x6 (show 1 < 3 by decide) with ⟨p3, p4⟩ | ⟨p3, p4⟩
          · refine aKey 1 (by decide) K ?_ (by rw [hk, p2]; exact p4)
            unfold f_X4_readKey
            rw [q2, bd_s, if_pos rfl, q4, bd_s, if_neg (by decide), nm_t]; rfl
          · exact absurd q3 p3
        · rcases key_w (n := 4997 + 1) T8 k4 x3 x4 x5 x6 (show 1 < 3 by decide) with ⟨p3, p4⟩ | ⟨p3, p4⟩
          · exact absurd p3 q3
          · rcases isWord_e (s := 2) T8 x1 x2 K.1 x6 (by decide) K.2.2.1 K.2.2.2.2.2 with ⟨q5, q6⟩ | ⟨q5, q6⟩
            · rcases key_w (n := 4997) T8 k4 x3 x4 x5 x6 (show 2 < 3 by decide) with ⟨p5, p6⟩ | ⟨p5, p6⟩
              · refine aKey 2 (by decide) K ?_ (by rw [hk, p2, p4]; exact p6)
                unfold f_X4_readKey
                rw [q2, bd_s, if_pos rfl, q4, bd_s, if_pos rfl, q6, bd_s, if_neg (by decide), nm_t]; rfl
              · exact absurd q5 p5
            · rcases key_w (n := 4997) T8 k4 x3 x4 x5 x6 (show 2 < 3 by decide) with ⟨p5, p6⟩ | ⟨p5, p6⟩
              · exact absurd p5 q5
              · refine noKey ?_ ?_
                · unfold f_X4_readKey
                  rw [q2, bd_s, if_pos rfl, q4, bd_s, if_pos rfl, q6, bd_s, if_pos rfl, nm_t]
                · rw [hk, p2, p4, p6]
                  show f_X10_takesKey_l12 (4996 + 1) (nI 3) N4 = _
                  rw [f_X10_takesKey_l12, if_pos (by decide)]
  · exact nk1 (by rw [K.1]; decide) (by rw [K.2.1]; decide)
  · exact nk1 (by rw [K.1]; decide) (by rw [K.2.1]; decide)
  · refine nk1 ?_ (by rw [K.1]; decide)
    rcases K.2.1 with q | q
    · rw [q]; decide
    · rw [q.1]; decide
