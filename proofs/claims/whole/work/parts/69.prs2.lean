/-! THE TEXTS, 5: both readers in one state; single steps of it -/
def FrC (C C2 : Mem) : Prop := (∀ k, k ≠ 54 → k ≠ 55 → C2 k = C k) ∧ C2 54 1 = C 54 1 ∧ C2 54 5 = C 54 5
def FrN (N N2 : Mem) : Prop := (∀ k, k ≠ 0 → k ≠ 12 → k ≠ 13 → k ≠ 14 → N2 k = N k) ∧ ∀ j, (j = 3 ∨ j = 10 ∨ j = 16 ∨ j = 36) → N2 0 j = N 0 j
theorem FrC.rf {C : Mem} : FrC C C := ⟨fun _ _ _ => rfl, rfl, rfl⟩
theorem FrN.rf {N : Mem} : FrN N N := ⟨fun _ _ _ _ _ => rfl, fun _ _ => rfl⟩
theorem FrC.tr {C C2 C3 : Mem} (h : FrC C C2) (g : FrC C2 C3) : FrC C C3 := ⟨fun k a b => (g.1 k a b).trans (h.1 k a b), g.2.1.trans h.2.1, g.2.2.trans h.2.2⟩
theorem FrN.tr {N N2 N3 : Mem} (h : FrN N N2) (g : FrN N2 N3) : FrN N N3 := ⟨fun k a b c d => (g.1 k a b c d).trans (h.1 k a b c d), fun j hj => (g.2 j hj).trans (h.2 j hj)⟩
theorem FC.fr {C C2 : Mem} (h : FC C C2) : FrC C C2 := ⟨fun k a _ => h.1 k a, h.2 1 (by decide) (by decide) (by decide), h.2 5 (by decide) (by decide) (by decide)⟩
theorem FN.fr {N N2 : Mem} (h : FN N N2) : FrN N N2 := ⟨fun k a _ _ _ => h.1 k a, fun j hj => h.2 j (by omega) (by omega) (by omega) (by omega) (by omega)⟩
theorem FS.fr {N N2 : Mem} (h : FS N N2) : FrN N N2 := ⟨fun k a b _ _ => h.1 k a b, fun j hj => h.2 j (by omega) (by omega)⟩
def PS (C N : Mem) (L : Nat) (t : Nat → Nat) (ky a e : Nat) (Ec E W : List Int32) (A : Nat) : Prop := Tp C N L t ∧ C 54 5 = nI ky ∧ N 0 16 = nI ky ∧ ky ≤ 2 ∧ Lx C N L t a e ∧ RS N E W A ∧ CS C Ec A ∧ E.length + W.length + 1 ≤ a
/-- one more word, when the rows have changed -/
theorem adv {C N C1 N1 : Mem} {L ky a e A : Nat} {t : Nat → Nat} {Ec E W : List Int32} (T : Tp C N L t) (c5 : C 54 5 = nI ky) (n16 : N 0 16 = nI ky) (hk : ky ≤ 2) (x : Lx C N L t a e) (hK : K1 C N t a e ∨ K2 C N t a e ∨ K3 C N t a e)
    (fc : (∀ k, k ≠ 54 → k ≠ 55 → C1 k = C k) ∧ ∀ j, j ≠ 6 → j ≠ 8 → j ≠ 9 → C1 54 j = C 54 j) (fn : (∀ k, k ≠ 0 → k ≠ 12 → k ≠ 13 → k ≠ 14 → N1 k = N k) ∧ ∀ j, j ≠ 20 → j ≠ 21 → j ≠ 23 → N1 0 j = N 0 j) (r : RS N1 E W A) (c : CS C1 Ec A) (hl : E.length + W.length ≤ a) :
    ∃ C2 N2 a2 e2, f_X4_step C1 = some C2 ∧ f_X10_go N1 = some N2 ∧ a < a2 ∧ PS C2 N2 L t ky a2 e2 Ec E W A ∧ FrC C C2 ∧ FrN N N2 ∧ N2 14 = N1 14 := by
  obtain ⟨x1, x2, x3, x4, x5, x6, x7⟩ := x
  have T1 : Tp C1 N1 L t := T.fr (fc.1 53 (by decide) (by decide)) (fc.2 1 (by decide) (by decide) (by decide)) (fn.1 9 (by decide) (by decide) (by decide) (by decide)) (fn.2 10 (by decide) (by decide) (by decide))
  have hae : a < e := by
    rcases hK with q | q | q
    · exact q.2.2.1
    · exact q.2.2.1
    · have := q.2.2.1; omega
  have pre : PreX C1 N1 e := by
    unfold PreX
    rw [fc.2 4 (by decide) (by decide) (by decide), fn.2 15 (by decide) (by decide) (by decide)]
    rcases hK with q | q | q
    · exact Or.inl ⟨Or.inl q.1, q.2.2.2.2.1⟩
    · exact Or.inl ⟨Or.inr q.1, q.2.2.2.2.2.1⟩
    · exact Or.inr ⟨by rw [q.1]; decide, by rw [q.1]; decide, q.2.2.2.2⟩
  obtain ⟨C2, N2, a2, e2, s1, s2, s3, s4, s5, s6⟩ := lex T1 x6 (by rw [fc.2 3 (by decide) (by decide) (by decide)]; exact x2) (by rw [fn.2 11 (by decide) (by decide) (by decide)]; exact x4) pre
  refine ⟨C2, N2, a2, e2, s1, s2, by omega, ⟨T1.fr (s3.1 53 (by decide)) (s3.2 1 (by decide) (by decide) (by decide)) (s4.1 9 (by decide)) (s4.2 10 (by decide) (by decide) (by decide) (by decide) (by decide)), ?_, ?_, hk, s6, r.fr (s4.2 20 (by decide) (by decide) (by decide) (by decide) (by decide)) (s4.2 21 (by decide) (by decide) (by decide) (by decide) (by decide)) (s4.2 23 (by decide) (by decide) (by decide) (by decide) (by decide)) (s4.1 12 (by decide)) (s4.1 13 (by decide)), c.fr (s3.2 8 (by decide) (by decide) (by decide)) (s3.2 6 (by decide) (by decide) (by decide)) (s3.2 9 (by decide) (by decide) (by decide)) (s3.1 55 (by decide)), by omega⟩, FrC.tr ⟨fun k k1 k2 => fc.1 k k1 k2, fc.2 1 (by decide) (by decide) (by decide), fc.2 5 (by decide) (by decide) (by decide)⟩ s3.fr, FrN.tr ⟨fun k k1 k2 k3 k4 => fn.1 k k1 k2 k3 k4, fun j hj => fn.2 j (by omega) (by omega) (by omega)⟩ s4.fr, s4.1 14 (by decide)⟩
  · rw [s3.2 5 (by decide) (by decide) (by decide), fc.2 5 (by decide) (by decide) (by decide)]; exact c5
  · rw [s4.2 16 (by decide) (by decide) (by decide) (by decide) (by decide), fn.2 16 (by decide) (by decide) (by decide)]; exact n16
theorem rep_s {j : Nat} : List.replicate j (-10 : Int32) ++ [-10] = List.replicate (j + 1) (-10) := by
  rw [List.replicate_succ']
theorem rep_m {j : Nat} {x : Int32} (h : x ∈ List.replicate j (-10 : Int32)) : x = -10 := (List.mem_replicate.mp h).2
/-- a leaf -/
theorem leaf_e {C N : Mem} {L ky a e A j : Nat} {t : Nat → Nat} {E W0 : List Int32} (h : PS C N L t ky a e E E (W0 ++ List.replicate j (-10)) A) (hK : K1 C N t a e ∨ K2 C N t a e) (hW : topOK W0 6) {x y : Int32} (hy : y = cmC x) :
    ∃ C2 N2 a2 e2, f_X4_putLeaf C y = some C2 ∧ f_X10_takesPart_j87 x (N 0 20) N = some (1, N2) ∧ a < a2 ∧ PS C2 N2 L t ky a2 e2 (E ++ [x]) (E ++ [x] ++ List.replicate j (-10)) W0 (A + 1) ∧ FrC C C2 ∧ FrN N N2 ∧ N2 14 = N 14 := by
  obtain ⟨T, c5, n16, hk, x0, r, c, hl⟩ := h
  have hL := T.1
  have haL : a < L := by
    obtain ⟨x1, x2, x3, x4, x5, x6, x7⟩ := x0
    rcases hK with q | q
    · have := q.2.2.1; omega
    · have := q.2.2.1; omega
  rw [List.length_append, List.length_replicate] at hl
  obtain ⟨p1, p2⟩ := c.put hy (by omega)
  have r1 := r.code x
  have r2 : RS (sto (sto (sto N 12 E.length x) 0 20 (nI (E.length + 1))) 0 21 (nI (A + 1))) (E ++ [x]) (W0 ++ List.replicate j (-10)) (A + 1) := by
    obtain ⟨q1, q2, q3, q4, q5⟩ := r1
    exact ⟨by rw [sto_sn (by decide)]; exact q1, fun k hk => by rw [sto_n (by decide)]; exact q2 k hk, by rw [sto_sn (by decide)]; exact q3, fun k hk => by rw [sto_n (by decide)]; exact q4 k hk, sto_ss⟩
  obtain ⟨N3, s1, s2, s3⟩ := settle_e (r := 6) (by decide) hW r2 (fun y hy => by rw [rep_m hy]; exact ⟨by decide, by decide⟩) (by rw [len_s, List.length_replicate]; omega)
  rw [List.reverse_replicate] at s2
  have c2 : CS (sto (sto (sto C 55 E.length y) 54 8 (nI (E.length + 1))) 54 6 (nI (A + 1))) (E ++ [x]) (A + 1) := by
    obtain ⟨q1, q2, q3, q4⟩ := p2
    exact ⟨by rw [sto_sn (by decide)]; exact q1, fun k hk => by rw [sto_n (by decide)]; exact q2 k hk, sto_ss, by rw [sto_sn (by decide)]; exact q4⟩
  obtain ⟨C4, N4, a2, e2, t1, t2, t3, t4, t5, t6, t7⟩ := adv T c5 n16 hk x0 (hK.elim Or.inl (fun q => Or.inr (Or.inl q))) (C1 := sto (sto (sto C 55 E.length y) 54 8 (nI (E.length + 1))) 54 6 (nI (A + 1))) (N1 := N3) ⟨fun k k1 k2 => by rw [sto_n k1, sto_n k1, sto_n k2], fun j j6 j8 _ => by rw [sto_sn j6, sto_sn j8, sto_n (by decide)]⟩ ⟨fun k k0 k12 _ _ => by rw [s3.1 k k0 k12, sto_n k0, sto_n k0, sto_n k12], fun j j20 j21 j23 => by rw [s3.2 j j20 j23, sto_sn j21, sto_sn j20, sto_n (by decide)]⟩ s2 c2 (by rw [List.length_append, len_s, List.length_replicate]; omega)
  refine ⟨C4, N4, a2, e2, ?_, ?_, t3, t4, t5, t6, ?_⟩
  · unfold f_X4_putLeaf
    rw [p1, bd_s, nm_t, sto_sn (show (6 : Nat) ≠ 8 by decide), sto_n (show (54 : Nat) ≠ 55 by decide), c.2.2.1, z1, nI_add, t1, bd_s]
  · unfold f_X10_takesPart_j87
    rw [r.1, wrn (by omega) (by decide), nm_t, sto_n (show (0 : Nat) ≠ 12 by decide), r.1, z1, nI_add, nm_t, sto_sn (show (21 : Nat) ≠ 20 by decide), sto_n (show (0 : Nat) ≠ 12 by decide), r.2.2.2.2, nI_add, show (6 : Int32) = nI 6 from rfl, s1, bd_s, t2, bd_s]
  · rw [t7, s3.1 14 (by decide) (by decide), sto_n (by decide), sto_n (by decide), sto_n (by decide)]
def OpOK (l : Nat) (x : Int32) : Prop := x ≠ -11 ∧ x ≠ -10 ∧ l + 1 ≤ rkR x
theorem bool0 : vp_nar .boolean (0 : Int32) = 0 := by decide
theorem bool1 : vp_nar .boolean (1 : Int32) = 1 := by decide
/-- a sign between -/
theorem sign_e {C N : Mem} {L ky a e A l br n : Nat} {no tb : Int32} {t : Nat → Nat} {Ec E W pend : List Int32} (h : PS C N L t ky a e Ec E (W ++ pend) A) (hE : Ec = E ++ pend.reverse) (hK : K3 C N t a e) (hl : l ≤ 4) (hv : rk (t a) = l + 1) (hp : ∀ x, x ∈ pend → OpOK l x) (hW : topOK W (l + 1)) (hbr : br ≤ 8) (htb : N 14 br = tb) (h01 : tb = 0 ∨ tb = 1) (h2 : l = 2 → tb = 0) :
    ∃ C2 N2 a2 e2, f_X4_step C = some C2 ∧ f_X10_takesE_l28 (n + 1) (nI br) no 0 N = f_X10_takesE_l28 n (nI br) no 1 N2 ∧ a < a2 ∧ PS C2 N2 L t ky a2 e2 Ec Ec (W ++ [sgn (t a)]) A ∧ FrC C C2 ∧ FrN N N2 ∧ (∀ i, i ≠ br → N2 14 i = N 14 i) ∧ N2 14 br = (if l = 2 then 1 else if l ≤ 1 then 0 else tb) := by
  obtain ⟨T, c5, n16, hk, x0, r, c, hlen⟩ := h
  have hL := T.1
  have x0' := x0
  obtain ⟨x1, x2, x3, x4, x5, x6, x7⟩ := x0'
  have haL : a < L := by have := hK.2.2.1; omega
  obtain ⟨d1, d2, d3⟩ := T.2.2.2 a haL
  obtain ⟨g1, g2, g3, g4, g5, g6, g7, g8, g9⟩ := (sgn_r ⟨t a, d1⟩).2 (by dsimp only; omega)
  dsimp only at g1 g2 g3 g4 g5 g6 g7 g8 g9
  rw [List.length_append] at hlen
  -- the flag
  generalize hnt : (if l = 2 then (1 : Int32) else if l ≤ 1 then 0 else tb) = ntb
  have hnt01 : vp_nar .boolean ntb = ntb := by
    rw [← hnt]
    split
    · exact bool1
    · split
      · exact bool0
      · rcases h01 with q | q <;> rw [q]
        · exact bool0
        · exact bool1
  have r1 : RS (sto N 14 br ntb) E (W ++ pend) A := r.fr (by rw [sto_n (by decide)]) (by rw [sto_n (by decide)]) (by rw [sto_n (by decide)]) (sto_n (by decide)) (sto_n (by decide))
  obtain ⟨N3, s1, s2, s3⟩ := settle_e (r := l + 1) (by omega) hW r1 (fun x hx => ⟨(hp x hx).1, (hp x hx).2.2⟩) (by omega)
  rw [← hE] at s2
  have s4 := s2.wait (sgn (t a))
  have hEl : Ec.length = E.length + pend.length := by rw [hE, List.length_append, List.length_reverse]
  obtain ⟨C4, N4, a2, e2, t1, t2, t3, t4, t5, t6, t7⟩ := adv T c5 n16 hk x0 (Or.inr (Or.inr hK)) (C1 := C) (N1 := sto (sto N3 13 W.length (sgn (t a))) 0 23 (nI (W.length + 1))) ⟨fun _ _ _ => rfl, fun _ _ _ _ => rfl⟩ ⟨fun k k0 k12 k13 k14 => by rw [sto_n k0, sto_n k13, s3.1 k k0 k12, sto_n k14], fun j j20 j21 j23 => by rw [sto_sn j23, sto_n (by decide), s3.2 j j20 j23, sto_n (by decide)]⟩ s4 c (by rw [len_s]; omega)
  have n14 : N4 14 = sto N 14 br ntb 14 := by rw [t7, sto_n (by decide), sto_n (by decide), s3.1 14 (by decide) (by decide)]
  refine ⟨C4, N4, a2, e2, t1, ?_, t3, t4, t5, t6, fun i hi => by rw [n14, sto_sn hi], by rw [n14, sto_ss]⟩
  have j305 : f_X10_takesE_j305 (f_X10_takesE_l28 n) (nI br) no (sgn (t a)) ntb (nI br) N = f_X10_takesE_l28 n (nI br) no 1 N4 := by
    unfold f_X10_takesE_j305
    rw [wrn (by omega) (by decide), hnt01, rank_e, bd_s, g1, hv, s1, bd_s, s2.2.2.1, wrn (by omega) (by decide), nm_t, sto_n (show (0 : Nat) ≠ 13 by decide), s2.2.2.1, z1, nI_add, t2, bd_s]
  have tk : ∀ {β : Type} (f : Int32 → Option β), rd N 14 10 (nI br) f = f tb := fun f => by rw [rdn (by omega) (by decide), htb]
  have j268 : f_X10_takesE_j268 (f_X10_takesE_l28 n) (nI br) no (sgn (t a)) N = f_X10_takesE_l28 n (nI br) no 1 N4 := by
    unfold f_X10_takesE_j268 f_X10_takesE_j300 f_X10_takesE_j304
    rw [rank_e, bd_s, bd_s, g1, hv, tk, ← j305, ← hnt]
    rcases (show l = 0 ∨ l = 1 ∨ l = 2 ∨ l = 3 ∨ l = 4 by omega) with q | q | q | q | q
    · rw [q]; rfl
    · rw [q]; rfl
    · rw [q]; rfl
    · rw [q]
      rcases h01 with w | w <;> rw [w] <;> rfl
    · rw [q]
      rcases h01 with w | w <;> rw [w] <;> rfl
  rw [f_X10_takesE_l28, if_pos rfl, hK.2.1, if_neg (by decide)]
  unfold f_X10_takesE_j39
  rw [if_pos rfl, if_pos hK.2.1, hK.2.2.2.1, if_neg (show ¬ nI (t a) = 41 by rw [show (41 : Int32) = nI 41 from rfl, eq_nI (by omega) (by decide)]; exact g9)]
  unfold f_X10_takesE_j237
  rw [signHere3 hK.2.1 hK.2.2.2.1 d1, bd_s, if_neg g2, rank_e, bd_s, g1, hv, tk, j268]
  by_cases q : l = 2
  · rw [q, if_pos (show nI (2 + 1) = 3 from rfl), if_pos (h2 q)]
  · rw [if_neg (by rw [z3, eq_nI (by omega) (by decide)]; omega)]
/-- the rest isn't understood: the reference ends where it stands -/
theorem end_f {C N : Mem} {L ky a e A br n : Nat} {no : Int32} {t : Nat → Nat} {Ec E W pend : List Int32} (h : PS C N L t ky a e Ec E (W ++ pend) A) (hp : ∀ x, x ∈ pend → OpOK 0 x) (hW : topOK W 0) (hbr : br ≤ 8) (hx : C 54 4 = 3 → rk (t a) ≤ 0 ∨ (rk (t a) = 3 ∧ N 14 br = 1)) (h0 : br = 0 → ¬ C 54 4 = 0) (h1 : 1 ≤ br → C 54 4 = 3 → t a ≠ 41) :
    ∃ N2, f_X10_takesE_l28 (n + 1) (nI br) no 0 N = some (0, N2) ∧ N2 0 12 = nI a ∧ FrN N N2 := by
  obtain ⟨T, c5, n16, hk, x0, r, c, hlen⟩ := h
  have hL := T.1
  obtain ⟨x1, x2, x3, x4, x5, x6, x7⟩ := x0
  rw [List.length_append] at hlen
  have nos : ∀ v : Int32, N 0 13 = v → ¬ v = 0 → ¬ v = 3 → ∃ N2, f_X10_takesE_l28 (n + 1) (nI br) no 0 N = some (0, N2) ∧ N2 0 12 = nI a ∧ FrN N N2 := fun v hv v0 v3 => by
    refine ⟨N, ?_, x3, FrN.rf⟩
    rw [f_X10_takesE_l28, if_pos rfl, hv, if_neg v0]
    unfold f_X10_takesE_j39
    rw [if_pos rfl, hv, if_neg v3]
    unfold f_X10_takesE_j237
    rw [signHereN (by rw [hv]; exact v3), bd_s, if_pos rfl]
  rcases x7 with q | q | q | q | q
  · obtain ⟨N3, s1, s2, s3⟩ := settle_e (r := 0) (by decide) hW r (fun x hx => ⟨(hp x hx).1, by omega⟩) (by omega)
    have hb : ¬ br = 0 := fun e => h0 e q.1
    have s1 : f_X10_settle N 0 = some N3 := s1
    refine ⟨N3, ?_, by rw [s3.2 12 (by decide) (by decide)]; exact x3, s3.fr⟩
    rw [f_X10_takesE_l28, if_pos rfl, if_pos q.2.1, s1, bd_s, if_neg (by rw [z0, eq_nI (by omega) (by decide)]; exact hb)]
  · exact nos 1 q.2.1 (by decide) (by decide)
  · exact nos 2 q.2.1 (by decide) (by decide)
  · have haL : a < L := by have := q.2.2.1; omega
    obtain ⟨d1, d2, d3⟩ := T.2.2.2 a haL
    refine ⟨N, ?_, x3, FrN.rf⟩
    have j : f_X10_takesE_j237 (f_X10_takesE_l28 n) (nI br) no N = some (0, N) := by
      unfold f_X10_takesE_j237
      rw [signHere3 q.2.1 q.2.2.2.1 d1, bd_s]
      rcases hx q.1 with w | ⟨w1, w2⟩
      · have := (sgn_r ⟨t a, d1⟩).1 (by dsimp only; omega)
        dsimp only at this
        rw [this, if_pos rfl]
      · have g := (sgn_r ⟨t a, d1⟩).2 (by dsimp only; omega)
        dsimp only at g
        rw [if_neg g.2.1, rank_e, bd_s, g.1, w1, if_pos (show nI 3 = 3 from rfl), rdn (by omega) (by decide), w2, if_neg (by decide)]
    rw [f_X10_takesE_l28, if_pos rfl, q.2.1, if_neg (by decide)]
    unfold f_X10_takesE_j39
    rw [if_pos rfl, if_pos q.2.1, q.2.2.2.1]
    by_cases w : t a = 41
    · have hb : br = 0 := by
        by_cases z : br = 0
        · exact z
        · exact absurd w (h1 (by omega) q.1)
      rw [if_pos (by rw [w]; rfl), hb, if_pos (by decide), ← hb, j]
    · rw [if_neg (by rw [show (41 : Int32) = nI 41 from rfl, eq_nI (by omega) (by decide)]; exact w), j]
  · exact nos 4 q.1 (by decide) (by decide)
