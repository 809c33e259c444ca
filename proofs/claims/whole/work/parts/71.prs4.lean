/-! THE TEXTS, 7: a piece -/
def nm1 (ky : Nat) : Nat := (wS (3 + ky)).getD 0 0
def nm2 (ky : Nat) : Nat := (wS (6 + ky)).getD 0 0
theorem nam0 : ∀ k : Fin 3, ∀ v : Fin 256, f_X10_nameOf (fun _ _ => nI k.val) (nI v.val) = some (if v.val = nm1 k.val then 0 else if v.val = nm2 k.val then 1 else -1) := by decide +kernel
theorem nam_e {N : Mem} {ky v : Nat} (hk : ky ≤ 2) (h : N 0 16 = nI ky) (hv : v < 256) : f_X10_nameOf N (nI v) = some (if v = nm1 ky then 0 else if v = nm2 ky then 1 else -1) := by
  have := nam0 ⟨ky, by omega⟩ ⟨v, hv⟩
  dsimp only at this
  rw [← this]
  unfold f_X10_nameOf
  rw [h]
theorem wS1 {ky : Nat} (hk : ky ≤ 2) : (wS (3 + ky)).length = 1 ∧ (wS (6 + ky)).length = 1 := by
  have : ∀ k : Fin 3, (wS (3 + k.val)).length = 1 ∧ (wS (6 + k.val)).length = 1 := by decide
  exact this ⟨ky, by omega⟩
theorem first_e {C : Mem} {ky : Nat} (hk : ky ≤ 2) (h : C 54 5 = nI ky) : f_X4_firstName C = some (3 + ky) ∧ f_X4_secondName C = some (6 + ky) := by
  unfold f_X4_firstName f_X4_secondName
  rw [h]
  rcases (show ky = 0 ∨ ky = 1 ∨ ky = 2 by omega) with q | q | q <;> rw [q] <;> exact ⟨rfl, rfl⟩
theorem wd1 {t : Nat → Nat} {a e s v : Nat} (h1 : (wS s).length = 1) (hv : (wS s).getD 0 0 = v) : Wd t a e s ↔ (e - a = 1 ∧ t a = v) := by
  unfold Wd
  rw [h1]
  constructor
  · intro h
    refine ⟨h.1, ?_⟩
    have := h.2 0 (by decide)
    rwa [Nat.add_zero, hv] at this
  · intro h
    refine ⟨h.1, fun q hq => ?_⟩
    rw [show q = 0 by omega, Nat.add_zero, hv]
    exact h.2
/-- the reference wants a piece -/
theorem want1 {n : Nat} {x y : Int32} {N : Mem} : f_X10_takesE_l28 (n + 1) x y 1 N = f_X10_takesE_j39 (f_X10_takesE_l28 n) x y 1 N := by
  rw [f_X10_takesE_l28, if_neg (show ¬ (1 : Int32) = 0 by decide)]
theorem want_n {n : Nat} {x y : Int32} {N : Mem} (h : ¬ N 0 13 = 3) : f_X10_takesE_l28 (n + 1) x y 1 N = f_X10_takesE_j158 (f_X10_takesE_l28 n) x N := by
  rw [want1]
  unfold f_X10_takesE_j39 f_X10_takesE_j97
  rw [if_neg (show ¬ (1 : Int32) = 0 by decide), if_neg h, if_neg h]
theorem part_n {N : Mem} (h1 : ¬ N 0 13 = 1) (h2 : ¬ N 0 13 = 2) : f_X10_takesPart N = some (0, N) := by
  unfold f_X10_takesPart f_X10_takesPart_j36 f_X10_takesPart_j37
  rw [if_neg h1, if_neg h2, if_pos rfl]
theorem j158_n {n : Nat} {x : Int32} {N : Mem} (h : f_X10_takesPart N = some (0, N)) : f_X10_takesE_j158 (f_X10_takesE_l28 n) x N = some (0, N) := by
  unfold f_X10_takesE_j158
  rw [h, bd2_s, if_pos rfl]
theorem cN_rep : ∀ j, cN (List.replicate j (-10)) = j
  | 0 => rfl
  | j + 1 => by rw [List.replicate_succ, cN, if_pos rfl, cN_rep j]; omega
set_option maxHeartbeats 2000000 in
theorem piece_s {d : Nat} (hP : PLd d) (hQ : PPd d) : PPd (d + 1) := by
  intro br c j n L ky a e A t C N E W0 hbr hc hcn hW h hd hn
  show ∃ C2, f_X4_readPiece (RR d).1 (RR d).2 C (nI br) (nI c) = some C2 ∧ _
  have h' := h
  obtain ⟨T, c5, n16, hky, x0, r, cs, hlen⟩ := h'
  have hL := T.1
  have x0' := x0
  obtain ⟨x1, x2, x3, x4, x5, x6, x7⟩ := x0'
  have hjc : cN W0 = c - j ∧ j ≤ c := by rw [cN_app, cN_rep] at hcn; omega
  rw [List.length_append, List.length_replicate] at hlen
  obtain ⟨n', rfl⟩ : ∃ n', n = n' + 1 := ⟨n - 1, by omega⟩
  obtain ⟨f1, f2⟩ := first_e hky c5
  have l1 := wS1 hky
  have bad : f_X10_takesE_l28 (n' + 1) (nI br) (nI c) 1 N = some (0, N) → GoodP C N (sto C 54 9 (C 54 2)) L t ky a br c j E W0 (f_X10_takesE_l28 (n' + 1) (nI br) (nI c) 1 N) ∨ Bad C N (sto C 54 9 (C 54 2)) (f_X10_takesE_l28 (n' + 1) (nI br) (nI c) 1 N) := fun q => by
    rw [q]
    exact Or.inr (bad_here h (by omega) x3 FrN.rf)
  -- neither word nor sign that begins a piece
  have no3 : ¬ C 54 4 = 3 → f_X4_readPiece_j107 (RR d).1 (RR d).2 (nI br) (nI c) C = some (sto C 54 9 (C 54 2)) := fun q => by
    unfold f_X4_readPiece_j107
    rw [isSignN q, bd_s, if_pos rfl, nm_t]
  have noW : ¬ C 54 4 = 1 → ¬ C 54 4 = 3 → f_X4_readPiece_j32 (RR d).1 (RR d).2 (nI br) (nI c) C = some (sto C 54 9 (C 54 2)) := fun q1 q3 => by
    unfold f_X4_readPiece_j32
    rw [f1, bd_s, decide_eq_true (show 3 + ky < 17 by omega), gd_t, isWordN q1, bd_s, if_pos rfl, f2, bd_s, decide_eq_true (show 6 + ky < 17 by omega), gd_t, isWordN q1, bd_s, if_pos rfl, isSignN q3, bd_s, if_pos rfl, no3 q3]
  -- a leaf, in both
  have leafG : ∀ (x y : Int32) (C2 N2 : Mem) (a2 e2 : Nat), f_X10_takesPart N = some (1, N2) → ¬ N 0 13 = 3 → 0 ≤ x.toInt → x.toInt ≤ 10001 → a < a2 → PS C2 N2 L t ky a2 e2 (E ++ [x]) (E ++ [x] ++ List.replicate j (-10)) W0 (A + 1) → FrC C C2 → FrN N N2 → N2 14 = N 14 → GoodP C N C2 L t ky a br c j E W0 (f_X10_takesE_l28 (n' + 1) (nI br) (nI c) 1 N) := fun x y C2 N2 a2 e2 q1 q2 q3 q4 q5 q6 q7 q8 q9 => by
    refine ⟨N2, n', a2, e2, [x], A + 1, by omega, ?_, by omega, Blk.leaf q3 q4, q6, fun i _ => by rw [q9], q7, q8⟩
    have hw0 : W0.length ≤ 96 := by omega
    rw [want_n q2]
    unfold f_X10_takesE_j158 f_X10_takesE_j172
    rw [q1, bd2_s, if_neg (show ¬ (1 : Int32) = 0 by decide), nots_e q6.2.2.2.2.2.1 hw0, bd_s, hjc.1]
  unfold f_X4_readPiece
  rcases x7 with K | K | K | K | K
  · -- the end
    rw [if_neg (show ¬ C 54 4 = 2 by rw [K.1]; decide), noW (by rw [K.1]; decide) (by rw [K.1]; decide)]
    exact ⟨_, rfl, bad (by rw [want_n (by rw [K.2.1]; decide), j158_n (part_n (by rw [K.2.1]; decide) (by rw [K.2.1]; decide))])⟩
  · -- letters
    obtain ⟨k1, k2, k3, k4, k5, k6⟩ := K
    have n3 : ¬ N 0 13 = 3 := by rw [k2]; decide
    obtain ⟨d1, d2, d3⟩ := T.2.2.2 a (by omega)
    have w1 := wd1 (t := t) (a := a) (e := e) (v := nm1 ky) l1.1 rfl
    have w2 := wd1 (t := t) (a := a) (e := e) (v := nm2 ky) l1.2 rfl
    rw [if_neg (show ¬ C 54 4 = 2 by rw [k1]; decide)]
    unfold f_X4_readPiece_j32
    rw [f1, bd_s, decide_eq_true (show 3 + ky < 17 by omega), gd_t]
    rcases isWord_e (s := 3 + ky) T x1 x2 k1 x6 (by omega) k3 k6 with ⟨q1, q2⟩ | ⟨q1, q2⟩
    · obtain ⟨y1, y2⟩ := w1.mp q1
      obtain ⟨C2, N2, a2, e2, u1, u2, u3, u4, u5, u6, u7⟩ := leaf_e h (Or.inl ⟨k1, k2, k3, k4, k5, k6⟩) hW (x := 10000) (y := -1) rfl
      rw [q2, bd_s, if_neg (by decide), u1, bd_s]
      refine ⟨C2, rfl, Or.inl (leafG 10000 (-1) C2 N2 a2 e2 ?_ n3 (by decide) (by decide) u3 u4 u5 u6 u7)⟩
      unfold f_X10_takesPart f_X10_takesPart_j37 f_X10_takesPart_j52
      rw [if_pos k2, x4, x3, pk_sub x5, y1, if_pos (show nI 1 = (1 : Int32) from rfl), k4, nam_e hky n16 d1, if_pos y2, bd_s, if_neg (show ¬ (0 : Int32) < 0 by decide), if_neg (show ¬ N 0 13 = 2 by rw [k2]; decide), if_neg (show ¬ (1 : Int32) = 0 by decide), if_neg (show ¬ N 0 13 = 2 by rw [k2]; decide), bd_s]
      exact u2
    · rw [q2, bd_s, if_pos rfl, f2, bd_s, decide_eq_true (show 6 + ky < 17 by omega), gd_t]
      rcases isWord_e (s := 6 + ky) T x1 x2 k1 x6 (by omega) k3 k6 with ⟨p1, p2⟩ | ⟨p1, p2⟩
      · obtain ⟨y1, y2⟩ := w2.mp p1
        have y3 : ¬ t a = nm1 ky := fun z => q1 (w1.mpr ⟨y1, z⟩)
        obtain ⟨C2, N2, a2, e2, u1, u2, u3, u4, u5, u6, u7⟩ := leaf_e h (Or.inl ⟨k1, k2, k3, k4, k5, k6⟩) hW (x := 10001) (y := -2) rfl
        rw [p2, bd_s, if_neg (by decide), u1, bd_s]
        refine ⟨C2, rfl, Or.inl (leafG 10001 (-2) C2 N2 a2 e2 ?_ n3 (by decide) (by decide) u3 u4 u5 u6 u7)⟩
        unfold f_X10_takesPart f_X10_takesPart_j37 f_X10_takesPart_j52
        rw [if_pos k2, x4, x3, pk_sub x5, y1, if_pos (show nI 1 = (1 : Int32) from rfl), k4, nam_e hky n16 d1, if_neg y3, if_pos y2, bd_s, if_neg (show ¬ (1 : Int32) < 0 by decide), if_neg (show ¬ N 0 13 = 2 by rw [k2]; decide), if_neg (show ¬ (1 : Int32) = 0 by decide), if_neg (show ¬ N 0 13 = 2 by rw [k2]; decide), bd_s]
        exact u2
      · have c3 : ¬ C 54 4 = 3 := by rw [k1]; decide
        rw [p2, bd_s, if_pos rfl, isSignN c3, bd_s, if_pos rfl, no3 c3]
        refine ⟨_, rfl, bad ?_⟩
        rw [want_n n3, j158_n]
        unfold f_X10_takesPart f_X10_takesPart_j36 f_X10_takesPart_j37
        rw [if_pos k2, x4, x3, pk_sub x5, if_neg (show ¬ N 0 13 = 2 by rw [k2]; decide), if_pos rfl]
        by_cases z : e - a = 1
        · have y3 : ¬ t a = nm1 ky := fun y => q1 (w1.mpr ⟨z, y⟩)
          have y4 : ¬ t a = nm2 ky := fun y => p1 (w2.mpr ⟨z, y⟩)
          rw [z, if_pos (show nI 1 = (1 : Int32) from rfl), k4, nam_e hky n16 d1, if_neg y3, if_neg y4, bd_s, if_pos (show (-1 : Int32) < 0 by decide)]
        · rw [if_neg (by rw [z1, eq_nI (by omega) (by decide)]; exact z)]
  · -- figures
    obtain ⟨k1, k2, k3, k4, k5, k6, k7⟩ := K
    have n3 : ¬ N 0 13 = 3 := by rw [k2]; decide
    have dv : dV t a (e - a) ≤ 9999 := dV_9999 (by omega) (fun q hq => k7 (a + q) (by omega) (by omega))
    have ecm : nI (dV t a (e - a)) = cmC (nI (dV t a (e - a))) := by
      have pos : ∀ z : Int32, z.toInt < 0 → ¬ nI (dV t a (e - a)) = z := fun z hz q => by
        have := i32eq.mp q
        rw [toI_nI (by omega)] at this
        omega
      unfold cmC
      rw [if_neg (by rw [show (10000 : Int32) = nI 10000 from rfl, eq_nI (by omega) (by decide)]; omega), if_neg (by rw [show (10001 : Int32) = nI 10001 from rfl, eq_nI (by omega) (by decide)]; omega), if_neg (pos _ (by decide)), if_neg (pos _ (by decide)), if_neg (pos _ (by decide)), if_neg (pos _ (by decide)), if_neg (pos _ (by decide)), if_neg (pos _ (by decide)), if_neg (pos _ (by decide)), if_neg (pos _ (by decide)), if_neg (pos _ (by decide)), if_neg (pos _ (by decide))]
    obtain ⟨C2, N2, a2, e2, u1, u2, u3, u4, u5, u6, u7⟩ := leaf_e h (Or.inr ⟨k1, k2, k3, k4, k5, k6, k7⟩) hW (x := nI (dV t a (e - a))) (y := nI (dV t a (e - a))) ecm
    rw [if_pos k1, x2, x1, pk_sub x5, if_neg (show ¬ (4 : Int32) < nI (e - a) by rw [z4, lt_nI (by decide) (by omega)]; omega), num_e T x1 x2 x6 x5 k7, bd_s, u1, bd_s]
    refine ⟨C2, rfl, Or.inl (leafG (nI (dV t a (e - a))) 0 C2 N2 a2 e2 ?_ n3 (by rw [toI_nI (by omega)]; omega) (by rw [toI_nI (by omega)]; omega) u3 u4 u5 u6 u7)⟩
    unfold f_X10_takesPart f_X10_takesPart_j36 f_X10_takesPart_j37 f_X10_takesPart_j52
    rw [if_neg (show ¬ N 0 13 = 1 by rw [k2]; decide), if_pos k2, if_pos k2, k5]
    exact u2
  · -- a sign
    obtain ⟨k1, k2, k3, k4, k5⟩ := K
    have haL : a < L := by omega
    obtain ⟨d1, d2, d3⟩ := T.2.2.2 a haL
    have c1 : ¬ C 54 4 = 1 := by rw [k1]; decide
    have K3' : K3 C N t a e := ⟨k1, k2, k3, k4, k5⟩
    have v33 : (N 0 14 = 33) = (t a = 33) := by rw [k4, show (33 : Int32) = nI 33 from rfl, eq_nI (by omega) (by decide)]
    have v40 : (N 0 14 = 40) = (t a = 40) := by rw [k4, show (40 : Int32) = nI 40 from rfl, eq_nI (by omega) (by decide)]
    have pf := j158_n (n := n') (x := nI br) (part_n (N := N) (by rw [k2]; decide) (by rw [k2]; decide))
    have i9 : inS 9 (t a) = decide (t a = 33) := rfl
    have i10 : inS 10 (t a) = decide (t a = 40) := rfl
    rw [if_neg (show ¬ C 54 4 = 2 by rw [k1]; decide)]
    unfold f_X4_readPiece_j32
    rw [f1, bd_s, decide_eq_true (show 3 + ky < 17 by omega), gd_t, isWordN c1, bd_s, if_pos rfl, f2, bd_s, decide_eq_true (show 6 + ky < 17 by omega), gd_t, isWordN c1, bd_s, if_pos rfl, isSign3 (e := e) T x1 haL k1 (s := 9) (by decide) (by decide), bd_s, i9]
    -- no bracket that opens
    have j107 : ¬ (t a = 40 ∧ br < 8) → f_X4_readPiece_j107 (RR d).1 (RR d).2 (nI br) (nI c) C = some (sto C 54 9 (C 54 2)) := fun q => by
      unfold f_X4_readPiece_j107
      rw [isSign3 (e := e) T x1 haL k1 (s := 10) (by decide) (by decide), bd_s, i10]
      by_cases z : t a = 40
      · rw [decide_eq_true z, if_neg (show ¬ (if true = true then (1 : Int32) else 0) = 0 by decide), if_pos (show (8 : Int32) ≤ nI br from fu_le (a := 8) (by decide) (by omega) (by omega)), nm_t]
      · rw [decide_eq_false z, if_pos (show (if false = true then (1 : Int32) else 0) = 0 from rfl), nm_t]
    have j97 : ¬ (t a = 40 ∧ br < 8) → f_X10_takesE_j97 (f_X10_takesE_l28 n') (nI br) 1 N = some (0, N) := fun q => by
      unfold f_X10_takesE_j97
      rw [if_pos k2, pf]
      by_cases z : t a = 40
      · rw [if_pos (by rw [v40]; exact z), if_pos (show (8 : Int32) ≤ nI br from fu_le (a := 8) (by decide) (by omega) (by omega))]
      · rw [if_neg (by rw [v40]; exact z)]
    by_cases q33 : t a = 33
    · rw [decide_eq_true q33, if_neg (show ¬ (if true = true then (1 : Int32) else 0) = 0 by decide)]
      by_cases q8 : c < 8
      · -- a not
        have r1 := r.wait (-10)
        rw [List.append_assoc, rep_s] at r1
        have hwl : (W0 ++ List.replicate j (-10 : Int32)).length = W0.length + j := by rw [List.length_append, List.length_replicate]
        obtain ⟨C2, N2, a2, e2, u1, u2, u3, u4, u5, u6, u7⟩ := adv T c5 n16 hky x0 (Or.inr (Or.inr K3')) (C1 := C) (N1 := sto (sto N 13 (W0 ++ List.replicate j (-10 : Int32)).length (-10)) 0 23 (nI ((W0 ++ List.replicate j (-10 : Int32)).length + 1))) ⟨fun _ _ _ => rfl, fun _ _ _ _ => rfl⟩ ⟨fun k k0 k12 k13 k14 => by rw [sto_n k0, sto_n k13], fun j j20 j21 j23 => by rw [sto_sn j23, sto_n (by decide)]⟩ r1 cs (by rw [List.length_append, List.length_replicate]; omega)
        obtain ⟨C3, p1, p2⟩ := hQ br (c + 1) (j + 1) n' L ky a2 e2 A t C2 N2 E W0 hbr (by omega) (by rw [cN_app, cN_rep]; omega) hW u4 (by omega) (by omega)
        have eq : f_X10_takesE_l28 (n' + 1) (nI br) (nI c) 1 N = f_X10_takesE_l28 n' (nI br) (nI (c + 1)) 1 N2 := by
          rw [want1]
          unfold f_X10_takesE_j39 f_X10_takesE_j172
          rw [if_neg (show ¬ (1 : Int32) = 0 by decide), if_pos k2, if_pos (by rw [v33]; exact q33), if_neg (show ¬ (8 : Int32) ≤ nI c from fu_nle (a := 8) (by decide) (by omega) (by omega)), r.2.2.1, wrn (by rw [hwl]; omega) (by decide), nm_t, nm_t, sto_n (show (0 : Nat) ≠ 13 by decide), r.2.2.1, show nI (W0 ++ List.replicate j (-10 : Int32)).length + 1 = nI ((W0 ++ List.replicate j (-10 : Int32)).length + 1) by rw [z1, nI_add], u2, bd_s, nots_e u4.2.2.2.2.2.1 (by rw [List.length_append, List.length_replicate]; omega), bd_s, cN_app, cN_rep, show cN W0 + (j + 1) = c + 1 by omega]
        rw [if_neg (show ¬ (8 : Int32) ≤ nI c from fu_nle (a := 8) (by decide) (by omega) (by omega)), u1, bd_s, show nI c + 1 = nI (c + 1) by rw [z1, nI_add], p1, bd_s, eq]
        rcases p2 with p2 | p2
        · obtain ⟨N3, n3, a3, e3, b, A3, w1, w2, w3, w4, w5, w6, w7, w8⟩ := p2
          have hl3 : (E ++ b ++ List.replicate (j + 1) (-10 : Int32)).length + W0.length + 1 ≤ a3 := w5.2.2.2.2.2.2.2
          have ha3 : a3 ≤ L := by
            obtain ⟨-, -, -, -, ⟨y1, y2, y3, y4, y5, y6, y7⟩, -⟩ := w5
            omega
          rw [List.length_append, List.length_replicate] at hl3
          obtain ⟨C4, o1, o2, o3, o4⟩ := w5.put (x := -10) (y := -33) rfl (by omega)
          rw [o1, bd_s]
          refine ⟨C4, rfl, Or.inl ⟨N3, n3, a3, e3, b ++ [-10], A3, by omega, ?_, w3, w4.not, ?_, fun i hi => by rw [w6 i hi, u7, sto_n (by decide), sto_n (by decide)], u5.tr (w7.tr o3), u6.tr w8⟩⟩
          · rw [w2, show c + 1 - (j + 1) = c - j by omega]
          · have e1 : E ++ (b ++ [-10]) = E ++ b ++ [-10] := by rw [List.append_assoc]
            have e2 : E ++ (b ++ [-10]) ++ List.replicate j (-10 : Int32) = E ++ b ++ List.replicate (j + 1) (-10) := by
              rw [e1, List.append_assoc (E ++ b), List.replicate_succ]
              rfl
            rw [e2, e1]
            exact o2
        · obtain ⟨C4, o1, o2, o3⟩ := p2.put (-33)
          rw [o1, bd_s]
          exact ⟨C4, rfl, Or.inr (o2.tr u5 u6)⟩
      · have nb : ¬ (t a = 40 ∧ br < 8) := fun z => by omega
        rw [if_pos (show (8 : Int32) ≤ nI c from fu_le (a := 8) (by decide) (by omega) (by omega)), j107 nb]
        refine ⟨_, rfl, bad ?_⟩
        rw [want1]
        unfold f_X10_takesE_j39
        rw [if_neg (show ¬ (1 : Int32) = 0 by decide), if_pos k2, if_pos (by rw [v33]; exact q33), if_pos (show (8 : Int32) ≤ nI c from fu_le (a := 8) (by decide) (by omega) (by omega)), j97 nb]
    · rw [decide_eq_false q33, if_pos (show (if false = true then (1 : Int32) else 0) = 0 from rfl)]
      have e39 : f_X10_takesE_l28 (n' + 1) (nI br) (nI c) 1 N = f_X10_takesE_j97 (f_X10_takesE_l28 n') (nI br) 1 N := by
        rw [want1]
        unfold f_X10_takesE_j39
        rw [if_neg (show ¬ (1 : Int32) = 0 by decide), if_pos k2, if_neg (by rw [v33]; exact q33)]
      by_cases q40 : t a = 40 ∧ br < 8
      · -- a bracket opens
        have r0 := r.wait (-11)
        have hwl : (W0 ++ List.replicate j (-10 : Int32)).length = W0.length + j := by rw [List.length_append, List.length_replicate]
        generalize eW : W0 ++ List.replicate j (-10 : Int32) = W at *
        have r1 : RS (sto (sto (sto N 13 W.length (-11)) 0 23 (nI (W.length + 1))) 14 (br + 1) 0) E (W ++ [-11]) A := r0.fr (by rw [sto_n (by decide)]) (by rw [sto_n (by decide)]) (by rw [sto_n (by decide)]) (sto_n (by decide)) (sto_n (by decide))
        obtain ⟨C2, N2, a2, e2, u1, u2, u3, u4, u5, u6, u7⟩ := adv T c5 n16 hky x0 (Or.inr (Or.inr K3')) (C1 := C) (N1 := sto (sto (sto N 13 W.length (-11)) 0 23 (nI (W.length + 1))) 14 (br + 1) 0) ⟨fun _ _ _ => rfl, fun _ _ _ _ => rfl⟩ ⟨fun k k0 k12 k13 k14 => by rw [sto_n k14, sto_n k0, sto_n k13], fun j j20 j21 j23 => by rw [sto_n (by decide), sto_sn j23, sto_n (by decide)]⟩ r1 cs (by rw [len_s]; omega)
        have cW : cN (W ++ [-11]) = c := by rw [cN_app, hcn]; rfl
        have t1 : N2 14 (br + 1) = 0 := by rw [u7, sto_ss]
        have tI : ∀ i, i ≤ br → N2 14 i = N 14 i := fun i hi => by rw [u7, sto_sn (by omega), sto_n (by decide), sto_n (by decide)]
        obtain ⟨C3, p1, p2⟩ := hP 0 (br + 1) c n' L ky a2 e2 A t C2 N2 E (W ++ [-11]) (by decide) (by omega) hc cW (Or.inr ⟨W, -11, rfl, Or.inl rfl⟩) u4 (Or.inl t1) (fun _ => t1) (by omega) (by omega)
        have eq : f_X10_takesE_l28 (n' + 1) (nI br) (nI c) 1 N = f_X10_takesE_l28 n' (nI (br + 1)) (nI c) 1 N2 := by
          rw [e39]
          unfold f_X10_takesE_j97 f_X10_takesE_j172
          rw [if_pos k2, if_pos (by rw [v40]; exact q40.1), if_neg (show ¬ (8 : Int32) ≤ nI br from fu_nle (a := 8) (by decide) (by omega) (by omega)), r.2.2.1, wrn (by rw [hwl]; omega) (by decide), nm_t, nm_t, sto_n (show (0 : Nat) ≠ 13 by decide), r.2.2.1, show nI W.length + 1 = nI (W.length + 1) by rw [z1, nI_add], show nI br + 1 = nI (br + 1) by rw [z1, nI_add], wrn (by omega) (by decide), bool0, u2, bd_s, nots_e u4.2.2.2.2.2.1 (by rw [len_s]; omega), bd_s, cW]
        unfold f_X4_readPiece_j107
        rw [isSign3 (e := e) T x1 haL k1 (s := 10) (by decide) (by decide), bd_s, i10, decide_eq_true q40.1, if_neg (show ¬ (if true = true then (1 : Int32) else 0) = 0 by decide), if_neg (show ¬ (8 : Int32) ≤ nI br from fu_nle (a := 8) (by decide) (by omega) (by omega)), u1, bd_s, show nI br + 1 = nI (br + 1) by rw [z1, nI_add], show (0 : Int32) = nI 0 from rfl, p1, bd_s, eq]
        unfold f_X4_closeBracket
        rcases p2 with p2 | p2
        · obtain ⟨N3, n3, a3, e3, b, A3, E3, pend, w1, w2, w3, w4, w5, w6, w7, w8, w9, w10, w11, w12, w13⟩ := p2
          have w5' := w5
          obtain ⟨T3, c53, n163, -, y0, r3, cs3, hl3⟩ := w5'
          have y0' := y0
          obtain ⟨y1, y2, y3, y4, y5, y6, y7⟩ := y0'
          rw [List.length_append, len_s] at hl3
          obtain ⟨n3', rfl⟩ : ∃ m, n3 = m + 1 := ⟨n3 - 1, by omega⟩
          have hlE : (E ++ b).length = E3.length + pend.length := by rw [w6, List.length_append, List.length_reverse]
          rw [if_pos cs3.2.2.2]
          by_cases z : C3 54 4 = 3 ∧ t a3 = 41
          · -- it is closed
            have K := y0.k3 z.1
            have ha3 : a3 < L := by have := K.2.2.1; omega
            obtain ⟨s1, s2, s3, s4⟩ := settle_e (r := 0) (W := W ++ [-11]) (by decide) (Or.inr ⟨W, -11, rfl, Or.inl rfl⟩) r3 (fun x hx => ⟨(w7 x hx).1, by omega⟩) (by rw [len_s]; omega)
            rw [← w6] at s3
            have r4 := s3.pop
            have hE4 : RS (sto s1 0 23 (nI W.length)) (E ++ b) (W0 ++ List.replicate j (-10)) A3 := by rw [eW]; exact r4
            obtain ⟨N6, g1, g2, g3⟩ := settle_e (r := 6) (by decide) hW hE4 (fun y hy => by rw [rep_m hy]; exact ⟨by decide, by decide⟩) (by rw [List.length_replicate]; omega)
            rw [List.reverse_replicate] at g2
            obtain ⟨C5, N7, a4, e4, v1, v2, v3, v4, v5, v6, v7⟩ := adv T3 c53 n163 hky y0 (Or.inr (Or.inr K)) (C1 := C3) (N1 := N6) ⟨fun _ _ _ => rfl, fun _ _ _ _ => rfl⟩ ⟨fun k k0 k12 k13 k14 => by rw [g3.1 k k0 k12, sto_n k0, s4.1 k k0 k12], fun j j20 j21 j23 => by rw [g3.2 j j20 j23, sto_sn j23, s4.2 j j20 j23]⟩ g2 cs3 (by rw [List.length_append, List.length_replicate]; omega)
            have eq2 : f_X10_takesE_l28 (n3' + 1) (nI (br + 1)) (nI c) 0 N3 = f_X10_takesE_l28 n3' (nI br) (nI (c - j)) 0 N7 := by
              rw [f_X10_takesE_l28, if_pos rfl, K.2.1, if_neg (show ¬ (3 : Int32) = 0 by decide)]
              unfold f_X10_takesE_j39
              rw [if_pos rfl, if_pos K.2.1, K.2.2.2.1, z.2, if_pos (show nI 41 = (41 : Int32) from rfl), if_neg (show ¬ nI (br + 1) ≤ 0 from fu_nle (b := 0) (by omega) (by decide) (by omega)), show f_X10_settle N3 0 = some s1 from s2, bd_s, nm_t, nm_t, s3.2.2.1, len_s, show nI (W.length + 1) - 1 = nI W.length by rw [nI_pred1 (by omega), Nat.add_sub_cancel], show nI (br + 1) + (-1) = nI br by rw [← Int32.sub_eq_add_neg, nI_pred1 (by omega), Nat.add_sub_cancel], show (6 : Int32) = nI 6 from rfl, g1, bd_s, nots_e g2 (by omega), bd_s, hjc.1, v2, bd_s]
            rw [isSign3 (e := e3) T3 y1 ha3 z.1 (s := 11) (by decide) (by decide), bd_s, show inS 11 (t a3) = decide (t a3 = 41) from rfl, decide_eq_true z.2, if_neg (show ¬ (if true = true then (1 : Int32) else 0) = 0 by decide), v1, bd_s, bd_s]
            refine ⟨C5, rfl, Or.inl ⟨N7, n3', a4, e4, b, A3, by omega, by rw [w2, eq2], by omega, w4, v4, fun i hi => ?_, u5.tr (w12.tr v5), u6.tr (w13.tr v6)⟩⟩
            rw [v7, g3.1 14 (by decide) (by decide), sto_n (by decide), s4.1 14 (by decide) (by decide), w8 i (by omega), tI i hi]
          · have sg : f_X4_isSignOf 11 C3 = some 0 := by
              by_cases z3 : C3 54 4 = 3
              · have K := y0.k3 z3
                rw [isSign3 (e := e3) T3 y1 (by have := K.2.2.1; omega) z3 (s := 11) (by decide) (by decide), show inS 11 (t a3) = decide (t a3 = 41) from rfl, decide_eq_false (fun w => z ⟨z3, w⟩)]
                rfl
              · exact isSignN z3 11
            obtain ⟨N4, q1, q2, q3⟩ := end_f (n := n3') (no := nI c) w5 w7 (Or.inr ⟨W, -11, rfl, Or.inl rfl⟩) (by omega) w11 (fun q => by omega) (fun _ q w => z ⟨q, w⟩)
            rw [sg, bd_s, if_pos rfl, nm_t, bd_s]
            refine ⟨_, rfl, Or.inr ?_⟩
            rw [w2, q1]
            exact (bad_here w5 (by omega) q2 q3).tr (u5.tr w12) (u6.tr w13)
        · rw [if_neg p2.ne, bd_s]
          exact ⟨C3, rfl, Or.inr (p2.tr u5 u6)⟩
      · rw [j107 q40]
        exact ⟨_, rfl, bad (by rw [e39, j97 q40])⟩
  · -- too long, or close behind another
    have n3 : ¬ N 0 13 = 3 := by rw [K.1]; decide
    have bd' := bad (by rw [want_n n3, j158_n (part_n (by rw [K.1]; decide) (by rw [K.1]; decide))])
    rcases K.2.1 with q | ⟨q1, q2⟩
    · rw [if_neg (show ¬ C 54 4 = 2 by rw [q]; decide), noW (by rw [q]; decide) (by rw [q]; decide)]
      exact ⟨_, rfl, bd'⟩
    · rw [if_pos q1, x2, x1, pk_sub x5, if_pos (show (4 : Int32) < nI (e - a) by rw [z4, lt_nI (by decide) (by omega)]; omega), noW (by rw [q1]; decide) (by rw [q1]; decide)]
      rw [x1] at bd'
      rw [x1]
      exact ⟨_, rfl, bd'⟩
theorem both_d : ∀ d, PLd d ∧ PPd d
  | 0 => ⟨fun l br c n L ky a e A t C N E W _ _ _ _ _ _ _ _ hd _ => absurd hd (by omega), fun br c j n L ky a e A t C N E W0 _ _ _ _ _ hd _ => absurd hd (by omega)⟩
  | d + 1 => ⟨lvl_s (both_d d).1 (both_d d).2, piece_s (both_d d).1 (both_d d).2⟩
