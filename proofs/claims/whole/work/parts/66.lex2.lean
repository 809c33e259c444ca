/-! THE TEXTS, 2: where both readers stand -/
def FC (C C2 : Mem) : Prop := (∀ k, k ≠ 54 → C2 k = C k) ∧ ∀ j, j ≠ 2 → j ≠ 3 → j ≠ 4 → C2 54 j = C 54 j
def FN (N N2 : Mem) : Prop := (∀ k, k ≠ 0 → N2 k = N k) ∧ ∀ j, j ≠ 11 → j ≠ 12 → j ≠ 13 → j ≠ 14 → j ≠ 15 → N2 0 j = N 0 j
def K1 (C N : Mem) (t : Nat → Nat) (a e : Nat) : Prop := C 54 4 = 1 ∧ N 0 13 = 1 ∧ a < e ∧ N 0 14 = nI (t a) ∧ N 0 15 = nI e ∧ ∀ k, a ≤ k → k < e → srt (t k) = 1
def K2 (C N : Mem) (t : Nat → Nat) (a e : Nat) : Prop := C 54 4 = 2 ∧ N 0 13 = 2 ∧ a < e ∧ e ≤ a + 4 ∧ N 0 14 = nI (dV t a (e - a)) ∧ N 0 15 = nI e ∧ ∀ k, a ≤ k → k < e → srt (t k) = 2
def K3 (C N : Mem) (t : Nat → Nat) (a e : Nat) : Prop := C 54 4 = 3 ∧ N 0 13 = 3 ∧ e = a + 1 ∧ N 0 14 = nI (t a) ∧ (N 0 15).toInt < (e : Int)
def K4 (C N : Mem) (a e : Nat) : Prop := N 0 13 = 4 ∧ (C 54 4 = 4 ∨ (C 54 4 = 2 ∧ a + 4 < e)) ∧ a < e
def K0 (C N : Mem) (L a : Nat) : Prop := C 54 4 = 0 ∧ N 0 13 = 0 ∧ a = L
def Lx (C N : Mem) (L : Nat) (t : Nat → Nat) (a e : Nat) : Prop := C 54 2 = nI a ∧ C 54 3 = nI e ∧ N 0 12 = nI a ∧ N 0 11 = nI e ∧ a ≤ e ∧ e ≤ L ∧ (K0 C N L a ∨ K1 C N t a e ∨ K2 C N t a e ∨ K3 C N t a e ∨ K4 C N a e)
/-- what stood here may be gone on from -/
def PreX (C N : Mem) (p : Nat) : Prop := ((C 54 4 = 1 ∨ C 54 4 = 2) ∧ N 0 15 = nI p) ∨ (¬ C 54 4 = 1 ∧ ¬ C 54 4 = 2 ∧ (N 0 15).toInt < (p : Int))
theorem step_j {C : Mem} {p : Nat} (e : C 54 3 = nI p) : f_X4_step C = f_X4_step_l35 FU (if C 54 4 = 1 ∨ C 54 4 = 2 then 1 else 0) (nI p) (sto C 54 2 (nI p)) := by
  unfold f_X4_step f_X4_step_j16 f_X4_step_j21
  rw [nm_t, nm_t, nm_t, nm_t, e]
  by_cases q1 : C 54 4 = 1
  · rw [if_pos q1, if_pos (Or.inl q1)]
  · by_cases q2 : C 54 4 = 2
    · rw [if_neg q1, if_pos q2, if_pos (Or.inr q2)]
    · rw [if_neg q1, if_neg q2, if_neg (fun x => x.elim q1 q2)]
set_option maxHeartbeats 1000000 in
theorem lex {C N : Mem} {L p : Nat} {t : Nat → Nat} (T : Tp C N L t) (hp : p ≤ L) (e1 : C 54 3 = nI p) (e2 : N 0 11 = nI p) (pre : PreX C N p) : ∃ C2 N2 a e, f_X4_step C = some C2 ∧ f_X10_go N = some N2 ∧ FC C C2 ∧ FN N N2 ∧ p ≤ a ∧ Lx C2 N2 L t a e := by
  have hL := T.1
  have s1 : sto N 0 11 (nI p) = N := by rw [← e2]; exact sto_id
  obtain ⟨a, a1, a2, a3, a4⟩ := skip_l T (a0 := if C 54 4 = 1 ∨ C 54 4 = 2 then 1 else 0) (a1 := nI p) (L - p) p FU FU (by omega) (FU_gt (by omega)) (FU_gt (by omega))
  rw [s1] at a4
  rw [step_j e1, a3, show f_X10_go N = f_X10_go_l0 FU N from rfl, a4]
  -- is a word close behind another?
  have cl : (nI a = N 0 15) ↔ ((C 54 4 = 1 ∨ C 54 4 = 2) ∧ a = p) := by
    rcases pre with ⟨q1, q2⟩ | ⟨q1, q2, q3⟩
    · rw [q2, eq_nI (by omega) (by omega)]
      exact ⟨fun x => ⟨q1, x⟩, fun x => x.2⟩
    · constructor
      · intro x
        rw [← x, toI_nI (by omega)] at q3
        omega
      · intro x
        rcases x.1 with y | y
        · exact absurd y q1
        · exact absurd y q2
  generalize hw : (if C 54 4 = 1 ∨ C 54 4 = 2 then (1 : Int32) else 0) = wa
  have hwa : (wa = 0 ∧ ¬ (C 54 4 = 1 ∨ C 54 4 = 2)) ∨ (wa = 1 ∧ (C 54 4 = 1 ∨ C 54 4 = 2)) := by
    by_cases q : C 54 4 = 1 ∨ C 54 4 = 2
    · rw [if_pos q] at hw; exact Or.inr ⟨hw.symm, q⟩
    · rw [if_neg q] at hw; exact Or.inl ⟨hw.symm, q⟩
  -- the reference's flag
  have eF : f_X10_go_j38 (sto N 0 11 (nI a)) = f_X10_go_j62 (if nI a = N 0 15 then 1 else 0) (sto (sto N 0 11 (nI a)) 0 12 (nI a)) := by
    unfold f_X10_go_j38
    rw [nm_t, sto_ss, sto_ss, sto_sn (show (15 : Nat) ≠ 12 by decide), sto_sn (show (15 : Nat) ≠ 11 by decide)]
    by_cases q : nI a = N 0 15
    · rw [if_pos q, if_pos q]
    · rw [if_neg q, if_neg q]
  rw [eF]
  have T1 : Tp (sto C 54 2 (nI a)) N L t := T.fr (sto_n (by decide)) (sto_sn (by decide)) rfl rfl
  have n12 : sto (sto N 0 11 (nI a)) 0 12 (nI a) 0 12 = nI a := sto_ss
  have n10 : sto (sto N 0 11 (nI a)) 0 12 (nI a) 0 10 = nI L := by rw [sto_sn (by decide), sto_sn (by decide), T.2.2.1]
  have T2 : Tp C (sto (sto N 0 11 (nI a)) 0 12 (nI a)) L t := T.fr rfl rfl ((sto_n (by decide)).trans (sto_n (by decide))) ((sto_sn (by decide)).trans (sto_sn (by decide)))
  unfold f_X4_step_j73 f_X10_go_j62
  rw [n12, n10, sto_ss]
  by_cases hE : a = L
  · have z : nI a = nI L := by rw [hE]
    rw [if_pos z, hE, sortAt_L (by rw [hE] at T1; exact T1), bd_s, nm_t, nm_t, sto_sn (show (2 : Nat) ≠ 4 by decide), sto_ss, nm_t, sto_sn (show (4 : Nat) ≠ 3 by decide), sto_ss, if_neg (by decide), if_pos rfl]
    refine ⟨_, _, L, L, rfl, rfl, ⟨fun k hk => by rw [sto_n hk, sto_n hk, sto_n hk], fun j j2 j3 j4 => by rw [sto_sn j3, sto_sn j4, sto_sn j2]⟩, ⟨fun k hk => by rw [sto_n hk, sto_n hk, sto_n hk], fun j j1 j2 j3 _ _ => by rw [sto_sn j3, sto_sn j2, sto_sn j1]⟩, by omega, ?_⟩
    refine ⟨by rw [sto_sn (by decide), sto_sn (by decide), sto_ss], sto_ss, by rw [sto_sn (by decide), sto_ss], by rw [sto_sn (by decide), sto_sn (by decide), sto_ss], Nat.le_refl _, Nat.le_refl _, Or.inl ⟨by rw [sto_sn (by decide), sto_ss], sto_ss, rfl⟩⟩
  · have hlt : a < L := by omega
    obtain ⟨d1, d2, d3⟩ := T.2.2.2 a hlt
    rw [if_neg (by rw [eq_nI (by omega) (by omega)]; exact hE), isLetter_e T2 hlt, bd_s, sortAt_e T1 hlt, bd_s, nm_t, nm_t, sto_sn (show (2 : Nat) ≠ 4 by decide), sto_ss, sto_sn (show (4 : Nat) ≠ 3 by decide), sto_ss]
    have Tc : ∀ x, Tp (sto (sto C 54 2 (nI a)) 54 4 x) N L t := fun x => T1.fr (sto_n (by decide)) (sto_sn (by decide)) rfl rfl
    have Tn : Tp C (sto N 0 12 (nI a)) L t := T.fr rfl rfl (sto_n (by decide)) (sto_sn (by decide))
    have cf : ∀ e, nI a = N 0 15 → wEnd wa (nI p) (sto (sto (sto C 54 2 (nI a)) 54 4 (nI (srt (t a)))) 54 3 (nI e)) = some (sto (sto (sto (sto C 54 2 (nI a)) 54 4 (nI (srt (t a)))) 54 3 (nI e)) 54 4 4) := fun e hc => by
      obtain ⟨x1, x2⟩ := cl.mp hc
      unfold wEnd
      rcases hwa with ⟨w1, w2⟩ | ⟨w1, w2⟩
      · exact absurd x1 w2
      · rw [w1, if_neg (by decide), sto_sn (show (2 : Nat) ≠ 3 by decide), sto_sn (show (2 : Nat) ≠ 4 by decide), sto_ss, x2, if_pos rfl]
    have cn : ∀ e, ¬ nI a = N 0 15 → wEnd wa (nI p) (sto (sto (sto C 54 2 (nI a)) 54 4 (nI (srt (t a)))) 54 3 (nI e)) = some (sto (sto (sto C 54 2 (nI a)) 54 4 (nI (srt (t a)))) 54 3 (nI e)) := fun e hc => by
      unfold wEnd
      rcases hwa with ⟨w1, w2⟩ | ⟨w1, w2⟩
      · rw [if_pos w1]
      · rw [w1, if_neg (by decide), sto_sn (show (2 : Nat) ≠ 3 by decide), sto_sn (show (2 : Nat) ≠ 4 by decide), sto_ss, if_neg (fun x => hc (cl.mpr ⟨w2, by rwa [eq_nI (by omega) (by omega)] at x⟩))]
    have fc3 : ∀ x y, FC C (sto (sto (sto C 54 2 (nI a)) 54 4 x) 54 3 y) := fun x y => ⟨fun k hk => by rw [sto_n hk, sto_n hk, sto_n hk], fun j j2 j3 j4 => by rw [sto_sn j3, sto_sn j4, sto_sn j2]⟩
    have fc4 : ∀ x y z, FC C (sto (sto (sto (sto C 54 2 (nI a)) 54 4 x) 54 3 y) 54 4 z) := fun x y z => ⟨fun k hk => by rw [sto_n hk, sto_n hk, sto_n hk, sto_n hk], fun j j2 j3 j4 => by rw [sto_sn j4, sto_sn j3, sto_sn j4, sto_sn j2]⟩
    have r3 : ∀ x y, sto (sto (sto C 54 2 (nI a)) 54 4 x) 54 3 y 54 2 = nI a ∧ sto (sto (sto C 54 2 (nI a)) 54 4 x) 54 3 y 54 3 = y ∧ sto (sto (sto C 54 2 (nI a)) 54 4 x) 54 3 y 54 4 = x := fun x y => ⟨by rw [sto_sn (by decide), sto_sn (by decide), sto_ss], sto_ss, by rw [sto_sn (by decide), sto_ss]⟩
    have r4 : ∀ x y z, sto (sto (sto (sto C 54 2 (nI a)) 54 4 x) 54 3 y) 54 4 z 54 2 = nI a ∧ sto (sto (sto (sto C 54 2 (nI a)) 54 4 x) 54 3 y) 54 4 z 54 3 = y ∧ sto (sto (sto (sto C 54 2 (nI a)) 54 4 x) 54 3 y) 54 4 z 54 4 = z := fun x y z => ⟨by rw [sto_sn (by decide), sto_sn (by decide), sto_sn (by decide), sto_ss], by rw [sto_sn (by decide), sto_ss], sto_ss⟩
    rcases srt_3 (t a) with hs | hs | hs
    · -- letters
      rw [hs]
      rw [hs] at cf cn
      rw [if_neg (show ¬ nI 1 = (3 : Int32) by decide), if_neg (show ¬ nI 1 = (0 : Int32) by decide), if_pos rfl, if_neg (show ¬ (1 : Int32) = 0 by decide)]
      obtain ⟨e, b1, b2, b3, b4, b5⟩ := wrd_c (Tc (nI 1)) (s := 1) (a0 := wa) (a1 := nI p) (by decide) sto_ss (by decide) (L - a) a FU (by omega) (FU_gt (by omega))
      have hae : a < e := by
        rcases b4 with x | ⟨x1, x2⟩
        · omega
        · by_cases y : e = a
          · rw [y] at x2; exact absurd hs x2
          · omega
      have g := let_n Tn (a0 := if nI a = N 0 15 then 1 else 0) b2 b4 (e - a) a FU (by omega) (FU_gt (by omega)) b3
      rw [sto_cm (show (12 : Nat) ≠ 11 by decide)] at g
      rw [b5, g]
      unfold f_X10_go_j127
      simp only [nm_t]
      have rr : ∀ (x : Int32) {β : Type} (f : Int32 → Option β), rd (sto (sto (sto N 0 12 (nI a)) 0 11 (nI e)) 0 13 x) 9 96 (sto (sto (sto N 0 12 (nI a)) 0 11 (nI e)) 0 13 x 0 12) f = f (nI (t a)) := fun x _ f => by
        rw [sto_sn (show (12 : Nat) ≠ 13 by decide), sto_sn (show (12 : Nat) ≠ 11 by decide), sto_ss, rdn (by omega) (by decide), sto_n (by decide), sto_n (by decide), sto_n (by decide), d2]
      rw [rr]
      have e11 : ∀ x : Int32, sto (sto (sto (sto N 0 12 (nI a)) 0 11 (nI e)) 0 13 x) 0 14 (nI (t a)) 0 11 = nI e := fun x => by rw [sto_sn (by decide), sto_sn (by decide), sto_ss]
      rw [e11]
      have fn : ∀ x : Int32, FN N (sto (sto (sto (sto (sto N 0 12 (nI a)) 0 11 (nI e)) 0 13 x) 0 14 (nI (t a))) 0 15 (nI e)) := fun x => ⟨fun k hk => by rw [sto_n hk, sto_n hk, sto_n hk, sto_n hk, sto_n hk], fun j j1 j2 j3 j4 j5 => by rw [sto_sn j5, sto_sn j4, sto_sn j3, sto_sn j1, sto_sn j2]⟩
      by_cases hc : nI a = N 0 15
      · rw [if_pos hc, if_neg (show ¬ (1 : Int32) = 0 by decide), cf e hc]
        refine ⟨_, _, a, e, rfl, rfl, fc4 _ _ _, fn 4, a1, (r4 _ _ _).1, (r4 _ _ _).2.1, by rw [sto_sn (by decide), sto_sn (by decide), sto_sn (by decide), sto_sn (by decide), sto_ss], by rw [sto_sn (by decide), e11], by omega, b2, Or.inr (Or.inr (Or.inr (Or.inr ⟨by rw [sto_sn (by decide), sto_sn (by decide), sto_ss], Or.inl (r4 _ _ _).2.2, hae⟩)))⟩
      · rw [if_neg hc, if_pos rfl, cn e hc]
        refine ⟨_, _, a, e, rfl, rfl, fc3 _ _, fn 1, a1, (r3 _ _).1, (r3 _ _).2.1, by rw [sto_sn (by decide), sto_sn (by decide), sto_sn (by decide), sto_sn (by decide), sto_ss], by rw [sto_sn (by decide), e11], by omega, b2, Or.inr (Or.inl ⟨(r3 _ _).2.2, by rw [sto_sn (by decide), sto_sn (by decide), sto_ss], hae, by rw [sto_sn (by decide), sto_ss], sto_ss, b3⟩)⟩
    · -- figures
      rw [hs]
      rw [hs] at cf cn
      rw [if_neg (show ¬ nI 2 = (3 : Int32) by decide), if_neg (show ¬ nI 2 = (0 : Int32) by decide), if_neg (show ¬ (2 : Nat) = 1 by decide), if_pos rfl, isFigure_e T2 hlt, bd_s, if_pos hs, if_neg (show ¬ (1 : Int32) = 0 by decide), nm_t]
      obtain ⟨e, b1, b2, b3, b4, b5⟩ := wrd_c (Tc (nI 2)) (s := 2) (a0 := wa) (a1 := nI p) (by decide) sto_ss (by decide) (L - a) a FU (by omega) (FU_gt (by omega))
      have hae : a < e := by
        rcases b4 with x | ⟨x1, x2⟩
        · omega
        · by_cases y : e = a
          · rw [y] at x2; exact absurd hs x2
          · omega
      obtain ⟨v, v1, v2⟩ := fig_n Tn (a := a) (a0 := if nI a = N 0 15 then 1 else 0) sto_ss b2 b4 (e - a) a FU (by omega) (by omega) (FU_gt (by omega)) b3
      rw [Nat.sub_self, show min 0 4 = 0 from rfl] at v2
      have em : sto (sto (sto N 0 11 (nI a)) 0 12 (nI a)) 0 14 0 = sto (sto (sto N 0 12 (nI a)) 0 14 (nI (dV t a 0))) 0 11 (nI a) := by
        rw [sto_cm (show (11 : Nat) ≠ 12 by decide), sto_cm (show (11 : Nat) ≠ 14 by decide)]
        rfl
      rw [b5, em, v2]
      have fn : ∀ x : Int32, FN N (sto (sto (sto (sto (sto N 0 12 (nI a)) 0 14 v) 0 11 (nI e)) 0 13 x) 0 15 (nI e)) := fun x => ⟨fun k hk => by rw [sto_n hk, sto_n hk, sto_n hk, sto_n hk, sto_n hk], fun j j1 j2 j3 j4 j5 => by rw [sto_sn j5, sto_sn j3, sto_sn j1, sto_sn j4, sto_sn j2]⟩
      have q12 : ∀ x : Int32, sto (sto (sto (sto (sto N 0 12 (nI a)) 0 14 v) 0 11 (nI e)) 0 13 x) 0 15 (nI e) 0 12 = nI a := fun x => by rw [sto_sn (by decide), sto_sn (by decide), sto_sn (by decide), sto_sn (by decide), sto_ss]
      have q11 : ∀ x : Int32, sto (sto (sto (sto (sto N 0 12 (nI a)) 0 14 v) 0 11 (nI e)) 0 13 x) 0 15 (nI e) 0 11 = nI e := fun x => by rw [sto_sn (by decide), sto_sn (by decide), sto_ss]
      have q13 : ∀ x : Int32, sto (sto (sto (sto (sto N 0 12 (nI a)) 0 14 v) 0 11 (nI e)) 0 13 x) 0 15 (nI e) 0 13 = x := fun x => by rw [sto_sn (by decide), sto_ss]
      have q14 : ∀ x : Int32, sto (sto (sto (sto (sto N 0 12 (nI a)) 0 14 v) 0 11 (nI e)) 0 13 x) 0 15 (nI e) 0 14 = v := fun x => by rw [sto_sn (by decide), sto_sn (by decide), sto_sn (by decide), sto_ss]
      by_cases hc : nI a = N 0 15
      · rw [cf e hc, if_pos hc, if_neg (fun x => absurd x.1 (by decide))]
        exact ⟨_, _, a, e, rfl, rfl, fc4 _ _ _, fn 4, a1, (r4 _ _ _).1, (r4 _ _ _).2.1, q12 _, q11 _, by omega, b2, Or.inr (Or.inr (Or.inr (Or.inr ⟨q13 _, Or.inl (r4 _ _ _).2.2, hae⟩)))⟩
      · rw [cn e hc, if_neg hc]
        by_cases h4 : e ≤ a + 4
        · rw [if_pos ⟨rfl, h4⟩]
          exact ⟨_, _, a, e, rfl, rfl, fc3 _ _, fn 2, a1, (r3 _ _).1, (r3 _ _).2.1, q12 _, q11 _, by omega, b2, Or.inr (Or.inr (Or.inl ⟨(r3 _ _).2.2, q13 _, hae, h4, by rw [q14, v1 h4], sto_ss, b3⟩))⟩
        · rw [if_neg (fun x => h4 x.2)]
          exact ⟨_, _, a, e, rfl, rfl, fc3 _ _, fn 4, a1, (r3 _ _).1, (r3 _ _).2.1, q12 _, q11 _, by omega, b2, Or.inr (Or.inr (Or.inr (Or.inr ⟨q13 _, Or.inr ⟨(r3 _ _).2.2, by omega⟩, hae⟩)))⟩
    · -- a sign
      rw [hs]
      rw [if_pos (show nI 3 = (3 : Int32) from rfl), if_neg (show ¬ (3 : Nat) = 1 by decide), if_pos rfl, isFigure_e T2 hlt, bd_s, if_neg (show ¬ srt (t a) = 2 by rw [hs]; decide), if_pos rfl, nm_t, sto_ss, sto_sto]
      simp only [nm_t]
      have rr : ∀ {β : Type} (f : Int32 → Option β), rd (sto (sto (sto N 0 11 (nI a)) 0 12 (nI a)) 0 13 3) 9 96 (sto (sto (sto N 0 11 (nI a)) 0 12 (nI a)) 0 13 3 0 12) f = f (nI (t a)) := fun f => by
        rw [sto_sn (show (12 : Nat) ≠ 13 by decide), sto_ss, rdn (by omega) (by decide), sto_n (by decide), sto_n (by decide), sto_n (by decide), d2]
      rw [rr, z1, nI_add, sto_sn (show (11 : Nat) ≠ 14 by decide), sto_sn (show (11 : Nat) ≠ 13 by decide), sto_sn (show (11 : Nat) ≠ 12 by decide), sto_ss, nI_add]
      refine ⟨_, _, a, a + 1, rfl, rfl, fc3 _ _, ⟨fun k hk => by rw [sto_n hk, sto_n hk, sto_n hk, sto_n hk, sto_n hk], fun j j1 j2 j3 j4 j5 => by rw [sto_sn j1, sto_sn j4, sto_sn j3, sto_sn j2, sto_sn j1]⟩, a1, (r3 _ _).1, (r3 _ _).2.1, by rw [sto_sn (by decide), sto_sn (by decide), sto_sn (by decide), sto_ss], sto_ss, by omega, by omega, Or.inr (Or.inr (Or.inr (Or.inl ⟨(r3 _ _).2.2, by rw [sto_sn (by decide), sto_sn (by decide), sto_ss], rfl, by rw [sto_sn (by decide), sto_ss], ?_⟩)))⟩
      rw [sto_sn (by decide), sto_sn (by decide), sto_sn (by decide), sto_sn (by decide), sto_sn (by decide)]
      rcases pre with ⟨q1, q2⟩ | ⟨q1, q2, q3⟩
      · rw [q2, toI_nI (by omega)]; omega
      · omega
