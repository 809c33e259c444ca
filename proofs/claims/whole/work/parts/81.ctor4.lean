/-! CONSTRUCTORS, 7 (written by wip/gen/wctor4.py): the class's own; the two worlds at the start are in relation -/
theorem arr_cong {c : ClassId} {n : Nat} {f g : Nat → Value} (h : ∀ j, j < n → f j = g j) : arrV c n f = arrV c n g := by
  have e : (fun j : Fin n => f j.val) = fun j : Fin n => g j.val := funext fun j => h j.val j.isLt
  unfold arrV
  rw [e]
theorem n_same {x : En} {D : va_G} {nL : Nat} {ws : va_W} {nc ns pc : Nat} {V : List (Option Value)} {st : List Value} (w2 : va_W) (hp : ∀ H, va_P D vwCl ws H → va_P D vwCl w2 H) (hf : w2.map Prod.fst = ws.map Prod.fst) (kk : Gn x D nL w2 nc ns pc V st) : Gn x D nL ws nc ns pc V st := by
  obtain ⟨p, l, e, R, s, m, args, below, meth, c, A, cells, slots, Q⟩ := x
  intro H locs ls hP hD hS hl
  refine kk H locs ls (hp H hP) ?_ hS hl
  obtain ⟨g1, g2⟩ := va_D_mem.mp hD
  refine va_D_mem.mpr ⟨by rw [hf]; exact g1, fun q hq => ?_⟩
  have h1 : q.1 ∈ ws.map Prod.fst := by rw [← hf]; exact List.mem_map_of_mem hq
  obtain ⟨r, r1, r2⟩ := List.mem_map.mp h1
  rw [← r2]
  exact g2 r r1
theorem n_cell {x : En} {D : va_G} {nL : Nat} {P Q : va_W} {nc ns pc : Nat} {V : List (Option Value)} {st : List Value} {q0 : Nat} {a b : ClassId × vp_A} (k : Nat) (Q2 : va_W) (he : Q[k]? = some (q0, .inl a)) (hv : vp_cell a.1 a.2 = vp_cell b.1 b.2) (hset : Q.set k (q0, .inl b) = Q2) (kk : Gn x D nL (P ++ Q2) nc ns pc V st) : Gn x D nL (P ++ Q) nc ns pc V st := by
  subst hset
  rw [← set_P] at kk
  have hat : (P ++ Q)[P.length + k]? = some (q0, .inl a) := at_P.trans he
  refine n_same _ (fun H hH i q hi => ?_) ?_ kk
  · rw [List.getElem?_set] at hi
    split at hi
    · split at hi
      · cases hi
        have h1 : H[q0]? = some (vp_cell a.1 a.2) := hH (P.length + k) _ hat
        rw [hv] at h1
        exact h1
      · cases hi
    · exact hH i q hi
  · apply List.ext_getElem?
    intro i
    rw [List.getElem?_map, List.getElem?_map, List.getElem?_set]
    split
    · rename_i h
      subst h
      have hl := (List.getElem?_eq_some_iff.mp hat).1
      rw [if_pos hl, hat]
      rfl
    · rfl
theorem pm1 {P l : va_W} {c : Nat × va_E} : (P ++ (([] : va_W) ++ (c :: l))).Perm ((P ++ l) ++ [c]) := by
  rw [List.nil_append, List.append_assoc]
  exact List.Perm.append_left P (List.perm_append_singleton c l).symm
theorem pm2 {P l : va_W} {c d : Nat × va_E} : (P ++ ([c] ++ (d :: l))).Perm ((P ++ l) ++ [c, d]) := by
  rw [List.append_assoc]
  exact List.Perm.append_left P (List.perm_append_comm (l₁ := [c, d]) (l₂ := l))
theorem pm3 {H0 H1 H2 Q T : va_W} {c : Nat × va_E} (hq : Q.Perm (c :: T)) : ((((([] : va_W) ++ H0) ++ H1) ++ H2) ++ Q).Perm (c :: (H0 ++ (H1 ++ (H2 ++ T)))) := by
  refine (List.Perm.append_left _ hq).trans (List.perm_middle.trans (List.Perm.cons c ?_))
  rw [List.nil_append, List.append_assoc, List.append_assoc]
theorem perm_idx {Q : va_W} {n : Nat} (d : Nat × va_E) (hl : Q.length = n) (σ : List Nat) (h : σ.Perm (List.range n)) : Q.Perm (σ.map (fun i => Q.getD i d)) := by
  have e : (List.range n).map (fun i => Q.getD i d) = Q := by
    apply List.ext_getElem?
    intro i
    rw [List.getElem?_map]
    by_cases hi : i < n
    · rw [List.getElem?_range hi, List.getElem?_eq_getElem (show i < Q.length by omega)]
      simp [List.getElem?_eq_getElem (show i < Q.length by omega)]
    · rw [List.getElem?_eq_none (show Q.length ≤ i by omega), List.getElem?_eq_none (by simp; omega)]
      rfl
  have h2 := h.map (fun i => Q.getD i d)
  rw [e] at h2
  exact h2.symm
theorem mapr_add {α : Type} {f : Nat → α} (a b : Nat) : (List.range (a + b)).map f = (List.range a).map f ++ (List.range b).map (fun j => f (a + j)) := by
  rw [List.range_add, List.map_append, List.map_map]
  rfl
theorem hallC_eq {ca : Nat → ClassId} {h g : Nat → Nat} {o : Nat} (hh : ∀ k, k < 17 → h (o + k) = g k) (j : Nat) (hj : j < 17) (row : Nat → Int32) (h8 : j = 8 → row = fun _ => 0) : hallC ca h o j row = hallC ca g 0 j row := by
  rcases (show j = 0 ∨ j = 1 ∨ j = 6 ∨ j = 8 ∨ (j ≠ 0 ∧ j ≠ 1 ∧ j ≠ 6 ∧ j ≠ 8) by omega) with rfl | rfl | rfl | rfl | ⟨e0, e1, e6, e8⟩
  · simp only [hallC, obHall, Nat.zero_add, hh 1 (by decide), hh 6 (by decide), hh 11 (by decide), hh 12 (by decide), hh 13 (by decide), hh 14 (by decide), hh 15 (by decide), hh 16 (by decide)]
  · simp only [hallC, obDoors, Nat.zero_add, hh 2 (by decide), hh 3 (by decide), hh 4 (by decide), hh 5 (by decide)]
  · simp only [hallC, obLaws, Nat.zero_add, hh 7 (by decide), hh 8 (by decide), hh 9 (by decide), hh 10 (by decide)]
  · rw [h8 rfl]
    rfl
  · rcases (show j = 2 ∨ j = 3 ∨ j = 4 ∨ j = 5 ∨ j = 7 ∨ j = 9 ∨ j = 10 ∨ j = 11 ∨ j = 12 ∨ j = 13 ∨ j = 14 ∨ j = 15 ∨ j = 16 by omega) with rfl | rfl | rfl | rfl | rfl | rfl | rfl | rfl | rfl | rfl | rfl | rfl | rfl <;> rfl
def hC0 (a : Nat) (g0 g1 g2 tl : Nat → Nat) : Nat → Nat := fun k => if k = 0 then a else if k < 18 then g0 (k - 1) else if k < 35 then g1 (k - 18) else if k < 52 then g2 (k - 35) else tl (k - 52)
def sh0 : Nat → Int32 := upd (fun _ => 0) 0 (-1)
def tl0 : Nat → Nat → Int32 := fun j => match j with
  | 5 => sh0 | 7 => sh0 | 9 => sh0 | 11 => sh0 | 15 => sh0 | 18 => sh0 | 21 => sh0 | 24 => sh0 | 27 => sh0
  | _ => fun _ => 0
def MC0 (M0 M1 M2 : Mem) : Mem := fun k => if k = 0 then (fun _ => 0) else if k < 18 then M0 (k - 1) else if k < 35 then M1 (k - 18) else if k < 52 then M2 (k - 35) else tl0 (k - 52)
theorem hc0_0 {a : Nat} {g0 g1 g2 tl : Nat → Nat} {j : Nat} (hj : j < 17) : hC0 a g0 g1 g2 tl (HB 0 + j) = g0 j := by
  unfold hC0 HB
  rw [if_neg (by omega), if_pos (by omega)]
  congr 1
  omega
theorem hc0_1 {a : Nat} {g0 g1 g2 tl : Nat → Nat} {j : Nat} (hj : j < 17) : hC0 a g0 g1 g2 tl (HB 1 + j) = g1 j := by
  unfold hC0 HB
  rw [if_neg (by omega), if_neg (by omega), if_pos (by omega)]
  congr 1
  omega
theorem hc0_2 {a : Nat} {g0 g1 g2 tl : Nat → Nat} {j : Nat} (hj : j < 17) : hC0 a g0 g1 g2 tl (HB 2 + j) = g2 j := by
  unfold hC0 HB
  rw [if_neg (by omega), if_neg (by omega), if_neg (by omega), if_pos (by omega)]
  congr 1
  omega
theorem mc0_0 {M0 M1 M2 : Mem} {j : Nat} (hj : j < 17) : MC0 M0 M1 M2 (HB 0 + j) = M0 j := by
  unfold MC0 HB
  rw [if_neg (by omega), if_pos (by omega)]
  congr 1
  omega
theorem mc0_1 {M0 M1 M2 : Mem} {j : Nat} (hj : j < 17) : MC0 M0 M1 M2 (HB 1 + j) = M1 j := by
  unfold MC0 HB
  rw [if_neg (by omega), if_neg (by omega), if_pos (by omega)]
  congr 1
  omega
theorem mc0_2 {M0 M1 M2 : Mem} {j : Nat} (hj : j < 17) : MC0 M0 M1 M2 (HB 2 + j) = M2 j := by
  unfold MC0 HB
  rw [if_neg (by omega), if_neg (by omega), if_neg (by omega), if_pos (by omega)]
  congr 1
  omega
theorem hall_map {ca : Nat → ClassId} {h g : Nat → Nat} {C M : Mem} {b : Nat} {f : Nat → Nat × va_E} (hb : b < 3) (hf : ∀ j, j < 17 → f j = (h (HB b + j), celC ca h (HB b + j) (C (HB b + j)))) (hh : ∀ k, k < 17 → h (HB b + k) = g k) (hC : ∀ k, k < 17 → C (HB b + k) = M k) (h8 : M 8 = fun _ => 0) : (List.range 17).map f = hallW ca g M := by
  unfold hallW
  refine List.map_congr_left (fun j hj => ?_)
  have hj := List.mem_range.mp hj
  rw [hf j hj, hh j hj, hC j hj, c_hall hb j hj, hallC_eq hh j hj _ (fun e => by rw [e]; exact h8)]
theorem fin_ws {ca : Nat → ClassId} {a : Nat} {g0 g1 g2 tl : Nat → Nat} {M0 M1 M2 : Mem} (h0 : HInit M0) (h1 : HInit M1) (h2 : HInit M2) : wsOf (hC0 a g0 g1 g2 tl) (LaC ca (hC0 a g0 g1 g2 tl) 0) (MC0 M0 M1 M2) = (a, .inr (8, obOne (hC0 a g0 g1 g2 tl) (fun _ => 0))) :: (hallW ca g0 M0 ++ (hallW ca g1 M1 ++ (hallW ca g2 M2 ++ (List.range 30).map (fun j => (hC0 a g0 g1 g2 tl (52 + j), celC ca (hC0 a g0 g1 g2 tl) (52 + j) (MC0 M0 M1 M2 (52 + j))))))) := by
  show (List.range (1 + (17 + (17 + (17 + 30))))).map (fun k => (hC0 a g0 g1 g2 tl k, celC ca (hC0 a g0 g1 g2 tl) k (MC0 M0 M1 M2 k))) = _
  rw [mapr_add, mapr_add, mapr_add, mapr_add]
  rw [hall_map (ca := ca) (h := hC0 a g0 g1 g2 tl) (g := g0) (C := MC0 M0 M1 M2) (M := M0) hb_0 (fun j _ => by rw [show 1 + j = HB 0 + j by unfold HB; omega]) (fun k hk => hc0_0 hk) (fun k hk => mc0_0 hk) h0.2.2.2.2.1]
  rw [hall_map (ca := ca) (h := hC0 a g0 g1 g2 tl) (g := g1) (C := MC0 M0 M1 M2) (M := M1) hb_1 (fun j _ => by rw [show 1 + (17 + j) = HB 1 + j by unfold HB; omega]) (fun k hk => hc0_1 hk) (fun k hk => mc0_1 hk) h1.2.2.2.2.1]
  rw [hall_map (ca := ca) (h := hC0 a g0 g1 g2 tl) (g := g2) (C := MC0 M0 M1 M2) (M := M2) hb_2 (fun j _ => by rw [show 1 + (17 + (17 + j)) = HB 2 + j by unfold HB; omega]) (fun k hk => hc0_2 hk) (fun k hk => mc0_2 hk) h2.2.2.2.2.1]
  have e : ∀ j, 1 + (17 + (17 + (17 + j))) = 52 + j := fun j => by omega
  simp only [e]
  rfl
theorem R0_r : ∀ r, r < 8 → R0 (6 + 4 * r) = 1000 ∧ R0 (7 + 4 * r) = 0 ∧ R0 (8 + 4 * r) = 0 ∧ R0 (9 + 4 * r) = 0 := by decide +kernel
theorem ix0 : ix (0 : Int32) = 0 := rfl
theorem hs_0 {M0 M1 M2 : Mem} (h : HInit M0) : HRel 0 (MC0 M0 M1 M2) 0 (N0 1) := by
  show HRel 0 (MC0 M0 M1 M2) 0 R0
  obtain ⟨e0, e1, e6, e7, e8, e9, e11, e12, e13⟩ := h
  have r1 : R0 1 = 0 := by decide +kernel
  have r5 : R0 5 = 0 := by decide +kernel
  have c0 : MC0 M0 M1 M2 (HB 0) = M0 0 := mc0_0 (j := 0) (by decide)
  refine ⟨?_, ?_, R0_str, ?_, ?_, ?_⟩
  · unfold HS
    rw [mc0_0 (j := 1) (by decide), mc0_0 (j := 6) (by decide), mc0_0 (j := 7) (by decide), mc0_0 (j := 9) (by decide), e1, e6, e7, r1, r5]
    refine ⟨rfl, rfl, fun d hd => absurd hd (by rw [ix0]; omega), ⟨0, by decide, rfl, fun i hi => absurd hi (by rw [ix0]; omega)⟩, fun t ht => absurd ht (by rw [ix0]; omega), fun k hk => cnt0_e k hk, fun k w o a1 a2 a3 a4 => e9 k w o a1 a2 a3 a4⟩
  · unfold HDy
    rw [c0, mc0_0 (j := 11) (by decide), mc0_0 (j := 12) (by decide), mc0_0 (j := 13) (by decide), e0, e12, e13]
    refine ⟨by decide +kernel, by decide +kernel, by decide +kernel, by rw [e11 8 (by decide)]; decide +kernel, fun r hr => ?_, ⟨0, by decide, by decide +kernel, fun i hi => ?_⟩⟩
    · obtain ⟨q1, q2, q3, -⟩ := R0_r r hr
      rw [e11 r (by omega), q1, q2, q3]
      exact ⟨rfl, rfl, rfl⟩
    · show R0 (9 + 4 * i) = _
      rw [(R0_r i hi).2.2.2, Nat.zero_testBit]
      rfl
  · have : R0 3 = 1000 := by decide +kernel
    rw [this]
    exact ⟨by decide, by decide⟩
  · intro d hd
    rw [r1, ix0] at hd
    omega
  · intro r hr
    obtain ⟨q1, q2, -, -⟩ := R0_r r hr
    rw [q1, q2]
    exact ⟨⟨by decide, by decide⟩, ⟨by decide, by decide⟩⟩
theorem rel_0 {M0 M1 M2 : Mem} (h0 : HInit M0) (h1 : HInit M1) (h2 : HInit M2) : Rel 0 (MC0 M0 M1 M2) N0 := by
  refine ⟨hs_0 h0, ?_, fun i _ => Or.inl ?_, fun i _ => Or.inl ?_, ⟨rfl, Or.inl rfl⟩, fun i _ => Or.inl ?_, ⟨?_, rfl, fun k hk => ?_⟩, fun i hi => ?_, fun i hi => ?_, ⟨?_, rfl, fun k hk => ?_⟩, ⟨by decide +kernel, by decide +kernel, by decide +kernel, by decide +kernel, by decide +kernel⟩⟩
  · have : N0 1 2 = 0 := by decide +kernel
    rw [this]
    exact ⟨by decide, by decide⟩
  · rw [mc0_0 (j := 8) (by decide), h0.2.2.2.2.1]
  · rw [mc0_2 (j := 8) (by decide), h2.2.2.2.2.1]
  · rw [mc0_1 (j := 8) (by decide), h1.2.2.2.2.1]
  · show Bd (0 : Int32) 0 96
    exact ⟨by decide, by decide⟩
  · have hk : k < ix (0 : Int32) := hk
    rw [ix0] at hk
    omega
  · rcases (show i = 0 ∨ i = 1 ∨ i = 2 ∨ i = 3 by omega) with rfl | rfl | rfl | rfl <;> exact ⟨rfl, rfl, ⟨by decide +kernel, by decide +kernel⟩, ⟨by decide +kernel, by decide +kernel⟩, fun k hk => ⟨rfl, Or.inr (show Bd (0 : Int32) (-99999) 99999 from ⟨by decide, by decide⟩)⟩⟩
  · rcases (show i = 0 ∨ i = 1 ∨ i = 2 ∨ i = 3 ∨ i = 4 by omega) with rfl | rfl | rfl | rfl | rfl <;> exact ⟨rfl, ⟨by decide +kernel, by decide +kernel⟩, fun h => absurd h (by decide +kernel), fun h => absurd h (by decide +kernel), fun h => absurd h (by decide +kernel)⟩
  · show Bd (0 : Int32) 0 60
    exact ⟨by decide, by decide⟩
  · have hk : k < ix (0 : Int32) := hk
    rw [ix0] at hk
    omega
