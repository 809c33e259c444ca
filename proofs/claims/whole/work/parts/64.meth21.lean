/-! opened -/
def minI : Nat → (Nat → Int32) → (Nat → Int32)
  | 0, R => R
  | k + 1, R => minI k (minR R)
/-- how far the airs are from the told ones, in the first k rooms -/
def dS (R cell : Nat → Int32) (m : Nat) : Nat → Nat
  | 0 => 0
  | k + 1 => dS R cell m k + (if k < m ∧ ¬ cell k = -1000000005 then ((R (6 + 4 * k)).toInt - (cell k).toInt).natAbs else 0)
def CellOK (cell : Nat → Int32) : Prop := ∀ k, k < 24 → cell k = -1000000005 ∨ Bd (cell k) (-99999) 99999
theorem dS_le {R cell : Nat → Int32} {m : Nat} (hR : RowOK R) (hc : CellOK cell) : ∀ k, k ≤ 8 → dS R cell m k ≤ k * 109998
  | 0, _ => Nat.le_refl _
  | k + 1, hk => by
    have ih := dS_le (m := m) hR hc k (by omega)
    have a1 := (hR.2.2.2 k (by omega)).1
    unfold dS
    split
    · rename_i q
      rcases hc k (by omega) with e | e
      · exact absurd e q.2
      · obtain ⟨x1, x2⟩ := a1
        obtain ⟨y1, y2⟩ := e
        omega
    · rw [Nat.add_zero]
      exact Nat.le_trans ih (Nat.mul_le_mul_right _ (Nat.le_succ k))
theorem off_t {nl T s : Nat} {C N : Mem} (hT : T ≤ 1000) : ∀ (k i n1 n2 : Nat) (C1 N1 : Mem) (v : Int32), i + k = T → k < n1 → k < n2 → ThA nl C N C1 N1 → ∃ C2 N2 u, f_X8_differenceWith_l38 nl 0 s n1 (nI T) (nI i) C1 = f_X8_differenceWith_l71 nl 0 s FU 0 0 C2 ∧ f_X10_goesOn_l4 n2 (nI T) v (nI i) N1 = some (u, N2) ∧ ThA nl C N C2 N2 ∧ N2 1 = minI k (N1 1)
  | 0, i, n1 + 1, n2 + 1, C1, N1, v, hi, _, _, t => by
    rw [f_X8_differenceWith_l38, f_X10_goesOn_l4, if_pos (fu_le (by omega) (by omega) (by omega)), if_pos (fu_le (by omega) (by omega) (by omega))]
    exact ⟨C1, N1, v, rfl, rfl, t, rfl⟩
  | k + 1, i, n1 + 1, n2 + 1, C1, N1, v, hi, l1, l2, t => by
    obtain ⟨t1, t2, t3, t4⟩ := t
    obtain ⟨C2, C3, a1, a2, a3, a4, a5⟩ := ha_min (b := 2) (by decide) t3
    obtain ⟨N3, m1, m2, m3⟩ := nt_min t4 t3.2.1
    rw [f_X8_differenceWith_l38, f_X10_goesOn_l4, if_neg (fu_nle (by omega) (by omega) (by omega)), if_neg (fu_nle (by omega) (by omega) (by omega)), a1, bd_s, a3, bd_s, nm_t, m1, bd2_s, nm_t, nm_t, z1, nI_add]
    obtain ⟨C4, N4, u, p1, p2, p3, p4⟩ := off_t (s := s) (C := C) (N := N) hT k (i + 1) n1 n2 C3 N3 (v + outR (N1 1)) (by omega) (by omega) (by omega) ⟨t1.tr (fun k hk => a5 k (by omega) (by omega) (by omega) (by omega)), fun i hi => by rw [a5 _ (by omega) (by omega) (by omega) (by omega)]; exact t2 i hi, by rw [m2]; exact a4, m3⟩
    exact ⟨C4, N4, u, p1, p2, p3, by rw [p4, m2]; rfl⟩
theorem abs_e {x y : Int32} (h1 : Bd x 0 9999) (h2 : Bd y (-99999) 99999) : (if 0 ≤ x - y then x - y else 0 - (x - y)) = nI (x.toInt - y.toInt).natAbs := by
  obtain ⟨x1, x2⟩ := h1
  obtain ⟨y1, y2⟩ := h2
  have e : (x - y).toInt = x.toInt - y.toInt := toI_sub (by omega) (by omega)
  have z : (0 : Int32).toInt = 0 := rfl
  rw [i32eq, toI_nI (by omega)]
  by_cases q : 0 ≤ x - y
  · have := i32le.mp q
    rw [if_pos q, e]
    omega
  · have := mt i32le.mpr q
    rw [if_neg q, toI_sub (by rw [e, z]; omega) (by rw [e, z]; omega), e, z]
    omega
theorem l64 {a : Int32} : a.toInt64.toInt = a.toInt := Int32.toInt_toInt64 a
theorem off64 {x y : Int32} (h1 : Bd x 0 9999) (h2 : Bd y (-99999) 99999) : (if 0 ≤ lg_cmp (y.toInt64 - x.toInt64) 0 then y.toInt64 - x.toInt64 else -(y.toInt64 - x.toInt64)) = (nI (x.toInt - y.toInt).natAbs).toInt64 := by
  obtain ⟨x1, x2⟩ := h1
  obtain ⟨y1, y2⟩ := h2
  have e : (y.toInt64 - x.toInt64).toInt = y.toInt - x.toInt := by
    rw [Int64.toInt_sub, l64, l64]
    simp only [Int.bmod_def]
    omega
  have z : (0 : Int64).toInt = 0 := rfl
  apply Int64.toInt_inj.mp
  rw [l64, toI_nI (by omega)]
  by_cases q : 0 ≤ lg_cmp (y.toInt64 - x.toInt64) 0
  · have g := Int64.le_iff_toInt_le.mp ((lg_cmp_ge _ _).mp q)
    rw [e, z] at g
    rw [if_pos q, e]
    omega
  · have g := mt Int64.le_iff_toInt_le.mpr (mt (lg_cmp_ge _ _).mpr q)
    rw [e, z] at g
    rw [if_neg q, Int64.toInt_neg, e]
    simp only [Int.bmod_def]
    omega
theorem add64 {a b : Nat} (h : a + b < 2147483648) : (nI a).toInt64 + (nI b).toInt64 = (nI (a + b)).toInt64 := by
  apply Int64.toInt_inj.mp
  rw [Int64.toInt_add, l64, l64, l64, toI_nI (by omega), toI_nI (by omega), toI_nI (by omega)]
  simp only [Int.bmod_def]
  omega
theorem sumC_l {nl s m : Nat} {C : Mem} {R : Nat → Int32} (hm : m ≤ 24) (hs : C s 1 = nI m) (hR : RowOK R) (hc : CellOK (C (s + 1))) (ha : ∀ r, r < 9 → C (HB 2 + 11) r = airR R r) : ∀ (k i n : Nat), i + k = 8 → k < n → f_X8_differenceWith_l71 nl 0 s n (nI (dS R (C (s + 1)) m i)) (nI i) C = some (nI (dS R (C (s + 1)) m 8), C)
  | 0, i, n + 1, hi, _ => by
    rw [f_X8_differenceWith_l71, show i = 8 by omega, if_pos (by decide)]
  | k + 1, i, n + 1, hi, hk => by
    have ih := sumC_l (nl := nl) hm hs hR hc ha k (i + 1) n (by omega) (by omega)
    rw [f_X8_differenceWith_l71, if_neg (le8 (by omega))]
    unfold f_X6_hasNumber f_X8_differenceWith_j113
    rw [x6has_e, hs, bd_s]
    by_cases q : i < m
    · have hq : 0 ≤ nI i ∧ nI i ≤ nI m - 1 := ⟨fu_le (a := 0) (by omega) (by omega) (by omega), by rw [nI_pred1 (by omega)]; exact fu_le (by omega) (by omega) (by omega)⟩
      rw [if1 hq, rdn (by omega) (by decide)]
      by_cases g : C (s + 1) i = -1000000005
      · rw [if_pos g, bd_s, if_pos rfl, nm_t, z1, nI_add]
        unfold dS at ih
        rw [if_neg (fun x => x.2 g)] at ih
        exact ih
      · have b1 : Bd (R (6 + 4 * i)) 0 9999 := (hR.2.2.2 i (by omega)).1
        have b2 : Bd (C (s + 1) i) (-99999) 99999 := by
          rcases hc i (by omega) with e | e
          · exact absurd e g
          · exact e
        rw [if_neg g, bd_s, if_neg (by decide), rdn (by omega) (by decide), rdn (by omega) (by decide), ha i (by omega), airR_lt (by omega), abs_e b1 b2, nm_t, nm_t, nI_add, z1, nI_add]
        unfold dS at ih
        rw [if_pos ⟨q, g⟩] at ih
        exact ih
    · have hq : ¬ (0 ≤ nI i ∧ nI i ≤ nI m - 1) := fun x => by
        obtain ⟨y, y1, y2⟩ := place_n hm x
        rw [eq_nI (by omega) (by omega)] at y2
        omega
      rw [if0 hq, bd_s, if_pos rfl, nm_t, z1, nI_add]
      unfold dS at ih
      rw [if_neg (fun x => q x.1)] at ih
      exact ih
theorem dS_top {R cell : Nat → Int32} {m i : Nat} (h : m ≤ i) : ∀ k, dS R cell m (i + k) = dS R cell m i
  | 0 => rfl
  | k + 1 => by
    show dS R cell m (i + k) + (if i + k < m ∧ ¬ cell (i + k) = -1000000005 then _ else 0) = _
    rw [dS_top h k, if_neg (by omega), Nat.add_zero]
theorem sumN_l {N N2 : Mem} {s m : Nat} {cell : Nat → Int32} (hs4 : s < 4) (hm : m ≤ 24) (hs : N 18 s = nI m) (hR : RowOK (N 1)) (hc : CellOK cell) (he : ∀ k, k < 24 → N 19 (24 * s + k) = cell k) (hb : f_X10_putsBack N = some N2) : ∀ (k i n : Nat), i + k = 8 → k < n → i ≤ m → f_X10_offBy_l34 n (nI s) (nI (dS (N 1) cell m i)).toInt64 (nI i) N = some ((nI (dS (N 1) cell m 8)).toInt64, N2)
  | 0, i, n + 1, hi, _, him => by
    rw [f_X10_offBy_l34, rdn (by omega) (by decide), hs, show i = 8 by omega, hb, bd_s, if_pos (show (8 : Int32) ≤ nI 8 by decide)]
    by_cases q : nI m ≤ nI 8
    · rw [if_pos q]
    · rw [if_neg q]
  | k + 1, i, n + 1, hi, hk, him => by
    rw [f_X10_offBy_l34, rdn (by omega) (by decide), hs]
    by_cases q : i < m
    · have ih := sumN_l hs4 hm hs hR hc he hb k (i + 1) n (by omega) (by omega) (by omega)
      have bi := dS_le (m := m) hR hc i (by omega)
      have a1 := (hR.2.2.2 i (by omega)).1
      unfold f_X10_offBy_j108
      rw [if_neg (fu_nle (by omega) (by omega) (by omega)), if_neg (le8 (by omega)), rdl (24 * s + i) (idx24 s i) (by omega) (by decide), at0 (by omega), bd_s, nm_t, he i (by omega)]
      by_cases g : cell i = -1000000005
      · rw [if_pos g, nm_t, nm_t, Int64.add_zero, z1, nI_add]
        unfold dS at ih
        rw [if_neg (fun x => x.2 g)] at ih
        exact ih
      · have b2 : Bd (cell i) (-99999) 99999 := by
          rcases hc i (by omega) with e | e
          · exact absurd e g
          · exact e
        have o := off64 a1 b2
        have fin : ∀ x : Int64, x = (nI ((N 1 (6 + 4 * i)).toInt - (cell i).toInt).natAbs).toInt64 → (nm ((nI (dS (N 1) cell m i)).toInt64 + x) fun x20 => nm (nI i + 1) fun x21 => f_X10_offBy_l34 n (nI s) x20 x21 N) = some ((nI (dS (N 1) cell m 8)).toInt64, N2) := by
          intro x hx
          obtain ⟨x1, x2⟩ := a1
          obtain ⟨y1, y2⟩ := b2
          rw [nm_t, nm_t, hx, add64 (by omega), z1, nI_add]
          unfold dS at ih
          rw [if_pos ⟨q, g⟩] at ih
          exact ih
        rw [if_neg g]
        by_cases w : 0 ≤ lg_cmp ((cell i).toInt64 - (N 1 (6 + 4 * i)).toInt64) 0
        · rw [if_pos w] at o ⊢
          exact fin _ o
        · rw [if_neg w] at o ⊢
          exact fin _ o
    · have : i = m := by omega
      have e8 := dS_top (R := N 1) (cell := cell) (m := m) (i := i) (by omega) (8 - i)
      rw [show i + (8 - i) = 8 by omega] at e8
      rw [if_pos (fu_le (by omega) (by omega) (by omega)), hb, bd_s, e8]
/-- the door's difference, in both -/
theorem dif_e {nl T d s m : Nat} {C N C1 N1 : Mem} (hT : T ≤ 40) (h : Rel nl C N) (o : Out 2 C C1) (r : Rdy N N1) (hd : d < ix (N 1 1)) (hs : s < 4) (em : N 18 s = nI m) (hm : m ≤ 24) :
    ∃ D C2 N2, D ≤ 8 * 109998 ∧ D = dS (minI T (upd (N 1) (42 + 5 * d) (1 - N 1 (42 + 5 * d)))) (fun k => N 19 (24 * s + k)) m 8 ∧ f_X8_differenceWith nl 0 (57 + 2 * s) C1 (nI d) (nI T) = some (nI D, C2) ∧ f_X10_offBy N1 (nI s) (nI d) (nI T) = some ((nI D).toInt64, N2) ∧ Out 2 C C2 ∧ LOK nl C2 2 ∧ Rdy N N2 := by
  obtain ⟨e0, hn⟩ := dn_b h.1.2.2.1
  obtain ⟨s1, s2, s3, s4, s5⟩ := h.sheets s hs
  obtain ⟨C2, c1, t1⟩ := th_take h o r
  have w01 : N 1 (42 + 5 * d) = 0 ∨ N 1 (42 + 5 * d) = 1 := by
    have := (h.1.2.2.2.2.1 d hd).2.2.2.2
    exact one_n ⟨i32le.mpr this.1, i32le.mpr this.2⟩
  have ho : (1 - N 1 (42 + 5 * d) : Int32) = 0 ∨ (1 - N 1 (42 + 5 * d) : Int32) = 1 := by
    rcases w01 with e | e <;> rw [e]
    · exact Or.inr rfl
    · exact Or.inl rfl
  obtain ⟨C3, c2, t2⟩ := th_open t1 (d := d) (by rw [r.1]; exact hd) ho
  have isO : f_X0_isOpen 0 C2 (nI d) = some (N 1 (42 + 5 * d)) := isOpen_c (C := C2) (b := 0) (n := ix (N 1 1)) (f := fun d => N 1 (42 + 5 * d)) (by rw [out2 t1.1 (by decide)]; exact h.1.1.2.2.2.1) hn hd
  obtain ⟨C4, N4, u, p1, p2, p3, p4⟩ := off_t (s := 57 + 2 * s) (T := T) (by omega) T 0 FU FU C3 _ 0 (by omega) (FU_gt (by omega)) (FU_gt (by omega)) t2.a
  have p1 : f_X8_differenceWith_l38 nl 0 (57 + 2 * s) FU (nI T) 0 C3 = _ := p1
  have p2 : f_X10_goesOn_l4 FU (nI T) 0 0 (sto N1 1 (42 + 5 * d) (1 - N 1 (42 + 5 * d))) = some (u, N4) := p2
  rw [sto_s, r.1] at p4
  obtain ⟨q1, q2, q3, q4⟩ := p3
  obtain ⟨N5, b1, b2⟩ := nt_back q4
  have hR := q3.2.1
  have e58 : C4 (57 + 2 * s + 1) = C (58 + 2 * s) := by rw [out2 q1 (by omega), show 57 + 2 * s + 1 = 58 + 2 * s by omega]
  have cOK : CellOK (fun k => N 19 (24 * s + k)) := fun k hk => (s5 k hk).2
  have cOK2 : CellOK (C4 (57 + 2 * s + 1)) := fun k hk => by rw [e58, (s5 k hk).1]; exact (s5 k hk).2
  have dEq : ∀ k, k ≤ 8 → dS (N4 1) (C4 (57 + 2 * s + 1)) m k = dS (N4 1) (fun k => N 19 (24 * s + k)) m k := by
    intro k
    induction k with
    | zero => intro _; rfl
    | succ k ih =>
      intro hk
      unfold dS
      rw [ih (by omega), e58, (s5 k (by omega)).1]
  have x1 := sumC_l (nl := nl) (s := 57 + 2 * s) (m := m) (C := C4) (R := N4 1) hm (by rw [out2 q1 (by omega), s2, em]) hR cOK2 q3.2.2.1 8 0 FU (by omega) (FU_gt (by omega))
  rw [dEq 8 (by omega)] at x1
  have x1 : f_X8_differenceWith_l71 nl 0 (57 + 2 * s) FU 0 0 C4 = some (nI (dS (N4 1) (fun k => N 19 (24 * s + k)) m 8), C4) := x1
  have x2 := sumN_l (N := N4) (N2 := N5) (cell := fun k => N 19 (24 * s + k)) hs hm (by rw [q4.2.2 18 (by omega)]; exact em) hR cOK (fun k hk => by rw [q4.2.2 19 (by omega)]) b1 8 0 FU (by omega) (FU_gt (by omega)) (by omega)
  have x2 : f_X10_offBy_l34 FU (nI s) 0 0 N4 = some ((nI (dS (N4 1) (fun k => N 19 (24 * s + k)) m 8)).toInt64, N5) := x2
  refine ⟨dS (N4 1) (fun k => N 19 (24 * s + k)) m 8, C4, N5, dS_le hR cOK 8 (by omega), by rw [p4], ?_, ?_, q1, q2, b2⟩
  · unfold f_X8_differenceWith f_X8_differenceWith_j32
    rw [c1, bd_s, isO, bd_s]
    rcases w01 with e | e
    · rw [e] at c2
      have c2 : f_X0_swing 2 C2 (nI d) 1 = some C3 := c2
      rw [if_pos e, c2, bd_s, p1, x1]
    · rw [e] at c2
      have c2 : f_X0_swing 2 C2 (nI d) 0 = some C3 := c2
      rw [if_neg (by rw [e]; decide), c2, bd_s, p1, x1]
  · unfold f_X10_offBy f_X10_goesOn
    rw [of4 (by omega), bd_s, r.1, wrl (42 + 5 * d) (by rw [z4, idx5, show 38 + 5 * d + 4 = 42 + 5 * d by omega]) (by omega) (by decide), p2, bd2_s, x2]
def DD (N : Mem) (T s m d : Nat) : Nat := dS (minI T (upd (N 1) (42 + 5 * d) (1 - N 1 (42 + 5 * d)))) (fun k => N 19 (24 * s + k)) m 8
theorem lt64 {a b : Nat} (ha : a < 2147483648) (hb : b < 2147483648) : (0 ≤ lg_cmp (nI a).toInt64 (nI b).toInt64) ↔ b ≤ a := by
  rw [lg_cmp_ge, Int64.le_iff_toInt_le, l64, l64, toI_nI ha, toI_nI hb]
  omega
/-- the likeliest door, in both -/
theorem opn_l {nl T s m n : Nat} {C N : Mem} {a3 : Int32} (hT : T ≤ 40) (h : Rel nl C N) (hs : s < 4) (em : N 18 s = nI m) (hm : m ≤ 24) (hn : n ≤ 10) (e : N 1 1 = nI n) : ∀ (k i n1 n2 : Nat) (C1 N1 : Mem) (best least bestN : Int32) (leastN : Int64), i + k = n → k < n1 → k < n2 → Out 2 C C1 → LOK nl C1 2 → Rdy N N1 → ((best = -1000000005 ∧ bestN = -1) ∨ ∃ b, b < i ∧ best = nI b ∧ bestN = nI b ∧ DD N T s m b ≤ 879984 ∧ least = nI (DD N T s m b) ∧ leastN = (nI (DD N T s m b)).toInt64) →
    ∃ C2 N2, Out 2 C C2 ∧ LOK nl C2 2 ∧ Rdy N N2 ∧ ((f_X8_likeliestDoor_l10 nl 0 (57 + 2 * s) n1 (nI T) best least (nI i) C1 = some (-1000000005, C2) ∧ f_X10_opened_l54 n2 (nI s) (nI T) a3 bestN leastN (nI i) N1 = some (-1000000005, N2)) ∨ ∃ b, b < n ∧ f_X8_likeliestDoor_l10 nl 0 (57 + 2 * s) n1 (nI T) best least (nI i) C1 = some (nI b, C2) ∧ f_X10_opened_l54 n2 (nI s) (nI T) a3 bestN leastN (nI i) N1 = some (if a3 = 0 then nI b else nI (DD N T s m b), N2))
  | 0, i, n1 + 1, n2 + 1, C1, N1, best, least, bestN, leastN, hi, _, _, o, l, y, hb => by
    have hmany : C1 (HB 0 + 1) 0 = nI n := by rw [out2 o (by decide), h.1.1.1, e]
    rw [f_X8_likeliestDoor_l10, f_X10_opened_l54, hmany, rdl 1 z1 (by decide) (by decide), y.1, e, if_pos (fu_le (by omega) (by omega) (by omega)), if_pos (fu_le (by omega) (by omega) (by omega))]
    refine ⟨C1, N1, o, l, y, ?_⟩
    rcases hb with ⟨q1, q3⟩ | ⟨b, b1, b2, b3, b4, b5, b6⟩
    · left
      rw [q1, q3, if_neg (by decide)]
      exact ⟨rfl, rfl⟩
    · right
      refine ⟨b, by omega, by rw [b2], ?_⟩
      rw [b3, if_pos (show (0 : Int32) ≤ nI b from fu_le (a := 0) (by omega) (by omega) (by omega)), b6]
      by_cases q : a3 = 0
      · rw [if_pos q, if_pos q]
      · rw [if_neg q, if_neg q]
        have : (nI (DD N T s m b)).toInt64.toInt32 = nI (DD N T s m b) := by simp
        rw [this]
  | k + 1, i, n1 + 1, n2 + 1, C1, N1, best, least, bestN, leastN, hi, l1, l2, o, l, y, hb => by
    have hmany : C1 (HB 0 + 1) 0 = nI n := by rw [out2 o (by decide), h.1.1.1, e]
    obtain ⟨D, C2, N2, d1, d2, d3, d4, d5, d6, d7⟩ := dif_e (T := T) (d := i) (m := m) hT h o y (by rw [e, ix_nI (by omega)]; omega) hs em hm
    have dD : D = DD N T s m i := d2
    rw [f_X8_likeliestDoor_l10, f_X10_opened_l54, hmany, rdl 1 z1 (by decide) (by decide), y.1, e, if_neg (fu_nle (by omega) (by omega) (by omega)), if_neg (fu_nle (by omega) (by omega) (by omega)), d3, bd2_s, d4, bd2_s]
    unfold f_X8_likeliestDoor_j47 f_X8_likeliestDoor_j55 f_X10_opened_j88 f_X10_opened_j95 f_X10_opened_j111
    have take : (∃ C3 N3, Out 2 C C3 ∧ LOK nl C3 2 ∧ Rdy N N3 ∧ ((f_X8_likeliestDoor_l10 nl 0 (57 + 2 * s) n1 (nI T) (nI i) (nI D) (nI (i + 1)) C2 = some (-1000000005, C3) ∧ f_X10_opened_l54 n2 (nI s) (nI T) a3 (nI i) (nI D).toInt64 (nI (i + 1)) N2 = some (-1000000005, N3)) ∨ ∃ b, b < n ∧ f_X8_likeliestDoor_l10 nl 0 (57 + 2 * s) n1 (nI T) (nI i) (nI D) (nI (i + 1)) C2 = some (nI b, C3) ∧ f_X10_opened_l54 n2 (nI s) (nI T) a3 (nI i) (nI D).toInt64 (nI (i + 1)) N2 = some (if a3 = 0 then nI b else nI (DD N T s m b), N3))) :=
      opn_l hT h hs em hm hn e k (i + 1) n1 n2 C2 N2 _ _ _ _ (by omega) (by omega) (by omega) d5 d6 d7 (Or.inr ⟨i, by omega, rfl, rfl, by rw [← dD]; omega, by rw [← dD], by rw [← dD]⟩)
    rcases hb with ⟨q1, q3⟩ | ⟨b, b1, b2, b3, b4, b5, b6⟩
    · rw [if_pos q1, if_pos (show bestN < 0 by rw [q3]; decide), if_pos rfl, nm_t, nm_t, z1, nI_add]
      exact take
    · have nb : ¬ bestN < 0 := by rw [b3, z0, lt_nI (by omega) (by omega)]; omega
      have nn : ¬ best = -1000000005 := by rw [b2]; exact none_ne (by omega)
      by_cases w : DD N T s m b ≤ D
      · rw [if_neg nn, if_pos (show least ≤ nI D by rw [b5, le_nI (by omega) (by omega)]; exact w), if_neg nb, if_pos (show 0 ≤ lg_cmp (nI D).toInt64 leastN by rw [b6, lt64 (by omega) (by omega)]; exact w), if_neg (show ¬ bestN = nI i by rw [b3, eq_nI (by omega) (by omega)]; omega), nm_t, nm_t, z1, nI_add]
        exact opn_l hT h hs em hm hn e k (i + 1) n1 n2 C2 N2 _ _ _ _ (by omega) (by omega) (by omega) d5 d6 d7 (Or.inr ⟨b, by omega, b2, b3, b4, b5, b6⟩)
      · rw [if_neg nn, if_neg (show ¬ least ≤ nI D by rw [b5, le_nI (by omega) (by omega)]; exact w), if_neg nb, if_neg (show ¬ 0 ≤ lg_cmp (nI D).toInt64 leastN by rw [b6, lt64 (by omega) (by omega)]; exact w), if_pos rfl, nm_t, nm_t, z1, nI_add]
        exact take
theorem opened_s {nl : Nat} {C N : Mem} (h : Rel nl C N) (a1 a2 a3 : Int32) : Sim nl (f_X9_opened nl C a1 a2 a3) (f_X10_opened N a1 a2 a3) := by
  unfold f_X9_opened f_X10_opened
  rw [isSheet9_e, isSheet10_e, bd_s, bd_s]
  by_cases hc : 0 ≤ a1 ∧ a1 ≤ 3
  · obtain ⟨s, hs, es⟩ := sheet_n hc
    obtain ⟨s1, s2, s3, s4, s5⟩ := h.sheets s hs
    obtain ⟨m, hm, em⟩ := (show Bd (N 18 s) 0 ((24 : Nat) : Int) from s4).n
    rw [if1 hc, if1 hc, f_within9, f_in, bd_s, bd_s]
    by_cases hc2 : 0 ≤ a2 ∧ a2 ≤ 40
    · rw [if1 hc2, if1 hc2, f_within9, f_in, bd_s, bd_s]
      by_cases hc3 : 0 ≤ a3 ∧ a3 ≤ 1
      · obtain ⟨T, hT, eT⟩ := rng_n (n := 40) (by decide) hc2
        obtain ⟨e0, hn⟩ := dn_b h.1.2.2.1
        rw [if1 hc3, if1 hc3, es, ib_nI hs (by decide), gd_t, nm_t, ix_nI (by omega), rdn hs (by decide), gd_t, nm_t, eT]
        rcases miss_e s1 s3 with ⟨q1, q2⟩ | ⟨q1, q2⟩
        · obtain ⟨N1, n1, n2⟩ := thinks_e N
          rw [q1, bd_s, if_pos rfl, if_pos q2, n1, bd_s]
          obtain ⟨C2, N2, o2, l2, y2, p⟩ := opn_l (a3 := a3) hT h hs em hm hn e0 (ix (N 1 1)) 0 FU FU C N1 (-1000000005) 0 (-1) 0 (by omega) (FU_gt (by omega)) (FU_gt (by omega)) Out.rf h.2.2.2.1 n2 (Or.inl ⟨rfl, rfl⟩)
          rcases p with ⟨p1, p2⟩ | ⟨b, pb, p1, p2⟩
          · have p1 : f_X8_likeliestDoor nl 0 (57 + 2 * s) C (nI T) = some (-1000000005, C2) := p1
            have p2 : f_X10_opened_l54 FU (nI s) (nI T) a3 (-1) 0 0 N1 = some (-1000000005, N2) := p2
            rw [p1, bd2_s, if_pos rfl, p2]
            exact ⟨_, _, _, rfl, rfl, rdy_rel h o2 l2 y2⟩
          · have p1 : f_X8_likeliestDoor nl 0 (57 + 2 * s) C (nI T) = some (nI b, C2) := p1
            have p2 : f_X10_opened_l54 FU (nI s) (nI T) a3 (-1) 0 0 N1 = some (if a3 = 0 then nI b else nI (DD N T s m b), N2) := p2
            rw [p1, bd2_s, if_neg (none_ne (by omega)), p2]
            by_cases q : a3 = 0
            · rw [if_pos q, if_pos q]
              exact ⟨_, _, _, rfl, rfl, rdy_rel h o2 l2 y2⟩
            · obtain ⟨D, C3, N3, d1, d2, d3, d4, d5, d6, d7⟩ := dif_e (T := T) (d := b) (m := m) hT h o2 y2 pb hs em hm
              have dD : D = DD N T s m b := d2
              rw [if_neg q, if_neg q, gd_t, nm_t, d3, bd2_s, ← dD]
              exact ⟨_, _, _, rfl, rfl, rdy_rel h d5 d6 y2⟩
        · rw [q1, bd_s, if_neg (by decide), if_neg q2]; exact sim_bad h _
      · rw [if0 hc3, if0 hc3]; exact sim_bad h _
    · rw [if0 hc2, if0 hc2]; exact sim_bad h _
  · rw [if0 hc, if0 hc]; exact sim_bad h _
