/-! THE TEXTS, 3: what a word or sign is, to both -/
def rk (v : Nat) : Nat := if v = 124 then 1 else if v = 38 then 2 else if v = 60 ∨ v = 61 ∨ v = 62 then 3 else if v = 43 ∨ v = 45 then 4 else if v = 42 ∨ v = 47 then 5 else 0
def sgn (v : Nat) : Int32 := if v = 38 then -2 else if v = 42 then -8 else if v = 43 then -6 else if v = 45 then -7 else if v = 47 then -9 else if v = 60 then -3 else if v = 61 then -4 else if v = 62 then -5 else if v = 124 then -1 else 0
def inS (s v : Nat) : Bool := if s = 9 then v == 33 else if s = 10 then v == 40 else if s = 11 then v == 41 else rk v == s - 11
def rkR (x : Int32) : Nat := if x = -1 then 1 else if x = -2 then 2 else if x < -5 then (if x < -7 then (if x < -9 then 6 else 5) else 4) else 3
theorem rank_e (x : Int32) : f_X10_rank x = some (nI (rkR x)) := by
  unfold f_X10_rank rkR
  repeat' split
  all_goals rfl
theorem rkR_le (x : Int32) : 1 ≤ rkR x ∧ rkR x ≤ 6 := by
  unfold rkR
  repeat' split
  all_goals decide
theorem sgn_r : ∀ v : Fin 256, (rk v.val = 0 → sgn v.val = 0) ∧ (rk v.val ≠ 0 → rkR (sgn v.val) = rk v.val ∧ sgn v.val ≠ 0 ∧ sgn v.val ≠ -11 ∧ sgn v.val ≠ -10 ∧ sgn v.val < 0 ∧ -10 ≤ (sgn v.val).toInt ∧ cmC (sgn v.val) = -(b8 v.val) ∧ v.val < 128 ∧ v.val ≠ 41) := by decide +kernel
theorem rk_le : ∀ v : Fin 256, rk v.val ≤ 5 := by decide +kernel
theorem sig0 : ∀ s : Fin 8, ∀ v : Fin 256, (bd (f_J0_indexOf_0f7a4 (9 + s.val) (fun _ _ => 0) (((b8 v.val &&& 255).toUInt32 % 65536).toInt32)) fun r4 => if r4 < 0 then some (0 : Int32) else some 1) = some (if inS (9 + s.val) v.val then 1 else 0) := by decide +kernel
theorem ixM {s : Nat} (M M2 : Mem) : ∀ (n : Nat) (a b c : Int32), f_J1_indexOfChar_4cfef_l7 s n a b c M = f_J1_indexOfChar_4cfef_l7 s n a b c M2
  | 0, _, _, _ => rfl
  | n + 1, a, b, c => by
    unfold f_J1_indexOfChar_4cfef_l7
    simp only [nm_t, ixM M M2 n]
theorem ixO {s : Nat} (M M2 : Mem) (x : Int32) : f_J0_indexOf_0f7a4 s M x = f_J0_indexOf_0f7a4 s M2 x := by
  unfold f_J0_indexOf_0f7a4 f_J0_indexOf_7cf53 f_J1_indexOf_4cfef f_J1_indexOfChar_4cfef
  simp only [ixM M M2]
  rfl
/-- the sign that stands here is one of these -/
theorem isSign3 {C N : Mem} {L a e : Nat} {t : Nat → Nat} (T : Tp C N L t) (h2 : C 54 2 = nI a) (ha : a < L) (h4 : C 54 4 = 3) {s : Nat} (h9 : 9 ≤ s) (h16 : s ≤ 16) : f_X4_isSignOf s C = some (if inS s (t a) then 1 else 0) := by
  have := T.1
  obtain ⟨d1, d2, d3⟩ := T.2.2.2 a ha
  unfold f_X4_isSignOf
  rw [if_pos h4, h2, rdn (by omega) (by decide), d3, ixO C (fun _ _ => 0)]
  have := sig0 ⟨s - 9, by omega⟩ ⟨t a, d1⟩
  dsimp only at this
  rwa [show 9 + (s - 9) = s by omega] at this
theorem isSignN {C : Mem} (h4 : ¬ C 54 4 = 3) (s : Nat) : f_X4_isSignOf s C = some 0 := by
  unfold f_X4_isSignOf
  rw [if_neg h4]
def wS (s : Nat) : List Nat := [[108, 101, 116, 115], [103, 117, 115, 116], [102, 105, 110, 101], [119], [102], [103], [111], [115], [109]].getD s []
theorem len0 : ∀ s : Fin 9, f_J0_length_8abf5 s.val (fun _ _ => 0) = some (nI (wS s.val).length) := by decide +kernel
theorem len_e {M : Mem} {s : Nat} (hs : s < 9) : f_J0_length_8abf5 s M = some (nI (wS s).length) := len0 ⟨s, hs⟩
theorem chr0 : ∀ s : Fin 9, ∀ i : Fin 4, i.val < (wS s.val).length → f_J0_charAt_5068e s.val (fun _ _ => 0) (nI i.val) = some (nI ((wS s.val).getD i.val 0)) := by decide +kernel
theorem chr_e {M : Mem} {s i : Nat} (hs : s < 9) (hi : i < 4) (h : i < (wS s).length) : f_J0_charAt_5068e s M (nI i) = some (nI ((wS s).getD i 0)) := chr0 ⟨s, hs⟩ ⟨i, hi⟩ h
theorem wS_4 : ∀ s : Fin 9, (wS s.val).length ≤ 4 ∧ ∀ i : Fin 4, (wS s.val).getD i.val 0 < 256 := by decide +kernel
/-- the letters that stand here are this word -/
def Wd (t : Nat → Nat) (a e s : Nat) : Prop := e - a = (wS s).length ∧ ∀ q, q < (wS s).length → t (a + q) = (wS s).getD q 0
theorem isW_l {C N : Mem} {L a e s : Nat} {t : Nat → Nat} (T : Tp C N L t) (h2 : C 54 2 = nI a) (he : e ≤ L) (hs : s < 9) (hl : e - a = (wS s).length) (hae : a < e) (h1 : ∀ k, a ≤ k → k < e → srt (t k) = 1) : ∀ (k i n : Nat), i + k = (wS s).length → k < n → ((∀ q, i ≤ q → q < (wS s).length → t (a + q) = (wS s).getD q 0) ∧ f_X4_isWord_l28 s n (nI i) C = some 1) ∨ ((¬ ∀ q, i ≤ q → q < (wS s).length → t (a + q) = (wS s).getD q 0) ∧ f_X4_isWord_l28 s n (nI i) C = some 0)
  | 0, i, n + 1, hi, _ => by
    have := T.1
    have l4 := (wS_4 ⟨s, hs⟩).1
    dsimp only at l4
    left
    refine ⟨fun q q1 q2 => by omega, ?_⟩
    rw [f_X4_isWord_l28, len_e hs, bd_s, if_pos (fu_le (by omega) (by omega) (by omega))]
  | k + 1, i, n + 1, hi, hk => by
    have := T.1
    have l4 := (wS_4 ⟨s, hs⟩).1
    dsimp only at l4
    have c4 := (wS_4 ⟨s, hs⟩).2 ⟨i, by omega⟩
    dsimp only at c4
    obtain ⟨d1, d2, d3⟩ := T.2.2.2 (a + i) (by omega)
    have hb : b8 (t (a + i)) = nI (t (a + i)) := lowB ⟨t (a + i), srt_lt (by rw [h1 (a + i) (by omega) (by omega)]; decide)⟩
    rw [f_X4_isWord_l28, len_e hs, bd_s, if_neg (fu_nle (by omega) (by omega) (by omega)), h2, nI_add, rdn (by omega) (by decide), d3, hb, chr_e hs (by omega) (by omega), bd_s, nm_t, z1, nI_add]
    by_cases q : t (a + i) = (wS s).getD i 0
    · rw [if_pos (by rw [q])]
      rcases isW_l T h2 he hs hl hae h1 k (i + 1) n (by omega) (by omega) with ⟨x1, x2⟩ | ⟨x1, x2⟩
      · left
        refine ⟨fun j j1 j2 => ?_, x2⟩
        by_cases w : j = i
        · rw [w]; exact q
        · exact x1 j (by omega) j2
      · right
        exact ⟨fun y => x1 (fun j j1 j2 => y j (by omega) j2), x2⟩
    · right
      rw [if_neg (by rw [eq_nI (by omega) (by omega)]; exact q)]
      exact ⟨fun y => q (y i (by omega) (by omega)), rfl⟩
theorem isWord_e {C N : Mem} {L a e s : Nat} {t : Nat → Nat} (T : Tp C N L t) (h2 : C 54 2 = nI a) (h3 : C 54 3 = nI e) (h4 : C 54 4 = 1) (he : e ≤ L) (hs : s < 9) (hae : a < e) (h1 : ∀ k, a ≤ k → k < e → srt (t k) = 1) : (Wd t a e s ∧ f_X4_isWord s C = some 1) ∨ (¬ Wd t a e s ∧ f_X4_isWord s C = some 0) := by
  have := T.1
  have l4 := (wS_4 ⟨s, hs⟩).1
  dsimp only at l4
  unfold f_X4_isWord
  rw [if_pos h4, len_e hs, bd_s, h2, h3, pk_sub (by omega)]
  by_cases q : e - a = (wS s).length
  · rw [if_pos (by rw [q])]
    rcases isW_l T h2 he hs q hae h1 (wS s).length 0 FU (by omega) (FU_gt (by omega)) with ⟨x1, x2⟩ | ⟨x1, x2⟩
    · exact Or.inl ⟨⟨q, fun j hj => x1 j (by omega) hj⟩, x2⟩
    · exact Or.inr ⟨fun y => x1 (fun j _ hj => y.2 j hj), x2⟩
  · right
    rw [if_neg (by rw [eq_nI (by omega) (by omega)]; exact q)]
    exact ⟨fun y => q y.1, rfl⟩
theorem isWordN {C : Mem} (h4 : ¬ C 54 4 = 1) (s : Nat) : f_X4_isWord s C = some 0 := by
  unfold f_X4_isWord
  rw [if_neg h4]
theorem num_l {C N : Mem} {L a e : Nat} {t : Nat → Nat} (T : Tp C N L t) (h3 : C 54 3 = nI e) (he : e ≤ L) (h1 : ∀ k, a ≤ k → k < e → srt (t k) = 2) : ∀ (k i n : Nat), i + k = e → a ≤ i → k < n → f_X4_numberRead_l7 n (nI (dV t a (i - a))) (nI i) C = some (nI (dV t a (e - a)))
  | 0, i, n + 1, hi, _, _ => by
    have := T.1
    rw [f_X4_numberRead_l7, h3, if_pos (fu_le (by omega) (by omega) (by omega)), show i = e by omega]
  | k + 1, i, n + 1, hi, ha, hk => by
    have := T.1
    obtain ⟨d1, d2, d3⟩ := T.2.2.2 i (by omega)
    have s2 := h1 i ha (by omega)
    have hb : b8 (t i) = nI (t i) := lowB ⟨t i, srt_lt (by rw [s2]; decide)⟩
    have e1 := dV_step (t := t) (a := a) (k := i - a) (by rw [show a + (i - a) = i by omega]; exact (srt_2 s2).1)
    rw [show a + (i - a) = i by omega, show i - a + 1 = i + 1 - a by omega] at e1
    rw [f_X4_numberRead_l7, h3, if_neg (fu_nle (by omega) (by omega) (by omega)), rdn (by omega) (by decide), d3, hb, e1, nm_t, nm_t, z1, nI_add]
    exact num_l T h3 he h1 k (i + 1) n (by omega) (by omega) (by omega)
theorem num_e {C N : Mem} {L a e : Nat} {t : Nat → Nat} (T : Tp C N L t) (h2 : C 54 2 = nI a) (h3 : C 54 3 = nI e) (he : e ≤ L) (hae : a ≤ e) (h1 : ∀ k, a ≤ k → k < e → srt (t k) = 2) : f_X4_numberRead C = some (nI (dV t a (e - a))) := by
  have hL := T.1
  have := num_l T h3 he h1 (e - a) a FU (by omega) (by omega) (FU_gt (by omega))
  rw [Nat.sub_self] at this
  unfold f_X4_numberRead
  rw [nm_t, h2]
  exact this
theorem dV_lt {t : Nat → Nat} {a : Nat} : ∀ k, (∀ q, q < k → srt (t (a + q)) = 2) → dV t a k < 10 ^ k
  | 0, _ => (show 0 < 1 by decide)
  | k + 1, h => by
    have ih := dV_lt k (fun q hq => h q (by omega))
    have := srt_2 (h k (by omega))
    rw [dV, Nat.pow_succ]
    omega
theorem dV_9999 {t : Nat → Nat} {a k : Nat} (hk : k ≤ 4) (h : ∀ q, q < k → srt (t (a + q)) = 2) : dV t a k ≤ 9999 := by
  have h1 := dV_lt k h
  have h2 : 10 ^ k ≤ 10 ^ 4 := Nat.pow_le_pow_right (by decide) hk
  have h3 : (10 : Nat) ^ 4 = 10000 := by decide
  omega
theorem signHere3 {N : Mem} {v : Nat} (h1 : N 0 13 = 3) (h2 : N 0 14 = nI v) (hv : v < 256) : f_X10_signHere N = some (sgn v) := by
  unfold f_X10_signHere
  rw [if_pos h1, h2]
  have : ∀ v : Fin 256, (if nI v.val = (38 : Int32) then (some (((-2) : Int32))) else if nI v.val = 42 then (some (((-8) : Int32))) else if nI v.val = 43 then (some (((-6) : Int32))) else if nI v.val = 45 then (some (((-7) : Int32))) else if nI v.val = 47 then (some (((-9) : Int32))) else if nI v.val = 60 then (some (((-3) : Int32))) else if nI v.val = 61 then (some (((-4) : Int32))) else if nI v.val = 62 then (some (((-5) : Int32))) else if nI v.val = 124 then (some (((-1) : Int32))) else some ((0 : Int32))) = some (sgn v.val) := by decide +kernel
  exact this ⟨v, hv⟩
theorem signHereN {N : Mem} (h1 : ¬ N 0 13 = 3) : f_X10_signHere N = some 0 := by
  unfold f_X10_signHere
  rw [if_neg h1]
