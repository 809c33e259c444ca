/-! THE TEXTS, 1: both readers go on by one word or sign -/
theorem sto_sto {M : Mem} {k i : Nat} {x y : Int32} : sto (sto M k i x) k i y = sto M k i y := by
  funext a j
  by_cases h : a = k
  · rw [h]
    by_cases q : j = i
    · rw [q, sto_ss, sto_ss]
    · rw [sto_sn q, sto_sn q, sto_sn q]
  · rw [sto_n h, sto_n h, sto_n h]
theorem sto_cm {M : Mem} {k i l : Nat} {x y : Int32} (hne : i ≠ l) : sto (sto M k i x) k l y = sto (sto M k l y) k i x := by
  funext a j
  by_cases h : a = k
  · rw [h]
    by_cases q : j = i
    · rw [q, sto_sn hne, sto_ss, sto_ss]
    · rw [sto_sn (j := j) (i := i) q]
      by_cases w : j = l
      · rw [w, sto_ss, sto_ss]
      · rw [sto_sn w, sto_sn w, sto_sn q]
  · rw [sto_n h, sto_n h, sto_n h, sto_n h]
/-- of a byte: 1 a letter, 2 a figure, 3 another sign -/
def srt (v : Nat) : Nat := if 97 ≤ v ∧ v ≤ 122 then 1 else if 48 ≤ v ∧ v ≤ 57 then 2 else 3
def b8 (v : Nat) : Int32 := (nI v).toInt8.toInt32
theorem srtC : ∀ v : Fin 256, (if b8 v.val < 97 then (if b8 v.val < 48 then some (3 : Int32) else if 57 < b8 v.val then some 3 else some 2) else if 122 < b8 v.val then (if b8 v.val < 48 then some 3 else if 57 < b8 v.val then some 3 else some 2) else some 1) = some (nI (srt v.val)) := by decide +kernel
theorem srtN1 : ∀ v : Fin 256, (if nI v.val < 97 then some (0 : Int32) else if 122 < nI v.val then some 0 else some 1) = some (if srt v.val = 1 then 1 else 0) := by decide +kernel
theorem srtN2 : ∀ v : Fin 256, (if nI v.val < 48 then some (0 : Int32) else if 57 < nI v.val then some 0 else some 1) = some (if srt v.val = 2 then 1 else 0) := by decide +kernel
theorem spC : ∀ v : Fin 256, (b8 v.val = 32) = (v.val = 32) := by
  have : ∀ v : Fin 256, decide (b8 v.val = 32) = decide (v.val = 32) := by decide +kernel
  exact fun v => propext (by have := this v; rwa [decide_eq_decide] at this)
theorem lowB : ∀ v : Fin 128, b8 v.val = nI v.val := by decide +kernel
theorem srt_3 (v : Nat) : srt v = 1 ∨ srt v = 2 ∨ srt v = 3 := by
  unfold srt
  split
  · exact Or.inl rfl
  · split
    · exact Or.inr (Or.inl rfl)
    · exact Or.inr (Or.inr rfl)
theorem srt_lt {v : Nat} (h : srt v ≤ 2) : v < 128 := by
  unfold srt at h
  split at h
  · omega
  · split at h
    · omega
    · omega
theorem srt_2 {v : Nat} (h : srt v = 2) : 48 ≤ v ∧ v ≤ 57 := by
  unfold srt at h
  split at h
  · omega
  · split at h
    · assumption
    · omega
/-- the tape that both read -/
def Tp (C N : Mem) (L : Nat) (t : Nat → Nat) : Prop := L ≤ 96 ∧ C 54 1 = nI L ∧ N 0 10 = nI L ∧ ∀ k, k < L → t k < 256 ∧ N 9 k = nI (t k) ∧ C 53 k = b8 (t k)
theorem Tp.fr {C N C2 N2 : Mem} {L : Nat} {t : Nat → Nat} (h : Tp C N L t) (h1 : C2 53 = C 53) (h2 : C2 54 1 = C 54 1) (h3 : N2 9 = N 9) (h4 : N2 0 10 = N 0 10) : Tp C2 N2 L t := by
  obtain ⟨a, b, c, d⟩ := h
  exact ⟨a, by rw [h2]; exact b, by rw [h4]; exact c, fun k hk => by rw [h3, h1]; exact d k hk⟩
theorem sortAt_e {C N : Mem} {L : Nat} {t : Nat → Nat} (T : Tp C N L t) {p : Nat} (hp : p < L) : f_X4_sortAt C (nI p) = some (nI (srt (t p))) := by
  obtain ⟨a, b, c, d⟩ := T
  obtain ⟨d1, d2, d3⟩ := d p hp
  unfold f_X4_sortAt f_X4_sortAt_j31
  rw [b, if_pos (by rw [lt_nI (by omega) (by omega)]; exact hp), rdn (by omega) (by decide), d3]
  exact srtC ⟨t p, d1⟩
theorem sortAt_L {C N : Mem} {L : Nat} {t : Nat → Nat} (T : Tp C N L t) : f_X4_sortAt C (nI L) = some 0 := by
  have := T.1
  unfold f_X4_sortAt
  rw [T.2.1, if_neg (by rw [lt_nI (by omega) (by omega)]; omega)]
theorem isLetter_e {C N : Mem} {L : Nat} {t : Nat → Nat} (T : Tp C N L t) {p : Nat} (hp : p < L) : f_X10_isLetter N (nI p) = some (if srt (t p) = 1 then 1 else 0) := by
  obtain ⟨a, b, c, d⟩ := T
  obtain ⟨d1, d2, d3⟩ := d p hp
  unfold f_X10_isLetter
  rw [c, if_neg (fu_nle (by omega) (by omega) (by omega)), rdn (by omega) (by decide), rdn (by omega) (by decide), d2]
  exact srtN1 ⟨t p, d1⟩
theorem isLetter_L {C N : Mem} {L : Nat} {t : Nat → Nat} (T : Tp C N L t) : f_X10_isLetter N (nI L) = some 0 := by
  have := T.1
  unfold f_X10_isLetter
  rw [T.2.2.1, if_pos (fu_le (by omega) (by omega) (Nat.le_refl _))]
theorem isFigure_e {C N : Mem} {L : Nat} {t : Nat → Nat} (T : Tp C N L t) {p : Nat} (hp : p < L) : f_X10_isFigure N (nI p) = some (if srt (t p) = 2 then 1 else 0) := by
  obtain ⟨a, b, c, d⟩ := T
  obtain ⟨d1, d2, d3⟩ := d p hp
  unfold f_X10_isFigure
  rw [c, if_neg (fu_nle (by omega) (by omega) (by omega)), rdn (by omega) (by decide), rdn (by omega) (by decide), d2]
  exact srtN2 ⟨t p, d1⟩
theorem isFigure_L {C N : Mem} {L : Nat} {t : Nat → Nat} (T : Tp C N L t) : f_X10_isFigure N (nI L) = some 0 := by
  have := T.1
  unfold f_X10_isFigure
  rw [T.2.2.1, if_pos (fu_le (by omega) (by omega) (Nat.le_refl _))]
/-- blanks are passed over -/
theorem skip_l {C N : Mem} {L : Nat} {t : Nat → Nat} (T : Tp C N L t) {a0 a1 : Int32} : ∀ (k p n1 n2 : Nat), p + k = L → k < n1 → k < n2 → ∃ a, p ≤ a ∧ a ≤ L ∧ f_X4_step_l35 n1 a0 a1 (sto C 54 2 (nI p)) = f_X4_step_j73 a0 a1 (sto C 54 2 (nI a)) ∧ f_X10_go_l0 n2 (sto N 0 11 (nI p)) = f_X10_go_j38 (sto N 0 11 (nI a))
  | 0, p, n1 + 1, n2 + 1, hi, _, _ => by
    have := T.1
    refine ⟨p, Nat.le_refl _, by omega, ?_, ?_⟩
    · rw [f_X4_step_l35, sto_sn (show (1 : Nat) ≠ 2 by decide), sto_ss, T.2.1, if_pos (fu_le (by omega) (by omega) (by omega))]
    · rw [f_X10_go_l0, sto_sn (show (10 : Nat) ≠ 11 by decide), sto_ss, T.2.2.1, if_pos (fu_le (by omega) (by omega) (by omega))]
  | k + 1, p, n1 + 1, n2 + 1, hi, l1, l2 => by
    have := T.1
    obtain ⟨d1, d2, d3⟩ := T.2.2.2 p (by omega)
    have e1 : f_X4_step_l35 (n1 + 1) a0 a1 (sto C 54 2 (nI p)) = if t p = 32 then f_X4_step_l35 n1 a0 a1 (sto C 54 2 (nI (p + 1))) else f_X4_step_j73 a0 a1 (sto C 54 2 (nI p)) := by
      rw [f_X4_step_l35, sto_sn (show (1 : Nat) ≠ 2 by decide), sto_ss, T.2.1, if_neg (fu_nle (by omega) (by omega) (by omega)), rdn (by omega) (by decide), sto_n (show (53 : Nat) ≠ 54 by decide), d3, nm_t, sto_sto, z1, nI_add]
      have := spC ⟨t p, d1⟩
      dsimp only at this
      simp only [this]
    have e2 : f_X10_go_l0 (n2 + 1) (sto N 0 11 (nI p)) = if t p = 32 then f_X10_go_l0 n2 (sto N 0 11 (nI (p + 1))) else f_X10_go_j38 (sto N 0 11 (nI p)) := by
      rw [f_X10_go_l0, sto_sn (show (10 : Nat) ≠ 11 by decide), sto_ss, T.2.2.1, if_neg (fu_nle (by omega) (by omega) (by omega)), rdn (by omega) (by decide), sto_n (show (9 : Nat) ≠ 0 by decide), d2, nm_t, sto_sto, z1, nI_add]
      have : (nI (t p) = (32 : Int32)) = (t p = 32) := by rw [show (32 : Int32) = nI 32 from rfl, eq_nI (by omega) (by decide)]
      simp only [this]
    rw [e1, e2]
    by_cases q : t p = 32
    · rw [if_pos q, if_pos q]
      obtain ⟨a, b1, b2, b3, b4⟩ := skip_l T (a0 := a0) (a1 := a1) k (p + 1) n1 n2 (by omega) (by omega) (by omega)
      exact ⟨a, by omega, b2, b3, b4⟩
    · rw [if_neg q, if_neg q]
      exact ⟨p, Nat.le_refl _, by omega, rfl, rfl⟩
/-- how a word ends in the class -/
def wEnd (a0 a1 : Int32) (M : Mem) : Option Mem := if a0 = 0 then some M else if M 54 2 = a1 then some (sto M 54 4 4) else some M
/-- a word of one sort, in the class -/
theorem wrd_c {C N : Mem} {L s : Nat} {t : Nat → Nat} (T : Tp C N L t) {a0 a1 : Int32} (hs : s ≤ 2) (es : C 54 4 = nI s) (h0 : 1 ≤ s) : ∀ (k p n : Nat), p + k = L → k < n → ∃ e, p ≤ e ∧ e ≤ L ∧ (∀ q, p ≤ q → q < e → srt (t q) = s) ∧ (e = L ∨ (e < L ∧ srt (t e) ≠ s)) ∧ f_X4_step_l121 n a0 a1 (sto C 54 3 (nI p)) = wEnd a0 a1 (sto C 54 3 (nI e))
  | 0, p, n + 1, hi, _ => by
    have := T.1
    refine ⟨p, Nat.le_refl _, by omega, fun q q1 q2 => by omega, Or.inl (by omega), ?_⟩
    rw [f_X4_step_l121, sto_sn (show (1 : Nat) ≠ 3 by decide), sto_ss, T.2.1, if_pos (fu_le (by omega) (by omega) (by omega))]
    rfl
  | k + 1, p, n + 1, hi, hk => by
    have := T.1
    have hp : p < L := by omega
    have T2 : Tp (sto C 54 3 (nI p)) N L t := T.fr (sto_n (by decide)) (sto_sn (by decide)) rfl rfl
    have e1 : f_X4_step_l121 (n + 1) a0 a1 (sto C 54 3 (nI p)) = if srt (t p) = s then f_X4_step_l121 n a0 a1 (sto C 54 3 (nI (p + 1))) else wEnd a0 a1 (sto C 54 3 (nI p)) := by
      rw [f_X4_step_l121, sto_sn (show (1 : Nat) ≠ 3 by decide), sto_ss, T.2.1, if_neg (fu_nle (by omega) (by omega) (by omega)), sortAt_e T2 hp, bd_s, sto_sn (show (4 : Nat) ≠ 3 by decide), es, nm_t, sto_sto, z1, nI_add]
      have : (nI (srt (t p)) = nI s) = (srt (t p) = s) := by rw [eq_nI (by have := srt_3 (t p); omega) (by omega)]
      simp only [this]
      rfl
    rw [e1]
    by_cases q : srt (t p) = s
    · rw [if_pos q]
      obtain ⟨e, b1, b2, b3, b4, b5⟩ := wrd_c T (a0 := a0) (a1 := a1) hs es h0 k (p + 1) n (by omega) (by omega)
      refine ⟨e, by omega, b2, fun x x1 x2 => ?_, b4, b5⟩
      by_cases w : x = p
      · rw [w]; exact q
      · exact b3 x (by omega) x2
    · rw [if_neg q]
      exact ⟨p, Nat.le_refl _, by omega, fun q q1 q2 => by omega, Or.inr ⟨hp, q⟩, rfl⟩
/-- letters, in the reference: up to the same end -/
theorem let_n {C N : Mem} {L e : Nat} {t : Nat → Nat} (T : Tp C N L t) {a0 : Int32} (he : e ≤ L) (hx : e = L ∨ (e < L ∧ srt (t e) ≠ 1)) : ∀ (k p n : Nat), p + k = e → k < n → (∀ q, p ≤ q → q < e → srt (t q) = 1) → f_X10_go_l93 n a0 (sto N 0 11 (nI p)) = f_X10_go_j127 (if a0 = 0 then 1 else 4) (sto N 0 11 (nI e))
  | 0, p, n + 1, hi, _, _ => by
    have := T.1
    have T2 : Tp C (sto N 0 11 (nI p)) L t := T.fr rfl rfl (sto_n (by decide)) (sto_sn (by decide))
    have e1 : f_X10_isLetter (sto N 0 11 (nI p)) (nI p) = some 0 := by
      rcases hx with h | ⟨h1, h2⟩
      · rw [show p = L by omega]; rw [show p = L by omega] at T2; exact isLetter_L T2
      · have e : p = e := by omega
        rw [isLetter_e T2 (by omega), if_neg (by rw [e]; exact h2)]
    rw [f_X10_go_l93, sto_ss, e1, bd_s, if_pos rfl, show e = p by omega]
    by_cases q : a0 = 0
    · rw [if_pos q, if_pos q]
    · rw [if_neg q, if_neg q]
  | k + 1, p, n + 1, hi, hk, h => by
    have := T.1
    have T2 : Tp C (sto N 0 11 (nI p)) L t := T.fr rfl rfl (sto_n (by decide)) (sto_sn (by decide))
    rw [f_X10_go_l93, sto_ss, isLetter_e T2 (by omega), bd_s, if_pos (h p (by omega) (by omega)), if_neg (by decide), nm_t, sto_sto, z1, nI_add]
    exact let_n T he hx k (p + 1) n (by omega) (by omega) (fun q q1 q2 => h q (by omega) q2)
/-- the number that figures spell -/
def dV (t : Nat → Nat) (a : Nat) : Nat → Nat
  | 0 => 0
  | k + 1 => dV t a k * 10 + (t (a + k) - 48)
theorem dV_step {t : Nat → Nat} {a k : Nat} (h : 48 ≤ t (a + k)) : nI (dV t a k) * 10 + nI (t (a + k)) - 48 = nI (dV t a (k + 1)) := by
  rw [show (10 : Int32) = nI 10 from rfl, pk_mul, nI_add, show (48 : Int32) = nI 48 from rfl, pk_sub (by omega), dV, show dV t a k * 10 + t (a + k) - 48 = dV t a k * 10 + (t (a + k) - 48) by omega]
theorem fig_n {C N : Mem} {L e a : Nat} {t : Nat → Nat} (T : Tp C N L t) {a0 : Int32} (ea : N 0 12 = nI a) (he : e ≤ L) (hx : e = L ∨ (e < L ∧ srt (t e) ≠ 2)) : ∀ (k p n : Nat), p + k = e → a ≤ p → k < n → (∀ q, a ≤ q → q < e → srt (t q) = 2) → ∃ v, (e ≤ a + 4 → v = nI (dV t a (e - a))) ∧ f_X10_go_l170 n a0 (sto (sto N 0 14 (nI (dV t a (min (p - a) 4)))) 0 11 (nI p)) = some (sto (sto (sto (sto N 0 14 v) 0 11 (nI e)) 0 13 (if a0 = 0 ∧ e ≤ a + 4 then 2 else 4)) 0 15 (nI e))
  | 0, p, n + 1, hi, hap, _, _ => by
    have := T.1
    refine ⟨nI (dV t a (min (p - a) 4)), fun h => by rw [Nat.min_eq_left (by omega), show e = p by omega], ?_⟩
    generalize nI (dV t a (min (p - a) 4)) = v
    have T2 : Tp C (sto (sto N 0 14 v) 0 11 (nI p)) L t := T.fr rfl rfl ((sto_n (by decide)).trans (sto_n (by decide))) ((sto_sn (by decide)).trans (sto_sn (by decide)))
    have e1 : f_X10_isFigure (sto (sto N 0 14 v) 0 11 (nI p)) (nI p) = some 0 := by
      rcases hx with h | ⟨h1, h2⟩
      · rw [show p = L by omega]; rw [show p = L by omega] at T2; exact isFigure_L T2
      · have e : p = e := by omega
        rw [isFigure_e T2 (by omega), if_neg (by rw [e]; exact h2)]
    rw [f_X10_go_l170, sto_ss, e1, bd_s, if_pos rfl, sto_sn (show (12 : Nat) ≠ 11 by decide), sto_sn (show (12 : Nat) ≠ 14 by decide), ea, pk_sub hap, nm_t, nm_t, nm_t, nm_t, sto_sn (show (11 : Nat) ≠ 13 by decide), sto_sn (show (11 : Nat) ≠ 13 by decide), sto_ss, show e = p by omega]
    by_cases q : a0 = 0
    · rw [if_pos q]
      by_cases w : p ≤ a + 4
      · rw [if_pos (show nI (p - a) ≤ 4 from fu_le (b := 4) (by omega) (by decide) (by omega)), if_pos ⟨q, w⟩]
      · rw [if_neg (show ¬ nI (p - a) ≤ 4 from fu_nle (b := 4) (by omega) (by decide) (by omega)), if_neg (fun x => w x.2)]
    · rw [if_neg q, if_neg (fun x => q x.1)]
  | k + 1, p, n + 1, hi, hap, hk, h => by
    have := T.1
    have hp : p < L := by omega
    obtain ⟨d1, d2, d3⟩ := T.2.2.2 p hp
    have f2 := srt_2 (h p hap (by omega))
    obtain ⟨v, v1, v2⟩ := fig_n T (a0 := a0) ea he hx k (p + 1) n (by omega) (by omega) (by omega) h
    refine ⟨v, v1, ?_⟩
    rw [← v2]
    generalize hw : nI (dV t a (min (p - a) 4)) = w
    have T2 : Tp C (sto (sto N 0 14 w) 0 11 (nI p)) L t := T.fr rfl rfl ((sto_n (by decide)).trans (sto_n (by decide))) ((sto_sn (by decide)).trans (sto_sn (by decide)))
    have nx : ∀ x, x = nI (dV t a (min (p + 1 - a) 4)) → f_X10_go_j222 (f_X10_go_l170 n) a0 x (sto (sto N 0 14 w) 0 11 (nI p)) = f_X10_go_l170 n a0 (sto (sto N 0 14 (nI (dV t a (min (p + 1 - a) 4)))) 0 11 (nI (p + 1))) := by
      intro x hx
      unfold f_X10_go_j222
      rw [nm_t, nm_t, sto_sn (show (11 : Nat) ≠ 14 by decide), sto_ss, sto_cm (show (11 : Nat) ≠ 14 by decide), sto_sto, sto_sto, hx, z1, nI_add]
    rw [f_X10_go_l170, sto_ss, isFigure_e T2 hp, bd_s, if_pos (h p hap (by omega)), if_neg (by decide), sto_sn (show (12 : Nat) ≠ 11 by decide), sto_sn (show (12 : Nat) ≠ 14 by decide), ea, pk_sub hap]
    by_cases q : 4 ≤ p - a
    · rw [if_pos (show (4 : Int32) ≤ nI (p - a) from fu_le (a := 4) (by decide) (by omega) q), sto_sn (show (14 : Nat) ≠ 11 by decide), sto_ss]
      refine nx _ ?_
      rw [← hw, Nat.min_eq_right q, Nat.min_eq_right (by omega)]
    · rw [if_neg (show ¬ (4 : Int32) ≤ nI (p - a) from fu_nle (a := 4) (by decide) (by omega) q), rdn (by omega) (by decide), sto_n (show (9 : Nat) ≠ 0 by decide), sto_n (show (9 : Nat) ≠ 0 by decide), d2, sto_sn (show (14 : Nat) ≠ 11 by decide), sto_ss]
      refine nx _ ?_
      have e := dV_step (t := t) (a := a) (k := p - a) (by rw [show a + (p - a) = p by omega]; exact f2.1)
      rw [show a + (p - a) = p by omega] at e
      rw [← hw, Nat.min_eq_left (by omega), Nat.min_eq_left (by omega), show p + 1 - a = p - a + 1 by omega, ← e, Int32.mul_comm]
