/-! THE TEXTS, 8: what the doors let through is worked out anew -/
def HT (nl : Nat) (C : Mem) (b : Nat) (R : Nat → Int32) : Prop := C (HB b + 6) 0 = R 5 ∧ (∀ t, t < ix (R 5) → TRel nl C b R t) ∧ ∀ k, k < 3 → C (HB b + 7) k = if 0 ≤ cntR R (nI k) then cntR R (nI k) else -1000000005
theorem HT.fr {nl : Nat} {C C2 : Mem} {b : Nat} {R : Nat → Int32} (h : HT nl C b R) (h6 : C2 (HB b + 6) = C (HB b + 6)) (h7 : C2 (HB b + 7) = C (HB b + 7)) (h8 : C2 (HB b + 8) = C (HB b + 8)) (hl : ∀ k, 82 ≤ k → C2 k = C k) : HT nl C2 b R := by
  obtain ⟨a, d, e⟩ := h
  refine ⟨by rw [h6]; exact a, fun t ht => ?_, fun k hk => by rw [h7]; exact e k hk⟩
  obtain ⟨c, key, m, a1, a2, a3, a4, a5, a6, a7, a8, a9, a10, a11⟩ := d t ht
  exact ⟨c, key, m, a1, a2, a3, a4, a5, by rw [h8]; exact a6, by rw [hl _ (by omega)]; exact a7, a8, by rw [hl _ (by omega)]; exact a9, by rw [hl _ (by omega)]; exact a10, fun k hk => by rw [hl _ (by omega)]; exact a11 k hk⟩
set_option maxHeartbeats 1000000 in
theorem valueOf_t {nl : Nat} {C : Mem} {b : Nat} {R : Nat → Int32} (hb : b < 3) (hnl : nl < 100000) (hS : HT nl C b R) (hR : StrOK R) {k : Nat} (hk : k < 3) (f0 f1 w : Int32) :
    ∃ C2, f_X5_valueOf nl b C (nI k) f0 f1 w = some (if 0 ≤ cntR R (nI k) then evT R (ix (cntR R (nI k))) f0 f1 else w, C2) ∧ ∀ j, j ≠ HB b + 10 → C2 j = C j := by
  have hB := HB_lt hb
  obtain ⟨e5, h5⟩ := (show Bd (R 5) 0 ((14 : Nat) : Int) from hR.2.1).i
  unfold f_X5_valueOf
  rw [rdn hk (by decide), hS.2.2 k hk]
  by_cases hc : 0 ≤ cntR R (nI k)
  · rw [if_pos hc, if_pos hc]
    rcases cntR_s hR.2.1 (nI k) with h1 | ⟨t, h1, h2, h3, h4⟩
    · rw [h1] at hc; exact absurd hc (by decide)
    rw [h3]
    obtain ⟨c, key, m, a1, a2, a3, a4, a5, a6, a7, a8, a9, a10, a11⟩ := hS.2.1 t h1
    have hlok : lok nl (nI c) = true := by
      unfold lok
      rw [ix_nI (by omega)]
      simp
      omega
    have hl : f_X5_lawAt nl b C (nI t) = some (nI c) := by
      unfold f_X5_lawAt
      rw [hS.1, e5, nI_pred1 (by omega), within_t ⟨nI_pos' (by omega), by rw [le_nI (by omega) (by omega)]; omega⟩, bd_s, if_neg (by decide), rdn h2 (by decide), a6, if_neg (nI_ne0 (by omega) (by omega)), hlok, gd_t, nm_t]
    rw [hl, bd_s, if_neg (nI_ne0 (by omega) (by omega)), hlok, gd_t, nm_t, ix_nI (by omega), ix_nI (by omega)]
    obtain ⟨vc, vm⟩ := txt_m (hR.2.2.2 t h1) a3 a5 a8
    obtain ⟨C2, w1, w2⟩ := valueWith_e (b := b) f0 f1 a5 vc a10 a11 (by omega)
    rw [w1, bd2_s]
    refine ⟨C2, ?_, w2⟩
    unfold evT
    rw [vm]
  · rw [if_neg hc, if_neg hc]
    have hl : f_X5_lawAt nl b C (-1000000005) = some 0 := by
      unfold f_X5_lawAt
      rw [within_f (fun q => absurd q.1 (by decide)), bd_s, if_pos rfl]
    rw [hl, bd_s, if_pos rfl]
    exact ⟨C, rfl, fun _ _ => rfl⟩
theorem letsK {k o p : Nat} {w : Int32} (hk : k < 6) (ho : o ≤ 1) (hp : p ≤ 60) : f_X2_letsOf (nI k) (nI p) w (nI o) = some (kLets (nI k) (nI p) w (nI o)) := by
  unfold f_X2_letsOf kLets
  rw [nm_t, nm_t]
  rcases (show k = 0 ∨ k = 1 ∨ k = 2 ∨ k = 3 ∨ k = 4 ∨ k = 5 by omega) with q | q | q | q | q | q
  · rw [q]; rfl
  · rw [q]; rfl
  · rw [q]; rfl
  · rw [q]
    rcases (show o = 0 ∨ o = 1 by omega) with z | z
    · rw [z]; rfl
    · rw [z]; rfl
  · rw [q]
    simp only [e_40, e_41, e_42, e_43, e_44, e_45, if_true, if_false]
    unfold clampR
    rw [z3, nI_add, if_neg (show ¬ nI (p + 3) < 0 by rw [z0, lt_nI (by omega) (by omega)]; omega)]
    by_cases z : p + 3 < 10
    · rw [if_pos (show nI (p + 3) < 10 by rw [show (10 : Int32) = nI 10 from rfl, lt_nI (by omega) (by omega)]; exact z), if_neg (show ¬ (10 : Int32) < nI (p + 3) by rw [show (10 : Int32) = nI 10 from rfl, lt_nI (by omega) (by omega)]; omega)]
    · rw [if_neg (show ¬ nI (p + 3) < 10 by rw [show (10 : Int32) = nI 10 from rfl, lt_nI (by omega) (by omega)]; exact z)]
      by_cases y : 10 < p + 3
      · rw [if_pos (show (10 : Int32) < nI (p + 3) by rw [show (10 : Int32) = nI 10 from rfl, lt_nI (by omega) (by omega)]; exact y)]
      · rw [if_neg (show ¬ (10 : Int32) < nI (p + 3) by rw [show (10 : Int32) = nI 10 from rfl, lt_nI (by omega) (by omega)]; exact y), show p + 3 = 10 by omega]; rfl
  · rw [q]; rfl
def LetsOK (C : Mem) (b : Nat) (R : Nat → Int32) (k w o : Nat) : Prop := C (HB b + 9) ((k * 10 + w) * 2 + o) = kLets (nI k) (plainR R (nI w) (nI o)) (nI w) (nI o)
def DoneL (C : Mem) (b : Nat) (R : Nat → Int32) (w o : Nat) : Prop := ∀ k w2 o2, k < 6 → 1 ≤ w2 → w2 ≤ 9 → o2 ≤ 1 → (w2 < w ∨ (w2 = w ∧ o2 < o)) → LetsOK C b R k w2 o2
theorem wol_k {nl b w o p : Nat} {R : Nat → Int32} {rec2 : Int32 → Mem → Option Mem} {rec10 : Int32 → Int32 → Mem → Option Mem} {C : Mem} (hw1 : 1 ≤ w) (hw : w ≤ 9) (ho : o ≤ 1) (hp : p ≤ 60) (ep : plainR R (nI w) (nI o) = nI p) : ∀ (k i n : Nat) (s : Mem), i + k = 6 → k < n → (∀ j, j ≠ HB b + 9 → s j = C j) → DoneL s b R w o → (∀ q, q < i → LetsOK s b R q w o) → ∃ s2, f_X5_workOutLets_l38 nl b rec2 rec10 n (nI w) (nI o) (nI p) (nI i) s = rec10 (nI w) (nI (o + 1)) s2 ∧ (∀ j, j ≠ HB b + 9 → s2 j = C j) ∧ DoneL s2 b R w (o + 1)
  | 0, i, n + 1, s, hi, _, h1, h2, h3 => by
    rw [f_X5_workOutLets_l38, show i = 6 by omega, if_pos (by decide), nm_t, show nI o + 1 = nI (o + 1) by rw [z1, nI_add]]
    refine ⟨s, rfl, h1, fun k w2 o2 a1 a2 a3 a4 a5 => ?_⟩
    by_cases z : w2 = w ∧ o2 = o
    · rw [z.1, z.2]; exact h3 k (by omega)
    · exact h2 k w2 o2 a1 a2 a3 a4 (by omega)
  | k + 1, i, n + 1, s, hi, hk, h1, h2, h3 => by
    have st : ∃ s2, f_X5_workOutLets_l38 nl b rec2 rec10 n (nI w) (nI o) (nI p) (nI (i + 1)) (sto s (HB b + 9) ((i * 10 + w) * 2 + o) (kLets (nI i) (nI p) (nI w) (nI o))) = rec10 (nI w) (nI (o + 1)) s2 ∧ (∀ j, j ≠ HB b + 9 → s2 j = C j) ∧ DoneL s2 b R w (o + 1) := by
      refine wol_k hw1 hw ho hp ep k (i + 1) n _ (by omega) (by omega) (fun j hj => (sto_n hj).trans (h1 j hj)) (fun k w2 o2 a1 a2 a3 a4 a5 => ?_) (fun q hq => ?_)
      · unfold LetsOK
        rw [sto_sn (by omega)]
        exact h2 k w2 o2 a1 a2 a3 a4 a5
      · unfold LetsOK
        by_cases z : q = i
        · rw [z, sto_ss, ep]
        · rw [sto_sn (by omega)]
          exact h3 q (by omega)
    have go : ∀ u : Int32, f_X2_letsOf (nI i) (nI p) (nI w) u = some (kLets (nI i) (nI p) (nI w) (nI o)) → ∃ s2, f_X5_workOutLets_j74 nl b rec2 rec10 (f_X5_workOutLets_l38 nl b rec2 rec10 n) (nI w) (nI o) (nI p) (nI i) u (nI w) (nI p) (nI i) (((nI i * 10) + nI w) * 2 + nI o) s = rec10 (nI w) (nI (o + 1)) s2 ∧ (∀ j, j ≠ HB b + 9 → s2 j = C j) ∧ DoneL s2 b R w (o + 1) := fun u hu => by
      unfold f_X5_workOutLets_j74
      rw [hu, bd_s, wrl ((i * 10 + w) * 2 + o) (by rw [show (10 : Int32) = nI 10 from rfl, z2, pk_mul, nI_add, pk_mul, nI_add]) (by omega) (by decide), nm_t, show nI i + 1 = nI (i + 1) by rw [z1, nI_add]]
      exact st
    rw [f_X5_workOutLets_l38, if_neg (show ¬ (6 : Int32) ≤ nI i from fu_nle (a := 6) (by decide) (by omega) (by omega))]
    rcases (show o = 0 ∨ o = 1 by omega) with z | z
    · rw [if_neg (show ¬ nI o = 1 by rw [z]; decide)]
      exact go 0 (by have := letsK (k := i) (o := o) (p := p) (w := nI w) (by omega) ho hp; rw [z] at this ⊢; exact this)
    · rw [if_pos (show nI o = 1 by rw [z]; rfl)]
      exact go 1 (by have := letsK (k := i) (o := o) (p := p) (w := nI w) (by omega) ho hp; rw [z] at this ⊢; exact this)
theorem wol_o {nl b w : Nat} {R : Nat → Int32} {rec2 : Int32 → Mem → Option Mem} {C : Mem} (hb : b < 3) (hnl : nl < 100000) (hT : HT nl C b R) (hR : StrOK R) (hw1 : 1 ≤ w) (hw : w ≤ 9) : ∀ (k o n : Nat) (s : Mem), o + k = 2 → k < n → (∀ j, j ≠ HB b + 9 → j ≠ HB b + 10 → s j = C j) → DoneL s b R w o → ∃ s2, f_X5_workOutLets_l10 nl b rec2 n (nI w) (nI o) s = rec2 (nI (w + 1)) s2 ∧ (∀ j, j ≠ HB b + 9 → j ≠ HB b + 10 → s2 j = C j) ∧ DoneL s2 b R (w + 1) 0
  | 0, o, n + 1, s, hi, _, h1, h2 => by
    rw [f_X5_workOutLets_l10, show o = 2 by omega, if_pos (by decide), nm_t, show nI w + 1 = nI (w + 1) by rw [z1, nI_add]]
    refine ⟨s, rfl, h1, fun k w2 o2 a1 a2 a3 a4 a5 => h2 k w2 o2 a1 a2 a3 a4 (by omega)⟩
  | k + 1, o, n + 1, s, hi, hk, h1, h2 => by
    have hB := HB_lt hb
    have T2 : HT nl s b R := hT.fr (h1 _ (by omega) (by omega)) (h1 _ (by omega) (by omega)) (h1 _ (by omega) (by omega)) (fun k hk => h1 k (by omega) (by omega))
    obtain ⟨C2, v1, v2⟩ := valueOf_t hb hnl T2 hR (k := 0) (by decide) (nI w) (nI o) (6 * nI w * nI o)
    obtain ⟨p, hp, ep⟩ := nI_rng (x := plainR R (nI w) (nI o)) 60 (plain_b hw).1 (plain_b hw).2
    have eh : f_X9_heldWithin (if 0 ≤ cntR R (nI 0) then evT R (ix (cntR R (nI 0))) (nI w) (nI o) else 6 * nI w * nI o) 0 60 = some (nI p) := by
      rw [held_e (by decide), ← ep]
      unfold plainR
      show some (clampR (if 0 ≤ cntR R 0 then evT R (ix (cntR R 0)) (nI w) (nI o) else 6 * nI w * nI o) 0 60) = _
      by_cases z : 0 ≤ cntR R 0
      · rw [if_pos z, if_pos z]
      · rw [if_neg z, if_neg z]
        rcases (show o = 0 ∨ o = 1 by omega) with y | y
        · rw [y, if_neg (show ¬ nI 0 = (1 : Int32) by decide), show (6 : Int32) = nI 6 from rfl, pk_mul, pk_mul, Nat.mul_zero]
          rfl
        · rw [y, if_pos (show nI 1 = (1 : Int32) from rfl), show (6 : Int32) = nI 6 from rfl, pk_mul, pk_mul, Nat.mul_one]
          unfold clampR
          rw [if_neg (show ¬ nI (6 * w) < 0 by rw [z0, lt_nI (by omega) (by omega)]; omega), if_neg (show ¬ (60 : Int32) < nI (6 * w) by rw [show (60 : Int32) = nI 60 from rfl, lt_nI (by omega) (by omega)]; omega)]
    obtain ⟨s2, q1, q2, q3⟩ := wol_k (nl := nl) (b := b) (R := R) (rec2 := rec2) (rec10 := f_X5_workOutLets_l10 nl b rec2 n) (C := C2) hw1 hw (show o ≤ 1 by omega) hp ep 6 0 FU C2 (by omega) (FU_gt (by omega)) (fun _ _ => rfl) (fun k w2 o2 a1 a2 a3 a4 a5 => by unfold LetsOK; rw [v2 _ (by omega)]; exact h2 k w2 o2 a1 a2 a3 a4 a5) (fun q hq => absurd hq (by omega))
    rw [f_X5_workOutLets_l10, if_neg (show ¬ (1 : Int32) < nI o by rw [z1, lt_nI (by decide) (by omega)]; omega), show f_X5_valueOf nl b s 0 (nI w) (nI o) (6 * nI w * nI o) = f_X5_valueOf nl b s (nI 0) (nI w) (nI o) (6 * nI w * nI o) from rfl, v1, bd2_s, eh, bd_s, show f_X5_workOutLets_l38 nl b rec2 (f_X5_workOutLets_l10 nl b rec2 n) FU (nI w) (nI o) (nI p) 0 C2 = f_X5_workOutLets_l38 nl b rec2 (f_X5_workOutLets_l10 nl b rec2 n) FU (nI w) (nI o) (nI p) (nI 0) C2 from rfl, q1]
    exact wol_o hb hnl hT hR hw1 hw k (o + 1) n s2 (by omega) (by omega) (fun j j1 j2 => by rw [q2 j j1, v2 j j2, h1 j j1 j2]) q3
theorem wol_w {nl b : Nat} {R : Nat → Int32} {C : Mem} (hb : b < 3) (hnl : nl < 100000) (hT : HT nl C b R) (hR : StrOK R) : ∀ (k w n : Nat) (s : Mem), w + k = 10 → 1 ≤ w → k < n → (∀ j, j ≠ HB b + 9 → j ≠ HB b + 10 → s j = C j) → DoneL s b R w 0 → ∃ s2, f_X5_workOutLets_l2 nl b n (nI w) s = some s2 ∧ (∀ j, j ≠ HB b + 9 → j ≠ HB b + 10 → s2 j = C j) ∧ DoneL s2 b R 10 0
  | 0, w, n + 1, s, hi, _, _, h1, h2 => by
    rw [f_X5_workOutLets_l2, show w = 10 by omega, if_pos (by decide)]
    exact ⟨s, rfl, h1, by rw [show w = 10 by omega] at h2; exact h2⟩
  | k + 1, w, n + 1, s, hi, hw1, hk, h1, h2 => by
    obtain ⟨s2, q1, q2, q3⟩ := wol_o (rec2 := f_X5_workOutLets_l2 nl b n) hb hnl hT hR hw1 (show w ≤ 9 by omega) 2 0 FU s (by omega) (FU_gt (by omega)) h1 h2
    rw [f_X5_workOutLets_l2, if_neg (show ¬ (10 : Int32) ≤ nI w from fu_nle (a := 10) (by decide) (by omega) (by omega)), show f_X5_workOutLets_l10 nl b (f_X5_workOutLets_l2 nl b n) FU (nI w) 0 s = f_X5_workOutLets_l10 nl b (f_X5_workOutLets_l2 nl b n) FU (nI w) (nI 0) s from rfl, q1]
    exact wol_w hb hnl hT hR k (w + 1) n s2 (by omega) (by omega) (by omega) q2 q3
theorem wol_e {nl b : Nat} {R : Nat → Int32} {C : Mem} (hb : b < 3) (hnl : nl < 100000) (hT : HT nl C b R) (hR : StrOK R) : ∃ C2, f_X5_workOutLets nl b C = some C2 ∧ (∀ j, j ≠ HB b + 9 → j ≠ HB b + 10 → C2 j = C j) ∧ ∀ k w o : Nat, k < 6 → 1 ≤ w → w ≤ 9 → o ≤ 1 → C2 (HB b + 9) ((k * 10 + w) * 2 + o) = kLets (nI k) (plainR R (nI w) (nI o)) (nI w) (nI o) := by
  obtain ⟨s2, q1, q2, q3⟩ := wol_w hb hnl hT hR 9 1 FU C (by omega) (by omega) (FU_gt (by omega)) (fun _ _ _ => rfl) (fun k w2 o2 a1 a2 a3 a4 a5 => by omega)
  exact ⟨s2, q1, q2, fun k w o a1 a2 a3 a4 => q3 k w o a1 a2 a3 a4 (by omega)⟩
