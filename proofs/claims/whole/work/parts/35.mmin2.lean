/-! air, fires, candles, the minute -/
def stepBl (F : Nat → Int32) (d : Nat) (R : Nat → Int32) : Nat → Int32 :=
  if 8 ≤ seR R d then upd (upd R (6 + 4 * fiR R d) (R (6 + 4 * fiR R d) - F d)) 4 (upd R (6 + 4 * fiR R d) (R (6 + 4 * fiR R d) - F d) 4 + F d)
  else upd (upd R (6 + 4 * fiR R d) (R (6 + 4 * fiR R d) - F d)) (6 + 4 * seR R d) (upd R (6 + 4 * fiR R d) (R (6 + 4 * fiR R d) - F d) (6 + 4 * seR R d) + F d)
def stepFi (r : Nat) (R : Nat → Int32) : Nat → Int32 := upd R (6 + 4 * r) (if 0 ≤ R (6 + 4 * r) - R (7 + 4 * r) then R (6 + 4 * r) - R (7 + 4 * r) else 0)
def blowR (F R : Nat → Int32) : Nat → Int32 := itr stepFi 0 8 (itr (stepBl F) 0 (ix (R 1)) R)
theorem stepBl_core {F R : Nat → Int32} {d : Nat} (hf : fiR R d ≤ 7) : Core R (stepBl F d R) := by
  unfold stepBl
  split
  · exact (upd_core (by omega) (by omega)).tr upd_core4
  · exact (upd_core (by omega) (by omega)).tr (upd_core (by omega) (by omega))
theorem stepFi_core {R : Nat → Int32} {r : Nat} (hr : r < 8) : Core R (stepFi r R) := upd_core (by omega) (by omega)
theorem blows_99 {N : Mem} {R0 : Nat → Int32} : ∃ N2, f_X10_blows_l99 FU 0 N = some N2 ∧ (∀ j, j ≠ 1 → N2 j = N j) ∧ N2 1 = itr stepFi 0 8 (N 1) ∧ Core (N 1) (N2 1) := by
  rw [z0]
  refine lpR (fun n d s => f_X10_blows_l99 n (nI d) s) (fun d s => (∀ j, j ≠ 1 → s j = N j) ∧ s 1 = itr stepFi 0 d (N 1) ∧ Core (N 1) (s 1)) (fun o => ∃ N2, o = some N2 ∧ (∀ j, j ≠ 1 → N2 j = N j) ∧ N2 1 = itr stepFi 0 8 (N 1) ∧ Core (N 1) (N2 1)) 8 ?_ ?_ 8 0 FU N rfl (FU_gt (by decide)) ⟨fun _ _ => rfl, rfl, Core.rf⟩
  · intro n d s hd ⟨i1, i2, i3⟩
    left
    have key : ∀ u : Int32, u = (if 0 ≤ s 1 (6 + 4 * d) - s 1 (7 + 4 * d) then s 1 (6 + 4 * d) - s 1 (7 + 4 * d) else 0) → f_X10_blows_j138 (f_X10_blows_l99 n) (nI d) u (6 + 4 * nI d) s = f_X10_blows_l99 n (nI (d + 1)) (sto s 1 (6 + 4 * d) u) := by
      intro u hu
      unfold f_X10_blows_j138
      rw [wrl (6 + 4 * d) (idx4' d) (by omega) (by decide), nm_t, nI_1]
    refine ⟨sto s 1 (6 + 4 * d) (if 0 ≤ s 1 (6 + 4 * d) - s 1 (7 + 4 * d) then s 1 (6 + 4 * d) - s 1 (7 + 4 * d) else 0), ?_, fun j hj => by rw [sto_n hj, i1 j hj], ?_, ?_⟩
    · rw [f_X10_blows_l99, if_neg (by rw [show (8 : Int32) = nI 8 from rfl, le_nI (by omega) (by omega)]; omega), at0 (by omega), bd_s, at1 (by omega), bd_s, nm_t]
      by_cases h : 0 ≤ s 1 (6 + 4 * d) - s 1 (7 + 4 * d)
      · rw [if_pos h, if_pos h]
        exact key _ (by rw [if_pos h])
      · rw [if_neg h, if_neg h]
        exact key _ (by rw [if_neg h])
    · rw [itr_snoc, ← i2, Nat.zero_add, sto_s]
      rfl
    · rw [sto_s]
      exact i3.tr (upd_core (by omega) (by omega))
  · intro n s ⟨i1, i2, i3⟩
    rw [f_X10_blows_l99, if_pos (show (8 : Int32) ≤ nI 8 by decide)]
    exact ⟨s, rfl, i1, i2, i3⟩
set_option maxHeartbeats 1000000 in
theorem blows_e {N : Mem} (hR : StrOK (N 1)) : ∃ N2, f_X10_blows N = some N2 ∧ (∀ j, j ≠ 1 → N2 j = N j) ∧ N2 1 = blowR (N 4) (N 1) ∧ Core (N 1) (N2 1) := by
  obtain ⟨e0, h0⟩ := dn_b hR
  unfold f_X10_blows
  rw [z0]
  refine lpR (fun n d s => f_X10_blows_l2 n (nI d) s) (fun d s => (∀ j, j ≠ 1 → s j = N j) ∧ s 1 = itr (stepBl (N 4)) 0 d (N 1) ∧ Core (N 1) (s 1)) (fun o => ∃ N2, o = some N2 ∧ (∀ j, j ≠ 1 → N2 j = N j) ∧ N2 1 = blowR (N 4) (N 1) ∧ Core (N 1) (N2 1)) (ix (N 1 1)) ?_ ?_ (ix (N 1 1)) 0 FU N (by omega) (FU_gt (by omega)) ⟨fun _ _ => rfl, rfl, Core.rf⟩
  · intro n d s hd ⟨i1, i2, i3⟩
    left
    have hRs := i3.str hR
    have en : s 1 1 = N 1 1 := i3 1 (by omega)
    obtain ⟨d10, hf, hs, ef, es⟩ := fi_b hRs (d := d) (by rw [en]; exact hd)
    have s4 := i1 4 (by decide)
    have cr := stepBl_core (F := N 4) (R := s 1) (d := d) hf
    have goal2 : ∀ s2 : Mem, (∀ j, j ≠ 1 → s2 j = s j) → s2 1 = stepBl (N 4) d (s 1) → (∀ j, j ≠ 1 → s2 j = N j) ∧ s2 1 = itr (stepBl (N 4)) 0 (d + 1) (N 1) ∧ Core (N 1) (s2 1) := by
      intro s2 a b
      refine ⟨fun j hj => (a j hj).trans (i1 j hj), ?_, by rw [b]; exact i3.tr cr⟩
      rw [itr_snoc, b, ← i2, Nat.zero_add]
    have key : ∃ s2, f_X10_blows_l2 (n + 1) (nI d) s = f_X10_blows_l2 n (nI (d + 1)) s2 ∧ (∀ j, j ≠ 1 → s2 j = s j) ∧ s2 1 = stepBl (N 4) d (s 1) := by
      rw [f_X10_blows_l2, rdl 1 z1 (by decide) (by decide), en, e0, if_neg (by rw [le_nI (by omega) (by omega)]; omega), of1 d10, bd_s, ef, rdl (6 + 4 * fiR (s 1) d) (idx4' _) (by omega) (by decide), rdn d10 (by decide), s4, wrl (6 + 4 * fiR (s 1) d) (idx4' _) (by omega) (by decide)]
      unfold stepBl
      generalize hM : sto s 1 (6 + 4 * fiR (s 1) d) (s 1 (6 + 4 * fiR (s 1) d) - N 4 d) = M10
      have m1 : M10 1 = upd (s 1) (6 + 4 * fiR (s 1) d) (s 1 (6 + 4 * fiR (s 1) d) - N 4 d) := by rw [← hM, sto_s]
      have mo : ∀ j, j ≠ 1 → M10 j = s j := fun j hj => by rw [← hM, sto_n hj]
      have es' : M10 1 (40 + 5 * d) = nI (seR (s 1) d) := by rw [m1, pk_un (by omega)]; exact es
      rw [of2 d10, bd_s, es']
      by_cases h8 : 8 ≤ seR (s 1) d
      · rw [if_pos (show (8 : Int32) ≤ nI (seR (s 1) d) by rw [show (8 : Int32) = nI 8 from rfl, le_nI (by omega) (by omega)]; exact h8), if_pos h8, rdl 4 z4 (by decide) (by decide), rdn d10 (by decide), mo 4 (by decide), s4, wrl 4 z4 (by decide) (by decide)]
        unfold f_X10_blows_j91
        rw [nm_t, nI_1, ← m1]
        exact ⟨_, rfl, fun j hj => by rw [sto_n hj, mo j hj], sto_s⟩
      · rw [if_neg (show ¬ (8 : Int32) ≤ nI (seR (s 1) d) by rw [show (8 : Int32) = nI 8 from rfl, le_nI (by omega) (by omega)]; exact h8), if_neg h8, bd_s, rdl (6 + 4 * seR (s 1) d) (idx4' _) (by omega) (by decide), rdn d10 (by decide), mo 4 (by decide), s4, wrl (6 + 4 * seR (s 1) d) (idx4' _) (by omega) (by decide)]
        unfold f_X10_blows_j91
        rw [nm_t, nI_1, ← m1]
        exact ⟨_, rfl, fun j hj => by rw [sto_n hj, mo j hj], sto_s⟩
    obtain ⟨s2, k1, k2, k3⟩ := key
    exact ⟨s2, k1, goal2 s2 k2 k3⟩
  · intro n s ⟨i1, i2, i3⟩
    have en : s 1 1 = N 1 1 := i3 1 (by omega)
    rw [f_X10_blows_l2, rdl 1 z1 (by decide) (by decide), en, if_pos (by rw [← e0]; exact i32le.mpr (Int.le_refl _))]
    obtain ⟨N2, w1, w2, w3, w4⟩ := blows_99 (N := s) (R0 := N 1)
    refine ⟨N2, w1, fun j hj => (w2 j hj).trans (i1 j hj), ?_, i3.tr w4⟩
    rw [w3, i2]
    rfl
def gustR (R : Nat → Int32) (r : Nat) : Int32 := if 0 ≤ cntR R 1 then clampR (evT R (ix (cntR R 1)) (R (7 + 4 * r)) (R (8 + 4 * r))) 0 999 else 20
theorem gustOf_e {N : Mem} {r : Nat} (hR : StrOK (N 1)) (hr : r < 8) : ∃ N2, f_X10_gustOf N (nI r) = some (gustR (N 1) r, N2) ∧ ∀ k, k ≠ 15 → k ≠ 16 → N2 k = N k := by
  obtain ⟨r1, r2, r3, r4⟩ := hR
  unfold f_X10_gustOf
  rw [counts_e r2, bd_s, at1 (by omega), bd_s, wrl 0 z0 (by decide) (by decide)]
  have fr : ∀ k, k ≠ 16 → sto N 16 0 (N 1 (7 + 4 * r)) k = N k := fun k hk => sto_n hk
  rw [at2 (by omega), bd_s, fr 1 (by decide), wrl 1 z1 (by decide) (by decide)]
  generalize hM : sto (sto N 16 0 (N 1 (7 + 4 * r))) 16 1 (N 1 (8 + 4 * r)) = M
  have fM : ∀ k, k ≠ 16 → M k = N k := fun k hk => by rw [← hM, sto_n hk, fr k hk]
  have m0 : M 16 0 = N 1 (7 + 4 * r) := by rw [← hM, sto_sn (by decide), sto_ss]
  have m1 : M 16 1 = N 1 (8 + 4 * r) := by rw [← hM, sto_ss]
  have e1 := fM 1 (by decide)
  unfold gustR
  by_cases hc : 0 ≤ cntR (N 1) 1
  · rw [if_pos hc, if_pos hc]
    rcases cntR_s r2 1 with h | ⟨t, h1, h2, h3, h4⟩
    · rw [h] at hc; exact absurd hc (by decide)
    · rw [h3, ix_nI (by omega)]
      obtain ⟨N2, w1, w2⟩ := worksOut_e (N := M) h2 (by rw [e1]; exact r4 t h1)
      rw [w1, bd2_s, f_clamp10, bd_s, m0, m1, e1]
      exact ⟨N2, rfl, fun k h15 h16 => (w2 k h15).trans (fM k h16)⟩
  · rw [if_neg hc, if_neg hc]
    exact ⟨M, rfl, fun k _ h16 => fM k h16⟩
def stepSn (D : Nat → Int32) (r : Nat) (q : (Nat → Int32) × Int32) : (Nat → Int32) × Int32 := if q.1 (9 + 4 * r) = 1 then (if D r ≤ gustR q.1 r then q else (upd q.1 (9 + 4 * r) 0, q.2 + 1)) else q
theorem stepSn_core {D : Nat → Int32} {r : Nat} {q : (Nat → Int32) × Int32} (hr : r < 8) : Core q.1 (stepSn D r q).1 := by
  unfold stepSn
  split
  · split
    · exact Core.rf
    · exact upd_core (by omega) (by omega)
  · exact Core.rf
set_option maxHeartbeats 1000000 in
theorem snuff_e {N : Mem} (hR : StrOK (N 1)) : ∃ N2, f_X10_minute_l54 FU 0 0 N = some ((itr (stepSn (N 5)) 0 8 (N 1, 0)).2, N2) ∧ (∀ j, j ≠ 1 → j ≠ 15 → j ≠ 16 → N2 j = N j) ∧ N2 1 = upd (itr (stepSn (N 5)) 0 8 (N 1, 0)).1 2 ((itr (stepSn (N 5)) 0 8 (N 1, 0)).1 2 + 1) := by
  show ∃ N2, f_X10_minute_l54 FU 0 (nI 0) N = _ ∧ _
  refine lpR (σ := Int32 × Mem) (fun n d s => f_X10_minute_l54 n s.1 (nI d) s.2) (fun d s => (∀ j, j ≠ 1 → j ≠ 15 → j ≠ 16 → s.2 j = N j) ∧ s.2 1 = (itr (stepSn (N 5)) 0 d (N 1, 0)).1 ∧ s.1 = (itr (stepSn (N 5)) 0 d (N 1, 0)).2 ∧ Core (N 1) (s.2 1)) (fun o => ∃ N2, o = some ((itr (stepSn (N 5)) 0 8 (N 1, 0)).2, N2) ∧ (∀ j, j ≠ 1 → j ≠ 15 → j ≠ 16 → N2 j = N j) ∧ N2 1 = upd (itr (stepSn (N 5)) 0 8 (N 1, 0)).1 2 ((itr (stepSn (N 5)) 0 8 (N 1, 0)).1 2 + 1)) 8 ?_ ?_ 8 0 FU (0, N) rfl (FU_gt (by decide)) ⟨fun _ _ _ _ => rfl, rfl, rfl, Core.rf⟩
  · rintro n d ⟨c, s⟩ hd ⟨i1, i2, i3, i4⟩
    left
    dsimp only at i1 i2 i3 i4
    have hRs := i4.str hR
    have s5 := i1 5 (by decide) (by decide) (by decide)
    have goal2 : ∀ (c2 : Int32) (s2 : Mem), (∀ j, j ≠ 1 → j ≠ 15 → j ≠ 16 → s2 j = s j) → (s2 1, c2) = stepSn (N 5) d (s 1, c) → (∀ j, j ≠ 1 → j ≠ 15 → j ≠ 16 → s2 j = N j) ∧ s2 1 = (itr (stepSn (N 5)) 0 (d + 1) (N 1, 0)).1 ∧ c2 = (itr (stepSn (N 5)) 0 (d + 1) (N 1, 0)).2 ∧ Core (N 1) (s2 1) := by
      intro c2 s2 a b
      have e : stepSn (N 5) d (itr (stepSn (N 5)) 0 d (N 1, 0)) = stepSn (N 5) d (s 1, c) := by rw [i2, i3]
      have b1 : s2 1 = (stepSn (N 5) d (s 1, c)).1 := by rw [← b]
      have b2 : c2 = (stepSn (N 5) d (s 1, c)).2 := by rw [← b]
      refine ⟨fun j h1 h2 h3 => (a j h1 h2 h3).trans (i1 j h1 h2 h3), ?_, ?_, ?_⟩
      · rw [itr_snoc, Nat.zero_add, e, b1]
      · rw [itr_snoc, Nat.zero_add, e, b2]
      · rw [b1]
        exact i4.tr (stepSn_core (q := (s 1, c)) hd)
    dsimp only
    rw [f_X10_minute_l54, if_neg (by rw [show (8 : Int32) = nI 8 from rfl, le_nI (by omega) (by omega)]; omega), at3 (by omega), bd_s]
    by_cases hl : s 1 (9 + 4 * d) = 1
    · rw [if_pos hl, rdn (by omega) (by decide), s5]
      obtain ⟨M25, w1, w2⟩ := gustOf_e hRs hd
      rw [w1, bd2_s]
      have e25 := w2 1 (by decide) (by decide)
      by_cases hg : N 5 d ≤ gustR (s 1) d
      · rw [if_pos hg]
        unfold f_X10_minute_j101
        rw [nm_t, nI_1]
        refine ⟨(c, M25), rfl, goal2 c M25 (fun j _ h2 h3 => w2 j h2 h3) ?_⟩
        unfold stepSn
        dsimp only
        rw [if_pos hl, if_pos hg, e25]
      · rw [if_neg hg, wrl (9 + 4 * d) (by rw [z3, idx4, show 6 + 4 * d + 3 = 9 + 4 * d by omega]) (by omega) (by decide), nm_t]
        unfold f_X10_minute_j101
        rw [nm_t, nI_1]
        refine ⟨(c + 1, sto M25 1 (9 + 4 * d) 0), rfl, goal2 (c + 1) (sto M25 1 (9 + 4 * d) 0) (fun j h1 h2 h3 => by rw [sto_n h1, w2 j h2 h3]) ?_⟩
        unfold stepSn
        dsimp only
        rw [if_pos hl, if_neg hg, sto_s, e25]
    · rw [if_neg hl]
      unfold f_X10_minute_j101
      rw [nm_t, nI_1]
      refine ⟨(c, s), rfl, goal2 c s (fun _ _ _ _ => rfl) ?_⟩
      unfold stepSn
      dsimp only
      rw [if_neg hl]
  · rintro n ⟨c, s⟩ ⟨i1, i2, i3, i4⟩
    dsimp only at i1 i2 i3 i4 ⊢
    rw [f_X10_minute_l54, if_pos (show (8 : Int32) ≤ nI 8 by decide), rdl 2 z2 (by decide) (by decide), wrl 2 z2 (by decide) (by decide), i3]
    exact ⟨_, rfl, fun j h1 h2 h3 => by rw [sto_n h1, i1 j h1 h2 h3], by rw [sto_s, i2]⟩
/-- the row behind a minute, and how many candles went out -/
def carR (R : Nat → Int32) : Nat → Int32 := itr (stepCar (flowR R) (fun r => R (8 + 4 * r)) (fun r => R (6 + 4 * r))) 0 (ix (R 1)) R
def snR (R : Nat → Int32) : (Nat → Int32) × Int32 := itr (stepSn (drR R (ix (R 1)))) 0 8 (blowR (flowR R) (carR R), 0)
def minR (R : Nat → Int32) : Nat → Int32 := upd (snR R).1 2 ((snR R).1 2 + 1)
def outR (R : Nat → Int32) : Int32 := (snR R).2
theorem itr_cong {σ : Type} {f g : Nat → σ → σ} (P : σ → Prop) (hP : ∀ d s, P s → P (f d s)) : ∀ (k i : Nat) (s : σ), (∀ d s, i ≤ d → d < i + k → P s → f d s = g d s) → P s → itr f i k s = itr g i k s
  | 0, _, _, _, _ => rfl
  | k + 1, i, s, h, hs => by
    show itr f (i + 1) k (f i s) = itr g (i + 1) k (g i s)
    rw [← h i s (Nat.le_refl i) (by omega) hs]
    exact itr_cong P hP k (i + 1) (f i s) (fun d s h1 h2 => h d s (by omega) (by omega)) (hP i s hs)
theorem itr_congL {σ : Type} {f g : Nat → σ → σ} (e : Nat) (P : σ → Prop) (hP : ∀ d s, d < e → P s → P (f d s)) : ∀ (k i : Nat) (s : σ), i + k ≤ e → (∀ d s, d < e → P s → f d s = g d s) → P s → itr f i k s = itr g i k s ∧ P (itr f i k s)
  | 0, _, s, _, _, hs => ⟨rfl, hs⟩
  | k + 1, i, s, hi, h, hs => by
    show itr f (i + 1) k (f i s) = itr g (i + 1) k (g i s) ∧ _
    rw [← h i s (by omega) hs]
    exact itr_congL e P hP k (i + 1) (f i s) (by omega) h (hP i s (by omega) hs)
theorem stepCar_cong {F F2 S S2 A A2 R : Nat → Int32} {d : Nat} (hF : F d = F2 d) (hS : ∀ r, r < 8 → S r = S2 r) (hA : ∀ r, r < 8 → A r = A2 r) (hf : fiR R d ≤ 7) (hs : seR R d ≤ 8) : stepCar F S A d R = stepCar F2 S2 A2 d R := by
  have e1 : fromR F2 R d = fromR F R d := by unfold fromR; rw [hF]
  have e2 : toR F2 R d = toR F R d := by unfold toR; rw [hF]
  have h1 : fromR F R d ≤ 8 := by unfold fromR; split <;> omega
  unfold stepCar
  rw [e1, e2, ← hF]
  by_cases h : F d = 0 ∨ fromR F R d = 8
  · rw [if_pos h, if_pos h]
  · rw [if_neg h, if_neg h]
    have e3 : qR F2 S2 A2 (fromR F R d) d = qR F S A (fromR F R d) d := by
      unfold qR
      rw [hS _ (by omega), hA _ (by omega), hF]
    rw [e3]
theorem carR_core {R : Nat → Int32} (hR : StrOK R) (F S A : Nat → Int32) : Core R (itr (stepCar F S A) 0 (ix (R 1)) R) := (itr_congL (g := stepCar F S A) (ix (R 1)) (fun s => Core R s) (fun d s hd hs => hs.tr (stepCar_core (by rw [hs.fi]; exact (fi_b hR hd).2.1) (by rw [hs.se]; exact (fi_b hR hd).2.2.1))) (ix (R 1)) 0 R (by omega) (fun _ _ _ _ => rfl) Core.rf).2
theorem blR_core {R : Nat → Int32} (hR : StrOK R) (F : Nat → Int32) : Core R (itr (stepBl F) 0 (ix (R 1)) R) := (itr_congL (g := stepBl F) (ix (R 1)) (fun s => Core R s) (fun d s hd hs => hs.tr (stepBl_core (by rw [hs.fi]; exact (fi_b hR hd).2.1))) (ix (R 1)) 0 R (by omega) (fun _ _ _ _ => rfl) Core.rf).2
theorem fiR_core {R : Nat → Int32} : Core R (itr stepFi 0 8 R) := (itr_congL (g := stepFi) 8 (fun s => Core R s) (fun d s hd hs => hs.tr (stepFi_core hd)) 8 0 R (by omega) (fun _ _ _ _ => rfl) Core.rf).2
theorem blowR_core {R : Nat → Int32} (hR : StrOK R) (F : Nat → Int32) : Core R (blowR F R) := (blR_core hR F).tr fiR_core
theorem stepBl_cong {F F2 R : Nat → Int32} {d : Nat} (hF : F d = F2 d) : stepBl F d R = stepBl F2 d R := by unfold stepBl; rw [hF]
theorem blowR_cong {F F2 R : Nat → Int32} (h : ∀ d, d < ix (R 1) → F d = F2 d) : blowR F R = blowR F2 R := by
  unfold blowR
  rw [(itr_congL (ix (R 1)) (fun _ => True) (fun _ _ _ _ => trivial) (ix (R 1)) 0 R (by omega) (fun d s hd _ => stepBl_cong (h d hd)) trivial).1]
set_option maxHeartbeats 1000000 in
theorem minute_e {N : Mem} (hR : StrOK (N 1)) : ∃ N2, f_X10_minute N = some (outR (N 1), N2) ∧ N2 1 = minR (N 1) ∧ ∀ j, j ≠ 1 → j ≠ 4 → j ≠ 5 → j ≠ 6 → j ≠ 7 → j ≠ 15 → j ≠ 16 → N2 j = N j := by
  obtain ⟨e0, h0⟩ := dn_b hR
  unfold f_X10_minute
  obtain ⟨N1, a1, a2, a3, a4⟩ := findFlows_e hR
  rw [a1, bd_s, z0]
  have n1 := a2 1 (by decide) (by decide) (by decide) (by decide)
  refine lpR (fun n d s => f_X10_minute_l6 n (nI d) s) (fun d s => (∀ j, j ≠ 6 → j ≠ 7 → s j = N1 j) ∧ (∀ r, r < d → s 6 r = N 1 (8 + 4 * r)) ∧ ∀ r, r < d → s 7 r = N 1 (6 + 4 * r)) (fun o => ∃ N2, o = some (outR (N 1), N2) ∧ N2 1 = minR (N 1) ∧ ∀ j, j ≠ 1 → j ≠ 4 → j ≠ 5 → j ≠ 6 → j ≠ 7 → j ≠ 15 → j ≠ 16 → N2 j = N j) 8 ?_ ?_ 8 0 FU N1 rfl (FU_gt (by decide)) ⟨fun _ _ _ => rfl, fun r hr => absurd hr (Nat.not_lt_zero r), fun r hr => absurd hr (Nat.not_lt_zero r)⟩
  · intro n d s hd ⟨i1, i2, i3⟩
    left
    have s1 : s 1 = N 1 := (i1 1 (by decide) (by decide)).trans n1
    refine ⟨sto (sto s 6 d (N 1 (8 + 4 * d))) 7 d (N 1 (6 + 4 * d)), ?_, fun j h6 h7 => by rw [sto_n h7, sto_n h6, i1 j h6 h7], fun r hr => ?_, fun r hr => ?_⟩
    · rw [f_X10_minute_l6, if_neg (by rw [show (8 : Int32) = nI 8 from rfl, le_nI (by omega) (by omega)]; omega), at2 (by omega), bd_s, wrn hd (by decide), at0 (by omega), bd_s, wrn hd (by decide), nm_t, nI_1, sto_n (show (1 : Nat) ≠ 6 by decide), s1]
    · rw [sto_n (by decide)]
      by_cases e : r = d
      · subst e; rw [sto_ss]
      · rw [sto_sn e]; exact i2 r (by omega)
    · by_cases e : r = d
      · subst e; rw [sto_ss]
      · rw [sto_sn e, sto_n (by decide)]; exact i3 r (by omega)
  · intro n s ⟨i1, i2, i3⟩
    rw [f_X10_minute_l6, if_pos (show (8 : Int32) ≤ nI 8 by decide)]
    have s1 : s 1 = N 1 := (i1 1 (by decide) (by decide)).trans n1
    have s4 : s 4 = N1 4 := i1 4 (by decide) (by decide)
    have s5 : s 5 = N1 5 := i1 5 (by decide) (by decide)
    obtain ⟨M5, b1, b2, b3, b4⟩ := carries_e (N := s) (by rw [s1]; exact hR)
    rw [b1, bd_s]
    have c1 : M5 1 = carR (N 1) := by
      rw [b3, s1, s4]
      exact (itr_congL (ix (N 1 1)) (fun x => Core (N 1) x) (fun d x hd hx => hx.tr (stepCar_core (by rw [hx.fi]; exact (fi_b hR hd).2.1) (by rw [hx.se]; exact (fi_b hR hd).2.2.1))) (ix (N 1 1)) 0 (N 1) (by omega) (fun d x hd hx => stepCar_cong (a3 d hd) i2 i3 (by rw [hx.fi]; exact (fi_b hR hd).2.1) (by rw [hx.se]; exact (fi_b hR hd).2.2.1)) Core.rf).1
    have k5 : Core (N 1) (M5 1) := by rw [← s1]; exact b4
    obtain ⟨M7, d1, d2, d3, d4⟩ := blows_e (N := M5) (k5.str hR)
    rw [d1, bd_s]
    have c2 : M7 1 = blowR (flowR (N 1)) (carR (N 1)) := by
      rw [d3, b2 4 (by decide), s4, c1]
      exact blowR_cong (fun d hd => a3 d (by rw [← c1, k5 1 (by omega)] at hd; exact hd))
    have k7 : Core (N 1) (M7 1) := k5.tr d4
    obtain ⟨M8, g1, g2, g3⟩ := snuff_e (N := M7) (k7.str hR)
    have c3 : itr (stepSn (M7 5)) 0 8 (M7 1, 0) = snR (N 1) := by
      unfold snR
      rw [c2, d2 5 (by decide), b2 5 (by decide), s5]
      refine (itr_congL 8 (fun _ => True) (fun _ _ _ _ => trivial) 8 0 _ (by omega) (fun d x hd _ => ?_) trivial).1
      unfold stepSn
      rw [a4 d (by omega)]
    rw [g1, c3]
    refine ⟨M8, rfl, ?_, fun j h1 h4 h5 h6 h7 h15 h16 => ?_⟩
    · rw [g3, c3]; rfl
    · rw [g2 j h1 h15 h16, d2 j h1, b2 j h1, i1 j h6 h7, a2 j h4 h5 h15 h16]
