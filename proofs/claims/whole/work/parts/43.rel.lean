/-! THE RELATION of the class's memory C and the reference's N -/
def TapeRel (C N : Mem) : Prop := Bd (N 0 10) 0 96 ∧ C 54 1 = N 0 10 ∧ ∀ k, k < ix (N 0 10) → Bd (N 9 k) 0 255 ∧ C 53 k = (N 9 k).toInt8.toInt32
def SheetRel (C N : Mem) : Prop := ∀ i, i < 4 → C (57 + 2 * i) 0 = N 17 i ∧ C (57 + 2 * i) 1 = N 18 i ∧ Bd (N 17 i) (-1) 1 ∧ Bd (N 18 i) 0 24 ∧ ∀ k, k < 24 → C (58 + 2 * i) k = N 19 (24 * i + k) ∧ (N 19 (24 * i + k) = -1000000005 ∨ Bd (N 19 (24 * i + k)) (-99999) 99999)
def SlotRel (C N : Mem) : Prop := ∀ i, i < 5 → C (66 + 3 * i) 0 = N 20 i ∧ Bd (N 20 i) 0 3 ∧ (N 20 i = 1 → C (66 + 3 * i) 1 = N 21 i ∧ Bd (N 21 i) 0 5 ∧ f_X2_worthOf (C (66 + 3 * i) 1) (C (66 + 3 * i) 2) = some (N 22 i)) ∧ (N 20 i = 2 → C (67 + 3 * i) 1 = N 21 i ∧ Bd (N 21 i) 0 24 ∧ ∀ k, k < 24 → C (68 + 3 * i) k = N 23 (24 * i + k)) ∧ (N 20 i = 3 → C (66 + 3 * i) 3 = N 21 i)
def WaitRel (C N : Mem) : Prop := Bd (N 0 36) 0 60 ∧ C 0 10 = N 0 36 ∧ ∀ k, k < ix (N 0 36) → C 81 k = N 25 k
def ImgRel (nl : Nat) (C N : Mem) : Prop := C 0 2 = N 0 3 ∧ (N 0 3 = 0 ∨ (N 0 3 = 1 ∧ HRel nl C 1 (N 2) ∧ Bd (N 2 2) 0 9999))
def keysV : List Int32 := [108, 101, 116, 115, 103, 117, 115, 116, 102, 105, 110, 101]
def KeyRel (N : Mem) : Prop := (∀ k, k < 12 → N 10 k = keysV.getD k 0) ∧ N 11 0 = 0 ∧ N 11 1 = 4 ∧ N 11 2 = 8 ∧ N 11 3 = 12
/-- all but the hall that is now -/
def RelO (nl : Nat) (C N : Mem) : Prop := ImgRel nl C N ∧ LOK nl C 1 ∧ TapeRel C N ∧ SheetRel C N ∧ SlotRel C N ∧ WaitRel C N ∧ KeyRel N
def Rel (nl : Nat) (C N : Mem) : Prop := HRel nl C 0 (N 1) ∧ Bd (N 1 2) 0 9999 ∧ LOK nl C 0 ∧ LOK nl C 2 ∧ RelO nl C N
def KeepC (C C2 : Mem) : Prop := ∀ k, (k = 0 ∨ (18 ≤ k ∧ k < 35) ∨ 52 ≤ k) → C2 k = C k
def KeepN (N N2 : Mem) : Prop := ∀ k, (k = 0 ∨ k = 2 ∨ (9 ≤ k ∧ k ≤ 11) ∨ (17 ≤ k ∧ k ≤ 23) ∨ k = 25) → N2 k = N k
theorem HRel.out {nl : Nat} {C C2 : Mem} {b : Nat} {R : Nat → Int32} (h : HRel nl C b R) (hc : ∀ j, j < 17 → C2 (HB b + j) = C (HB b + j)) (hl : ∀ k, 82 ≤ k → C2 k = C k) : HRel nl C2 b R := by
  obtain ⟨h1, ⟨d1, d2, d3, d4, d5, d6⟩, h3⟩ := h
  have e0 : C2 (HB b) = C (HB b) := hc 0 (by decide)
  exact ⟨h1.mono (fun j _ _ => hc j (by omega)) hl Core.rf, ⟨by rw [e0]; exact d1, by rw [e0]; exact d2, by rw [e0]; exact d3, by rw [hc 11 (by decide)]; exact d4, fun r hr => by rw [hc 11 (by decide), hc 12 (by decide), hc 13 (by decide)]; exact d5 r hr, by rw [e0]; exact d6⟩, h3⟩
theorem RelO.mono {nl : Nat} {C C2 N N2 : Mem} (h : RelO nl C N) (hC : KeepC C C2) (hN : KeepN N N2) : RelO nl C2 N2 := by
  obtain ⟨⟨i1, i2⟩, h2, ⟨t1, t2, t3⟩, h4, h5, ⟨w1, w2, w3⟩, ⟨k1, k2⟩⟩ := h
  have c0 := hC 0 (by omega)
  have n0 := hN 0 (by omega)
  have n2 := hN 2 (by omega)
  have e1 : ∀ j, j < 17 → C2 (HB 1 + j) = C (HB 1 + j) := fun j hj => hC _ (by unfold HB; omega)
  refine ⟨⟨by rw [c0, n0]; exact i1, ?_⟩, fun i hi => by rw [e1 8 (by decide)]; exact h2 i hi, ⟨by rw [n0]; exact t1, by rw [hC 54 (by omega), n0]; exact t2, fun k hk => ?_⟩, fun i hi => ?_, fun i hi => ?_, ⟨by rw [n0]; exact w1, by rw [c0, n0]; exact w2, fun k hk => ?_⟩, ⟨fun k hk => by rw [hN 10 (by omega)]; exact k1 k hk, by rw [hN 11 (by omega)]; exact k2⟩⟩
  · rw [n0, n2]
    rcases i2 with h | ⟨h, q1, q2⟩
    · exact Or.inl h
    · exact Or.inr ⟨h, q1.out e1 (fun k hk => hC k (by omega)), q2⟩
  · rw [n0] at hk
    rw [hN 9 (by omega), hC 53 (by omega)]
    exact t3 k hk
  · rw [hC _ (by omega), hN 17 (by omega), hN 18 (by omega), hN 19 (by omega), hC (58 + 2 * i) (by omega)]
    exact h4 i hi
  · rw [hC _ (by omega), hN 20 (by omega), hN 21 (by omega), hN 22 (by omega), hN 23 (by omega), hC (67 + 3 * i) (by omega), hC (68 + 3 * i) (by omega)]
    exact h5 i hi
  · rw [n0] at hk
    rw [hN 25 (by omega), hC 81 (by omega)]
    exact w3 k hk
/-- both answer alike, and stay in relation -/
def Sim (nl : Nat) (p q : Option (Int32 × Mem)) : Prop := ∃ (r : Int32) (C2 N2 : Mem), p = some (r, C2) ∧ q = some (r, N2) ∧ Rel nl C2 N2
def withM (o : Option Int32) (M : Mem) : Option (Int32 × Mem) := o.map (fun r => (r, M))
theorem withM_s {r : Int32} {M : Mem} : withM (some r) M = some (r, M) := rfl
/-- the texts' part -/
def CoreT (R R2 : Nat → Int32) : Prop := ∀ j, (j = 5 ∨ 88 ≤ j) → R2 j = R j
theorem CoreT.cnt {R R2 : Nat → Int32} (h : CoreT R R2) (k : Int32) : cntR R2 k = cntR R k := by
  unfold cntR
  rw [h 5 (by omega)]
  generalize ix (R 5) = T
  induction T with
  | zero => rfl
  | succ T ih => unfold cntL; rw [h _ (by omega), ih]
theorem CoreT.ev {R R2 : Nat → Int32} (h : CoreT R R2) (t : Nat) (a b : Int32) : evT R2 t a b = evT R t a b := by
  unfold evT
  rw [h (88 + 2 * t) (by omega)]
  have : (fun j => R2 (116 + 96 * t + j)) = fun j => R (116 + 96 * t + j) := by
    funext j
    rw [h _ (by omega)]
  rw [this]
theorem CoreT.pl {R R2 : Nat → Int32} (h : CoreT R R2) (w o : Int32) : plainR R2 w o = plainR R w o := by
  unfold plainR
  rw [h.cnt, h.ev]
theorem CoreT.text {R R2 : Nat → Int32} (h : CoreT R R2) {t : Nat} (ht : TextOK R t) : TextOK R2 t := by
  obtain ⟨key, m, h1, h2, h3, h4, h5⟩ := ht
  refine ⟨key, m, h1, h2, h3, by rw [h _ (by omega)]; exact h4, ?_⟩
  have : (fun j => R2 (116 + 96 * t + j)) = fun j => R (116 + 96 * t + j) := by
    funext j
    rw [h _ (by omega)]
  rw [this]
  exact h5
/-- the doors change, the texts stay -/
theorem HS.doors {nl : Nat} {C C2 : Mem} {b : Nat} {R R2 : Nat → Int32} (h : HS nl C b R) (hc : ∀ j, 6 ≤ j → j ≤ 9 → C2 (HB b + j) = C (HB b + j)) (hl : ∀ k, 82 ≤ k → C2 k = C k) (hr : CoreT R R2) (h1 : C2 (HB b + 1) 0 = R2 1)
    (h3 : ∀ d, d < ix (R2 1) → C2 (HB b + 2) d = R2 (38 + 5 * d) ∧ C2 (HB b + 3) d = R2 (39 + 5 * d) ∧ C2 (HB b + 4) d = R2 (40 + 5 * d) ∧ C2 (HB b + 5) d = R2 (41 + 5 * d)) (h4 : BitsOf (C2 (HB b + 1) 1) (ix (R2 1)) (fun d => R2 (42 + 5 * d))) : HS nl C2 b R2 := by
  obtain ⟨-, g2, -, -, g5, g6, g7⟩ := h
  have e5 := hr 5 (by omega)
  refine ⟨h1, by rw [hc 6 (by omega) (by omega), e5]; exact g2, h3, h4, fun t ht => ?_, fun k hk => ?_, fun k w o a1 a2 a3 a4 => ?_⟩
  · rw [e5] at ht
    obtain ⟨c, key, m, a1, a2, a3, a4, a5, a6, a7, a8, a9, a10, a11⟩ := g5 t ht
    exact ⟨c, key, m, a1, a2, a3, a4, a5, by rw [hc 8 (by omega) (by omega)]; exact a6, by rw [hl _ (by omega)]; exact a7, by rw [hr _ (by omega)]; exact a8, by rw [hl _ (by omega), hr _ (by omega)]; exact a9, by rw [hl _ (by omega)]; exact a10, fun k hk => by rw [hl _ (by omega), hr _ (by omega)]; exact a11 k hk⟩
  · rw [hc 7 (by omega) (by omega), hr.cnt]; exact g6 k hk
  · rw [hc 9 (by omega) (by omega), hr.pl]; exact g7 k w o a1 a2 a3 a4
theorem HB0 : HB 0 = 1 := rfl
theorem HB1 : HB 1 = 18 := rfl
theorem HB2 : HB 2 = 35 := rfl
theorem bz01 {c : Prop} [Decidable c] : bz (if c then 1 else 0) = true := by
  by_cases h : c
  · rw [if_pos h]; rfl
  · rw [if_neg h]; rfl
theorem has_e {C : Mem} {b : Nat} (a : Int32) : f_X0_has b C a = some (if 0 ≤ a ∧ a ≤ C (HB b + 1) 0 - 1 then 1 else 0) := by
  unfold f_X0_has
  rw [f_within9, bd_s, bz01, gd_t]
theorem isDoor_e {N : Mem} (a : Int32) : f_X10_isDoor N a = some (if 0 ≤ a ∧ a ≤ N 1 1 - 1 then 1 else 0) := by
  unfold f_X10_isDoor
  rw [rdl 1 z1 (by decide) (by decide), f_in, bd_s, bz01, gd_t]
theorem isRoom9_e (a : Int32) : f_X9_isRoom a = some (if 0 ≤ a ∧ a ≤ 7 then 1 else 0) := by
  unfold f_X9_isRoom
  rw [f_within9, bd_s, bz01, gd_t]
theorem isRoom10_e (a : Int32) : f_X10_isRoom a = some (if 0 ≤ a ∧ a ≤ 7 then 1 else 0) := by
  unfold f_X10_isRoom
  rw [f_in, bd_s, bz01, gd_t]
theorem isKind_e (a : Int32) : f_X2_isKind a = some (if 0 ≤ a ∧ a ≤ 5 then 1 else 0) := by
  unfold f_X2_isKind
  rw [f_within9, bd_s, bz01, gd_t]
theorem isSheet9_e (a : Int32) : f_X9_isSheet a = some (if 0 ≤ a ∧ a ≤ 3 then 1 else 0) := by
  unfold f_X9_isSheet
  rw [f_within9, bd_s, bz01, gd_t]
theorem isSheet10_e (a : Int32) : f_X10_isSheet a = some (if 0 ≤ a ∧ a ≤ 3 then 1 else 0) := by
  unfold f_X10_isSheet
  rw [f_in, bd_s, bz01, gd_t]
theorem isSlot9_e (a : Int32) : f_X9_isSlot a = some (if 0 ≤ a ∧ a ≤ 4 then 1 else 0) := by
  unfold f_X9_isSlot
  rw [f_within9, bd_s, bz01, gd_t]
theorem isSlot10_e (a : Int32) : f_X10_isSlot a = some (if 0 ≤ a ∧ a ≤ 4 then 1 else 0) := by
  unfold f_X10_isSlot
  rw [f_in, bd_s, bz01, gd_t]
theorem if1 {α : Type} {c : Prop} [Decidable c] {x y : α} (h : c) : (if (if c then (1 : Int32) else 0) = 0 then x else y) = y := by rw [if_pos h, if_neg (by decide)]
theorem if0 {α : Type} {c : Prop} [Decidable c] {x y : α} (h : ¬ c) : (if (if c then (1 : Int32) else 0) = 0 then x else y) = x := by rw [if_neg h, if_pos rfl]
/-- a number within bounds is a place -/
theorem rng_n {a : Int32} {n : Nat} (hn : n < 2147483648) (h : 0 ≤ a ∧ a ≤ nI n) : ∃ k, k ≤ n ∧ a = nI k := by
  have h1 := i32le.mp h.1
  have h2 := i32le.mp h.2
  rw [toI_nI hn] at h2
  exact nI_rng n h1 h2
theorem door_n2 {R : Nat → Int32} (hR : RowOK R) {a : Int32} (h : 0 ≤ a ∧ a ≤ R 1 - 1) : ∃ d, d < ix (R 1) ∧ d < 10 ∧ a = nI d := by
  obtain ⟨e0, h0⟩ := dn_b hR.1
  rw [e0] at h
  by_cases hz : ix (R 1) = 0
  · rw [hz] at h
    exact absurd (i32le.mp h.2) (by have := i32le.mp h.1; rw [show (nI 0 - 1 : Int32).toInt = -1 from rfl]; rw [show (0 : Int32).toInt = 0 from rfl] at this; omega)
  · rw [nI_pred1 (by omega)] at h
    obtain ⟨k, hk, e⟩ := rng_n (by omega) h
    exact ⟨k, by omega, by omega, e⟩
