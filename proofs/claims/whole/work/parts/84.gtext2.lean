/-! THE TEXTS ON THE MACHINE, 2: lawRead and text -/
section
variable {x : En} {E : Amd} {D : va_G} {ca : Nat → ClassId} {own : String} {cc : ByteArray} {nL fr lo mc ms : Nat} {nc ns : Nat} {pc : Nat} {V : List (Option Value)} {rest : List Value}
theorem n_callS0 {y : MethodName} {c2 : ByteArray} {nL2 n idx fr2 lo2 mc2 ms2 : Nat} {ret : Option FieldType} {B : Option Value → va_W → Prop} (wc : va_W) (As : List Value) (K : Kn x E D ca own cc nL fr lo mc ms) (hC : Cn x.2.1 E D ca y c2 nL2 ret fr2 lo2 mc2 ms2 As wc B) (hs : CsS own idx y c2 nL2 ret n) (hn : As.length = n) (hrm : fr2 + 1 ≤ fr ∧ 8 + (nL2 + 11) + lo2 ≤ lo) (hc : nc + mc2 ≤ mc ∧ ns + ms2 ≤ ms) (hrest : (rest.map fun v => v.category).sum ≤ 8) (st0 : List Value) (hst : st0 = As.reverse ++ rest) (hd : decode cc pc = .ok (.invokestatic idx, 3)) (kk : ∀ (v : Option Value) (w2 : va_W), B v w2 → Gn x D nL w2 (nc + mc2) (ns + ms2) (pc + 3) V (v.toList ++ rest)) : Gn x D nL wc nc ns pc V st0 :=
  n_callS [] wc As K hC hs hn hrm hc hrest st0 hst hd kk
theorem n_callV0 {y : MethodName} {c2 : ByteArray} {nL2 n idx fr2 lo2 mc2 ms2 a k ci : Nat} {C : vw_C} {fs : List Value} {ret : Option FieldType} {B : Option Value → va_W → Prop} (wc : va_W) (As : List Value) (K : Kn x E D ca own cc nL fr lo mc ms) (hC : Cn x.2.1 E D ca y c2 nL2 ret fr2 lo2 mc2 ms2 (.ref a :: As) wc B) (hs : CsV own idx y c2 nL2 ret n) (he : wc[k]? = some (a, .inr (ci, fs))) (hcl : vwCl[ci]? = some C) (hC1 : C.1 = y.cls) (hn : As.length = n) (hrm : fr2 + 1 ≤ fr ∧ 8 + (nL2 + 11) + lo2 ≤ lo) (hc : nc + mc2 ≤ mc ∧ ns + ms2 ≤ ms) (hrest : (rest.map fun v => v.category).sum ≤ 8) (st0 : List Value) (hst : st0 = As.reverse ++ .ref a :: rest) (hd : decode cc pc = .ok (.invokevirtual idx, 3)) (kk : ∀ (v : Option Value) (w2 : va_W), B v w2 → Gn x D nL w2 (nc + mc2) (ns + ms2) (pc + 3) V (v.toList ++ rest)) : Gn x D nL wc nc ns pc V st0 :=
  n_callV [] wc As K hC hs he hcl hC1 hn hrm hc hrest st0 hst hd kk
end
theorem pmS {ws : va_W} {a b : Nat × va_E} : ((ws ++ [a]) ++ [b]).Perm ((ws ++ [b]) ++ [a]) := by
  rw [List.append_assoc, List.append_assoc]
  exact List.Perm.append_left ws (List.Perm.swap b a [])
theorem pmT {ws : va_W} {a b : Nat × va_E} : ((ws ++ [b]) ++ [a]).Perm (ws ++ [a, b]) := by
  rw [List.append_assoc]
  exact List.Perm.append_left ws (List.Perm.swap a b [])
theorem zt840 : Cond.classLink RX4 52 RX3 ∈ TB := TB_t 834 (by decide +kernel) (by decide +kernel)
theorem zt841 : Cond.instantiable RX3 3 ∈ TB := TB_t 835 (by decide +kernel) (by decide +kernel)
theorem zt5 : Cond.initialized RX3 ∈ TB := TB_t 5 (by decide +kernel) (by decide +kernel)
theorem zt856 : Cond.code yX3_init cX3_init 4 none ∈ TB := TB_t 850 (by decide +kernel) (by decide +kernel)
theorem zt854 : Cond.methodLink RX4 63 yX3_init ∈ TB := TB_t 848 (by decide +kernel) (by decide +kernel)
theorem zt855 : Cond.instanceMethod yX3_init ∈ TB := TB_t 849 (by decide +kernel) (by decide +kernel)
theorem s_X9_245 : CsV RX9 245 yX4_lawRead cX4_lawRead 1 (some (.object "OneDraught$Law")) 0 := ⟨TB_t 833 (by decide +kernel) (by decide +kernel), TB_t 10 (by decide +kernel) (by decide +kernel), TB_t 830 (by decide +kernel) (by decide +kernel), TB_t 831 (by decide +kernel) (by decide +kernel), TB_t 832 (by decide +kernel) (by decide +kernel), by decide +kernel, by decide +kernel, by decide +kernel⟩
theorem s_X9_241 : CsV RX9 241 yX4_faultFound cX4_faultFound 1 (some .int) 0 := ⟨TB_t 653 (by decide +kernel) (by decide +kernel), TB_t 10 (by decide +kernel) (by decide +kernel), TB_t 650 (by decide +kernel) (by decide +kernel), TB_t 651 (by decide +kernel) (by decide +kernel), TB_t 652 (by decide +kernel) (by decide +kernel), by decide +kernel, by decide +kernel, by decide +kernel⟩
theorem s_X9_249 : CsV RX9 249 yX5_add cX5_add 3 (some .int) 1 := ⟨TB_t 868 (by decide +kernel) (by decide +kernel), TB_t 4 (by decide +kernel) (by decide +kernel), TB_t 865 (by decide +kernel) (by decide +kernel), TB_t 866 (by decide +kernel) (by decide +kernel), TB_t 867 (by decide +kernel) (by decide +kernel), by decide +kernel, by decide +kernel, by decide +kernel⟩
theorem kn_lawRead (l : Launch) (E : Amd) (D : va_G) (ca : Nat → ClassId) (h : Nat → Nat) (ws : va_W) (M : Mem) (hl : 55 < ws.length) (e54 : ws[54]? = some (h 54, .inr (3, obReader h (M 54)))) (e55 : ws[55]? = some (h 55, .inl (ca 0, 96, .inl (M 55)))) (hm : ib (M 54 8) 96 = true) : Cn l E D ca yX4_lawRead cX4_lawRead 1 (some (.object "OneDraught$Law")) 2 49 2 99 [.ref (h 54)] ws (fun v w2 => ∃ (q1 q2 : Nat) (g : Nat → Int32), v = some (.ref q1) ∧ (∀ j, j < ix (M 54 8) → g j = M 55 j) ∧ w2 = ws ++ [(q1, .inr (2, [.int (M 54 5), .int (M 54 6), .ref q2])), (q2, .inl (ca 0, ix (M 54 8), .inl g))]) := by
  refine Cn.mk [some (.ref (h 54))] (by decide) (Nat.le_of_ble_eq_true rfl) (argsV [.ref (h 54)] 0 rfl rfl) ?_
  intro x hx0 K hN hR
  have K : Kn x E D ca RX4 cX4_lawRead 1 2 49 2 99 := K
  have f54 : ∀ R, (ws ++ R)[54]? = some (h 54, .inr (3, obReader h (M 54))) := fun R => by rw [List.getElem?_append_left (by omega)]; exact e54
  have f55 : ∀ R, (ws ++ R)[55]? = some (h 55, .inl (ca 0, 96, .inl (M 55))) := fun R => by rw [List.getElem?_append_left (by omega)]; exact e55
  refine n_new (ci := 2) tyX3 [.int 0, .int 0, .null] K rfl i_X3 tyX3_ok zt840 zt841 zt5 dfX3 (by decide) dX4_lawRead_0 (fun q1 => ?_)
  refine n_dup K dX4_lawRead_3 rfl ?_
  refine n_aload_n K 0 dX4_lawRead_4 rfl rfl ?_
  refine n_get 54 5 K (f54 _) rfl (by decide) i_X4 q215 rfl rfl dX4_lawRead_5 ?_
  refine n_aload_n K 0 dX4_lawRead_8 rfl rfl ?_
  refine n_get 54 6 K (f54 _) rfl (by decide) i_X4 q216 rfl rfl dX4_lawRead_9 ?_
  refine n_aload_n K 0 dX4_lawRead_12 rfl rfl ?_
  refine n_get 54 7 K (f54 _) rfl (by decide) i_X4 q217 rfl rfl dX4_lawRead_13 ?_
  refine n_aload_n K 0 dX4_lawRead_16 rfl rfl ?_
  refine n_get 54 8 K (f54 _) rfl (by decide) i_X4 q218 rfl rfl dX4_lawRead_17 ?_
  refine n_callS0 (nc := 1) (ns := 3) (ws ++ [(q1, .inr (2, [.int 0, .int 0, .null]))]) [.ref (h 55), .int (M 54 8)] K (kn_copyOf x.2.1 E D ca _ 55 (h 55) (M 55) (M 54 8) (by simp; omega) (f55 _) hm) s_X4_57 rfl ⟨by decide, by decide⟩ ⟨by decide, by decide⟩ (rest := [.int (M 54 6), .int (M 54 5), .ref q1, .ref q1]) (Nat.le_of_ble_eq_true rfl) _ rfl dX4_lawRead_20 (fun v w2 hB => ?_)
  obtain ⟨q2, g, rfl, hg, rfl⟩ := hB
  refine n_perm _ pmS ?_
  refine n_callI (nc := 2) (ns := 99) (ws ++ [(q2, .inl (ca 0, ix (M 54 8), .inl g))]) [(q1, .inr (2, [.int 0, .int 0, .null]))] [.int (M 54 5), .int (M 54 6), .ref q2] K (kn_X3 x.2.1 E D ca q1 (M 54 5) (M 54 6) q2) zt856 zt5 zt854 zt855 rfl hyX3 rfl ⟨by decide, by decide⟩ ⟨by decide, by decide⟩ (rest := [.ref q1]) (Nat.le_of_ble_eq_true rfl) _ rfl dX4_lawRead_23 (fun v w2 hB => ?_)
  obtain ⟨rfl, rfl⟩ := hB
  refine n_perm _ pmT ?_
  exact n_aret K (Or.inl ⟨_, rfl⟩) hR ⟨q1, q2, g, rfl, hg, rfl⟩ dX4_lawRead_26
/-- what a cell says is the same when the addresses below are -/
theorem cel_e {ca : Nat → ClassId} {h h2 : Nat → Nat} {nl k : Nat} {row : Nat → Int32} (ha : ∀ j, j < 82 + 2 * nl → h2 j = h j) (hk : k < 82 + 2 * nl) (hl : ∀ b, b < 3 → k = HB b + 8 → ∀ i, i < 14 → row i = 0 ∨ lok nl (row i) = true) :
    celC ca h2 k row = celC ca h k row ∨ ∃ (c : ClassId) (n : Nat) (f g : Nat → Option Nat), celC ca h k row = .inl (c, n, .inr (.inr (.inr (.inr f)))) ∧ celC ca h2 k row = .inl (c, n, .inr (.inr (.inr (.inr g)))) ∧ ∀ j, j < n → f j = g j := by
  by_cases k0 : k = 0
  · subst k0
    left
    show (Sum.inr (8, obOne h2 row) : va_E) = .inr (8, obOne h row)
    simp only [obOne, ha (HB 0) (by unfold HB; omega), ha (HB 1) (by unfold HB; omega), ha 52 (by omega), ha 53 (by omega), ha 54 (by omega), ha 56 (by omega), ha 65 (by omega), ha 81 (by omega)]
  by_cases k1 : k < 52
  · obtain ⟨b, j, hb, hj, rfl⟩ : ∃ b j, b < 3 ∧ j < 17 ∧ k = HB b + j := ⟨(k - 1) / 17, (k - 1) % 17, by omega, by omega, by unfold HB; omega⟩
    have hh : ∀ i, i < 17 → h2 (HB b + i) = h (HB b + i) := fun i hi => ha _ (by unfold HB; omega)
    rw [c_hall hb j hj, c_hall hb j hj]
    rcases (show j = 0 ∨ j = 1 ∨ j = 6 ∨ j = 8 ∨ (j ≠ 0 ∧ j ≠ 1 ∧ j ≠ 6 ∧ j ≠ 8) by omega) with rfl | rfl | rfl | rfl | ⟨e0, e1, e6, e8⟩
    · left
      simp only [hallC, obHall, hh 1 (by decide), hh 6 (by decide), hh 11 (by decide), hh 12 (by decide), hh 13 (by decide), hh 14 (by decide), hh 15 (by decide), hh 16 (by decide)]
    · left
      simp only [hallC, obDoors, hh 2 (by decide), hh 3 (by decide), hh 4 (by decide), hh 5 (by decide)]
    · left
      simp only [hallC, obLaws, hh 7 (by decide), hh 8 (by decide), hh 9 (by decide), hh 10 (by decide)]
    · right
      refine ⟨ca 4, 14, _, _, rfl, rfl, fun i hi => ?_⟩
      unfold lawAd
      rcases hl b hb rfl i hi with e | e
      · rw [if_pos e, if_pos e]
      · have hc := lok_e e rfl
        by_cases e0 : row i = 0
        · rw [if_pos e0, if_pos e0]
        · rw [if_neg e0, if_neg e0, ha _ (by omega)]
    · left
      rcases (show j = 2 ∨ j = 3 ∨ j = 4 ∨ j = 5 ∨ j = 7 ∨ j = 9 ∨ j = 10 ∨ j = 11 ∨ j = 12 ∨ j = 13 ∨ j = 14 ∨ j = 15 ∨ j = 16 by omega) with rfl | rfl | rfl | rfl | rfl | rfl | rfl | rfl | rfl | rfl | rfl | rfl | rfl <;> rfl
  unfold celC
  rw [if_neg k0, if_neg k0, if_neg k1, if_neg k1]
  by_cases k2 : k = 52
  · left
    rw [if_pos k2, if_pos k2, ha (HB 2) (by unfold HB; omega)]
  rw [if_neg k2, if_neg k2]
  by_cases k3 : k = 53
  · left
    rw [if_pos k3, if_pos k3]
  rw [if_neg k3, if_neg k3]
  by_cases k4 : k = 54
  · left
    rw [if_pos k4, if_pos k4]
    simp only [obReader, ha 53 (by omega), ha 55 (by omega)]
  rw [if_neg k4, if_neg k4]
  by_cases k5 : k = 55
  · left
    rw [if_pos k5, if_pos k5]
  rw [if_neg k5, if_neg k5]
  by_cases k6 : k = 56
  · right
    rw [if_pos k6, if_pos k6]
    exact ⟨ca 5, 4, _, _, rfl, rfl, fun i hi => by rw [ha _ (by omega)]⟩
  rw [if_neg k6, if_neg k6]
  by_cases k7 : k < 65
  · left
    rw [if_pos k7, if_pos k7]
    simp only [obSheet, ha (k + 1) (by omega)]
  rw [if_neg k7, if_neg k7]
  by_cases k8 : k = 65
  · right
    rw [if_pos k8, if_pos k8]
    exact ⟨ca 6, 5, _, _, rfl, rfl, fun i hi => by rw [ha _ (by omega)]⟩
  rw [if_neg k8, if_neg k8]
  by_cases k9 : k < 81
  · left
    rw [if_pos k9, if_pos k9]
    simp only [obSheet, obSlot, ha (k + 1) (by omega), ha (67 + 3 * ((k - 66) / 3)) (by omega)]
  rw [if_neg k9, if_neg k9]
  by_cases k10 : k = 81
  · left
    rw [if_pos k10, if_pos k10]
  rw [if_neg k10, if_neg k10]
  left
  by_cases k11 : k % 2 = 0
  · rw [if_pos k11, if_pos k11]
    simp only [obLaw, ha (81 + 2 * ((k - 80) / 2)) (by omega)]
  · rw [if_neg k11, if_neg k11]
theorem cel_at {D : va_G} {ca : Nat → ClassId} {h h2 : Nat → Nat} {nl k a : Nat} {row : Nat → Int32} {H : Heap} (ha : ∀ j, j < 82 + 2 * nl → h2 j = h j) (hk : k < 82 + 2 * nl) (hl : ∀ b, b < 3 → k = HB b + 8 → ∀ i, i < 14 → row i = 0 ∨ lok nl (row i) = true) (h0 : va_at D vwCl (a, celC ca h k row) H) : va_at D vwCl (a, celC ca h2 k row) H := by
  rcases cel_e (ca := ca) ha hk hl with e | ⟨c, n, f, g, e1, e2, e3⟩
  · rw [e]; exact h0
  · rw [e1] at h0
    rw [e2]
    have h1 : H[a]? = some (vp_cell c (n, .inr (.inr (.inr (.inr f))))) := h0
    rw [vpq_cong e3] at h1
    exact h1
def h2T (h : Nat → Nat) (nl q1 q2 : Nat) : Nat → Nat := fun k => if k < 82 + 2 * nl then h k else if k = 82 + 2 * nl then q1 else q2
theorem h2T_lt {h : Nat → Nat} {nl q1 q2 k : Nat} (hk : k < 82 + 2 * nl) : h2T h nl q1 q2 k = h k := if_pos hk
theorem h2T_1 {h : Nat → Nat} {nl q1 q2 : Nat} : h2T h nl q1 q2 (80 + 2 * (nl + 1)) = q1 := by
  unfold h2T
  rw [if_neg (by omega), if_pos (by omega)]
theorem h2T_2 {h : Nat → Nat} {nl q1 q2 : Nat} : h2T h nl q1 q2 (81 + 2 * (nl + 1)) = q2 := by
  unfold h2T
  rw [if_neg (by omega), if_neg (by omega)]
theorem lawM_lt {nl k : Nat} {C : Mem} (hk : k < 82 + 2 * nl) : lawM nl C k = C k := by
  unfold lawM
  rw [up_n (by omega), up_n (by omega)]
theorem text_P {D : va_G} {ca : Nat → ClassId} {h : Nat → Nat} {nl q1 q2 : Nat} {M : Mem} {g : Nat → Int32} (hm : ib (M 54 8) 96 = true) (hL : ∀ b, b < 3 → LOK nl M b) (hg : ∀ j, j < ix (M 54 8) → g j = M 55 j) (H : Heap) (hH : va_P D vwCl (wsOf h (LaC ca h nl) M ++ [(q1, .inr (2, [.int (M 54 5), .int (M 54 6), .ref q2])), (q2, .inl (ca 0, ix (M 54 8), .inl g))]) H) : va_P D vwCl (wsOf (h2T h nl q1 q2) (LaC ca (h2T h nl q1 q2) (nl + 1)) (lawM nl M)) H := by
  intro k q hq
  have hk : k < 82 + 2 * (nl + 1) := by
    have h1 := (List.getElem?_eq_some_iff.mp hq).1
    rw [wsOf_len] at h1
    exact h1
  have hlen : (wsOf h (LaC ca h nl) M).length = 82 + 2 * nl := wsOf_len
  rw [wsOf_at (L := LaC ca (h2T h nl q1 q2) (nl + 1)) hk] at hq
  cases hq
  show va_at D vwCl (h2T h nl q1 q2 k, celC ca (h2T h nl q1 q2) k (lawM nl M k)) H
  rcases (show k < 82 + 2 * nl ∨ k = 80 + 2 * (nl + 1) ∨ k = 81 + 2 * (nl + 1) by omega) with hk2 | rfl | rfl
  · have h0 : va_at D vwCl (h k, celC ca h k (M k)) H := hH k _ (by rw [List.getElem?_append_left (by rw [hlen]; exact hk2)]; exact wsOf_at (L := LaC ca h nl) hk2)
    rw [h2T_lt hk2, lawM_lt hk2]
    exact cel_at (fun j hj => h2T_lt hj) hk2 (fun b hb e i hi => by rw [e]; exact hL b hb i hi) h0
  · have h0 := hH (80 + 2 * (nl + 1)) (q1, .inr (2, [.int (M 54 5), .int (M 54 6), .ref q2])) (by rw [List.getElem?_append_right (by rw [hlen]; omega), hlen, show 80 + 2 * (nl + 1) - (82 + 2 * nl) = 0 by omega]; rfl)
    rw [h2T_1, obLaw_c (nl := nl + 1) ⟨by omega, by omega⟩]
    have e : lawM nl M (80 + 2 * (nl + 1)) = fun j => if j = 0 then M 54 5 else M 54 6 := by
      unfold lawM
      rw [up_n (by omega), up_s]
    rw [e]
    unfold obLaw
    rw [h2T_2]
    exact h0
  · have h0 := hH (81 + 2 * (nl + 1)) (q2, .inl (ca 0, ix (M 54 8), .inl g)) (by rw [List.getElem?_append_right (by rw [hlen]; omega), hlen, show 81 + 2 * (nl + 1) - (82 + 2 * nl) = 1 by omega]; rfl)
    rw [h2T_2, cCode (nl := nl + 1) ⟨by omega, by omega⟩]
    have e : lawM nl M (81 + 2 * (nl + 1)) = fun j => if j = 1000 then M 54 8 else M 55 j := by
      unfold lawM
      rw [up_s]
    rw [e]
    have h1 : H[q2]? = some (vp_cell (ca 0) (ix (M 54 8), .inl g)) := h0
    have hlt := ib_lt hm
    rw [vpi_cong (g := fun j => if j = 1000 then M 54 8 else M 55 j) (fun j hj => by rw [hg j hj, if_neg (by omega)])] at h1
    exact h1
theorem text_F {ca : Nat → ClassId} {h : Nat → Nat} {nl q1 q2 : Nat} {M M2 : Mem} {e1 e2 : va_E} : (wsOf (h2T h nl q1 q2) (LaC ca (h2T h nl q1 q2) (nl + 1)) M2).map Prod.fst = (wsOf h (LaC ca h nl) M ++ [(q1, e1), (q2, e2)]).map Prod.fst := by
  have hlen : (wsOf h (LaC ca h nl) M).length = 82 + 2 * nl := wsOf_len
  apply List.ext_getElem?
  intro k
  rw [List.getElem?_map, List.getElem?_map]
  rcases (show k < 82 + 2 * nl ∨ k = 80 + 2 * (nl + 1) ∨ k = 81 + 2 * (nl + 1) ∨ 82 + 2 * (nl + 1) ≤ k by omega) with hk2 | rfl | rfl | hk2
  · rw [wsOf_at (L := LaC ca (h2T h nl q1 q2) (nl + 1)) (show k < 82 + 2 * (nl + 1) by omega), List.getElem?_append_left (by rw [hlen]; exact hk2), wsOf_at (L := LaC ca h nl) hk2]
    show some (h2T h nl q1 q2 k) = some (h k)
    rw [h2T_lt hk2]
  · rw [wsOf_at (L := LaC ca (h2T h nl q1 q2) (nl + 1)) (show 80 + 2 * (nl + 1) < 82 + 2 * (nl + 1) by omega), List.getElem?_append_right (by rw [hlen]; omega), hlen, show 80 + 2 * (nl + 1) - (82 + 2 * nl) = 0 by omega]
    show some (h2T h nl q1 q2 _) = some q1
    rw [h2T_1]
  · rw [wsOf_at (L := LaC ca (h2T h nl q1 q2) (nl + 1)) (show 81 + 2 * (nl + 1) < 82 + 2 * (nl + 1) by omega), List.getElem?_append_right (by rw [hlen]; omega), hlen, show 81 + 2 * (nl + 1) - (82 + 2 * nl) = 1 by omega]
    show some (h2T h nl q1 q2 _) = some q2
    rw [h2T_2]
  · rw [List.getElem?_eq_none (by rw [wsOf_len]; exact hk2), List.getElem?_eq_none (by rw [List.length_append, hlen]; show _ + 2 ≤ k; omega)]
theorem kn_text (l : Launch) (E : Amd) (D : va_G) (ca : Nat → ClassId) (h : Nat → Nat) (nl : Nat) (M : Mem) {nl2 : Nat} {r : Int32} {Mo : Mem} (hnl : nl < 2147483000) (hL : ∀ r1 M1, f_X4_faultFound M = some (r1, M1) → ∀ b, b < 3 → LOK nl M1 b) (hf : f_X9_text nl M = some (nl2, r, Mo)) : Cn l E D ca yX9_text cX9_text 2 (some .int) 108 2781 2 99 [.ref (h 0)] (wsOf h (LaC ca h nl) M) (fun v w2 => v = some (.int r) ∧ ∃ h2 : Nat → Nat, h2 0 = h 0 ∧ w2 = wsOf h2 (LaC ca h2 nl2) Mo) := by
  refine Cn.mk [some (.ref (h 0)), none] (by decide) (Nat.le_of_ble_eq_true rfl) (argsV [.ref (h 0)] 1 rfl rfl) ?_
  intro x hx0 K hN hR
  have K : Kn x E D ca RX9 cX9_text 2 108 2781 2 99 := K
  unfold f_X9_text at hf
  obtain ⟨r1, M1, e1, hf⟩ := bd2_e hf
  obtain ⟨M2, hM2, hf⟩ := nm_o hf
  have hL2 : ∀ b, b < 3 → LOK nl M2 b := fun b hb i hi => by
    rw [← hM2, sto_n (by unfold HB; omega)]
    exact hL r1 M1 e1 b hb i hi
  refine n_go K ⟨by decide, by decide⟩ (fun Kx0 => ?_)
  refine o_aload_n Kx0 0 dX9_text_0 rfl rfl ?_
  refine gC_X9_29 Kx0 dX9_text_1 ?_
  refine o_callV Kx0 [] (k_X4_faultFound _ E D ca h nl M e1) s_X9_241 (ltReader) (obReader_c (ca := ca) (h := h) _) rfl rfl rfl ⟨by decide, by decide⟩ (Nat.le_of_ble_eq_true rfl) _ rfl dX9_text_4 ?_
  refine o_istore_n Kx0 1 [some (.ref (h 0)), some (.int r1)] dX9_text_7 rfl (by decide) rfl rfl ?_
  refine o_aload_n Kx0 0 dX9_text_8 rfl rfl ?_
  refine gC_X9_29 Kx0 dX9_text_9 ?_
  refine o_iconst Kx0 0 dX9_text_12 (by decide) ?_
  refine pC_X9_235 Kx0 dX9_text_13 ?_
  rw [hM2]
  refine o_iload_n Kx0 1 dX9_text_16 rfl rfl ?_
  refine o_ldc Kx0 q595 dX9_text_17 ?_
  refine o_icmp_eq Kx0 27 dX9_text_19 (by decide) (fun hq => ?_) (fun hq => ?_)
  · rw [if_pos hq] at hf
    refine o_aload_n Kx0 0 dX9_text_27 rfl rfl ?_
    refine gC_X9_10 Kx0 dX9_text_28 ?_
    refine gC_X9_223 hb_0 Kx0 dX9_text_31 ?_
    refine gC_X9_244 hb_0 Kx0 dX9_text_34 ?_
    refine o_bipush Kx0 14 dX9_text_37 (by decide) ?_
    refine o_icmp_lt Kx0 45 dX9_text_39 (by decide) (fun hq2 => ?_) (fun hq2 => ?_)
    · rw [if_pos hq2] at hf
      obtain ⟨hib, hf⟩ := gd_e hf
      obtain ⟨r2, M3, e2, hf⟩ := bd2_e hf
      cases hf
      refine o_aload_n Kx0 0 dX9_text_45 rfl rfl ?_
      refine gC_X9_10 Kx0 dX9_text_46 ?_
      refine gC_X9_223 hb_0 Kx0 dX9_text_49 ?_
      refine o_aload_n Kx0 0 dX9_text_52 rfl rfl ?_
      refine gC_X9_29 Kx0 dX9_text_53 ?_
      refine go_n Kx0 ?_
      have w54 : (wsOf h (LaC ca h nl) M2)[54]? = some (h 54, .inr (3, obReader h (M2 54))) := wsOf_at (L := LaC ca h nl) ltReader
      have w55 : (wsOf h (LaC ca h nl) M2)[55]? = some (h 55, .inl (ca 0, 96, .inl (M2 55))) := wsOf_at (L := LaC ca h nl) (ltC (by decide))
      refine n_callV0 (wsOf h (LaC ca h nl) M2) [] K (kn_lawRead x.2.1 E D ca h _ M2 (by rw [wsOf_len]; exact ltC (by decide)) w54 w55 hib) s_X9_245 w54 rfl rfl rfl ⟨by decide, by decide⟩ ⟨by decide, by decide⟩ (rest := [.ref (h (HB 0 + 6))]) (Nat.le_of_ble_eq_true rfl) _ rfl dX9_text_56 (fun v w2 hB => ?_)
      obtain ⟨q1, q2, g, rfl, hg, rfl⟩ := hB
      refine n_same (wsOf (h2T h nl q1 q2) (LaC ca (h2T h nl q1 q2) (nl + 1)) (lawM nl M2)) (text_P hib hL2 hg) text_F ?_
      have est : (some (Value.ref q1)).toList ++ [Value.ref (h (HB 0 + 6))] = [.ref (h2T h nl q1 q2 (80 + 2 * (nl + 1))), .ref (h2T h nl q1 q2 (HB 0 + 6))] := by
        rw [h2T_1, h2T_lt (by unfold HB; omega)]
        rfl
      rw [est]
      refine n_go K ⟨by decide, by decide⟩ (fun Kx1 => ?_)
      refine o_callV Kx1 [.ref (h2T h nl q1 q2 (80 + 2 * (nl + 1)))] (k_X5_add _ E D ca (h2T h nl q1 q2) (nl + 1) (lawM nl M2) 0 (nl + 1) (by omega) hb_0 ⟨by omega, by omega⟩ e2) s_X9_249 (ltLaws hb_0) (obLaws_c (ca := ca) (h := h2T h nl q1 q2) hb_0 _) rfl rfl rfl ⟨by decide, by decide⟩ (Nat.le_of_ble_eq_true rfl) _ rfl dX9_text_59 ?_
      refine go_n Kx1 ?_
      exact n_iret K rfl hR ⟨rfl, h2T h nl q1 q2, h2T_lt (by omega), rfl⟩ dX9_text_62
    · rw [if_neg hq2] at hf
      cases hf
      refine o_ldc Kx0 q331 dX9_text_42 ?_
      refine go_n Kx0 ?_
      refine n_wid 2 99 (by decide) (by decide) ?_
      exact n_iret K rfl hR ⟨rfl, h, rfl, rfl⟩ dX9_text_44
  · rw [if_neg hq] at hf
    injection hf with hf
    injection hf with a1 a2
    injection a2 with a2 a3
    subst a1
    subst a2
    subst a3
    refine o_bipush Kx0 (-100) dX9_text_22 (by decide) ?_
    refine o_iload_n Kx0 1 dX9_text_24 rfl rfl ?_
    refine o_isub Kx0 dX9_text_25 ?_
    refine go_n Kx0 ?_
    refine n_wid 2 99 (by decide) (by decide) ?_
    exact n_iret K rfl hR ⟨rfl, h, rfl, rfl⟩ dX9_text_26
