def f_J3_checkIndex_8e157 (a1 : Int32) (a2 : Int32) : Option Int32 := if a1 < 0 then (none) else if a1 < a2 then (some (a1)) else none
set_option maxHeartbeats 4000000 in
set_option maxRecDepth 100000 in
theorem k_J3_checkIndex_n (l : Launch) (E : Amd) (D : va_G) (ca : Nat → ClassId) (h : Nat → Nat) (nl : Nat) (M : Mem) (a1 : Int32) (a2 : Int32) {r0 : Int32} (hf : f_J3_checkIndex_8e157 a1 a2 = some r0) : Ct l E D (tysOf ca) h (LaC ca h nl) yJ3_checkIndex_8e157 cJ3_checkIndex_8e157 3 (some .int) 0 0 [.int a1, .int a2, .null] M (some (.int r0)) M := by
  refine Ct.mk [some (.int a1), some (.int a2), some (.null)] (by decide) (Nat.le_of_ble_eq_true rfl) (argsV [.int a1, .int a2, .null] 0 rfl rfl) ?_
  intro x hx0 K hR
  have K : Kx x E D (tysOf ca) h (LaC ca h nl) RJ3 cJ3_checkIndex_8e157 3 0 0 := K
  rw [f_J3_checkIndex_8e157] at hf
  refine o_iload_n K 0 dJ3_checkIndex_8e157_0 rfl rfl ?_
  refine o_if_lt K 9 dJ3_checkIndex_8e157_1 (by decide) (fun c1 => ?_) (fun c1 => ?_)
  · have hf := ip c1 hf
    cases hf
  · have hf := im c1 hf
    refine o_iload_n K 0 dJ3_checkIndex_8e157_4 rfl rfl ?_
    refine o_iload_n K 1 dJ3_checkIndex_8e157_5 rfl rfl ?_
    refine o_icmp_lt K 16 dJ3_checkIndex_8e157_6 (by decide) (fun c2 => ?_) (fun c2 => ?_)
    · have hf := ip c2 hf
      refine o_iload_n K 0 dJ3_checkIndex_8e157_16 rfl rfl ?_
      exact r_iret K hf hR dJ3_checkIndex_8e157_17
    · have hf := im c2 hf
      cases hf
set_option maxHeartbeats 4000000 in
set_option maxRecDepth 100000 in
theorem k_J3_checkIndex_r (l : Launch) (E : Amd) (D : va_G) (ca : Nat → ClassId) (h : Nat → Nat) (nl : Nat) (M : Mem) (t0 : Nat) (a1 : Int32) (a2 : Int32) {r0 : Int32} (hf : f_J3_checkIndex_8e157 a1 a2 = some r0) : Ct l E D (tysOf ca) h (LaC ca h nl) yJ3_checkIndex_8e157 cJ3_checkIndex_8e157 3 (some .int) 0 0 [.int a1, .int a2, .ref t0] M (some (.int r0)) M := by
  refine Ct.mk [some (.int a1), some (.int a2), some (.ref t0)] (by decide) (Nat.le_of_ble_eq_true rfl) (argsV [.int a1, .int a2, .ref t0] 0 rfl rfl) ?_
  intro x hx0 K hR
  have K : Kx x E D (tysOf ca) h (LaC ca h nl) RJ3 cJ3_checkIndex_8e157 3 0 0 := K
  rw [f_J3_checkIndex_8e157] at hf
  refine o_iload_n K 0 dJ3_checkIndex_8e157_0 rfl rfl ?_
  refine o_if_lt K 9 dJ3_checkIndex_8e157_1 (by decide) (fun c1 => ?_) (fun c1 => ?_)
  · have hf := ip c1 hf
    cases hf
  · have hf := im c1 hf
    refine o_iload_n K 0 dJ3_checkIndex_8e157_4 rfl rfl ?_
    refine o_iload_n K 1 dJ3_checkIndex_8e157_5 rfl rfl ?_
    refine o_icmp_lt K 16 dJ3_checkIndex_8e157_6 (by decide) (fun c2 => ?_) (fun c2 => ?_)
    · have hf := ip c2 hf
      refine o_iload_n K 0 dJ3_checkIndex_8e157_16 rfl rfl ?_
      exact r_iret K hf hR dJ3_checkIndex_8e157_17
    · have hf := im c2 hf
      cases hf
def f_J0_checkIndex_df160 (a1 a2 : Int32) : Option Int32 := f_J3_checkIndex_8e157 a1 a2
set_option maxHeartbeats 4000000 in
theorem k_J0_checkIndex_df160 (l : Launch) (E : Amd) (D : va_G) (ca : Nat → ClassId) (h : Nat → Nat) (nl : Nat) (M : Mem) (a1 a2 : Int32) {r0 : Int32} (hf : f_J0_checkIndex_df160 a1 a2 = some r0) : Ct l E D (tysOf ca) h (LaC ca h nl) yJ0_checkIndex_df160 cJ0_checkIndex_df160 2 none 1 22 [.int a1, .int a2] M none M := by
  refine Ct.mk [some (.int a1), some (.int a2)] (by decide) (Nat.le_of_ble_eq_true rfl) (argsV [.int a1, .int a2] 0 rfl rfl) ?_
  intro x _ K hR
  have K : Kx x E D (tysOf ca) h (LaC ca h nl) RJ0 cJ0_checkIndex_df160 2 1 22 := K
  rw [f_J0_checkIndex_df160] at hf
  refine o_iload_n K 0 dJ0_checkIndex_df160_0 rfl rfl ?_
  refine o_iload_n K 1 dJ0_checkIndex_df160_1 rfl rfl ?_
  refine o_fmt K q696 dJ0_checkIndex_df160_2 ?_ (fun t => ?_)
  · refine o_callS K [.int a1, .int a2, .null] (k_J3_checkIndex_n x.2.1 E D ca h nl M a1 a2 hf) s_J0_1059 rfl ⟨by decide, by decide⟩ (Nat.le_of_ble_eq_true rfl) _ rfl dJ0_checkIndex_df160_5 ?_
    show Go x D (tysOf ca) h (LaC ca h nl) 2 M 8 [some (.int a1), some (.int a2)] [.int r0]
    refine o_pop K rfl dJ0_checkIndex_df160_8 ?_
    exact o_vret K hR dJ0_checkIndex_df160_9
  · refine o_callS K [.int a1, .int a2, .ref t] (k_J3_checkIndex_r x.2.1 E D ca h nl M t a1 a2 hf) s_J0_1059 rfl ⟨by decide, by decide⟩ (Nat.le_of_ble_eq_true rfl) _ rfl dJ0_checkIndex_df160_5 ?_
    show Go x D (tysOf ca) h (LaC ca h nl) 2 M 8 [some (.int a1), some (.int a2)] [.int r0]
    refine o_pop K rfl dJ0_checkIndex_df160_8 ?_
    exact o_vret K hR dJ0_checkIndex_df160_9
def f_J6_bitCount_0f7a4 (a1 : Int32) : Option Int32 := nm (a1 - ((((a1).toUInt32 >>> ((1 : Int32).toUInt32 &&& Int32.toUInt32 31)).toInt32) &&& 1431655765) : Int32) fun x1 => nm ((x1 &&& 858993459) + ((((x1).toUInt32 >>> ((2 : Int32).toUInt32 &&& Int32.toUInt32 31)).toInt32) &&& 858993459) : Int32) fun x2 => nm ((x2 + (((x2).toUInt32 >>> ((4 : Int32).toUInt32 &&& Int32.toUInt32 31)).toInt32)) &&& 252645135 : Int32) fun x3 => nm (x3 + (((x3).toUInt32 >>> ((8 : Int32).toUInt32 &&& Int32.toUInt32 31)).toInt32) : Int32) fun x4 => nm (x4 + (((x4).toUInt32 >>> ((16 : Int32).toUInt32 &&& Int32.toUInt32 31)).toInt32) : Int32) fun x5 => some (x5 &&& 63)
set_option maxHeartbeats 4000000 in
set_option maxRecDepth 100000 in
theorem k_J6_bitCount_0f7a4 (l : Launch) (E : Amd) (D : va_G) (ca : Nat → ClassId) (h : Nat → Nat) (nl : Nat) (M : Mem) (a1 : Int32) {r0 : Int32} (hf : f_J6_bitCount_0f7a4 a1 = some r0) : Ct l E D (tysOf ca) h (LaC ca h nl) yJ6_bitCount_0f7a4 cJ6_bitCount_0f7a4 1 (some .int) 0 0 [.int a1] M (some (.int r0)) M := by
  refine Ct.mk [some (.int a1)] (by decide) (Nat.le_of_ble_eq_true rfl) (argsV [.int a1] 0 rfl rfl) ?_
  intro x hx0 K hR
  have K : Kx x E D (tysOf ca) h (LaC ca h nl) RJ6 cJ6_bitCount_0f7a4 1 0 0 := K
  rw [f_J6_bitCount_0f7a4] at hf
  refine o_iload_n K 0 dJ6_bitCount_0f7a4_0 rfl rfl ?_
  refine o_iload_n K 0 dJ6_bitCount_0f7a4_1 rfl rfl ?_
  refine o_iconst K 1 dJ6_bitCount_0f7a4_2 (by decide) ?_
  refine o_iushr K dJ6_bitCount_0f7a4_3 ?_
  refine o_ldcw K q452 dJ6_bitCount_0f7a4_4 ?_
  refine o_iand K dJ6_bitCount_0f7a4_7 ?_
  refine o_isub K dJ6_bitCount_0f7a4_8 ?_
  obtain ⟨x1, ex1, hf⟩ := nm_o hf
  refine o_nmi ex1 ?_
  refine o_istore_n K 0 [some (.int x1)] dJ6_bitCount_0f7a4_9 rfl (by decide) rfl rfl ?_
  refine o_iload_n K 0 dJ6_bitCount_0f7a4_10 rfl rfl ?_
  refine o_ldcw K q453 dJ6_bitCount_0f7a4_11 ?_
  refine o_iand K dJ6_bitCount_0f7a4_14 ?_
  refine o_iload_n K 0 dJ6_bitCount_0f7a4_15 rfl rfl ?_
  refine o_iconst K 2 dJ6_bitCount_0f7a4_16 (by decide) ?_
  refine o_iushr K dJ6_bitCount_0f7a4_17 ?_
  refine o_ldcw K q453 dJ6_bitCount_0f7a4_18 ?_
  refine o_iand K dJ6_bitCount_0f7a4_21 ?_
  refine o_iadd K dJ6_bitCount_0f7a4_22 ?_
  obtain ⟨x2, ex2, hf⟩ := nm_o hf
  refine o_nmi ex2 ?_
  refine o_istore_n K 0 [some (.int x2)] dJ6_bitCount_0f7a4_23 rfl (by decide) rfl rfl ?_
  refine o_iload_n K 0 dJ6_bitCount_0f7a4_24 rfl rfl ?_
  refine o_iload_n K 0 dJ6_bitCount_0f7a4_25 rfl rfl ?_
  refine o_iconst K 4 dJ6_bitCount_0f7a4_26 (by decide) ?_
  refine o_iushr K dJ6_bitCount_0f7a4_27 ?_
  refine o_iadd K dJ6_bitCount_0f7a4_28 ?_
  refine o_ldcw K q454 dJ6_bitCount_0f7a4_29 ?_
  refine o_iand K dJ6_bitCount_0f7a4_32 ?_
  obtain ⟨x3, ex3, hf⟩ := nm_o hf
  refine o_nmi ex3 ?_
  refine o_istore_n K 0 [some (.int x3)] dJ6_bitCount_0f7a4_33 rfl (by decide) rfl rfl ?_
  refine o_iload_n K 0 dJ6_bitCount_0f7a4_34 rfl rfl ?_
  refine o_iload_n K 0 dJ6_bitCount_0f7a4_35 rfl rfl ?_
  refine o_bipush K 8 dJ6_bitCount_0f7a4_36 (by decide) ?_
  refine o_iushr K dJ6_bitCount_0f7a4_38 ?_
  refine o_iadd K dJ6_bitCount_0f7a4_39 ?_
  obtain ⟨x4, ex4, hf⟩ := nm_o hf
  refine o_nmi ex4 ?_
  refine o_istore_n K 0 [some (.int x4)] dJ6_bitCount_0f7a4_40 rfl (by decide) rfl rfl ?_
  refine o_iload_n K 0 dJ6_bitCount_0f7a4_41 rfl rfl ?_
  refine o_iload_n K 0 dJ6_bitCount_0f7a4_42 rfl rfl ?_
  refine o_bipush K 16 dJ6_bitCount_0f7a4_43 (by decide) ?_
  refine o_iushr K dJ6_bitCount_0f7a4_45 ?_
  refine o_iadd K dJ6_bitCount_0f7a4_46 ?_
  obtain ⟨x5, ex5, hf⟩ := nm_o hf
  refine o_nmi ex5 ?_
  refine o_istore_n K 0 [some (.int x5)] dJ6_bitCount_0f7a4_47 rfl (by decide) rfl rfl ?_
  refine o_iload_n K 0 dJ6_bitCount_0f7a4_48 rfl rfl ?_
  refine o_bipush K 63 dJ6_bitCount_0f7a4_49 (by decide) ?_
  refine o_iand K dJ6_bitCount_0f7a4_51 ?_
  exact r_iret K hf hR dJ6_bitCount_0f7a4_52
def f_J7_fill_53178_l5 (k1 : Nat) (n1 : Nat) : Nat → Int32 → Int32 → Int32 → Mem → Option Mem
  | 0, _, _, _, _ => none
  | n + 1, a0, a1, a2, M => if a2 ≤ a1 then (some M) else wr M k1 n1 a1 a0 fun M4 => nm (a1 + 1 : Int32) fun x5 => f_J7_fill_53178_l5 k1 n1 n a0 x5 a2 M4
set_option maxHeartbeats 4000000 in
set_option maxRecDepth 100000 in
theorem t_J7_fill_53178_l5 {x : En} {E : Amd} {D : va_G} {ca : Nat → ClassId} {h : Nat → Nat} {nl : Nat} {k1 : Nat} {n1 : Nat} (K : Kx x E D (tysOf ca) h (LaC ca h nl) RJ7 cJ7_fill_53178 4 0 0) {Mo : Mem} (hR : Rt x D h (LaC ca h nl) none none Mo) (hk1 : k1 < 82 + 2 * nl) (hc1 : ∀ row, celC ca h k1 row = .inl (ca 0, n1, .inl row)) : ∀ (n : Nat) (a0 : Int32) (a1 : Int32) (a2 : Int32) (M : Mem), f_J7_fill_53178_l5 k1 n1 n a0 a1 a2 M = some Mo → Go x D (tysOf ca) h (LaC ca h nl) 4 M 5 [some (.ref (h k1)), some (.int a0), some (.int a1), some (.int a2)] [] := by
  intro n
  induction n with
  | zero =>
    intro a0 a1 a2 M hf
    cases hf
  | succ n ih =>
    intro a0 a1 a2 M hf
    rw [f_J7_fill_53178_l5] at hf
    refine o_iload_n K 2 dJ7_fill_53178_5 rfl rfl ?_
    refine o_iload_n K 3 dJ7_fill_53178_6 rfl rfl ?_
    refine o_icmp_ge K 20 dJ7_fill_53178_7 (by decide) (fun c2 => ?_) (fun c2 => ?_)
    · have hf := ip c2 hf
      exact e_vret K hf hR dJ7_fill_53178_20
    · have hf := im c2 hf
      refine o_aload_n K 0 dJ7_fill_53178_10 rfl rfl ?_
      refine o_iload_n K 2 dJ7_fill_53178_11 rfl rfl ?_
      refine o_iload_n K 1 dJ7_fill_53178_12 rfl rfl ?_
      obtain ⟨g3, M4, eM4, hf⟩ := wr_e hf
      refine sC_any K hk1 hc1 g3 dJ7_fill_53178_13 ?_
      refine o_nmM eM4 ?_
      obtain ⟨x5, ex5, hf⟩ := nm_o hf
      refine o_iinc K 2 x5 [some (.ref (h k1)), some (.int a0), some (.int x5), some (.int a2)] dJ7_fill_53178_14 rfl (inc_e (by decide) ex5) (by decide) rfl rfl ?_
      refine o_goto K 5 dJ7_fill_53178_17 (by decide) ?_
      exact ih a0 x5 a2 M4 hf
def f_J7_fill_53178 (k1 : Nat) (n1 : Nat) (M : Mem) (a2 : Int32) : Option Mem := nm ((Int32.ofNat n1) : Int32) fun x1 => f_J7_fill_53178_l5 k1 n1 FU a2 (0 : Int32) x1 M
set_option maxHeartbeats 4000000 in
set_option maxRecDepth 100000 in
theorem k_J7_fill_53178 (l : Launch) (E : Amd) (D : va_G) (ca : Nat → ClassId) (h : Nat → Nat) (nl : Nat) (M : Mem) (k1 : Nat) (n1 : Nat) (a2 : Int32) {Mo : Mem} (hk1 : k1 < 82 + 2 * nl) (hc1 : ∀ row, celC ca h k1 row = .inl (ca 0, n1, .inl row)) (hf : f_J7_fill_53178 k1 n1 M a2 = some Mo) : Ct l E D (tysOf ca) h (LaC ca h nl) yJ7_fill_53178 cJ7_fill_53178 4 none 0 0 [.ref (h k1), .int a2] M none Mo := by
  refine Ct.mk [some (.ref (h k1)), some (.int a2), none, none] (by decide) (Nat.le_of_ble_eq_true rfl) (argsV [.ref (h k1), .int a2] 2 rfl rfl) ?_
  intro x hx0 K hR
  have K : Kx x E D (tysOf ca) h (LaC ca h nl) RJ7 cJ7_fill_53178 4 0 0 := K
  rw [f_J7_fill_53178] at hf
  refine o_iconst K 0 dJ7_fill_53178_0 (by decide) ?_
  refine o_istore_n K 2 [some (.ref (h k1)), some (.int a2), some (.int 0), none] dJ7_fill_53178_1 rfl (by decide) rfl rfl ?_
  refine o_aload_n K 0 dJ7_fill_53178_2 rfl rfl ?_
  refine o_alen K (y := (n1, .inl (M k1))) 0 (Int32.ofNat n1) hk1 (hc1 _) rfl rfl dJ7_fill_53178_3 ?_
  obtain ⟨x1, ex1, hf⟩ := nm_o hf
  refine o_nmi ex1 ?_
  refine o_istore_n K 3 [some (.ref (h k1)), some (.int a2), some (.int 0), some (.int x1)] dJ7_fill_53178_4 rfl (by decide) rfl rfl ?_
  exact t_J7_fill_53178_l5 K hR hk1 hc1 FU a2 (0 : Int32) x1 M hf
def f_J0_coder_7d493 (s : Nat) (M : Mem) : Option Int32 := some ((0 : Int32))
set_option maxHeartbeats 4000000 in
set_option maxRecDepth 100000 in
theorem k_J0_coder_7d493 (l : Launch) (E : Amd) (D : va_G) (ca : Nat → ClassId) (h : Nat → Nat) (nl : Nat) (M : Mem) (s : Nat) {r0 : Int32} (hs : s < 17) (hf : f_J0_coder_7d493 s M = some r0) : Ct l E D (tysOf ca) h (LaC ca h nl) yJ0_coder_7d493 cJ0_coder_7d493 1 (some .byte) 0 0 [.ref (E.1 s)] M (some (.int r0)) M := by
  refine Ct.mk [some (.ref (E.1 s))] (by decide) (Nat.le_of_ble_eq_true rfl) (argsV [.ref (E.1 s)] 0 rfl rfl) ?_
  intro x hx0 K hR
  have K : Kx x E D (tysOf ca) h (LaC ca h nl) RJ0 cJ0_coder_7d493 1 0 0 := K
  rw [f_J0_coder_7d493] at hf
  refine o_compact K q680 dJ0_coder_7d493_0 ?_
  refine o_if_eq K 13 dJ0_coder_7d493_3 (by decide) (fun c1 => ?_) (fun c1 => ?_)
  · exact absurd c1 (by decide)
  refine o_aload_n K 0 dJ0_coder_7d493_6 rfl rfl ?_
  refine o_scod K hs q1443 dJ0_coder_7d493_7 ?_
  refine o_goto K 14 dJ0_coder_7d493_10 (by decide) ?_
  exact r_nret K hf rfl hR dJ0_coder_7d493_14
def f_J0_isLatin1_aae02 (s : Nat) (M : Mem) : Option Int32 := some ((1 : Int32))
set_option maxHeartbeats 4000000 in
set_option maxRecDepth 100000 in
theorem k_J0_isLatin1_aae02 (l : Launch) (E : Amd) (D : va_G) (ca : Nat → ClassId) (h : Nat → Nat) (nl : Nat) (M : Mem) (s : Nat) {r0 : Int32} (hs : s < 17) (hf : f_J0_isLatin1_aae02 s M = some r0) : Ct l E D (tysOf ca) h (LaC ca h nl) yJ0_isLatin1_aae02 cJ0_isLatin1_aae02 1 (some .boolean) 0 0 [.ref (E.1 s)] M (some (.int r0)) M := by
  refine Ct.mk [some (.ref (E.1 s))] (by decide) (Nat.le_of_ble_eq_true rfl) (argsV [.ref (E.1 s)] 0 rfl rfl) ?_
  intro x hx0 K hR
  have K : Kx x E D (tysOf ca) h (LaC ca h nl) RJ0 cJ0_isLatin1_aae02 1 0 0 := K
  rw [f_J0_isLatin1_aae02] at hf
  refine o_compact K q680 dJ0_isLatin1_aae02_0 ?_
  refine o_if_eq K 17 dJ0_isLatin1_aae02_3 (by decide) (fun c1 => ?_) (fun c1 => ?_)
  · exact absurd c1 (by decide)
  refine o_aload_n K 0 dJ0_isLatin1_aae02_6 rfl rfl ?_
  refine o_scod K hs q1443 dJ0_isLatin1_aae02_7 ?_
  refine o_if_ne K 17 dJ0_isLatin1_aae02_10 (by decide) (fun c2 => ?_) (fun c2 => ?_)
  · exact absurd c2 (by decide)
  refine o_iconst K 1 dJ0_isLatin1_aae02_13 (by decide) ?_
  refine o_goto K 18 dJ0_isLatin1_aae02_14 (by decide) ?_
  exact r_zret K hf hR (by decide) dJ0_isLatin1_aae02_18
def f_J0_length_8abf5 (s : Nat) (M : Mem) : Option Int32 := bd (f_J0_coder_7d493 s M) fun r1 => some ((Int32.ofNat (lenS.getD s 0)) >>> (r1 &&& 31))
set_option maxHeartbeats 4000000 in
set_option maxRecDepth 100000 in
theorem k_J0_length_8abf5 (l : Launch) (E : Amd) (D : va_G) (ca : Nat → ClassId) (h : Nat → Nat) (nl : Nat) (M : Mem) (s : Nat) {r0 : Int32} (hs : s < 17) (hf : f_J0_length_8abf5 s M = some r0) : Ct l E D (tysOf ca) h (LaC ca h nl) yJ0_length_8abf5 cJ0_length_8abf5 1 (some .int) 1 20 [.ref (E.1 s)] M (some (.int r0)) M := by
  refine Ct.mk [some (.ref (E.1 s))] (by decide) (Nat.le_of_ble_eq_true rfl) (argsV [.ref (E.1 s)] 0 rfl rfl) ?_
  intro x hx0 K hR
  have K : Kx x E D (tysOf ca) h (LaC ca h nl) RJ0 cJ0_length_8abf5 1 1 20 := K
  rw [f_J0_length_8abf5] at hf
  refine o_aload_n K 0 dJ0_length_8abf5_0 rfl rfl ?_
  refine o_sval K hs q1442 dJ0_length_8abf5_1 ?_
  refine o_slen K hs dJ0_length_8abf5_4 ?_
  refine o_aload_n K 0 dJ0_length_8abf5_5 rfl rfl ?_
  obtain ⟨r1, er1, hf⟩ := bd_e hf
  refine o_callVs K [] (k_J0_coder_7d493 x.2.1 E D ca h nl M s hs er1) s_J0_335 hs rfl rfl ⟨by decide, by decide⟩ (Nat.le_of_ble_eq_true rfl) _ rfl dJ0_length_8abf5_6 ?_
  show Go x D (tysOf ca) h (LaC ca h nl) 1 M 9 [some (.ref (E.1 s))] [.int r1, .int (Int32.ofNat (lenS.getD s 0))]
  refine o_ishr K dJ0_length_8abf5_9 ?_
  exact r_iret K hf hR dJ0_length_8abf5_10
def f_J1_charAt_3b067 (s1 : Nat) (M : Mem) (a2 : Int32) : Option Int32 := bd (f_J0_checkIndex_df160 a2 (Int32.ofNat (lenS.getD s1 0))) fun r1 => gd (ib a2 (lenS.getD s1 0)) <| nm ((bytS.getD s1 []).getD (ix a2) 0) fun x2 => gd (cz (((x2 &&& 255).toUInt32 % 65536).toInt32)) <| some (((x2 &&& 255).toUInt32 % 65536).toInt32)
set_option maxHeartbeats 4000000 in
set_option maxRecDepth 100000 in
theorem k_J1_charAt_3b067 (l : Launch) (E : Amd) (D : va_G) (ca : Nat → ClassId) (h : Nat → Nat) (nl : Nat) (M : Mem) (s1 : Nat) (a2 : Int32) {r0 : Int32} (hs1 : s1 < 17) (hf : f_J1_charAt_3b067 s1 M a2 = some r0) : Ct l E D (tysOf ca) h (LaC ca h nl) yJ1_charAt_3b067 cJ1_charAt_3b067 2 (some .char) 2 43 [.ref (E.2.1 s1), .int a2] M (some (.int r0)) M := by
  refine Ct.mk [some (.ref (E.2.1 s1)), some (.int a2)] (by decide) (Nat.le_of_ble_eq_true rfl) (argsV [.ref (E.2.1 s1), .int a2] 0 rfl rfl) ?_
  intro x hx0 K hR
  have K : Kx x E D (tysOf ca) h (LaC ca h nl) RJ1 cJ1_charAt_3b067 2 2 43 := K
  rw [f_J1_charAt_3b067] at hf
  refine o_iload_n K 1 dJ1_charAt_3b067_0 rfl rfl ?_
  refine o_aload_n K 0 dJ1_charAt_3b067_1 rfl rfl ?_
  refine o_slen K hs1 dJ1_charAt_3b067_2 ?_
  obtain ⟨r1, er1, hf⟩ := bd_e hf
  refine o_callS K [.int a2, .int (Int32.ofNat (lenS.getD s1 0))] (k_J0_checkIndex_df160 x.2.1 E D ca h nl M a2 (Int32.ofNat (lenS.getD s1 0)) er1) s_J1_9 rfl ⟨by decide, by decide⟩ (Nat.le_of_ble_eq_true rfl) _ rfl dJ1_charAt_3b067_3 ?_
  show Go x D (tysOf ca) h (LaC ca h nl) 2 M 6 [some (.ref (E.2.1 s1)), some (.int a2)] []
  refine o_aload_n K 0 dJ1_charAt_3b067_6 rfl rfl ?_
  refine o_iload_n K 1 dJ1_charAt_3b067_7 rfl rfl ?_
  obtain ⟨g3, hf⟩ := gd_e hf
  obtain ⟨x2, ex2, hf⟩ := nm_o hf
  refine o_sbyt K hs1 g3 dJ1_charAt_3b067_8 ?_
  refine o_nmi ex2 ?_
  refine o_sipush K 255 dJ1_charAt_3b067_9 (by decide) ?_
  refine o_iand K dJ1_charAt_3b067_12 ?_
  refine o_i2c K dJ1_charAt_3b067_13 ?_
  obtain ⟨g4, hf⟩ := gd_e hf
  exact r_nret K hf (cz_n g4) hR dJ1_charAt_3b067_14
def f_J0_charAt_5068e (s : Nat) (M : Mem) (a1 : Int32) : Option Int32 := bd (f_J0_isLatin1_aae02 s M) fun r1 => if r1 = 0 then (none) else bd (f_J1_charAt_3b067 s M a1) fun r3 => gd (cz r3) <| some (r3)
set_option maxHeartbeats 4000000 in
set_option maxRecDepth 100000 in
theorem k_J0_charAt_5068e (l : Launch) (E : Amd) (D : va_G) (ca : Nat → ClassId) (h : Nat → Nat) (nl : Nat) (M : Mem) (s : Nat) (a1 : Int32) {r0 : Int32} (hs : s < 17) (hf : f_J0_charAt_5068e s M a1 = some r0) : Ct l E D (tysOf ca) h (LaC ca h nl) yJ0_charAt_5068e cJ0_charAt_5068e 2 (some .char) 3 64 [.ref (E.1 s), .int a1] M (some (.int r0)) M := by
  refine Ct.mk [some (.ref (E.1 s)), some (.int a1)] (by decide) (Nat.le_of_ble_eq_true rfl) (argsV [.ref (E.1 s), .int a1] 0 rfl rfl) ?_
  intro x hx0 K hR
  have K : Kx x E D (tysOf ca) h (LaC ca h nl) RJ0 cJ0_charAt_5068e 2 3 64 := K
  rw [f_J0_charAt_5068e] at hf
  refine o_aload_n K 0 dJ0_charAt_5068e_0 rfl rfl ?_
  obtain ⟨r1, er1, hf⟩ := bd_e hf
  refine o_callVs K [] (k_J0_isLatin1_aae02 x.2.1 E D ca h nl M s hs er1) s_J0_492 hs rfl rfl ⟨by decide, by decide⟩ (Nat.le_of_ble_eq_true rfl) _ rfl dJ0_charAt_5068e_1 ?_
  show Go x D (tysOf ca) h (LaC ca h nl) 2 M 4 [some (.ref (E.1 s)), some (.int a1)] [.int r1]
  refine o_if_eq K 16 dJ0_charAt_5068e_4 (by decide) (fun c2 => ?_) (fun c2 => ?_)
  · have hf := ip c2 hf
    cases hf
  · have hf := im c2 hf
    refine o_aload_n K 0 dJ0_charAt_5068e_7 rfl rfl ?_
    refine o_sval K hs q1442 dJ0_charAt_5068e_8 ?_
    refine o_iload_n K 1 dJ0_charAt_5068e_11 rfl rfl ?_
    obtain ⟨r3, er3, hf⟩ := bd_e hf
    refine o_callS K [.ref (E.2.1 s), .int a1] (k_J1_charAt_3b067 x.2.1 E D ca h nl M s a1 hs er3) s_J0_495 rfl ⟨by decide, by decide⟩ (Nat.le_of_ble_eq_true rfl) _ rfl dJ0_charAt_5068e_12 ?_
    show Go x D (tysOf ca) h (LaC ca h nl) 2 M 15 [some (.ref (E.1 s)), some (.int a1)] [.int r3]
    obtain ⟨g4, hf⟩ := gd_e hf
    exact r_nret K hf (cz_n g4) hR dJ0_charAt_5068e_15
def f_J1_canEncode_9a6ad (a1 : Int32) : Option Int32 := if a1 < 0 then (some ((0 : Int32))) else if 255 < a1 then (some ((0 : Int32))) else some ((1 : Int32))
set_option maxHeartbeats 4000000 in
set_option maxRecDepth 100000 in
theorem k_J1_canEncode_9a6ad (l : Launch) (E : Amd) (D : va_G) (ca : Nat → ClassId) (h : Nat → Nat) (nl : Nat) (M : Mem) (a1 : Int32) {r0 : Int32} (hf : f_J1_canEncode_9a6ad a1 = some r0) : Ct l E D (tysOf ca) h (LaC ca h nl) yJ1_canEncode_9a6ad cJ1_canEncode_9a6ad 1 (some .boolean) 0 0 [.int a1] M (some (.int r0)) M := by
  refine Ct.mk [some (.int a1)] (by decide) (Nat.le_of_ble_eq_true rfl) (argsV [.int a1] 0 rfl rfl) ?_
  intro x hx0 K hR
  have K : Kx x E D (tysOf ca) h (LaC ca h nl) RJ1 cJ1_canEncode_9a6ad 1 0 0 := K
  rw [f_J1_canEncode_9a6ad] at hf
  refine o_iload_n K 0 dJ1_canEncode_9a6ad_0 rfl rfl ?_
  refine o_if_lt K 15 dJ1_canEncode_9a6ad_1 (by decide) (fun c1 => ?_) (fun c1 => ?_)
  · have hf := ip c1 hf
    refine o_iconst K 0 dJ1_canEncode_9a6ad_15 (by decide) ?_
    exact r_zret K hf hR (by decide) dJ1_canEncode_9a6ad_16
  · have hf := im c1 hf
    refine o_iload_n K 0 dJ1_canEncode_9a6ad_4 rfl rfl ?_
    refine o_sipush K 255 dJ1_canEncode_9a6ad_5 (by decide) ?_
    refine o_icmp_gt K 15 dJ1_canEncode_9a6ad_8 (by decide) (fun c2 => ?_) (fun c2 => ?_)
    · have hf := ip c2 hf
      refine o_iconst K 0 dJ1_canEncode_9a6ad_15 (by decide) ?_
      exact r_zret K hf hR (by decide) dJ1_canEncode_9a6ad_16
    · have hf := im c2 hf
      refine o_iconst K 1 dJ1_canEncode_9a6ad_11 (by decide) ?_
      refine o_goto K 16 dJ1_canEncode_9a6ad_12 (by decide) ?_
      exact r_zret K hf hR (by decide) dJ1_canEncode_9a6ad_16
def f_J1_indexOfChar_4cfef_l7 (s1 : Nat) : Nat → Int32 → Int32 → Int32 → Mem → Option Int32
  | 0, _, _, _, _ => none
  | n + 1, a0, a1, a2, M => if a0 ≤ a2 then (some (((-1) : Int32))) else gd (ib a2 (lenS.getD s1 0)) <| nm ((bytS.getD s1 []).getD (ix a2) 0) fun x3 => if x3 = a1 then (some (a2)) else nm (a2 + 1 : Int32) fun x6 => f_J1_indexOfChar_4cfef_l7 s1 n a0 a1 x6 M
set_option maxHeartbeats 4000000 in
set_option maxRecDepth 100000 in
theorem t_J1_indexOfChar_4cfef_l7 {x : En} {E : Amd} {D : va_G} {ca : Nat → ClassId} {h : Nat → Nat} {nl : Nat} {s1 : Nat} {M : Mem} (K : Kx x E D (tysOf ca) h (LaC ca h nl) RJ1 cJ1_indexOfChar_4cfef 6 0 0) {r0 : Int32} (hR : Rt x D h (LaC ca h nl) (some .int) (some (.int r0)) M) (hs1 : s1 < 17) : ∀ (n : Nat) (a0 : Int32) (a1 : Int32) (a2 : Int32), f_J1_indexOfChar_4cfef_l7 s1 n a0 a1 a2 M = some r0 → Go x D (tysOf ca) h (LaC ca h nl) 6 M 7 [some (.ref (E.2.1 s1)), none, none, some (.int a0), some (.int a1), some (.int a2)] [] := by
  intro n
  induction n with
  | zero =>
    intro a0 a1 a2 hf
    cases hf
  | succ n ih =>
    intro a0 a1 a2 hf
    rw [f_J1_indexOfChar_4cfef_l7] at hf
    refine o_iload K 5 dJ1_indexOfChar_4cfef_7 rfl ?_
    refine o_iload_n K 3 dJ1_indexOfChar_4cfef_9 rfl rfl ?_
    refine o_icmp_ge K 31 dJ1_indexOfChar_4cfef_10 (by decide) (fun c2 => ?_) (fun c2 => ?_)
    · have hf := ip c2 hf
      refine o_iconst K (-1) dJ1_indexOfChar_4cfef_31 (by decide) ?_
      exact r_iret K hf hR dJ1_indexOfChar_4cfef_32
    · have hf := im c2 hf
      refine o_aload_n K 0 dJ1_indexOfChar_4cfef_13 rfl rfl ?_
      refine o_iload K 5 dJ1_indexOfChar_4cfef_14 rfl ?_
      obtain ⟨g4, hf⟩ := gd_e hf
      obtain ⟨x3, ex3, hf⟩ := nm_o hf
      refine o_sbyt K hs1 g4 dJ1_indexOfChar_4cfef_16 ?_
      refine o_nmi ex3 ?_
      refine o_iload K 4 dJ1_indexOfChar_4cfef_17 rfl ?_
      refine o_icmp_ne K 25 dJ1_indexOfChar_4cfef_19 (by decide) (fun c5 => ?_) (fun c5 => ?_)
      · have hf := im c5 hf
        obtain ⟨x6, ex6, hf⟩ := nm_o hf
        refine o_iinc K 5 x6 [some (.ref (E.2.1 s1)), none, none, some (.int a0), some (.int a1), some (.int x6)] dJ1_indexOfChar_4cfef_25 rfl (inc_e (by decide) ex6) (by decide) rfl rfl ?_
        refine o_goto K 7 dJ1_indexOfChar_4cfef_28 (by decide) ?_
        exact ih a0 a1 x6 hf
      · have hf := ip c5 hf
        refine o_iload K 5 dJ1_indexOfChar_4cfef_22 rfl ?_
        exact r_iret K hf hR dJ1_indexOfChar_4cfef_24
def f_J1_indexOfChar_4cfef (s1 : Nat) (M : Mem) (a2 : Int32) (a3 : Int32) (a4 : Int32) : Option Int32 := nm (a2.toInt8.toInt32 : Int32) fun x1 => f_J1_indexOfChar_4cfef_l7 s1 FU a4 x1 a3 M
set_option maxHeartbeats 4000000 in
set_option maxRecDepth 100000 in
theorem k_J1_indexOfChar_4cfef (l : Launch) (E : Amd) (D : va_G) (ca : Nat → ClassId) (h : Nat → Nat) (nl : Nat) (M : Mem) (s1 : Nat) (a2 : Int32) (a3 : Int32) (a4 : Int32) {r0 : Int32} (hs1 : s1 < 17) (hf : f_J1_indexOfChar_4cfef s1 M a2 a3 a4 = some r0) : Ct l E D (tysOf ca) h (LaC ca h nl) yJ1_indexOfChar_4cfef cJ1_indexOfChar_4cfef 6 (some .int) 0 0 [.ref (E.2.1 s1), .int a2, .int a3, .int a4] M (some (.int r0)) M := by
  refine Ct.mk [some (.ref (E.2.1 s1)), some (.int a2), some (.int a3), some (.int a4), none, none] (by decide) (Nat.le_of_ble_eq_true rfl) (argsV [.ref (E.2.1 s1), .int a2, .int a3, .int a4] 2 rfl rfl) ?_
  intro x hx0 K hR
  have K : Kx x E D (tysOf ca) h (LaC ca h nl) RJ1 cJ1_indexOfChar_4cfef 6 0 0 := K
  rw [f_J1_indexOfChar_4cfef] at hf
  refine o_iload_n K 1 dJ1_indexOfChar_4cfef_0 rfl rfl ?_
  refine o_i2b K dJ1_indexOfChar_4cfef_1 ?_
  obtain ⟨x1, ex1, hf⟩ := nm_o hf
  refine o_nmi ex1 ?_
  refine o_istore K 4 [some (.ref (E.2.1 s1)), some (.int a2), some (.int a3), some (.int a4), some (.int x1), none] dJ1_indexOfChar_4cfef_2 (by decide) rfl rfl ?_
  refine o_iload_n K 2 dJ1_indexOfChar_4cfef_4 rfl rfl ?_
  refine o_istore K 5 [some (.ref (E.2.1 s1)), some (.int a2), some (.int a3), some (.int a4), some (.int x1), some (.int a3)] dJ1_indexOfChar_4cfef_5 (by decide) rfl rfl ?_
  refine o_drop [true, false, false, true, true, true] (V2 := [some (.ref (E.2.1 s1)), none, none, some (.int a4), some (.int x1), some (.int a3)]) rfl ?_
  exact t_J1_indexOfChar_4cfef_l7 K hR hs1 FU a4 x1 a3 hf
def f_J1_indexOf_4cfef (s1 : Nat) (M : Mem) (a2 : Int32) (a3 : Int32) (a4 : Int32) : Option Int32 := bd (f_J1_canEncode_9a6ad a2) fun r1 => if r1 = 0 then (some (((-1) : Int32))) else nm ((if a3 < (0 : Int32) then (0 : Int32) else a3) : Int32) fun x3 => nm ((if (Int32.ofNat (lenS.getD s1 0)) < a4 then (Int32.ofNat (lenS.getD s1 0)) else a4) : Int32) fun x4 => if x3 < x4 then (bd (f_J1_indexOfChar_4cfef s1 M a2 x3 x4) fun r6 => some (r6)) else some (((-1) : Int32))
set_option maxHeartbeats 4000000 in
set_option maxRecDepth 100000 in
theorem k_J1_indexOf_4cfef (l : Launch) (E : Amd) (D : va_G) (ca : Nat → ClassId) (h : Nat → Nat) (nl : Nat) (M : Mem) (s1 : Nat) (a2 : Int32) (a3 : Int32) (a4 : Int32) {r0 : Int32} (hs1 : s1 < 17) (hf : f_J1_indexOf_4cfef s1 M a2 a3 a4 = some r0) : Ct l E D (tysOf ca) h (LaC ca h nl) yJ1_indexOf_4cfef cJ1_indexOf_4cfef 4 (some .int) 1 27 [.ref (E.2.1 s1), .int a2, .int a3, .int a4] M (some (.int r0)) M := by
  refine Ct.mk [some (.ref (E.2.1 s1)), some (.int a2), some (.int a3), some (.int a4)] (by decide) (Nat.le_of_ble_eq_true rfl) (argsV [.ref (E.2.1 s1), .int a2, .int a3, .int a4] 0 rfl rfl) ?_
  intro x hx0 K hR
  have K : Kx x E D (tysOf ca) h (LaC ca h nl) RJ1 cJ1_indexOf_4cfef 4 1 27 := K
  rw [f_J1_indexOf_4cfef] at hf
  refine o_iload_n K 1 dJ1_indexOf_4cfef_0 rfl rfl ?_
  obtain ⟨r1, er1, hf⟩ := bd_e hf
  refine o_callS K [.int a2] (k_J1_canEncode_9a6ad x.2.1 E D ca h nl M a2 er1) s_J1_88 rfl ⟨by decide, by decide⟩ (Nat.le_of_ble_eq_true rfl) _ rfl dJ1_indexOf_4cfef_1 ?_
  show Go x D (tysOf ca) h (LaC ca h nl) 4 M 4 [some (.ref (E.2.1 s1)), some (.int a2), some (.int a3), some (.int a4)] [.int r1]
  refine o_if_ne K 9 dJ1_indexOf_4cfef_4 (by decide) (fun c2 => ?_) (fun c2 => ?_)
  · have hf := im c2 hf
    refine o_iload_n K 2 dJ1_indexOf_4cfef_9 rfl rfl ?_
    refine o_iconst K 0 dJ1_indexOf_4cfef_10 (by decide) ?_
    refine o_mmax K q776 q113 q6 q114 ⟨by decide, by decide⟩ (Nat.le_of_ble_eq_true rfl) dJ1_indexOf_4cfef_11 ?_
    obtain ⟨x3, ex3, hf⟩ := nm_o hf
    refine o_nmi ex3 ?_
    refine o_istore_n K 2 [some (.ref (E.2.1 s1)), some (.int a2), some (.int x3), some (.int a4)] dJ1_indexOf_4cfef_14 rfl (by decide) rfl rfl ?_
    refine o_iload_n K 3 dJ1_indexOf_4cfef_15 rfl rfl ?_
    refine o_aload_n K 0 dJ1_indexOf_4cfef_16 rfl rfl ?_
    refine o_slen K hs1 dJ1_indexOf_4cfef_17 ?_
    refine o_mmin K q777 q110 q6 q111 ⟨by decide, by decide⟩ (Nat.le_of_ble_eq_true rfl) dJ1_indexOf_4cfef_18 ?_
    obtain ⟨x4, ex4, hf⟩ := nm_o hf
    refine o_nmi ex4 ?_
    refine o_istore_n K 3 [some (.ref (E.2.1 s1)), some (.int a2), some (.int x3), some (.int x4)] dJ1_indexOf_4cfef_21 rfl (by decide) rfl rfl ?_
    refine o_iload_n K 2 dJ1_indexOf_4cfef_22 rfl rfl ?_
    refine o_iload_n K 3 dJ1_indexOf_4cfef_23 rfl rfl ?_
    refine o_icmp_lt K 29 dJ1_indexOf_4cfef_24 (by decide) (fun c5 => ?_) (fun c5 => ?_)
    · have hf := ip c5 hf
      refine o_aload_n K 0 dJ1_indexOf_4cfef_29 rfl rfl ?_
      refine o_iload_n K 1 dJ1_indexOf_4cfef_30 rfl rfl ?_
      refine o_iload_n K 2 dJ1_indexOf_4cfef_31 rfl rfl ?_
      refine o_iload_n K 3 dJ1_indexOf_4cfef_32 rfl rfl ?_
      obtain ⟨r6, er6, hf⟩ := bd_e hf
      refine o_callS K [.ref (E.2.1 s1), .int a2, .int x3, .int x4] (k_J1_indexOfChar_4cfef x.2.1 E D ca h nl M s1 a2 x3 x4 hs1 er6) s_J1_95 rfl ⟨by decide, by decide⟩ (Nat.le_of_ble_eq_true rfl) _ rfl dJ1_indexOf_4cfef_33 ?_
      show Go x D (tysOf ca) h (LaC ca h nl) 4 M 36 [some (.ref (E.2.1 s1)), some (.int a2), some (.int x3), some (.int x4)] [.int r6]
      exact r_iret K hf hR dJ1_indexOf_4cfef_36
    · have hf := im c5 hf
      refine o_iconst K (-1) dJ1_indexOf_4cfef_27 (by decide) ?_
      exact r_iret K hf hR dJ1_indexOf_4cfef_28
  · have hf := ip c2 hf
    refine o_iconst K (-1) dJ1_indexOf_4cfef_7 (by decide) ?_
    exact r_iret K hf hR dJ1_indexOf_4cfef_8
def f_J0_indexOf_7cf53 (s : Nat) (M : Mem) (a1 : Int32) (a2 : Int32) : Option Int32 := bd (f_J0_isLatin1_aae02 s M) fun r1 => if r1 = 0 then (none) else bd (f_J0_length_8abf5 s M) fun r4 => bd (f_J1_indexOf_4cfef s M a1 a2 r4) fun r5 => some (r5)
set_option maxHeartbeats 4000000 in
set_option maxRecDepth 100000 in
theorem k_J0_indexOf_7cf53 (l : Launch) (E : Amd) (D : va_G) (ca : Nat → ClassId) (h : Nat → Nat) (nl : Nat) (M : Mem) (s : Nat) (a1 : Int32) (a2 : Int32) {r0 : Int32} (hs : s < 17) (hf : f_J0_indexOf_7cf53 s M a1 a2 = some r0) : Ct l E D (tysOf ca) h (LaC ca h nl) yJ0_indexOf_7cf53 cJ0_indexOf_7cf53 3 (some .int) 2 50 [.ref (E.1 s), .int a1, .int a2] M (some (.int r0)) M := by
  refine Ct.mk [some (.ref (E.1 s)), some (.int a1), some (.int a2)] (by decide) (Nat.le_of_ble_eq_true rfl) (argsV [.ref (E.1 s), .int a1, .int a2] 0 rfl rfl) ?_
  intro x hx0 K hR
  have K : Kx x E D (tysOf ca) h (LaC ca h nl) RJ0 cJ0_indexOf_7cf53 3 2 50 := K
  rw [f_J0_indexOf_7cf53] at hf
  refine o_aload_n K 0 dJ0_indexOf_7cf53_0 rfl rfl ?_
  obtain ⟨r1, er1, hf⟩ := bd_e hf
  refine o_callVs K [] (k_J0_isLatin1_aae02 x.2.1 E D ca h nl M s hs er1) s_J0_492 hs rfl rfl ⟨by decide, by decide⟩ (Nat.le_of_ble_eq_true rfl) _ rfl dJ0_indexOf_7cf53_1 ?_
  show Go x D (tysOf ca) h (LaC ca h nl) 3 M 4 [some (.ref (E.1 s)), some (.int a1), some (.int a2)] [.int r1]
  refine o_if_eq K 23 dJ0_indexOf_7cf53_4 (by decide) (fun c2 => ?_) (fun c2 => ?_)
  · have hf := ip c2 hf
    cases hf
  · have hf := im c2 hf
    refine o_aload_n K 0 dJ0_indexOf_7cf53_7 rfl rfl ?_
    refine o_sval K hs q1442 dJ0_indexOf_7cf53_8 ?_
    refine o_iload_n K 1 dJ0_indexOf_7cf53_11 rfl rfl ?_
    refine o_iload_n K 2 dJ0_indexOf_7cf53_12 rfl rfl ?_
    refine o_aload_n K 0 dJ0_indexOf_7cf53_13 rfl rfl ?_
    obtain ⟨r4, er4, hf⟩ := bd_e hf
    refine o_callVs K [] (k_J0_length_8abf5 x.2.1 E D ca h nl M s hs er4) s_J0_505 hs rfl rfl ⟨by decide, by decide⟩ (Nat.le_of_ble_eq_true rfl) _ rfl dJ0_indexOf_7cf53_14 ?_
    show Go x D (tysOf ca) h (LaC ca h nl) 3 M 17 [some (.ref (E.1 s)), some (.int a1), some (.int a2)] [.int r4, .int a2, .int a1, .ref (E.2.1 s)]
    obtain ⟨r5, er5, hf⟩ := bd_e hf
    refine o_callS K [.ref (E.2.1 s), .int a1, .int a2, .int r4] (k_J1_indexOf_4cfef x.2.1 E D ca h nl M s a1 a2 r4 hs er5) s_J0_637 rfl ⟨by decide, by decide⟩ (Nat.le_of_ble_eq_true rfl) _ rfl dJ0_indexOf_7cf53_17 ?_
    show Go x D (tysOf ca) h (LaC ca h nl) 3 M 20 [some (.ref (E.1 s)), some (.int a1), some (.int a2)] [.int r5]
    refine o_goto K 36 dJ0_indexOf_7cf53_20 (by decide) ?_
    exact r_iret K hf hR dJ0_indexOf_7cf53_36
def f_J0_indexOf_0f7a4 (s : Nat) (M : Mem) (a1 : Int32) : Option Int32 := bd (f_J0_indexOf_7cf53 s M a1 (0 : Int32)) fun r1 => some (r1)
set_option maxHeartbeats 4000000 in
set_option maxRecDepth 100000 in
theorem k_J0_indexOf_0f7a4 (l : Launch) (E : Amd) (D : va_G) (ca : Nat → ClassId) (h : Nat → Nat) (nl : Nat) (M : Mem) (s : Nat) (a1 : Int32) {r0 : Int32} (hs : s < 17) (hf : f_J0_indexOf_0f7a4 s M a1 = some r0) : Ct l E D (tysOf ca) h (LaC ca h nl) yJ0_indexOf_0f7a4 cJ0_indexOf_0f7a4 2 (some .int) 3 72 [.ref (E.1 s), .int a1] M (some (.int r0)) M := by
  refine Ct.mk [some (.ref (E.1 s)), some (.int a1)] (by decide) (Nat.le_of_ble_eq_true rfl) (argsV [.ref (E.1 s), .int a1] 0 rfl rfl) ?_
  intro x hx0 K hR
  have K : Kx x E D (tysOf ca) h (LaC ca h nl) RJ0 cJ0_indexOf_0f7a4 2 3 72 := K
  rw [f_J0_indexOf_0f7a4] at hf
  refine o_aload_n K 0 dJ0_indexOf_0f7a4_0 rfl rfl ?_
  refine o_iload_n K 1 dJ0_indexOf_0f7a4_1 rfl rfl ?_
  refine o_iconst K 0 dJ0_indexOf_0f7a4_2 (by decide) ?_
  obtain ⟨r1, er1, hf⟩ := bd_e hf
  refine o_callVs K [.int a1, .int 0] (k_J0_indexOf_7cf53 x.2.1 E D ca h nl M s a1 (0 : Int32) hs er1) s_J0_633 hs rfl rfl ⟨by decide, by decide⟩ (Nat.le_of_ble_eq_true rfl) _ rfl dJ0_indexOf_0f7a4_3 ?_
  show Go x D (tysOf ca) h (LaC ca h nl) 2 M 6 [some (.ref (E.1 s)), some (.int a1)] [.int r1]
  exact r_iret K hf hR dJ0_indexOf_0f7a4_6
def f_X0_takeFrom (b : Nat) (b1 : Nat) (M : Mem) : Option Mem := nm (sto M (HB b + 1) 0 (M (HB b1 + 1) 0)) fun M1 => nm (sto M1 (HB b + 1) 1 (M1 (HB b1 + 1) 1)) fun M2 => cp M2 (HB b1 + 2) 10 0 (HB b + 2) 10 0 10 fun M3 => cp M3 (HB b1 + 3) 10 0 (HB b + 3) 10 0 10 fun M5 => cp M5 (HB b1 + 4) 10 0 (HB b + 4) 10 0 10 fun M7 => cp M7 (HB b1 + 5) 10 0 (HB b + 5) 10 0 10 fun M9 => some M9
set_option maxHeartbeats 4000000 in
set_option maxRecDepth 100000 in
theorem k_X0_takeFrom (l : Launch) (E : Amd) (D : va_G) (ca : Nat → ClassId) (h : Nat → Nat) (nl : Nat) (M : Mem) (b : Nat) (b1 : Nat) {Mo : Mem} (hb : b < 3) (hb1 : b1 < 3) (hf : f_X0_takeFrom b b1 M = some Mo) : Ct l E D (tysOf ca) h (LaC ca h nl) yX0_takeFrom cX0_takeFrom 2 none 1 27 [.ref (h (HB b + 1)), .ref (h (HB b1 + 1))] M none Mo := by
  refine Ct.mk [some (.ref (h (HB b + 1))), some (.ref (h (HB b1 + 1)))] (by decide) (Nat.le_of_ble_eq_true rfl) (argsV [.ref (h (HB b + 1)), .ref (h (HB b1 + 1))] 0 rfl rfl) ?_
  intro x hx0 K hR
  have K : Kx x E D (tysOf ca) h (LaC ca h nl) RX0 cX0_takeFrom 2 1 27 := K
  rw [f_X0_takeFrom] at hf
  refine o_aload_n K 0 dX0_takeFrom_0 rfl rfl ?_
  refine o_aload_n K 1 dX0_takeFrom_1 rfl rfl ?_
  refine gC_X0_22 hb1 K dX0_takeFrom_2 ?_
  obtain ⟨M1, eM1, hf⟩ := nm_o hf
  refine pC_X0_22 hb K dX0_takeFrom_5 ?_
  refine o_nmM eM1 ?_
  refine o_aload_n K 0 dX0_takeFrom_8 rfl rfl ?_
  refine o_aload_n K 1 dX0_takeFrom_9 rfl rfl ?_
  refine gC_X0_26 hb1 K dX0_takeFrom_10 ?_
  obtain ⟨M2, eM2, hf⟩ := nm_o hf
  refine pC_X0_26 hb K dX0_takeFrom_13 ?_
  refine o_nmM eM2 ?_
  refine o_aload_n K 1 dX0_takeFrom_16 rfl rfl ?_
  refine gC_X0_9 hb1 K dX0_takeFrom_17 ?_
  refine o_iconst K 0 dX0_takeFrom_20 (by decide) ?_
  refine o_aload_n K 0 dX0_takeFrom_21 rfl rfl ?_
  refine gC_X0_9 hb K dX0_takeFrom_22 ?_
  refine o_iconst K 0 dX0_takeFrom_25 (by decide) ?_
  refine o_bipush K 10 dX0_takeFrom_26 (by decide) ?_
  obtain ⟨g4, M3, eM3, hf⟩ := cp_e hf
  refine o_copy K 0 0 (ltC (ltB hb1 (show 2 < 17 by decide))) ((fun r => c_hall hb1 2 (by decide) r) _) (ltC (ltB hb (show 2 < 17 by decide))) (fun r => c_hall hb 2 (by decide) r) rfl rfl q527 q470 q469 q15 g4 ⟨by decide, by decide⟩ (Nat.le_of_ble_eq_true rfl) dX0_takeFrom_28 ?_
  refine o_nmM eM3 ?_
  refine o_aload_n K 1 dX0_takeFrom_31 rfl rfl ?_
  refine gC_X0_13 hb1 K dX0_takeFrom_32 ?_
  refine o_iconst K 0 dX0_takeFrom_35 (by decide) ?_
  refine o_aload_n K 0 dX0_takeFrom_36 rfl rfl ?_
  refine gC_X0_13 hb K dX0_takeFrom_37 ?_
  refine o_iconst K 0 dX0_takeFrom_40 (by decide) ?_
  refine o_bipush K 10 dX0_takeFrom_41 (by decide) ?_
  obtain ⟨g6, M5, eM5, hf⟩ := cp_e hf
  refine o_copy K 0 0 (ltC (ltB hb1 (show 3 < 17 by decide))) ((fun r => c_hall hb1 3 (by decide) r) _) (ltC (ltB hb (show 3 < 17 by decide))) (fun r => c_hall hb 3 (by decide) r) rfl rfl q527 q470 q469 q15 g6 ⟨by decide, by decide⟩ (Nat.le_of_ble_eq_true rfl) dX0_takeFrom_43 ?_
  refine o_nmM eM5 ?_
  refine o_aload_n K 1 dX0_takeFrom_46 rfl rfl ?_
  refine gC_X0_16 hb1 K dX0_takeFrom_47 ?_
  refine o_iconst K 0 dX0_takeFrom_50 (by decide) ?_
  refine o_aload_n K 0 dX0_takeFrom_51 rfl rfl ?_
  refine gC_X0_16 hb K dX0_takeFrom_52 ?_
  refine o_iconst K 0 dX0_takeFrom_55 (by decide) ?_
  refine o_bipush K 10 dX0_takeFrom_56 (by decide) ?_
  obtain ⟨g8, M7, eM7, hf⟩ := cp_e hf
  refine o_copy K 0 0 (ltC (ltB hb1 (show 4 < 17 by decide))) ((fun r => c_hall hb1 4 (by decide) r) _) (ltC (ltB hb (show 4 < 17 by decide))) (fun r => c_hall hb 4 (by decide) r) rfl rfl q527 q470 q469 q15 g8 ⟨by decide, by decide⟩ (Nat.le_of_ble_eq_true rfl) dX0_takeFrom_58 ?_
  refine o_nmM eM7 ?_
  refine o_aload_n K 1 dX0_takeFrom_61 rfl rfl ?_
  refine gC_X0_19 hb1 K dX0_takeFrom_62 ?_
  refine o_iconst K 0 dX0_takeFrom_65 (by decide) ?_
  refine o_aload_n K 0 dX0_takeFrom_66 rfl rfl ?_
  refine gC_X0_19 hb K dX0_takeFrom_67 ?_
  refine o_iconst K 0 dX0_takeFrom_70 (by decide) ?_
  refine o_bipush K 10 dX0_takeFrom_71 (by decide) ?_
  obtain ⟨g10, M9, eM9, hf⟩ := cp_e hf
  refine o_copy K 0 0 (ltC (ltB hb1 (show 5 < 17 by decide))) ((fun r => c_hall hb1 5 (by decide) r) _) (ltC (ltB hb (show 5 < 17 by decide))) (fun r => c_hall hb 5 (by decide) r) rfl rfl q527 q470 q469 q15 g10 ⟨by decide, by decide⟩ (Nat.le_of_ble_eq_true rfl) dX0_takeFrom_73 ?_
  refine o_nmM eM9 ?_
  exact e_vret K hf hR dX0_takeFrom_76
def f_X0_add (b : Nat) (M : Mem) (a1 : Int32) (a2 : Int32) (a3 : Int32) (a4 : Int32) : Option (Int32 × Mem) := nm (M (HB b + 1) 0 : Int32) fun x1 => wr M (HB b + 2) 10 x1 a1 fun M3 => wr M3 (HB b + 3) 10 x1 a2 fun M5 => wr M5 (HB b + 4) 10 x1 a3 fun M7 => wr M7 (HB b + 5) 10 x1 a4 fun M9 => nm (sto M9 (HB b + 1) 0 ((M9 (HB b + 1) 0) + 1)) fun M10 => some (x1, M10)
set_option maxHeartbeats 4000000 in
set_option maxRecDepth 100000 in
theorem k_X0_add (l : Launch) (E : Amd) (D : va_G) (ca : Nat → ClassId) (h : Nat → Nat) (nl : Nat) (M : Mem) (b : Nat) (a1 : Int32) (a2 : Int32) (a3 : Int32) (a4 : Int32) {r0 : Int32} {Mo : Mem} (hb : b < 3) (hf : f_X0_add b M a1 a2 a3 a4 = some (r0, Mo)) : Ct l E D (tysOf ca) h (LaC ca h nl) yX0_add cX0_add 6 (some .int) 0 0 [.ref (h (HB b + 1)), .int a1, .int a2, .int a3, .int a4] M (some (.int r0)) Mo := by
  refine Ct.mk [some (.ref (h (HB b + 1))), some (.int a1), some (.int a2), some (.int a3), some (.int a4), none] (by decide) (Nat.le_of_ble_eq_true rfl) (argsV [.ref (h (HB b + 1)), .int a1, .int a2, .int a3, .int a4] 1 rfl rfl) ?_
  intro x hx0 K hR
  have K : Kx x E D (tysOf ca) h (LaC ca h nl) RX0 cX0_add 6 0 0 := K
  rw [f_X0_add] at hf
  refine o_aload_n K 0 dX0_add_0 rfl rfl ?_
  refine gC_X0_22 hb K dX0_add_1 ?_
  obtain ⟨x1, ex1, hf⟩ := nm_o hf
  refine o_nmi ex1 ?_
  refine o_istore K 5 [some (.ref (h (HB b + 1))), some (.int a1), some (.int a2), some (.int a3), some (.int a4), some (.int x1)] dX0_add_4 (by decide) rfl rfl ?_
  refine o_aload_n K 0 dX0_add_6 rfl rfl ?_
  refine gC_X0_9 hb K dX0_add_7 ?_
  refine o_iload K 5 dX0_add_10 rfl ?_
  refine o_iload_n K 1 dX0_add_12 rfl rfl ?_
  obtain ⟨g2, M3, eM3, hf⟩ := wr_e hf
  refine sCh hb 2 10 (by decide) (fun _ => rfl) K g2 dX0_add_13 ?_
  refine o_nmM eM3 ?_
  refine o_aload_n K 0 dX0_add_14 rfl rfl ?_
  refine gC_X0_13 hb K dX0_add_15 ?_
  refine o_iload K 5 dX0_add_18 rfl ?_
  refine o_iload_n K 2 dX0_add_20 rfl rfl ?_
  obtain ⟨g4, M5, eM5, hf⟩ := wr_e hf
  refine sCh hb 3 10 (by decide) (fun _ => rfl) K g4 dX0_add_21 ?_
  refine o_nmM eM5 ?_
  refine o_aload_n K 0 dX0_add_22 rfl rfl ?_
  refine gC_X0_16 hb K dX0_add_23 ?_
  refine o_iload K 5 dX0_add_26 rfl ?_
  refine o_iload_n K 3 dX0_add_28 rfl rfl ?_
  obtain ⟨g6, M7, eM7, hf⟩ := wr_e hf
  refine sCh hb 4 10 (by decide) (fun _ => rfl) K g6 dX0_add_29 ?_
  refine o_nmM eM7 ?_
  refine o_aload_n K 0 dX0_add_30 rfl rfl ?_
  refine gC_X0_19 hb K dX0_add_31 ?_
  refine o_iload K 5 dX0_add_34 rfl ?_
  refine o_iload K 4 dX0_add_36 rfl ?_
  obtain ⟨g8, M9, eM9, hf⟩ := wr_e hf
  refine sCh hb 5 10 (by decide) (fun _ => rfl) K g8 dX0_add_38 ?_
  refine o_nmM eM9 ?_
  refine o_aload_n K 0 dX0_add_39 rfl rfl ?_
  refine o_dup K dX0_add_40 rfl ?_
  refine gC_X0_22 hb K dX0_add_41 ?_
  refine o_iconst K 1 dX0_add_44 (by decide) ?_
  refine o_iadd K dX0_add_45 ?_
  obtain ⟨M10, eM10, hf⟩ := nm_o hf
  refine pC_X0_22 hb K dX0_add_46 ?_
  refine o_nmM eM10 ?_
  refine o_iload K 5 dX0_add_49 rfl ?_
  exact e_iret K hf hR dX0_add_51
def f_X9_isWithin (a1 : Int32) (a2 : Int32) (a3 : Int32) : Option Int32 := if a1 < a2 then (some ((0 : Int32))) else if a3 < a1 then (some ((0 : Int32))) else some ((1 : Int32))
set_option maxHeartbeats 4000000 in
set_option maxRecDepth 100000 in
theorem k_X9_isWithin (l : Launch) (E : Amd) (D : va_G) (ca : Nat → ClassId) (h : Nat → Nat) (nl : Nat) (M : Mem) (a1 : Int32) (a2 : Int32) (a3 : Int32) {r0 : Int32} (hf : f_X9_isWithin a1 a2 a3 = some r0) : Ct l E D (tysOf ca) h (LaC ca h nl) yX9_isWithin cX9_isWithin 3 (some .boolean) 0 0 [.int a1, .int a2, .int a3] M (some (.int r0)) M := by
  refine Ct.mk [some (.int a1), some (.int a2), some (.int a3)] (by decide) (Nat.le_of_ble_eq_true rfl) (argsV [.int a1, .int a2, .int a3] 0 rfl rfl) ?_
  intro x hx0 K hR
  have K : Kx x E D (tysOf ca) h (LaC ca h nl) RX9 cX9_isWithin 3 0 0 := K
  rw [f_X9_isWithin] at hf
  refine o_iload_n K 0 dX9_isWithin_0 rfl rfl ?_
  refine o_iload_n K 1 dX9_isWithin_1 rfl rfl ?_
  refine o_icmp_lt K 14 dX9_isWithin_2 (by decide) (fun c1 => ?_) (fun c1 => ?_)
  · have hf := ip c1 hf
    refine o_iconst K 0 dX9_isWithin_14 (by decide) ?_
    exact r_zret K hf hR (by decide) dX9_isWithin_15
  · have hf := im c1 hf
    refine o_iload_n K 0 dX9_isWithin_5 rfl rfl ?_
    refine o_iload_n K 2 dX9_isWithin_6 rfl rfl ?_
    refine o_icmp_gt K 14 dX9_isWithin_7 (by decide) (fun c2 => ?_) (fun c2 => ?_)
    · have hf := ip c2 hf
      refine o_iconst K 0 dX9_isWithin_14 (by decide) ?_
      exact r_zret K hf hR (by decide) dX9_isWithin_15
    · have hf := im c2 hf
      refine o_iconst K 1 dX9_isWithin_10 (by decide) ?_
      refine o_goto K 15 dX9_isWithin_11 (by decide) ?_
      exact r_zret K hf hR (by decide) dX9_isWithin_15
def f_X0_has (b : Nat) (M : Mem) (a1 : Int32) : Option Int32 := bd (f_X9_isWithin a1 (0 : Int32) ((M (HB b + 1) 0) - 1)) fun r1 => gd (bz r1) <| some (r1)
set_option maxHeartbeats 4000000 in
set_option maxRecDepth 100000 in
theorem k_X0_has (l : Launch) (E : Amd) (D : va_G) (ca : Nat → ClassId) (h : Nat → Nat) (nl : Nat) (M : Mem) (b : Nat) (a1 : Int32) {r0 : Int32} (hb : b < 3) (hf : f_X0_has b M a1 = some r0) : Ct l E D (tysOf ca) h (LaC ca h nl) yX0_has cX0_has 2 (some .boolean) 1 22 [.ref (h (HB b + 1)), .int a1] M (some (.int r0)) M := by
  refine Ct.mk [some (.ref (h (HB b + 1))), some (.int a1)] (by decide) (Nat.le_of_ble_eq_true rfl) (argsV [.ref (h (HB b + 1)), .int a1] 0 rfl rfl) ?_
  intro x hx0 K hR
  have K : Kx x E D (tysOf ca) h (LaC ca h nl) RX0 cX0_has 2 1 22 := K
  rw [f_X0_has] at hf
  refine o_iload_n K 1 dX0_has_0 rfl rfl ?_
  refine o_iconst K 0 dX0_has_1 (by decide) ?_
  refine o_aload_n K 0 dX0_has_2 rfl rfl ?_
  refine gC_X0_22 hb K dX0_has_3 ?_
  refine o_iconst K 1 dX0_has_6 (by decide) ?_
  refine o_isub K dX0_has_7 ?_
  obtain ⟨r1, er1, hf⟩ := bd_e hf
  refine o_callSN K [.int a1, .int 0, .int ((M (HB b + 1) 0) - 1)] (k_X9_isWithin x.2.1 E D ca h nl M a1 (0 : Int32) ((M (HB b + 1) 0) - 1) er1) s_X0_35 rfl ⟨by decide, by decide⟩ (Nat.le_of_ble_eq_true rfl) _ rfl dX0_has_8 ?_
  show Go x D (tysOf ca) h (LaC ca h nl) 2 M 11 [some (.ref (h (HB b + 1))), some (.int a1)] [.int r1]
  obtain ⟨g2, hf⟩ := gd_e hf
  exact r_zret K hf hR g2 dX0_has_11
def f_X0_isOpen (b : Nat) (M : Mem) (a1 : Int32) : Option Int32 := if (((M (HB b + 1) 1) >>> (a1 &&& 31)) &&& 1) = 1 then (some ((1 : Int32))) else some ((0 : Int32))
set_option maxHeartbeats 4000000 in
set_option maxRecDepth 100000 in
theorem k_X0_isOpen (l : Launch) (E : Amd) (D : va_G) (ca : Nat → ClassId) (h : Nat → Nat) (nl : Nat) (M : Mem) (b : Nat) (a1 : Int32) {r0 : Int32} (hb : b < 3) (hf : f_X0_isOpen b M a1 = some r0) : Ct l E D (tysOf ca) h (LaC ca h nl) yX0_isOpen cX0_isOpen 2 (some .boolean) 0 0 [.ref (h (HB b + 1)), .int a1] M (some (.int r0)) M := by
  refine Ct.mk [some (.ref (h (HB b + 1))), some (.int a1)] (by decide) (Nat.le_of_ble_eq_true rfl) (argsV [.ref (h (HB b + 1)), .int a1] 0 rfl rfl) ?_
  intro x hx0 K hR
  have K : Kx x E D (tysOf ca) h (LaC ca h nl) RX0 cX0_isOpen 2 0 0 := K
  rw [f_X0_isOpen] at hf
  refine o_aload_n K 0 dX0_isOpen_0 rfl rfl ?_
  refine gC_X0_26 hb K dX0_isOpen_1 ?_
  refine o_iload_n K 1 dX0_isOpen_4 rfl rfl ?_
  refine o_ishr K dX0_isOpen_5 ?_
  refine o_iconst K 1 dX0_isOpen_6 (by decide) ?_
  refine o_iand K dX0_isOpen_7 ?_
  refine o_iconst K 1 dX0_isOpen_8 (by decide) ?_
  refine o_icmp_ne K 16 dX0_isOpen_9 (by decide) (fun c1 => ?_) (fun c1 => ?_)
  · have hf := im c1 hf
    refine o_iconst K 0 dX0_isOpen_16 (by decide) ?_
    exact r_zret K hf hR (by decide) dX0_isOpen_17
  · have hf := ip c1 hf
    refine o_iconst K 1 dX0_isOpen_12 (by decide) ?_
    refine o_goto K 17 dX0_isOpen_13 (by decide) ?_
    exact r_zret K hf hR (by decide) dX0_isOpen_17
def f_X0_swing (b : Nat) (M : Mem) (a1 : Int32) (a2 : Int32) : Option Mem := if a2 = 0 then (nm (sto M (HB b + 1) 1 ((M (HB b + 1) 1) &&& (((1 : Int32) <<< (a1 &&& 31)) ^^^ (-1)))) fun M2 => some M2) else nm (sto M (HB b + 1) 1 ((M (HB b + 1) 1) ||| ((1 : Int32) <<< (a1 &&& 31)))) fun M3 => some M3
set_option maxHeartbeats 4000000 in
set_option maxRecDepth 100000 in
theorem k_X0_swing (l : Launch) (E : Amd) (D : va_G) (ca : Nat → ClassId) (h : Nat → Nat) (nl : Nat) (M : Mem) (b : Nat) (a1 : Int32) (a2 : Int32) {Mo : Mem} (hb : b < 3) (hf : f_X0_swing b M a1 a2 = some Mo) : Ct l E D (tysOf ca) h (LaC ca h nl) yX0_swing cX0_swing 3 none 0 0 [.ref (h (HB b + 1)), .int a1, .int a2] M none Mo := by
  refine Ct.mk [some (.ref (h (HB b + 1))), some (.int a1), some (.int a2)] (by decide) (Nat.le_of_ble_eq_true rfl) (argsV [.ref (h (HB b + 1)), .int a1, .int a2] 0 rfl rfl) ?_
  intro x hx0 K hR
  have K : Kx x E D (tysOf ca) h (LaC ca h nl) RX0 cX0_swing 3 0 0 := K
  rw [f_X0_swing] at hf
  refine o_aload_n K 0 dX0_swing_0 rfl rfl ?_
  refine o_iload_n K 2 dX0_swing_1 rfl rfl ?_
  refine o_if_eq K 16 dX0_swing_2 (by decide) (fun c1 => ?_) (fun c1 => ?_)
  · have hf := ip c1 hf
    refine o_aload_n K 0 dX0_swing_16 rfl rfl ?_
    refine gC_X0_26 hb K dX0_swing_17 ?_
    refine o_iconst K 1 dX0_swing_20 (by decide) ?_
    refine o_iload_n K 1 dX0_swing_21 rfl rfl ?_
    refine o_ishl K dX0_swing_22 ?_
    refine o_iconst K (-1) dX0_swing_23 (by decide) ?_
    refine o_ixor K dX0_swing_24 ?_
    refine o_iand K dX0_swing_25 ?_
    obtain ⟨M2, eM2, hf⟩ := nm_o hf
    refine pC_X0_26 hb K dX0_swing_26 ?_
    refine o_nmM eM2 ?_
    exact e_vret K hf hR dX0_swing_29
  · have hf := im c1 hf
    refine o_aload_n K 0 dX0_swing_5 rfl rfl ?_
    refine gC_X0_26 hb K dX0_swing_6 ?_
    refine o_iconst K 1 dX0_swing_9 (by decide) ?_
    refine o_iload_n K 1 dX0_swing_10 rfl rfl ?_
    refine o_ishl K dX0_swing_11 ?_
    refine o_ior K dX0_swing_12 ?_
    refine o_goto K 26 dX0_swing_13 (by decide) ?_
    obtain ⟨M3, eM3, hf⟩ := nm_o hf
    refine pC_X0_26 hb K dX0_swing_26 ?_
    refine o_nmM eM3 ?_
    exact e_vret K hf hR dX0_swing_29
def f_X0_openMany (b : Nat) (M : Mem) : Option Int32 := bd (f_J6_bitCount_0f7a4 (M (HB b + 1) 1)) fun r1 => some (r1)
set_option maxHeartbeats 4000000 in
set_option maxRecDepth 100000 in
theorem k_X0_openMany (l : Launch) (E : Amd) (D : va_G) (ca : Nat → ClassId) (h : Nat → Nat) (nl : Nat) (M : Mem) (b : Nat) {r0 : Int32} (hb : b < 3) (hf : f_X0_openMany b M = some r0) : Ct l E D (tysOf ca) h (LaC ca h nl) yX0_openMany cX0_openMany 1 (some .int) 1 20 [.ref (h (HB b + 1))] M (some (.int r0)) M := by
  refine Ct.mk [some (.ref (h (HB b + 1)))] (by decide) (Nat.le_of_ble_eq_true rfl) (argsV [.ref (h (HB b + 1))] 0 rfl rfl) ?_
  intro x hx0 K hR
  have K : Kx x E D (tysOf ca) h (LaC ca h nl) RX0 cX0_openMany 1 1 20 := K
  rw [f_X0_openMany] at hf
  refine o_aload_n K 0 dX0_openMany_0 rfl rfl ?_
  refine gC_X0_26 hb K dX0_openMany_1 ?_
  obtain ⟨r1, er1, hf⟩ := bd_e hf
  refine o_callS K [.int (M (HB b + 1) 1)] (k_J6_bitCount_0f7a4 x.2.1 E D ca h nl M (M (HB b + 1) 1) er1) s_X0_41 rfl ⟨by decide, by decide⟩ (Nat.le_of_ble_eq_true rfl) _ rfl dX0_openMany_4 ?_
  show Go x D (tysOf ca) h (LaC ca h nl) 1 M 7 [some (.ref (h (HB b + 1)))] [.int r1]
  exact r_iret K hf hR dX0_openMany_7
def f_X5_takeFrom_l10 (nl : Nat) (b : Nat) (b1 : Nat) : Nat → Int32 → Mem → Option Mem
  | 0, _, _ => none
  | n + 1, a0, M => if 14 ≤ a0 then (cp M (HB b1 + 7) 3 0 (HB b + 7) 3 0 3 fun M3 => cp M3 (HB b1 + 9) 120 0 (HB b + 9) 120 0 120 fun M5 => some M5) else rd M (HB b1 + 8) 14 a0 fun x8 => if x8 = 0 then (wr M (HB b + 8) 14 a0 0 fun M13 => nm (a0 + 1 : Int32) fun x14 => f_X5_takeFrom_l10 nl b b1 n x14 M13) else gd (lok nl x8) <| nm (ix x8) fun c11 => wr M (HB b + 8) 14 a0 x8 fun M16 => nm (a0 + 1 : Int32) fun x17 => f_X5_takeFrom_l10 nl b b1 n x17 M16
set_option maxHeartbeats 4000000 in
set_option maxRecDepth 100000 in
theorem t_X5_takeFrom_l10 {x : En} {E : Amd} {D : va_G} {ca : Nat → ClassId} {h : Nat → Nat} {nl : Nat} {b : Nat} {b1 : Nat} (K : Kx x E D (tysOf ca) h (LaC ca h nl) RX5 cX5_takeFrom 3 1 27) {Mo : Mem} (hR : Rt x D h (LaC ca h nl) none none Mo) (hb : b < 3) (hb1 : b1 < 3) : ∀ (n : Nat) (a0 : Int32) (M : Mem), f_X5_takeFrom_l10 nl b b1 n a0 M = some Mo → Go x D (tysOf ca) h (LaC ca h nl) 3 M 10 [some (.ref (h (HB b + 6))), some (.ref (h (HB b1 + 6))), some (.int a0)] [] := by
  intro n
  induction n with
  | zero =>
    intro a0 M hf
    cases hf
  | succ n ih =>
    intro a0 M hf
    rw [f_X5_takeFrom_l10] at hf
    refine o_iload_n K 2 dX5_takeFrom_10 rfl rfl ?_
    refine o_bipush K 14 dX5_takeFrom_11 (by decide) ?_
    refine o_icmp_ge K 34 dX5_takeFrom_13 (by decide) (fun c2 => ?_) (fun c2 => ?_)
    · have hf := ip c2 hf
      refine o_aload_n K 1 dX5_takeFrom_34 rfl rfl ?_
      refine gC_X5_16 hb1 K dX5_takeFrom_35 ?_
      refine o_iconst K 0 dX5_takeFrom_38 (by decide) ?_
      refine o_aload_n K 0 dX5_takeFrom_39 rfl rfl ?_
      refine gC_X5_16 hb K dX5_takeFrom_40 ?_
      refine o_iconst K 0 dX5_takeFrom_43 (by decide) ?_
      refine o_iconst K 3 dX5_takeFrom_44 (by decide) ?_
      obtain ⟨g4, M3, eM3, hf⟩ := cp_e hf
      refine o_copy K 0 0 (ltC (ltB hb1 (show 7 < 17 by decide))) ((fun r => c_hall hb1 7 (by decide) r) _) (ltC (ltB hb (show 7 < 17 by decide))) (fun r => c_hall hb 7 (by decide) r) rfl rfl q532 q470 q469 q15 g4 ⟨by decide, by decide⟩ (Nat.le_of_ble_eq_true rfl) dX5_takeFrom_45 ?_
      refine o_nmM eM3 ?_
      refine o_aload_n K 1 dX5_takeFrom_48 rfl rfl ?_
      refine gC_X5_26 hb1 K dX5_takeFrom_49 ?_
      refine o_iconst K 0 dX5_takeFrom_52 (by decide) ?_
      refine o_aload_n K 0 dX5_takeFrom_53 rfl rfl ?_
      refine gC_X5_26 hb K dX5_takeFrom_54 ?_
      refine o_iconst K 0 dX5_takeFrom_57 (by decide) ?_
      refine o_bipush K 120 dX5_takeFrom_58 (by decide) ?_
      obtain ⟨g6, M5, eM5, hf⟩ := cp_e hf
      refine o_copy K 0 0 (ltC (ltB hb1 (show 9 < 17 by decide))) ((fun r => c_hall hb1 9 (by decide) r) _) (ltC (ltB hb (show 9 < 17 by decide))) (fun r => c_hall hb 9 (by decide) r) rfl rfl q532 q470 q469 q15 g6 ⟨by decide, by decide⟩ (Nat.le_of_ble_eq_true rfl) dX5_takeFrom_60 ?_
      refine o_nmM eM5 ?_
      exact e_vret K hf hR dX5_takeFrom_63
    · have hf := im c2 hf
      refine o_aload_n K 0 dX5_takeFrom_16 rfl rfl ?_
      refine gC_X5_22 hb K dX5_takeFrom_17 ?_
      refine o_iload_n K 2 dX5_takeFrom_20 rfl rfl ?_
      refine o_aload_n K 1 dX5_takeFrom_21 rfl rfl ?_
      refine gC_X5_22 hb1 K dX5_takeFrom_22 ?_
      refine o_iload_n K 2 dX5_takeFrom_25 rfl rfl ?_
      obtain ⟨g7, x8, ex8, hf⟩ := rd_e hf
      refine aLaws hb1 K g7 ex8 dX5_takeFrom_26 ?_
      by_cases c9 : x8 = 0
      · have hf := ip c9 hf
        refine o_unull c9 ?_
        obtain ⟨g12, M13, eM13, hf⟩ := wr_e hf
        refine sLawsN hb K g12 dX5_takeFrom_27 ?_
        refine o_nmM eM13 ?_
        obtain ⟨x14, ex14, hf⟩ := nm_o hf
        refine o_iinc K 2 x14 [some (.ref (h (HB b + 6))), some (.ref (h (HB b1 + 6))), some (.int x14)] dX5_takeFrom_28 rfl (inc_e (by decide) ex14) (by decide) rfl rfl ?_
        refine o_goto K 10 dX5_takeFrom_31 (by decide) ?_
        exact ih x14 M13 hf
      have hf := im c9 hf
      obtain ⟨g10, hf⟩ := gd_e hf
      obtain ⟨c11, ec11, hf⟩ := nm_o hf
      have hc11 := lok_e g10 ec11
      refine o_uref c9 ec11 ?_
      obtain ⟨g15, M16, eM16, hf⟩ := wr_e hf
      refine sLawsX hb hc11 c9 ec11 K g15 dX5_takeFrom_27 ?_
      refine o_nmM eM16 ?_
      obtain ⟨x17, ex17, hf⟩ := nm_o hf
      refine o_iinc K 2 x17 [some (.ref (h (HB b + 6))), some (.ref (h (HB b1 + 6))), some (.int x17)] dX5_takeFrom_28 rfl (inc_e (by decide) ex17) (by decide) rfl rfl ?_
      refine o_goto K 10 dX5_takeFrom_31 (by decide) ?_
      exact ih x17 M16 hf
def f_X5_takeFrom (nl : Nat) (b : Nat) (b1 : Nat) (M : Mem) : Option Mem := nm (sto M (HB b + 6) 0 (M (HB b1 + 6) 0)) fun M1 => f_X5_takeFrom_l10 nl b b1 FU (0 : Int32) M1
set_option maxHeartbeats 4000000 in
set_option maxRecDepth 100000 in
theorem k_X5_takeFrom (l : Launch) (E : Amd) (D : va_G) (ca : Nat → ClassId) (h : Nat → Nat) (nl : Nat) (M : Mem) (b : Nat) (b1 : Nat) {Mo : Mem} (hb : b < 3) (hb1 : b1 < 3) (hf : f_X5_takeFrom nl b b1 M = some Mo) : Ct l E D (tysOf ca) h (LaC ca h nl) yX5_takeFrom cX5_takeFrom 3 none 1 27 [.ref (h (HB b + 6)), .ref (h (HB b1 + 6))] M none Mo := by
  refine Ct.mk [some (.ref (h (HB b + 6))), some (.ref (h (HB b1 + 6))), none] (by decide) (Nat.le_of_ble_eq_true rfl) (argsV [.ref (h (HB b + 6)), .ref (h (HB b1 + 6))] 1 rfl rfl) ?_
  intro x hx0 K hR
  have K : Kx x E D (tysOf ca) h (LaC ca h nl) RX5 cX5_takeFrom 3 1 27 := K
  rw [f_X5_takeFrom] at hf
  refine o_aload_n K 0 dX5_takeFrom_0 rfl rfl ?_
  refine o_aload_n K 1 dX5_takeFrom_1 rfl rfl ?_
  refine gC_X5_35 hb1 K dX5_takeFrom_2 ?_
  obtain ⟨M1, eM1, hf⟩ := nm_o hf
  refine pC_X5_35 hb K dX5_takeFrom_5 ?_
  refine o_nmM eM1 ?_
  refine o_iconst K 0 dX5_takeFrom_8 (by decide) ?_
  refine o_istore_n K 2 [some (.ref (h (HB b + 6))), some (.ref (h (HB b1 + 6))), some (.int 0)] dX5_takeFrom_9 rfl (by decide) rfl rfl ?_
  exact t_X5_takeFrom_l10 K hR hb hb1 FU (0 : Int32) M1 hf
def f_X1_takeAirFrom (b : Nat) (b1 : Nat) (M : Mem) : Option Mem := cp M (HB b1 + 11) 9 0 (HB b + 11) 9 0 9 fun M1 => some M1
set_option maxHeartbeats 4000000 in
set_option maxRecDepth 100000 in
theorem k_X1_takeAirFrom (l : Launch) (E : Amd) (D : va_G) (ca : Nat → ClassId) (h : Nat → Nat) (nl : Nat) (M : Mem) (b : Nat) (b1 : Nat) {Mo : Mem} (hb : b < 3) (hb1 : b1 < 3) (hf : f_X1_takeAirFrom b b1 M = some Mo) : Ct l E D (tysOf ca) h (LaC ca h nl) yX1_takeAirFrom cX1_takeAirFrom 2 none 1 27 [.ref (h (HB b)), .ref (h (HB b1))] M none Mo := by
  refine Ct.mk [some (.ref (h (HB b))), some (.ref (h (HB b1)))] (by decide) (Nat.le_of_ble_eq_true rfl) (argsV [.ref (h (HB b)), .ref (h (HB b1))] 0 rfl rfl) ?_
  intro x hx0 K hR
  have K : Kx x E D (tysOf ca) h (LaC ca h nl) RX1 cX1_takeAirFrom 2 1 27 := K
  rw [f_X1_takeAirFrom] at hf
  refine o_aload_n K 1 dX1_takeAirFrom_0 rfl rfl ?_
  refine gC_X1_25 hb1 K dX1_takeAirFrom_1 ?_
  refine o_iconst K 0 dX1_takeAirFrom_4 (by decide) ?_
  refine o_aload_n K 0 dX1_takeAirFrom_5 rfl rfl ?_
  refine gC_X1_25 hb K dX1_takeAirFrom_6 ?_
  refine o_iconst K 0 dX1_takeAirFrom_9 (by decide) ?_
  refine o_bipush K 9 dX1_takeAirFrom_10 (by decide) ?_
  obtain ⟨g2, M1, eM1, hf⟩ := cp_e hf
  refine o_copy K 0 0 (ltC (ltB hb1 (show 11 < 17 by decide))) ((fun r => c_hall hb1 11 (by decide) r) _) (ltC (ltB hb (show 11 < 17 by decide))) (fun r => c_hall hb 11 (by decide) r) rfl rfl q468 q470 q469 q15 g2 ⟨by decide, by decide⟩ (Nat.le_of_ble_eq_true rfl) dX1_takeAirFrom_12 ?_
  refine o_nmM eM1 ?_
  exact e_vret K hf hR dX1_takeAirFrom_15
def f_X1_takeFrom (nl : Nat) (b : Nat) (b1 : Nat) (M : Mem) : Option Mem := bd (f_X0_takeFrom b b1 M) fun M2 => bd (f_X5_takeFrom nl b b1 M2) fun M4 => bd (f_X1_takeAirFrom b b1 M4) fun M6 => cp M6 (HB b1 + 12) 8 0 (HB b + 12) 8 0 8 fun M7 => cp M7 (HB b1 + 13) 8 0 (HB b + 13) 8 0 8 fun M9 => nm (sto M9 (HB b) 5 (M9 (HB b1) 5)) fun M11 => nm (sto M11 (HB b) 6 (M11 (HB b1) 6)) fun M12 => nm (sto M12 (HB b) 7 (M12 (HB b1) 7)) fun M13 => nm (sto M13 (HB b) 8 (M13 (HB b1) 8)) fun M14 => some M14
set_option maxHeartbeats 4000000 in
set_option maxRecDepth 100000 in
theorem k_X1_takeFrom (l : Launch) (E : Amd) (D : va_G) (ca : Nat → ClassId) (h : Nat → Nat) (nl : Nat) (M : Mem) (b : Nat) (b1 : Nat) {Mo : Mem} (hb : b < 3) (hb1 : b1 < 3) (hf : f_X1_takeFrom nl b b1 M = some Mo) : Ct l E D (tysOf ca) h (LaC ca h nl) yX1_takeFrom cX1_takeFrom 2 none 2 49 [.ref (h (HB b)), .ref (h (HB b1))] M none Mo := by
  refine Ct.mk [some (.ref (h (HB b))), some (.ref (h (HB b1)))] (by decide) (Nat.le_of_ble_eq_true rfl) (argsV [.ref (h (HB b)), .ref (h (HB b1))] 0 rfl rfl) ?_
  intro x hx0 K hR
  have K : Kx x E D (tysOf ca) h (LaC ca h nl) RX1 cX1_takeFrom 2 2 49 := K
  rw [f_X1_takeFrom] at hf
  refine o_aload_n K 0 dX1_takeFrom_0 rfl rfl ?_
  refine gC_X1_12 hb K dX1_takeFrom_1 ?_
  refine o_aload_n K 1 dX1_takeFrom_4 rfl rfl ?_
  refine gC_X1_12 hb1 K dX1_takeFrom_5 ?_
  obtain ⟨M2, er1, hf⟩ := bd_e hf
  refine o_callV K [.ref (h (HB b1 + 1))] (k_X0_takeFrom x.2.1 E D ca h nl M b b1 hb hb1 er1) s_X1_54 (ltDoors hb) (obDoors_c (ca := ca) (h := h) hb _) rfl rfl rfl ⟨by decide, by decide⟩ (Nat.le_of_ble_eq_true rfl) _ rfl dX1_takeFrom_8 ?_
  show Go x D (tysOf ca) h (LaC ca h nl) 2 M2 11 [some (.ref (h (HB b))), some (.ref (h (HB b1)))] []
  refine o_aload_n K 0 dX1_takeFrom_11 rfl rfl ?_
  refine gC_X1_21 hb K dX1_takeFrom_12 ?_
  refine o_aload_n K 1 dX1_takeFrom_15 rfl rfl ?_
  refine gC_X1_21 hb1 K dX1_takeFrom_16 ?_
  obtain ⟨M4, er3, hf⟩ := bd_e hf
  refine o_callV K [.ref (h (HB b1 + 6))] (k_X5_takeFrom x.2.1 E D ca h nl M2 b b1 hb hb1 er3) s_X1_58 (ltLaws hb) (obLaws_c (ca := ca) (h := h) hb _) rfl rfl rfl ⟨by decide, by decide⟩ (Nat.le_of_ble_eq_true rfl) _ rfl dX1_takeFrom_19 ?_
  show Go x D (tysOf ca) h (LaC ca h nl) 2 M4 22 [some (.ref (h (HB b))), some (.ref (h (HB b1)))] []
  refine o_aload_n K 0 dX1_takeFrom_22 rfl rfl ?_
  refine o_aload_n K 1 dX1_takeFrom_23 rfl rfl ?_
  obtain ⟨M6, er5, hf⟩ := bd_e hf
  refine o_callV K [.ref (h (HB b1))] (k_X1_takeAirFrom x.2.1 E D ca h nl M4 b b1 hb hb1 er5) s_X1_61 (ltHall hb) (obHall_c (ca := ca) (h := h) hb _) rfl rfl rfl ⟨by decide, by decide⟩ (Nat.le_of_ble_eq_true rfl) _ rfl dX1_takeFrom_24 ?_
  show Go x D (tysOf ca) h (LaC ca h nl) 2 M6 27 [some (.ref (h (HB b))), some (.ref (h (HB b1)))] []
  refine o_aload_n K 1 dX1_takeFrom_27 rfl rfl ?_
  refine gC_X1_29 hb1 K dX1_takeFrom_28 ?_
  refine o_iconst K 0 dX1_takeFrom_31 (by decide) ?_
  refine o_aload_n K 0 dX1_takeFrom_32 rfl rfl ?_
  refine gC_X1_29 hb K dX1_takeFrom_33 ?_
  refine o_iconst K 0 dX1_takeFrom_36 (by decide) ?_
  refine o_bipush K 8 dX1_takeFrom_37 (by decide) ?_
  obtain ⟨g8, M7, eM7, hf⟩ := cp_e hf
  refine o_copy K 0 0 (ltC (ltB hb1 (show 12 < 17 by decide))) ((fun r => c_hall hb1 12 (by decide) r) _) (ltC (ltB hb (show 12 < 17 by decide))) (fun r => c_hall hb 12 (by decide) r) rfl rfl q468 q470 q469 q15 g8 ⟨by decide, by decide⟩ (Nat.le_of_ble_eq_true rfl) dX1_takeFrom_39 ?_
  refine o_nmM eM7 ?_
  refine o_aload_n K 1 dX1_takeFrom_42 rfl rfl ?_
  refine gC_X1_32 hb1 K dX1_takeFrom_43 ?_
  refine o_iconst K 0 dX1_takeFrom_46 (by decide) ?_
  refine o_aload_n K 0 dX1_takeFrom_47 rfl rfl ?_
  refine gC_X1_32 hb K dX1_takeFrom_48 ?_
  refine o_iconst K 0 dX1_takeFrom_51 (by decide) ?_
  refine o_bipush K 8 dX1_takeFrom_52 (by decide) ?_
  obtain ⟨g10, M9, eM9, hf⟩ := cp_e hf
  refine o_copy K 0 0 (ltC (ltB hb1 (show 13 < 17 by decide))) ((fun r => c_hall hb1 13 (by decide) r) _) (ltC (ltB hb (show 13 < 17 by decide))) (fun r => c_hall hb 13 (by decide) r) rfl rfl q468 q470 q469 q15 g10 ⟨by decide, by decide⟩ (Nat.le_of_ble_eq_true rfl) dX1_takeFrom_54 ?_
  refine o_nmM eM9 ?_
  refine o_aload_n K 0 dX1_takeFrom_57 rfl rfl ?_
  refine o_aload_n K 1 dX1_takeFrom_58 rfl rfl ?_
  refine gC_X1_71 hb1 K dX1_takeFrom_59 ?_
  obtain ⟨M11, eM11, hf⟩ := nm_o hf
  refine pC_X1_71 hb K dX1_takeFrom_62 ?_
  refine o_nmM eM11 ?_
  refine o_aload_n K 0 dX1_takeFrom_65 rfl rfl ?_
  refine o_aload_n K 1 dX1_takeFrom_66 rfl rfl ?_
  refine gC_X1_74 hb1 K dX1_takeFrom_67 ?_
  obtain ⟨M12, eM12, hf⟩ := nm_o hf
  refine pC_X1_74 hb K dX1_takeFrom_70 ?_
  refine o_nmM eM12 ?_
  refine o_aload_n K 0 dX1_takeFrom_73 rfl rfl ?_
  refine o_aload_n K 1 dX1_takeFrom_74 rfl rfl ?_
  refine gC_X1_77 hb1 K dX1_takeFrom_75 ?_
  obtain ⟨M13, eM13, hf⟩ := nm_o hf
  refine pC_X1_77 hb K dX1_takeFrom_78 ?_
  refine o_nmM eM13 ?_
  refine o_aload_n K 0 dX1_takeFrom_81 rfl rfl ?_
  refine o_aload_n K 1 dX1_takeFrom_82 rfl rfl ?_
  refine gC_X1_35 hb1 K dX1_takeFrom_83 ?_
  obtain ⟨M14, eM14, hf⟩ := nm_o hf
  refine pC_X1_35 hb K dX1_takeFrom_86 ?_
  refine o_nmM eM14 ?_
  exact e_vret K hf hR dX1_takeFrom_89
def f_X1_isLit (b : Nat) (M : Mem) (a1 : Int32) : Option Int32 := if (((M (HB b) 5) >>> (a1 &&& 31)) &&& 1) = 1 then (some ((1 : Int32))) else some ((0 : Int32))
set_option maxHeartbeats 4000000 in
set_option maxRecDepth 100000 in
theorem k_X1_isLit (l : Launch) (E : Amd) (D : va_G) (ca : Nat → ClassId) (h : Nat → Nat) (nl : Nat) (M : Mem) (b : Nat) (a1 : Int32) {r0 : Int32} (hb : b < 3) (hf : f_X1_isLit b M a1 = some r0) : Ct l E D (tysOf ca) h (LaC ca h nl) yX1_isLit cX1_isLit 2 (some .boolean) 0 0 [.ref (h (HB b)), .int a1] M (some (.int r0)) M := by
  refine Ct.mk [some (.ref (h (HB b))), some (.int a1)] (by decide) (Nat.le_of_ble_eq_true rfl) (argsV [.ref (h (HB b)), .int a1] 0 rfl rfl) ?_
  intro x hx0 K hR
  have K : Kx x E D (tysOf ca) h (LaC ca h nl) RX1 cX1_isLit 2 0 0 := K
  rw [f_X1_isLit] at hf
  refine o_aload_n K 0 dX1_isLit_0 rfl rfl ?_
  refine gC_X1_71 hb K dX1_isLit_1 ?_
  refine o_iload_n K 1 dX1_isLit_4 rfl rfl ?_
  refine o_ishr K dX1_isLit_5 ?_
  refine o_iconst K 1 dX1_isLit_6 (by decide) ?_
  refine o_iand K dX1_isLit_7 ?_
  refine o_iconst K 1 dX1_isLit_8 (by decide) ?_
  refine o_icmp_ne K 16 dX1_isLit_9 (by decide) (fun c1 => ?_) (fun c1 => ?_)
  · have hf := im c1 hf
    refine o_iconst K 0 dX1_isLit_16 (by decide) ?_
    exact r_zret K hf hR (by decide) dX1_isLit_17
  · have hf := ip c1 hf
    refine o_iconst K 1 dX1_isLit_12 (by decide) ?_
    refine o_goto K 17 dX1_isLit_13 (by decide) ?_
    exact r_zret K hf hR (by decide) dX1_isLit_17
def f_X1_light (b : Nat) (M : Mem) (a1 : Int32) (a2 : Int32) : Option Mem := if a2 = 0 then (nm (sto M (HB b) 5 ((M (HB b) 5) &&& (((1 : Int32) <<< (a1 &&& 31)) ^^^ (-1)))) fun M2 => some M2) else nm (sto M (HB b) 5 ((M (HB b) 5) ||| ((1 : Int32) <<< (a1 &&& 31)))) fun M3 => some M3
set_option maxHeartbeats 4000000 in
set_option maxRecDepth 100000 in
theorem k_X1_light (l : Launch) (E : Amd) (D : va_G) (ca : Nat → ClassId) (h : Nat → Nat) (nl : Nat) (M : Mem) (b : Nat) (a1 : Int32) (a2 : Int32) {Mo : Mem} (hb : b < 3) (hf : f_X1_light b M a1 a2 = some Mo) : Ct l E D (tysOf ca) h (LaC ca h nl) yX1_light cX1_light 3 none 0 0 [.ref (h (HB b)), .int a1, .int a2] M none Mo := by
  refine Ct.mk [some (.ref (h (HB b))), some (.int a1), some (.int a2)] (by decide) (Nat.le_of_ble_eq_true rfl) (argsV [.ref (h (HB b)), .int a1, .int a2] 0 rfl rfl) ?_
  intro x hx0 K hR
  have K : Kx x E D (tysOf ca) h (LaC ca h nl) RX1 cX1_light 3 0 0 := K
  rw [f_X1_light] at hf
  refine o_aload_n K 0 dX1_light_0 rfl rfl ?_
  refine o_iload_n K 2 dX1_light_1 rfl rfl ?_
  refine o_if_eq K 16 dX1_light_2 (by decide) (fun c1 => ?_) (fun c1 => ?_)
  · have hf := ip c1 hf
    refine o_aload_n K 0 dX1_light_16 rfl rfl ?_
    refine gC_X1_71 hb K dX1_light_17 ?_
    refine o_iconst K 1 dX1_light_20 (by decide) ?_
    refine o_iload_n K 1 dX1_light_21 rfl rfl ?_
    refine o_ishl K dX1_light_22 ?_
    refine o_iconst K (-1) dX1_light_23 (by decide) ?_
    refine o_ixor K dX1_light_24 ?_
    refine o_iand K dX1_light_25 ?_
    obtain ⟨M2, eM2, hf⟩ := nm_o hf
    refine pC_X1_71 hb K dX1_light_26 ?_
    refine o_nmM eM2 ?_
    exact e_vret K hf hR dX1_light_29
  · have hf := im c1 hf
    refine o_aload_n K 0 dX1_light_5 rfl rfl ?_
    refine gC_X1_71 hb K dX1_light_6 ?_
    refine o_iconst K 1 dX1_light_9 (by decide) ?_
    refine o_iload_n K 1 dX1_light_10 rfl rfl ?_
    refine o_ishl K dX1_light_11 ?_
    refine o_ior K dX1_light_12 ?_
    refine o_goto K 26 dX1_light_13 (by decide) ?_
    obtain ⟨M3, eM3, hf⟩ := nm_o hf
    refine pC_X1_71 hb K dX1_light_26 ?_
    refine o_nmM eM3 ?_
    exact e_vret K hf hR dX1_light_29
def f_X1_litMany (b : Nat) (M : Mem) : Option Int32 := bd (f_J6_bitCount_0f7a4 (M (HB b) 5)) fun r1 => some (r1)
set_option maxHeartbeats 4000000 in
set_option maxRecDepth 100000 in
theorem k_X1_litMany (l : Launch) (E : Amd) (D : va_G) (ca : Nat → ClassId) (h : Nat → Nat) (nl : Nat) (M : Mem) (b : Nat) {r0 : Int32} (hb : b < 3) (hf : f_X1_litMany b M = some r0) : Ct l E D (tysOf ca) h (LaC ca h nl) yX1_litMany cX1_litMany 1 (some .int) 1 20 [.ref (h (HB b))] M (some (.int r0)) M := by
  refine Ct.mk [some (.ref (h (HB b)))] (by decide) (Nat.le_of_ble_eq_true rfl) (argsV [.ref (h (HB b))] 0 rfl rfl) ?_
  intro x hx0 K hR
  have K : Kx x E D (tysOf ca) h (LaC ca h nl) RX1 cX1_litMany 1 1 20 := K
  rw [f_X1_litMany] at hf
  refine o_aload_n K 0 dX1_litMany_0 rfl rfl ?_
  refine gC_X1_71 hb K dX1_litMany_1 ?_
  obtain ⟨r1, er1, hf⟩ := bd_e hf
  refine o_callS K [.int (M (HB b) 5)] (k_J6_bitCount_0f7a4 x.2.1 E D ca h nl M (M (HB b) 5) er1) s_X1_80 rfl ⟨by decide, by decide⟩ (Nat.le_of_ble_eq_true rfl) _ rfl dX1_litMany_4 ?_
  show Go x D (tysOf ca) h (LaC ca h nl) 1 M 7 [some (.ref (h (HB b)))] [.int r1]
  exact r_iret K hf hR dX1_litMany_7
def f_X1_airOfAll_l4 (b : Nat) : Nat → Int32 → Int32 → Mem → Option Int32
  | 0, _, _, _ => none
  | n + 1, a0, a1, M => if 8 ≤ a1 then (some (a0)) else rd M (HB b + 11) 9 a1 fun x2 => nm (a0 + x2 : Int32) fun x4 => nm (a1 + 1 : Int32) fun x5 => f_X1_airOfAll_l4 b n x4 x5 M
set_option maxHeartbeats 4000000 in
set_option maxRecDepth 100000 in
theorem t_X1_airOfAll_l4 {x : En} {E : Amd} {D : va_G} {ca : Nat → ClassId} {h : Nat → Nat} {nl : Nat} {b : Nat} {M : Mem} (K : Kx x E D (tysOf ca) h (LaC ca h nl) RX1 cX1_airOfAll 3 0 0) {r0 : Int32} (hR : Rt x D h (LaC ca h nl) (some .int) (some (.int r0)) M) (hb : b < 3) : ∀ (n : Nat) (a0 : Int32) (a1 : Int32), f_X1_airOfAll_l4 b n a0 a1 M = some r0 → Go x D (tysOf ca) h (LaC ca h nl) 3 M 4 [some (.ref (h (HB b))), some (.int a0), some (.int a1)] [] := by
  intro n
  induction n with
  | zero =>
    intro a0 a1 hf
    cases hf
  | succ n ih =>
    intro a0 a1 hf
    rw [f_X1_airOfAll_l4] at hf
    refine o_iload_n K 2 dX1_airOfAll_4 rfl rfl ?_
    refine o_bipush K 8 dX1_airOfAll_5 (by decide) ?_
    refine o_icmp_ge K 25 dX1_airOfAll_7 (by decide) (fun c1 => ?_) (fun c1 => ?_)
    · have hf := ip c1 hf
      refine o_iload_n K 1 dX1_airOfAll_25 rfl rfl ?_
      exact r_iret K hf hR dX1_airOfAll_26
    · have hf := im c1 hf
      refine o_iload_n K 1 dX1_airOfAll_10 rfl rfl ?_
      refine o_aload_n K 0 dX1_airOfAll_11 rfl rfl ?_
      refine gC_X1_25 hb K dX1_airOfAll_12 ?_
      refine o_iload_n K 2 dX1_airOfAll_15 rfl rfl ?_
      obtain ⟨g3, x2, ex2, hf⟩ := rd_e hf
      refine lCh hb 11 9 (by decide) (fun _ => rfl) K g3 dX1_airOfAll_16 ?_
      refine o_nmi ex2 ?_
      refine o_iadd K dX1_airOfAll_17 ?_
      obtain ⟨x4, ex4, hf⟩ := nm_o hf
      refine o_nmi ex4 ?_
      refine o_istore_n K 1 [some (.ref (h (HB b))), some (.int x4), some (.int a1)] dX1_airOfAll_18 rfl (by decide) rfl rfl ?_
      obtain ⟨x5, ex5, hf⟩ := nm_o hf
      refine o_iinc K 2 x5 [some (.ref (h (HB b))), some (.int x4), some (.int x5)] dX1_airOfAll_19 rfl (inc_e (by decide) ex5) (by decide) rfl rfl ?_
      refine o_goto K 4 dX1_airOfAll_22 (by decide) ?_
      exact ih x4 x5 hf
def f_X1_airOfAll (b : Nat) (M : Mem) : Option Int32 := f_X1_airOfAll_l4 b FU (0 : Int32) (0 : Int32) M
set_option maxHeartbeats 4000000 in
set_option maxRecDepth 100000 in
theorem k_X1_airOfAll (l : Launch) (E : Amd) (D : va_G) (ca : Nat → ClassId) (h : Nat → Nat) (nl : Nat) (M : Mem) (b : Nat) {r0 : Int32} (hb : b < 3) (hf : f_X1_airOfAll b M = some r0) : Ct l E D (tysOf ca) h (LaC ca h nl) yX1_airOfAll cX1_airOfAll 3 (some .int) 0 0 [.ref (h (HB b))] M (some (.int r0)) M := by
  refine Ct.mk [some (.ref (h (HB b))), none, none] (by decide) (Nat.le_of_ble_eq_true rfl) (argsV [.ref (h (HB b))] 2 rfl rfl) ?_
  intro x hx0 K hR
  have K : Kx x E D (tysOf ca) h (LaC ca h nl) RX1 cX1_airOfAll 3 0 0 := K
  rw [f_X1_airOfAll] at hf
  refine o_iconst K 0 dX1_airOfAll_0 (by decide) ?_
  refine o_istore_n K 1 [some (.ref (h (HB b))), some (.int 0), none] dX1_airOfAll_1 rfl (by decide) rfl rfl ?_
  refine o_iconst K 0 dX1_airOfAll_2 (by decide) ?_
  refine o_istore_n K 2 [some (.ref (h (HB b))), some (.int 0), some (.int 0)] dX1_airOfAll_3 rfl (by decide) rfl rfl ?_
  exact t_X1_airOfAll_l4 K hR hb FU (0 : Int32) (0 : Int32) hf
def f_X1_scentOfAll_l4 (b : Nat) : Nat → Int32 → Int32 → Mem → Option Int32
  | 0, _, _, _ => none
  | n + 1, a0, a1, M => if 8 ≤ a1 then (some (a0)) else rd M (HB b + 13) 8 a1 fun x2 => nm (a0 + x2 : Int32) fun x4 => nm (a1 + 1 : Int32) fun x5 => f_X1_scentOfAll_l4 b n x4 x5 M
set_option maxHeartbeats 4000000 in
set_option maxRecDepth 100000 in
theorem t_X1_scentOfAll_l4 {x : En} {E : Amd} {D : va_G} {ca : Nat → ClassId} {h : Nat → Nat} {nl : Nat} {b : Nat} {M : Mem} (K : Kx x E D (tysOf ca) h (LaC ca h nl) RX1 cX1_scentOfAll 3 0 0) {r0 : Int32} (hR : Rt x D h (LaC ca h nl) (some .int) (some (.int r0)) M) (hb : b < 3) : ∀ (n : Nat) (a0 : Int32) (a1 : Int32), f_X1_scentOfAll_l4 b n a0 a1 M = some r0 → Go x D (tysOf ca) h (LaC ca h nl) 3 M 4 [some (.ref (h (HB b))), some (.int a0), some (.int a1)] [] := by
  intro n
  induction n with
  | zero =>
    intro a0 a1 hf
    cases hf
  | succ n ih =>
    intro a0 a1 hf
    rw [f_X1_scentOfAll_l4] at hf
    refine o_iload_n K 2 dX1_scentOfAll_4 rfl rfl ?_
    refine o_bipush K 8 dX1_scentOfAll_5 (by decide) ?_
    refine o_icmp_ge K 25 dX1_scentOfAll_7 (by decide) (fun c1 => ?_) (fun c1 => ?_)
    · have hf := ip c1 hf
      refine o_iload_n K 1 dX1_scentOfAll_25 rfl rfl ?_
      exact r_iret K hf hR dX1_scentOfAll_26
    · have hf := im c1 hf
      refine o_iload_n K 1 dX1_scentOfAll_10 rfl rfl ?_
      refine o_aload_n K 0 dX1_scentOfAll_11 rfl rfl ?_
      refine gC_X1_32 hb K dX1_scentOfAll_12 ?_
      refine o_iload_n K 2 dX1_scentOfAll_15 rfl rfl ?_
      obtain ⟨g3, x2, ex2, hf⟩ := rd_e hf
      refine lCh hb 13 8 (by decide) (fun _ => rfl) K g3 dX1_scentOfAll_16 ?_
      refine o_nmi ex2 ?_
      refine o_iadd K dX1_scentOfAll_17 ?_
      obtain ⟨x4, ex4, hf⟩ := nm_o hf
      refine o_nmi ex4 ?_
      refine o_istore_n K 1 [some (.ref (h (HB b))), some (.int x4), some (.int a1)] dX1_scentOfAll_18 rfl (by decide) rfl rfl ?_
      obtain ⟨x5, ex5, hf⟩ := nm_o hf
      refine o_iinc K 2 x5 [some (.ref (h (HB b))), some (.int x4), some (.int x5)] dX1_scentOfAll_19 rfl (inc_e (by decide) ex5) (by decide) rfl rfl ?_
      refine o_goto K 4 dX1_scentOfAll_22 (by decide) ?_
      exact ih x4 x5 hf
def f_X1_scentOfAll (b : Nat) (M : Mem) : Option Int32 := f_X1_scentOfAll_l4 b FU (0 : Int32) (0 : Int32) M
set_option maxHeartbeats 4000000 in
set_option maxRecDepth 100000 in
theorem k_X1_scentOfAll (l : Launch) (E : Amd) (D : va_G) (ca : Nat → ClassId) (h : Nat → Nat) (nl : Nat) (M : Mem) (b : Nat) {r0 : Int32} (hb : b < 3) (hf : f_X1_scentOfAll b M = some r0) : Ct l E D (tysOf ca) h (LaC ca h nl) yX1_scentOfAll cX1_scentOfAll 3 (some .int) 0 0 [.ref (h (HB b))] M (some (.int r0)) M := by
  refine Ct.mk [some (.ref (h (HB b))), none, none] (by decide) (Nat.le_of_ble_eq_true rfl) (argsV [.ref (h (HB b))] 2 rfl rfl) ?_
  intro x hx0 K hR
  have K : Kx x E D (tysOf ca) h (LaC ca h nl) RX1 cX1_scentOfAll 3 0 0 := K
  rw [f_X1_scentOfAll] at hf
  refine o_iconst K 0 dX1_scentOfAll_0 (by decide) ?_
  refine o_istore_n K 1 [some (.ref (h (HB b))), some (.int 0), none] dX1_scentOfAll_1 rfl (by decide) rfl rfl ?_
  refine o_iconst K 0 dX1_scentOfAll_2 (by decide) ?_
  refine o_istore_n K 2 [some (.ref (h (HB b))), some (.int 0), some (.int 0)] dX1_scentOfAll_3 rfl (by decide) rfl rfl ?_
  exact t_X1_scentOfAll_l4 K hR hb FU (0 : Int32) (0 : Int32) hf
def f_X1_minutesLeft (b : Nat) (M : Mem) : Option Int32 := some ((if (0 : Int32) < ((9999 : Int32) - (M (HB b) 7)) then ((9999 : Int32) - (M (HB b) 7)) else (0 : Int32)))
set_option maxHeartbeats 4000000 in
set_option maxRecDepth 100000 in
theorem k_X1_minutesLeft (l : Launch) (E : Amd) (D : va_G) (ca : Nat → ClassId) (h : Nat → Nat) (nl : Nat) (M : Mem) (b : Nat) {r0 : Int32} (hb : b < 3) (hf : f_X1_minutesLeft b M = some r0) : Ct l E D (tysOf ca) h (LaC ca h nl) yX1_minutesLeft cX1_minutesLeft 1 (some .int) 1 27 [.ref (h (HB b))] M (some (.int r0)) M := by
  refine Ct.mk [some (.ref (h (HB b)))] (by decide) (Nat.le_of_ble_eq_true rfl) (argsV [.ref (h (HB b))] 0 rfl rfl) ?_
  intro x hx0 K hR
  have K : Kx x E D (tysOf ca) h (LaC ca h nl) RX1 cX1_minutesLeft 1 1 27 := K
  rw [f_X1_minutesLeft] at hf
  refine o_iconst K 0 dX1_minutesLeft_0 (by decide) ?_
  refine o_sipush K 9999 dX1_minutesLeft_1 (by decide) ?_
  refine o_aload_n K 0 dX1_minutesLeft_4 rfl rfl ?_
  refine gC_X1_77 hb K dX1_minutesLeft_5 ?_
  refine o_isub K dX1_minutesLeft_8 ?_
  refine o_mmax K q459 q113 q6 q114 ⟨by decide, by decide⟩ (Nat.le_of_ble_eq_true rfl) dX1_minutesLeft_9 ?_
  exact r_iret K hf hR dX1_minutesLeft_12
def f_X5_letsOf (b : Nat) (M : Mem) (a1 : Int32) (a2 : Int32) (a3 : Int32) : Option Int32 := rd M (HB b + 9) 120 ((((a1 * 10) + a2) * 2) + a3) fun x1 => some (x1)
set_option maxHeartbeats 4000000 in
set_option maxRecDepth 100000 in
theorem k_X5_letsOf (l : Launch) (E : Amd) (D : va_G) (ca : Nat → ClassId) (h : Nat → Nat) (nl : Nat) (M : Mem) (b : Nat) (a1 : Int32) (a2 : Int32) (a3 : Int32) {r0 : Int32} (hb : b < 3) (hf : f_X5_letsOf b M a1 a2 a3 = some r0) : Ct l E D (tysOf ca) h (LaC ca h nl) yX5_letsOf cX5_letsOf 4 (some .int) 0 0 [.ref (h (HB b + 6)), .int a1, .int a2, .int a3] M (some (.int r0)) M := by
  refine Ct.mk [some (.ref (h (HB b + 6))), some (.int a1), some (.int a2), some (.int a3)] (by decide) (Nat.le_of_ble_eq_true rfl) (argsV [.ref (h (HB b + 6)), .int a1, .int a2, .int a3] 0 rfl rfl) ?_
  intro x hx0 K hR
  have K : Kx x E D (tysOf ca) h (LaC ca h nl) RX5 cX5_letsOf 4 0 0 := K
  rw [f_X5_letsOf] at hf
  refine o_aload_n K 0 dX5_letsOf_0 rfl rfl ?_
  refine gC_X5_26 hb K dX5_letsOf_1 ?_
  refine o_iload_n K 1 dX5_letsOf_4 rfl rfl ?_
  refine o_bipush K 10 dX5_letsOf_5 (by decide) ?_
  refine o_imul K dX5_letsOf_7 ?_
  refine o_iload_n K 2 dX5_letsOf_8 rfl rfl ?_
  refine o_iadd K dX5_letsOf_9 ?_
  refine o_iconst K 2 dX5_letsOf_10 (by decide) ?_
  refine o_imul K dX5_letsOf_11 ?_
  refine o_iload_n K 3 dX5_letsOf_12 rfl rfl ?_
  refine o_iadd K dX5_letsOf_13 ?_
  obtain ⟨g2, x1, ex1, hf⟩ := rd_e hf
  refine lCh hb 9 120 (by decide) (fun _ => rfl) K g2 dX5_letsOf_14 ?_
  refine o_nmi ex1 ?_
  exact r_iret K hf hR dX5_letsOf_15
def f_X1_letsOf (b : Nat) (M : Mem) (a1 : Int32) : Option Int32 := rd M (HB b + 2) 10 a1 fun x1 => rd M (HB b + 5) 10 a1 fun x3 => bd (f_X5_letsOf b M x1 x3 (((M (HB b + 1) 1) >>> (a1 &&& 31)) &&& 1)) fun r5 => some (r5)
set_option maxHeartbeats 4000000 in
set_option maxRecDepth 100000 in
theorem k_X1_letsOf (l : Launch) (E : Amd) (D : va_G) (ca : Nat → ClassId) (h : Nat → Nat) (nl : Nat) (M : Mem) (b : Nat) (a1 : Int32) {r0 : Int32} (hb : b < 3) (hf : f_X1_letsOf b M a1 = some r0) : Ct l E D (tysOf ca) h (LaC ca h nl) yX1_letsOf cX1_letsOf 2 (some .int) 1 23 [.ref (h (HB b)), .int a1] M (some (.int r0)) M := by
  refine Ct.mk [some (.ref (h (HB b))), some (.int a1)] (by decide) (Nat.le_of_ble_eq_true rfl) (argsV [.ref (h (HB b)), .int a1] 0 rfl rfl) ?_
  intro x hx0 K hR
  have K : Kx x E D (tysOf ca) h (LaC ca h nl) RX1 cX1_letsOf 2 1 23 := K
  rw [f_X1_letsOf] at hf
  refine o_aload_n K 0 dX1_letsOf_0 rfl rfl ?_
  refine gC_X1_21 hb K dX1_letsOf_1 ?_
  refine o_aload_n K 0 dX1_letsOf_4 rfl rfl ?_
  refine gC_X1_12 hb K dX1_letsOf_5 ?_
  refine gC_X1_92 hb K dX1_letsOf_8 ?_
  refine o_iload_n K 1 dX1_letsOf_11 rfl rfl ?_
  obtain ⟨g2, x1, ex1, hf⟩ := rd_e hf
  refine lCh hb 2 10 (by decide) (fun _ => rfl) K g2 dX1_letsOf_12 ?_
  refine o_nmi ex1 ?_
  refine o_aload_n K 0 dX1_letsOf_13 rfl rfl ?_
  refine gC_X1_12 hb K dX1_letsOf_14 ?_
  refine gC_X1_95 hb K dX1_letsOf_17 ?_
  refine o_iload_n K 1 dX1_letsOf_20 rfl rfl ?_
  obtain ⟨g4, x3, ex3, hf⟩ := rd_e hf
  refine lCh hb 5 10 (by decide) (fun _ => rfl) K g4 dX1_letsOf_21 ?_
  refine o_nmi ex3 ?_
  refine o_aload_n K 0 dX1_letsOf_22 rfl rfl ?_
  refine gC_X1_12 hb K dX1_letsOf_23 ?_
  refine gC_X1_98 hb K dX1_letsOf_26 ?_
  refine o_iload_n K 1 dX1_letsOf_29 rfl rfl ?_
  refine o_ishr K dX1_letsOf_30 ?_
  refine o_iconst K 1 dX1_letsOf_31 (by decide) ?_
  refine o_iand K dX1_letsOf_32 ?_
  obtain ⟨r5, er5, hf⟩ := bd_e hf
  refine o_callV K [.int x1, .int x3, .int (((M (HB b + 1) 1) >>> (a1 &&& 31)) &&& 1)] (k_X5_letsOf x.2.1 E D ca h nl M b x1 x3 (((M (HB b + 1) 1) >>> (a1 &&& 31)) &&& 1) hb er5) s_X1_101 (ltLaws hb) (obLaws_c (ca := ca) (h := h) hb _) rfl rfl rfl ⟨by decide, by decide⟩ (Nat.le_of_ble_eq_true rfl) _ rfl dX1_letsOf_33 ?_
  show Go x D (tysOf ca) h (LaC ca h nl) 2 M 36 [some (.ref (h (HB b))), some (.int a1)] [.int r5]
  exact r_iret K hf hR dX1_letsOf_36
def f_X1_flowOf (b : Nat) (M : Mem) (a1 : Int32) : Option Int32 := rd M (HB b + 3) 10 a1 fun x1 => rd M (HB b + 11) 9 x1 fun x3 => rd M (HB b + 4) 10 a1 fun x5 => rd M (HB b + 11) 9 x5 fun x7 => bd (f_X1_letsOf b M a1) fun r9 => some (((x3 - x7) * r9) / 1000)
set_option maxHeartbeats 4000000 in
set_option maxRecDepth 100000 in
theorem k_X1_flowOf (l : Launch) (E : Amd) (D : va_G) (ca : Nat → ClassId) (h : Nat → Nat) (nl : Nat) (M : Mem) (b : Nat) (a1 : Int32) {r0 : Int32} (hb : b < 3) (hf : f_X1_flowOf b M a1 = some r0) : Ct l E D (tysOf ca) h (LaC ca h nl) yX1_flowOf cX1_flowOf 2 (some .int) 2 44 [.ref (h (HB b)), .int a1] M (some (.int r0)) M := by
  refine Ct.mk [some (.ref (h (HB b))), some (.int a1)] (by decide) (Nat.le_of_ble_eq_true rfl) (argsV [.ref (h (HB b)), .int a1] 0 rfl rfl) ?_
  intro x hx0 K hR
  have K : Kx x E D (tysOf ca) h (LaC ca h nl) RX1 cX1_flowOf 2 2 44 := K
  rw [f_X1_flowOf] at hf
  refine o_aload_n K 0 dX1_flowOf_0 rfl rfl ?_
  refine gC_X1_25 hb K dX1_flowOf_1 ?_
  refine o_aload_n K 0 dX1_flowOf_4 rfl rfl ?_
  refine gC_X1_12 hb K dX1_flowOf_5 ?_
  refine gC_X1_105 hb K dX1_flowOf_8 ?_
  refine o_iload_n K 1 dX1_flowOf_11 rfl rfl ?_
  obtain ⟨g2, x1, ex1, hf⟩ := rd_e hf
  refine lCh hb 3 10 (by decide) (fun _ => rfl) K g2 dX1_flowOf_12 ?_
  refine o_nmi ex1 ?_
  obtain ⟨g4, x3, ex3, hf⟩ := rd_e hf
  refine lCh hb 11 9 (by decide) (fun _ => rfl) K g4 dX1_flowOf_13 ?_
  refine o_nmi ex3 ?_
  refine o_aload_n K 0 dX1_flowOf_14 rfl rfl ?_
  refine gC_X1_25 hb K dX1_flowOf_15 ?_
  refine o_aload_n K 0 dX1_flowOf_18 rfl rfl ?_
  refine gC_X1_12 hb K dX1_flowOf_19 ?_
  refine gC_X1_108 hb K dX1_flowOf_22 ?_
  refine o_iload_n K 1 dX1_flowOf_25 rfl rfl ?_
  obtain ⟨g6, x5, ex5, hf⟩ := rd_e hf
  refine lCh hb 4 10 (by decide) (fun _ => rfl) K g6 dX1_flowOf_26 ?_
  refine o_nmi ex5 ?_
  obtain ⟨g8, x7, ex7, hf⟩ := rd_e hf
  refine lCh hb 11 9 (by decide) (fun _ => rfl) K g8 dX1_flowOf_27 ?_
  refine o_nmi ex7 ?_
  refine o_isub K dX1_flowOf_28 ?_
  refine o_aload_n K 0 dX1_flowOf_29 rfl rfl ?_
  refine o_iload_n K 1 dX1_flowOf_30 rfl rfl ?_
  obtain ⟨r9, er9, hf⟩ := bd_e hf
  refine o_callV K [.int a1] (k_X1_letsOf x.2.1 E D ca h nl M b a1 hb er9) s_X1_111 (ltHall hb) (obHall_c (ca := ca) (h := h) hb _) rfl rfl rfl ⟨by decide, by decide⟩ (Nat.le_of_ble_eq_true rfl) _ rfl dX1_flowOf_31 ?_
  show Go x D (tysOf ca) h (LaC ca h nl) 2 M 34 [some (.ref (h (HB b))), some (.int a1)] [.int r9, .int (x3 - x7)]
  refine o_imul K dX1_flowOf_34 ?_
  refine o_sipush K 1000 dX1_flowOf_35 (by decide) ?_
  refine o_idiv K dX1_flowOf_38 (by decide) ?_
  exact r_iret K hf hR dX1_flowOf_39
def f_X1_measureFlows_l10 (b : Nat) : Nat → Int32 → Mem → Option Mem
  | 0, _, _ => none
  | n + 1, a0, M => if (M (HB b + 1) 0) ≤ a0 then (some M) else bd (f_X1_flowOf b M a0) fun r4 => wr M (HB b + 14) 10 a0 r4 fun M6 => rd M6 (HB b + 14) 10 a0 fun x7 => nm ((if 0 ≤ x7 then x7 else 0 - x7) : Int32) fun x9 => rd M6 (HB b + 3) 10 a0 fun x10 => rd M6 (HB b + 15) 9 x10 fun x12 => wr M6 (HB b + 15) 9 x10 (x12 + x9) fun M15 => rd M15 (HB b + 4) 10 a0 fun x16 => rd M15 (HB b + 15) 9 x16 fun x18 => wr M15 (HB b + 15) 9 x16 (x18 + x9) fun M21 => nm (a0 + 1 : Int32) fun x22 => f_X1_measureFlows_l10 b n x22 M21
set_option maxHeartbeats 4000000 in
set_option maxRecDepth 100000 in
theorem t_X1_measureFlows_l10 {x : En} {E : Amd} {D : va_G} {ca : Nat → ClassId} {h : Nat → Nat} {nl : Nat} {b : Nat} (K : Kx x E D (tysOf ca) h (LaC ca h nl) RX1 cX1_measureFlows 3 3 65) {Mo : Mem} (hR : Rt x D h (LaC ca h nl) none none Mo) (hb : b < 3) : ∀ (n : Nat) (a0 : Int32) (M : Mem), f_X1_measureFlows_l10 b n a0 M = some Mo → Go x D (tysOf ca) h (LaC ca h nl) 3 M 10 [some (.ref (h (HB b))), some (.int a0), none] [] := by
  intro n
  induction n with
  | zero =>
    intro a0 M hf
    cases hf
  | succ n ih =>
    intro a0 M hf
    rw [f_X1_measureFlows_l10] at hf
    refine o_iload_n K 1 dX1_measureFlows_10 rfl rfl ?_
    refine o_aload_n K 0 dX1_measureFlows_11 rfl rfl ?_
    refine gC_X1_12 hb K dX1_measureFlows_12 ?_
    refine gC_X1_116 hb K dX1_measureFlows_15 ?_
    refine o_icmp_ge K 84 dX1_measureFlows_18 (by decide) (fun c3 => ?_) (fun c3 => ?_)
    · have hf := ip c3 hf
      exact e_vret K hf hR dX1_measureFlows_84
    · have hf := im c3 hf
      refine o_aload_n K 0 dX1_measureFlows_21 rfl rfl ?_
      refine gC_X1_39 hb K dX1_measureFlows_22 ?_
      refine o_iload_n K 1 dX1_measureFlows_25 rfl rfl ?_
      refine o_aload_n K 0 dX1_measureFlows_26 rfl rfl ?_
      refine o_iload_n K 1 dX1_measureFlows_27 rfl rfl ?_
      obtain ⟨r4, er4, hf⟩ := bd_e hf
      refine o_callV K [.int a0] (k_X1_flowOf x.2.1 E D ca h nl M b a0 hb er4) s_X1_119 (ltHall hb) (obHall_c (ca := ca) (h := h) hb _) rfl rfl rfl ⟨by decide, by decide⟩ (Nat.le_of_ble_eq_true rfl) _ rfl dX1_measureFlows_28 ?_
      show Go x D (tysOf ca) h (LaC ca h nl) 3 M 31 [some (.ref (h (HB b))), some (.int a0), none] [.int r4, .int a0, .ref (h (HB b + 14))]
      obtain ⟨g5, M6, eM6, hf⟩ := wr_e hf
      refine sCh hb 14 10 (by decide) (fun _ => rfl) K g5 dX1_measureFlows_31 ?_
      refine o_nmM eM6 ?_
      refine o_aload_n K 0 dX1_measureFlows_32 rfl rfl ?_
      refine gC_X1_39 hb K dX1_measureFlows_33 ?_
      refine o_iload_n K 1 dX1_measureFlows_36 rfl rfl ?_
      obtain ⟨g8, x7, ex7, hf⟩ := rd_e hf
      refine lCh hb 14 10 (by decide) (fun _ => rfl) K g8 dX1_measureFlows_37 ?_
      refine o_nmi ex7 ?_
      refine o_mabs K q404 q405 q6 q406 ⟨by decide, by decide⟩ (Nat.le_of_ble_eq_true rfl) dX1_measureFlows_38 ?_
      obtain ⟨x9, ex9, hf⟩ := nm_o hf
      refine o_nmi ex9 ?_
      refine o_istore_n K 2 [some (.ref (h (HB b))), some (.int a0), some (.int x9)] dX1_measureFlows_41 rfl (by decide) rfl rfl ?_
      refine o_aload_n K 0 dX1_measureFlows_42 rfl rfl ?_
      refine gC_X1_42 hb K dX1_measureFlows_43 ?_
      refine o_aload_n K 0 dX1_measureFlows_46 rfl rfl ?_
      refine gC_X1_12 hb K dX1_measureFlows_47 ?_
      refine gC_X1_105 hb K dX1_measureFlows_50 ?_
      refine o_iload_n K 1 dX1_measureFlows_53 rfl rfl ?_
      obtain ⟨g11, x10, ex10, hf⟩ := rd_e hf
      refine lCh hb 3 10 (by decide) (fun _ => rfl) K g11 dX1_measureFlows_54 ?_
      refine o_nmi ex10 ?_
      refine o_dup2 K dX1_measureFlows_55 rfl rfl ?_
      obtain ⟨g13, x12, ex12, hf⟩ := rd_e hf
      refine lCh hb 15 9 (by decide) (fun _ => rfl) K g13 dX1_measureFlows_56 ?_
      refine o_nmi ex12 ?_
      refine o_iload_n K 2 dX1_measureFlows_57 rfl rfl ?_
      refine o_iadd K dX1_measureFlows_58 ?_
      obtain ⟨g14, M15, eM15, hf⟩ := wr_e hf
      refine sCh hb 15 9 (by decide) (fun _ => rfl) K g14 dX1_measureFlows_59 ?_
      refine o_nmM eM15 ?_
      refine o_aload_n K 0 dX1_measureFlows_60 rfl rfl ?_
      refine gC_X1_42 hb K dX1_measureFlows_61 ?_
      refine o_aload_n K 0 dX1_measureFlows_64 rfl rfl ?_
      refine gC_X1_12 hb K dX1_measureFlows_65 ?_
      refine gC_X1_108 hb K dX1_measureFlows_68 ?_
      refine o_iload_n K 1 dX1_measureFlows_71 rfl rfl ?_
      obtain ⟨g17, x16, ex16, hf⟩ := rd_e hf
      refine lCh hb 4 10 (by decide) (fun _ => rfl) K g17 dX1_measureFlows_72 ?_
      refine o_nmi ex16 ?_
      refine o_dup2 K dX1_measureFlows_73 rfl rfl ?_
      obtain ⟨g19, x18, ex18, hf⟩ := rd_e hf
      refine lCh hb 15 9 (by decide) (fun _ => rfl) K g19 dX1_measureFlows_74 ?_
      refine o_nmi ex18 ?_
      refine o_iload_n K 2 dX1_measureFlows_75 rfl rfl ?_
      refine o_iadd K dX1_measureFlows_76 ?_
      obtain ⟨g20, M21, eM21, hf⟩ := wr_e hf
      refine sCh hb 15 9 (by decide) (fun _ => rfl) K g20 dX1_measureFlows_77 ?_
      refine o_nmM eM21 ?_
      obtain ⟨x22, ex22, hf⟩ := nm_o hf
      refine o_iinc K 1 x22 [some (.ref (h (HB b))), some (.int x22), some (.int x9)] dX1_measureFlows_78 rfl (inc_e (by decide) ex22) (by decide) rfl rfl ?_
      refine o_goto K 10 dX1_measureFlows_81 (by decide) ?_
      refine o_drop [true, true, false] (V2 := [some (.ref (h (HB b))), some (.int x22), none]) rfl ?_
      exact ih x22 M21 hf
def f_X1_measureFlows (b : Nat) (M : Mem) : Option Mem := bd (f_J7_fill_53178 (HB b + 15) 9 M (0 : Int32)) fun M2 => f_X1_measureFlows_l10 b FU (0 : Int32) M2
set_option maxHeartbeats 4000000 in
set_option maxRecDepth 100000 in
theorem k_X1_measureFlows (l : Launch) (E : Amd) (D : va_G) (ca : Nat → ClassId) (h : Nat → Nat) (nl : Nat) (M : Mem) (b : Nat) {Mo : Mem} (hb : b < 3) (hf : f_X1_measureFlows b M = some Mo) : Ct l E D (tysOf ca) h (LaC ca h nl) yX1_measureFlows cX1_measureFlows 3 none 3 65 [.ref (h (HB b))] M none Mo := by
  refine Ct.mk [some (.ref (h (HB b))), none, none] (by decide) (Nat.le_of_ble_eq_true rfl) (argsV [.ref (h (HB b))] 2 rfl rfl) ?_
  intro x hx0 K hR
  have K : Kx x E D (tysOf ca) h (LaC ca h nl) RX1 cX1_measureFlows 3 3 65 := K
  rw [f_X1_measureFlows] at hf
  refine o_aload_n K 0 dX1_measureFlows_0 rfl rfl ?_
  refine gC_X1_42 hb K dX1_measureFlows_1 ?_
  refine o_iconst K 0 dX1_measureFlows_4 (by decide) ?_
  obtain ⟨M2, er1, hf⟩ := bd_e hf
  refine o_callS K [.ref (h (HB b + 15)), .int 0] (k_J7_fill_53178 x.2.1 E D ca h nl M (HB b + 15) 9 (0 : Int32) (ltN (ltB hb (show 15 < 17 by decide))) (fun r => c_hall hb 15 (by decide) r) er1) s_X1_48 rfl ⟨by decide, by decide⟩ (Nat.le_of_ble_eq_true rfl) _ rfl dX1_measureFlows_5 ?_
  show Go x D (tysOf ca) h (LaC ca h nl) 3 M2 8 [some (.ref (h (HB b))), none, none] []
  refine o_iconst K 0 dX1_measureFlows_8 (by decide) ?_
  refine o_istore_n K 1 [some (.ref (h (HB b))), some (.int 0), none] dX1_measureFlows_9 rfl (by decide) rfl rfl ?_
  exact t_X1_measureFlows_l10 K hR hb FU (0 : Int32) M2 hf
def f_X1_draughtOf (b : Nat) (M : Mem) (a1 : Int32) : Option (Int32 × Mem) := bd (f_X1_measureFlows b M) fun M2 => rd M2 (HB b + 15) 9 a1 fun x3 => some (x3, M2)
set_option maxHeartbeats 4000000 in
set_option maxRecDepth 100000 in
theorem k_X1_draughtOf (l : Launch) (E : Amd) (D : va_G) (ca : Nat → ClassId) (h : Nat → Nat) (nl : Nat) (M : Mem) (b : Nat) (a1 : Int32) {r0 : Int32} {Mo : Mem} (hb : b < 3) (hf : f_X1_draughtOf b M a1 = some (r0, Mo)) : Ct l E D (tysOf ca) h (LaC ca h nl) yX1_draughtOf cX1_draughtOf 2 (some .int) 4 87 [.ref (h (HB b)), .int a1] M (some (.int r0)) Mo := by
  refine Ct.mk [some (.ref (h (HB b))), some (.int a1)] (by decide) (Nat.le_of_ble_eq_true rfl) (argsV [.ref (h (HB b)), .int a1] 0 rfl rfl) ?_
  intro x hx0 K hR
  have K : Kx x E D (tysOf ca) h (LaC ca h nl) RX1 cX1_draughtOf 2 4 87 := K
  rw [f_X1_draughtOf] at hf
  refine o_aload_n K 0 dX1_draughtOf_0 rfl rfl ?_
  obtain ⟨M2, er1, hf⟩ := bd_e hf
  refine o_callV K [] (k_X1_measureFlows x.2.1 E D ca h nl M b hb er1) s_X1_113 (ltHall hb) (obHall_c (ca := ca) (h := h) hb _) rfl rfl rfl ⟨by decide, by decide⟩ (Nat.le_of_ble_eq_true rfl) _ rfl dX1_draughtOf_1 ?_
  show Go x D (tysOf ca) h (LaC ca h nl) 2 M2 4 [some (.ref (h (HB b))), some (.int a1)] []
  refine o_aload_n K 0 dX1_draughtOf_4 rfl rfl ?_
  refine gC_X1_42 hb K dX1_draughtOf_5 ?_
  refine o_iload_n K 1 dX1_draughtOf_8 rfl rfl ?_
  obtain ⟨g4, x3, ex3, hf⟩ := rd_e hf
  refine lCh hb 15 9 (by decide) (fun _ => rfl) K g4 dX1_draughtOf_9 ?_
  refine o_nmi ex3 ?_
  exact e_iret K hf hR dX1_draughtOf_10
def f_X1_flowsAreNought_l2 (b : Nat) : Nat → Int32 → Mem → Option Int32
  | 0, _, _ => none
  | n + 1, a0, M => if (M (HB b + 1) 0) ≤ a0 then (some ((1 : Int32))) else rd M (HB b + 14) 10 a0 fun x2 => if x2 = 0 then (nm (a0 + 1 : Int32) fun x5 => f_X1_flowsAreNought_l2 b n x5 M) else some ((0 : Int32))
set_option maxHeartbeats 4000000 in
set_option maxRecDepth 100000 in
theorem t_X1_flowsAreNought_l2 {x : En} {E : Amd} {D : va_G} {ca : Nat → ClassId} {h : Nat → Nat} {nl : Nat} {b : Nat} {M : Mem} (K : Kx x E D (tysOf ca) h (LaC ca h nl) RX1 cX1_flowsAreNought 2 0 0) {r0 : Int32} (hR : Rt x D h (LaC ca h nl) (some .boolean) (some (.int r0)) M) (hb : b < 3) : ∀ (n : Nat) (a0 : Int32), f_X1_flowsAreNought_l2 b n a0 M = some r0 → Go x D (tysOf ca) h (LaC ca h nl) 2 M 2 [some (.ref (h (HB b))), some (.int a0)] [] := by
  intro n
  induction n with
  | zero =>
    intro a0 hf
    cases hf
  | succ n ih =>
    intro a0 hf
    rw [f_X1_flowsAreNought_l2] at hf
    refine o_iload_n K 1 dX1_flowsAreNought_2 rfl rfl ?_
    refine o_aload_n K 0 dX1_flowsAreNought_3 rfl rfl ?_
    refine gC_X1_12 hb K dX1_flowsAreNought_4 ?_
    refine gC_X1_116 hb K dX1_flowsAreNought_7 ?_
    refine o_icmp_ge K 30 dX1_flowsAreNought_10 (by decide) (fun c1 => ?_) (fun c1 => ?_)
    · have hf := ip c1 hf
      refine o_iconst K 1 dX1_flowsAreNought_30 (by decide) ?_
      exact r_zret K hf hR (by decide) dX1_flowsAreNought_31
    · have hf := im c1 hf
      refine o_aload_n K 0 dX1_flowsAreNought_13 rfl rfl ?_
      refine gC_X1_39 hb K dX1_flowsAreNought_14 ?_
      refine o_iload_n K 1 dX1_flowsAreNought_17 rfl rfl ?_
      obtain ⟨g3, x2, ex2, hf⟩ := rd_e hf
      refine lCh hb 14 10 (by decide) (fun _ => rfl) K g3 dX1_flowsAreNought_18 ?_
      refine o_nmi ex2 ?_
      refine o_if_eq K 24 dX1_flowsAreNought_19 (by decide) (fun c4 => ?_) (fun c4 => ?_)
      · have hf := ip c4 hf
        obtain ⟨x5, ex5, hf⟩ := nm_o hf
        refine o_iinc K 1 x5 [some (.ref (h (HB b))), some (.int x5)] dX1_flowsAreNought_24 rfl (inc_e (by decide) ex5) (by decide) rfl rfl ?_
        refine o_goto K 2 dX1_flowsAreNought_27 (by decide) ?_
        exact ih x5 hf
      · have hf := im c4 hf
        refine o_iconst K 0 dX1_flowsAreNought_22 (by decide) ?_
        exact r_zret K hf hR (by decide) dX1_flowsAreNought_23
def f_X1_flowsAreNought (b : Nat) (M : Mem) : Option Int32 := f_X1_flowsAreNought_l2 b FU (0 : Int32) M
set_option maxHeartbeats 4000000 in
set_option maxRecDepth 100000 in
theorem k_X1_flowsAreNought (l : Launch) (E : Amd) (D : va_G) (ca : Nat → ClassId) (h : Nat → Nat) (nl : Nat) (M : Mem) (b : Nat) {r0 : Int32} (hb : b < 3) (hf : f_X1_flowsAreNought b M = some r0) : Ct l E D (tysOf ca) h (LaC ca h nl) yX1_flowsAreNought cX1_flowsAreNought 2 (some .boolean) 0 0 [.ref (h (HB b))] M (some (.int r0)) M := by
  refine Ct.mk [some (.ref (h (HB b))), none] (by decide) (Nat.le_of_ble_eq_true rfl) (argsV [.ref (h (HB b))] 1 rfl rfl) ?_
  intro x hx0 K hR
  have K : Kx x E D (tysOf ca) h (LaC ca h nl) RX1 cX1_flowsAreNought 2 0 0 := K
  rw [f_X1_flowsAreNought] at hf
  refine o_iconst K 0 dX1_flowsAreNought_0 (by decide) ?_
  refine o_istore_n K 1 [some (.ref (h (HB b))), some (.int 0)] dX1_flowsAreNought_1 rfl (by decide) rfl rfl ?_
  exact t_X1_flowsAreNought_l2 K hR hb FU (0 : Int32) hf
def f_X1_carryScent_j188 (b : Nat) (rec17 : Int32 → Mem → Option Mem) (a0 : Int32) (M : Mem) : Option Mem := nm (a0 + 1 : Int32) fun x41 => rec17 x41 M
set_option maxHeartbeats 4000000 in
set_option maxRecDepth 100000 in
theorem t_X1_carryScent_j188 {x : En} {E : Amd} {D : va_G} {ca : Nat → ClassId} {h : Nat → Nat} {nl : Nat} {b : Nat} (K : Kx x E D (tysOf ca) h (LaC ca h nl) RX1 cX1_carryScent 8 1 27) {Mo : Mem} (hR : Rt x D h (LaC ca h nl) none none Mo) (hb : b < 3) {rec17 : Int32 → Mem → Option Mem} (ih17 : ∀ (w0 : Int32) (M : Mem), rec17 w0 M = some Mo → Go x D (tysOf ca) h (LaC ca h nl) 8 M 17 [some (.ref (h (HB b))), some (.int w0), none, none, none, none, none, none] []) (a0 : Int32) (M : Mem) (hf : f_X1_carryScent_j188 b rec17 a0 M = some Mo) : Go x D (tysOf ca) h (LaC ca h nl) 8 M 188 [some (.ref (h (HB b))), some (.int a0), none, none, none, none, none, none] [] := by
  rw [f_X1_carryScent_j188] at hf
  obtain ⟨x41, ex41, hf⟩ := nm_o hf
  refine o_iinc K 1 x41 [some (.ref (h (HB b))), some (.int x41), none, none, none, none, none, none] dX1_carryScent_188 rfl (inc_e (by decide) ex41) (by decide) rfl rfl ?_
  refine o_goto K 17 dX1_carryScent_191 (by decide) ?_
  exact ih17 x41 M hf
def f_X1_carryScent_j94 (b : Nat) (rec17 : Int32 → Mem → Option Mem) (a0 : Int32) (a1 : Int32) (a2 : Int32) (M : Mem) : Option Mem := rd M (HB b + 14) 10 a0 fun x17 => if x17 = 0 then (f_X1_carryScent_j188 b rec17 a0 M) else if a1 = 8 then (f_X1_carryScent_j188 b rec17 a0 M) else rd M (HB b + 16) 8 a1 fun x21 => rd M (HB b + 14) 10 a0 fun x23 => rd M (HB b + 11) 9 a1 fun x25 => gd (decide (¬ ((if (1 : Int32) < x25 then x25 else (1 : Int32)).toInt64) = (0 : Int64))) <| nm (((x21.toInt64) * ((if 0 ≤ x23 then x23 else 0 - x23).toInt64)) / ((if (1 : Int32) < x25 then x25 else (1 : Int32)).toInt64) : Int64) fun x28 => rd M (HB b + 13) 8 a1 fun x29 => nm ((if (x29.toInt64) < x28 then (x29.toInt64) else x28).toInt32 : Int32) fun x31 => rd M (HB b + 13) 8 a1 fun x32 => wr M (HB b + 13) 8 a1 (x32 - x31) fun M35 => if a2 = 8 then (f_X1_carryScent_j188 b rec17 a0 M35) else rd M35 (HB b + 13) 8 a2 fun x37 => wr M35 (HB b + 13) 8 a2 (x37 + x31) fun M40 => f_X1_carryScent_j188 b rec17 a0 M40
set_option maxHeartbeats 4000000 in
set_option maxRecDepth 100000 in
theorem t_X1_carryScent_j94 {x : En} {E : Amd} {D : va_G} {ca : Nat → ClassId} {h : Nat → Nat} {nl : Nat} {b : Nat} (K : Kx x E D (tysOf ca) h (LaC ca h nl) RX1 cX1_carryScent 8 1 27) {Mo : Mem} (hR : Rt x D h (LaC ca h nl) none none Mo) (hb : b < 3) {rec17 : Int32 → Mem → Option Mem} (ih17 : ∀ (w0 : Int32) (M : Mem), rec17 w0 M = some Mo → Go x D (tysOf ca) h (LaC ca h nl) 8 M 17 [some (.ref (h (HB b))), some (.int w0), none, none, none, none, none, none] []) (a0 : Int32) (a1 : Int32) (a2 : Int32) (M : Mem) (hf : f_X1_carryScent_j94 b rec17 a0 a1 a2 M = some Mo) : Go x D (tysOf ca) h (LaC ca h nl) 8 M 94 [some (.ref (h (HB b))), some (.int a0), none, some (.int a1), none, none, none, none] [.int a2] := by
  rw [f_X1_carryScent_j94] at hf
  refine o_istore K 4 [some (.ref (h (HB b))), some (.int a0), none, some (.int a1), some (.int a2), none, none, none] dX1_carryScent_94 (by decide) rfl rfl ?_
  refine o_aload_n K 0 dX1_carryScent_96 rfl rfl ?_
  refine gC_X1_39 hb K dX1_carryScent_97 ?_
  refine o_iload_n K 1 dX1_carryScent_100 rfl rfl ?_
  obtain ⟨g18, x17, ex17, hf⟩ := rd_e hf
  refine lCh hb 14 10 (by decide) (fun _ => rfl) K g18 dX1_carryScent_101 ?_
  refine o_nmi ex17 ?_
  refine o_if_eq K 188 dX1_carryScent_102 (by decide) (fun c19 => ?_) (fun c19 => ?_)
  · have hf := ip c19 hf
    refine o_drop [true, true, false, false, false, false, false, false] (V2 := [some (.ref (h (HB b))), some (.int a0), none, none, none, none, none, none]) rfl ?_
    exact t_X1_carryScent_j188 K hR hb ih17 a0 M hf
  · have hf := im c19 hf
    refine o_iload_n K 3 dX1_carryScent_105 rfl rfl ?_
    refine o_bipush K 8 dX1_carryScent_106 (by decide) ?_
    refine o_icmp_eq K 188 dX1_carryScent_108 (by decide) (fun c20 => ?_) (fun c20 => ?_)
    · have hf := ip c20 hf
      refine o_drop [true, true, false, false, false, false, false, false] (V2 := [some (.ref (h (HB b))), some (.int a0), none, none, none, none, none, none]) rfl ?_
      exact t_X1_carryScent_j188 K hR hb ih17 a0 M hf
    · have hf := im c20 hf
      refine o_aload_n K 0 dX1_carryScent_111 rfl rfl ?_
      refine gC_X1_45 hb K dX1_carryScent_112 ?_
      refine o_iload_n K 3 dX1_carryScent_115 rfl rfl ?_
      obtain ⟨g22, x21, ex21, hf⟩ := rd_e hf
      refine lCh hb 16 8 (by decide) (fun _ => rfl) K g22 dX1_carryScent_116 ?_
      refine o_nmi ex21 ?_
      refine o_i2l K dX1_carryScent_117 ?_
      refine o_aload_n K 0 dX1_carryScent_118 rfl rfl ?_
      refine gC_X1_39 hb K dX1_carryScent_119 ?_
      refine o_iload_n K 1 dX1_carryScent_122 rfl rfl ?_
      obtain ⟨g24, x23, ex23, hf⟩ := rd_e hf
      refine lCh hb 14 10 (by decide) (fun _ => rfl) K g24 dX1_carryScent_123 ?_
      refine o_nmi ex23 ?_
      refine o_mabs K q404 q405 q6 q406 ⟨by decide, by decide⟩ (Nat.le_of_ble_eq_true rfl) dX1_carryScent_124 ?_
      refine o_i2l K dX1_carryScent_127 ?_
      refine o_lmul K dX1_carryScent_128 ?_
      refine o_iconst K 1 dX1_carryScent_129 (by decide) ?_
      refine o_aload_n K 0 dX1_carryScent_130 rfl rfl ?_
      refine gC_X1_25 hb K dX1_carryScent_131 ?_
      refine o_iload_n K 3 dX1_carryScent_134 rfl rfl ?_
      obtain ⟨g26, x25, ex25, hf⟩ := rd_e hf
      refine lCh hb 11 9 (by decide) (fun _ => rfl) K g26 dX1_carryScent_135 ?_
      refine o_nmi ex25 ?_
      refine o_mmax K q459 q113 q6 q114 ⟨by decide, by decide⟩ (Nat.le_of_ble_eq_true rfl) dX1_carryScent_136 ?_
      refine o_i2l K dX1_carryScent_139 ?_
      obtain ⟨g27, hf⟩ := gd_e hf
      refine o_ldiv K dX1_carryScent_140 (of_decide_eq_true g27) ?_
      obtain ⟨x28, ex28, hf⟩ := nm_o hf
      refine o_nml ex28 ?_
      refine o_lstore K 5 [some (.ref (h (HB b))), some (.int a0), none, some (.int a1), some (.int a2), some (.long x28), none, none] dX1_carryScent_141 (by decide) rfl rfl ?_
      refine o_lload K 5 dX1_carryScent_143 rfl ?_
      refine o_aload_n K 0 dX1_carryScent_145 rfl rfl ?_
      refine gC_X1_32 hb K dX1_carryScent_146 ?_
      refine o_iload_n K 3 dX1_carryScent_149 rfl rfl ?_
      obtain ⟨g30, x29, ex29, hf⟩ := rd_e hf
      refine lCh hb 13 8 (by decide) (fun _ => rfl) K g30 dX1_carryScent_150 ?_
      refine o_nmi ex29 ?_
      refine o_i2l K dX1_carryScent_151 ?_
      refine o_minJ K q471 q472 q6 q473 ⟨by decide, by decide⟩ (Nat.le_of_ble_eq_true rfl) dX1_carryScent_152 ?_
      refine o_l2i K dX1_carryScent_155 ?_
      obtain ⟨x31, ex31, hf⟩ := nm_o hf
      refine o_nmi ex31 ?_
      refine o_istore K 7 [some (.ref (h (HB b))), some (.int a0), none, some (.int a1), some (.int a2), some (.long x28), none, some (.int x31)] dX1_carryScent_156 (by decide) rfl rfl ?_
      refine o_aload_n K 0 dX1_carryScent_158 rfl rfl ?_
      refine gC_X1_32 hb K dX1_carryScent_159 ?_
      refine o_iload_n K 3 dX1_carryScent_162 rfl rfl ?_
      refine o_dup2 K dX1_carryScent_163 rfl rfl ?_
      obtain ⟨g33, x32, ex32, hf⟩ := rd_e hf
      refine lCh hb 13 8 (by decide) (fun _ => rfl) K g33 dX1_carryScent_164 ?_
      refine o_nmi ex32 ?_
      refine o_iload K 7 dX1_carryScent_165 rfl ?_
      refine o_isub K dX1_carryScent_167 ?_
      obtain ⟨g34, M35, eM35, hf⟩ := wr_e hf
      refine sCh hb 13 8 (by decide) (fun _ => rfl) K g34 dX1_carryScent_168 ?_
      refine o_nmM eM35 ?_
      refine o_iload K 4 dX1_carryScent_169 rfl ?_
      refine o_bipush K 8 dX1_carryScent_171 (by decide) ?_
      refine o_icmp_eq K 188 dX1_carryScent_173 (by decide) (fun c36 => ?_) (fun c36 => ?_)
      · have hf := ip c36 hf
        refine o_drop [true, true, false, false, false, false, false, false] (V2 := [some (.ref (h (HB b))), some (.int a0), none, none, none, none, none, none]) rfl ?_
        exact t_X1_carryScent_j188 K hR hb ih17 a0 M35 hf
      · have hf := im c36 hf
        refine o_aload_n K 0 dX1_carryScent_176 rfl rfl ?_
        refine gC_X1_32 hb K dX1_carryScent_177 ?_
        refine o_iload K 4 dX1_carryScent_180 rfl ?_
        refine o_dup2 K dX1_carryScent_182 rfl rfl ?_
        obtain ⟨g38, x37, ex37, hf⟩ := rd_e hf
        refine lCh hb 13 8 (by decide) (fun _ => rfl) K g38 dX1_carryScent_183 ?_
        refine o_nmi ex37 ?_
        refine o_iload K 7 dX1_carryScent_184 rfl ?_
        refine o_iadd K dX1_carryScent_186 ?_
        obtain ⟨g39, M40, eM40, hf⟩ := wr_e hf
        refine sCh hb 13 8 (by decide) (fun _ => rfl) K g39 dX1_carryScent_187 ?_
        refine o_nmM eM40 ?_
        refine o_drop [true, true, false, false, false, false, false, false] (V2 := [some (.ref (h (HB b))), some (.int a0), none, none, none, none, none, none]) rfl ?_
        exact t_X1_carryScent_j188 K hR hb ih17 a0 M40 hf
def f_X1_carryScent_j68 (b : Nat) (rec17 : Int32 → Mem → Option Mem) (a0 : Int32) (a1 : Int32) (a2 : Int32) (M : Mem) : Option Mem := if a1 = 0 then (rd M (HB b + 3) 10 a0 fun x13 => f_X1_carryScent_j94 b rec17 a0 a2 x13 M) else rd M (HB b + 4) 10 a0 fun x15 => f_X1_carryScent_j94 b rec17 a0 a2 x15 M
set_option maxHeartbeats 4000000 in
set_option maxRecDepth 100000 in
theorem t_X1_carryScent_j68 {x : En} {E : Amd} {D : va_G} {ca : Nat → ClassId} {h : Nat → Nat} {nl : Nat} {b : Nat} (K : Kx x E D (tysOf ca) h (LaC ca h nl) RX1 cX1_carryScent 8 1 27) {Mo : Mem} (hR : Rt x D h (LaC ca h nl) none none Mo) (hb : b < 3) {rec17 : Int32 → Mem → Option Mem} (ih17 : ∀ (w0 : Int32) (M : Mem), rec17 w0 M = some Mo → Go x D (tysOf ca) h (LaC ca h nl) 8 M 17 [some (.ref (h (HB b))), some (.int w0), none, none, none, none, none, none] []) (a0 : Int32) (a1 : Int32) (a2 : Int32) (M : Mem) (hf : f_X1_carryScent_j68 b rec17 a0 a1 a2 M = some Mo) : Go x D (tysOf ca) h (LaC ca h nl) 8 M 68 [some (.ref (h (HB b))), some (.int a0), some (.int a1), none, none, none, none, none] [.int a2] := by
  rw [f_X1_carryScent_j68] at hf
  refine o_istore_n K 3 [some (.ref (h (HB b))), some (.int a0), some (.int a1), some (.int a2), none, none, none, none] dX1_carryScent_68 rfl (by decide) rfl rfl ?_
  refine o_iload_n K 2 dX1_carryScent_69 rfl rfl ?_
  refine o_if_eq K 85 dX1_carryScent_70 (by decide) (fun c12 => ?_) (fun c12 => ?_)
  · have hf := ip c12 hf
    refine o_aload_n K 0 dX1_carryScent_85 rfl rfl ?_
    refine gC_X1_12 hb K dX1_carryScent_86 ?_
    refine gC_X1_105 hb K dX1_carryScent_89 ?_
    refine o_iload_n K 1 dX1_carryScent_92 rfl rfl ?_
    obtain ⟨g14, x13, ex13, hf⟩ := rd_e hf
    refine lCh hb 3 10 (by decide) (fun _ => rfl) K g14 dX1_carryScent_93 ?_
    refine o_nmi ex13 ?_
    refine o_drop [true, true, false, true, false, false, false, false] (V2 := [some (.ref (h (HB b))), some (.int a0), none, some (.int a2), none, none, none, none]) rfl ?_
    exact t_X1_carryScent_j94 K hR hb ih17 a0 a2 x13 M hf
  · have hf := im c12 hf
    refine o_aload_n K 0 dX1_carryScent_73 rfl rfl ?_
    refine gC_X1_12 hb K dX1_carryScent_74 ?_
    refine gC_X1_108 hb K dX1_carryScent_77 ?_
    refine o_iload_n K 1 dX1_carryScent_80 rfl rfl ?_
    obtain ⟨g16, x15, ex15, hf⟩ := rd_e hf
    refine lCh hb 4 10 (by decide) (fun _ => rfl) K g16 dX1_carryScent_81 ?_
    refine o_nmi ex15 ?_
    refine o_goto K 94 dX1_carryScent_82 (by decide) ?_
    refine o_drop [true, true, false, true, false, false, false, false] (V2 := [some (.ref (h (HB b))), some (.int a0), none, some (.int a2), none, none, none, none]) rfl ?_
    exact t_X1_carryScent_j94 K hR hb ih17 a0 a2 x15 M hf
def f_X1_carryScent_j42 (b : Nat) (rec17 : Int32 → Mem → Option Mem) (a0 : Int32) (a1 : Int32) (M : Mem) : Option Mem := if a1 = 0 then (rd M (HB b + 4) 10 a0 fun x8 => f_X1_carryScent_j68 b rec17 a0 a1 x8 M) else rd M (HB b + 3) 10 a0 fun x10 => f_X1_carryScent_j68 b rec17 a0 a1 x10 M
set_option maxHeartbeats 4000000 in
set_option maxRecDepth 100000 in
theorem t_X1_carryScent_j42 {x : En} {E : Amd} {D : va_G} {ca : Nat → ClassId} {h : Nat → Nat} {nl : Nat} {b : Nat} (K : Kx x E D (tysOf ca) h (LaC ca h nl) RX1 cX1_carryScent 8 1 27) {Mo : Mem} (hR : Rt x D h (LaC ca h nl) none none Mo) (hb : b < 3) {rec17 : Int32 → Mem → Option Mem} (ih17 : ∀ (w0 : Int32) (M : Mem), rec17 w0 M = some Mo → Go x D (tysOf ca) h (LaC ca h nl) 8 M 17 [some (.ref (h (HB b))), some (.int w0), none, none, none, none, none, none] []) (a0 : Int32) (a1 : Int32) (M : Mem) (hf : f_X1_carryScent_j42 b rec17 a0 a1 M = some Mo) : Go x D (tysOf ca) h (LaC ca h nl) 8 M 42 [some (.ref (h (HB b))), some (.int a0), none, none, none, none, none, none] [.int a1] := by
  rw [f_X1_carryScent_j42] at hf
  refine o_istore_n K 2 [some (.ref (h (HB b))), some (.int a0), some (.int a1), none, none, none, none, none] dX1_carryScent_42 rfl (by decide) rfl rfl ?_
  refine o_iload_n K 2 dX1_carryScent_43 rfl rfl ?_
  refine o_if_eq K 59 dX1_carryScent_44 (by decide) (fun c7 => ?_) (fun c7 => ?_)
  · have hf := ip c7 hf
    refine o_aload_n K 0 dX1_carryScent_59 rfl rfl ?_
    refine gC_X1_12 hb K dX1_carryScent_60 ?_
    refine gC_X1_108 hb K dX1_carryScent_63 ?_
    refine o_iload_n K 1 dX1_carryScent_66 rfl rfl ?_
    obtain ⟨g9, x8, ex8, hf⟩ := rd_e hf
    refine lCh hb 4 10 (by decide) (fun _ => rfl) K g9 dX1_carryScent_67 ?_
    refine o_nmi ex8 ?_
    exact t_X1_carryScent_j68 K hR hb ih17 a0 a1 x8 M hf
  · have hf := im c7 hf
    refine o_aload_n K 0 dX1_carryScent_47 rfl rfl ?_
    refine gC_X1_12 hb K dX1_carryScent_48 ?_
    refine gC_X1_105 hb K dX1_carryScent_51 ?_
    refine o_iload_n K 1 dX1_carryScent_54 rfl rfl ?_
    obtain ⟨g11, x10, ex10, hf⟩ := rd_e hf
    refine lCh hb 3 10 (by decide) (fun _ => rfl) K g11 dX1_carryScent_55 ?_
    refine o_nmi ex10 ?_
    refine o_goto K 68 dX1_carryScent_56 (by decide) ?_
    exact t_X1_carryScent_j68 K hR hb ih17 a0 a1 x10 M hf
def f_X1_carryScent_l17 (b : Nat) : Nat → Int32 → Mem → Option Mem
  | 0, _, _ => none
  | n + 1, a0, M => if (M (HB b + 1) 0) ≤ a0 then (some M) else rd M (HB b + 14) 10 a0 fun x4 => if x4 ≤ 0 then (f_X1_carryScent_j42 b (f_X1_carryScent_l17 b n) a0 (0 : Int32) M) else f_X1_carryScent_j42 b (f_X1_carryScent_l17 b n) a0 (1 : Int32) M
set_option maxHeartbeats 4000000 in
set_option maxRecDepth 100000 in
theorem t_X1_carryScent_l17 {x : En} {E : Amd} {D : va_G} {ca : Nat → ClassId} {h : Nat → Nat} {nl : Nat} {b : Nat} (K : Kx x E D (tysOf ca) h (LaC ca h nl) RX1 cX1_carryScent 8 1 27) {Mo : Mem} (hR : Rt x D h (LaC ca h nl) none none Mo) (hb : b < 3) : ∀ (n : Nat) (a0 : Int32) (M : Mem), f_X1_carryScent_l17 b n a0 M = some Mo → Go x D (tysOf ca) h (LaC ca h nl) 8 M 17 [some (.ref (h (HB b))), some (.int a0), none, none, none, none, none, none] [] := by
  intro n
  induction n with
  | zero =>
    intro a0 M hf
    cases hf
  | succ n ih =>
    intro a0 M hf
    rw [f_X1_carryScent_l17] at hf
    refine o_iload_n K 1 dX1_carryScent_17 rfl rfl ?_
    refine o_aload_n K 0 dX1_carryScent_18 rfl rfl ?_
    refine gC_X1_12 hb K dX1_carryScent_19 ?_
    refine gC_X1_116 hb K dX1_carryScent_22 ?_
    refine o_icmp_ge K 194 dX1_carryScent_25 (by decide) (fun c3 => ?_) (fun c3 => ?_)
    · have hf := ip c3 hf
      exact e_vret K hf hR dX1_carryScent_194
    · have hf := im c3 hf
      refine o_aload_n K 0 dX1_carryScent_28 rfl rfl ?_
      refine gC_X1_39 hb K dX1_carryScent_29 ?_
      refine o_iload_n K 1 dX1_carryScent_32 rfl rfl ?_
      obtain ⟨g5, x4, ex4, hf⟩ := rd_e hf
      refine lCh hb 14 10 (by decide) (fun _ => rfl) K g5 dX1_carryScent_33 ?_
      refine o_nmi ex4 ?_
      refine o_if_le K 41 dX1_carryScent_34 (by decide) (fun c6 => ?_) (fun c6 => ?_)
      · have hf := ip c6 hf
        refine o_iconst K 0 dX1_carryScent_41 (by decide) ?_
        exact t_X1_carryScent_j42 K hR hb ih a0 (0 : Int32) M hf
      · have hf := im c6 hf
        refine o_iconst K 1 dX1_carryScent_37 (by decide) ?_
        refine o_goto K 42 dX1_carryScent_38 (by decide) ?_
        exact t_X1_carryScent_j42 K hR hb ih a0 (1 : Int32) M hf
def f_X1_carryScent (b : Nat) (M : Mem) : Option Mem := cp M (HB b + 13) 8 0 (HB b + 16) 8 0 8 fun M1 => f_X1_carryScent_l17 b FU (0 : Int32) M1
set_option maxHeartbeats 4000000 in
set_option maxRecDepth 100000 in
theorem k_X1_carryScent (l : Launch) (E : Amd) (D : va_G) (ca : Nat → ClassId) (h : Nat → Nat) (nl : Nat) (M : Mem) (b : Nat) {Mo : Mem} (hb : b < 3) (hf : f_X1_carryScent b M = some Mo) : Ct l E D (tysOf ca) h (LaC ca h nl) yX1_carryScent cX1_carryScent 8 none 1 27 [.ref (h (HB b))] M none Mo := by
  refine Ct.mk [some (.ref (h (HB b))), none, none, none, none, none, none, none] (by decide) (Nat.le_of_ble_eq_true rfl) (argsV [.ref (h (HB b))] 7 rfl rfl) ?_
  intro x hx0 K hR
  have K : Kx x E D (tysOf ca) h (LaC ca h nl) RX1 cX1_carryScent 8 1 27 := K
  rw [f_X1_carryScent] at hf
  refine o_aload_n K 0 dX1_carryScent_0 rfl rfl ?_
  refine gC_X1_32 hb K dX1_carryScent_1 ?_
  refine o_iconst K 0 dX1_carryScent_4 (by decide) ?_
  refine o_aload_n K 0 dX1_carryScent_5 rfl rfl ?_
  refine gC_X1_45 hb K dX1_carryScent_6 ?_
  refine o_iconst K 0 dX1_carryScent_9 (by decide) ?_
  refine o_bipush K 8 dX1_carryScent_10 (by decide) ?_
  obtain ⟨g2, M1, eM1, hf⟩ := cp_e hf
  refine o_copy K 0 0 (ltC (ltB hb (show 13 < 17 by decide))) ((fun r => c_hall hb 13 (by decide) r) _) (ltC (ltB hb (show 16 < 17 by decide))) (fun r => c_hall hb 16 (by decide) r) rfl rfl q468 q470 q469 q15 g2 ⟨by decide, by decide⟩ (Nat.le_of_ble_eq_true rfl) dX1_carryScent_12 ?_
  refine o_nmM eM1 ?_
  refine o_iconst K 0 dX1_carryScent_15 (by decide) ?_
  refine o_istore_n K 1 [some (.ref (h (HB b))), some (.int 0), none, none, none, none, none, none] dX1_carryScent_16 rfl (by decide) rfl rfl ?_
  exact t_X1_carryScent_l17 K hR hb FU (0 : Int32) M1 hf
