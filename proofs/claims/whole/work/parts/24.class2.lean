def f_X4_readKey (M : Mem) : Option Mem := bd (f_X4_isWord 0 M) fun r1 => if r1 = 0 then (bd (f_X4_isWord 1 M) fun r3 => if r3 = 0 then (bd (f_X4_isWord 2 M) fun r5 => if r5 = 0 then (nm (sto M 54 9 (M 54 2)) fun M7 => some M7) else nm (sto M 54 5 2) fun M8 => bd (f_X4_step M8) fun M10 => some M10) else nm (sto M 54 5 1) fun M11 => bd (f_X4_step M11) fun M13 => some M13) else nm (sto M 54 5 0) fun M14 => bd (f_X4_step M14) fun M16 => some M16
set_option maxHeartbeats 4000000 in
set_option maxRecDepth 100000 in
theorem k_X4_readKey (l : Launch) (E : Amd) (D : va_G) (ca : Nat → ClassId) (h : Nat → Nat) (nl : Nat) (M : Mem) {Mo : Mem} (hf : f_X4_readKey M = some Mo) : Ct l E D (tysOf ca) h (LaC ca h nl) yX4_readKey cX4_readKey 1 none 5 107 [.ref (h 54)] M none Mo := by
  refine Ct.mk [some (.ref (h 54))] (by decide) (Nat.le_of_ble_eq_true rfl) (argsV [.ref (h 54)] 0 rfl rfl) ?_
  intro x hx0 K hR
  have K : Kx x E D (tysOf ca) h (LaC ca h nl) RX4 cX4_readKey 1 5 107 := K
  rw [f_X4_readKey] at hf
  refine o_aload_n K 0 dX4_readKey_0 rfl rfl ?_
  refine o_ldcS K 0 rfl dX4_readKey_1 ?_
  obtain ⟨r1, er1, hf⟩ := bd_e hf
  refine o_callV K [.ref (E.1 0)] (k_X4_isWord x.2.1 E D ca h nl M 0 (by decide) er1) s_X4_68 (ltReader) (obReader_c (ca := ca) (h := h) _) rfl rfl rfl ⟨by decide, by decide⟩ (Nat.le_of_ble_eq_true rfl) _ rfl dX4_readKey_3 ?_
  show Go x D (tysOf ca) h (LaC ca h nl) 1 M 6 [some (.ref (h 54))] [.int r1]
  refine o_if_eq K 17 dX4_readKey_6 (by decide) (fun c2 => ?_) (fun c2 => ?_)
  · have hf := ip c2 hf
    refine o_aload_n K 0 dX4_readKey_17 rfl rfl ?_
    refine o_ldcS K 1 rfl dX4_readKey_18 ?_
    obtain ⟨r3, er3, hf⟩ := bd_e hf
    refine o_callV K [.ref (E.1 1)] (k_X4_isWord x.2.1 E D ca h nl M 1 (by decide) er3) s_X4_68 (ltReader) (obReader_c (ca := ca) (h := h) _) rfl rfl rfl ⟨by decide, by decide⟩ (Nat.le_of_ble_eq_true rfl) _ rfl dX4_readKey_20 ?_
    show Go x D (tysOf ca) h (LaC ca h nl) 1 M 23 [some (.ref (h 54))] [.int r3]
    refine o_if_eq K 34 dX4_readKey_23 (by decide) (fun c4 => ?_) (fun c4 => ?_)
    · have hf := ip c4 hf
      refine o_aload_n K 0 dX4_readKey_34 rfl rfl ?_
      refine o_ldcS K 2 rfl dX4_readKey_35 ?_
      obtain ⟨r5, er5, hf⟩ := bd_e hf
      refine o_callV K [.ref (E.1 2)] (k_X4_isWord x.2.1 E D ca h nl M 2 (by decide) er5) s_X4_68 (ltReader) (obReader_c (ca := ca) (h := h) _) rfl rfl rfl ⟨by decide, by decide⟩ (Nat.le_of_ble_eq_true rfl) _ rfl dX4_readKey_37 ?_
      show Go x D (tysOf ca) h (LaC ca h nl) 1 M 40 [some (.ref (h 54))] [.int r5]
      refine o_if_eq K 51 dX4_readKey_40 (by decide) (fun c6 => ?_) (fun c6 => ?_)
      · have hf := ip c6 hf
        refine o_aload_n K 0 dX4_readKey_51 rfl rfl ?_
        refine o_aload_n K 0 dX4_readKey_52 rfl rfl ?_
        refine gC_X4_49 K dX4_readKey_53 ?_
        obtain ⟨M7, eM7, hf⟩ := nm_o hf
        refine pC_X4_36 K dX4_readKey_56 ?_
        refine o_nmM eM7 ?_
        exact e_vret K hf hR dX4_readKey_59
      · have hf := im c6 hf
        refine o_aload_n K 0 dX4_readKey_43 rfl rfl ?_
        refine o_iconst K 2 dX4_readKey_44 (by decide) ?_
        obtain ⟨M8, eM8, hf⟩ := nm_o hf
        refine pC_X4_54 K dX4_readKey_45 ?_
        refine o_nmM eM8 ?_
        refine o_goto K 60 dX4_readKey_48 (by decide) ?_
        refine o_aload_n K 0 dX4_readKey_60 rfl rfl ?_
        obtain ⟨M10, er9, hf⟩ := bd_e hf
        refine o_callV K [] (k_X4_step x.2.1 E D ca h nl M8 er9) s_X4_39 (ltReader) (obReader_c (ca := ca) (h := h) _) rfl rfl rfl ⟨by decide, by decide⟩ (Nat.le_of_ble_eq_true rfl) _ rfl dX4_readKey_61 ?_
        show Go x D (tysOf ca) h (LaC ca h nl) 1 M10 64 [some (.ref (h 54))] []
        exact e_vret K hf hR dX4_readKey_64
    · have hf := im c4 hf
      refine o_aload_n K 0 dX4_readKey_26 rfl rfl ?_
      refine o_iconst K 1 dX4_readKey_27 (by decide) ?_
      obtain ⟨M11, eM11, hf⟩ := nm_o hf
      refine pC_X4_54 K dX4_readKey_28 ?_
      refine o_nmM eM11 ?_
      refine o_goto K 60 dX4_readKey_31 (by decide) ?_
      refine o_aload_n K 0 dX4_readKey_60 rfl rfl ?_
      obtain ⟨M13, er12, hf⟩ := bd_e hf
      refine o_callV K [] (k_X4_step x.2.1 E D ca h nl M11 er12) s_X4_39 (ltReader) (obReader_c (ca := ca) (h := h) _) rfl rfl rfl ⟨by decide, by decide⟩ (Nat.le_of_ble_eq_true rfl) _ rfl dX4_readKey_61 ?_
      show Go x D (tysOf ca) h (LaC ca h nl) 1 M13 64 [some (.ref (h 54))] []
      exact e_vret K hf hR dX4_readKey_64
  · have hf := im c2 hf
    refine o_aload_n K 0 dX4_readKey_9 rfl rfl ?_
    refine o_iconst K 0 dX4_readKey_10 (by decide) ?_
    obtain ⟨M14, eM14, hf⟩ := nm_o hf
    refine pC_X4_54 K dX4_readKey_11 ?_
    refine o_nmM eM14 ?_
    refine o_goto K 60 dX4_readKey_14 (by decide) ?_
    refine o_aload_n K 0 dX4_readKey_60 rfl rfl ?_
    obtain ⟨M16, er15, hf⟩ := bd_e hf
    refine o_callV K [] (k_X4_step x.2.1 E D ca h nl M14 er15) s_X4_39 (ltReader) (obReader_c (ca := ca) (h := h) _) rfl rfl rfl ⟨by decide, by decide⟩ (Nat.le_of_ble_eq_true rfl) _ rfl dX4_readKey_61 ?_
    show Go x D (tysOf ca) h (LaC ca h nl) 1 M16 64 [some (.ref (h 54))] []
    exact e_vret K hf hR dX4_readKey_64
def f_X4_signsOf (a1 : Int32) : Option Nat := if a1 = 0 then (some 12) else if a1 = 1 then (some 13) else if a1 = 2 then (some 14) else if a1 = 3 then (some 15) else some 16
set_option maxHeartbeats 4000000 in
set_option maxRecDepth 100000 in
theorem k_X4_signsOf (l : Launch) (E : Amd) (D : va_G) (ca : Nat → ClassId) (h : Nat → Nat) (nl : Nat) (M : Mem) (a1 : Int32) {r0 : Nat} (hf : f_X4_signsOf a1 = some r0) : Ct l E D (tysOf ca) h (LaC ca h nl) yX4_signsOf cX4_signsOf 1 (some (.object "java/lang/String")) 0 0 [.int a1] M (some (.ref (E.1 r0))) M := by
  refine Ct.mk [some (.int a1)] (by decide) (Nat.le_of_ble_eq_true rfl) (argsV [.int a1] 0 rfl rfl) ?_
  intro x hx0 K hR
  have K : Kx x E D (tysOf ca) h (LaC ca h nl) RX4 cX4_signsOf 1 0 0 := K
  rw [f_X4_signsOf] at hf
  refine o_iload_n K 0 dX4_signsOf_0 rfl rfl ?_
  by_cases c1 : a1 = 0
  · have hf := ip c1 hf
    refine o_table K 32 dX4_signsOf_1 (by decide) (by rw [c1]; try decide) (by decide) ?_
    refine o_ldcS K 12 rfl dX4_signsOf_32 ?_
    exact s_aret K hf hR dX4_signsOf_34
  have hf := im c1 hf
  by_cases c2 : a1 = 1
  · have hf := ip c2 hf
    refine o_table K 35 dX4_signsOf_1 (by decide) (by rw [c2]; try decide) (by decide) ?_
    refine o_ldcS K 13 rfl dX4_signsOf_35 ?_
    exact s_aret K hf hR dX4_signsOf_37
  have hf := im c2 hf
  by_cases c3 : a1 = 2
  · have hf := ip c3 hf
    refine o_table K 38 dX4_signsOf_1 (by decide) (by rw [c3]; try decide) (by decide) ?_
    refine o_ldcS K 14 rfl dX4_signsOf_38 ?_
    exact s_aret K hf hR dX4_signsOf_40
  have hf := im c3 hf
  by_cases c4 : a1 = 3
  · have hf := ip c4 hf
    refine o_table K 41 dX4_signsOf_1 (by decide) (by rw [c4]; try decide) (by decide) ?_
    refine o_ldcS K 15 rfl dX4_signsOf_41 ?_
    exact s_aret K hf hR dX4_signsOf_43
  have hf := im c4 hf
  refine o_table K 44 dX4_signsOf_1 (by decide) (tsel_d [0, 1, 2, 3] (List.forall_mem_cons.mpr ⟨lv_neT c1 rfl, (List.forall_mem_cons.mpr ⟨lv_neT c2 rfl, (List.forall_mem_cons.mpr ⟨lv_neT c3 rfl, (List.forall_mem_cons.mpr ⟨lv_neT c4 rfl, (List.forall_mem_nil _)⟩)⟩)⟩)⟩) (by decide)) (by decide) ?_
  refine o_ldcS K 16 rfl dX4_signsOf_44 ?_
  exact s_aret K hf hR dX4_signsOf_46
def f_X4_isSignOf (s1 : Nat) (M : Mem) : Option Int32 := if (M 54 4) = 3 then (rd M 53 96 (M 54 2) fun x2 => bd (f_J0_indexOf_0f7a4 s1 M (((x2 &&& 255).toUInt32 % 65536).toInt32)) fun r4 => if r4 < 0 then (some ((0 : Int32))) else some ((1 : Int32))) else some ((0 : Int32))
set_option maxHeartbeats 4000000 in
set_option maxRecDepth 100000 in
theorem k_X4_isSignOf (l : Launch) (E : Amd) (D : va_G) (ca : Nat → ClassId) (h : Nat → Nat) (nl : Nat) (M : Mem) (s1 : Nat) {r0 : Int32} (hs1 : s1 < 17) (hf : f_X4_isSignOf s1 M = some r0) : Ct l E D (tysOf ca) h (LaC ca h nl) yX4_isSignOf cX4_isSignOf 2 (some .boolean) 4 93 [.ref (h 54), .ref (E.1 s1)] M (some (.int r0)) M := by
  refine Ct.mk [some (.ref (h 54)), some (.ref (E.1 s1))] (by decide) (Nat.le_of_ble_eq_true rfl) (argsV [.ref (h 54), .ref (E.1 s1)] 0 rfl rfl) ?_
  intro x hx0 K hR
  have K : Kx x E D (tysOf ca) h (LaC ca h nl) RX4 cX4_isSignOf 2 4 93 := K
  rw [f_X4_isSignOf] at hf
  refine o_aload_n K 0 dX4_isSignOf_0 rfl rfl ?_
  refine gC_X4_26 K dX4_isSignOf_1 ?_
  refine o_iconst K 3 dX4_isSignOf_4 (by decide) ?_
  refine o_icmp_ne K 33 dX4_isSignOf_5 (by decide) (fun c1 => ?_) (fun c1 => ?_)
  · have hf := im c1 hf
    refine o_iconst K 0 dX4_isSignOf_33 (by decide) ?_
    exact r_zret K hf hR (by decide) dX4_isSignOf_34
  · have hf := ip c1 hf
    refine o_aload_n K 1 dX4_isSignOf_8 rfl rfl ?_
    refine o_aload_n K 0 dX4_isSignOf_9 rfl rfl ?_
    refine gC_X4_9 K dX4_isSignOf_10 ?_
    refine o_aload_n K 0 dX4_isSignOf_13 rfl rfl ?_
    refine gC_X4_49 K dX4_isSignOf_14 ?_
    obtain ⟨g3, x2, ex2, hf⟩ := rd_e hf
    refine lCb K g3 dX4_isSignOf_17 ?_
    refine o_nmi ex2 ?_
    refine o_sipush K 255 dX4_isSignOf_18 (by decide) ?_
    refine o_iand K dX4_isSignOf_21 ?_
    refine o_i2c K dX4_isSignOf_22 ?_
    obtain ⟨r4, er4, hf⟩ := bd_e hf
    refine o_callVs K [.int (((x2 &&& 255).toUInt32 % 65536).toInt32)] (k_J0_indexOf_0f7a4 x.2.1 E D ca h nl M s1 (((x2 &&& 255).toUInt32 % 65536).toInt32) hs1 er4) s_X4_146 hs1 rfl rfl ⟨by decide, by decide⟩ (Nat.le_of_ble_eq_true rfl) _ rfl dX4_isSignOf_23 ?_
    show Go x D (tysOf ca) h (LaC ca h nl) 2 M 26 [some (.ref (h 54)), some (.ref (E.1 s1))] [.int r4]
    refine o_if_lt K 33 dX4_isSignOf_26 (by decide) (fun c5 => ?_) (fun c5 => ?_)
    · have hf := ip c5 hf
      refine o_iconst K 0 dX4_isSignOf_33 (by decide) ?_
      exact r_zret K hf hR (by decide) dX4_isSignOf_34
    · have hf := im c5 hf
      refine o_iconst K 1 dX4_isSignOf_29 (by decide) ?_
      refine o_goto K 34 dX4_isSignOf_30 (by decide) ?_
      exact r_zret K hf hR (by decide) dX4_isSignOf_34
def f_X4_closeBracket (M : Mem) : Option Mem := if (M 54 9) = (-1000000005) then (bd (f_X4_isSignOf 11 M) fun r2 => if r2 = 0 then (nm (sto M 54 9 (M 54 2)) fun M4 => some M4) else bd (f_X4_step M) fun M6 => some M6) else some M
set_option maxHeartbeats 4000000 in
set_option maxRecDepth 100000 in
theorem k_X4_closeBracket (l : Launch) (E : Amd) (D : va_G) (ca : Nat → ClassId) (h : Nat → Nat) (nl : Nat) (M : Mem) {Mo : Mem} (hf : f_X4_closeBracket M = some Mo) : Ct l E D (tysOf ca) h (LaC ca h nl) yX4_closeBracket cX4_closeBracket 1 none 5 114 [.ref (h 54)] M none Mo := by
  refine Ct.mk [some (.ref (h 54))] (by decide) (Nat.le_of_ble_eq_true rfl) (argsV [.ref (h 54)] 0 rfl rfl) ?_
  intro x hx0 K hR
  have K : Kx x E D (tysOf ca) h (LaC ca h nl) RX4 cX4_closeBracket 1 5 114 := K
  rw [f_X4_closeBracket] at hf
  refine o_aload_n K 0 dX4_closeBracket_0 rfl rfl ?_
  refine gC_X4_36 K dX4_closeBracket_1 ?_
  refine o_ldc K q654 dX4_closeBracket_4 ?_
  refine o_icmp_eq K 10 dX4_closeBracket_6 (by decide) (fun c1 => ?_) (fun c1 => ?_)
  · have hf := ip c1 hf
    refine o_aload_n K 0 dX4_closeBracket_10 rfl rfl ?_
    refine o_ldcS K 11 rfl dX4_closeBracket_11 ?_
    obtain ⟨r2, er2, hf⟩ := bd_e hf
    refine o_callV K [.ref (E.1 11)] (k_X4_isSignOf x.2.1 E D ca h nl M 11 (by decide) er2) s_X4_96 (ltReader) (obReader_c (ca := ca) (h := h) _) rfl rfl rfl ⟨by decide, by decide⟩ (Nat.le_of_ble_eq_true rfl) _ rfl dX4_closeBracket_13 ?_
    show Go x D (tysOf ca) h (LaC ca h nl) 1 M 16 [some (.ref (h 54))] [.int r2]
    refine o_if_eq K 26 dX4_closeBracket_16 (by decide) (fun c3 => ?_) (fun c3 => ?_)
    · have hf := ip c3 hf
      refine o_aload_n K 0 dX4_closeBracket_26 rfl rfl ?_
      refine o_aload_n K 0 dX4_closeBracket_27 rfl rfl ?_
      refine gC_X4_49 K dX4_closeBracket_28 ?_
      obtain ⟨M4, eM4, hf⟩ := nm_o hf
      refine pC_X4_36 K dX4_closeBracket_31 ?_
      refine o_nmM eM4 ?_
      exact e_vret K hf hR dX4_closeBracket_34
    · have hf := im c3 hf
      refine o_aload_n K 0 dX4_closeBracket_19 rfl rfl ?_
      obtain ⟨M6, er5, hf⟩ := bd_e hf
      refine o_callV K [] (k_X4_step x.2.1 E D ca h nl M er5) s_X4_39 (ltReader) (obReader_c (ca := ca) (h := h) _) rfl rfl rfl ⟨by decide, by decide⟩ (Nat.le_of_ble_eq_true rfl) _ rfl dX4_closeBracket_20 ?_
      show Go x D (tysOf ca) h (LaC ca h nl) 1 M6 23 [some (.ref (h 54))] []
      refine o_goto K 34 dX4_closeBracket_23 (by decide) ?_
      exact e_vret K hf hR dX4_closeBracket_34
  · have hf := im c1 hf
    exact e_vret K hf hR dX4_closeBracket_9
def f_X4_firstName (M : Mem) : Option Nat := if (M 54 5) = 0 then (some 3) else if (M 54 5) = 1 then (some 4) else some 5
set_option maxHeartbeats 4000000 in
set_option maxRecDepth 100000 in
theorem k_X4_firstName (l : Launch) (E : Amd) (D : va_G) (ca : Nat → ClassId) (h : Nat → Nat) (nl : Nat) (M : Mem) {r0 : Nat} (hf : f_X4_firstName M = some r0) : Ct l E D (tysOf ca) h (LaC ca h nl) yX4_firstName cX4_firstName 1 (some (.object "java/lang/String")) 0 0 [.ref (h 54)] M (some (.ref (E.1 r0))) M := by
  refine Ct.mk [some (.ref (h 54))] (by decide) (Nat.le_of_ble_eq_true rfl) (argsV [.ref (h 54)] 0 rfl rfl) ?_
  intro x hx0 K hR
  have K : Kx x E D (tysOf ca) h (LaC ca h nl) RX4 cX4_firstName 1 0 0 := K
  rw [f_X4_firstName] at hf
  refine o_aload_n K 0 dX4_firstName_0 rfl rfl ?_
  refine gC_X4_54 K dX4_firstName_1 ?_
  refine o_if_ne K 12 dX4_firstName_4 (by decide) (fun c1 => ?_) (fun c1 => ?_)
  · have hf := im c1 hf
    refine o_aload_n K 0 dX4_firstName_12 rfl rfl ?_
    refine gC_X4_54 K dX4_firstName_13 ?_
    refine o_iconst K 1 dX4_firstName_16 (by decide) ?_
    refine o_icmp_ne K 25 dX4_firstName_17 (by decide) (fun c2 => ?_) (fun c2 => ?_)
    · have hf := im c2 hf
      refine o_ldcS K 5 rfl dX4_firstName_25 ?_
      exact s_aret K hf hR dX4_firstName_27
    · have hf := ip c2 hf
      refine o_ldcS K 4 rfl dX4_firstName_20 ?_
      refine o_goto K 27 dX4_firstName_22 (by decide) ?_
      exact s_aret K hf hR dX4_firstName_27
  · have hf := ip c1 hf
    refine o_ldcS K 3 rfl dX4_firstName_7 ?_
    refine o_goto K 27 dX4_firstName_9 (by decide) ?_
    exact s_aret K hf hR dX4_firstName_27
def f_X4_secondName (M : Mem) : Option Nat := if (M 54 5) = 0 then (some 6) else if (M 54 5) = 1 then (some 7) else some 8
set_option maxHeartbeats 4000000 in
set_option maxRecDepth 100000 in
theorem k_X4_secondName (l : Launch) (E : Amd) (D : va_G) (ca : Nat → ClassId) (h : Nat → Nat) (nl : Nat) (M : Mem) {r0 : Nat} (hf : f_X4_secondName M = some r0) : Ct l E D (tysOf ca) h (LaC ca h nl) yX4_secondName cX4_secondName 1 (some (.object "java/lang/String")) 0 0 [.ref (h 54)] M (some (.ref (E.1 r0))) M := by
  refine Ct.mk [some (.ref (h 54))] (by decide) (Nat.le_of_ble_eq_true rfl) (argsV [.ref (h 54)] 0 rfl rfl) ?_
  intro x hx0 K hR
  have K : Kx x E D (tysOf ca) h (LaC ca h nl) RX4 cX4_secondName 1 0 0 := K
  rw [f_X4_secondName] at hf
  refine o_aload_n K 0 dX4_secondName_0 rfl rfl ?_
  refine gC_X4_54 K dX4_secondName_1 ?_
  refine o_if_ne K 12 dX4_secondName_4 (by decide) (fun c1 => ?_) (fun c1 => ?_)
  · have hf := im c1 hf
    refine o_aload_n K 0 dX4_secondName_12 rfl rfl ?_
    refine gC_X4_54 K dX4_secondName_13 ?_
    refine o_iconst K 1 dX4_secondName_16 (by decide) ?_
    refine o_icmp_ne K 25 dX4_secondName_17 (by decide) (fun c2 => ?_) (fun c2 => ?_)
    · have hf := im c2 hf
      refine o_ldcS K 8 rfl dX4_secondName_25 ?_
      exact s_aret K hf hR dX4_secondName_27
    · have hf := ip c2 hf
      refine o_ldcS K 7 rfl dX4_secondName_20 ?_
      refine o_goto K 27 dX4_secondName_22 (by decide) ?_
      exact s_aret K hf hR dX4_secondName_27
  · have hf := ip c1 hf
    refine o_ldcS K 6 rfl dX4_secondName_7 ?_
    refine o_goto K 27 dX4_secondName_9 (by decide) ?_
    exact s_aret K hf hR dX4_secondName_27
def f_X4_numberRead_l7 : Nat → Int32 → Int32 → Mem → Option Int32
  | 0, _, _, _ => none
  | n + 1, a0, a1, M => if (M 54 3) ≤ a1 then (some (a0)) else rd M 53 96 a1 fun x3 => nm (((a0 * 10) + x3) - 48 : Int32) fun x5 => nm (a1 + 1 : Int32) fun x6 => f_X4_numberRead_l7 n x5 x6 M
set_option maxHeartbeats 4000000 in
set_option maxRecDepth 100000 in
theorem t_X4_numberRead_l7 {x : En} {E : Amd} {D : va_G} {ca : Nat → ClassId} {h : Nat → Nat} {nl : Nat} {M : Mem} (K : Kx x E D (tysOf ca) h (LaC ca h nl) RX4 cX4_numberRead 3 0 0) {r0 : Int32} (hR : Rt x D h (LaC ca h nl) (some .int) (some (.int r0)) M) : ∀ (n : Nat) (a0 : Int32) (a1 : Int32), f_X4_numberRead_l7 n a0 a1 M = some r0 → Go x D (tysOf ca) h (LaC ca h nl) 3 M 7 [some (.ref (h 54)), some (.int a0), some (.int a1)] [] := by
  intro n
  induction n with
  | zero =>
    intro a0 a1 hf
    cases hf
  | succ n ih =>
    intro a0 a1 hf
    rw [f_X4_numberRead_l7] at hf
    refine o_iload_n K 2 dX4_numberRead_7 rfl rfl ?_
    refine o_aload_n K 0 dX4_numberRead_8 rfl rfl ?_
    refine gC_X4_23 K dX4_numberRead_9 ?_
    refine o_icmp_ge K 36 dX4_numberRead_12 (by decide) (fun c2 => ?_) (fun c2 => ?_)
    · have hf := ip c2 hf
      refine o_iload_n K 1 dX4_numberRead_36 rfl rfl ?_
      exact r_iret K hf hR dX4_numberRead_37
    · have hf := im c2 hf
      refine o_iload_n K 1 dX4_numberRead_15 rfl rfl ?_
      refine o_bipush K 10 dX4_numberRead_16 (by decide) ?_
      refine o_imul K dX4_numberRead_18 ?_
      refine o_aload_n K 0 dX4_numberRead_19 rfl rfl ?_
      refine gC_X4_9 K dX4_numberRead_20 ?_
      refine o_iload_n K 2 dX4_numberRead_23 rfl rfl ?_
      obtain ⟨g4, x3, ex3, hf⟩ := rd_e hf
      refine lCb K g4 dX4_numberRead_24 ?_
      refine o_nmi ex3 ?_
      refine o_iadd K dX4_numberRead_25 ?_
      refine o_bipush K 48 dX4_numberRead_26 (by decide) ?_
      refine o_isub K dX4_numberRead_28 ?_
      obtain ⟨x5, ex5, hf⟩ := nm_o hf
      refine o_nmi ex5 ?_
      refine o_istore_n K 1 [some (.ref (h 54)), some (.int x5), some (.int a1)] dX4_numberRead_29 rfl (by decide) rfl rfl ?_
      obtain ⟨x6, ex6, hf⟩ := nm_o hf
      refine o_iinc K 2 x6 [some (.ref (h 54)), some (.int x5), some (.int x6)] dX4_numberRead_30 rfl (inc_e (by decide) ex6) (by decide) rfl rfl ?_
      refine o_goto K 7 dX4_numberRead_33 (by decide) ?_
      exact ih x5 x6 hf
def f_X4_numberRead (M : Mem) : Option Int32 := nm (M 54 2 : Int32) fun x1 => f_X4_numberRead_l7 FU (0 : Int32) x1 M
set_option maxHeartbeats 4000000 in
set_option maxRecDepth 100000 in
theorem k_X4_numberRead (l : Launch) (E : Amd) (D : va_G) (ca : Nat → ClassId) (h : Nat → Nat) (nl : Nat) (M : Mem) {r0 : Int32} (hf : f_X4_numberRead M = some r0) : Ct l E D (tysOf ca) h (LaC ca h nl) yX4_numberRead cX4_numberRead 3 (some .int) 0 0 [.ref (h 54)] M (some (.int r0)) M := by
  refine Ct.mk [some (.ref (h 54)), none, none] (by decide) (Nat.le_of_ble_eq_true rfl) (argsV [.ref (h 54)] 2 rfl rfl) ?_
  intro x hx0 K hR
  have K : Kx x E D (tysOf ca) h (LaC ca h nl) RX4 cX4_numberRead 3 0 0 := K
  rw [f_X4_numberRead] at hf
  refine o_iconst K 0 dX4_numberRead_0 (by decide) ?_
  refine o_istore_n K 1 [some (.ref (h 54)), some (.int 0), none] dX4_numberRead_1 rfl (by decide) rfl rfl ?_
  refine o_aload_n K 0 dX4_numberRead_2 rfl rfl ?_
  refine gC_X4_49 K dX4_numberRead_3 ?_
  obtain ⟨x1, ex1, hf⟩ := nm_o hf
  refine o_nmi ex1 ?_
  refine o_istore_n K 2 [some (.ref (h 54)), some (.int 0), some (.int x1)] dX4_numberRead_6 rfl (by decide) rfl rfl ?_
  exact t_X4_numberRead_l7 K hR FU (0 : Int32) x1 hf
def f_X4_put (M : Mem) (a1 : Int32) : Option Mem := if (Int32.ofNat 96) ≤ (M 54 8) then (some M) else wr M 55 96 (M 54 8) a1 fun M3 => nm (sto M3 54 8 ((M3 54 8) + 1)) fun M4 => some M4
set_option maxHeartbeats 4000000 in
set_option maxRecDepth 100000 in
theorem k_X4_put (l : Launch) (E : Amd) (D : va_G) (ca : Nat → ClassId) (h : Nat → Nat) (nl : Nat) (M : Mem) (a1 : Int32) {Mo : Mem} (hf : f_X4_put M a1 = some Mo) : Ct l E D (tysOf ca) h (LaC ca h nl) yX4_put cX4_put 2 none 0 0 [.ref (h 54), .int a1] M none Mo := by
  refine Ct.mk [some (.ref (h 54)), some (.int a1)] (by decide) (Nat.le_of_ble_eq_true rfl) (argsV [.ref (h 54), .int a1] 0 rfl rfl) ?_
  intro x hx0 K hR
  have K : Kx x E D (tysOf ca) h (LaC ca h nl) RX4 cX4_put 2 0 0 := K
  rw [f_X4_put] at hf
  refine o_aload_n K 0 dX4_put_0 rfl rfl ?_
  refine gC_X4_32 K dX4_put_1 ?_
  refine o_aload_n K 0 dX4_put_4 rfl rfl ?_
  refine gC_X4_15 K dX4_put_5 ?_
  refine nCk 55 96 (by decide) (fun _ => rfl) K dX4_put_8 ?_
  refine o_icmp_ge K 32 dX4_put_9 (by decide) (fun c1 => ?_) (fun c1 => ?_)
  · have hf := ip c1 hf
    exact e_vret K hf hR dX4_put_32
  · have hf := im c1 hf
    refine o_aload_n K 0 dX4_put_12 rfl rfl ?_
    refine gC_X4_15 K dX4_put_13 ?_
    refine o_aload_n K 0 dX4_put_16 rfl rfl ?_
    refine gC_X4_32 K dX4_put_17 ?_
    refine o_iload_n K 1 dX4_put_20 rfl rfl ?_
    obtain ⟨g2, M3, eM3, hf⟩ := wr_e hf
    refine sCk 55 96 (by decide) (fun _ => rfl) K g2 dX4_put_21 ?_
    refine o_nmM eM3 ?_
    refine o_aload_n K 0 dX4_put_22 rfl rfl ?_
    refine o_dup K dX4_put_23 rfl ?_
    refine gC_X4_32 K dX4_put_24 ?_
    refine o_iconst K 1 dX4_put_27 (by decide) ?_
    refine o_iadd K dX4_put_28 ?_
    obtain ⟨M4, eM4, hf⟩ := nm_o hf
    refine pC_X4_32 K dX4_put_29 ?_
    refine o_nmM eM4 ?_
    exact e_vret K hf hR dX4_put_32
def f_X4_putLeaf (M : Mem) (a1 : Int32) : Option Mem := bd (f_X4_put M a1) fun M2 => nm (sto M2 54 6 ((M2 54 6) + 1)) fun M3 => bd (f_X4_step M3) fun M5 => some M5
set_option maxHeartbeats 4000000 in
set_option maxRecDepth 100000 in
theorem k_X4_putLeaf (l : Launch) (E : Amd) (D : va_G) (ca : Nat → ClassId) (h : Nat → Nat) (nl : Nat) (M : Mem) (a1 : Int32) {Mo : Mem} (hf : f_X4_putLeaf M a1 = some Mo) : Ct l E D (tysOf ca) h (LaC ca h nl) yX4_putLeaf cX4_putLeaf 2 none 2 44 [.ref (h 54), .int a1] M none Mo := by
  refine Ct.mk [some (.ref (h 54)), some (.int a1)] (by decide) (Nat.le_of_ble_eq_true rfl) (argsV [.ref (h 54), .int a1] 0 rfl rfl) ?_
  intro x hx0 K hR
  have K : Kx x E D (tysOf ca) h (LaC ca h nl) RX4 cX4_putLeaf 2 2 44 := K
  rw [f_X4_putLeaf] at hf
  refine o_aload_n K 0 dX4_putLeaf_0 rfl rfl ?_
  refine o_iload_n K 1 dX4_putLeaf_1 rfl rfl ?_
  obtain ⟨M2, er1, hf⟩ := bd_e hf
  refine o_callV K [.int a1] (k_X4_put x.2.1 E D ca h nl M a1 er1) s_X4_99 (ltReader) (obReader_c (ca := ca) (h := h) _) rfl rfl rfl ⟨by decide, by decide⟩ (Nat.le_of_ble_eq_true rfl) _ rfl dX4_putLeaf_2 ?_
  show Go x D (tysOf ca) h (LaC ca h nl) 2 M2 5 [some (.ref (h 54)), some (.int a1)] []
  refine o_aload_n K 0 dX4_putLeaf_5 rfl rfl ?_
  refine o_dup K dX4_putLeaf_6 rfl ?_
  refine gC_X4_29 K dX4_putLeaf_7 ?_
  refine o_iconst K 1 dX4_putLeaf_10 (by decide) ?_
  refine o_iadd K dX4_putLeaf_11 ?_
  obtain ⟨M3, eM3, hf⟩ := nm_o hf
  refine pC_X4_29 K dX4_putLeaf_12 ?_
  refine o_nmM eM3 ?_
  refine o_aload_n K 0 dX4_putLeaf_15 rfl rfl ?_
  obtain ⟨M5, er4, hf⟩ := bd_e hf
  refine o_callV K [] (k_X4_step x.2.1 E D ca h nl M3 er4) s_X4_39 (ltReader) (obReader_c (ca := ca) (h := h) _) rfl rfl rfl ⟨by decide, by decide⟩ (Nat.le_of_ble_eq_true rfl) _ rfl dX4_putLeaf_16 ?_
  show Go x D (tysOf ca) h (LaC ca h nl) 2 M5 19 [some (.ref (h 54)), some (.int a1)] []
  exact e_vret K hf hR dX4_putLeaf_19
def f_X5_workOutLets_j74 (nl : Nat) (b : Nat) (rec2 : Int32 → Mem → Option Mem) (rec10 : Int32 → Int32 → Mem → Option Mem) (rec38 : Int32 → Int32 → Int32 → Int32 → Mem → Option Mem) (a0 : Int32) (a1 : Int32) (a2 : Int32) (a3 : Int32) (a4 : Int32) (a5 : Int32) (a6 : Int32) (a7 : Int32) (a8 : Int32) (M : Mem) : Option Mem := bd (f_X2_letsOf a7 a6 a5 a4) fun r10 => wr M (HB b + 9) 120 a8 r10 fun M12 => nm (a3 + 1 : Int32) fun x13 => rec38 a0 a1 a2 x13 M12
set_option maxHeartbeats 4000000 in
set_option maxRecDepth 100000 in
theorem t_X5_workOutLets_j74 {x : En} {E : Amd} {D : va_G} {ca : Nat → ClassId} {h : Nat → Nat} {nl : Nat} {b : Nat} (K : Kx x E D (tysOf ca) h (LaC ca h nl) RX5 cX5_workOutLets 5 3 73) {Mo : Mem} (hR : Rt x D h (LaC ca h nl) none none Mo) (hb : b < 3) {rec2 : Int32 → Mem → Option Mem} {rec10 : Int32 → Int32 → Mem → Option Mem} {rec38 : Int32 → Int32 → Int32 → Int32 → Mem → Option Mem} (ih2 : ∀ (w0 : Int32) (M : Mem), rec2 w0 M = some Mo → Go x D (tysOf ca) h (LaC ca h nl) 5 M 2 [some (.ref (h (HB b + 6))), some (.int w0), none, none, none] []) (ih10 : ∀ (w0 : Int32) (w1 : Int32) (M : Mem), rec10 w0 w1 M = some Mo → Go x D (tysOf ca) h (LaC ca h nl) 5 M 10 [some (.ref (h (HB b + 6))), some (.int w0), some (.int w1), none, none] []) (ih38 : ∀ (w0 : Int32) (w1 : Int32) (w2 : Int32) (w3 : Int32) (M : Mem), rec38 w0 w1 w2 w3 M = some Mo → Go x D (tysOf ca) h (LaC ca h nl) 5 M 38 [some (.ref (h (HB b + 6))), some (.int w0), some (.int w1), some (.int w2), some (.int w3)] []) (a0 : Int32) (a1 : Int32) (a2 : Int32) (a3 : Int32) (a4 : Int32) (a5 : Int32) (a6 : Int32) (a7 : Int32) (a8 : Int32) (M : Mem) (hf : f_X5_workOutLets_j74 nl b rec2 rec10 rec38 a0 a1 a2 a3 a4 a5 a6 a7 a8 M = some Mo) : Go x D (tysOf ca) h (LaC ca h nl) 5 M 74 [some (.ref (h (HB b + 6))), some (.int a0), some (.int a1), some (.int a2), some (.int a3)] [.int a4, .int a5, .int a6, .int a7, .int a8, .ref (h (HB b + 9))] := by
  rw [f_X5_workOutLets_j74] at hf
  obtain ⟨r10, er10, hf⟩ := bd_e hf
  refine o_callS K [.int a7, .int a6, .int a5, .int a4] (k_X2_letsOf x.2.1 E D ca h nl M a7 a6 a5 a4 er10) s_X5_68 rfl ⟨by decide, by decide⟩ (Nat.le_of_ble_eq_true rfl) _ rfl dX5_workOutLets_74 ?_
  show Go x D (tysOf ca) h (LaC ca h nl) 5 M 77 [some (.ref (h (HB b + 6))), some (.int a0), some (.int a1), some (.int a2), some (.int a3)] [.int r10, .int a8, .ref (h (HB b + 9))]
  obtain ⟨g11, M12, eM12, hf⟩ := wr_e hf
  refine sCh hb 9 120 (by decide) (fun _ => rfl) K g11 dX5_workOutLets_77 ?_
  refine o_nmM eM12 ?_
  obtain ⟨x13, ex13, hf⟩ := nm_o hf
  refine o_iinc K 4 x13 [some (.ref (h (HB b + 6))), some (.int a0), some (.int a1), some (.int a2), some (.int x13)] dX5_workOutLets_78 rfl (inc_e (by decide) ex13) (by decide) rfl rfl ?_
  refine o_goto K 38 dX5_workOutLets_81 (by decide) ?_
  exact ih38 a0 a1 a2 x13 M12 hf
def f_X5_workOutLets_l38 (nl : Nat) (b : Nat) (rec2 : Int32 → Mem → Option Mem) (rec10 : Int32 → Int32 → Mem → Option Mem) : Nat → Int32 → Int32 → Int32 → Int32 → Mem → Option Mem
  | 0, _, _, _, _, _ => none
  | n + 1, a0, a1, a2, a3, M => if 6 ≤ a3 then (nm (a1 + 1 : Int32) fun x8 => rec10 a0 x8 M) else if a1 = 1 then (f_X5_workOutLets_j74 nl b rec2 rec10 (f_X5_workOutLets_l38 nl b rec2 rec10 n) a0 a1 a2 a3 (1 : Int32) a0 a2 a3 ((((a3 * 10) + a0) * 2) + a1) M) else f_X5_workOutLets_j74 nl b rec2 rec10 (f_X5_workOutLets_l38 nl b rec2 rec10 n) a0 a1 a2 a3 (0 : Int32) a0 a2 a3 ((((a3 * 10) + a0) * 2) + a1) M
set_option maxHeartbeats 4000000 in
set_option maxRecDepth 100000 in
theorem t_X5_workOutLets_l38 {x : En} {E : Amd} {D : va_G} {ca : Nat → ClassId} {h : Nat → Nat} {nl : Nat} {b : Nat} (K : Kx x E D (tysOf ca) h (LaC ca h nl) RX5 cX5_workOutLets 5 3 73) {Mo : Mem} (hR : Rt x D h (LaC ca h nl) none none Mo) (hb : b < 3) {rec2 : Int32 → Mem → Option Mem} {rec10 : Int32 → Int32 → Mem → Option Mem} (ih2 : ∀ (w0 : Int32) (M : Mem), rec2 w0 M = some Mo → Go x D (tysOf ca) h (LaC ca h nl) 5 M 2 [some (.ref (h (HB b + 6))), some (.int w0), none, none, none] []) (ih10 : ∀ (w0 : Int32) (w1 : Int32) (M : Mem), rec10 w0 w1 M = some Mo → Go x D (tysOf ca) h (LaC ca h nl) 5 M 10 [some (.ref (h (HB b + 6))), some (.int w0), some (.int w1), none, none] []) : ∀ (n : Nat) (a0 : Int32) (a1 : Int32) (a2 : Int32) (a3 : Int32) (M : Mem), f_X5_workOutLets_l38 nl b rec2 rec10 n a0 a1 a2 a3 M = some Mo → Go x D (tysOf ca) h (LaC ca h nl) 5 M 38 [some (.ref (h (HB b + 6))), some (.int a0), some (.int a1), some (.int a2), some (.int a3)] [] := by
  intro n
  induction n with
  | zero =>
    intro a0 a1 a2 a3 M hf
    cases hf
  | succ n ih =>
    intro a0 a1 a2 a3 M hf
    rw [f_X5_workOutLets_l38] at hf
    refine o_iload K 4 dX5_workOutLets_38 rfl ?_
    refine o_bipush K 6 dX5_workOutLets_40 (by decide) ?_
    refine o_icmp_ge K 84 dX5_workOutLets_42 (by decide) (fun c7 => ?_) (fun c7 => ?_)
    · have hf := ip c7 hf
      obtain ⟨x8, ex8, hf⟩ := nm_o hf
      refine o_iinc K 2 x8 [some (.ref (h (HB b + 6))), some (.int a0), some (.int x8), some (.int a2), some (.int a3)] dX5_workOutLets_84 rfl (inc_e (by decide) ex8) (by decide) rfl rfl ?_
      refine o_goto K 10 dX5_workOutLets_87 (by decide) ?_
      refine o_drop [true, true, true, false, false] (V2 := [some (.ref (h (HB b + 6))), some (.int a0), some (.int x8), none, none]) rfl ?_
      exact ih10 a0 x8 M hf
    · have hf := im c7 hf
      refine o_aload_n K 0 dX5_workOutLets_45 rfl rfl ?_
      refine gC_X5_26 hb K dX5_workOutLets_46 ?_
      refine o_iload K 4 dX5_workOutLets_49 rfl ?_
      refine o_bipush K 10 dX5_workOutLets_51 (by decide) ?_
      refine o_imul K dX5_workOutLets_53 ?_
      refine o_iload_n K 1 dX5_workOutLets_54 rfl rfl ?_
      refine o_iadd K dX5_workOutLets_55 ?_
      refine o_iconst K 2 dX5_workOutLets_56 (by decide) ?_
      refine o_imul K dX5_workOutLets_57 ?_
      refine o_iload_n K 2 dX5_workOutLets_58 rfl rfl ?_
      refine o_iadd K dX5_workOutLets_59 ?_
      refine o_iload K 4 dX5_workOutLets_60 rfl ?_
      refine o_iload_n K 3 dX5_workOutLets_62 rfl rfl ?_
      refine o_iload_n K 1 dX5_workOutLets_63 rfl rfl ?_
      refine o_iload_n K 2 dX5_workOutLets_64 rfl rfl ?_
      refine o_iconst K 1 dX5_workOutLets_65 (by decide) ?_
      refine o_icmp_ne K 73 dX5_workOutLets_66 (by decide) (fun c9 => ?_) (fun c9 => ?_)
      · have hf := im c9 hf
        refine o_iconst K 0 dX5_workOutLets_73 (by decide) ?_
        exact t_X5_workOutLets_j74 K hR hb ih2 ih10 ih a0 a1 a2 a3 (0 : Int32) a0 a2 a3 ((((a3 * 10) + a0) * 2) + a1) M hf
      · have hf := ip c9 hf
        refine o_iconst K 1 dX5_workOutLets_69 (by decide) ?_
        refine o_goto K 74 dX5_workOutLets_70 (by decide) ?_
        exact t_X5_workOutLets_j74 K hR hb ih2 ih10 ih a0 a1 a2 a3 (1 : Int32) a0 a2 a3 ((((a3 * 10) + a0) * 2) + a1) M hf
def f_X5_workOutLets_l10 (nl : Nat) (b : Nat) (rec2 : Int32 → Mem → Option Mem) : Nat → Int32 → Int32 → Mem → Option Mem
  | 0, _, _, _ => none
  | n + 1, a0, a1, M => if 1 < a1 then (nm (a0 + 1 : Int32) fun x3 => rec2 x3 M) else bd2 (f_X5_valueOf nl b M (0 : Int32) a0 a1 (((6 : Int32) * a0) * a1)) fun r4 M5 => bd (f_X9_heldWithin r4 (0 : Int32) (60 : Int32)) fun r6 => f_X5_workOutLets_l38 nl b rec2 (f_X5_workOutLets_l10 nl b rec2 n) FU a0 a1 r6 (0 : Int32) M5
set_option maxHeartbeats 4000000 in
set_option maxRecDepth 100000 in
theorem t_X5_workOutLets_l10 {x : En} {E : Amd} {D : va_G} {ca : Nat → ClassId} {h : Nat → Nat} {nl : Nat} {b : Nat} (K : Kx x E D (tysOf ca) h (LaC ca h nl) RX5 cX5_workOutLets 5 3 73) {Mo : Mem} (hR : Rt x D h (LaC ca h nl) none none Mo) (hb : b < 3) {rec2 : Int32 → Mem → Option Mem} (ih2 : ∀ (w0 : Int32) (M : Mem), rec2 w0 M = some Mo → Go x D (tysOf ca) h (LaC ca h nl) 5 M 2 [some (.ref (h (HB b + 6))), some (.int w0), none, none, none] []) : ∀ (n : Nat) (a0 : Int32) (a1 : Int32) (M : Mem), f_X5_workOutLets_l10 nl b rec2 n a0 a1 M = some Mo → Go x D (tysOf ca) h (LaC ca h nl) 5 M 10 [some (.ref (h (HB b + 6))), some (.int a0), some (.int a1), none, none] [] := by
  intro n
  induction n with
  | zero =>
    intro a0 a1 M hf
    cases hf
  | succ n ih =>
    intro a0 a1 M hf
    rw [f_X5_workOutLets_l10] at hf
    refine o_iload_n K 2 dX5_workOutLets_10 rfl rfl ?_
    refine o_iconst K 1 dX5_workOutLets_11 (by decide) ?_
    refine o_icmp_gt K 90 dX5_workOutLets_12 (by decide) (fun c2 => ?_) (fun c2 => ?_)
    · have hf := ip c2 hf
      obtain ⟨x3, ex3, hf⟩ := nm_o hf
      refine o_iinc K 1 x3 [some (.ref (h (HB b + 6))), some (.int x3), some (.int a1), none, none] dX5_workOutLets_90 rfl (inc_e (by decide) ex3) (by decide) rfl rfl ?_
      refine o_goto K 2 dX5_workOutLets_93 (by decide) ?_
      refine o_drop [true, true, false, false, false] (V2 := [some (.ref (h (HB b + 6))), some (.int x3), none, none, none]) rfl ?_
      exact ih2 x3 M hf
    · have hf := im c2 hf
      refine o_aload_n K 0 dX5_workOutLets_15 rfl rfl ?_
      refine o_iconst K 0 dX5_workOutLets_16 (by decide) ?_
      refine o_iload_n K 1 dX5_workOutLets_17 rfl rfl ?_
      refine o_iload_n K 2 dX5_workOutLets_18 rfl rfl ?_
      refine o_bipush K 6 dX5_workOutLets_19 (by decide) ?_
      refine o_iload_n K 1 dX5_workOutLets_21 rfl rfl ?_
      refine o_imul K dX5_workOutLets_22 ?_
      refine o_iload_n K 2 dX5_workOutLets_23 rfl rfl ?_
      refine o_imul K dX5_workOutLets_24 ?_
      obtain ⟨r4, M5, er4, hf⟩ := bd2_e hf
      refine o_callV K [.int 0, .int a0, .int a1, .int (((6 : Int32) * a0) * a1)] (k_X5_valueOf x.2.1 E D ca h nl M b (0 : Int32) a0 a1 (((6 : Int32) * a0) * a1) hb er4) s_X5_60 (ltLaws hb) (obLaws_c (ca := ca) (h := h) hb _) rfl rfl rfl ⟨by decide, by decide⟩ (Nat.le_of_ble_eq_true rfl) _ rfl dX5_workOutLets_25 ?_
      show Go x D (tysOf ca) h (LaC ca h nl) 5 M5 28 [some (.ref (h (HB b + 6))), some (.int a0), some (.int a1), none, none] [.int r4]
      refine o_iconst K 0 dX5_workOutLets_28 (by decide) ?_
      refine o_bipush K 60 dX5_workOutLets_29 (by decide) ?_
      obtain ⟨r6, er6, hf⟩ := bd_e hf
      refine o_callSN K [.int r4, .int 0, .int 60] (k_X9_heldWithin x.2.1 E D ca h nl M5 r4 (0 : Int32) (60 : Int32) er6) s_X5_64 rfl ⟨by decide, by decide⟩ (Nat.le_of_ble_eq_true rfl) _ rfl dX5_workOutLets_31 ?_
      show Go x D (tysOf ca) h (LaC ca h nl) 5 M5 34 [some (.ref (h (HB b + 6))), some (.int a0), some (.int a1), none, none] [.int r6]
      refine o_istore_n K 3 [some (.ref (h (HB b + 6))), some (.int a0), some (.int a1), some (.int r6), none] dX5_workOutLets_34 rfl (by decide) rfl rfl ?_
      refine o_iconst K 0 dX5_workOutLets_35 (by decide) ?_
      refine o_istore K 4 [some (.ref (h (HB b + 6))), some (.int a0), some (.int a1), some (.int r6), some (.int 0)] dX5_workOutLets_36 (by decide) rfl rfl ?_
      exact t_X5_workOutLets_l38 K hR hb ih2 ih FU a0 a1 r6 (0 : Int32) M5 hf
def f_X5_workOutLets_l2 (nl : Nat) (b : Nat) : Nat → Int32 → Mem → Option Mem
  | 0, _, _ => none
  | n + 1, a0, M => if 10 ≤ a0 then (some M) else f_X5_workOutLets_l10 nl b (f_X5_workOutLets_l2 nl b n) FU a0 (0 : Int32) M
set_option maxHeartbeats 4000000 in
set_option maxRecDepth 100000 in
theorem t_X5_workOutLets_l2 {x : En} {E : Amd} {D : va_G} {ca : Nat → ClassId} {h : Nat → Nat} {nl : Nat} {b : Nat} (K : Kx x E D (tysOf ca) h (LaC ca h nl) RX5 cX5_workOutLets 5 3 73) {Mo : Mem} (hR : Rt x D h (LaC ca h nl) none none Mo) (hb : b < 3) : ∀ (n : Nat) (a0 : Int32) (M : Mem), f_X5_workOutLets_l2 nl b n a0 M = some Mo → Go x D (tysOf ca) h (LaC ca h nl) 5 M 2 [some (.ref (h (HB b + 6))), some (.int a0), none, none, none] [] := by
  intro n
  induction n with
  | zero =>
    intro a0 M hf
    cases hf
  | succ n ih =>
    intro a0 M hf
    rw [f_X5_workOutLets_l2] at hf
    refine o_iload_n K 1 dX5_workOutLets_2 rfl rfl ?_
    refine o_bipush K 10 dX5_workOutLets_3 (by decide) ?_
    refine o_icmp_ge K 96 dX5_workOutLets_5 (by decide) (fun c1 => ?_) (fun c1 => ?_)
    · have hf := ip c1 hf
      exact e_vret K hf hR dX5_workOutLets_96
    · have hf := im c1 hf
      refine o_iconst K 0 dX5_workOutLets_8 (by decide) ?_
      refine o_istore_n K 2 [some (.ref (h (HB b + 6))), some (.int a0), some (.int 0), none, none] dX5_workOutLets_9 rfl (by decide) rfl rfl ?_
      exact t_X5_workOutLets_l10 K hR hb ih FU a0 (0 : Int32) M hf
def f_X5_workOutLets (nl : Nat) (b : Nat) (M : Mem) : Option Mem := f_X5_workOutLets_l2 nl b FU (1 : Int32) M
set_option maxHeartbeats 4000000 in
set_option maxRecDepth 100000 in
theorem k_X5_workOutLets (l : Launch) (E : Amd) (D : va_G) (ca : Nat → ClassId) (h : Nat → Nat) (nl : Nat) (M : Mem) (b : Nat) {Mo : Mem} (hb : b < 3) (hf : f_X5_workOutLets nl b M = some Mo) : Ct l E D (tysOf ca) h (LaC ca h nl) yX5_workOutLets cX5_workOutLets 5 none 3 73 [.ref (h (HB b + 6))] M none Mo := by
  refine Ct.mk [some (.ref (h (HB b + 6))), none, none, none, none] (by decide) (Nat.le_of_ble_eq_true rfl) (argsV [.ref (h (HB b + 6))] 4 rfl rfl) ?_
  intro x hx0 K hR
  have K : Kx x E D (tysOf ca) h (LaC ca h nl) RX5 cX5_workOutLets 5 3 73 := K
  rw [f_X5_workOutLets] at hf
  refine o_iconst K 1 dX5_workOutLets_0 (by decide) ?_
  refine o_istore_n K 1 [some (.ref (h (HB b + 6))), some (.int 1), none, none, none] dX5_workOutLets_1 rfl (by decide) rfl rfl ?_
  exact t_X5_workOutLets_l2 K hR hb FU (1 : Int32) M hf
def f_X5_add (nl : Nat) (b : Nat) (c1 : Nat) (M : Mem) : Option (Int32 × Mem) := nm (M (HB b + 6) 0 : Int32) fun x1 => wr M (HB b + 8) 14 x1 (Int32.ofNat c1) fun M3 => wr M3 (HB b + 7) 3 (M3 (80 + 2 * c1) 0) x1 fun M5 => nm (sto M5 (HB b + 6) 0 ((M5 (HB b + 6) 0) + 1)) fun M6 => if (M6 (80 + 2 * c1) 0) = 0 then (bd (f_X5_workOutLets nl b M6) fun M9 => some (x1, M9)) else some (x1, M6)
set_option maxHeartbeats 4000000 in
set_option maxRecDepth 100000 in
theorem k_X5_add (l : Launch) (E : Amd) (D : va_G) (ca : Nat → ClassId) (h : Nat → Nat) (nl : Nat) (M : Mem) (b : Nat) (c1 : Nat) {r0 : Int32} {Mo : Mem} (hnl : nl < 2147483648) (hb : b < 3) (hc1 : 1 ≤ c1 ∧ c1 ≤ nl) (hf : f_X5_add nl b c1 M = some (r0, Mo)) : Ct l E D (tysOf ca) h (LaC ca h nl) yX5_add cX5_add 3 (some .int) 4 97 [.ref (h (HB b + 6)), .ref (h (80 + 2 * c1))] M (some (.int r0)) Mo := by
  refine Ct.mk [some (.ref (h (HB b + 6))), some (.ref (h (80 + 2 * c1))), none] (by decide) (Nat.le_of_ble_eq_true rfl) (argsV [.ref (h (HB b + 6)), .ref (h (80 + 2 * c1))] 1 rfl rfl) ?_
  intro x hx0 K hR
  have K : Kx x E D (tysOf ca) h (LaC ca h nl) RX5 cX5_add 3 4 97 := K
  rw [f_X5_add] at hf
  refine o_aload_n K 0 dX5_add_0 rfl rfl ?_
  refine gC_X5_35 hb K dX5_add_1 ?_
  obtain ⟨x1, ex1, hf⟩ := nm_o hf
  refine o_nmi ex1 ?_
  refine o_istore_n K 2 [some (.ref (h (HB b + 6))), some (.ref (h (80 + 2 * c1))), some (.int x1)] dX5_add_4 rfl (by decide) rfl rfl ?_
  refine o_aload_n K 0 dX5_add_5 rfl rfl ?_
  refine gC_X5_22 hb K dX5_add_6 ?_
  refine o_iload_n K 2 dX5_add_9 rfl rfl ?_
  refine o_aload_n K 1 dX5_add_10 rfl rfl ?_
  obtain ⟨g2, M3, eM3, hf⟩ := wr_e hf
  refine sLaws hb hc1 hnl K g2 dX5_add_11 ?_
  refine o_nmM eM3 ?_
  refine o_aload_n K 0 dX5_add_12 rfl rfl ?_
  refine gC_X5_16 hb K dX5_add_13 ?_
  refine o_aload_n K 1 dX5_add_16 rfl rfl ?_
  refine gC_X5_45 hc1 K dX5_add_17 ?_
  refine o_iload_n K 2 dX5_add_20 rfl rfl ?_
  obtain ⟨g4, M5, eM5, hf⟩ := wr_e hf
  refine sCh hb 7 3 (by decide) (fun _ => rfl) K g4 dX5_add_21 ?_
  refine o_nmM eM5 ?_
  refine o_aload_n K 0 dX5_add_22 rfl rfl ?_
  refine o_dup K dX5_add_23 rfl ?_
  refine gC_X5_35 hb K dX5_add_24 ?_
  refine o_iconst K 1 dX5_add_27 (by decide) ?_
  refine o_iadd K dX5_add_28 ?_
  obtain ⟨M6, eM6, hf⟩ := nm_o hf
  refine pC_X5_35 hb K dX5_add_29 ?_
  refine o_nmM eM6 ?_
  refine o_aload_n K 1 dX5_add_32 rfl rfl ?_
  refine gC_X5_45 hc1 K dX5_add_33 ?_
  refine o_if_ne K 43 dX5_add_36 (by decide) (fun c7 => ?_) (fun c7 => ?_)
  · have hf := im c7 hf
    refine o_iload_n K 2 dX5_add_43 rfl rfl ?_
    exact e_iret K hf hR dX5_add_44
  · have hf := ip c7 hf
    refine o_aload_n K 0 dX5_add_39 rfl rfl ?_
    obtain ⟨M9, er8, hf⟩ := bd_e hf
    refine o_callV K [] (k_X5_workOutLets x.2.1 E D ca h nl M6 b hb er8) s_X5_32 (ltLaws hb) (obLaws_c (ca := ca) (h := h) hb _) rfl rfl rfl ⟨by decide, by decide⟩ (Nat.le_of_ble_eq_true rfl) _ rfl dX5_add_40 ?_
    show Go x D (tysOf ca) h (LaC ca h nl) 3 M9 43 [some (.ref (h (HB b + 6))), some (.ref (h (80 + 2 * c1))), some (.int x1)] []
    refine o_iload_n K 2 dX5_add_43 rfl rfl ?_
    exact e_iret K hf hR dX5_add_44
def f_X6_isMissing (s : Nat) (M : Mem) : Option Int32 := if (M s 0) = (-1) then (some ((1 : Int32))) else some ((0 : Int32))
set_option maxHeartbeats 4000000 in
set_option maxRecDepth 100000 in
theorem k_X6_isMissing (l : Launch) (E : Amd) (D : va_G) (ca : Nat → ClassId) (h : Nat → Nat) (nl : Nat) (M : Mem) (s : Nat) {r0 : Int32} (hs : ShOK ca h s) (hf : f_X6_isMissing s M = some r0) : Ct l E D (tysOf ca) h (LaC ca h nl) yX6_isMissing cX6_isMissing 1 (some .boolean) 0 0 [.ref (h s)] M (some (.int r0)) M := by
  refine Ct.mk [some (.ref (h s))] (by decide) (Nat.le_of_ble_eq_true rfl) (argsV [.ref (h s)] 0 rfl rfl) ?_
  intro x hx0 K hR
  have K : Kx x E D (tysOf ca) h (LaC ca h nl) RX6 cX6_isMissing 1 0 0 := K
  rw [f_X6_isMissing] at hf
  refine o_aload_n K 0 dX6_isMissing_0 rfl rfl ?_
  refine gC_X6_11 hs K dX6_isMissing_1 ?_
  refine o_iconst K (-1) dX6_isMissing_4 (by decide) ?_
  refine o_icmp_ne K 12 dX6_isMissing_5 (by decide) (fun c1 => ?_) (fun c1 => ?_)
  · have hf := im c1 hf
    refine o_iconst K 0 dX6_isMissing_12 (by decide) ?_
    exact r_zret K hf hR (by decide) dX6_isMissing_13
  · have hf := ip c1 hf
    refine o_iconst K 1 dX6_isMissing_8 (by decide) ?_
    refine o_goto K 13 dX6_isMissing_9 (by decide) ?_
    exact r_zret K hf hR (by decide) dX6_isMissing_13
def f_X6_become (s : Nat) (M : Mem) (a1 : Int32) (a2 : Int32) : Option Mem := nm (sto M s 0 a1) fun M1 => nm (sto M1 s 1 a2) fun M2 => bd (f_J7_fill_53178 (s + 1) 24 M2 (0 : Int32)) fun M4 => some M4
set_option maxHeartbeats 4000000 in
set_option maxRecDepth 100000 in
theorem k_X6_become (l : Launch) (E : Amd) (D : va_G) (ca : Nat → ClassId) (h : Nat → Nat) (nl : Nat) (M : Mem) (s : Nat) (a1 : Int32) (a2 : Int32) {Mo : Mem} (hs : ShOK ca h s) (hf : f_X6_become s M a1 a2 = some Mo) : Ct l E D (tysOf ca) h (LaC ca h nl) yX6_become cX6_become 3 none 1 23 [.ref (h s), .int a1, .int a2] M none Mo := by
  refine Ct.mk [some (.ref (h s)), some (.int a1), some (.int a2)] (by decide) (Nat.le_of_ble_eq_true rfl) (argsV [.ref (h s), .int a1, .int a2] 0 rfl rfl) ?_
  intro x hx0 K hR
  have K : Kx x E D (tysOf ca) h (LaC ca h nl) RX6 cX6_become 3 1 23 := K
  rw [f_X6_become] at hf
  refine o_aload_n K 0 dX6_become_0 rfl rfl ?_
  refine o_iload_n K 1 dX6_become_1 rfl rfl ?_
  obtain ⟨M1, eM1, hf⟩ := nm_o hf
  refine pC_X6_11 hs K dX6_become_2 ?_
  refine o_nmM eM1 ?_
  refine o_aload_n K 0 dX6_become_5 rfl rfl ?_
  refine o_iload_n K 2 dX6_become_6 rfl rfl ?_
  obtain ⟨M2, eM2, hf⟩ := nm_o hf
  refine pC_X6_19 hs K dX6_become_7 ?_
  refine o_nmM eM2 ?_
  refine o_aload_n K 0 dX6_become_10 rfl rfl ?_
  refine gC_X6_15 hs K dX6_become_11 ?_
  refine o_iconst K 0 dX6_become_14 (by decide) ?_
  obtain ⟨M4, er3, hf⟩ := bd_e hf
  refine o_callS K [.ref (h (s + 1)), .int 0] (k_J7_fill_53178 x.2.1 E D ca h nl M2 (s + 1) 24 (0 : Int32) (ltN hs.1) hs.2.2 er3) s_X6_22 rfl ⟨by decide, by decide⟩ (Nat.le_of_ble_eq_true rfl) _ rfl dX6_become_15 ?_
  show Go x D (tysOf ca) h (LaC ca h nl) 3 M4 18 [some (.ref (h s)), some (.int a1), some (.int a2)] []
  exact e_vret K hf hR dX6_become_18
def f_X6_takeFrom (s : Nat) (s1 : Nat) (M : Mem) : Option Mem := nm (sto M s 0 (M s1 0)) fun M1 => nm (sto M1 s 1 (M1 s1 1)) fun M2 => cp M2 (s1 + 1) 24 0 (s + 1) 24 0 24 fun M3 => some M3
set_option maxHeartbeats 4000000 in
set_option maxRecDepth 100000 in
theorem k_X6_takeFrom (l : Launch) (E : Amd) (D : va_G) (ca : Nat → ClassId) (h : Nat → Nat) (nl : Nat) (M : Mem) (s : Nat) (s1 : Nat) {Mo : Mem} (hs : ShOK ca h s) (hs1 : ShOK ca h s1) (hf : f_X6_takeFrom s s1 M = some Mo) : Ct l E D (tysOf ca) h (LaC ca h nl) yX6_takeFrom cX6_takeFrom 2 none 1 27 [.ref (h s), .ref (h s1)] M none Mo := by
  refine Ct.mk [some (.ref (h s)), some (.ref (h s1))] (by decide) (Nat.le_of_ble_eq_true rfl) (argsV [.ref (h s), .ref (h s1)] 0 rfl rfl) ?_
  intro x hx0 K hR
  have K : Kx x E D (tysOf ca) h (LaC ca h nl) RX6 cX6_takeFrom 2 1 27 := K
  rw [f_X6_takeFrom] at hf
  refine o_aload_n K 0 dX6_takeFrom_0 rfl rfl ?_
  refine o_aload_n K 1 dX6_takeFrom_1 rfl rfl ?_
  refine gC_X6_11 hs1 K dX6_takeFrom_2 ?_
  obtain ⟨M1, eM1, hf⟩ := nm_o hf
  refine pC_X6_11 hs K dX6_takeFrom_5 ?_
  refine o_nmM eM1 ?_
  refine o_aload_n K 0 dX6_takeFrom_8 rfl rfl ?_
  refine o_aload_n K 1 dX6_takeFrom_9 rfl rfl ?_
  refine gC_X6_19 hs1 K dX6_takeFrom_10 ?_
  obtain ⟨M2, eM2, hf⟩ := nm_o hf
  refine pC_X6_19 hs K dX6_takeFrom_13 ?_
  refine o_nmM eM2 ?_
  refine o_aload_n K 1 dX6_takeFrom_16 rfl rfl ?_
  refine gC_X6_15 hs1 K dX6_takeFrom_17 ?_
  refine o_iconst K 0 dX6_takeFrom_20 (by decide) ?_
  refine o_aload_n K 0 dX6_takeFrom_21 rfl rfl ?_
  refine gC_X6_15 hs K dX6_takeFrom_22 ?_
  refine o_iconst K 0 dX6_takeFrom_25 (by decide) ?_
  refine o_bipush K 24 dX6_takeFrom_26 (by decide) ?_
  obtain ⟨g4, M3, eM3, hf⟩ := cp_e hf
  refine o_copy K 0 0 (ltC hs1.1) (hs1.2.2 _) (ltC hs.1) hs.2.2 rfl rfl q930 q470 q469 q15 g4 ⟨by decide, by decide⟩ (Nat.le_of_ble_eq_true rfl) dX6_takeFrom_28 ?_
  refine o_nmM eM3 ?_
  exact e_vret K hf hR dX6_takeFrom_31
def f_X6_has (s : Nat) (M : Mem) (a1 : Int32) : Option Int32 := bd (f_X9_isWithin a1 (0 : Int32) ((M s 1) - 1)) fun r1 => gd (bz r1) <| some (r1)
set_option maxHeartbeats 4000000 in
set_option maxRecDepth 100000 in
theorem k_X6_has (l : Launch) (E : Amd) (D : va_G) (ca : Nat → ClassId) (h : Nat → Nat) (nl : Nat) (M : Mem) (s : Nat) (a1 : Int32) {r0 : Int32} (hs : ShOK ca h s) (hf : f_X6_has s M a1 = some r0) : Ct l E D (tysOf ca) h (LaC ca h nl) yX6_has cX6_has 2 (some .boolean) 1 22 [.ref (h s), .int a1] M (some (.int r0)) M := by
  refine Ct.mk [some (.ref (h s)), some (.int a1)] (by decide) (Nat.le_of_ble_eq_true rfl) (argsV [.ref (h s), .int a1] 0 rfl rfl) ?_
  intro x hx0 K hR
  have K : Kx x E D (tysOf ca) h (LaC ca h nl) RX6 cX6_has 2 1 22 := K
  rw [f_X6_has] at hf
  refine o_iload_n K 1 dX6_has_0 rfl rfl ?_
  refine o_iconst K 0 dX6_has_1 (by decide) ?_
  refine o_aload_n K 0 dX6_has_2 rfl rfl ?_
  refine gC_X6_19 hs K dX6_has_3 ?_
  refine o_iconst K 1 dX6_has_6 (by decide) ?_
  refine o_isub K dX6_has_7 ?_
  obtain ⟨r1, er1, hf⟩ := bd_e hf
  refine o_callSN K [.int a1, .int 0, .int ((M s 1) - 1)] (k_X9_isWithin x.2.1 E D ca h nl M a1 (0 : Int32) ((M s 1) - 1) er1) s_X6_34 rfl ⟨by decide, by decide⟩ (Nat.le_of_ble_eq_true rfl) _ rfl dX6_has_8 ?_
  show Go x D (tysOf ca) h (LaC ca h nl) 2 M 11 [some (.ref (h s)), some (.int a1)] [.int r1]
  obtain ⟨g2, hf⟩ := gd_e hf
  exact r_zret K hf hR g2 dX6_has_11
def f_X6_hasNumber (s : Nat) (M : Mem) (a1 : Int32) : Option Int32 := bd (f_X6_has s M a1) fun r1 => if r1 = 0 then (some ((0 : Int32))) else rd M (s + 1) 24 a1 fun x3 => if x3 = (-1000000005) then (some ((0 : Int32))) else some ((1 : Int32))
set_option maxHeartbeats 4000000 in
set_option maxRecDepth 100000 in
theorem k_X6_hasNumber (l : Launch) (E : Amd) (D : va_G) (ca : Nat → ClassId) (h : Nat → Nat) (nl : Nat) (M : Mem) (s : Nat) (a1 : Int32) {r0 : Int32} (hs : ShOK ca h s) (hf : f_X6_hasNumber s M a1 = some r0) : Ct l E D (tysOf ca) h (LaC ca h nl) yX6_hasNumber cX6_hasNumber 2 (some .boolean) 2 43 [.ref (h s), .int a1] M (some (.int r0)) M := by
  refine Ct.mk [some (.ref (h s)), some (.int a1)] (by decide) (Nat.le_of_ble_eq_true rfl) (argsV [.ref (h s), .int a1] 0 rfl rfl) ?_
  intro x hx0 K hR
  have K : Kx x E D (tysOf ca) h (LaC ca h nl) RX6 cX6_hasNumber 2 2 43 := K
  rw [f_X6_hasNumber] at hf
  refine o_aload_n K 0 dX6_hasNumber_0 rfl rfl ?_
  refine o_iload_n K 1 dX6_hasNumber_1 rfl rfl ?_
  obtain ⟨r1, er1, hf⟩ := bd_e hf
  refine o_callV K [.int a1] (k_X6_has x.2.1 E D ca h nl M s a1 hs er1) s_X6_38 (ltSheet hs) (obSheet_c (ca := ca) (h := h) hs _) rfl rfl rfl ⟨by decide, by decide⟩ (Nat.le_of_ble_eq_true rfl) _ rfl dX6_hasNumber_2 ?_
  show Go x D (tysOf ca) h (LaC ca h nl) 2 M 5 [some (.ref (h s)), some (.int a1)] [.int r1]
  refine o_if_eq K 23 dX6_hasNumber_5 (by decide) (fun c2 => ?_) (fun c2 => ?_)
  · have hf := ip c2 hf
    refine o_iconst K 0 dX6_hasNumber_23 (by decide) ?_
    exact r_zret K hf hR (by decide) dX6_hasNumber_24
  · have hf := im c2 hf
    refine o_aload_n K 0 dX6_hasNumber_8 rfl rfl ?_
    refine gC_X6_15 hs K dX6_hasNumber_9 ?_
    refine o_iload_n K 1 dX6_hasNumber_12 rfl rfl ?_
    obtain ⟨g4, x3, ex3, hf⟩ := rd_e hf
    refine lCs hs K g4 dX6_hasNumber_13 ?_
    refine o_nmi ex3 ?_
    refine o_ldc K q626 dX6_hasNumber_14 ?_
    refine o_icmp_eq K 23 dX6_hasNumber_16 (by decide) (fun c5 => ?_) (fun c5 => ?_)
    · have hf := ip c5 hf
      refine o_iconst K 0 dX6_hasNumber_23 (by decide) ?_
      exact r_zret K hf hR (by decide) dX6_hasNumber_24
    · have hf := im c5 hf
      refine o_iconst K 1 dX6_hasNumber_19 (by decide) ?_
      refine o_goto K 24 dX6_hasNumber_20 (by decide) ?_
      exact r_zret K hf hR (by decide) dX6_hasNumber_24
def f_X6_hasRange (s : Nat) (M : Mem) (a1 : Int32) (a2 : Int32) : Option Int32 := if a1 < 0 then (some ((0 : Int32))) else if a2 < 0 then (some ((0 : Int32))) else if (M s 1) < a1 then (some ((0 : Int32))) else if ((M s 1) - a1) < a2 then (some ((0 : Int32))) else some ((1 : Int32))
set_option maxHeartbeats 4000000 in
set_option maxRecDepth 100000 in
theorem k_X6_hasRange (l : Launch) (E : Amd) (D : va_G) (ca : Nat → ClassId) (h : Nat → Nat) (nl : Nat) (M : Mem) (s : Nat) (a1 : Int32) (a2 : Int32) {r0 : Int32} (hs : ShOK ca h s) (hf : f_X6_hasRange s M a1 a2 = some r0) : Ct l E D (tysOf ca) h (LaC ca h nl) yX6_hasRange cX6_hasRange 3 (some .boolean) 0 0 [.ref (h s), .int a1, .int a2] M (some (.int r0)) M := by
  refine Ct.mk [some (.ref (h s)), some (.int a1), some (.int a2)] (by decide) (Nat.le_of_ble_eq_true rfl) (argsV [.ref (h s), .int a1, .int a2] 0 rfl rfl) ?_
  intro x hx0 K hR
  have K : Kx x E D (tysOf ca) h (LaC ca h nl) RX6 cX6_hasRange 3 0 0 := K
  rw [f_X6_hasRange] at hf
  refine o_iload_n K 1 dX6_hasRange_0 rfl rfl ?_
  refine o_if_lt K 30 dX6_hasRange_1 (by decide) (fun c1 => ?_) (fun c1 => ?_)
  · have hf := ip c1 hf
    refine o_iconst K 0 dX6_hasRange_30 (by decide) ?_
    exact r_zret K hf hR (by decide) dX6_hasRange_31
  · have hf := im c1 hf
    refine o_iload_n K 2 dX6_hasRange_4 rfl rfl ?_
    refine o_if_lt K 30 dX6_hasRange_5 (by decide) (fun c2 => ?_) (fun c2 => ?_)
    · have hf := ip c2 hf
      refine o_iconst K 0 dX6_hasRange_30 (by decide) ?_
      exact r_zret K hf hR (by decide) dX6_hasRange_31
    · have hf := im c2 hf
      refine o_iload_n K 1 dX6_hasRange_8 rfl rfl ?_
      refine o_aload_n K 0 dX6_hasRange_9 rfl rfl ?_
      refine gC_X6_19 hs K dX6_hasRange_10 ?_
      refine o_icmp_gt K 30 dX6_hasRange_13 (by decide) (fun c3 => ?_) (fun c3 => ?_)
      · have hf := ip c3 hf
        refine o_iconst K 0 dX6_hasRange_30 (by decide) ?_
        exact r_zret K hf hR (by decide) dX6_hasRange_31
      · have hf := im c3 hf
        refine o_iload_n K 2 dX6_hasRange_16 rfl rfl ?_
        refine o_aload_n K 0 dX6_hasRange_17 rfl rfl ?_
        refine gC_X6_19 hs K dX6_hasRange_18 ?_
        refine o_iload_n K 1 dX6_hasRange_21 rfl rfl ?_
        refine o_isub K dX6_hasRange_22 ?_
        refine o_icmp_gt K 30 dX6_hasRange_23 (by decide) (fun c4 => ?_) (fun c4 => ?_)
        · have hf := ip c4 hf
          refine o_iconst K 0 dX6_hasRange_30 (by decide) ?_
          exact r_zret K hf hR (by decide) dX6_hasRange_31
        · have hf := im c4 hf
          refine o_iconst K 1 dX6_hasRange_26 (by decide) ?_
          refine o_goto K 31 dX6_hasRange_27 (by decide) ?_
          exact r_zret K hf hR (by decide) dX6_hasRange_31
def f_X8_behindMinutes_l10 (nl : Nat) (b1 : Nat) : Nat → Int32 → Int32 → Mem → Option Mem
  | 0, _, _, _ => none
  | n + 1, a0, a1, M => if a0 ≤ a1 then (some M) else bd (f_X1_passMinute nl 2 M) fun M5 => nm (a1 + 1 : Int32) fun x6 => f_X8_behindMinutes_l10 nl b1 n a0 x6 M5
set_option maxHeartbeats 4000000 in
set_option maxRecDepth 100000 in
theorem t_X8_behindMinutes_l10 {x : En} {E : Amd} {D : va_G} {ca : Nat → ClassId} {h : Nat → Nat} {nl : Nat} {b1 : Nat} (K : Kx x E D (tysOf ca) h (LaC ca h nl) RX8 cX8_behindMinutes 4 5 115) {Mo : Mem} (hR : Rt x D h (LaC ca h nl) (some (.object "OneDraught$Hall")) (some (.ref (h (HB 2)))) Mo) (hb1 : b1 < 3) : ∀ (n : Nat) (a0 : Int32) (a1 : Int32) (M : Mem), f_X8_behindMinutes_l10 nl b1 n a0 a1 M = some Mo → Go x D (tysOf ca) h (LaC ca h nl) 4 M 10 [some (.ref (h 52)), none, some (.int a0), some (.int a1)] [] := by
  intro n
  induction n with
  | zero =>
    intro a0 a1 M hf
    cases hf
  | succ n ih =>
    intro a0 a1 M hf
    rw [f_X8_behindMinutes_l10] at hf
    refine o_iload_n K 3 dX8_behindMinutes_10 rfl rfl ?_
    refine o_iload_n K 2 dX8_behindMinutes_11 rfl rfl ?_
    refine o_icmp_ge K 28 dX8_behindMinutes_12 (by decide) (fun c3 => ?_) (fun c3 => ?_)
    · have hf := ip c3 hf
      refine o_aload_n K 0 dX8_behindMinutes_28 rfl rfl ?_
      refine gC_X8_12 K dX8_behindMinutes_29 ?_
      exact e_aret K hf hR dX8_behindMinutes_32
    · have hf := im c3 hf
      refine o_aload_n K 0 dX8_behindMinutes_15 rfl rfl ?_
      refine gC_X8_12 K dX8_behindMinutes_16 ?_
      obtain ⟨M5, er4, hf⟩ := bd_e hf
      refine o_callV K [] (k_X1_passMinute x.2.1 E D ca h nl M 2 hb_2 er4) s_X8_22 (ltHall hb_2) (obHall_c (ca := ca) (h := h) hb_2 _) rfl rfl rfl ⟨by decide, by decide⟩ (Nat.le_of_ble_eq_true rfl) _ rfl dX8_behindMinutes_19 ?_
      show Go x D (tysOf ca) h (LaC ca h nl) 4 M5 22 [some (.ref (h 52)), none, some (.int a0), some (.int a1)] []
      obtain ⟨x6, ex6, hf⟩ := nm_o hf
      refine o_iinc K 3 x6 [some (.ref (h 52)), none, some (.int a0), some (.int x6)] dX8_behindMinutes_22 rfl (inc_e (by decide) ex6) (by decide) rfl rfl ?_
      refine o_goto K 10 dX8_behindMinutes_25 (by decide) ?_
      exact ih a0 x6 M5 hf
def f_X8_behindMinutes (nl : Nat) (b1 : Nat) (M : Mem) (a2 : Int32) : Option Mem := bd (f_X1_takeFrom nl 2 b1 M) fun M2 => f_X8_behindMinutes_l10 nl b1 FU a2 (0 : Int32) M2
set_option maxHeartbeats 4000000 in
set_option maxRecDepth 100000 in
theorem k_X8_behindMinutes (l : Launch) (E : Amd) (D : va_G) (ca : Nat → ClassId) (h : Nat → Nat) (nl : Nat) (M : Mem) (b1 : Nat) (a2 : Int32) {Mo : Mem} (hb1 : b1 < 3) (hf : f_X8_behindMinutes nl b1 M a2 = some Mo) : Ct l E D (tysOf ca) h (LaC ca h nl) yX8_behindMinutes cX8_behindMinutes 4 (some (.object "OneDraught$Hall")) 5 115 [.ref (h 52), .ref (h (HB b1)), .int a2] M (some (.ref (h (HB 2)))) Mo := by
  refine Ct.mk [some (.ref (h 52)), some (.ref (h (HB b1))), some (.int a2), none] (by decide) (Nat.le_of_ble_eq_true rfl) (argsV [.ref (h 52), .ref (h (HB b1)), .int a2] 1 rfl rfl) ?_
  intro x hx0 K hR
  have K : Kx x E D (tysOf ca) h (LaC ca h nl) RX8 cX8_behindMinutes 4 5 115 := K
  rw [f_X8_behindMinutes] at hf
  refine o_aload_n K 0 dX8_behindMinutes_0 rfl rfl ?_
  refine gC_X8_12 K dX8_behindMinutes_1 ?_
  refine o_aload_n K 1 dX8_behindMinutes_4 rfl rfl ?_
  obtain ⟨M2, er1, hf⟩ := bd_e hf
  refine o_callV K [.ref (h (HB b1))] (k_X1_takeFrom x.2.1 E D ca h nl M 2 b1 hb_2 hb1 er1) s_X8_18 (ltHall hb_2) (obHall_c (ca := ca) (h := h) hb_2 _) rfl rfl rfl ⟨by decide, by decide⟩ (Nat.le_of_ble_eq_true rfl) _ rfl dX8_behindMinutes_5 ?_
  show Go x D (tysOf ca) h (LaC ca h nl) 4 M2 8 [some (.ref (h 52)), some (.ref (h (HB b1))), some (.int a2), none] []
  refine o_iconst K 0 dX8_behindMinutes_8 (by decide) ?_
  refine o_istore_n K 3 [some (.ref (h 52)), some (.ref (h (HB b1))), some (.int a2), some (.int 0)] dX8_behindMinutes_9 rfl (by decide) rfl rfl ?_
  refine o_drop [true, false, true, true] (V2 := [some (.ref (h 52)), none, some (.int a2), some (.int 0)]) rfl ?_
  exact t_X8_behindMinutes_l10 K hR hb1 FU a2 (0 : Int32) M2 hf
def f_X8_minutesUntilStill_l10 (nl : Nat) (b1 : Nat) : Nat → Int32 → Mem → Option (Int32 × Mem)
  | 0, _, _ => none
  | n + 1, a0, M => if 200 < a0 then (some (((-1000000005) : Int32), M)) else bd (f_X1_measureFlows 2 M) fun M5 => bd (f_X1_flowsAreNought 2 M5) fun r6 => if r6 = 0 then (bd (f_X1_moveAir 2 M5) fun M9 => nm (a0 + 1 : Int32) fun x10 => f_X8_minutesUntilStill_l10 nl b1 n x10 M9) else some (a0, M5)
set_option maxHeartbeats 4000000 in
set_option maxRecDepth 100000 in
theorem t_X8_minutesUntilStill_l10 {x : En} {E : Amd} {D : va_G} {ca : Nat → ClassId} {h : Nat → Nat} {nl : Nat} {b1 : Nat} (K : Kx x E D (tysOf ca) h (LaC ca h nl) RX8 cX8_minutesUntilStill 3 4 87) {r0 : Int32} {Mo : Mem} (hR : Rt x D h (LaC ca h nl) (some .int) (some (.int r0)) Mo) (hb1 : b1 < 3) : ∀ (n : Nat) (a0 : Int32) (M : Mem), f_X8_minutesUntilStill_l10 nl b1 n a0 M = some (r0, Mo) → Go x D (tysOf ca) h (LaC ca h nl) 3 M 10 [some (.ref (h 52)), none, some (.int a0)] [] := by
  intro n
  induction n with
  | zero =>
    intro a0 M hf
    cases hf
  | succ n ih =>
    intro a0 M hf
    rw [f_X8_minutesUntilStill_l10] at hf
    refine o_iload_n K 2 dX8_minutesUntilStill_10 rfl rfl ?_
    refine o_sipush K 200 dX8_minutesUntilStill_11 (by decide) ?_
    refine o_icmp_gt K 49 dX8_minutesUntilStill_14 (by decide) (fun c3 => ?_) (fun c3 => ?_)
    · have hf := ip c3 hf
      refine o_ldc K q552 dX8_minutesUntilStill_49 ?_
      exact e_iret K hf hR dX8_minutesUntilStill_51
    · have hf := im c3 hf
      refine o_aload_n K 0 dX8_minutesUntilStill_17 rfl rfl ?_
      refine gC_X8_12 K dX8_minutesUntilStill_18 ?_
      obtain ⟨M5, er4, hf⟩ := bd_e hf
      refine o_callV K [] (k_X1_measureFlows x.2.1 E D ca h nl M 2 hb_2 er4) s_X8_25 (ltHall hb_2) (obHall_c (ca := ca) (h := h) hb_2 _) rfl rfl rfl ⟨by decide, by decide⟩ (Nat.le_of_ble_eq_true rfl) _ rfl dX8_minutesUntilStill_21 ?_
      show Go x D (tysOf ca) h (LaC ca h nl) 3 M5 24 [some (.ref (h 52)), none, some (.int a0)] []
      refine o_aload_n K 0 dX8_minutesUntilStill_24 rfl rfl ?_
      refine gC_X8_12 K dX8_minutesUntilStill_25 ?_
      obtain ⟨r6, er6, hf⟩ := bd_e hf
      refine o_callV K [] (k_X1_flowsAreNought x.2.1 E D ca h nl M5 2 hb_2 er6) s_X8_28 (ltHall hb_2) (obHall_c (ca := ca) (h := h) hb_2 _) rfl rfl rfl ⟨by decide, by decide⟩ (Nat.le_of_ble_eq_true rfl) _ rfl dX8_minutesUntilStill_28 ?_
      show Go x D (tysOf ca) h (LaC ca h nl) 3 M5 31 [some (.ref (h 52)), none, some (.int a0)] [.int r6]
      refine o_if_eq K 36 dX8_minutesUntilStill_31 (by decide) (fun c7 => ?_) (fun c7 => ?_)
      · have hf := ip c7 hf
        refine o_aload_n K 0 dX8_minutesUntilStill_36 rfl rfl ?_
        refine gC_X8_12 K dX8_minutesUntilStill_37 ?_
        obtain ⟨M9, er8, hf⟩ := bd_e hf
        refine o_callV K [] (k_X1_moveAir x.2.1 E D ca h nl M5 2 hb_2 er8) s_X8_32 (ltHall hb_2) (obHall_c (ca := ca) (h := h) hb_2 _) rfl rfl rfl ⟨by decide, by decide⟩ (Nat.le_of_ble_eq_true rfl) _ rfl dX8_minutesUntilStill_40 ?_
        show Go x D (tysOf ca) h (LaC ca h nl) 3 M9 43 [some (.ref (h 52)), none, some (.int a0)] []
        obtain ⟨x10, ex10, hf⟩ := nm_o hf
        refine o_iinc K 2 x10 [some (.ref (h 52)), none, some (.int x10)] dX8_minutesUntilStill_43 rfl (inc_e (by decide) ex10) (by decide) rfl rfl ?_
        refine o_goto K 10 dX8_minutesUntilStill_46 (by decide) ?_
        exact ih x10 M9 hf
      · have hf := im c7 hf
        refine o_iload_n K 2 dX8_minutesUntilStill_34 rfl rfl ?_
        exact e_iret K hf hR dX8_minutesUntilStill_35
def f_X8_minutesUntilStill (nl : Nat) (b1 : Nat) (M : Mem) : Option (Int32 × Mem) := bd (f_X1_takeFrom nl 2 b1 M) fun M2 => f_X8_minutesUntilStill_l10 nl b1 FU (0 : Int32) M2
set_option maxHeartbeats 4000000 in
set_option maxRecDepth 100000 in
theorem k_X8_minutesUntilStill (l : Launch) (E : Amd) (D : va_G) (ca : Nat → ClassId) (h : Nat → Nat) (nl : Nat) (M : Mem) (b1 : Nat) {r0 : Int32} {Mo : Mem} (hb1 : b1 < 3) (hf : f_X8_minutesUntilStill nl b1 M = some (r0, Mo)) : Ct l E D (tysOf ca) h (LaC ca h nl) yX8_minutesUntilStill cX8_minutesUntilStill 3 (some .int) 4 87 [.ref (h 52), .ref (h (HB b1))] M (some (.int r0)) Mo := by
  refine Ct.mk [some (.ref (h 52)), some (.ref (h (HB b1))), none] (by decide) (Nat.le_of_ble_eq_true rfl) (argsV [.ref (h 52), .ref (h (HB b1))] 1 rfl rfl) ?_
  intro x hx0 K hR
  have K : Kx x E D (tysOf ca) h (LaC ca h nl) RX8 cX8_minutesUntilStill 3 4 87 := K
  rw [f_X8_minutesUntilStill] at hf
  refine o_aload_n K 0 dX8_minutesUntilStill_0 rfl rfl ?_
  refine gC_X8_12 K dX8_minutesUntilStill_1 ?_
  refine o_aload_n K 1 dX8_minutesUntilStill_4 rfl rfl ?_
  obtain ⟨M2, er1, hf⟩ := bd_e hf
  refine o_callV K [.ref (h (HB b1))] (k_X1_takeFrom x.2.1 E D ca h nl M 2 b1 hb_2 hb1 er1) s_X8_18 (ltHall hb_2) (obHall_c (ca := ca) (h := h) hb_2 _) rfl rfl rfl ⟨by decide, by decide⟩ (Nat.le_of_ble_eq_true rfl) _ rfl dX8_minutesUntilStill_5 ?_
  show Go x D (tysOf ca) h (LaC ca h nl) 3 M2 8 [some (.ref (h 52)), some (.ref (h (HB b1))), none] []
  refine o_iconst K 0 dX8_minutesUntilStill_8 (by decide) ?_
  refine o_istore_n K 2 [some (.ref (h 52)), some (.ref (h (HB b1))), some (.int 0)] dX8_minutesUntilStill_9 rfl (by decide) rfl rfl ?_
  refine o_drop [true, false, true] (V2 := [some (.ref (h 52)), none, some (.int 0)]) rfl ?_
  exact t_X8_minutesUntilStill_l10 K hR hb1 FU (0 : Int32) M2 hf
def f_X8_isCalm_l3 : Nat → Int32 → Int32 → Int32 → Int32 → Mem → Option (Int32 × Mem)
  | 0, _, _, _, _, _ => none
  | n + 1, a0, a1, a2, a3, M => if a2 < a3 then (some ((1 : Int32), M)) else bd (f_X1_measureFlows 2 M) fun M3 => rd M3 (HB 2 + 15) 9 a0 fun x4 => if x4 ≤ a1 then (bd (f_X1_moveAir 2 M3) fun M8 => nm (a3 + 1 : Int32) fun x9 => f_X8_isCalm_l3 n a0 a1 a2 x9 M8) else some ((0 : Int32), M3)
set_option maxHeartbeats 4000000 in
set_option maxRecDepth 100000 in
theorem t_X8_isCalm_l3 {x : En} {E : Amd} {D : va_G} {ca : Nat → ClassId} {h : Nat → Nat} {nl : Nat} (K : Kx x E D (tysOf ca) h (LaC ca h nl) RX8 cX8_isCalm 5 4 87) {r0 : Int32} {Mo : Mem} (hR : Rt x D h (LaC ca h nl) (some .boolean) (some (.int r0)) Mo) : ∀ (n : Nat) (a0 : Int32) (a1 : Int32) (a2 : Int32) (a3 : Int32) (M : Mem), f_X8_isCalm_l3 n a0 a1 a2 a3 M = some (r0, Mo) → Go x D (tysOf ca) h (LaC ca h nl) 5 M 3 [some (.ref (h 52)), some (.int a0), some (.int a1), some (.int a2), some (.int a3)] [] := by
  intro n
  induction n with
  | zero =>
    intro a0 a1 a2 a3 M hf
    cases hf
  | succ n ih =>
    intro a0 a1 a2 a3 M hf
    rw [f_X8_isCalm_l3] at hf
    refine o_iload K 4 dX8_isCalm_3 rfl ?_
    refine o_iload_n K 3 dX8_isCalm_5 rfl rfl ?_
    refine o_icmp_gt K 44 dX8_isCalm_6 (by decide) (fun c1 => ?_) (fun c1 => ?_)
    · have hf := ip c1 hf
      refine o_iconst K 1 dX8_isCalm_44 (by decide) ?_
      exact e_zret K hf hR (by decide) dX8_isCalm_45
    · have hf := im c1 hf
      refine o_aload_n K 0 dX8_isCalm_9 rfl rfl ?_
      refine gC_X8_12 K dX8_isCalm_10 ?_
      obtain ⟨M3, er2, hf⟩ := bd_e hf
      refine o_callV K [] (k_X1_measureFlows x.2.1 E D ca h nl M 2 hb_2 er2) s_X8_25 (ltHall hb_2) (obHall_c (ca := ca) (h := h) hb_2 _) rfl rfl rfl ⟨by decide, by decide⟩ (Nat.le_of_ble_eq_true rfl) _ rfl dX8_isCalm_13 ?_
      show Go x D (tysOf ca) h (LaC ca h nl) 5 M3 16 [some (.ref (h 52)), some (.int a0), some (.int a1), some (.int a2), some (.int a3)] []
      refine o_aload_n K 0 dX8_isCalm_16 rfl rfl ?_
      refine gC_X8_12 K dX8_isCalm_17 ?_
      refine gC_X8_59 hb_2 K dX8_isCalm_20 ?_
      refine o_iload_n K 1 dX8_isCalm_23 rfl rfl ?_
      obtain ⟨g5, x4, ex4, hf⟩ := rd_e hf
      refine lCh hb_2 15 9 (by decide) (fun _ => rfl) K g5 dX8_isCalm_24 ?_
      refine o_nmi ex4 ?_
      refine o_iload_n K 2 dX8_isCalm_25 rfl rfl ?_
      refine o_icmp_le K 31 dX8_isCalm_26 (by decide) (fun c6 => ?_) (fun c6 => ?_)
      · have hf := ip c6 hf
        refine o_aload_n K 0 dX8_isCalm_31 rfl rfl ?_
        refine gC_X8_12 K dX8_isCalm_32 ?_
        obtain ⟨M8, er7, hf⟩ := bd_e hf
        refine o_callV K [] (k_X1_moveAir x.2.1 E D ca h nl M3 2 hb_2 er7) s_X8_32 (ltHall hb_2) (obHall_c (ca := ca) (h := h) hb_2 _) rfl rfl rfl ⟨by decide, by decide⟩ (Nat.le_of_ble_eq_true rfl) _ rfl dX8_isCalm_35 ?_
        show Go x D (tysOf ca) h (LaC ca h nl) 5 M8 38 [some (.ref (h 52)), some (.int a0), some (.int a1), some (.int a2), some (.int a3)] []
        obtain ⟨x9, ex9, hf⟩ := nm_o hf
        refine o_iinc K 4 x9 [some (.ref (h 52)), some (.int a0), some (.int a1), some (.int a2), some (.int x9)] dX8_isCalm_38 rfl (inc_e (by decide) ex9) (by decide) rfl rfl ?_
        refine o_goto K 3 dX8_isCalm_41 (by decide) ?_
        exact ih a0 a1 a2 x9 M8 hf
      · have hf := im c6 hf
        refine o_iconst K 0 dX8_isCalm_29 (by decide) ?_
        exact e_zret K hf hR (by decide) dX8_isCalm_30
def f_X8_isCalm (M : Mem) (a1 : Int32) (a2 : Int32) (a3 : Int32) : Option (Int32 × Mem) := f_X8_isCalm_l3 FU a1 a2 a3 (0 : Int32) M
set_option maxHeartbeats 4000000 in
set_option maxRecDepth 100000 in
theorem k_X8_isCalm (l : Launch) (E : Amd) (D : va_G) (ca : Nat → ClassId) (h : Nat → Nat) (nl : Nat) (M : Mem) (a1 : Int32) (a2 : Int32) (a3 : Int32) {r0 : Int32} {Mo : Mem} (hf : f_X8_isCalm M a1 a2 a3 = some (r0, Mo)) : Ct l E D (tysOf ca) h (LaC ca h nl) yX8_isCalm cX8_isCalm 5 (some .boolean) 4 87 [.ref (h 52), .int a1, .int a2, .int a3] M (some (.int r0)) Mo := by
  refine Ct.mk [some (.ref (h 52)), some (.int a1), some (.int a2), some (.int a3), none] (by decide) (Nat.le_of_ble_eq_true rfl) (argsV [.ref (h 52), .int a1, .int a2, .int a3] 1 rfl rfl) ?_
  intro x hx0 K hR
  have K : Kx x E D (tysOf ca) h (LaC ca h nl) RX8 cX8_isCalm 5 4 87 := K
  rw [f_X8_isCalm] at hf
  refine o_iconst K 0 dX8_isCalm_0 (by decide) ?_
  refine o_istore K 4 [some (.ref (h 52)), some (.int a1), some (.int a2), some (.int a3), some (.int 0)] dX8_isCalm_1 (by decide) rfl rfl ?_
  exact t_X8_isCalm_l3 K hR FU a1 a2 a3 (0 : Int32) M hf
def f_X8_fewestToShut_j102 (nl : Nat) (b1 : Nat) (rec28 : Int32 → Int32 → Int32 → Int32 → Int32 → Int32 → Int32 → Mem → Option (Int32 × Mem)) (a0 : Int32) (a1 : Int32) (a2 : Int32) (a3 : Int32) (a4 : Int32) (a5 : Int32) (a6 : Int32) (M : Mem) : Option (Int32 × Mem) := nm (a6 + 1 : Int32) fun x15 => rec28 a0 a1 a2 a3 a4 a5 x15 M
set_option maxHeartbeats 4000000 in
set_option maxRecDepth 100000 in
theorem t_X8_fewestToShut_j102 {x : En} {E : Amd} {D : va_G} {ca : Nat → ClassId} {h : Nat → Nat} {nl : Nat} {b1 : Nat} (K : Kx x E D (tysOf ca) h (LaC ca h nl) RX8 cX8_fewestToShut 9 5 111) {r0 : Int32} {Mo : Mem} (hR : Rt x D h (LaC ca h nl) (some .int) (some (.int r0)) Mo) (hb1 : b1 < 3) {rec28 : Int32 → Int32 → Int32 → Int32 → Int32 → Int32 → Int32 → Mem → Option (Int32 × Mem)} (ih28 : ∀ (w0 : Int32) (w1 : Int32) (w2 : Int32) (w3 : Int32) (w4 : Int32) (w5 : Int32) (w6 : Int32) (M : Mem), rec28 w0 w1 w2 w3 w4 w5 w6 M = some (r0, Mo) → Go x D (tysOf ca) h (LaC ca h nl) 9 M 28 [some (.ref (h 52)), some (.ref (h (HB b1))), some (.int w0), some (.int w1), some (.int w2), some (.int w3), some (.int w4), some (.int w5), some (.int w6)] []) (a0 : Int32) (a1 : Int32) (a2 : Int32) (a3 : Int32) (a4 : Int32) (a5 : Int32) (a6 : Int32) (M : Mem) (hf : f_X8_fewestToShut_j102 nl b1 rec28 a0 a1 a2 a3 a4 a5 a6 M = some (r0, Mo)) : Go x D (tysOf ca) h (LaC ca h nl) 9 M 102 [some (.ref (h 52)), some (.ref (h (HB b1))), some (.int a0), some (.int a1), some (.int a2), some (.int a3), some (.int a4), some (.int a5), some (.int a6)] [] := by
  rw [f_X8_fewestToShut_j102] at hf
  obtain ⟨x15, ex15, hf⟩ := nm_o hf
  refine o_iinc K 8 x15 [some (.ref (h 52)), some (.ref (h (HB b1))), some (.int a0), some (.int a1), some (.int a2), some (.int a3), some (.int a4), some (.int a5), some (.int x15)] dX8_fewestToShut_102 rfl (inc_e (by decide) ex15) (by decide) rfl rfl ?_
  refine o_goto K 28 dX8_fewestToShut_105 (by decide) ?_
  exact ih28 a0 a1 a2 a3 a4 a5 x15 M hf
def f_X8_fewestToShut_l28 (nl : Nat) (b1 : Nat) : Nat → Int32 → Int32 → Int32 → Int32 → Int32 → Int32 → Int32 → Mem → Option (Int32 × Mem)
  | 0, _, _, _, _, _, _, _, _ => none
  | n + 1, a0, a1, a2, a3, a4, a5, a6, M => if a3 < a6 then (some (a4, M)) else if (a6 &&& (a3 ^^^ (-1))) = 0 then (bd (f_J6_bitCount_0f7a4 a6) fun r6 => if a5 ≤ r6 then (f_X8_fewestToShut_j102 nl b1 (f_X8_fewestToShut_l28 nl b1 n) a0 a1 a2 a3 a4 a5 a6 M) else bd (f_X1_takeAirFrom 2 b1 M) fun M9 => nm (sto M9 (HB 2 + 1) 1 (a3 &&& (a6 ^^^ (-1)))) fun M10 => bd2 (f_X8_isCalm M10 a0 a1 a2) fun r11 M12 => if r11 = 0 then (f_X8_fewestToShut_j102 nl b1 (f_X8_fewestToShut_l28 nl b1 n) a0 a1 a2 a3 a4 a5 a6 M12) else bd (f_J6_bitCount_0f7a4 a6) fun r14 => f_X8_fewestToShut_j102 nl b1 (f_X8_fewestToShut_l28 nl b1 n) a0 a1 a2 a3 a6 r14 a6 M12) else f_X8_fewestToShut_j102 nl b1 (f_X8_fewestToShut_l28 nl b1 n) a0 a1 a2 a3 a4 a5 a6 M
set_option maxHeartbeats 4000000 in
set_option maxRecDepth 100000 in
theorem t_X8_fewestToShut_l28 {x : En} {E : Amd} {D : va_G} {ca : Nat → ClassId} {h : Nat → Nat} {nl : Nat} {b1 : Nat} (K : Kx x E D (tysOf ca) h (LaC ca h nl) RX8 cX8_fewestToShut 9 5 111) {r0 : Int32} {Mo : Mem} (hR : Rt x D h (LaC ca h nl) (some .int) (some (.int r0)) Mo) (hb1 : b1 < 3) : ∀ (n : Nat) (a0 : Int32) (a1 : Int32) (a2 : Int32) (a3 : Int32) (a4 : Int32) (a5 : Int32) (a6 : Int32) (M : Mem), f_X8_fewestToShut_l28 nl b1 n a0 a1 a2 a3 a4 a5 a6 M = some (r0, Mo) → Go x D (tysOf ca) h (LaC ca h nl) 9 M 28 [some (.ref (h 52)), some (.ref (h (HB b1))), some (.int a0), some (.int a1), some (.int a2), some (.int a3), some (.int a4), some (.int a5), some (.int a6)] [] := by
  intro n
  induction n with
  | zero =>
    intro a0 a1 a2 a3 a4 a5 a6 M hf
    cases hf
  | succ n ih =>
    intro a0 a1 a2 a3 a4 a5 a6 M hf
    rw [f_X8_fewestToShut_l28] at hf
    refine o_iload K 8 dX8_fewestToShut_28 rfl ?_
    refine o_iload K 5 dX8_fewestToShut_30 rfl ?_
    refine o_icmp_gt K 108 dX8_fewestToShut_32 (by decide) (fun c4 => ?_) (fun c4 => ?_)
    · have hf := ip c4 hf
      refine o_iload K 6 dX8_fewestToShut_108 rfl ?_
      exact e_iret K hf hR dX8_fewestToShut_110
    · have hf := im c4 hf
      refine o_iload K 8 dX8_fewestToShut_35 rfl ?_
      refine o_iload K 5 dX8_fewestToShut_37 rfl ?_
      refine o_iconst K (-1) dX8_fewestToShut_39 (by decide) ?_
      refine o_ixor K dX8_fewestToShut_40 ?_
      refine o_iand K dX8_fewestToShut_41 ?_
      refine o_if_ne K 102 dX8_fewestToShut_42 (by decide) (fun c5 => ?_) (fun c5 => ?_)
      · have hf := im c5 hf
        exact t_X8_fewestToShut_j102 K hR hb1 ih a0 a1 a2 a3 a4 a5 a6 M hf
      · have hf := ip c5 hf
        refine o_iload K 8 dX8_fewestToShut_45 rfl ?_
        obtain ⟨r6, er6, hf⟩ := bd_e hf
        refine o_callS K [.int a6] (k_J6_bitCount_0f7a4 x.2.1 E D ca h nl M a6 er6) s_X8_46 rfl ⟨by decide, by decide⟩ (Nat.le_of_ble_eq_true rfl) _ rfl dX8_fewestToShut_47 ?_
        show Go x D (tysOf ca) h (LaC ca h nl) 9 M 50 [some (.ref (h 52)), some (.ref (h (HB b1))), some (.int a0), some (.int a1), some (.int a2), some (.int a3), some (.int a4), some (.int a5), some (.int a6)] [.int r6]
        refine o_iload K 7 dX8_fewestToShut_50 rfl ?_
        refine o_icmp_ge K 102 dX8_fewestToShut_52 (by decide) (fun c7 => ?_) (fun c7 => ?_)
        · have hf := ip c7 hf
          exact t_X8_fewestToShut_j102 K hR hb1 ih a0 a1 a2 a3 a4 a5 a6 M hf
        · have hf := im c7 hf
          refine o_aload_n K 0 dX8_fewestToShut_55 rfl rfl ?_
          refine gC_X8_12 K dX8_fewestToShut_56 ?_
          refine o_aload_n K 1 dX8_fewestToShut_59 rfl rfl ?_
          obtain ⟨M9, er8, hf⟩ := bd_e hf
          refine o_callV K [.ref (h (HB b1))] (k_X1_takeAirFrom x.2.1 E D ca h nl M 2 b1 hb_2 hb1 er8) s_X8_52 (ltHall hb_2) (obHall_c (ca := ca) (h := h) hb_2 _) rfl rfl rfl ⟨by decide, by decide⟩ (Nat.le_of_ble_eq_true rfl) _ rfl dX8_fewestToShut_60 ?_
          show Go x D (tysOf ca) h (LaC ca h nl) 9 M9 63 [some (.ref (h 52)), some (.ref (h (HB b1))), some (.int a0), some (.int a1), some (.int a2), some (.int a3), some (.int a4), some (.int a5), some (.int a6)] []
          refine o_aload_n K 0 dX8_fewestToShut_63 rfl rfl ?_
          refine gC_X8_12 K dX8_fewestToShut_64 ?_
          refine gC_X8_36 hb_2 K dX8_fewestToShut_67 ?_
          refine o_iload K 5 dX8_fewestToShut_70 rfl ?_
          refine o_iload K 8 dX8_fewestToShut_72 rfl ?_
          refine o_iconst K (-1) dX8_fewestToShut_74 (by decide) ?_
          refine o_ixor K dX8_fewestToShut_75 ?_
          refine o_iand K dX8_fewestToShut_76 ?_
          obtain ⟨M10, eM10, hf⟩ := nm_o hf
          refine pC_X8_40 hb_2 K dX8_fewestToShut_77 ?_
          refine o_nmM eM10 ?_
          refine o_aload_n K 0 dX8_fewestToShut_80 rfl rfl ?_
          refine o_iload_n K 2 dX8_fewestToShut_81 rfl rfl ?_
          refine o_iload_n K 3 dX8_fewestToShut_82 rfl rfl ?_
          refine o_iload K 4 dX8_fewestToShut_83 rfl ?_
          obtain ⟨r11, M12, er11, hf⟩ := bd2_e hf
          refine o_callV K [.int a0, .int a1, .int a2] (k_X8_isCalm x.2.1 E D ca h nl M10 a0 a1 a2 er11) s_X8_55 (ltThought) (obThought_c (ca := ca) (h := h) (fun _ => 0)) rfl rfl rfl ⟨by decide, by decide⟩ (Nat.le_of_ble_eq_true rfl) _ rfl dX8_fewestToShut_85 ?_
          show Go x D (tysOf ca) h (LaC ca h nl) 9 M12 88 [some (.ref (h 52)), some (.ref (h (HB b1))), some (.int a0), some (.int a1), some (.int a2), some (.int a3), some (.int a4), some (.int a5), some (.int a6)] [.int r11]
          refine o_if_eq K 102 dX8_fewestToShut_88 (by decide) (fun c13 => ?_) (fun c13 => ?_)
          · have hf := ip c13 hf
            exact t_X8_fewestToShut_j102 K hR hb1 ih a0 a1 a2 a3 a4 a5 a6 M12 hf
          · have hf := im c13 hf
            refine o_iload K 8 dX8_fewestToShut_91 rfl ?_
            refine o_istore K 6 [some (.ref (h 52)), some (.ref (h (HB b1))), some (.int a0), some (.int a1), some (.int a2), some (.int a3), some (.int a6), some (.int a5), some (.int a6)] dX8_fewestToShut_93 (by decide) rfl rfl ?_
            refine o_iload K 8 dX8_fewestToShut_95 rfl ?_
            obtain ⟨r14, er14, hf⟩ := bd_e hf
            refine o_callS K [.int a6] (k_J6_bitCount_0f7a4 x.2.1 E D ca h nl M12 a6 er14) s_X8_46 rfl ⟨by decide, by decide⟩ (Nat.le_of_ble_eq_true rfl) _ rfl dX8_fewestToShut_97 ?_
            show Go x D (tysOf ca) h (LaC ca h nl) 9 M12 100 [some (.ref (h 52)), some (.ref (h (HB b1))), some (.int a0), some (.int a1), some (.int a2), some (.int a3), some (.int a6), some (.int a5), some (.int a6)] [.int r14]
            refine o_istore K 7 [some (.ref (h 52)), some (.ref (h (HB b1))), some (.int a0), some (.int a1), some (.int a2), some (.int a3), some (.int a6), some (.int r14), some (.int a6)] dX8_fewestToShut_100 (by decide) rfl rfl ?_
            exact t_X8_fewestToShut_j102 K hR hb1 ih a0 a1 a2 a3 a6 r14 a6 M12 hf
def f_X8_fewestToShut (nl : Nat) (b1 : Nat) (M : Mem) (a2 : Int32) (a3 : Int32) (a4 : Int32) : Option (Int32 × Mem) := bd (f_X1_takeFrom nl 2 b1 M) fun M2 => nm (M2 (HB b1 + 1) 1 : Int32) fun x3 => f_X8_fewestToShut_l28 nl b1 FU a2 a3 a4 x3 ((-1000000005) : Int32) (11 : Int32) (0 : Int32) M2
set_option maxHeartbeats 4000000 in
set_option maxRecDepth 100000 in
theorem k_X8_fewestToShut (l : Launch) (E : Amd) (D : va_G) (ca : Nat → ClassId) (h : Nat → Nat) (nl : Nat) (M : Mem) (b1 : Nat) (a2 : Int32) (a3 : Int32) (a4 : Int32) {r0 : Int32} {Mo : Mem} (hb1 : b1 < 3) (hf : f_X8_fewestToShut nl b1 M a2 a3 a4 = some (r0, Mo)) : Ct l E D (tysOf ca) h (LaC ca h nl) yX8_fewestToShut cX8_fewestToShut 9 (some .int) 5 111 [.ref (h 52), .ref (h (HB b1)), .int a2, .int a3, .int a4] M (some (.int r0)) Mo := by
  refine Ct.mk [some (.ref (h 52)), some (.ref (h (HB b1))), some (.int a2), some (.int a3), some (.int a4), none, none, none, none] (by decide) (Nat.le_of_ble_eq_true rfl) (argsV [.ref (h 52), .ref (h (HB b1)), .int a2, .int a3, .int a4] 4 rfl rfl) ?_
  intro x hx0 K hR
  have K : Kx x E D (tysOf ca) h (LaC ca h nl) RX8 cX8_fewestToShut 9 5 111 := K
  rw [f_X8_fewestToShut] at hf
  refine o_aload_n K 0 dX8_fewestToShut_0 rfl rfl ?_
  refine gC_X8_12 K dX8_fewestToShut_1 ?_
  refine o_aload_n K 1 dX8_fewestToShut_4 rfl rfl ?_
  obtain ⟨M2, er1, hf⟩ := bd_e hf
  refine o_callV K [.ref (h (HB b1))] (k_X1_takeFrom x.2.1 E D ca h nl M 2 b1 hb_2 hb1 er1) s_X8_18 (ltHall hb_2) (obHall_c (ca := ca) (h := h) hb_2 _) rfl rfl rfl ⟨by decide, by decide⟩ (Nat.le_of_ble_eq_true rfl) _ rfl dX8_fewestToShut_5 ?_
  show Go x D (tysOf ca) h (LaC ca h nl) 9 M2 8 [some (.ref (h 52)), some (.ref (h (HB b1))), some (.int a2), some (.int a3), some (.int a4), none, none, none, none] []
  refine o_aload_n K 1 dX8_fewestToShut_8 rfl rfl ?_
  refine gC_X8_36 hb1 K dX8_fewestToShut_9 ?_
  refine gC_X8_40 hb1 K dX8_fewestToShut_12 ?_
  obtain ⟨x3, ex3, hf⟩ := nm_o hf
  refine o_nmi ex3 ?_
  refine o_istore K 5 [some (.ref (h 52)), some (.ref (h (HB b1))), some (.int a2), some (.int a3), some (.int a4), some (.int x3), none, none, none] dX8_fewestToShut_15 (by decide) rfl rfl ?_
  refine o_ldc K q552 dX8_fewestToShut_17 ?_
  refine o_istore K 6 [some (.ref (h 52)), some (.ref (h (HB b1))), some (.int a2), some (.int a3), some (.int a4), some (.int x3), some (.int (-1000000005)), none, none] dX8_fewestToShut_19 (by decide) rfl rfl ?_
  refine o_bipush K 11 dX8_fewestToShut_21 (by decide) ?_
  refine o_istore K 7 [some (.ref (h 52)), some (.ref (h (HB b1))), some (.int a2), some (.int a3), some (.int a4), some (.int x3), some (.int (-1000000005)), some (.int 11), none] dX8_fewestToShut_23 (by decide) rfl rfl ?_
  refine o_iconst K 0 dX8_fewestToShut_25 (by decide) ?_
  refine o_istore K 8 [some (.ref (h 52)), some (.ref (h (HB b1))), some (.int a2), some (.int a3), some (.int a4), some (.int x3), some (.int (-1000000005)), some (.int 11), some (.int 0)] dX8_fewestToShut_26 (by decide) rfl rfl ?_
  exact t_X8_fewestToShut_l28 K hR hb1 FU a2 a3 a4 x3 ((-1000000005) : Int32) (11 : Int32) (0 : Int32) M2 hf
def f_X8_roomsThatSmell_j102 (nl : Nat) (b1 : Nat) (rec73 : Int32 → Int32 → Mem → Option (Int32 × Mem)) (a0 : Int32) (a1 : Int32) (M : Mem) : Option (Int32 × Mem) := nm (a1 + 1 : Int32) fun x20 => rec73 a0 x20 M
set_option maxHeartbeats 4000000 in
set_option maxRecDepth 100000 in
theorem t_X8_roomsThatSmell_j102 {x : En} {E : Amd} {D : va_G} {ca : Nat → ClassId} {h : Nat → Nat} {nl : Nat} {b1 : Nat} (K : Kx x E D (tysOf ca) h (LaC ca h nl) RX8 cX8_roomsThatSmell 6 4 87) {r0 : Int32} {Mo : Mem} (hR : Rt x D h (LaC ca h nl) (some .int) (some (.int r0)) Mo) (hb1 : b1 < 3) {rec73 : Int32 → Int32 → Mem → Option (Int32 × Mem)} (ih73 : ∀ (w0 : Int32) (w1 : Int32) (M : Mem), rec73 w0 w1 M = some (r0, Mo) → Go x D (tysOf ca) h (LaC ca h nl) 6 M 73 [some (.ref (h 52)), none, none, none, some (.int w0), some (.int w1)] []) (a0 : Int32) (a1 : Int32) (M : Mem) (hf : f_X8_roomsThatSmell_j102 nl b1 rec73 a0 a1 M = some (r0, Mo)) : Go x D (tysOf ca) h (LaC ca h nl) 6 M 102 [some (.ref (h 52)), none, none, none, some (.int a0), some (.int a1)] [] := by
  rw [f_X8_roomsThatSmell_j102] at hf
  obtain ⟨x20, ex20, hf⟩ := nm_o hf
  refine o_iinc K 5 x20 [some (.ref (h 52)), none, none, none, some (.int a0), some (.int x20)] dX8_roomsThatSmell_102 rfl (inc_e (by decide) ex20) (by decide) rfl rfl ?_
  refine o_goto K 73 dX8_roomsThatSmell_105 (by decide) ?_
  exact ih73 a0 x20 M hf
def f_X8_roomsThatSmell_l73 (nl : Nat) (b1 : Nat) : Nat → Int32 → Int32 → Mem → Option (Int32 × Mem)
  | 0, _, _, _ => none
  | n + 1, a0, a1, M => if 8 ≤ a1 then (some (a0, M)) else rd M (HB 2 + 13) 8 a1 fun x16 => if x16 ≤ 0 then (f_X8_roomsThatSmell_j102 nl b1 (f_X8_roomsThatSmell_l73 nl b1 n) a0 a1 M) else nm (a0 ||| ((1 : Int32) <<< (a1 &&& 31)) : Int32) fun x19 => f_X8_roomsThatSmell_j102 nl b1 (f_X8_roomsThatSmell_l73 nl b1 n) x19 a1 M
set_option maxHeartbeats 4000000 in
set_option maxRecDepth 100000 in
theorem t_X8_roomsThatSmell_l73 {x : En} {E : Amd} {D : va_G} {ca : Nat → ClassId} {h : Nat → Nat} {nl : Nat} {b1 : Nat} (K : Kx x E D (tysOf ca) h (LaC ca h nl) RX8 cX8_roomsThatSmell 6 4 87) {r0 : Int32} {Mo : Mem} (hR : Rt x D h (LaC ca h nl) (some .int) (some (.int r0)) Mo) (hb1 : b1 < 3) : ∀ (n : Nat) (a0 : Int32) (a1 : Int32) (M : Mem), f_X8_roomsThatSmell_l73 nl b1 n a0 a1 M = some (r0, Mo) → Go x D (tysOf ca) h (LaC ca h nl) 6 M 73 [some (.ref (h 52)), none, none, none, some (.int a0), some (.int a1)] [] := by
  intro n
  induction n with
  | zero =>
    intro a0 a1 M hf
    cases hf
  | succ n ih =>
    intro a0 a1 M hf
    rw [f_X8_roomsThatSmell_l73] at hf
    refine o_iload K 5 dX8_roomsThatSmell_73 rfl ?_
    refine o_bipush K 8 dX8_roomsThatSmell_75 (by decide) ?_
    refine o_icmp_ge K 108 dX8_roomsThatSmell_77 (by decide) (fun c15 => ?_) (fun c15 => ?_)
    · have hf := ip c15 hf
      refine o_iload K 4 dX8_roomsThatSmell_108 rfl ?_
      exact e_iret K hf hR dX8_roomsThatSmell_110
    · have hf := im c15 hf
      refine o_aload_n K 0 dX8_roomsThatSmell_80 rfl rfl ?_
      refine gC_X8_12 K dX8_roomsThatSmell_81 ?_
      refine gC_X8_63 hb_2 K dX8_roomsThatSmell_84 ?_
      refine o_iload K 5 dX8_roomsThatSmell_87 rfl ?_
      obtain ⟨g17, x16, ex16, hf⟩ := rd_e hf
      refine lCh hb_2 13 8 (by decide) (fun _ => rfl) K g17 dX8_roomsThatSmell_89 ?_
      refine o_nmi ex16 ?_
      refine o_if_le K 102 dX8_roomsThatSmell_90 (by decide) (fun c18 => ?_) (fun c18 => ?_)
      · have hf := ip c18 hf
        exact t_X8_roomsThatSmell_j102 K hR hb1 ih a0 a1 M hf
      · have hf := im c18 hf
        refine o_iload K 4 dX8_roomsThatSmell_93 rfl ?_
        refine o_iconst K 1 dX8_roomsThatSmell_95 (by decide) ?_
        refine o_iload K 5 dX8_roomsThatSmell_96 rfl ?_
        refine o_ishl K dX8_roomsThatSmell_98 ?_
        refine o_ior K dX8_roomsThatSmell_99 ?_
        obtain ⟨x19, ex19, hf⟩ := nm_o hf
        refine o_nmi ex19 ?_
        refine o_istore K 4 [some (.ref (h 52)), none, none, none, some (.int x19), some (.int a1)] dX8_roomsThatSmell_100 (by decide) rfl rfl ?_
        exact t_X8_roomsThatSmell_j102 K hR hb1 ih x19 a1 M hf
def f_X8_roomsThatSmell_l34 (nl : Nat) (b1 : Nat) : Nat → Int32 → Int32 → Mem → Option (Int32 × Mem)
  | 0, _, _, _ => none
  | n + 1, a0, a1, M => if a0 ≤ a1 then (f_X8_roomsThatSmell_l73 nl b1 FU (0 : Int32) (0 : Int32) M) else bd (f_X1_measureFlows 2 M) fun M9 => bd (f_X1_carryScent 2 M9) fun M11 => bd (f_X1_moveAir 2 M11) fun M13 => nm (a1 + 1 : Int32) fun x14 => f_X8_roomsThatSmell_l34 nl b1 n a0 x14 M13
set_option maxHeartbeats 4000000 in
set_option maxRecDepth 100000 in
theorem t_X8_roomsThatSmell_l34 {x : En} {E : Amd} {D : va_G} {ca : Nat → ClassId} {h : Nat → Nat} {nl : Nat} {b1 : Nat} (K : Kx x E D (tysOf ca) h (LaC ca h nl) RX8 cX8_roomsThatSmell 6 4 87) {r0 : Int32} {Mo : Mem} (hR : Rt x D h (LaC ca h nl) (some .int) (some (.int r0)) Mo) (hb1 : b1 < 3) : ∀ (n : Nat) (a0 : Int32) (a1 : Int32) (M : Mem), f_X8_roomsThatSmell_l34 nl b1 n a0 a1 M = some (r0, Mo) → Go x D (tysOf ca) h (LaC ca h nl) 6 M 34 [some (.ref (h 52)), none, none, some (.int a0), some (.int a1), none] [] := by
  intro n
  induction n with
  | zero =>
    intro a0 a1 M hf
    cases hf
  | succ n ih =>
    intro a0 a1 M hf
    rw [f_X8_roomsThatSmell_l34] at hf
    refine o_iload K 4 dX8_roomsThatSmell_34 rfl ?_
    refine o_iload_n K 3 dX8_roomsThatSmell_36 rfl rfl ?_
    refine o_icmp_ge K 67 dX8_roomsThatSmell_37 (by decide) (fun c7 => ?_) (fun c7 => ?_)
    · have hf := ip c7 hf
      refine o_iconst K 0 dX8_roomsThatSmell_67 (by decide) ?_
      refine o_istore K 4 [some (.ref (h 52)), none, none, some (.int a0), some (.int 0), none] dX8_roomsThatSmell_68 (by decide) rfl rfl ?_
      refine o_iconst K 0 dX8_roomsThatSmell_70 (by decide) ?_
      refine o_istore K 5 [some (.ref (h 52)), none, none, some (.int a0), some (.int 0), some (.int 0)] dX8_roomsThatSmell_71 (by decide) rfl rfl ?_
      refine o_drop [true, false, false, false, true, true] (V2 := [some (.ref (h 52)), none, none, none, some (.int 0), some (.int 0)]) rfl ?_
      exact t_X8_roomsThatSmell_l73 K hR hb1 FU (0 : Int32) (0 : Int32) M hf
    · have hf := im c7 hf
      refine o_aload_n K 0 dX8_roomsThatSmell_40 rfl rfl ?_
      refine gC_X8_12 K dX8_roomsThatSmell_41 ?_
      obtain ⟨M9, er8, hf⟩ := bd_e hf
      refine o_callV K [] (k_X1_measureFlows x.2.1 E D ca h nl M 2 hb_2 er8) s_X8_25 (ltHall hb_2) (obHall_c (ca := ca) (h := h) hb_2 _) rfl rfl rfl ⟨by decide, by decide⟩ (Nat.le_of_ble_eq_true rfl) _ rfl dX8_roomsThatSmell_44 ?_
      show Go x D (tysOf ca) h (LaC ca h nl) 6 M9 47 [some (.ref (h 52)), none, none, some (.int a0), some (.int a1), none] []
      refine o_aload_n K 0 dX8_roomsThatSmell_47 rfl rfl ?_
      refine gC_X8_12 K dX8_roomsThatSmell_48 ?_
      obtain ⟨M11, er10, hf⟩ := bd_e hf
      refine o_callV K [] (k_X1_carryScent x.2.1 E D ca h nl M9 2 hb_2 er10) s_X8_72 (ltHall hb_2) (obHall_c (ca := ca) (h := h) hb_2 _) rfl rfl rfl ⟨by decide, by decide⟩ (Nat.le_of_ble_eq_true rfl) _ rfl dX8_roomsThatSmell_51 ?_
      show Go x D (tysOf ca) h (LaC ca h nl) 6 M11 54 [some (.ref (h 52)), none, none, some (.int a0), some (.int a1), none] []
      refine o_aload_n K 0 dX8_roomsThatSmell_54 rfl rfl ?_
      refine gC_X8_12 K dX8_roomsThatSmell_55 ?_
      obtain ⟨M13, er12, hf⟩ := bd_e hf
      refine o_callV K [] (k_X1_moveAir x.2.1 E D ca h nl M11 2 hb_2 er12) s_X8_32 (ltHall hb_2) (obHall_c (ca := ca) (h := h) hb_2 _) rfl rfl rfl ⟨by decide, by decide⟩ (Nat.le_of_ble_eq_true rfl) _ rfl dX8_roomsThatSmell_58 ?_
      show Go x D (tysOf ca) h (LaC ca h nl) 6 M13 61 [some (.ref (h 52)), none, none, some (.int a0), some (.int a1), none] []
      obtain ⟨x14, ex14, hf⟩ := nm_o hf
      refine o_iinc K 4 x14 [some (.ref (h 52)), none, none, some (.int a0), some (.int x14), none] dX8_roomsThatSmell_61 rfl (inc_e (by decide) ex14) (by decide) rfl rfl ?_
      refine o_goto K 34 dX8_roomsThatSmell_64 (by decide) ?_
      exact ih a0 x14 M13 hf
def f_X8_roomsThatSmell (nl : Nat) (b1 : Nat) (M : Mem) (a2 : Int32) (a3 : Int32) : Option (Int32 × Mem) := bd (f_X1_takeFrom nl 2 b1 M) fun M2 => bd (f_J7_fill_53178 (HB 2 + 13) 8 M2 (0 : Int32)) fun M4 => wr M4 (HB 2 + 13) 8 a2 9999 fun M6 => f_X8_roomsThatSmell_l34 nl b1 FU a3 (0 : Int32) M6
set_option maxHeartbeats 4000000 in
set_option maxRecDepth 100000 in
theorem k_X8_roomsThatSmell (l : Launch) (E : Amd) (D : va_G) (ca : Nat → ClassId) (h : Nat → Nat) (nl : Nat) (M : Mem) (b1 : Nat) (a2 : Int32) (a3 : Int32) {r0 : Int32} {Mo : Mem} (hb1 : b1 < 3) (hf : f_X8_roomsThatSmell nl b1 M a2 a3 = some (r0, Mo)) : Ct l E D (tysOf ca) h (LaC ca h nl) yX8_roomsThatSmell cX8_roomsThatSmell 6 (some .int) 4 87 [.ref (h 52), .ref (h (HB b1)), .int a2, .int a3] M (some (.int r0)) Mo := by
  refine Ct.mk [some (.ref (h 52)), some (.ref (h (HB b1))), some (.int a2), some (.int a3), none, none] (by decide) (Nat.le_of_ble_eq_true rfl) (argsV [.ref (h 52), .ref (h (HB b1)), .int a2, .int a3] 2 rfl rfl) ?_
  intro x hx0 K hR
  have K : Kx x E D (tysOf ca) h (LaC ca h nl) RX8 cX8_roomsThatSmell 6 4 87 := K
  rw [f_X8_roomsThatSmell] at hf
  refine o_aload_n K 0 dX8_roomsThatSmell_0 rfl rfl ?_
  refine gC_X8_12 K dX8_roomsThatSmell_1 ?_
  refine o_aload_n K 1 dX8_roomsThatSmell_4 rfl rfl ?_
  obtain ⟨M2, er1, hf⟩ := bd_e hf
  refine o_callV K [.ref (h (HB b1))] (k_X1_takeFrom x.2.1 E D ca h nl M 2 b1 hb_2 hb1 er1) s_X8_18 (ltHall hb_2) (obHall_c (ca := ca) (h := h) hb_2 _) rfl rfl rfl ⟨by decide, by decide⟩ (Nat.le_of_ble_eq_true rfl) _ rfl dX8_roomsThatSmell_5 ?_
  show Go x D (tysOf ca) h (LaC ca h nl) 6 M2 8 [some (.ref (h 52)), some (.ref (h (HB b1))), some (.int a2), some (.int a3), none, none] []
  refine o_aload_n K 0 dX8_roomsThatSmell_8 rfl rfl ?_
  refine gC_X8_12 K dX8_roomsThatSmell_9 ?_
  refine gC_X8_63 hb_2 K dX8_roomsThatSmell_12 ?_
  refine o_iconst K 0 dX8_roomsThatSmell_15 (by decide) ?_
  obtain ⟨M4, er3, hf⟩ := bd_e hf
  refine o_callS K [.ref (h (HB 2 + 13)), .int 0] (k_J7_fill_53178 x.2.1 E D ca h nl M2 (HB 2 + 13) 8 (0 : Int32) (ltN (ltB hb_2 (show 13 < 17 by decide))) (fun r => c_hall hb_2 13 (by decide) r) er3) s_X8_66 rfl ⟨by decide, by decide⟩ (Nat.le_of_ble_eq_true rfl) _ rfl dX8_roomsThatSmell_16 ?_
  show Go x D (tysOf ca) h (LaC ca h nl) 6 M4 19 [some (.ref (h 52)), some (.ref (h (HB b1))), some (.int a2), some (.int a3), none, none] []
  refine o_aload_n K 0 dX8_roomsThatSmell_19 rfl rfl ?_
  refine gC_X8_12 K dX8_roomsThatSmell_20 ?_
  refine gC_X8_63 hb_2 K dX8_roomsThatSmell_23 ?_
  refine o_iload_n K 2 dX8_roomsThatSmell_26 rfl rfl ?_
  refine o_sipush K 9999 dX8_roomsThatSmell_27 (by decide) ?_
  obtain ⟨g5, M6, eM6, hf⟩ := wr_e hf
  refine sCh hb_2 13 8 (by decide) (fun _ => rfl) K g5 dX8_roomsThatSmell_30 ?_
  refine o_nmM eM6 ?_
  refine o_iconst K 0 dX8_roomsThatSmell_31 (by decide) ?_
  refine o_istore K 4 [some (.ref (h 52)), some (.ref (h (HB b1))), some (.int a2), some (.int a3), some (.int 0), none] dX8_roomsThatSmell_32 (by decide) rfl rfl ?_
  refine o_drop [true, false, false, true, true, false] (V2 := [some (.ref (h 52)), none, none, some (.int a3), some (.int 0), none]) rfl ?_
  exact t_X8_roomsThatSmell_l34 K hR hb1 FU a3 (0 : Int32) M6 hf
def f_X8_litWith_l23 (nl : Nat) (b1 : Nat) : Nat → Int32 → Int32 → Mem → Option (Int32 × Mem)
  | 0, _, _, _ => none
  | n + 1, a0, a1, M => if a0 ≤ a1 then (bd (f_X1_litMany 2 M) fun r6 => some (r6, M)) else bd (f_X1_passMinute nl 2 M) fun M8 => nm (a1 + 1 : Int32) fun x9 => f_X8_litWith_l23 nl b1 n a0 x9 M8
set_option maxHeartbeats 4000000 in
set_option maxRecDepth 100000 in
theorem t_X8_litWith_l23 {x : En} {E : Amd} {D : va_G} {ca : Nat → ClassId} {h : Nat → Nat} {nl : Nat} {b1 : Nat} (K : Kx x E D (tysOf ca) h (LaC ca h nl) RX8 cX8_litWith 6 5 115) {r0 : Int32} {Mo : Mem} (hR : Rt x D h (LaC ca h nl) (some .int) (some (.int r0)) Mo) (hb1 : b1 < 3) : ∀ (n : Nat) (a0 : Int32) (a1 : Int32) (M : Mem), f_X8_litWith_l23 nl b1 n a0 a1 M = some (r0, Mo) → Go x D (tysOf ca) h (LaC ca h nl) 6 M 23 [some (.ref (h 52)), none, none, none, some (.int a0), some (.int a1)] [] := by
  intro n
  induction n with
  | zero =>
    intro a0 a1 M hf
    cases hf
  | succ n ih =>
    intro a0 a1 M hf
    rw [f_X8_litWith_l23] at hf
    refine o_iload K 5 dX8_litWith_23 rfl ?_
    refine o_iload K 4 dX8_litWith_25 rfl ?_
    refine o_icmp_ge K 43 dX8_litWith_27 (by decide) (fun c5 => ?_) (fun c5 => ?_)
    · have hf := ip c5 hf
      refine o_aload_n K 0 dX8_litWith_43 rfl rfl ?_
      refine gC_X8_12 K dX8_litWith_44 ?_
      obtain ⟨r6, er6, hf⟩ := bd_e hf
      refine o_callV K [] (k_X1_litMany x.2.1 E D ca h nl M 2 hb_2 er6) s_X8_79 (ltHall hb_2) (obHall_c (ca := ca) (h := h) hb_2 _) rfl rfl rfl ⟨by decide, by decide⟩ (Nat.le_of_ble_eq_true rfl) _ rfl dX8_litWith_47 ?_
      show Go x D (tysOf ca) h (LaC ca h nl) 6 M 50 [some (.ref (h 52)), none, none, none, some (.int a0), some (.int a1)] [.int r6]
      exact e_iret K hf hR dX8_litWith_50
    · have hf := im c5 hf
      refine o_aload_n K 0 dX8_litWith_30 rfl rfl ?_
      refine gC_X8_12 K dX8_litWith_31 ?_
      obtain ⟨M8, er7, hf⟩ := bd_e hf
      refine o_callV K [] (k_X1_passMinute x.2.1 E D ca h nl M 2 hb_2 er7) s_X8_22 (ltHall hb_2) (obHall_c (ca := ca) (h := h) hb_2 _) rfl rfl rfl ⟨by decide, by decide⟩ (Nat.le_of_ble_eq_true rfl) _ rfl dX8_litWith_34 ?_
      show Go x D (tysOf ca) h (LaC ca h nl) 6 M8 37 [some (.ref (h 52)), none, none, none, some (.int a0), some (.int a1)] []
      obtain ⟨x9, ex9, hf⟩ := nm_o hf
      refine o_iinc K 5 x9 [some (.ref (h 52)), none, none, none, some (.int a0), some (.int x9)] dX8_litWith_37 rfl (inc_e (by decide) ex9) (by decide) rfl rfl ?_
      refine o_goto K 23 dX8_litWith_40 (by decide) ?_
      exact ih a0 x9 M8 hf
def f_X8_litWith (nl : Nat) (b1 : Nat) (M : Mem) (a2 : Int32) (a3 : Int32) (a4 : Int32) : Option (Int32 × Mem) := bd (f_X1_takeFrom nl 2 b1 M) fun M2 => bd (f_X0_swing 2 M2 a2 a3) fun M4 => f_X8_litWith_l23 nl b1 FU a4 (0 : Int32) M4
set_option maxHeartbeats 4000000 in
set_option maxRecDepth 100000 in
theorem k_X8_litWith (l : Launch) (E : Amd) (D : va_G) (ca : Nat → ClassId) (h : Nat → Nat) (nl : Nat) (M : Mem) (b1 : Nat) (a2 : Int32) (a3 : Int32) (a4 : Int32) {r0 : Int32} {Mo : Mem} (hb1 : b1 < 3) (hf : f_X8_litWith nl b1 M a2 a3 a4 = some (r0, Mo)) : Ct l E D (tysOf ca) h (LaC ca h nl) yX8_litWith cX8_litWith 6 (some .int) 5 115 [.ref (h 52), .ref (h (HB b1)), .int a2, .int a3, .int a4] M (some (.int r0)) Mo := by
  refine Ct.mk [some (.ref (h 52)), some (.ref (h (HB b1))), some (.int a2), some (.int a3), some (.int a4), none] (by decide) (Nat.le_of_ble_eq_true rfl) (argsV [.ref (h 52), .ref (h (HB b1)), .int a2, .int a3, .int a4] 1 rfl rfl) ?_
  intro x hx0 K hR
  have K : Kx x E D (tysOf ca) h (LaC ca h nl) RX8 cX8_litWith 6 5 115 := K
  rw [f_X8_litWith] at hf
  refine o_aload_n K 0 dX8_litWith_0 rfl rfl ?_
  refine gC_X8_12 K dX8_litWith_1 ?_
  refine o_aload_n K 1 dX8_litWith_4 rfl rfl ?_
  obtain ⟨M2, er1, hf⟩ := bd_e hf
  refine o_callV K [.ref (h (HB b1))] (k_X1_takeFrom x.2.1 E D ca h nl M 2 b1 hb_2 hb1 er1) s_X8_18 (ltHall hb_2) (obHall_c (ca := ca) (h := h) hb_2 _) rfl rfl rfl ⟨by decide, by decide⟩ (Nat.le_of_ble_eq_true rfl) _ rfl dX8_litWith_5 ?_
  show Go x D (tysOf ca) h (LaC ca h nl) 6 M2 8 [some (.ref (h 52)), some (.ref (h (HB b1))), some (.int a2), some (.int a3), some (.int a4), none] []
  refine o_aload_n K 0 dX8_litWith_8 rfl rfl ?_
  refine gC_X8_12 K dX8_litWith_9 ?_
  refine gC_X8_36 hb_2 K dX8_litWith_12 ?_
  refine o_iload_n K 2 dX8_litWith_15 rfl rfl ?_
  refine o_iload_n K 3 dX8_litWith_16 rfl rfl ?_
  obtain ⟨M4, er3, hf⟩ := bd_e hf
  refine o_callV K [.int a2, .int a3] (k_X0_swing x.2.1 E D ca h nl M2 2 a2 a3 hb_2 er3) s_X8_75 (ltDoors hb_2) (obDoors_c (ca := ca) (h := h) hb_2 _) rfl rfl rfl ⟨by decide, by decide⟩ (Nat.le_of_ble_eq_true rfl) _ rfl dX8_litWith_17 ?_
  show Go x D (tysOf ca) h (LaC ca h nl) 6 M4 20 [some (.ref (h 52)), some (.ref (h (HB b1))), some (.int a2), some (.int a3), some (.int a4), none] []
  refine o_iconst K 0 dX8_litWith_20 (by decide) ?_
  refine o_istore K 5 [some (.ref (h 52)), some (.ref (h (HB b1))), some (.int a2), some (.int a3), some (.int a4), some (.int 0)] dX8_litWith_21 (by decide) rfl rfl ?_
  refine o_drop [true, false, false, false, true, true] (V2 := [some (.ref (h 52)), none, none, none, some (.int a4), some (.int 0)]) rfl ?_
  exact t_X8_litWith_l23 K hR hb1 FU a4 (0 : Int32) M4 hf
def f_X8_allStayLit_l22 (nl : Nat) (b1 : Nat) : Nat → Int32 → Int32 → Mem → Option (Int32 × Mem)
  | 0, _, _, _ => none
  | n + 1, a0, a1, M => if a0 ≤ a1 then (if (M (HB 2) 5) = (M (HB b1) 5) then (some ((1 : Int32), M)) else some ((0 : Int32), M)) else if (M (HB 2) 5) = (M (HB b1) 5) then (bd (f_X1_passMinute nl 2 M) fun M10 => nm (a1 + 1 : Int32) fun x11 => f_X8_allStayLit_l22 nl b1 n a0 x11 M10) else if (M (HB 2) 5) = (M (HB b1) 5) then (some ((1 : Int32), M)) else some ((0 : Int32), M)
set_option maxHeartbeats 4000000 in
set_option maxRecDepth 100000 in
theorem t_X8_allStayLit_l22 {x : En} {E : Amd} {D : va_G} {ca : Nat → ClassId} {h : Nat → Nat} {nl : Nat} {b1 : Nat} (K : Kx x E D (tysOf ca) h (LaC ca h nl) RX8 cX8_allStayLit 5 5 115) {r0 : Int32} {Mo : Mem} (hR : Rt x D h (LaC ca h nl) (some .boolean) (some (.int r0)) Mo) (hb1 : b1 < 3) : ∀ (n : Nat) (a0 : Int32) (a1 : Int32) (M : Mem), f_X8_allStayLit_l22 nl b1 n a0 a1 M = some (r0, Mo) → Go x D (tysOf ca) h (LaC ca h nl) 5 M 22 [some (.ref (h 52)), some (.ref (h (HB b1))), none, some (.int a0), some (.int a1)] [] := by
  intro n
  induction n with
  | zero =>
    intro a0 a1 M hf
    cases hf
  | succ n ih =>
    intro a0 a1 M hf
    rw [f_X8_allStayLit_l22] at hf
    refine o_iload K 4 dX8_allStayLit_22 rfl ?_
    refine o_iload_n K 3 dX8_allStayLit_24 rfl rfl ?_
    refine o_icmp_ge K 55 dX8_allStayLit_25 (by decide) (fun c5 => ?_) (fun c5 => ?_)
    · have hf := ip c5 hf
      refine o_aload_n K 0 dX8_allStayLit_55 rfl rfl ?_
      refine gC_X8_12 K dX8_allStayLit_56 ?_
      refine gC_X8_86 hb_2 K dX8_allStayLit_59 ?_
      refine o_aload_n K 1 dX8_allStayLit_62 rfl rfl ?_
      refine gC_X8_86 hb1 K dX8_allStayLit_63 ?_
      refine o_icmp_ne K 73 dX8_allStayLit_66 (by decide) (fun c6 => ?_) (fun c6 => ?_)
      · have hf := im c6 hf
        refine o_iconst K 0 dX8_allStayLit_73 (by decide) ?_
        exact e_zret K hf hR (by decide) dX8_allStayLit_74
      · have hf := ip c6 hf
        refine o_iconst K 1 dX8_allStayLit_69 (by decide) ?_
        refine o_goto K 74 dX8_allStayLit_70 (by decide) ?_
        exact e_zret K hf hR (by decide) dX8_allStayLit_74
    · have hf := im c5 hf
      refine o_aload_n K 0 dX8_allStayLit_28 rfl rfl ?_
      refine gC_X8_12 K dX8_allStayLit_29 ?_
      refine gC_X8_86 hb_2 K dX8_allStayLit_32 ?_
      refine o_aload_n K 1 dX8_allStayLit_35 rfl rfl ?_
      refine gC_X8_86 hb1 K dX8_allStayLit_36 ?_
      refine o_icmp_ne K 55 dX8_allStayLit_39 (by decide) (fun c7 => ?_) (fun c7 => ?_)
      · have hf := im c7 hf
        refine o_aload_n K 0 dX8_allStayLit_55 rfl rfl ?_
        refine gC_X8_12 K dX8_allStayLit_56 ?_
        refine gC_X8_86 hb_2 K dX8_allStayLit_59 ?_
        refine o_aload_n K 1 dX8_allStayLit_62 rfl rfl ?_
        refine gC_X8_86 hb1 K dX8_allStayLit_63 ?_
        refine o_icmp_ne K 73 dX8_allStayLit_66 (by decide) (fun c8 => ?_) (fun c8 => ?_)
        · have hf := im c8 hf
          refine o_iconst K 0 dX8_allStayLit_73 (by decide) ?_
          exact e_zret K hf hR (by decide) dX8_allStayLit_74
        · have hf := ip c8 hf
          refine o_iconst K 1 dX8_allStayLit_69 (by decide) ?_
          refine o_goto K 74 dX8_allStayLit_70 (by decide) ?_
          exact e_zret K hf hR (by decide) dX8_allStayLit_74
      · have hf := ip c7 hf
        refine o_aload_n K 0 dX8_allStayLit_42 rfl rfl ?_
        refine gC_X8_12 K dX8_allStayLit_43 ?_
        obtain ⟨M10, er9, hf⟩ := bd_e hf
        refine o_callV K [] (k_X1_passMinute x.2.1 E D ca h nl M 2 hb_2 er9) s_X8_22 (ltHall hb_2) (obHall_c (ca := ca) (h := h) hb_2 _) rfl rfl rfl ⟨by decide, by decide⟩ (Nat.le_of_ble_eq_true rfl) _ rfl dX8_allStayLit_46 ?_
        show Go x D (tysOf ca) h (LaC ca h nl) 5 M10 49 [some (.ref (h 52)), some (.ref (h (HB b1))), none, some (.int a0), some (.int a1)] []
        obtain ⟨x11, ex11, hf⟩ := nm_o hf
        refine o_iinc K 4 x11 [some (.ref (h 52)), some (.ref (h (HB b1))), none, some (.int a0), some (.int x11)] dX8_allStayLit_49 rfl (inc_e (by decide) ex11) (by decide) rfl rfl ?_
        refine o_goto K 22 dX8_allStayLit_52 (by decide) ?_
        exact ih a0 x11 M10 hf
def f_X8_allStayLit (nl : Nat) (b1 : Nat) (M : Mem) (a2 : Int32) (a3 : Int32) : Option (Int32 × Mem) := bd (f_X1_takeFrom nl 2 b1 M) fun M2 => wr M2 (HB 2 + 11) 9 8 a2 fun M4 => f_X8_allStayLit_l22 nl b1 FU a3 (0 : Int32) M4
set_option maxHeartbeats 4000000 in
set_option maxRecDepth 100000 in
theorem k_X8_allStayLit (l : Launch) (E : Amd) (D : va_G) (ca : Nat → ClassId) (h : Nat → Nat) (nl : Nat) (M : Mem) (b1 : Nat) (a2 : Int32) (a3 : Int32) {r0 : Int32} {Mo : Mem} (hb1 : b1 < 3) (hf : f_X8_allStayLit nl b1 M a2 a3 = some (r0, Mo)) : Ct l E D (tysOf ca) h (LaC ca h nl) yX8_allStayLit cX8_allStayLit 5 (some .boolean) 5 115 [.ref (h 52), .ref (h (HB b1)), .int a2, .int a3] M (some (.int r0)) Mo := by
  refine Ct.mk [some (.ref (h 52)), some (.ref (h (HB b1))), some (.int a2), some (.int a3), none] (by decide) (Nat.le_of_ble_eq_true rfl) (argsV [.ref (h 52), .ref (h (HB b1)), .int a2, .int a3] 1 rfl rfl) ?_
  intro x hx0 K hR
  have K : Kx x E D (tysOf ca) h (LaC ca h nl) RX8 cX8_allStayLit 5 5 115 := K
  rw [f_X8_allStayLit] at hf
  refine o_aload_n K 0 dX8_allStayLit_0 rfl rfl ?_
  refine gC_X8_12 K dX8_allStayLit_1 ?_
  refine o_aload_n K 1 dX8_allStayLit_4 rfl rfl ?_
  obtain ⟨M2, er1, hf⟩ := bd_e hf
  refine o_callV K [.ref (h (HB b1))] (k_X1_takeFrom x.2.1 E D ca h nl M 2 b1 hb_2 hb1 er1) s_X8_18 (ltHall hb_2) (obHall_c (ca := ca) (h := h) hb_2 _) rfl rfl rfl ⟨by decide, by decide⟩ (Nat.le_of_ble_eq_true rfl) _ rfl dX8_allStayLit_5 ?_
  show Go x D (tysOf ca) h (LaC ca h nl) 5 M2 8 [some (.ref (h 52)), some (.ref (h (HB b1))), some (.int a2), some (.int a3), none] []
  refine o_aload_n K 0 dX8_allStayLit_8 rfl rfl ?_
  refine gC_X8_12 K dX8_allStayLit_9 ?_
  refine gC_X8_83 hb_2 K dX8_allStayLit_12 ?_
  refine o_bipush K 8 dX8_allStayLit_15 (by decide) ?_
  refine o_iload_n K 2 dX8_allStayLit_17 rfl rfl ?_
  obtain ⟨g3, M4, eM4, hf⟩ := wr_e hf
  refine sCh hb_2 11 9 (by decide) (fun _ => rfl) K g3 dX8_allStayLit_18 ?_
  refine o_nmM eM4 ?_
  refine o_iconst K 0 dX8_allStayLit_19 (by decide) ?_
  refine o_istore K 4 [some (.ref (h 52)), some (.ref (h (HB b1))), some (.int a2), some (.int a3), some (.int 0)] dX8_allStayLit_20 (by decide) rfl rfl ?_
  refine o_drop [true, true, false, true, true] (V2 := [some (.ref (h 52)), some (.ref (h (HB b1))), none, some (.int a3), some (.int 0)]) rfl ?_
  exact t_X8_allStayLit_l22 K hR hb1 FU a3 (0 : Int32) M4 hf
def f_X8_differenceWith_j113 (nl : Nat) (b1 : Nat) (s2 : Nat) (rec71 : Int32 → Int32 → Mem → Option (Int32 × Mem)) (a0 : Int32) (a1 : Int32) (M : Mem) : Option (Int32 × Mem) := nm (a1 + 1 : Int32) fun x21 => rec71 a0 x21 M
set_option maxHeartbeats 4000000 in
set_option maxRecDepth 100000 in
theorem t_X8_differenceWith_j113 {x : En} {E : Amd} {D : va_G} {ca : Nat → ClassId} {h : Nat → Nat} {nl : Nat} {b1 : Nat} {s2 : Nat} (K : Kx x E D (tysOf ca) h (LaC ca h nl) RX8 cX8_differenceWith 7 4 87) {r0 : Int32} {Mo : Mem} (hR : Rt x D h (LaC ca h nl) (some .int) (some (.int r0)) Mo) (hb1 : b1 < 3) (hs2 : ShOK ca h s2) {rec71 : Int32 → Int32 → Mem → Option (Int32 × Mem)} (ih71 : ∀ (w0 : Int32) (w1 : Int32) (M : Mem), rec71 w0 w1 M = some (r0, Mo) → Go x D (tysOf ca) h (LaC ca h nl) 7 M 71 [some (.ref (h 52)), none, some (.ref (h s2)), none, none, some (.int w0), some (.int w1)] []) (a0 : Int32) (a1 : Int32) (M : Mem) (hf : f_X8_differenceWith_j113 nl b1 s2 rec71 a0 a1 M = some (r0, Mo)) : Go x D (tysOf ca) h (LaC ca h nl) 7 M 113 [some (.ref (h 52)), none, some (.ref (h s2)), none, none, some (.int a0), some (.int a1)] [] := by
  rw [f_X8_differenceWith_j113] at hf
  obtain ⟨x21, ex21, hf⟩ := nm_o hf
  refine o_iinc K 6 x21 [some (.ref (h 52)), none, some (.ref (h s2)), none, none, some (.int a0), some (.int x21)] dX8_differenceWith_113 rfl (inc_e (by decide) ex21) (by decide) rfl rfl ?_
  refine o_goto K 71 dX8_differenceWith_116 (by decide) ?_
  exact ih71 a0 x21 M hf
def f_X8_differenceWith_l71 (nl : Nat) (b1 : Nat) (s2 : Nat) : Nat → Int32 → Int32 → Mem → Option (Int32 × Mem)
  | 0, _, _, _ => none
  | n + 1, a0, a1, M => if 8 ≤ a1 then (some (a0, M)) else bd (f_X6_hasNumber s2 M a1) fun r14 => if r14 = 0 then (f_X8_differenceWith_j113 nl b1 s2 (f_X8_differenceWith_l71 nl b1 s2 n) a0 a1 M) else rd M (HB 2 + 11) 9 a1 fun x16 => rd M (s2 + 1) 24 a1 fun x18 => nm (a0 + (if 0 ≤ (x16 - x18) then (x16 - x18) else 0 - (x16 - x18)) : Int32) fun x20 => f_X8_differenceWith_j113 nl b1 s2 (f_X8_differenceWith_l71 nl b1 s2 n) x20 a1 M
set_option maxHeartbeats 4000000 in
set_option maxRecDepth 100000 in
theorem t_X8_differenceWith_l71 {x : En} {E : Amd} {D : va_G} {ca : Nat → ClassId} {h : Nat → Nat} {nl : Nat} {b1 : Nat} {s2 : Nat} (K : Kx x E D (tysOf ca) h (LaC ca h nl) RX8 cX8_differenceWith 7 4 87) {r0 : Int32} {Mo : Mem} (hR : Rt x D h (LaC ca h nl) (some .int) (some (.int r0)) Mo) (hb1 : b1 < 3) (hs2 : ShOK ca h s2) : ∀ (n : Nat) (a0 : Int32) (a1 : Int32) (M : Mem), f_X8_differenceWith_l71 nl b1 s2 n a0 a1 M = some (r0, Mo) → Go x D (tysOf ca) h (LaC ca h nl) 7 M 71 [some (.ref (h 52)), none, some (.ref (h s2)), none, none, some (.int a0), some (.int a1)] [] := by
  intro n
  induction n with
  | zero =>
    intro a0 a1 M hf
    cases hf
  | succ n ih =>
    intro a0 a1 M hf
    rw [f_X8_differenceWith_l71] at hf
    refine o_iload K 6 dX8_differenceWith_71 rfl ?_
    refine o_bipush K 8 dX8_differenceWith_73 (by decide) ?_
    refine o_icmp_ge K 119 dX8_differenceWith_75 (by decide) (fun c13 => ?_) (fun c13 => ?_)
    · have hf := ip c13 hf
      refine o_iload K 5 dX8_differenceWith_119 rfl ?_
      exact e_iret K hf hR dX8_differenceWith_121
    · have hf := im c13 hf
      refine o_aload_n K 2 dX8_differenceWith_78 rfl rfl ?_
      refine o_iload K 6 dX8_differenceWith_79 rfl ?_
      obtain ⟨r14, er14, hf⟩ := bd_e hf
      refine o_callV K [.int a1] (k_X6_hasNumber x.2.1 E D ca h nl M s2 a1 hs2 er14) s_X8_100 (ltSheet hs2) (obSheet_c (ca := ca) (h := h) hs2 _) rfl rfl rfl ⟨by decide, by decide⟩ (Nat.le_of_ble_eq_true rfl) _ rfl dX8_differenceWith_81 ?_
      show Go x D (tysOf ca) h (LaC ca h nl) 7 M 84 [some (.ref (h 52)), none, some (.ref (h s2)), none, none, some (.int a0), some (.int a1)] [.int r14]
      refine o_if_eq K 113 dX8_differenceWith_84 (by decide) (fun c15 => ?_) (fun c15 => ?_)
      · have hf := ip c15 hf
        exact t_X8_differenceWith_j113 K hR hb1 hs2 ih a0 a1 M hf
      · have hf := im c15 hf
        refine o_iload K 5 dX8_differenceWith_87 rfl ?_
        refine o_aload_n K 0 dX8_differenceWith_89 rfl rfl ?_
        refine gC_X8_12 K dX8_differenceWith_90 ?_
        refine gC_X8_83 hb_2 K dX8_differenceWith_93 ?_
        refine o_iload K 6 dX8_differenceWith_96 rfl ?_
        obtain ⟨g17, x16, ex16, hf⟩ := rd_e hf
        refine lCh hb_2 11 9 (by decide) (fun _ => rfl) K g17 dX8_differenceWith_98 ?_
        refine o_nmi ex16 ?_
        refine o_aload_n K 2 dX8_differenceWith_99 rfl rfl ?_
        refine gC_X8_105 hs2 K dX8_differenceWith_100 ?_
        refine o_iload K 6 dX8_differenceWith_103 rfl ?_
        obtain ⟨g19, x18, ex18, hf⟩ := rd_e hf
        refine lCs hs2 K g19 dX8_differenceWith_105 ?_
        refine o_nmi ex18 ?_
        refine o_isub K dX8_differenceWith_106 ?_
        refine o_mabs K q627 q405 q6 q406 ⟨by decide, by decide⟩ (Nat.le_of_ble_eq_true rfl) dX8_differenceWith_107 ?_
        refine o_iadd K dX8_differenceWith_110 ?_
        obtain ⟨x20, ex20, hf⟩ := nm_o hf
        refine o_nmi ex20 ?_
        refine o_istore K 5 [some (.ref (h 52)), none, some (.ref (h s2)), none, none, some (.int x20), some (.int a1)] dX8_differenceWith_111 (by decide) rfl rfl ?_
        exact t_X8_differenceWith_j113 K hR hb1 hs2 ih x20 a1 M hf
def f_X8_differenceWith_l38 (nl : Nat) (b1 : Nat) (s2 : Nat) : Nat → Int32 → Int32 → Mem → Option (Int32 × Mem)
  | 0, _, _, _ => none
  | n + 1, a0, a1, M => if a0 ≤ a1 then (f_X8_differenceWith_l71 nl b1 s2 FU (0 : Int32) (0 : Int32) M) else bd (f_X1_measureFlows 2 M) fun M9 => bd (f_X1_moveAir 2 M9) fun M11 => nm (a1 + 1 : Int32) fun x12 => f_X8_differenceWith_l38 nl b1 s2 n a0 x12 M11
set_option maxHeartbeats 4000000 in
set_option maxRecDepth 100000 in
theorem t_X8_differenceWith_l38 {x : En} {E : Amd} {D : va_G} {ca : Nat → ClassId} {h : Nat → Nat} {nl : Nat} {b1 : Nat} {s2 : Nat} (K : Kx x E D (tysOf ca) h (LaC ca h nl) RX8 cX8_differenceWith 7 4 87) {r0 : Int32} {Mo : Mem} (hR : Rt x D h (LaC ca h nl) (some .int) (some (.int r0)) Mo) (hb1 : b1 < 3) (hs2 : ShOK ca h s2) : ∀ (n : Nat) (a0 : Int32) (a1 : Int32) (M : Mem), f_X8_differenceWith_l38 nl b1 s2 n a0 a1 M = some (r0, Mo) → Go x D (tysOf ca) h (LaC ca h nl) 7 M 38 [some (.ref (h 52)), none, some (.ref (h s2)), none, some (.int a0), some (.int a1), none] [] := by
  intro n
  induction n with
  | zero =>
    intro a0 a1 M hf
    cases hf
  | succ n ih =>
    intro a0 a1 M hf
    rw [f_X8_differenceWith_l38] at hf
    refine o_iload K 5 dX8_differenceWith_38 rfl ?_
    refine o_iload K 4 dX8_differenceWith_40 rfl ?_
    refine o_icmp_ge K 65 dX8_differenceWith_42 (by decide) (fun c7 => ?_) (fun c7 => ?_)
    · have hf := ip c7 hf
      refine o_iconst K 0 dX8_differenceWith_65 (by decide) ?_
      refine o_istore K 5 [some (.ref (h 52)), none, some (.ref (h s2)), none, some (.int a0), some (.int 0), none] dX8_differenceWith_66 (by decide) rfl rfl ?_
      refine o_iconst K 0 dX8_differenceWith_68 (by decide) ?_
      refine o_istore K 6 [some (.ref (h 52)), none, some (.ref (h s2)), none, some (.int a0), some (.int 0), some (.int 0)] dX8_differenceWith_69 (by decide) rfl rfl ?_
      refine o_drop [true, false, true, false, false, true, true] (V2 := [some (.ref (h 52)), none, some (.ref (h s2)), none, none, some (.int 0), some (.int 0)]) rfl ?_
      exact t_X8_differenceWith_l71 K hR hb1 hs2 FU (0 : Int32) (0 : Int32) M hf
    · have hf := im c7 hf
      refine o_aload_n K 0 dX8_differenceWith_45 rfl rfl ?_
      refine gC_X8_12 K dX8_differenceWith_46 ?_
      obtain ⟨M9, er8, hf⟩ := bd_e hf
      refine o_callV K [] (k_X1_measureFlows x.2.1 E D ca h nl M 2 hb_2 er8) s_X8_25 (ltHall hb_2) (obHall_c (ca := ca) (h := h) hb_2 _) rfl rfl rfl ⟨by decide, by decide⟩ (Nat.le_of_ble_eq_true rfl) _ rfl dX8_differenceWith_49 ?_
      show Go x D (tysOf ca) h (LaC ca h nl) 7 M9 52 [some (.ref (h 52)), none, some (.ref (h s2)), none, some (.int a0), some (.int a1), none] []
      refine o_aload_n K 0 dX8_differenceWith_52 rfl rfl ?_
      refine gC_X8_12 K dX8_differenceWith_53 ?_
      obtain ⟨M11, er10, hf⟩ := bd_e hf
      refine o_callV K [] (k_X1_moveAir x.2.1 E D ca h nl M9 2 hb_2 er10) s_X8_32 (ltHall hb_2) (obHall_c (ca := ca) (h := h) hb_2 _) rfl rfl rfl ⟨by decide, by decide⟩ (Nat.le_of_ble_eq_true rfl) _ rfl dX8_differenceWith_56 ?_
      show Go x D (tysOf ca) h (LaC ca h nl) 7 M11 59 [some (.ref (h 52)), none, some (.ref (h s2)), none, some (.int a0), some (.int a1), none] []
      obtain ⟨x12, ex12, hf⟩ := nm_o hf
      refine o_iinc K 5 x12 [some (.ref (h 52)), none, some (.ref (h s2)), none, some (.int a0), some (.int x12), none] dX8_differenceWith_59 rfl (inc_e (by decide) ex12) (by decide) rfl rfl ?_
      refine o_goto K 38 dX8_differenceWith_62 (by decide) ?_
      exact ih a0 x12 M11 hf
def f_X8_differenceWith_j32 (nl : Nat) (b1 : Nat) (s2 : Nat) (a0 : Int32) (a1 : Int32) (a2 : Int32) (M : Mem) : Option (Int32 × Mem) := bd (f_X0_swing 2 M a2 a1) fun M6 => f_X8_differenceWith_l38 nl b1 s2 FU a0 (0 : Int32) M6
set_option maxHeartbeats 4000000 in
set_option maxRecDepth 100000 in
theorem t_X8_differenceWith_j32 {x : En} {E : Amd} {D : va_G} {ca : Nat → ClassId} {h : Nat → Nat} {nl : Nat} {b1 : Nat} {s2 : Nat} (K : Kx x E D (tysOf ca) h (LaC ca h nl) RX8 cX8_differenceWith 7 4 87) {r0 : Int32} {Mo : Mem} (hR : Rt x D h (LaC ca h nl) (some .int) (some (.int r0)) Mo) (hb1 : b1 < 3) (hs2 : ShOK ca h s2) (a0 : Int32) (a1 : Int32) (a2 : Int32) (M : Mem) (hf : f_X8_differenceWith_j32 nl b1 s2 a0 a1 a2 M = some (r0, Mo)) : Go x D (tysOf ca) h (LaC ca h nl) 7 M 32 [some (.ref (h 52)), none, some (.ref (h s2)), none, some (.int a0), none, none] [.int a1, .int a2, .ref (h (HB 2 + 1))] := by
  rw [f_X8_differenceWith_j32] at hf
  obtain ⟨M6, er5, hf⟩ := bd_e hf
  refine o_callV K [.int a2, .int a1] (k_X0_swing x.2.1 E D ca h nl M 2 a2 a1 hb_2 er5) s_X8_75 (ltDoors hb_2) (obDoors_c (ca := ca) (h := h) hb_2 _) rfl rfl rfl ⟨by decide, by decide⟩ (Nat.le_of_ble_eq_true rfl) _ rfl dX8_differenceWith_32 ?_
  show Go x D (tysOf ca) h (LaC ca h nl) 7 M6 35 [some (.ref (h 52)), none, some (.ref (h s2)), none, some (.int a0), none, none] []
  refine o_iconst K 0 dX8_differenceWith_35 (by decide) ?_
  refine o_istore K 5 [some (.ref (h 52)), none, some (.ref (h s2)), none, some (.int a0), some (.int 0), none] dX8_differenceWith_36 (by decide) rfl rfl ?_
  exact t_X8_differenceWith_l38 K hR hb1 hs2 FU a0 (0 : Int32) M6 hf
def f_X8_differenceWith (nl : Nat) (b1 : Nat) (s2 : Nat) (M : Mem) (a3 : Int32) (a4 : Int32) : Option (Int32 × Mem) := bd (f_X1_takeFrom nl 2 b1 M) fun M2 => bd (f_X0_isOpen b1 M2 a3) fun r3 => if r3 = 0 then (f_X8_differenceWith_j32 nl b1 s2 a4 (1 : Int32) a3 M2) else f_X8_differenceWith_j32 nl b1 s2 a4 (0 : Int32) a3 M2
set_option maxHeartbeats 4000000 in
set_option maxRecDepth 100000 in
theorem k_X8_differenceWith (l : Launch) (E : Amd) (D : va_G) (ca : Nat → ClassId) (h : Nat → Nat) (nl : Nat) (M : Mem) (b1 : Nat) (s2 : Nat) (a3 : Int32) (a4 : Int32) {r0 : Int32} {Mo : Mem} (hb1 : b1 < 3) (hs2 : ShOK ca h s2) (hf : f_X8_differenceWith nl b1 s2 M a3 a4 = some (r0, Mo)) : Ct l E D (tysOf ca) h (LaC ca h nl) yX8_differenceWith cX8_differenceWith 7 (some .int) 4 87 [.ref (h 52), .ref (h (HB b1)), .ref (h s2), .int a3, .int a4] M (some (.int r0)) Mo := by
  refine Ct.mk [some (.ref (h 52)), some (.ref (h (HB b1))), some (.ref (h s2)), some (.int a3), some (.int a4), none, none] (by decide) (Nat.le_of_ble_eq_true rfl) (argsV [.ref (h 52), .ref (h (HB b1)), .ref (h s2), .int a3, .int a4] 2 rfl rfl) ?_
  intro x hx0 K hR
  have K : Kx x E D (tysOf ca) h (LaC ca h nl) RX8 cX8_differenceWith 7 4 87 := K
  rw [f_X8_differenceWith] at hf
  refine o_aload_n K 0 dX8_differenceWith_0 rfl rfl ?_
  refine gC_X8_12 K dX8_differenceWith_1 ?_
  refine o_aload_n K 1 dX8_differenceWith_4 rfl rfl ?_
  obtain ⟨M2, er1, hf⟩ := bd_e hf
  refine o_callV K [.ref (h (HB b1))] (k_X1_takeFrom x.2.1 E D ca h nl M 2 b1 hb_2 hb1 er1) s_X8_18 (ltHall hb_2) (obHall_c (ca := ca) (h := h) hb_2 _) rfl rfl rfl ⟨by decide, by decide⟩ (Nat.le_of_ble_eq_true rfl) _ rfl dX8_differenceWith_5 ?_
  show Go x D (tysOf ca) h (LaC ca h nl) 7 M2 8 [some (.ref (h 52)), some (.ref (h (HB b1))), some (.ref (h s2)), some (.int a3), some (.int a4), none, none] []
  refine o_aload_n K 0 dX8_differenceWith_8 rfl rfl ?_
  refine gC_X8_12 K dX8_differenceWith_9 ?_
  refine gC_X8_36 hb_2 K dX8_differenceWith_12 ?_
  refine o_iload_n K 3 dX8_differenceWith_15 rfl rfl ?_
  refine o_aload_n K 1 dX8_differenceWith_16 rfl rfl ?_
  refine gC_X8_36 hb1 K dX8_differenceWith_17 ?_
  refine o_iload_n K 3 dX8_differenceWith_20 rfl rfl ?_
  obtain ⟨r3, er3, hf⟩ := bd_e hf
  refine o_callV K [.int a3] (k_X0_isOpen x.2.1 E D ca h nl M2 b1 a3 hb1 er3) s_X8_96 (ltDoors hb1) (obDoors_c (ca := ca) (h := h) hb1 _) rfl rfl rfl ⟨by decide, by decide⟩ (Nat.le_of_ble_eq_true rfl) _ rfl dX8_differenceWith_21 ?_
  show Go x D (tysOf ca) h (LaC ca h nl) 7 M2 24 [some (.ref (h 52)), some (.ref (h (HB b1))), some (.ref (h s2)), some (.int a3), some (.int a4), none, none] [.int r3, .int a3, .ref (h (HB 2 + 1))]
  refine o_if_ne K 31 dX8_differenceWith_24 (by decide) (fun c4 => ?_) (fun c4 => ?_)
  · have hf := im c4 hf
    refine o_iconst K 0 dX8_differenceWith_31 (by decide) ?_
    refine o_drop [true, false, true, false, true, false, false] (V2 := [some (.ref (h 52)), none, some (.ref (h s2)), none, some (.int a4), none, none]) rfl ?_
    exact t_X8_differenceWith_j32 K hR hb1 hs2 a4 (0 : Int32) a3 M2 hf
  · have hf := ip c4 hf
    refine o_iconst K 1 dX8_differenceWith_27 (by decide) ?_
    refine o_goto K 32 dX8_differenceWith_28 (by decide) ?_
    refine o_drop [true, false, true, false, true, false, false] (V2 := [some (.ref (h 52)), none, some (.ref (h s2)), none, some (.int a4), none, none]) rfl ?_
    exact t_X8_differenceWith_j32 K hR hb1 hs2 a4 (1 : Int32) a3 M2 hf
