def f_X10_text_l115 : Nat → Int32 → Int32 → Mem → Option (Int32 × Mem)
  | 0, _, _, _ => none
  | n + 1, a0, a1, M => if (M 0 20) ≤ a1 then (rd M 1 1460 5 fun x23 => wr M 1 1460 5 (x23 + 1) fun M26 => some (a0, M26)) else rd M 12 96 a1 fun x27 => wr M 1 1460 (((116 : Int32) + ((96 : Int32) * a0)) + a1) x27 fun M30 => nm (a1 + 1 : Int32) fun x31 => f_X10_text_l115 n a0 x31 M30
set_option maxHeartbeats 4000000 in
set_option maxRecDepth 100000 in
theorem t_X10_text_l115 {x : En} {E : Amd} {D : va_G} {ca : Nat → ClassId} {h : Nat → Nat} (K : Kx x E D (tysOf ca) h (LaM ca h) RX10 cX10_text 4 4 87) {r0 : Int32} {Mo : Mem} (hR : Rt x D h (LaM ca h) (some .int) (some (.int r0)) Mo) : ∀ (n : Nat) (a0 : Int32) (a1 : Int32) (M : Mem), f_X10_text_l115 n a0 a1 M = some (r0, Mo) → Go x D (tysOf ca) h (LaM ca h) 4 M 115 [some (.ref (h 0)), none, some (.int a0), some (.int a1)] [] := by
  intro n
  induction n with
  | zero =>
    intro a0 a1 M hf
    cases hf
  | succ n ih =>
    intro a0 a1 M hf
    rw [f_X10_text_l115] at hf
    refine o_iload_n K 3 dX10_text_115 rfl rfl ?_
    refine o_aload_n K 0 dX10_text_116 rfl rfl ?_
    refine gM_242 K dX10_text_117 ?_
    refine o_icmp_ge K 149 dX10_text_120 (by decide) (fun c22 => ?_) (fun c22 => ?_)
    · have hf := ip c22 hf
      refine o_aload_n K 0 dX10_text_149 rfl rfl ?_
      refine gM_9 K dX10_text_150 ?_
      refine o_iconst K 5 dX10_text_153 (by decide) ?_
      refine o_dup2 K dX10_text_154 rfl rfl ?_
      obtain ⟨g24, x23, ex23, hf⟩ := rd_e hf
      refine lM_1 K g24 dX10_text_155 ?_
      refine o_nmi ex23 ?_
      refine o_iconst K 1 dX10_text_156 (by decide) ?_
      refine o_iadd K dX10_text_157 ?_
      obtain ⟨g25, M26, eM26, hf⟩ := wr_e hf
      refine sM_1 K g25 dX10_text_158 ?_
      refine o_nmM eM26 ?_
      refine o_iload_n K 2 dX10_text_159 rfl rfl ?_
      exact e_iret K hf hR dX10_text_160
    · have hf := im c22 hf
      refine o_aload_n K 0 dX10_text_123 rfl rfl ?_
      refine gM_9 K dX10_text_124 ?_
      refine o_bipush K 116 dX10_text_127 (by decide) ?_
      refine o_bipush K 96 dX10_text_129 (by decide) ?_
      refine o_iload_n K 2 dX10_text_131 rfl rfl ?_
      refine o_imul K dX10_text_132 ?_
      refine o_iadd K dX10_text_133 ?_
      refine o_iload_n K 3 dX10_text_134 rfl rfl ?_
      refine o_iadd K dX10_text_135 ?_
      refine o_aload_n K 0 dX10_text_136 rfl rfl ?_
      refine gM_44 K dX10_text_137 ?_
      refine o_iload_n K 3 dX10_text_140 rfl rfl ?_
      obtain ⟨g28, x27, ex27, hf⟩ := rd_e hf
      refine lM_12 K g28 dX10_text_141 ?_
      refine o_nmi ex27 ?_
      obtain ⟨g29, M30, eM30, hf⟩ := wr_e hf
      refine sM_1 K g29 dX10_text_142 ?_
      refine o_nmM eM30 ?_
      obtain ⟨x31, ex31, hf⟩ := nm_o hf
      refine o_iinc K 3 x31 [some (.ref (h 0)), none, some (.int a0), some (.int x31)] dX10_text_143 rfl (inc_e (by decide) ex31) (by decide) rfl rfl ?_
      refine o_goto K 115 dX10_text_146 (by decide) ?_
      exact ih a0 x31 M30 hf
def f_X10_text_j33 (a0 : Int32) (M : Mem) : Option (Int32 × Mem) := nm (sto M 0 10 0) fun M11 => if a0 = 0 then (some ((-100) - (M11 0 12), M11)) else rd M11 1 1460 5 fun x13 => if x13 = 14 then (some (((-1000000003) : Int32), M11)) else rd M11 1 1460 5 fun x16 => wr M11 1 1460 ((88 : Int32) + ((2 : Int32) * x16)) (((1000 : Int32) * (M11 0 16)) + (M11 0 20)) fun M19 => wr M19 1 1460 (((88 : Int32) + ((2 : Int32) * x16)) + 1) (M19 0 21) fun M21 => f_X10_text_l115 FU x16 (0 : Int32) M21
set_option maxHeartbeats 4000000 in
set_option maxRecDepth 100000 in
theorem t_X10_text_j33 {x : En} {E : Amd} {D : va_G} {ca : Nat → ClassId} {h : Nat → Nat} (K : Kx x E D (tysOf ca) h (LaM ca h) RX10 cX10_text 4 4 87) {r0 : Int32} {Mo : Mem} (hR : Rt x D h (LaM ca h) (some .int) (some (.int r0)) Mo) (a0 : Int32) (M : Mem) (hf : f_X10_text_j33 a0 M = some (r0, Mo)) : Go x D (tysOf ca) h (LaM ca h) 4 M 33 [some (.ref (h 0)), none, none, none] [.int a0] := by
  rw [f_X10_text_j33] at hf
  refine o_istore_n K 1 [some (.ref (h 0)), some (.int a0), none, none] dX10_text_33 rfl (by decide) rfl rfl ?_
  refine o_aload_n K 0 dX10_text_34 rfl rfl ?_
  refine o_iconst K 0 dX10_text_35 (by decide) ?_
  obtain ⟨M11, eM11, hf⟩ := nm_o hf
  refine pM_205 K dX10_text_36 ?_
  refine o_nmM eM11 ?_
  refine o_iload_n K 1 dX10_text_39 rfl rfl ?_
  refine o_if_ne K 51 dX10_text_40 (by decide) (fun c12 => ?_) (fun c12 => ?_)
  · have hf := im c12 hf
    refine o_aload_n K 0 dX10_text_51 rfl rfl ?_
    refine gM_9 K dX10_text_52 ?_
    refine o_iconst K 5 dX10_text_55 (by decide) ?_
    obtain ⟨g14, x13, ex13, hf⟩ := rd_e hf
    refine lM_1 K g14 dX10_text_56 ?_
    refine o_nmi ex13 ?_
    refine o_bipush K 14 dX10_text_57 (by decide) ?_
    refine o_icmp_ne K 65 dX10_text_59 (by decide) (fun c15 => ?_) (fun c15 => ?_)
    · have hf := im c15 hf
      refine o_aload_n K 0 dX10_text_65 rfl rfl ?_
      refine gM_9 K dX10_text_66 ?_
      refine o_iconst K 5 dX10_text_69 (by decide) ?_
      obtain ⟨g17, x16, ex16, hf⟩ := rd_e hf
      refine lM_1 K g17 dX10_text_70 ?_
      refine o_nmi ex16 ?_
      refine o_istore_n K 2 [some (.ref (h 0)), some (.int a0), some (.int x16), none] dX10_text_71 rfl (by decide) rfl rfl ?_
      refine o_aload_n K 0 dX10_text_72 rfl rfl ?_
      refine gM_9 K dX10_text_73 ?_
      refine o_bipush K 88 dX10_text_76 (by decide) ?_
      refine o_iconst K 2 dX10_text_78 (by decide) ?_
      refine o_iload_n K 2 dX10_text_79 rfl rfl ?_
      refine o_imul K dX10_text_80 ?_
      refine o_iadd K dX10_text_81 ?_
      refine o_sipush K 1000 dX10_text_82 (by decide) ?_
      refine o_aload_n K 0 dX10_text_85 rfl rfl ?_
      refine gM_230 K dX10_text_86 ?_
      refine o_imul K dX10_text_89 ?_
      refine o_aload_n K 0 dX10_text_90 rfl rfl ?_
      refine gM_242 K dX10_text_91 ?_
      refine o_iadd K dX10_text_94 ?_
      obtain ⟨g18, M19, eM19, hf⟩ := wr_e hf
      refine sM_1 K g18 dX10_text_95 ?_
      refine o_nmM eM19 ?_
      refine o_aload_n K 0 dX10_text_96 rfl rfl ?_
      refine gM_9 K dX10_text_97 ?_
      refine o_bipush K 88 dX10_text_100 (by decide) ?_
      refine o_iconst K 2 dX10_text_102 (by decide) ?_
      refine o_iload_n K 2 dX10_text_103 rfl rfl ?_
      refine o_imul K dX10_text_104 ?_
      refine o_iadd K dX10_text_105 ?_
      refine o_iconst K 1 dX10_text_106 (by decide) ?_
      refine o_iadd K dX10_text_107 ?_
      refine o_aload_n K 0 dX10_text_108 rfl rfl ?_
      refine gM_248 K dX10_text_109 ?_
      obtain ⟨g20, M21, eM21, hf⟩ := wr_e hf
      refine sM_1 K g20 dX10_text_112 ?_
      refine o_nmM eM21 ?_
      refine o_iconst K 0 dX10_text_113 (by decide) ?_
      refine o_istore_n K 3 [some (.ref (h 0)), some (.int a0), some (.int x16), some (.int 0)] dX10_text_114 rfl (by decide) rfl rfl ?_
      refine o_drop [true, false, true, true] (V2 := [some (.ref (h 0)), none, some (.int x16), some (.int 0)]) rfl ?_
      exact t_X10_text_l115 K hR FU x16 (0 : Int32) M21 hf
    · have hf := ip c15 hf
      refine o_ldc K q1103 dX10_text_62 ?_
      exact e_iret K hf hR dX10_text_64
  · have hf := ip c12 hf
    refine o_bipush K (-100) dX10_text_43 (by decide) ?_
    refine o_aload_n K 0 dX10_text_45 rfl rfl ?_
    refine gM_212 K dX10_text_46 ?_
    refine o_isub K dX10_text_49 ?_
    exact e_iret K hf hR dX10_text_50
def f_X10_text_j32 (M : Mem) : Option (Int32 × Mem) := f_X10_text_j33 (0 : Int32) M
set_option maxHeartbeats 4000000 in
set_option maxRecDepth 100000 in
theorem t_X10_text_j32 {x : En} {E : Amd} {D : va_G} {ca : Nat → ClassId} {h : Nat → Nat} (K : Kx x E D (tysOf ca) h (LaM ca h) RX10 cX10_text 4 4 87) {r0 : Int32} {Mo : Mem} (hR : Rt x D h (LaM ca h) (some .int) (some (.int r0)) Mo) (M : Mem) (hf : f_X10_text_j32 M = some (r0, Mo)) : Go x D (tysOf ca) h (LaM ca h) 4 M 32 [some (.ref (h 0)), none, none, none] [] := by
  rw [f_X10_text_j32] at hf
  refine o_iconst K 0 dX10_text_32 (by decide) ?_
  exact t_X10_text_j33 K hR (0 : Int32) M hf
def f_X10_text (M : Mem) : Option (Int32 × Mem) := nm (sto M 0 11 0) fun M1 => nm (sto M1 0 15 (-1)) fun M2 => bd (f_X10_go M2) fun M4 => bd2 (f_X10_takesKey M4) fun r5 M6 => if r5 = 0 then (f_X10_text_j32 M6) else bd2 (f_X10_takesE M6) fun r8 M9 => if r8 = 0 then (f_X10_text_j32 M9) else f_X10_text_j33 (1 : Int32) M9
set_option maxHeartbeats 4000000 in
set_option maxRecDepth 100000 in
theorem k_X10_text (l : Launch) (E : Amd) (D : va_G) (ca : Nat → ClassId) (h : Nat → Nat) (M : Mem) {r0 : Int32} {Mo : Mem} (hf : f_X10_text M = some (r0, Mo)) : Ct l E D (tysOf ca) h (LaM ca h) yX10_text cX10_text 4 (some .int) 4 87 [.ref (h 0)] M (some (.int r0)) Mo := by
  refine Ct.mk [some (.ref (h 0)), none, none, none] (by decide) (Nat.le_of_ble_eq_true rfl) (argsV [.ref (h 0)] 3 rfl rfl) ?_
  intro x hx0 K hR
  have K : Kx x E D (tysOf ca) h (LaM ca h) RX10 cX10_text 4 4 87 := K
  rw [f_X10_text] at hf
  refine o_aload_n K 0 dX10_text_0 rfl rfl ?_
  refine o_iconst K 0 dX10_text_1 (by decide) ?_
  obtain ⟨M1, eM1, hf⟩ := nm_o hf
  refine pM_209 K dX10_text_2 ?_
  refine o_nmM eM1 ?_
  refine o_aload_n K 0 dX10_text_5 rfl rfl ?_
  refine o_iconst K (-1) dX10_text_6 (by decide) ?_
  obtain ⟨M2, eM2, hf⟩ := nm_o hf
  refine pM_215 K dX10_text_7 ?_
  refine o_nmM eM2 ?_
  refine o_aload_n K 0 dX10_text_10 rfl rfl ?_
  obtain ⟨M4, er3, hf⟩ := bd_e hf
  refine o_callV K [] (k_X10_go x.2.1 E D ca h M2 er3) s_X10_233 (ltM (by decide)) rfl rfl rfl rfl ⟨by decide, by decide⟩ (Nat.le_of_ble_eq_true rfl) _ rfl dX10_text_11 ?_
  show Go x D (tysOf ca) h (LaM ca h) 4 M4 14 [some (.ref (h 0)), none, none, none] []
  refine o_aload_n K 0 dX10_text_14 rfl rfl ?_
  obtain ⟨r5, M6, er5, hf⟩ := bd2_e hf
  refine o_callV K [] (k_X10_takesKey x.2.1 E D ca h M4 er5) s_X10_264 (ltM (by decide)) rfl rfl rfl rfl ⟨by decide, by decide⟩ (Nat.le_of_ble_eq_true rfl) _ rfl dX10_text_15 ?_
  show Go x D (tysOf ca) h (LaM ca h) 4 M6 18 [some (.ref (h 0)), none, none, none] [.int r5]
  refine o_if_eq K 32 dX10_text_18 (by decide) (fun c7 => ?_) (fun c7 => ?_)
  · have hf := ip c7 hf
    exact t_X10_text_j32 K hR M6 hf
  · have hf := im c7 hf
    refine o_aload_n K 0 dX10_text_21 rfl rfl ?_
    obtain ⟨r8, M9, er8, hf⟩ := bd2_e hf
    refine o_callV K [] (k_X10_takesE x.2.1 E D ca h M6 er8) s_X10_267 (ltM (by decide)) rfl rfl rfl rfl ⟨by decide, by decide⟩ (Nat.le_of_ble_eq_true rfl) _ rfl dX10_text_22 ?_
    show Go x D (tysOf ca) h (LaM ca h) 4 M9 25 [some (.ref (h 0)), none, none, none] [.int r8]
    refine o_if_eq K 32 dX10_text_25 (by decide) (fun c10 => ?_) (fun c10 => ?_)
    · have hf := ip c10 hf
      exact t_X10_text_j32 K hR M9 hf
    · have hf := im c10 hf
      refine o_iconst K 1 dX10_text_28 (by decide) ?_
      refine o_goto K 33 dX10_text_29 (by decide) ?_
      exact t_X10_text_j33 K hR (1 : Int32) M9 hf
def f_X10_textTold (M : Mem) (a1 : Int32) (a2 : Int32) : Option Int32 := rd M 1 1460 5 fun x1 => bd (f_X10_in a1 (0 : Int32) (x1 - 1)) fun r3 => if r3 = 0 then (some (((-1000000001) : Int32))) else bd (f_X10_in a2 (0 : Int32) (1 : Int32)) fun r5 => if r5 = 0 then (some (((-1000000001) : Int32))) else if a2 = 0 then (rd M 1 1460 ((88 : Int32) + ((2 : Int32) * a1)) fun x10 => some (x10 / 1000)) else rd M 1 1460 (((88 : Int32) + ((2 : Int32) * a1)) + 1) fun x8 => some (x8)
set_option maxHeartbeats 4000000 in
set_option maxRecDepth 100000 in
theorem k_X10_textTold (l : Launch) (E : Amd) (D : va_G) (ca : Nat → ClassId) (h : Nat → Nat) (M : Mem) (a1 : Int32) (a2 : Int32) {r0 : Int32} (hf : f_X10_textTold M a1 a2 = some r0) : Ct l E D (tysOf ca) h (LaM ca h) yX10_textTold cX10_textTold 3 (some .int) 1 22 [.ref (h 0), .int a1, .int a2] M (some (.int r0)) M := by
  refine Ct.mk [some (.ref (h 0)), some (.int a1), some (.int a2)] (by decide) (Nat.le_of_ble_eq_true rfl) (argsV [.ref (h 0), .int a1, .int a2] 0 rfl rfl) ?_
  intro x hx0 K hR
  have K : Kx x E D (tysOf ca) h (LaM ca h) RX10 cX10_textTold 3 1 22 := K
  rw [f_X10_textTold] at hf
  refine o_iload_n K 1 dX10_textTold_0 rfl rfl ?_
  refine o_iconst K 0 dX10_textTold_1 (by decide) ?_
  refine o_aload_n K 0 dX10_textTold_2 rfl rfl ?_
  refine gM_9 K dX10_textTold_3 ?_
  refine o_iconst K 5 dX10_textTold_6 (by decide) ?_
  obtain ⟨g2, x1, ex1, hf⟩ := rd_e hf
  refine lM_1 K g2 dX10_textTold_7 ?_
  refine o_nmi ex1 ?_
  refine o_iconst K 1 dX10_textTold_8 (by decide) ?_
  refine o_isub K dX10_textTold_9 ?_
  obtain ⟨r3, er3, hf⟩ := bd_e hf
  refine o_callS K [.int a1, .int 0, .int (x1 - 1)] (k_X10_in x.2.1 E D ca h M a1 (0 : Int32) (x1 - 1) er3) s_X10_87 rfl ⟨by decide, by decide⟩ (Nat.le_of_ble_eq_true rfl) _ rfl dX10_textTold_10 ?_
  show Go x D (tysOf ca) h (LaM ca h) 3 M 13 [some (.ref (h 0)), some (.int a1), some (.int a2)] [.int r3]
  refine o_if_eq K 25 dX10_textTold_13 (by decide) (fun c4 => ?_) (fun c4 => ?_)
  · have hf := ip c4 hf
    refine o_ldc K q1102 dX10_textTold_25 ?_
    exact r_iret K hf hR dX10_textTold_27
  · have hf := im c4 hf
    refine o_iload_n K 2 dX10_textTold_16 rfl rfl ?_
    refine o_iconst K 0 dX10_textTold_17 (by decide) ?_
    refine o_iconst K 1 dX10_textTold_18 (by decide) ?_
    obtain ⟨r5, er5, hf⟩ := bd_e hf
    refine o_callS K [.int a2, .int 0, .int 1] (k_X10_in x.2.1 E D ca h M a2 (0 : Int32) (1 : Int32) er5) s_X10_87 rfl ⟨by decide, by decide⟩ (Nat.le_of_ble_eq_true rfl) _ rfl dX10_textTold_19 ?_
    show Go x D (tysOf ca) h (LaM ca h) 3 M 22 [some (.ref (h 0)), some (.int a1), some (.int a2)] [.int r5]
    refine o_if_ne K 28 dX10_textTold_22 (by decide) (fun c6 => ?_) (fun c6 => ?_)
    · have hf := im c6 hf
      refine o_iload_n K 2 dX10_textTold_28 rfl rfl ?_
      refine o_if_ne K 50 dX10_textTold_29 (by decide) (fun c7 => ?_) (fun c7 => ?_)
      · have hf := im c7 hf
        refine o_aload_n K 0 dX10_textTold_50 rfl rfl ?_
        refine gM_9 K dX10_textTold_51 ?_
        refine o_bipush K 88 dX10_textTold_54 (by decide) ?_
        refine o_iconst K 2 dX10_textTold_56 (by decide) ?_
        refine o_iload_n K 1 dX10_textTold_57 rfl rfl ?_
        refine o_imul K dX10_textTold_58 ?_
        refine o_iadd K dX10_textTold_59 ?_
        refine o_iconst K 1 dX10_textTold_60 (by decide) ?_
        refine o_iadd K dX10_textTold_61 ?_
        obtain ⟨g9, x8, ex8, hf⟩ := rd_e hf
        refine lM_1 K g9 dX10_textTold_62 ?_
        refine o_nmi ex8 ?_
        exact r_iret K hf hR dX10_textTold_63
      · have hf := ip c7 hf
        refine o_aload_n K 0 dX10_textTold_32 rfl rfl ?_
        refine gM_9 K dX10_textTold_33 ?_
        refine o_bipush K 88 dX10_textTold_36 (by decide) ?_
        refine o_iconst K 2 dX10_textTold_38 (by decide) ?_
        refine o_iload_n K 1 dX10_textTold_39 rfl rfl ?_
        refine o_imul K dX10_textTold_40 ?_
        refine o_iadd K dX10_textTold_41 ?_
        obtain ⟨g11, x10, ex10, hf⟩ := rd_e hf
        refine lM_1 K g11 dX10_textTold_42 ?_
        refine o_nmi ex10 ?_
        refine o_sipush K 1000 dX10_textTold_43 (by decide) ?_
        refine o_idiv K dX10_textTold_46 (by decide) ?_
        refine o_goto K 63 dX10_textTold_47 (by decide) ?_
        exact r_iret K hf hR dX10_textTold_63
    · have hf := ip c6 hf
      refine o_ldc K q1102 dX10_textTold_25 ?_
      exact r_iret K hf hR dX10_textTold_27
def f_X10_why (M : Mem) (a1 : Int32) : Option Int32 := bd (f_X10_in a1 (0 : Int32) (2 : Int32)) fun r1 => if r1 = 0 then (some (((-1000000001) : Int32))) else bd (f_X10_counts M a1) fun r3 => if 0 ≤ r3 then (some (r3)) else some (((-1000000005) : Int32))
set_option maxHeartbeats 4000000 in
set_option maxRecDepth 100000 in
theorem k_X10_why (l : Launch) (E : Amd) (D : va_G) (ca : Nat → ClassId) (h : Nat → Nat) (M : Mem) (a1 : Int32) {r0 : Int32} (hf : f_X10_why M a1 = some r0) : Ct l E D (tysOf ca) h (LaM ca h) yX10_why cX10_why 3 (some .int) 1 22 [.ref (h 0), .int a1] M (some (.int r0)) M := by
  refine Ct.mk [some (.ref (h 0)), some (.int a1), none] (by decide) (Nat.le_of_ble_eq_true rfl) (argsV [.ref (h 0), .int a1] 1 rfl rfl) ?_
  intro x hx0 K hR
  have K : Kx x E D (tysOf ca) h (LaM ca h) RX10 cX10_why 3 1 22 := K
  rw [f_X10_why] at hf
  refine o_iload_n K 1 dX10_why_0 rfl rfl ?_
  refine o_iconst K 0 dX10_why_1 (by decide) ?_
  refine o_iconst K 2 dX10_why_2 (by decide) ?_
  obtain ⟨r1, er1, hf⟩ := bd_e hf
  refine o_callS K [.int a1, .int 0, .int 2] (k_X10_in x.2.1 E D ca h M a1 (0 : Int32) (2 : Int32) er1) s_X10_87 rfl ⟨by decide, by decide⟩ (Nat.le_of_ble_eq_true rfl) _ rfl dX10_why_3 ?_
  show Go x D (tysOf ca) h (LaM ca h) 3 M 6 [some (.ref (h 0)), some (.int a1), none] [.int r1]
  refine o_if_ne K 12 dX10_why_6 (by decide) (fun c2 => ?_) (fun c2 => ?_)
  · have hf := im c2 hf
    refine o_aload_n K 0 dX10_why_12 rfl rfl ?_
    refine o_iload_n K 1 dX10_why_13 rfl rfl ?_
    obtain ⟨r3, er3, hf⟩ := bd_e hf
    refine o_callV K [.int a1] (k_X10_counts x.2.1 E D ca h M a1 er3) s_X10_105 (ltM (by decide)) rfl rfl rfl rfl ⟨by decide, by decide⟩ (Nat.le_of_ble_eq_true rfl) _ rfl dX10_why_14 ?_
    show Go x D (tysOf ca) h (LaM ca h) 3 M 17 [some (.ref (h 0)), some (.int a1), none] [.int r3]
    refine o_istore_n K 2 [some (.ref (h 0)), some (.int a1), some (.int r3)] dX10_why_17 rfl (by decide) rfl rfl ?_
    refine o_iload_n K 2 dX10_why_18 rfl rfl ?_
    refine o_if_ge K 27 dX10_why_19 (by decide) (fun c4 => ?_) (fun c4 => ?_)
    · have hf := ip c4 hf
      refine o_iload_n K 2 dX10_why_27 rfl rfl ?_
      exact r_iret K hf hR dX10_why_28
    · have hf := im c4 hf
      refine o_ldc K q1268 dX10_why_22 ?_
      refine o_goto K 28 dX10_why_24 (by decide) ?_
      exact r_iret K hf hR dX10_why_28
  · have hf := ip c2 hf
    refine o_ldc K q1102 dX10_why_9 ?_
    exact r_iret K hf hR dX10_why_11
def f_X10_isSlot (a1 : Int32) : Option Int32 := bd (f_X10_in a1 (0 : Int32) (4 : Int32)) fun r1 => gd (bz r1) <| some (r1)
set_option maxHeartbeats 4000000 in
set_option maxRecDepth 100000 in
theorem k_X10_isSlot (l : Launch) (E : Amd) (D : va_G) (ca : Nat → ClassId) (h : Nat → Nat) (M : Mem) (a1 : Int32) {r0 : Int32} (hf : f_X10_isSlot a1 = some r0) : Ct l E D (tysOf ca) h (LaM ca h) yX10_isSlot cX10_isSlot 1 (some .boolean) 1 22 [.int a1] M (some (.int r0)) M := by
  refine Ct.mk [some (.int a1)] (by decide) (Nat.le_of_ble_eq_true rfl) (argsV [.int a1] 0 rfl rfl) ?_
  intro x hx0 K hR
  have K : Kx x E D (tysOf ca) h (LaM ca h) RX10 cX10_isSlot 1 1 22 := K
  rw [f_X10_isSlot] at hf
  refine o_iload_n K 0 dX10_isSlot_0 rfl rfl ?_
  refine o_iconst K 0 dX10_isSlot_1 (by decide) ?_
  refine o_iconst K 4 dX10_isSlot_2 (by decide) ?_
  obtain ⟨r1, er1, hf⟩ := bd_e hf
  refine o_callS K [.int a1, .int 0, .int 4] (k_X10_in x.2.1 E D ca h M a1 (0 : Int32) (4 : Int32) er1) s_X10_87 rfl ⟨by decide, by decide⟩ (Nat.le_of_ble_eq_true rfl) _ rfl dX10_isSlot_3 ?_
  show Go x D (tysOf ca) h (LaM ca h) 1 M 6 [some (.int a1)] [.int r1]
  obtain ⟨g2, hf⟩ := gd_e hf
  exact r_zret K hf hR g2 dX10_isSlot_6
def f_X10_sheet_l66 : Nat → Int32 → Int32 → Mem → Option (Int32 × Mem)
  | 0, _, _, _ => none
  | n + 1, a0, a1, M => if 24 ≤ a1 then (rd M 18 4 a0 fun x15 => some (x15, M)) else wr M 19 96 (((24 : Int32) * a0) + a1) 0 fun M18 => nm (a1 + 1 : Int32) fun x19 => f_X10_sheet_l66 n a0 x19 M18
set_option maxHeartbeats 4000000 in
set_option maxRecDepth 100000 in
theorem t_X10_sheet_l66 {x : En} {E : Amd} {D : va_G} {ca : Nat → ClassId} {h : Nat → Nat} (K : Kx x E D (tysOf ca) h (LaM ca h) RX10 cX10_sheet 5 2 42) {r0 : Int32} {Mo : Mem} (hR : Rt x D h (LaM ca h) (some .int) (some (.int r0)) Mo) : ∀ (n : Nat) (a0 : Int32) (a1 : Int32) (M : Mem), f_X10_sheet_l66 n a0 a1 M = some (r0, Mo) → Go x D (tysOf ca) h (LaM ca h) 5 M 66 [some (.ref (h 0)), some (.int a0), none, none, some (.int a1)] [] := by
  intro n
  induction n with
  | zero =>
    intro a0 a1 M hf
    cases hf
  | succ n ih =>
    intro a0 a1 M hf
    rw [f_X10_sheet_l66] at hf
    refine o_iload K 4 dX10_sheet_66 rfl ?_
    refine o_bipush K 24 dX10_sheet_68 (by decide) ?_
    refine o_icmp_ge K 92 dX10_sheet_70 (by decide) (fun c14 => ?_) (fun c14 => ?_)
    · have hf := ip c14 hf
      refine o_aload_n K 0 dX10_sheet_92 rfl rfl ?_
      refine gM_63 K dX10_sheet_93 ?_
      refine o_iload_n K 1 dX10_sheet_96 rfl rfl ?_
      obtain ⟨g16, x15, ex15, hf⟩ := rd_e hf
      refine lM_18 K g16 dX10_sheet_97 ?_
      refine o_nmi ex15 ?_
      exact e_iret K hf hR dX10_sheet_98
    · have hf := im c14 hf
      refine o_aload_n K 0 dX10_sheet_73 rfl rfl ?_
      refine gM_66 K dX10_sheet_74 ?_
      refine o_bipush K 24 dX10_sheet_77 (by decide) ?_
      refine o_iload_n K 1 dX10_sheet_79 rfl rfl ?_
      refine o_imul K dX10_sheet_80 ?_
      refine o_iload K 4 dX10_sheet_81 rfl ?_
      refine o_iadd K dX10_sheet_83 ?_
      refine o_iconst K 0 dX10_sheet_84 (by decide) ?_
      obtain ⟨g17, M18, eM18, hf⟩ := wr_e hf
      refine sM_19 K g17 dX10_sheet_85 ?_
      refine o_nmM eM18 ?_
      obtain ⟨x19, ex19, hf⟩ := nm_o hf
      refine o_iinc K 4 x19 [some (.ref (h 0)), some (.int a0), none, none, some (.int x19)] dX10_sheet_86 rfl (inc_e (by decide) ex19) (by decide) rfl rfl ?_
      refine o_goto K 66 dX10_sheet_89 (by decide) ?_
      exact ih a0 x19 M18 hf
def f_X10_sheet_j62 (a0 : Int32) (a1 : Int32) (a2 : Int32) (M : Mem) : Option (Int32 × Mem) := wr M 18 4 a2 a1 fun M13 => f_X10_sheet_l66 FU a0 (0 : Int32) M13
set_option maxHeartbeats 4000000 in
set_option maxRecDepth 100000 in
theorem t_X10_sheet_j62 {x : En} {E : Amd} {D : va_G} {ca : Nat → ClassId} {h : Nat → Nat} (K : Kx x E D (tysOf ca) h (LaM ca h) RX10 cX10_sheet 5 2 42) {r0 : Int32} {Mo : Mem} (hR : Rt x D h (LaM ca h) (some .int) (some (.int r0)) Mo) (a0 : Int32) (a1 : Int32) (a2 : Int32) (M : Mem) (hf : f_X10_sheet_j62 a0 a1 a2 M = some (r0, Mo)) : Go x D (tysOf ca) h (LaM ca h) 5 M 62 [some (.ref (h 0)), some (.int a0), none, none, none] [.int a1, .int a2, .ref (h 18)] := by
  rw [f_X10_sheet_j62] at hf
  obtain ⟨g12, M13, eM13, hf⟩ := wr_e hf
  refine sM_18 K g12 dX10_sheet_62 ?_
  refine o_nmM eM13 ?_
  refine o_iconst K 0 dX10_sheet_63 (by decide) ?_
  refine o_istore K 4 [some (.ref (h 0)), some (.int a0), none, none, some (.int 0)] dX10_sheet_64 (by decide) rfl rfl ?_
  exact t_X10_sheet_l66 K hR FU a0 (0 : Int32) M13 hf
def f_X10_sheet_j41 (a0 : Int32) (a1 : Int32) (a2 : Int32) (M : Mem) : Option (Int32 × Mem) := wr M 17 4 a0 a1 fun M10 => if 0 ≤ a1 then (f_X10_sheet_j62 a0 a2 a0 M10) else f_X10_sheet_j62 a0 (0 : Int32) a0 M10
set_option maxHeartbeats 4000000 in
set_option maxRecDepth 100000 in
theorem t_X10_sheet_j41 {x : En} {E : Amd} {D : va_G} {ca : Nat → ClassId} {h : Nat → Nat} (K : Kx x E D (tysOf ca) h (LaM ca h) RX10 cX10_sheet 5 2 42) {r0 : Int32} {Mo : Mem} (hR : Rt x D h (LaM ca h) (some .int) (some (.int r0)) Mo) (a0 : Int32) (a1 : Int32) (a2 : Int32) (M : Mem) (hf : f_X10_sheet_j41 a0 a1 a2 M = some (r0, Mo)) : Go x D (tysOf ca) h (LaM ca h) 5 M 41 [some (.ref (h 0)), some (.int a0), some (.int a1), some (.int a2), none] [] := by
  rw [f_X10_sheet_j41] at hf
  refine o_aload_n K 0 dX10_sheet_41 rfl rfl ?_
  refine gM_60 K dX10_sheet_42 ?_
  refine o_iload_n K 1 dX10_sheet_45 rfl rfl ?_
  refine o_iload_n K 2 dX10_sheet_46 rfl rfl ?_
  obtain ⟨g9, M10, eM10, hf⟩ := wr_e hf
  refine sM_17 K g9 dX10_sheet_47 ?_
  refine o_nmM eM10 ?_
  refine o_aload_n K 0 dX10_sheet_48 rfl rfl ?_
  refine gM_63 K dX10_sheet_49 ?_
  refine o_iload_n K 1 dX10_sheet_52 rfl rfl ?_
  refine o_iload_n K 2 dX10_sheet_53 rfl rfl ?_
  refine o_if_ge K 61 dX10_sheet_54 (by decide) (fun c11 => ?_) (fun c11 => ?_)
  · have hf := ip c11 hf
    refine o_iload_n K 3 dX10_sheet_61 rfl rfl ?_
    refine o_drop [true, true, false, false, false] (V2 := [some (.ref (h 0)), some (.int a0), none, none, none]) rfl ?_
    exact t_X10_sheet_j62 K hR a0 a2 a0 M10 hf
  · have hf := im c11 hf
    refine o_iconst K 0 dX10_sheet_57 (by decide) ?_
    refine o_goto K 62 dX10_sheet_58 (by decide) ?_
    refine o_drop [true, true, false, false, false] (V2 := [some (.ref (h 0)), some (.int a0), none, none, none]) rfl ?_
    exact t_X10_sheet_j62 K hR a0 (0 : Int32) a0 M10 hf
def f_X10_sheet_j29 (a0 : Int32) (a1 : Int32) (a2 : Int32) (M : Mem) : Option (Int32 × Mem) := if a1 < 0 then (f_X10_sheet_j41 a0 a1 a2 M) else if 0 ≤ a2 then (f_X10_sheet_j41 a0 a1 a2 M) else some (((-1000000014) : Int32), M)
set_option maxHeartbeats 4000000 in
set_option maxRecDepth 100000 in
theorem t_X10_sheet_j29 {x : En} {E : Amd} {D : va_G} {ca : Nat → ClassId} {h : Nat → Nat} (K : Kx x E D (tysOf ca) h (LaM ca h) RX10 cX10_sheet 5 2 42) {r0 : Int32} {Mo : Mem} (hR : Rt x D h (LaM ca h) (some .int) (some (.int r0)) Mo) (a0 : Int32) (a1 : Int32) (a2 : Int32) (M : Mem) (hf : f_X10_sheet_j29 a0 a1 a2 M = some (r0, Mo)) : Go x D (tysOf ca) h (LaM ca h) 5 M 29 [some (.ref (h 0)), some (.int a0), some (.int a1), some (.int a2), none] [] := by
  rw [f_X10_sheet_j29] at hf
  refine o_iload_n K 2 dX10_sheet_29 rfl rfl ?_
  refine o_if_lt K 41 dX10_sheet_30 (by decide) (fun c7 => ?_) (fun c7 => ?_)
  · have hf := ip c7 hf
    exact t_X10_sheet_j41 K hR a0 a1 a2 M hf
  · have hf := im c7 hf
    refine o_iload_n K 3 dX10_sheet_33 rfl rfl ?_
    refine o_if_ge K 41 dX10_sheet_34 (by decide) (fun c8 => ?_) (fun c8 => ?_)
    · have hf := ip c8 hf
      exact t_X10_sheet_j41 K hR a0 a1 a2 M hf
    · have hf := im c8 hf
      refine o_ldcw K q1379 dX10_sheet_37 ?_
      exact e_iret K hf hR dX10_sheet_40
def f_X10_sheet (M : Mem) (a1 : Int32) (a2 : Int32) (a3 : Int32) : Option (Int32 × Mem) := bd (f_X10_isSheet a1) fun r1 => if r1 = 0 then (some (((-1000000001) : Int32), M)) else bd (f_X10_in a2 ((-1) : Int32) (1 : Int32)) fun r3 => if r3 = 0 then (some (((-1000000001) : Int32), M)) else if a2 < 0 then (f_X10_sheet_j29 a1 a2 a3 M) else if a3 ≤ 24 then (f_X10_sheet_j29 a1 a2 a3 M) else some (((-1000000001) : Int32), M)
set_option maxHeartbeats 4000000 in
set_option maxRecDepth 100000 in
theorem k_X10_sheet (l : Launch) (E : Amd) (D : va_G) (ca : Nat → ClassId) (h : Nat → Nat) (M : Mem) (a1 : Int32) (a2 : Int32) (a3 : Int32) {r0 : Int32} {Mo : Mem} (hf : f_X10_sheet M a1 a2 a3 = some (r0, Mo)) : Ct l E D (tysOf ca) h (LaM ca h) yX10_sheet cX10_sheet 5 (some .int) 2 42 [.ref (h 0), .int a1, .int a2, .int a3] M (some (.int r0)) Mo := by
  refine Ct.mk [some (.ref (h 0)), some (.int a1), some (.int a2), some (.int a3), none] (by decide) (Nat.le_of_ble_eq_true rfl) (argsV [.ref (h 0), .int a1, .int a2, .int a3] 1 rfl rfl) ?_
  intro x hx0 K hR
  have K : Kx x E D (tysOf ca) h (LaM ca h) RX10 cX10_sheet 5 2 42 := K
  rw [f_X10_sheet] at hf
  refine o_iload_n K 1 dX10_sheet_0 rfl rfl ?_
  obtain ⟨r1, er1, hf⟩ := bd_e hf
  refine o_callS K [.int a1] (k_X10_isSheet x.2.1 E D ca h M a1 er1) s_X10_197 rfl ⟨by decide, by decide⟩ (Nat.le_of_ble_eq_true rfl) _ rfl dX10_sheet_1 ?_
  show Go x D (tysOf ca) h (LaM ca h) 5 M 4 [some (.ref (h 0)), some (.int a1), some (.int a2), some (.int a3), none] [.int r1]
  refine o_if_eq K 26 dX10_sheet_4 (by decide) (fun c2 => ?_) (fun c2 => ?_)
  · have hf := ip c2 hf
    refine o_ldc K q1102 dX10_sheet_26 ?_
    exact e_iret K hf hR dX10_sheet_28
  · have hf := im c2 hf
    refine o_iload_n K 2 dX10_sheet_7 rfl rfl ?_
    refine o_iconst K (-1) dX10_sheet_8 (by decide) ?_
    refine o_iconst K 1 dX10_sheet_9 (by decide) ?_
    obtain ⟨r3, er3, hf⟩ := bd_e hf
    refine o_callS K [.int a2, .int (-1), .int 1] (k_X10_in x.2.1 E D ca h M a2 ((-1) : Int32) (1 : Int32) er3) s_X10_87 rfl ⟨by decide, by decide⟩ (Nat.le_of_ble_eq_true rfl) _ rfl dX10_sheet_10 ?_
    show Go x D (tysOf ca) h (LaM ca h) 5 M 13 [some (.ref (h 0)), some (.int a1), some (.int a2), some (.int a3), none] [.int r3]
    refine o_if_eq K 26 dX10_sheet_13 (by decide) (fun c4 => ?_) (fun c4 => ?_)
    · have hf := ip c4 hf
      refine o_ldc K q1102 dX10_sheet_26 ?_
      exact e_iret K hf hR dX10_sheet_28
    · have hf := im c4 hf
      refine o_iload_n K 2 dX10_sheet_16 rfl rfl ?_
      refine o_if_lt K 29 dX10_sheet_17 (by decide) (fun c5 => ?_) (fun c5 => ?_)
      · have hf := ip c5 hf
        exact t_X10_sheet_j29 K hR a1 a2 a3 M hf
      · have hf := im c5 hf
        refine o_iload_n K 3 dX10_sheet_20 rfl rfl ?_
        refine o_bipush K 24 dX10_sheet_21 (by decide) ?_
        refine o_icmp_le K 29 dX10_sheet_23 (by decide) (fun c6 => ?_) (fun c6 => ?_)
        · have hf := ip c6 hf
          exact t_X10_sheet_j29 K hR a1 a2 a3 M hf
        · have hf := im c6 hf
          refine o_ldc K q1102 dX10_sheet_26 ?_
          exact e_iret K hf hR dX10_sheet_28
def f_X10_mark_j92 (a0 : Int32) (a1 : Int32) (a2 : Int32) (M : Mem) : Option (Int32 × Mem) := rd M 17 4 a0 fun x20 => if x20 = 0 then (wr M 19 96 (((24 : Int32) * a0) + a1) (a2.toInt16.toInt32) fun M26 => some ((1 : Int32), M26)) else wr M 19 96 (((24 : Int32) * a0) + a1) a2 fun M24 => some ((1 : Int32), M24)
set_option maxHeartbeats 4000000 in
set_option maxRecDepth 100000 in
theorem t_X10_mark_j92 {x : En} {E : Amd} {D : va_G} {ca : Nat → ClassId} {h : Nat → Nat} (K : Kx x E D (tysOf ca) h (LaM ca h) RX10 cX10_mark 4 2 42) {r0 : Int32} {Mo : Mem} (hR : Rt x D h (LaM ca h) (some .int) (some (.int r0)) Mo) (a0 : Int32) (a1 : Int32) (a2 : Int32) (M : Mem) (hf : f_X10_mark_j92 a0 a1 a2 M = some (r0, Mo)) : Go x D (tysOf ca) h (LaM ca h) 4 M 92 [some (.ref (h 0)), some (.int a0), some (.int a1), some (.int a2)] [] := by
  rw [f_X10_mark_j92] at hf
  refine o_aload_n K 0 dX10_mark_92 rfl rfl ?_
  refine gM_66 K dX10_mark_93 ?_
  refine o_bipush K 24 dX10_mark_96 (by decide) ?_
  refine o_iload_n K 1 dX10_mark_98 rfl rfl ?_
  refine o_imul K dX10_mark_99 ?_
  refine o_iload_n K 2 dX10_mark_100 rfl rfl ?_
  refine o_iadd K dX10_mark_101 ?_
  refine o_aload_n K 0 dX10_mark_102 rfl rfl ?_
  refine gM_60 K dX10_mark_103 ?_
  refine o_iload_n K 1 dX10_mark_106 rfl rfl ?_
  obtain ⟨g21, x20, ex20, hf⟩ := rd_e hf
  refine lM_17 K g21 dX10_mark_107 ?_
  refine o_nmi ex20 ?_
  refine o_if_ne K 116 dX10_mark_108 (by decide) (fun c22 => ?_) (fun c22 => ?_)
  · have hf := im c22 hf
    refine o_iload_n K 3 dX10_mark_116 rfl rfl ?_
    obtain ⟨g23, M24, eM24, hf⟩ := wr_e hf
    refine sM_19 K g23 dX10_mark_117 ?_
    refine o_nmM eM24 ?_
    refine o_iconst K 1 dX10_mark_118 (by decide) ?_
    exact e_iret K hf hR dX10_mark_119
  · have hf := ip c22 hf
    refine o_iload_n K 3 dX10_mark_111 rfl rfl ?_
    refine o_i2s K dX10_mark_112 ?_
    refine o_goto K 117 dX10_mark_113 (by decide) ?_
    obtain ⟨g25, M26, eM26, hf⟩ := wr_e hf
    refine sM_19 K g25 dX10_mark_117 ?_
    refine o_nmM eM26 ?_
    refine o_iconst K 1 dX10_mark_118 (by decide) ?_
    exact e_iret K hf hR dX10_mark_119
def f_X10_mark_j60 (a0 : Int32) (a1 : Int32) (a2 : Int32) (M : Mem) : Option (Int32 × Mem) := rd M 17 4 a0 fun x14 => if x14 = 1 then (if a2 = (-1000000005) then (f_X10_mark_j92 a0 a1 a2 M) else bd (f_X10_in a2 ((-99999) : Int32) (99999 : Int32)) fun r18 => if r18 = 0 then (some (((-1000000001) : Int32), M)) else f_X10_mark_j92 a0 a1 a2 M) else f_X10_mark_j92 a0 a1 a2 M
set_option maxHeartbeats 4000000 in
set_option maxRecDepth 100000 in
theorem t_X10_mark_j60 {x : En} {E : Amd} {D : va_G} {ca : Nat → ClassId} {h : Nat → Nat} (K : Kx x E D (tysOf ca) h (LaM ca h) RX10 cX10_mark 4 2 42) {r0 : Int32} {Mo : Mem} (hR : Rt x D h (LaM ca h) (some .int) (some (.int r0)) Mo) (a0 : Int32) (a1 : Int32) (a2 : Int32) (M : Mem) (hf : f_X10_mark_j60 a0 a1 a2 M = some (r0, Mo)) : Go x D (tysOf ca) h (LaM ca h) 4 M 60 [some (.ref (h 0)), some (.int a0), some (.int a1), some (.int a2)] [] := by
  rw [f_X10_mark_j60] at hf
  refine o_aload_n K 0 dX10_mark_60 rfl rfl ?_
  refine gM_60 K dX10_mark_61 ?_
  refine o_iload_n K 1 dX10_mark_64 rfl rfl ?_
  obtain ⟨g15, x14, ex14, hf⟩ := rd_e hf
  refine lM_17 K g15 dX10_mark_65 ?_
  refine o_nmi ex14 ?_
  refine o_iconst K 1 dX10_mark_66 (by decide) ?_
  refine o_icmp_ne K 92 dX10_mark_67 (by decide) (fun c16 => ?_) (fun c16 => ?_)
  · have hf := im c16 hf
    exact t_X10_mark_j92 K hR a0 a1 a2 M hf
  · have hf := ip c16 hf
    refine o_iload_n K 3 dX10_mark_70 rfl rfl ?_
    refine o_ldc K q1268 dX10_mark_71 ?_
    refine o_icmp_eq K 92 dX10_mark_73 (by decide) (fun c17 => ?_) (fun c17 => ?_)
    · have hf := ip c17 hf
      exact t_X10_mark_j92 K hR a0 a1 a2 M hf
    · have hf := im c17 hf
      refine o_iload_n K 3 dX10_mark_76 rfl rfl ?_
      refine o_ldcw K q1385 dX10_mark_77 ?_
      refine o_ldcw K q1386 dX10_mark_80 ?_
      obtain ⟨r18, er18, hf⟩ := bd_e hf
      refine o_callS K [.int a2, .int (-99999), .int 99999] (k_X10_in x.2.1 E D ca h M a2 ((-99999) : Int32) (99999 : Int32) er18) s_X10_87 rfl ⟨by decide, by decide⟩ (Nat.le_of_ble_eq_true rfl) _ rfl dX10_mark_83 ?_
      show Go x D (tysOf ca) h (LaM ca h) 4 M 86 [some (.ref (h 0)), some (.int a0), some (.int a1), some (.int a2)] [.int r18]
      refine o_if_ne K 92 dX10_mark_86 (by decide) (fun c19 => ?_) (fun c19 => ?_)
      · have hf := im c19 hf
        exact t_X10_mark_j92 K hR a0 a1 a2 M hf
      · have hf := ip c19 hf
        refine o_ldc K q1102 dX10_mark_89 ?_
        exact e_iret K hf hR dX10_mark_91
def f_X10_mark (M : Mem) (a1 : Int32) (a2 : Int32) (a3 : Int32) : Option (Int32 × Mem) := bd (f_X10_isSheet a1) fun r1 => if r1 = 0 then (some (((-1000000001) : Int32), M)) else rd M 17 4 a1 fun x3 => if 0 ≤ x3 then (rd M 18 4 a1 fun x6 => bd (f_X10_in a2 (0 : Int32) (x6 - 1)) fun r8 => if r8 = 0 then (some (((-1000000013) : Int32), M)) else rd M 17 4 a1 fun x10 => if x10 = 0 then (if a3 = (-1000000005) then (some (((-1000000012) : Int32), M)) else f_X10_mark_j60 a1 a2 a3 M) else f_X10_mark_j60 a1 a2 a3 M) else some (((-1000000011) : Int32), M)
set_option maxHeartbeats 4000000 in
set_option maxRecDepth 100000 in
theorem k_X10_mark (l : Launch) (E : Amd) (D : va_G) (ca : Nat → ClassId) (h : Nat → Nat) (M : Mem) (a1 : Int32) (a2 : Int32) (a3 : Int32) {r0 : Int32} {Mo : Mem} (hf : f_X10_mark M a1 a2 a3 = some (r0, Mo)) : Ct l E D (tysOf ca) h (LaM ca h) yX10_mark cX10_mark 4 (some .int) 2 42 [.ref (h 0), .int a1, .int a2, .int a3] M (some (.int r0)) Mo := by
  refine Ct.mk [some (.ref (h 0)), some (.int a1), some (.int a2), some (.int a3)] (by decide) (Nat.le_of_ble_eq_true rfl) (argsV [.ref (h 0), .int a1, .int a2, .int a3] 0 rfl rfl) ?_
  intro x hx0 K hR
  have K : Kx x E D (tysOf ca) h (LaM ca h) RX10 cX10_mark 4 2 42 := K
  rw [f_X10_mark] at hf
  refine o_iload_n K 1 dX10_mark_0 rfl rfl ?_
  obtain ⟨r1, er1, hf⟩ := bd_e hf
  refine o_callS K [.int a1] (k_X10_isSheet x.2.1 E D ca h M a1 er1) s_X10_197 rfl ⟨by decide, by decide⟩ (Nat.le_of_ble_eq_true rfl) _ rfl dX10_mark_1 ?_
  show Go x D (tysOf ca) h (LaM ca h) 4 M 4 [some (.ref (h 0)), some (.int a1), some (.int a2), some (.int a3)] [.int r1]
  refine o_if_ne K 10 dX10_mark_4 (by decide) (fun c2 => ?_) (fun c2 => ?_)
  · have hf := im c2 hf
    refine o_aload_n K 0 dX10_mark_10 rfl rfl ?_
    refine gM_60 K dX10_mark_11 ?_
    refine o_iload_n K 1 dX10_mark_14 rfl rfl ?_
    obtain ⟨g4, x3, ex3, hf⟩ := rd_e hf
    refine lM_17 K g4 dX10_mark_15 ?_
    refine o_nmi ex3 ?_
    refine o_if_ge K 22 dX10_mark_16 (by decide) (fun c5 => ?_) (fun c5 => ?_)
    · have hf := ip c5 hf
      refine o_iload_n K 2 dX10_mark_22 rfl rfl ?_
      refine o_iconst K 0 dX10_mark_23 (by decide) ?_
      refine o_aload_n K 0 dX10_mark_24 rfl rfl ?_
      refine gM_63 K dX10_mark_25 ?_
      refine o_iload_n K 1 dX10_mark_28 rfl rfl ?_
      obtain ⟨g7, x6, ex6, hf⟩ := rd_e hf
      refine lM_18 K g7 dX10_mark_29 ?_
      refine o_nmi ex6 ?_
      refine o_iconst K 1 dX10_mark_30 (by decide) ?_
      refine o_isub K dX10_mark_31 ?_
      obtain ⟨r8, er8, hf⟩ := bd_e hf
      refine o_callS K [.int a2, .int 0, .int (x6 - 1)] (k_X10_in x.2.1 E D ca h M a2 (0 : Int32) (x6 - 1) er8) s_X10_87 rfl ⟨by decide, by decide⟩ (Nat.le_of_ble_eq_true rfl) _ rfl dX10_mark_32 ?_
      show Go x D (tysOf ca) h (LaM ca h) 4 M 35 [some (.ref (h 0)), some (.int a1), some (.int a2), some (.int a3)] [.int r8]
      refine o_if_ne K 42 dX10_mark_35 (by decide) (fun c9 => ?_) (fun c9 => ?_)
      · have hf := im c9 hf
        refine o_aload_n K 0 dX10_mark_42 rfl rfl ?_
        refine gM_60 K dX10_mark_43 ?_
        refine o_iload_n K 1 dX10_mark_46 rfl rfl ?_
        obtain ⟨g11, x10, ex10, hf⟩ := rd_e hf
        refine lM_17 K g11 dX10_mark_47 ?_
        refine o_nmi ex10 ?_
        refine o_if_ne K 60 dX10_mark_48 (by decide) (fun c12 => ?_) (fun c12 => ?_)
        · have hf := im c12 hf
          exact t_X10_mark_j60 K hR a1 a2 a3 M hf
        · have hf := ip c12 hf
          refine o_iload_n K 3 dX10_mark_51 rfl rfl ?_
          refine o_ldc K q1268 dX10_mark_52 ?_
          refine o_icmp_ne K 60 dX10_mark_54 (by decide) (fun c13 => ?_) (fun c13 => ?_)
          · have hf := im c13 hf
            exact t_X10_mark_j60 K hR a1 a2 a3 M hf
          · have hf := ip c13 hf
            refine o_ldc K q1162 dX10_mark_57 ?_
            exact e_iret K hf hR dX10_mark_59
      · have hf := ip c9 hf
        refine o_ldcw K q1384 dX10_mark_38 ?_
        exact e_iret K hf hR dX10_mark_41
    · have hf := im c5 hf
      refine o_ldc K q1303 dX10_mark_19 ?_
      exact e_iret K hf hR dX10_mark_21
  · have hf := ip c2 hf
    refine o_ldc K q1102 dX10_mark_7 ?_
    exact e_iret K hf hR dX10_mark_9
def f_X10_pour_j107 (rec26 : Int32 → Int32 → Int32 → Mem → Option (Int32 × Mem)) (a0 : Int32) (a1 : Int32) (a2 : Int32) (a3 : Int32) (M : Mem) : Option (Int32 × Mem) := nm (a3 + a2 : Int32) fun x18 => nm (a1 + 1 : Int32) fun x19 => rec26 a0 x18 x19 M
set_option maxHeartbeats 4000000 in
set_option maxRecDepth 100000 in
theorem t_X10_pour_j107 {x : En} {E : Amd} {D : va_G} {ca : Nat → ClassId} {h : Nat → Nat} (K : Kx x E D (tysOf ca) h (LaM ca h) RX10 cX10_pour 6 2 42) {r0 : Int32} {Mo : Mem} (hR : Rt x D h (LaM ca h) (some .int) (some (.int r0)) Mo) {rec26 : Int32 → Int32 → Int32 → Mem → Option (Int32 × Mem)} (ih26 : ∀ (w0 : Int32) (w1 : Int32) (w2 : Int32) (M : Mem), rec26 w0 w1 w2 M = some (r0, Mo) → Go x D (tysOf ca) h (LaM ca h) 6 M 26 [some (.ref (h 0)), some (.int w0), some (.int w1), some (.int w2), none, none] []) (a0 : Int32) (a1 : Int32) (a2 : Int32) (a3 : Int32) (M : Mem) (hf : f_X10_pour_j107 rec26 a0 a1 a2 a3 M = some (r0, Mo)) : Go x D (tysOf ca) h (LaM ca h) 6 M 107 [some (.ref (h 0)), some (.int a0), none, some (.int a1), none, none] [.int a2, .int a3] := by
  rw [f_X10_pour_j107] at hf
  refine o_iadd K dX10_pour_107 ?_
  obtain ⟨x18, ex18, hf⟩ := nm_o hf
  refine o_nmi ex18 ?_
  refine o_istore_n K 2 [some (.ref (h 0)), some (.int a0), some (.int x18), some (.int a1), none, none] dX10_pour_108 rfl (by decide) rfl rfl ?_
  obtain ⟨x19, ex19, hf⟩ := nm_o hf
  refine o_iinc K 3 x19 [some (.ref (h 0)), some (.int a0), some (.int x18), some (.int x19), none, none] dX10_pour_109 rfl (inc_e (by decide) ex19) (by decide) rfl rfl ?_
  refine o_goto K 26 dX10_pour_112 (by decide) ?_
  exact ih26 a0 x18 x19 M hf
def f_X10_pour_j80 (rec26 : Int32 → Int32 → Int32 → Mem → Option (Int32 × Mem)) (a0 : Int32) (a1 : Int32) (a2 : Int32) (a3 : Int32) (M : Mem) : Option (Int32 × Mem) := bd2 (f_X10_becomes M (((6 : Int32) + ((4 : Int32) * a2)) + 2) a3) fun r15 M16 => if r15 = a3 then (f_X10_pour_j107 rec26 a0 a2 (0 : Int32) a1 M16) else f_X10_pour_j107 rec26 a0 a2 (1 : Int32) a1 M16
set_option maxHeartbeats 4000000 in
set_option maxRecDepth 100000 in
theorem t_X10_pour_j80 {x : En} {E : Amd} {D : va_G} {ca : Nat → ClassId} {h : Nat → Nat} (K : Kx x E D (tysOf ca) h (LaM ca h) RX10 cX10_pour 6 2 42) {r0 : Int32} {Mo : Mem} (hR : Rt x D h (LaM ca h) (some .int) (some (.int r0)) Mo) {rec26 : Int32 → Int32 → Int32 → Mem → Option (Int32 × Mem)} (ih26 : ∀ (w0 : Int32) (w1 : Int32) (w2 : Int32) (M : Mem), rec26 w0 w1 w2 M = some (r0, Mo) → Go x D (tysOf ca) h (LaM ca h) 6 M 26 [some (.ref (h 0)), some (.int w0), some (.int w1), some (.int w2), none, none] []) (a0 : Int32) (a1 : Int32) (a2 : Int32) (a3 : Int32) (M : Mem) (hf : f_X10_pour_j80 rec26 a0 a1 a2 a3 M = some (r0, Mo)) : Go x D (tysOf ca) h (LaM ca h) 6 M 80 [some (.ref (h 0)), some (.int a0), some (.int a1), some (.int a2), none, none] [.int a3] := by
  rw [f_X10_pour_j80] at hf
  refine o_istore K 5 [some (.ref (h 0)), some (.int a0), some (.int a1), some (.int a2), none, some (.int a3)] dX10_pour_80 (by decide) rfl rfl ?_
  refine o_iload_n K 2 dX10_pour_82 rfl rfl ?_
  refine o_aload_n K 0 dX10_pour_83 rfl rfl ?_
  refine o_bipush K 6 dX10_pour_84 (by decide) ?_
  refine o_iconst K 4 dX10_pour_86 (by decide) ?_
  refine o_iload_n K 3 dX10_pour_87 rfl rfl ?_
  refine o_imul K dX10_pour_88 ?_
  refine o_iadd K dX10_pour_89 ?_
  refine o_iconst K 2 dX10_pour_90 (by decide) ?_
  refine o_iadd K dX10_pour_91 ?_
  refine o_iload K 5 dX10_pour_92 rfl ?_
  obtain ⟨r15, M16, er15, hf⟩ := bd2_e hf
  refine o_callV K [.int (((6 : Int32) + ((4 : Int32) * a2)) + 2), .int a3] (k_X10_becomes x.2.1 E D ca h M (((6 : Int32) + ((4 : Int32) * a2)) + 2) a3 er15) s_X10_141 (ltM (by decide)) rfl rfl rfl rfl ⟨by decide, by decide⟩ (Nat.le_of_ble_eq_true rfl) _ rfl dX10_pour_94 ?_
  show Go x D (tysOf ca) h (LaM ca h) 6 M16 97 [some (.ref (h 0)), some (.int a0), some (.int a1), some (.int a2), none, some (.int a3)] [.int r15, .int a1]
  refine o_iload K 5 dX10_pour_97 rfl ?_
  refine o_icmp_ne K 106 dX10_pour_99 (by decide) (fun c17 => ?_) (fun c17 => ?_)
  · have hf := im c17 hf
    refine o_iconst K 1 dX10_pour_106 (by decide) ?_
    refine o_drop [true, true, false, true, false, false] (V2 := [some (.ref (h 0)), some (.int a0), none, some (.int a2), none, none]) rfl ?_
    exact t_X10_pour_j107 K hR ih26 a0 a2 (1 : Int32) a1 M16 hf
  · have hf := ip c17 hf
    refine o_iconst K 0 dX10_pour_102 (by decide) ?_
    refine o_goto K 107 dX10_pour_103 (by decide) ?_
    refine o_drop [true, true, false, true, false, false] (V2 := [some (.ref (h 0)), some (.int a0), none, some (.int a2), none, none]) rfl ?_
    exact t_X10_pour_j107 K hR ih26 a0 a2 (0 : Int32) a1 M16 hf
def f_X10_pour_l26 : Nat → Int32 → Int32 → Int32 → Mem → Option (Int32 × Mem)
  | 0, _, _, _, _ => none
  | n + 1, a0, a1, a2, M => rd M 18 4 a0 fun x6 => if x6 ≤ a2 then (some (a1, M)) else if 8 ≤ a2 then (some (a1, M)) else rd M 19 96 (((24 : Int32) * a0) + a2) fun x10 => if x10 = (-1000000005) then (bd (f_X10_at0 M a2 (2 : Int32)) fun r14 => f_X10_pour_j80 (f_X10_pour_l26 n) a0 a1 a2 r14 M) else bd (f_X10_within x10 (0 : Int32) (9999 : Int32)) fun r13 => f_X10_pour_j80 (f_X10_pour_l26 n) a0 a1 a2 r13 M
set_option maxHeartbeats 4000000 in
set_option maxRecDepth 100000 in
theorem t_X10_pour_l26 {x : En} {E : Amd} {D : va_G} {ca : Nat → ClassId} {h : Nat → Nat} (K : Kx x E D (tysOf ca) h (LaM ca h) RX10 cX10_pour 6 2 42) {r0 : Int32} {Mo : Mem} (hR : Rt x D h (LaM ca h) (some .int) (some (.int r0)) Mo) : ∀ (n : Nat) (a0 : Int32) (a1 : Int32) (a2 : Int32) (M : Mem), f_X10_pour_l26 n a0 a1 a2 M = some (r0, Mo) → Go x D (tysOf ca) h (LaM ca h) 6 M 26 [some (.ref (h 0)), some (.int a0), some (.int a1), some (.int a2), none, none] [] := by
  intro n
  induction n with
  | zero =>
    intro a0 a1 a2 M hf
    cases hf
  | succ n ih =>
    intro a0 a1 a2 M hf
    rw [f_X10_pour_l26] at hf
    refine o_iload_n K 3 dX10_pour_26 rfl rfl ?_
    refine o_aload_n K 0 dX10_pour_27 rfl rfl ?_
    refine gM_63 K dX10_pour_28 ?_
    refine o_iload_n K 1 dX10_pour_31 rfl rfl ?_
    obtain ⟨g7, x6, ex6, hf⟩ := rd_e hf
    refine lM_18 K g7 dX10_pour_32 ?_
    refine o_nmi ex6 ?_
    refine o_icmp_ge K 115 dX10_pour_33 (by decide) (fun c8 => ?_) (fun c8 => ?_)
    · have hf := ip c8 hf
      refine o_iload_n K 2 dX10_pour_115 rfl rfl ?_
      exact e_iret K hf hR dX10_pour_116
    · have hf := im c8 hf
      refine o_iload_n K 3 dX10_pour_36 rfl rfl ?_
      refine o_bipush K 8 dX10_pour_37 (by decide) ?_
      refine o_icmp_ge K 115 dX10_pour_39 (by decide) (fun c9 => ?_) (fun c9 => ?_)
      · have hf := ip c9 hf
        refine o_iload_n K 2 dX10_pour_115 rfl rfl ?_
        exact e_iret K hf hR dX10_pour_116
      · have hf := im c9 hf
        refine o_aload_n K 0 dX10_pour_42 rfl rfl ?_
        refine gM_66 K dX10_pour_43 ?_
        refine o_bipush K 24 dX10_pour_46 (by decide) ?_
        refine o_iload_n K 1 dX10_pour_48 rfl rfl ?_
        refine o_imul K dX10_pour_49 ?_
        refine o_iload_n K 3 dX10_pour_50 rfl rfl ?_
        refine o_iadd K dX10_pour_51 ?_
        obtain ⟨g11, x10, ex10, hf⟩ := rd_e hf
        refine lM_19 K g11 dX10_pour_52 ?_
        refine o_nmi ex10 ?_
        refine o_istore K 4 [some (.ref (h 0)), some (.int a0), some (.int a1), some (.int a2), some (.int x10), none] dX10_pour_53 (by decide) rfl rfl ?_
        refine o_iload K 4 dX10_pour_55 rfl ?_
        refine o_ldc K q1268 dX10_pour_57 ?_
        refine o_icmp_ne K 71 dX10_pour_59 (by decide) (fun c12 => ?_) (fun c12 => ?_)
        · have hf := im c12 hf
          refine o_iload K 4 dX10_pour_71 rfl ?_
          refine o_iconst K 0 dX10_pour_73 (by decide) ?_
          refine o_sipush K 9999 dX10_pour_74 (by decide) ?_
          obtain ⟨r13, er13, hf⟩ := bd_e hf
          refine o_callS K [.int x10, .int 0, .int 9999] (k_X10_within x.2.1 E D ca h M x10 (0 : Int32) (9999 : Int32) er13) s_X10_112 rfl ⟨by decide, by decide⟩ (Nat.le_of_ble_eq_true rfl) _ rfl dX10_pour_77 ?_
          show Go x D (tysOf ca) h (LaM ca h) 6 M 80 [some (.ref (h 0)), some (.int a0), some (.int a1), some (.int a2), some (.int x10), none] [.int r13]
          refine o_drop [true, true, true, true, false, false] (V2 := [some (.ref (h 0)), some (.int a0), some (.int a1), some (.int a2), none, none]) rfl ?_
          exact t_X10_pour_j80 K hR ih a0 a1 a2 r13 M hf
        · have hf := ip c12 hf
          refine o_aload_n K 0 dX10_pour_62 rfl rfl ?_
          refine o_iload_n K 3 dX10_pour_63 rfl rfl ?_
          refine o_iconst K 2 dX10_pour_64 (by decide) ?_
          obtain ⟨r14, er14, hf⟩ := bd_e hf
          refine o_callV K [.int a2, .int 2] (k_X10_at0 x.2.1 E D ca h M a2 (2 : Int32) er14) s_X10_116 (ltM (by decide)) rfl rfl rfl rfl ⟨by decide, by decide⟩ (Nat.le_of_ble_eq_true rfl) _ rfl dX10_pour_65 ?_
          show Go x D (tysOf ca) h (LaM ca h) 6 M 68 [some (.ref (h 0)), some (.int a0), some (.int a1), some (.int a2), some (.int x10), none] [.int r14]
          refine o_goto K 80 dX10_pour_68 (by decide) ?_
          refine o_drop [true, true, true, true, false, false] (V2 := [some (.ref (h 0)), some (.int a0), some (.int a1), some (.int a2), none, none]) rfl ?_
          exact t_X10_pour_j80 K hR ih a0 a1 a2 r14 M hf
def f_X10_pour (M : Mem) (a1 : Int32) : Option (Int32 × Mem) := bd (f_X10_isSheet a1) fun r1 => if r1 = 0 then (some (((-1000000001) : Int32), M)) else rd M 17 4 a1 fun x3 => if 0 ≤ x3 then (f_X10_pour_l26 FU a1 (0 : Int32) (0 : Int32) M) else some (((-1000000011) : Int32), M)
set_option maxHeartbeats 4000000 in
set_option maxRecDepth 100000 in
theorem k_X10_pour (l : Launch) (E : Amd) (D : va_G) (ca : Nat → ClassId) (h : Nat → Nat) (M : Mem) (a1 : Int32) {r0 : Int32} {Mo : Mem} (hf : f_X10_pour M a1 = some (r0, Mo)) : Ct l E D (tysOf ca) h (LaM ca h) yX10_pour cX10_pour 6 (some .int) 2 42 [.ref (h 0), .int a1] M (some (.int r0)) Mo := by
  refine Ct.mk [some (.ref (h 0)), some (.int a1), none, none, none, none] (by decide) (Nat.le_of_ble_eq_true rfl) (argsV [.ref (h 0), .int a1] 4 rfl rfl) ?_
  intro x hx0 K hR
  have K : Kx x E D (tysOf ca) h (LaM ca h) RX10 cX10_pour 6 2 42 := K
  rw [f_X10_pour] at hf
  refine o_iload_n K 1 dX10_pour_0 rfl rfl ?_
  obtain ⟨r1, er1, hf⟩ := bd_e hf
  refine o_callS K [.int a1] (k_X10_isSheet x.2.1 E D ca h M a1 er1) s_X10_197 rfl ⟨by decide, by decide⟩ (Nat.le_of_ble_eq_true rfl) _ rfl dX10_pour_1 ?_
  show Go x D (tysOf ca) h (LaM ca h) 6 M 4 [some (.ref (h 0)), some (.int a1), none, none, none, none] [.int r1]
  refine o_if_ne K 10 dX10_pour_4 (by decide) (fun c2 => ?_) (fun c2 => ?_)
  · have hf := im c2 hf
    refine o_aload_n K 0 dX10_pour_10 rfl rfl ?_
    refine gM_60 K dX10_pour_11 ?_
    refine o_iload_n K 1 dX10_pour_14 rfl rfl ?_
    obtain ⟨g4, x3, ex3, hf⟩ := rd_e hf
    refine lM_17 K g4 dX10_pour_15 ?_
    refine o_nmi ex3 ?_
    refine o_if_ge K 22 dX10_pour_16 (by decide) (fun c5 => ?_) (fun c5 => ?_)
    · have hf := ip c5 hf
      refine o_iconst K 0 dX10_pour_22 (by decide) ?_
      refine o_istore_n K 2 [some (.ref (h 0)), some (.int a1), some (.int 0), none, none, none] dX10_pour_23 rfl (by decide) rfl rfl ?_
      refine o_iconst K 0 dX10_pour_24 (by decide) ?_
      refine o_istore_n K 3 [some (.ref (h 0)), some (.int a1), some (.int 0), some (.int 0), none, none] dX10_pour_25 rfl (by decide) rfl rfl ?_
      exact t_X10_pour_l26 K hR FU a1 (0 : Int32) (0 : Int32) M hf
    · have hf := im c5 hf
      refine o_ldc K q1303 dX10_pour_19 ?_
      exact e_iret K hf hR dX10_pour_21
  · have hf := ip c2 hf
    refine o_ldc K q1102 dX10_pour_7 ?_
    exact e_iret K hf hR dX10_pour_9
def f_X10_reads_j71 (rec24 : Int32 → Int32 → Mem → Option Int32) (a0 : Int32) (a1 : Int32) (M : Mem) : Option Int32 := nm (a1 + 1 : Int32) fun x16 => rec24 a0 x16 M
set_option maxHeartbeats 4000000 in
set_option maxRecDepth 100000 in
theorem t_X10_reads_j71 {x : En} {E : Amd} {D : va_G} {ca : Nat → ClassId} {h : Nat → Nat} {M : Mem} (K : Kx x E D (tysOf ca) h (LaM ca h) RX10 cX10_reads 4 2 42) {r0 : Int32} (hR : Rt x D h (LaM ca h) (some .int) (some (.int r0)) M) {rec24 : Int32 → Int32 → Mem → Option Int32} (ih24 : ∀ (w0 : Int32) (w1 : Int32), rec24 w0 w1 M = some r0 → Go x D (tysOf ca) h (LaM ca h) 4 M 24 [some (.ref (h 0)), some (.int w0), some (.int w1), none] []) (a0 : Int32) (a1 : Int32) (hf : f_X10_reads_j71 rec24 a0 a1 M = some r0) : Go x D (tysOf ca) h (LaM ca h) 4 M 71 [some (.ref (h 0)), some (.int a0), some (.int a1), none] [] := by
  rw [f_X10_reads_j71] at hf
  obtain ⟨x16, ex16, hf⟩ := nm_o hf
  refine o_iinc K 2 x16 [some (.ref (h 0)), some (.int a0), some (.int x16), none] dX10_reads_71 rfl (inc_e (by decide) ex16) (by decide) rfl rfl ?_
  refine o_goto K 24 dX10_reads_74 (by decide) ?_
  exact ih24 a0 x16 hf
def f_X10_reads_l24 : Nat → Int32 → Int32 → Mem → Option Int32
  | 0, _, _, _ => none
  | n + 1, a0, a1, M => rd M 18 4 a0 fun x6 => if x6 ≤ a1 then (some (((-1000000005) : Int32))) else rd M 19 96 (((24 : Int32) * a0) + a1) fun x9 => if x9 = (-1000000005) then (f_X10_reads_j71 (f_X10_reads_l24 n) a0 a1 M) else bd (f_X10_isRoom a1) fun r12 => if r12 = 0 then (some (a1)) else bd (f_X10_at0 M a1 (0 : Int32)) fun r14 => if x9 = r14 then (f_X10_reads_j71 (f_X10_reads_l24 n) a0 a1 M) else some (a1)
set_option maxHeartbeats 4000000 in
set_option maxRecDepth 100000 in
theorem t_X10_reads_l24 {x : En} {E : Amd} {D : va_G} {ca : Nat → ClassId} {h : Nat → Nat} {M : Mem} (K : Kx x E D (tysOf ca) h (LaM ca h) RX10 cX10_reads 4 2 42) {r0 : Int32} (hR : Rt x D h (LaM ca h) (some .int) (some (.int r0)) M) : ∀ (n : Nat) (a0 : Int32) (a1 : Int32), f_X10_reads_l24 n a0 a1 M = some r0 → Go x D (tysOf ca) h (LaM ca h) 4 M 24 [some (.ref (h 0)), some (.int a0), some (.int a1), none] [] := by
  intro n
  induction n with
  | zero =>
    intro a0 a1 hf
    cases hf
  | succ n ih =>
    intro a0 a1 hf
    rw [f_X10_reads_l24] at hf
    refine o_iload_n K 2 dX10_reads_24 rfl rfl ?_
    refine o_aload_n K 0 dX10_reads_25 rfl rfl ?_
    refine gM_63 K dX10_reads_26 ?_
    refine o_iload_n K 1 dX10_reads_29 rfl rfl ?_
    obtain ⟨g7, x6, ex6, hf⟩ := rd_e hf
    refine lM_18 K g7 dX10_reads_30 ?_
    refine o_nmi ex6 ?_
    refine o_icmp_ge K 77 dX10_reads_31 (by decide) (fun c8 => ?_) (fun c8 => ?_)
    · have hf := ip c8 hf
      refine o_ldc K q1268 dX10_reads_77 ?_
      exact r_iret K hf hR dX10_reads_79
    · have hf := im c8 hf
      refine o_aload_n K 0 dX10_reads_34 rfl rfl ?_
      refine gM_66 K dX10_reads_35 ?_
      refine o_bipush K 24 dX10_reads_38 (by decide) ?_
      refine o_iload_n K 1 dX10_reads_40 rfl rfl ?_
      refine o_imul K dX10_reads_41 ?_
      refine o_iload_n K 2 dX10_reads_42 rfl rfl ?_
      refine o_iadd K dX10_reads_43 ?_
      obtain ⟨g10, x9, ex9, hf⟩ := rd_e hf
      refine lM_19 K g10 dX10_reads_44 ?_
      refine o_nmi ex9 ?_
      refine o_istore_n K 3 [some (.ref (h 0)), some (.int a0), some (.int a1), some (.int x9)] dX10_reads_45 rfl (by decide) rfl rfl ?_
      refine o_iload_n K 3 dX10_reads_46 rfl rfl ?_
      refine o_ldc K q1268 dX10_reads_47 ?_
      refine o_icmp_eq K 71 dX10_reads_49 (by decide) (fun c11 => ?_) (fun c11 => ?_)
      · have hf := ip c11 hf
        refine o_drop [true, true, true, false] (V2 := [some (.ref (h 0)), some (.int a0), some (.int a1), none]) rfl ?_
        exact t_X10_reads_j71 K hR ih a0 a1 hf
      · have hf := im c11 hf
        refine o_iload_n K 2 dX10_reads_52 rfl rfl ?_
        obtain ⟨r12, er12, hf⟩ := bd_e hf
        refine o_callS K [.int a1] (k_X10_isRoom x.2.1 E D ca h M a1 er12) s_X10_91 rfl ⟨by decide, by decide⟩ (Nat.le_of_ble_eq_true rfl) _ rfl dX10_reads_53 ?_
        show Go x D (tysOf ca) h (LaM ca h) 4 M 56 [some (.ref (h 0)), some (.int a0), some (.int a1), some (.int x9)] [.int r12]
        refine o_if_eq K 69 dX10_reads_56 (by decide) (fun c13 => ?_) (fun c13 => ?_)
        · have hf := ip c13 hf
          refine o_iload_n K 2 dX10_reads_69 rfl rfl ?_
          exact r_iret K hf hR dX10_reads_70
        · have hf := im c13 hf
          refine o_iload_n K 3 dX10_reads_59 rfl rfl ?_
          refine o_aload_n K 0 dX10_reads_60 rfl rfl ?_
          refine o_iload_n K 2 dX10_reads_61 rfl rfl ?_
          refine o_iconst K 0 dX10_reads_62 (by decide) ?_
          obtain ⟨r14, er14, hf⟩ := bd_e hf
          refine o_callV K [.int a1, .int 0] (k_X10_at0 x.2.1 E D ca h M a1 (0 : Int32) er14) s_X10_116 (ltM (by decide)) rfl rfl rfl rfl ⟨by decide, by decide⟩ (Nat.le_of_ble_eq_true rfl) _ rfl dX10_reads_63 ?_
          show Go x D (tysOf ca) h (LaM ca h) 4 M 66 [some (.ref (h 0)), some (.int a0), some (.int a1), some (.int x9)] [.int r14, .int x9]
          refine o_icmp_eq K 71 dX10_reads_66 (by decide) (fun c15 => ?_) (fun c15 => ?_)
          · have hf := ip c15 hf
            refine o_drop [true, true, true, false] (V2 := [some (.ref (h 0)), some (.int a0), some (.int a1), none]) rfl ?_
            exact t_X10_reads_j71 K hR ih a0 a1 hf
          · have hf := im c15 hf
            refine o_iload_n K 2 dX10_reads_69 rfl rfl ?_
            exact r_iret K hf hR dX10_reads_70
def f_X10_reads (M : Mem) (a1 : Int32) : Option Int32 := bd (f_X10_isSheet a1) fun r1 => if r1 = 0 then (some (((-1000000001) : Int32))) else rd M 17 4 a1 fun x3 => if 0 ≤ x3 then (f_X10_reads_l24 FU a1 (0 : Int32) M) else some (((-1000000011) : Int32))
set_option maxHeartbeats 4000000 in
set_option maxRecDepth 100000 in
theorem k_X10_reads (l : Launch) (E : Amd) (D : va_G) (ca : Nat → ClassId) (h : Nat → Nat) (M : Mem) (a1 : Int32) {r0 : Int32} (hf : f_X10_reads M a1 = some r0) : Ct l E D (tysOf ca) h (LaM ca h) yX10_reads cX10_reads 4 (some .int) 2 42 [.ref (h 0), .int a1] M (some (.int r0)) M := by
  refine Ct.mk [some (.ref (h 0)), some (.int a1), none, none] (by decide) (Nat.le_of_ble_eq_true rfl) (argsV [.ref (h 0), .int a1] 2 rfl rfl) ?_
  intro x hx0 K hR
  have K : Kx x E D (tysOf ca) h (LaM ca h) RX10 cX10_reads 4 2 42 := K
  rw [f_X10_reads] at hf
  refine o_iload_n K 1 dX10_reads_0 rfl rfl ?_
  obtain ⟨r1, er1, hf⟩ := bd_e hf
  refine o_callS K [.int a1] (k_X10_isSheet x.2.1 E D ca h M a1 er1) s_X10_197 rfl ⟨by decide, by decide⟩ (Nat.le_of_ble_eq_true rfl) _ rfl dX10_reads_1 ?_
  show Go x D (tysOf ca) h (LaM ca h) 4 M 4 [some (.ref (h 0)), some (.int a1), none, none] [.int r1]
  refine o_if_ne K 10 dX10_reads_4 (by decide) (fun c2 => ?_) (fun c2 => ?_)
  · have hf := im c2 hf
    refine o_aload_n K 0 dX10_reads_10 rfl rfl ?_
    refine gM_60 K dX10_reads_11 ?_
    refine o_iload_n K 1 dX10_reads_14 rfl rfl ?_
    obtain ⟨g4, x3, ex3, hf⟩ := rd_e hf
    refine lM_17 K g4 dX10_reads_15 ?_
    refine o_nmi ex3 ?_
    refine o_if_ge K 22 dX10_reads_16 (by decide) (fun c5 => ?_) (fun c5 => ?_)
    · have hf := ip c5 hf
      refine o_iconst K 0 dX10_reads_22 (by decide) ?_
      refine o_istore_n K 2 [some (.ref (h 0)), some (.int a1), some (.int 0), none] dX10_reads_23 rfl (by decide) rfl rfl ?_
      exact t_X10_reads_l24 K hR FU a1 (0 : Int32) hf
    · have hf := im c5 hf
      refine o_ldc K q1303 dX10_reads_19 ?_
      exact r_iret K hf hR dX10_reads_21
  · have hf := ip c2 hf
    refine o_ldc K q1102 dX10_reads_7 ?_
    exact r_iret K hf hR dX10_reads_9
def f_X10_copy_l141 : Nat → Int32 → Int32 → Int32 → Int32 → Mem → Option (Int32 × Mem)
  | 0, _, _, _, _, _ => none
  | n + 1, a0, a1, a2, a3, M => if a2 ≤ a3 then (some (a2, M)) else rd M 24 24 a3 fun x32 => wr M 19 96 ((((24 : Int32) * a0) + a1) + a3) x32 fun M35 => nm (a3 + 1 : Int32) fun x36 => f_X10_copy_l141 n a0 a1 a2 x36 M35
set_option maxHeartbeats 4000000 in
set_option maxRecDepth 100000 in
theorem t_X10_copy_l141 {x : En} {E : Amd} {D : va_G} {ca : Nat → ClassId} {h : Nat → Nat} (K : Kx x E D (tysOf ca) h (LaM ca h) RX10 cX10_copy 7 2 42) {r0 : Int32} {Mo : Mem} (hR : Rt x D h (LaM ca h) (some .int) (some (.int r0)) Mo) : ∀ (n : Nat) (a0 : Int32) (a1 : Int32) (a2 : Int32) (a3 : Int32) (M : Mem), f_X10_copy_l141 n a0 a1 a2 a3 M = some (r0, Mo) → Go x D (tysOf ca) h (LaM ca h) 7 M 141 [some (.ref (h 0)), none, none, some (.int a0), some (.int a1), some (.int a2), some (.int a3)] [] := by
  intro n
  induction n with
  | zero =>
    intro a0 a1 a2 a3 M hf
    cases hf
  | succ n ih =>
    intro a0 a1 a2 a3 M hf
    rw [f_X10_copy_l141] at hf
    refine o_iload K 6 dX10_copy_141 rfl ?_
    refine o_iload K 5 dX10_copy_143 rfl ?_
    refine o_icmp_ge K 176 dX10_copy_145 (by decide) (fun c31 => ?_) (fun c31 => ?_)
    · have hf := ip c31 hf
      refine o_iload K 5 dX10_copy_176 rfl ?_
      exact e_iret K hf hR dX10_copy_178
    · have hf := im c31 hf
      refine o_aload_n K 0 dX10_copy_148 rfl rfl ?_
      refine gM_66 K dX10_copy_149 ?_
      refine o_bipush K 24 dX10_copy_152 (by decide) ?_
      refine o_iload_n K 3 dX10_copy_154 rfl rfl ?_
      refine o_imul K dX10_copy_155 ?_
      refine o_iload K 4 dX10_copy_156 rfl ?_
      refine o_iadd K dX10_copy_158 ?_
      refine o_iload K 6 dX10_copy_159 rfl ?_
      refine o_iadd K dX10_copy_161 ?_
      refine o_aload_n K 0 dX10_copy_162 rfl rfl ?_
      refine gM_81 K dX10_copy_163 ?_
      refine o_iload K 6 dX10_copy_166 rfl ?_
      obtain ⟨g33, x32, ex32, hf⟩ := rd_e hf
      refine lM_24 K g33 dX10_copy_168 ?_
      refine o_nmi ex32 ?_
      obtain ⟨g34, M35, eM35, hf⟩ := wr_e hf
      refine sM_19 K g34 dX10_copy_169 ?_
      refine o_nmM eM35 ?_
      obtain ⟨x36, ex36, hf⟩ := nm_o hf
      refine o_iinc K 6 x36 [some (.ref (h 0)), none, none, some (.int a0), some (.int a1), some (.int a2), some (.int x36)] dX10_copy_170 rfl (inc_e (by decide) ex36) (by decide) rfl rfl ?_
      refine o_goto K 141 dX10_copy_173 (by decide) ?_
      exact ih a0 a1 a2 x36 M35 hf
def f_X10_copy_l104 : Nat → Int32 → Int32 → Int32 → Int32 → Int32 → Int32 → Mem → Option (Int32 × Mem)
  | 0, _, _, _, _, _, _, _ => none
  | n + 1, a0, a1, a2, a3, a4, a5, M => if a4 ≤ a5 then (f_X10_copy_l141 FU a2 a3 a4 (0 : Int32) M) else rd M 19 96 ((((24 : Int32) * a0) + a1) + a5) fun x26 => wr M 24 24 a5 x26 fun M29 => nm (a5 + 1 : Int32) fun x30 => f_X10_copy_l104 n a0 a1 a2 a3 a4 x30 M29
set_option maxHeartbeats 4000000 in
set_option maxRecDepth 100000 in
theorem t_X10_copy_l104 {x : En} {E : Amd} {D : va_G} {ca : Nat → ClassId} {h : Nat → Nat} (K : Kx x E D (tysOf ca) h (LaM ca h) RX10 cX10_copy 7 2 42) {r0 : Int32} {Mo : Mem} (hR : Rt x D h (LaM ca h) (some .int) (some (.int r0)) Mo) : ∀ (n : Nat) (a0 : Int32) (a1 : Int32) (a2 : Int32) (a3 : Int32) (a4 : Int32) (a5 : Int32) (M : Mem), f_X10_copy_l104 n a0 a1 a2 a3 a4 a5 M = some (r0, Mo) → Go x D (tysOf ca) h (LaM ca h) 7 M 104 [some (.ref (h 0)), some (.int a0), some (.int a1), some (.int a2), some (.int a3), some (.int a4), some (.int a5)] [] := by
  intro n
  induction n with
  | zero =>
    intro a0 a1 a2 a3 a4 a5 M hf
    cases hf
  | succ n ih =>
    intro a0 a1 a2 a3 a4 a5 M hf
    rw [f_X10_copy_l104] at hf
    refine o_iload K 6 dX10_copy_104 rfl ?_
    refine o_iload K 5 dX10_copy_106 rfl ?_
    refine o_icmp_ge K 138 dX10_copy_108 (by decide) (fun c25 => ?_) (fun c25 => ?_)
    · have hf := ip c25 hf
      refine o_iconst K 0 dX10_copy_138 (by decide) ?_
      refine o_istore K 6 [some (.ref (h 0)), some (.int a0), some (.int a1), some (.int a2), some (.int a3), some (.int a4), some (.int 0)] dX10_copy_139 (by decide) rfl rfl ?_
      refine o_drop [true, false, false, true, true, true, true] (V2 := [some (.ref (h 0)), none, none, some (.int a2), some (.int a3), some (.int a4), some (.int 0)]) rfl ?_
      exact t_X10_copy_l141 K hR FU a2 a3 a4 (0 : Int32) M hf
    · have hf := im c25 hf
      refine o_aload_n K 0 dX10_copy_111 rfl rfl ?_
      refine gM_81 K dX10_copy_112 ?_
      refine o_iload K 6 dX10_copy_115 rfl ?_
      refine o_aload_n K 0 dX10_copy_117 rfl rfl ?_
      refine gM_66 K dX10_copy_118 ?_
      refine o_bipush K 24 dX10_copy_121 (by decide) ?_
      refine o_iload_n K 1 dX10_copy_123 rfl rfl ?_
      refine o_imul K dX10_copy_124 ?_
      refine o_iload_n K 2 dX10_copy_125 rfl rfl ?_
      refine o_iadd K dX10_copy_126 ?_
      refine o_iload K 6 dX10_copy_127 rfl ?_
      refine o_iadd K dX10_copy_129 ?_
      obtain ⟨g27, x26, ex26, hf⟩ := rd_e hf
      refine lM_19 K g27 dX10_copy_130 ?_
      refine o_nmi ex26 ?_
      obtain ⟨g28, M29, eM29, hf⟩ := wr_e hf
      refine sM_24 K g28 dX10_copy_131 ?_
      refine o_nmM eM29 ?_
      obtain ⟨x30, ex30, hf⟩ := nm_o hf
      refine o_iinc K 6 x30 [some (.ref (h 0)), some (.int a0), some (.int a1), some (.int a2), some (.int a3), some (.int a4), some (.int x30)] dX10_copy_132 rfl (inc_e (by decide) ex30) (by decide) rfl rfl ?_
      refine o_goto K 104 dX10_copy_135 (by decide) ?_
      exact ih a0 a1 a2 a3 a4 x30 M29 hf
def f_X10_copy (M : Mem) (a1 : Int32) (a2 : Int32) (a3 : Int32) (a4 : Int32) (a5 : Int32) : Option (Int32 × Mem) := bd (f_X10_isSheet a1) fun r1 => if r1 = 0 then (some (((-1000000001) : Int32), M)) else bd (f_X10_isSheet a3) fun r3 => if r3 = 0 then (some (((-1000000001) : Int32), M)) else rd M 17 4 a1 fun x5 => if x5 < 0 then (some (((-1000000011) : Int32), M)) else rd M 17 4 a3 fun x8 => if 0 ≤ x8 then (rd M 17 4 a1 fun x11 => rd M 17 4 a3 fun x13 => if x11 = x13 then (if a2 < 0 then (some (((-1000000013) : Int32), M)) else if a4 < 0 then (some (((-1000000013) : Int32), M)) else if a5 < 0 then (some (((-1000000013) : Int32), M)) else rd M 18 4 a1 fun x19 => if (x19 - a5) < a2 then (some (((-1000000013) : Int32), M)) else rd M 18 4 a3 fun x22 => if a4 ≤ (x22 - a5) then (f_X10_copy_l104 FU a1 a2 a3 a4 a5 (0 : Int32) M) else some (((-1000000013) : Int32), M)) else some (((-1000000012) : Int32), M)) else some (((-1000000011) : Int32), M)
set_option maxHeartbeats 4000000 in
set_option maxRecDepth 100000 in
theorem k_X10_copy (l : Launch) (E : Amd) (D : va_G) (ca : Nat → ClassId) (h : Nat → Nat) (M : Mem) (a1 : Int32) (a2 : Int32) (a3 : Int32) (a4 : Int32) (a5 : Int32) {r0 : Int32} {Mo : Mem} (hf : f_X10_copy M a1 a2 a3 a4 a5 = some (r0, Mo)) : Ct l E D (tysOf ca) h (LaM ca h) yX10_copy cX10_copy 7 (some .int) 2 42 [.ref (h 0), .int a1, .int a2, .int a3, .int a4, .int a5] M (some (.int r0)) Mo := by
  refine Ct.mk [some (.ref (h 0)), some (.int a1), some (.int a2), some (.int a3), some (.int a4), some (.int a5), none] (by decide) (Nat.le_of_ble_eq_true rfl) (argsV [.ref (h 0), .int a1, .int a2, .int a3, .int a4, .int a5] 1 rfl rfl) ?_
  intro x hx0 K hR
  have K : Kx x E D (tysOf ca) h (LaM ca h) RX10 cX10_copy 7 2 42 := K
  rw [f_X10_copy] at hf
  refine o_iload_n K 1 dX10_copy_0 rfl rfl ?_
  obtain ⟨r1, er1, hf⟩ := bd_e hf
  refine o_callS K [.int a1] (k_X10_isSheet x.2.1 E D ca h M a1 er1) s_X10_197 rfl ⟨by decide, by decide⟩ (Nat.le_of_ble_eq_true rfl) _ rfl dX10_copy_1 ?_
  show Go x D (tysOf ca) h (LaM ca h) 7 M 4 [some (.ref (h 0)), some (.int a1), some (.int a2), some (.int a3), some (.int a4), some (.int a5), none] [.int r1]
  refine o_if_eq K 14 dX10_copy_4 (by decide) (fun c2 => ?_) (fun c2 => ?_)
  · have hf := ip c2 hf
    refine o_ldc K q1102 dX10_copy_14 ?_
    exact e_iret K hf hR dX10_copy_16
  · have hf := im c2 hf
    refine o_iload_n K 3 dX10_copy_7 rfl rfl ?_
    obtain ⟨r3, er3, hf⟩ := bd_e hf
    refine o_callS K [.int a3] (k_X10_isSheet x.2.1 E D ca h M a3 er3) s_X10_197 rfl ⟨by decide, by decide⟩ (Nat.le_of_ble_eq_true rfl) _ rfl dX10_copy_8 ?_
    show Go x D (tysOf ca) h (LaM ca h) 7 M 11 [some (.ref (h 0)), some (.int a1), some (.int a2), some (.int a3), some (.int a4), some (.int a5), none] [.int r3]
    refine o_if_ne K 17 dX10_copy_11 (by decide) (fun c4 => ?_) (fun c4 => ?_)
    · have hf := im c4 hf
      refine o_aload_n K 0 dX10_copy_17 rfl rfl ?_
      refine gM_60 K dX10_copy_18 ?_
      refine o_iload_n K 1 dX10_copy_21 rfl rfl ?_
      obtain ⟨g6, x5, ex5, hf⟩ := rd_e hf
      refine lM_17 K g6 dX10_copy_22 ?_
      refine o_nmi ex5 ?_
      refine o_if_lt K 35 dX10_copy_23 (by decide) (fun c7 => ?_) (fun c7 => ?_)
      · have hf := ip c7 hf
        refine o_ldc K q1303 dX10_copy_35 ?_
        exact e_iret K hf hR dX10_copy_37
      · have hf := im c7 hf
        refine o_aload_n K 0 dX10_copy_26 rfl rfl ?_
        refine gM_60 K dX10_copy_27 ?_
        refine o_iload_n K 3 dX10_copy_30 rfl rfl ?_
        obtain ⟨g9, x8, ex8, hf⟩ := rd_e hf
        refine lM_17 K g9 dX10_copy_31 ?_
        refine o_nmi ex8 ?_
        refine o_if_ge K 38 dX10_copy_32 (by decide) (fun c10 => ?_) (fun c10 => ?_)
        · have hf := ip c10 hf
          refine o_aload_n K 0 dX10_copy_38 rfl rfl ?_
          refine gM_60 K dX10_copy_39 ?_
          refine o_iload_n K 1 dX10_copy_42 rfl rfl ?_
          obtain ⟨g12, x11, ex11, hf⟩ := rd_e hf
          refine lM_17 K g12 dX10_copy_43 ?_
          refine o_nmi ex11 ?_
          refine o_aload_n K 0 dX10_copy_44 rfl rfl ?_
          refine gM_60 K dX10_copy_45 ?_
          refine o_iload_n K 3 dX10_copy_48 rfl rfl ?_
          obtain ⟨g14, x13, ex13, hf⟩ := rd_e hf
          refine lM_17 K g14 dX10_copy_49 ?_
          refine o_nmi ex13 ?_
          refine o_icmp_eq K 56 dX10_copy_50 (by decide) (fun c15 => ?_) (fun c15 => ?_)
          · have hf := ip c15 hf
            refine o_iload_n K 2 dX10_copy_56 rfl rfl ?_
            refine o_if_lt K 97 dX10_copy_57 (by decide) (fun c16 => ?_) (fun c16 => ?_)
            · have hf := ip c16 hf
              refine o_ldcw K q1384 dX10_copy_97 ?_
              exact e_iret K hf hR dX10_copy_100
            · have hf := im c16 hf
              refine o_iload K 4 dX10_copy_60 rfl ?_
              refine o_if_lt K 97 dX10_copy_62 (by decide) (fun c17 => ?_) (fun c17 => ?_)
              · have hf := ip c17 hf
                refine o_ldcw K q1384 dX10_copy_97 ?_
                exact e_iret K hf hR dX10_copy_100
              · have hf := im c17 hf
                refine o_iload K 5 dX10_copy_65 rfl ?_
                refine o_if_lt K 97 dX10_copy_67 (by decide) (fun c18 => ?_) (fun c18 => ?_)
                · have hf := ip c18 hf
                  refine o_ldcw K q1384 dX10_copy_97 ?_
                  exact e_iret K hf hR dX10_copy_100
                · have hf := im c18 hf
                  refine o_iload_n K 2 dX10_copy_70 rfl rfl ?_
                  refine o_aload_n K 0 dX10_copy_71 rfl rfl ?_
                  refine gM_63 K dX10_copy_72 ?_
                  refine o_iload_n K 1 dX10_copy_75 rfl rfl ?_
                  obtain ⟨g20, x19, ex19, hf⟩ := rd_e hf
                  refine lM_18 K g20 dX10_copy_76 ?_
                  refine o_nmi ex19 ?_
                  refine o_iload K 5 dX10_copy_77 rfl ?_
                  refine o_isub K dX10_copy_79 ?_
                  refine o_icmp_gt K 97 dX10_copy_80 (by decide) (fun c21 => ?_) (fun c21 => ?_)
                  · have hf := ip c21 hf
                    refine o_ldcw K q1384 dX10_copy_97 ?_
                    exact e_iret K hf hR dX10_copy_100
                  · have hf := im c21 hf
                    refine o_iload K 4 dX10_copy_83 rfl ?_
                    refine o_aload_n K 0 dX10_copy_85 rfl rfl ?_
                    refine gM_63 K dX10_copy_86 ?_
                    refine o_iload_n K 3 dX10_copy_89 rfl rfl ?_
                    obtain ⟨g23, x22, ex22, hf⟩ := rd_e hf
                    refine lM_18 K g23 dX10_copy_90 ?_
                    refine o_nmi ex22 ?_
                    refine o_iload K 5 dX10_copy_91 rfl ?_
                    refine o_isub K dX10_copy_93 ?_
                    refine o_icmp_le K 101 dX10_copy_94 (by decide) (fun c24 => ?_) (fun c24 => ?_)
                    · have hf := ip c24 hf
                      refine o_iconst K 0 dX10_copy_101 (by decide) ?_
                      refine o_istore K 6 [some (.ref (h 0)), some (.int a1), some (.int a2), some (.int a3), some (.int a4), some (.int a5), some (.int 0)] dX10_copy_102 (by decide) rfl rfl ?_
                      exact t_X10_copy_l104 K hR FU a1 a2 a3 a4 a5 (0 : Int32) M hf
                    · have hf := im c24 hf
                      refine o_ldcw K q1384 dX10_copy_97 ?_
                      exact e_iret K hf hR dX10_copy_100
          · have hf := im c15 hf
            refine o_ldc K q1162 dX10_copy_53 ?_
            exact e_iret K hf hR dX10_copy_55
        · have hf := im c10 hf
          refine o_ldc K q1303 dX10_copy_35 ?_
          exact e_iret K hf hR dX10_copy_37
    · have hf := ip c4 hf
      refine o_ldc K q1102 dX10_copy_14 ?_
      exact e_iret K hf hR dX10_copy_16
def f_X10_lay_l134 : Nat → Int32 → Int32 → Int32 → Int32 → Int32 → Mem → Option (Int32 × Mem)
  | 0, _, _, _, _, _, _ => none
  | n + 1, a0, a1, a2, a3, a4, M => if 24 ≤ a4 then (some (a3, M)) else if a1 = 2 then (rd M 19 96 (((24 : Int32) * a2) + a4) fun x32 => wr M 23 120 (((24 : Int32) * a0) + a4) x32 fun M35 => nm (a4 + 1 : Int32) fun x36 => f_X10_lay_l134 n a0 a1 a2 a3 x36 M35) else some (a3, M)
set_option maxHeartbeats 4000000 in
set_option maxRecDepth 100000 in
theorem t_X10_lay_l134 {x : En} {E : Amd} {D : va_G} {ca : Nat → ClassId} {h : Nat → Nat} (K : Kx x E D (tysOf ca) h (LaM ca h) RX10 cX10_lay 6 2 44) {r0 : Int32} {Mo : Mem} (hR : Rt x D h (LaM ca h) (some .int) (some (.int r0)) Mo) : ∀ (n : Nat) (a0 : Int32) (a1 : Int32) (a2 : Int32) (a3 : Int32) (a4 : Int32) (M : Mem), f_X10_lay_l134 n a0 a1 a2 a3 a4 M = some (r0, Mo) → Go x D (tysOf ca) h (LaM ca h) 6 M 134 [some (.ref (h 0)), some (.int a0), some (.int a1), some (.int a2), some (.int a3), some (.int a4)] [] := by
  intro n
  induction n with
  | zero =>
    intro a0 a1 a2 a3 a4 M hf
    cases hf
  | succ n ih =>
    intro a0 a1 a2 a3 a4 M hf
    rw [f_X10_lay_l134] at hf
    refine o_iload K 5 dX10_lay_134 rfl ?_
    refine o_bipush K 24 dX10_lay_136 (by decide) ?_
    refine o_icmp_ge K 176 dX10_lay_138 (by decide) (fun c30 => ?_) (fun c30 => ?_)
    · have hf := ip c30 hf
      refine o_iload K 4 dX10_lay_176 rfl ?_
      exact e_iret K hf hR dX10_lay_178
    · have hf := im c30 hf
      refine o_iload_n K 2 dX10_lay_141 rfl rfl ?_
      refine o_iconst K 2 dX10_lay_142 (by decide) ?_
      refine o_icmp_ne K 176 dX10_lay_143 (by decide) (fun c31 => ?_) (fun c31 => ?_)
      · have hf := im c31 hf
        refine o_iload K 4 dX10_lay_176 rfl ?_
        exact e_iret K hf hR dX10_lay_178
      · have hf := ip c31 hf
        refine o_aload_n K 0 dX10_lay_146 rfl rfl ?_
        refine gM_78 K dX10_lay_147 ?_
        refine o_bipush K 24 dX10_lay_150 (by decide) ?_
        refine o_iload_n K 1 dX10_lay_152 rfl rfl ?_
        refine o_imul K dX10_lay_153 ?_
        refine o_iload K 5 dX10_lay_154 rfl ?_
        refine o_iadd K dX10_lay_156 ?_
        refine o_aload_n K 0 dX10_lay_157 rfl rfl ?_
        refine gM_66 K dX10_lay_158 ?_
        refine o_bipush K 24 dX10_lay_161 (by decide) ?_
        refine o_iload_n K 3 dX10_lay_163 rfl rfl ?_
        refine o_imul K dX10_lay_164 ?_
        refine o_iload K 5 dX10_lay_165 rfl ?_
        refine o_iadd K dX10_lay_167 ?_
        obtain ⟨g33, x32, ex32, hf⟩ := rd_e hf
        refine lM_19 K g33 dX10_lay_168 ?_
        refine o_nmi ex32 ?_
        obtain ⟨g34, M35, eM35, hf⟩ := wr_e hf
        refine sM_23 K g34 dX10_lay_169 ?_
        refine o_nmM eM35 ?_
        obtain ⟨x36, ex36, hf⟩ := nm_o hf
        refine o_iinc K 5 x36 [some (.ref (h 0)), some (.int a0), some (.int a1), some (.int a2), some (.int a3), some (.int x36)] dX10_lay_170 rfl (inc_e (by decide) ex36) (by decide) rfl rfl ?_
        refine o_goto K 134 dX10_lay_173 (by decide) ?_
        exact ih a0 a1 a2 a3 x36 M35 hf
def f_X10_lay_j130 (a0 : Int32) (a1 : Int32) (a2 : Int32) (a3 : Int32) (a4 : Int32) (a5 : Int32) (M : Mem) : Option (Int32 × Mem) := wr M 22 5 a5 a4 fun M29 => f_X10_lay_l134 FU a0 a1 a2 a3 (0 : Int32) M29
set_option maxHeartbeats 4000000 in
set_option maxRecDepth 100000 in
theorem t_X10_lay_j130 {x : En} {E : Amd} {D : va_G} {ca : Nat → ClassId} {h : Nat → Nat} (K : Kx x E D (tysOf ca) h (LaM ca h) RX10 cX10_lay 6 2 44) {r0 : Int32} {Mo : Mem} (hR : Rt x D h (LaM ca h) (some .int) (some (.int r0)) Mo) (a0 : Int32) (a1 : Int32) (a2 : Int32) (a3 : Int32) (a4 : Int32) (a5 : Int32) (M : Mem) (hf : f_X10_lay_j130 a0 a1 a2 a3 a4 a5 M = some (r0, Mo)) : Go x D (tysOf ca) h (LaM ca h) 6 M 130 [some (.ref (h 0)), some (.int a0), some (.int a1), some (.int a2), some (.int a3), none] [.int a4, .int a5, .ref (h 22)] := by
  rw [f_X10_lay_j130] at hf
  obtain ⟨g28, M29, eM29, hf⟩ := wr_e hf
  refine sM_22 K g28 dX10_lay_130 ?_
  refine o_nmM eM29 ?_
  refine o_iconst K 0 dX10_lay_131 (by decide) ?_
  refine o_istore K 5 [some (.ref (h 0)), some (.int a0), some (.int a1), some (.int a2), some (.int a3), some (.int 0)] dX10_lay_132 (by decide) rfl rfl ?_
  exact t_X10_lay_l134 K hR FU a0 a1 a2 a3 (0 : Int32) M29 hf
def f_X10_lay_j110 (a0 : Int32) (a1 : Int32) (a2 : Int32) (a3 : Int32) (a4 : Int32) (a5 : Int32) (M : Mem) : Option (Int32 × Mem) := wr M 21 5 a5 a4 fun M25 => if a1 = 1 then (bd (f_X10_worthOf M25 a2) fun r27 => f_X10_lay_j130 a0 a1 a2 a3 r27 a0 M25) else f_X10_lay_j130 a0 a1 a2 a3 (0 : Int32) a0 M25
set_option maxHeartbeats 4000000 in
set_option maxRecDepth 100000 in
theorem t_X10_lay_j110 {x : En} {E : Amd} {D : va_G} {ca : Nat → ClassId} {h : Nat → Nat} (K : Kx x E D (tysOf ca) h (LaM ca h) RX10 cX10_lay 6 2 44) {r0 : Int32} {Mo : Mem} (hR : Rt x D h (LaM ca h) (some .int) (some (.int r0)) Mo) (a0 : Int32) (a1 : Int32) (a2 : Int32) (a3 : Int32) (a4 : Int32) (a5 : Int32) (M : Mem) (hf : f_X10_lay_j110 a0 a1 a2 a3 a4 a5 M = some (r0, Mo)) : Go x D (tysOf ca) h (LaM ca h) 6 M 110 [some (.ref (h 0)), some (.int a0), some (.int a1), some (.int a2), some (.int a3), none] [.int a4, .int a5, .ref (h 21)] := by
  rw [f_X10_lay_j110] at hf
  obtain ⟨g24, M25, eM25, hf⟩ := wr_e hf
  refine sM_21 K g24 dX10_lay_110 ?_
  refine o_nmM eM25 ?_
  refine o_aload_n K 0 dX10_lay_111 rfl rfl ?_
  refine gM_75 K dX10_lay_112 ?_
  refine o_iload_n K 1 dX10_lay_115 rfl rfl ?_
  refine o_iload_n K 2 dX10_lay_116 rfl rfl ?_
  refine o_iconst K 1 dX10_lay_117 (by decide) ?_
  refine o_icmp_ne K 129 dX10_lay_118 (by decide) (fun c26 => ?_) (fun c26 => ?_)
  · have hf := im c26 hf
    refine o_iconst K 0 dX10_lay_129 (by decide) ?_
    exact t_X10_lay_j130 K hR a0 a1 a2 a3 (0 : Int32) a0 M25 hf
  · have hf := ip c26 hf
    refine o_aload_n K 0 dX10_lay_121 rfl rfl ?_
    refine o_iload_n K 3 dX10_lay_122 rfl rfl ?_
    obtain ⟨r27, er27, hf⟩ := bd_e hf
    refine o_callV K [.int a2] (k_X10_worthOf x.2.1 E D ca h M25 a2 er27) s_X10_133 (ltM (by decide)) rfl rfl rfl rfl ⟨by decide, by decide⟩ (Nat.le_of_ble_eq_true rfl) _ rfl dX10_lay_123 ?_
    show Go x D (tysOf ca) h (LaM ca h) 6 M25 126 [some (.ref (h 0)), some (.int a0), some (.int a1), some (.int a2), some (.int a3), none] [.int r27, .int a0, .ref (h 22)]
    refine o_goto K 130 dX10_lay_126 (by decide) ?_
    exact t_X10_lay_j130 K hR a0 a1 a2 a3 r27 a0 M25 hf
def f_X10_lay_j61 (a0 : Int32) (a1 : Int32) (a2 : Int32) (M : Mem) : Option (Int32 × Mem) := rd M 20 5 a0 fun x15 => wr M 20 5 a0 a1 fun M18 => if a1 = 1 then (bd (f_X10_of M18 a2 (0 : Int32)) fun r23 => f_X10_lay_j110 a0 a1 a2 x15 r23 a0 M18) else if a1 = 2 then (rd M18 18 4 a2 fun x21 => f_X10_lay_j110 a0 a1 a2 x15 x21 a0 M18) else f_X10_lay_j110 a0 a1 a2 x15 a2 a0 M18
set_option maxHeartbeats 4000000 in
set_option maxRecDepth 100000 in
theorem t_X10_lay_j61 {x : En} {E : Amd} {D : va_G} {ca : Nat → ClassId} {h : Nat → Nat} (K : Kx x E D (tysOf ca) h (LaM ca h) RX10 cX10_lay 6 2 44) {r0 : Int32} {Mo : Mem} (hR : Rt x D h (LaM ca h) (some .int) (some (.int r0)) Mo) (a0 : Int32) (a1 : Int32) (a2 : Int32) (M : Mem) (hf : f_X10_lay_j61 a0 a1 a2 M = some (r0, Mo)) : Go x D (tysOf ca) h (LaM ca h) 6 M 61 [some (.ref (h 0)), some (.int a0), some (.int a1), some (.int a2), none, none] [] := by
  rw [f_X10_lay_j61] at hf
  refine o_aload_n K 0 dX10_lay_61 rfl rfl ?_
  refine gM_69 K dX10_lay_62 ?_
  refine o_iload_n K 1 dX10_lay_65 rfl rfl ?_
  obtain ⟨g16, x15, ex15, hf⟩ := rd_e hf
  refine lM_20 K g16 dX10_lay_66 ?_
  refine o_nmi ex15 ?_
  refine o_istore K 4 [some (.ref (h 0)), some (.int a0), some (.int a1), some (.int a2), some (.int x15), none] dX10_lay_67 (by decide) rfl rfl ?_
  refine o_aload_n K 0 dX10_lay_69 rfl rfl ?_
  refine gM_69 K dX10_lay_70 ?_
  refine o_iload_n K 1 dX10_lay_73 rfl rfl ?_
  refine o_iload_n K 2 dX10_lay_74 rfl rfl ?_
  obtain ⟨g17, M18, eM18, hf⟩ := wr_e hf
  refine sM_20 K g17 dX10_lay_75 ?_
  refine o_nmM eM18 ?_
  refine o_aload_n K 0 dX10_lay_76 rfl rfl ?_
  refine gM_72 K dX10_lay_77 ?_
  refine o_iload_n K 1 dX10_lay_80 rfl rfl ?_
  refine o_iload_n K 2 dX10_lay_81 rfl rfl ?_
  refine o_iconst K 1 dX10_lay_82 (by decide) ?_
  refine o_icmp_ne K 95 dX10_lay_83 (by decide) (fun c19 => ?_) (fun c19 => ?_)
  · have hf := im c19 hf
    refine o_iload_n K 2 dX10_lay_95 rfl rfl ?_
    refine o_iconst K 2 dX10_lay_96 (by decide) ?_
    refine o_icmp_ne K 109 dX10_lay_97 (by decide) (fun c20 => ?_) (fun c20 => ?_)
    · have hf := im c20 hf
      refine o_iload_n K 3 dX10_lay_109 rfl rfl ?_
      exact t_X10_lay_j110 K hR a0 a1 a2 x15 a2 a0 M18 hf
    · have hf := ip c20 hf
      refine o_aload_n K 0 dX10_lay_100 rfl rfl ?_
      refine gM_63 K dX10_lay_101 ?_
      refine o_iload_n K 3 dX10_lay_104 rfl rfl ?_
      obtain ⟨g22, x21, ex21, hf⟩ := rd_e hf
      refine lM_18 K g22 dX10_lay_105 ?_
      refine o_nmi ex21 ?_
      refine o_goto K 110 dX10_lay_106 (by decide) ?_
      exact t_X10_lay_j110 K hR a0 a1 a2 x15 x21 a0 M18 hf
  · have hf := ip c19 hf
    refine o_aload_n K 0 dX10_lay_86 rfl rfl ?_
    refine o_iload_n K 3 dX10_lay_87 rfl rfl ?_
    refine o_iconst K 0 dX10_lay_88 (by decide) ?_
    obtain ⟨r23, er23, hf⟩ := bd_e hf
    refine o_callV K [.int a2, .int 0] (k_X10_of x.2.1 E D ca h M18 a2 (0 : Int32) er23) s_X10_101 (ltM (by decide)) rfl rfl rfl rfl ⟨by decide, by decide⟩ (Nat.le_of_ble_eq_true rfl) _ rfl dX10_lay_89 ?_
    show Go x D (tysOf ca) h (LaM ca h) 6 M18 92 [some (.ref (h 0)), some (.int a0), some (.int a1), some (.int a2), some (.int x15), none] [.int r23, .int a0, .ref (h 21)]
    refine o_goto K 110 dX10_lay_92 (by decide) ?_
    exact t_X10_lay_j110 K hR a0 a1 a2 x15 r23 a0 M18 hf
def f_X10_lay_j44 (a0 : Int32) (a1 : Int32) (a2 : Int32) (M : Mem) : Option (Int32 × Mem) := if a1 = 2 then (rd M 17 4 a2 fun x12 => if 0 ≤ x12 then (f_X10_lay_j61 a0 a1 a2 M) else some (((-1000000011) : Int32), M)) else f_X10_lay_j61 a0 a1 a2 M
set_option maxHeartbeats 4000000 in
set_option maxRecDepth 100000 in
theorem t_X10_lay_j44 {x : En} {E : Amd} {D : va_G} {ca : Nat → ClassId} {h : Nat → Nat} (K : Kx x E D (tysOf ca) h (LaM ca h) RX10 cX10_lay 6 2 44) {r0 : Int32} {Mo : Mem} (hR : Rt x D h (LaM ca h) (some .int) (some (.int r0)) Mo) (a0 : Int32) (a1 : Int32) (a2 : Int32) (M : Mem) (hf : f_X10_lay_j44 a0 a1 a2 M = some (r0, Mo)) : Go x D (tysOf ca) h (LaM ca h) 6 M 44 [some (.ref (h 0)), some (.int a0), some (.int a1), some (.int a2), none, none] [] := by
  rw [f_X10_lay_j44] at hf
  refine o_iload_n K 2 dX10_lay_44 rfl rfl ?_
  refine o_iconst K 2 dX10_lay_45 (by decide) ?_
  refine o_icmp_ne K 61 dX10_lay_46 (by decide) (fun c11 => ?_) (fun c11 => ?_)
  · have hf := im c11 hf
    exact t_X10_lay_j61 K hR a0 a1 a2 M hf
  · have hf := ip c11 hf
    refine o_aload_n K 0 dX10_lay_49 rfl rfl ?_
    refine gM_60 K dX10_lay_50 ?_
    refine o_iload_n K 3 dX10_lay_53 rfl rfl ?_
    obtain ⟨g13, x12, ex12, hf⟩ := rd_e hf
    refine lM_17 K g13 dX10_lay_54 ?_
    refine o_nmi ex12 ?_
    refine o_if_ge K 61 dX10_lay_55 (by decide) (fun c14 => ?_) (fun c14 => ?_)
    · have hf := ip c14 hf
      exact t_X10_lay_j61 K hR a0 a1 a2 M hf
    · have hf := im c14 hf
      refine o_ldc K q1303 dX10_lay_58 ?_
      exact e_iret K hf hR dX10_lay_60
def f_X10_lay_j29 (a0 : Int32) (a1 : Int32) (a2 : Int32) (M : Mem) : Option (Int32 × Mem) := if a1 = 2 then (bd (f_X10_isSheet a2) fun r9 => if r9 = 0 then (some (((-1000000001) : Int32), M)) else f_X10_lay_j44 a0 a1 a2 M) else f_X10_lay_j44 a0 a1 a2 M
set_option maxHeartbeats 4000000 in
set_option maxRecDepth 100000 in
theorem t_X10_lay_j29 {x : En} {E : Amd} {D : va_G} {ca : Nat → ClassId} {h : Nat → Nat} (K : Kx x E D (tysOf ca) h (LaM ca h) RX10 cX10_lay 6 2 44) {r0 : Int32} {Mo : Mem} (hR : Rt x D h (LaM ca h) (some .int) (some (.int r0)) Mo) (a0 : Int32) (a1 : Int32) (a2 : Int32) (M : Mem) (hf : f_X10_lay_j29 a0 a1 a2 M = some (r0, Mo)) : Go x D (tysOf ca) h (LaM ca h) 6 M 29 [some (.ref (h 0)), some (.int a0), some (.int a1), some (.int a2), none, none] [] := by
  rw [f_X10_lay_j29] at hf
  refine o_iload_n K 2 dX10_lay_29 rfl rfl ?_
  refine o_iconst K 2 dX10_lay_30 (by decide) ?_
  refine o_icmp_ne K 44 dX10_lay_31 (by decide) (fun c8 => ?_) (fun c8 => ?_)
  · have hf := im c8 hf
    exact t_X10_lay_j44 K hR a0 a1 a2 M hf
  · have hf := ip c8 hf
    refine o_iload_n K 3 dX10_lay_34 rfl rfl ?_
    obtain ⟨r9, er9, hf⟩ := bd_e hf
    refine o_callS K [.int a2] (k_X10_isSheet x.2.1 E D ca h M a2 er9) s_X10_197 rfl ⟨by decide, by decide⟩ (Nat.le_of_ble_eq_true rfl) _ rfl dX10_lay_35 ?_
    show Go x D (tysOf ca) h (LaM ca h) 6 M 38 [some (.ref (h 0)), some (.int a0), some (.int a1), some (.int a2), none, none] [.int r9]
    refine o_if_ne K 44 dX10_lay_38 (by decide) (fun c10 => ?_) (fun c10 => ?_)
    · have hf := im c10 hf
      exact t_X10_lay_j44 K hR a0 a1 a2 M hf
    · have hf := ip c10 hf
      refine o_ldc K q1102 dX10_lay_41 ?_
      exact e_iret K hf hR dX10_lay_43
def f_X10_lay (M : Mem) (a1 : Int32) (a2 : Int32) (a3 : Int32) : Option (Int32 × Mem) := bd (f_X10_isSlot a1) fun r1 => if r1 = 0 then (some (((-1000000001) : Int32), M)) else bd (f_X10_in a2 (0 : Int32) (3 : Int32)) fun r3 => if r3 = 0 then (some (((-1000000001) : Int32), M)) else if a2 = 1 then (bd (f_X10_isDoor M a3) fun r6 => if r6 = 0 then (some (((-1000000001) : Int32), M)) else f_X10_lay_j29 a1 a2 a3 M) else f_X10_lay_j29 a1 a2 a3 M
set_option maxHeartbeats 4000000 in
set_option maxRecDepth 100000 in
theorem k_X10_lay (l : Launch) (E : Amd) (D : va_G) (ca : Nat → ClassId) (h : Nat → Nat) (M : Mem) (a1 : Int32) (a2 : Int32) (a3 : Int32) {r0 : Int32} {Mo : Mem} (hf : f_X10_lay M a1 a2 a3 = some (r0, Mo)) : Ct l E D (tysOf ca) h (LaM ca h) yX10_lay cX10_lay 6 (some .int) 2 44 [.ref (h 0), .int a1, .int a2, .int a3] M (some (.int r0)) Mo := by
  refine Ct.mk [some (.ref (h 0)), some (.int a1), some (.int a2), some (.int a3), none, none] (by decide) (Nat.le_of_ble_eq_true rfl) (argsV [.ref (h 0), .int a1, .int a2, .int a3] 2 rfl rfl) ?_
  intro x hx0 K hR
  have K : Kx x E D (tysOf ca) h (LaM ca h) RX10 cX10_lay 6 2 44 := K
  rw [f_X10_lay] at hf
  refine o_iload_n K 1 dX10_lay_0 rfl rfl ?_
  obtain ⟨r1, er1, hf⟩ := bd_e hf
  refine o_callS K [.int a1] (k_X10_isSlot x.2.1 E D ca h M a1 er1) s_X10_277 rfl ⟨by decide, by decide⟩ (Nat.le_of_ble_eq_true rfl) _ rfl dX10_lay_1 ?_
  show Go x D (tysOf ca) h (LaM ca h) 6 M 4 [some (.ref (h 0)), some (.int a1), some (.int a2), some (.int a3), none, none] [.int r1]
  refine o_if_eq K 41 dX10_lay_4 (by decide) (fun c2 => ?_) (fun c2 => ?_)
  · have hf := ip c2 hf
    refine o_ldc K q1102 dX10_lay_41 ?_
    exact e_iret K hf hR dX10_lay_43
  · have hf := im c2 hf
    refine o_iload_n K 2 dX10_lay_7 rfl rfl ?_
    refine o_iconst K 0 dX10_lay_8 (by decide) ?_
    refine o_iconst K 3 dX10_lay_9 (by decide) ?_
    obtain ⟨r3, er3, hf⟩ := bd_e hf
    refine o_callS K [.int a2, .int 0, .int 3] (k_X10_in x.2.1 E D ca h M a2 (0 : Int32) (3 : Int32) er3) s_X10_87 rfl ⟨by decide, by decide⟩ (Nat.le_of_ble_eq_true rfl) _ rfl dX10_lay_10 ?_
    show Go x D (tysOf ca) h (LaM ca h) 6 M 13 [some (.ref (h 0)), some (.int a1), some (.int a2), some (.int a3), none, none] [.int r3]
    refine o_if_eq K 41 dX10_lay_13 (by decide) (fun c4 => ?_) (fun c4 => ?_)
    · have hf := ip c4 hf
      refine o_ldc K q1102 dX10_lay_41 ?_
      exact e_iret K hf hR dX10_lay_43
    · have hf := im c4 hf
      refine o_iload_n K 2 dX10_lay_16 rfl rfl ?_
      refine o_iconst K 1 dX10_lay_17 (by decide) ?_
      refine o_icmp_ne K 29 dX10_lay_18 (by decide) (fun c5 => ?_) (fun c5 => ?_)
      · have hf := im c5 hf
        exact t_X10_lay_j29 K hR a1 a2 a3 M hf
      · have hf := ip c5 hf
        refine o_aload_n K 0 dX10_lay_21 rfl rfl ?_
        refine o_iload_n K 3 dX10_lay_22 rfl rfl ?_
        obtain ⟨r6, er6, hf⟩ := bd_e hf
        refine o_callV K [.int a3] (k_X10_isDoor x.2.1 E D ca h M a3 er6) s_X10_127 (ltM (by decide)) rfl rfl rfl rfl ⟨by decide, by decide⟩ (Nat.le_of_ble_eq_true rfl) _ rfl dX10_lay_23 ?_
        show Go x D (tysOf ca) h (LaM ca h) 6 M 26 [some (.ref (h 0)), some (.int a1), some (.int a2), some (.int a3), none, none] [.int r6]
        refine o_if_eq K 41 dX10_lay_26 (by decide) (fun c7 => ?_) (fun c7 => ?_)
        · have hf := ip c7 hf
          refine o_ldc K q1102 dX10_lay_41 ?_
          exact e_iret K hf hR dX10_lay_43
        · have hf := im c7 hf
          exact t_X10_lay_j29 K hR a1 a2 a3 M hf
def f_X10_ask (M : Mem) (a1 : Int32) (a2 : Int32) : Option Int32 := bd (f_X10_isSlot a1) fun r1 => if r1 = 0 then (some (((-1000000001) : Int32))) else bd (f_X10_in a2 (0 : Int32) (5 : Int32)) fun r3 => if r3 = 0 then (some (((-1000000001) : Int32))) else rd M 20 5 a1 fun x5 => if x5 = 0 then (some (((-1000000011) : Int32))) else rd M 20 5 a1 fun x8 => if x8 = 1 then (rd M 21 5 a1 fun x11 => bd (f_X10_isUnder x11 a2) fun r13 => if r13 = 0 then (some (((-1000000012) : Int32))) else rd M 22 5 a1 fun x15 => some (x15)) else some (((-1000000012) : Int32))
set_option maxHeartbeats 4000000 in
set_option maxRecDepth 100000 in
theorem k_X10_ask (l : Launch) (E : Amd) (D : va_G) (ca : Nat → ClassId) (h : Nat → Nat) (M : Mem) (a1 : Int32) (a2 : Int32) {r0 : Int32} (hf : f_X10_ask M a1 a2 = some r0) : Ct l E D (tysOf ca) h (LaM ca h) yX10_ask cX10_ask 3 (some .int) 2 42 [.ref (h 0), .int a1, .int a2] M (some (.int r0)) M := by
  refine Ct.mk [some (.ref (h 0)), some (.int a1), some (.int a2)] (by decide) (Nat.le_of_ble_eq_true rfl) (argsV [.ref (h 0), .int a1, .int a2] 0 rfl rfl) ?_
  intro x hx0 K hR
  have K : Kx x E D (tysOf ca) h (LaM ca h) RX10 cX10_ask 3 2 42 := K
  rw [f_X10_ask] at hf
  refine o_iload_n K 1 dX10_ask_0 rfl rfl ?_
  obtain ⟨r1, er1, hf⟩ := bd_e hf
  refine o_callS K [.int a1] (k_X10_isSlot x.2.1 E D ca h M a1 er1) s_X10_277 rfl ⟨by decide, by decide⟩ (Nat.le_of_ble_eq_true rfl) _ rfl dX10_ask_1 ?_
  show Go x D (tysOf ca) h (LaM ca h) 3 M 4 [some (.ref (h 0)), some (.int a1), some (.int a2)] [.int r1]
  refine o_if_eq K 16 dX10_ask_4 (by decide) (fun c2 => ?_) (fun c2 => ?_)
  · have hf := ip c2 hf
    refine o_ldc K q1102 dX10_ask_16 ?_
    exact r_iret K hf hR dX10_ask_18
  · have hf := im c2 hf
    refine o_iload_n K 2 dX10_ask_7 rfl rfl ?_
    refine o_iconst K 0 dX10_ask_8 (by decide) ?_
    refine o_iconst K 5 dX10_ask_9 (by decide) ?_
    obtain ⟨r3, er3, hf⟩ := bd_e hf
    refine o_callS K [.int a2, .int 0, .int 5] (k_X10_in x.2.1 E D ca h M a2 (0 : Int32) (5 : Int32) er3) s_X10_87 rfl ⟨by decide, by decide⟩ (Nat.le_of_ble_eq_true rfl) _ rfl dX10_ask_10 ?_
    show Go x D (tysOf ca) h (LaM ca h) 3 M 13 [some (.ref (h 0)), some (.int a1), some (.int a2)] [.int r3]
    refine o_if_ne K 19 dX10_ask_13 (by decide) (fun c4 => ?_) (fun c4 => ?_)
    · have hf := im c4 hf
      refine o_aload_n K 0 dX10_ask_19 rfl rfl ?_
      refine gM_69 K dX10_ask_20 ?_
      refine o_iload_n K 1 dX10_ask_23 rfl rfl ?_
      obtain ⟨g6, x5, ex5, hf⟩ := rd_e hf
      refine lM_20 K g6 dX10_ask_24 ?_
      refine o_nmi ex5 ?_
      refine o_if_ne K 31 dX10_ask_25 (by decide) (fun c7 => ?_) (fun c7 => ?_)
      · have hf := im c7 hf
        refine o_aload_n K 0 dX10_ask_31 rfl rfl ?_
        refine gM_69 K dX10_ask_32 ?_
        refine o_iload_n K 1 dX10_ask_35 rfl rfl ?_
        obtain ⟨g9, x8, ex8, hf⟩ := rd_e hf
        refine lM_20 K g9 dX10_ask_36 ?_
        refine o_nmi ex8 ?_
        refine o_iconst K 1 dX10_ask_37 (by decide) ?_
        refine o_icmp_ne K 63 dX10_ask_38 (by decide) (fun c10 => ?_) (fun c10 => ?_)
        · have hf := im c10 hf
          refine o_ldc K q1162 dX10_ask_63 ?_
          exact r_iret K hf hR dX10_ask_65
        · have hf := ip c10 hf
          refine o_aload_n K 0 dX10_ask_41 rfl rfl ?_
          refine gM_72 K dX10_ask_42 ?_
          refine o_iload_n K 1 dX10_ask_45 rfl rfl ?_
          obtain ⟨g12, x11, ex11, hf⟩ := rd_e hf
          refine lM_21 K g12 dX10_ask_46 ?_
          refine o_nmi ex11 ?_
          refine o_iload_n K 2 dX10_ask_47 rfl rfl ?_
          obtain ⟨r13, er13, hf⟩ := bd_e hf
          refine o_callS K [.int x11, .int a2] (k_X10_isUnder x.2.1 E D ca h M x11 a2 er13) s_X10_136 rfl ⟨by decide, by decide⟩ (Nat.le_of_ble_eq_true rfl) _ rfl dX10_ask_48 ?_
          show Go x D (tysOf ca) h (LaM ca h) 3 M 51 [some (.ref (h 0)), some (.int a1), some (.int a2)] [.int r13]
          refine o_if_eq K 63 dX10_ask_51 (by decide) (fun c14 => ?_) (fun c14 => ?_)
          · have hf := ip c14 hf
            refine o_ldc K q1162 dX10_ask_63 ?_
            exact r_iret K hf hR dX10_ask_65
          · have hf := im c14 hf
            refine o_aload_n K 0 dX10_ask_54 rfl rfl ?_
            refine gM_75 K dX10_ask_55 ?_
            refine o_iload_n K 1 dX10_ask_58 rfl rfl ?_
            obtain ⟨g16, x15, ex15, hf⟩ := rd_e hf
            refine lM_22 K g16 dX10_ask_59 ?_
            refine o_nmi ex15 ?_
            refine o_goto K 65 dX10_ask_60 (by decide) ?_
            exact r_iret K hf hR dX10_ask_65
      · have hf := ip c7 hf
        refine o_ldc K q1303 dX10_ask_28 ?_
        exact r_iret K hf hR dX10_ask_30
    · have hf := ip c4 hf
      refine o_ldc K q1102 dX10_ask_16 ?_
      exact r_iret K hf hR dX10_ask_18
def f_X10_item (M : Mem) (a1 : Int32) (a2 : Int32) : Option Int32 := bd (f_X10_isSlot a1) fun r1 => if r1 = 0 then (some (((-1000000001) : Int32))) else rd M 20 5 a1 fun x3 => if x3 = 0 then (some (((-1000000011) : Int32))) else rd M 20 5 a1 fun x6 => if x6 = 2 then (rd M 21 5 a1 fun x9 => bd (f_X10_in a2 (0 : Int32) (x9 - 1)) fun r11 => if r11 = 0 then (some (((-1000000013) : Int32))) else rd M 23 120 (((24 : Int32) * a1) + a2) fun x13 => if x13 = (-1000000005) then (some (((-1000000012) : Int32))) else some (x13)) else some (((-1000000012) : Int32))
set_option maxHeartbeats 4000000 in
set_option maxRecDepth 100000 in
theorem k_X10_item (l : Launch) (E : Amd) (D : va_G) (ca : Nat → ClassId) (h : Nat → Nat) (M : Mem) (a1 : Int32) (a2 : Int32) {r0 : Int32} (hf : f_X10_item M a1 a2 = some r0) : Ct l E D (tysOf ca) h (LaM ca h) yX10_item cX10_item 4 (some .int) 2 42 [.ref (h 0), .int a1, .int a2] M (some (.int r0)) M := by
  refine Ct.mk [some (.ref (h 0)), some (.int a1), some (.int a2), none] (by decide) (Nat.le_of_ble_eq_true rfl) (argsV [.ref (h 0), .int a1, .int a2] 1 rfl rfl) ?_
  intro x hx0 K hR
  have K : Kx x E D (tysOf ca) h (LaM ca h) RX10 cX10_item 4 2 42 := K
  rw [f_X10_item] at hf
  refine o_iload_n K 1 dX10_item_0 rfl rfl ?_
  obtain ⟨r1, er1, hf⟩ := bd_e hf
  refine o_callS K [.int a1] (k_X10_isSlot x.2.1 E D ca h M a1 er1) s_X10_277 rfl ⟨by decide, by decide⟩ (Nat.le_of_ble_eq_true rfl) _ rfl dX10_item_1 ?_
  show Go x D (tysOf ca) h (LaM ca h) 4 M 4 [some (.ref (h 0)), some (.int a1), some (.int a2), none] [.int r1]
  refine o_if_ne K 10 dX10_item_4 (by decide) (fun c2 => ?_) (fun c2 => ?_)
  · have hf := im c2 hf
    refine o_aload_n K 0 dX10_item_10 rfl rfl ?_
    refine gM_69 K dX10_item_11 ?_
    refine o_iload_n K 1 dX10_item_14 rfl rfl ?_
    obtain ⟨g4, x3, ex3, hf⟩ := rd_e hf
    refine lM_20 K g4 dX10_item_15 ?_
    refine o_nmi ex3 ?_
    refine o_if_ne K 22 dX10_item_16 (by decide) (fun c5 => ?_) (fun c5 => ?_)
    · have hf := im c5 hf
      refine o_aload_n K 0 dX10_item_22 rfl rfl ?_
      refine gM_69 K dX10_item_23 ?_
      refine o_iload_n K 1 dX10_item_26 rfl rfl ?_
      obtain ⟨g7, x6, ex6, hf⟩ := rd_e hf
      refine lM_20 K g7 dX10_item_27 ?_
      refine o_nmi ex6 ?_
      refine o_iconst K 2 dX10_item_28 (by decide) ?_
      refine o_icmp_eq K 35 dX10_item_29 (by decide) (fun c8 => ?_) (fun c8 => ?_)
      · have hf := ip c8 hf
        refine o_iload_n K 2 dX10_item_35 rfl rfl ?_
        refine o_iconst K 0 dX10_item_36 (by decide) ?_
        refine o_aload_n K 0 dX10_item_37 rfl rfl ?_
        refine gM_72 K dX10_item_38 ?_
        refine o_iload_n K 1 dX10_item_41 rfl rfl ?_
        obtain ⟨g10, x9, ex9, hf⟩ := rd_e hf
        refine lM_21 K g10 dX10_item_42 ?_
        refine o_nmi ex9 ?_
        refine o_iconst K 1 dX10_item_43 (by decide) ?_
        refine o_isub K dX10_item_44 ?_
        obtain ⟨r11, er11, hf⟩ := bd_e hf
        refine o_callS K [.int a2, .int 0, .int (x9 - 1)] (k_X10_in x.2.1 E D ca h M a2 (0 : Int32) (x9 - 1) er11) s_X10_87 rfl ⟨by decide, by decide⟩ (Nat.le_of_ble_eq_true rfl) _ rfl dX10_item_45 ?_
        show Go x D (tysOf ca) h (LaM ca h) 4 M 48 [some (.ref (h 0)), some (.int a1), some (.int a2), none] [.int r11]
        refine o_if_ne K 55 dX10_item_48 (by decide) (fun c12 => ?_) (fun c12 => ?_)
        · have hf := im c12 hf
          refine o_aload_n K 0 dX10_item_55 rfl rfl ?_
          refine gM_78 K dX10_item_56 ?_
          refine o_bipush K 24 dX10_item_59 (by decide) ?_
          refine o_iload_n K 1 dX10_item_61 rfl rfl ?_
          refine o_imul K dX10_item_62 ?_
          refine o_iload_n K 2 dX10_item_63 rfl rfl ?_
          refine o_iadd K dX10_item_64 ?_
          obtain ⟨g14, x13, ex13, hf⟩ := rd_e hf
          refine lM_23 K g14 dX10_item_65 ?_
          refine o_nmi ex13 ?_
          refine o_istore_n K 3 [some (.ref (h 0)), some (.int a1), some (.int a2), some (.int x13)] dX10_item_66 rfl (by decide) rfl rfl ?_
          refine o_iload_n K 3 dX10_item_67 rfl rfl ?_
          refine o_ldc K q1268 dX10_item_68 ?_
          refine o_icmp_ne K 78 dX10_item_70 (by decide) (fun c15 => ?_) (fun c15 => ?_)
          · have hf := im c15 hf
            refine o_iload_n K 3 dX10_item_78 rfl rfl ?_
            exact r_iret K hf hR dX10_item_79
          · have hf := ip c15 hf
            refine o_ldc K q1162 dX10_item_73 ?_
            refine o_goto K 79 dX10_item_75 (by decide) ?_
            exact r_iret K hf hR dX10_item_79
        · have hf := ip c12 hf
          refine o_ldcw K q1384 dX10_item_51 ?_
          exact r_iret K hf hR dX10_item_54
      · have hf := im c8 hf
        refine o_ldc K q1162 dX10_item_32 ?_
        exact r_iret K hf hR dX10_item_34
    · have hf := ip c5 hf
      refine o_ldc K q1303 dX10_item_19 ?_
      exact r_iret K hf hR dX10_item_21
  · have hf := ip c2 hf
    refine o_ldc K q1102 dX10_item_7 ?_
    exact r_iret K hf hR dX10_item_9
def f_X10_rest (M : Mem) (a1 : Int32) (a2 : Int32) : Option Int32 := bd (f_X10_isSlot a1) fun r1 => if r1 = 0 then (some (((-1000000001) : Int32))) else rd M 20 5 a1 fun x3 => if x3 = 0 then (some (((-1000000011) : Int32))) else rd M 20 5 a1 fun x6 => if x6 = 3 then (if a2 = 0 then (some (((-1000000002) : Int32))) else if a2 = (-1) then (some ((0 : Int32))) else rd M 21 5 a1 fun x11 => gd (decide (¬ a2 = (0 : Int32))) <| some (x11 - x11 / a2 * a2)) else some (((-1000000012) : Int32))
set_option maxHeartbeats 4000000 in
set_option maxRecDepth 100000 in
theorem k_X10_rest (l : Launch) (E : Amd) (D : va_G) (ca : Nat → ClassId) (h : Nat → Nat) (M : Mem) (a1 : Int32) (a2 : Int32) {r0 : Int32} (hf : f_X10_rest M a1 a2 = some r0) : Ct l E D (tysOf ca) h (LaM ca h) yX10_rest cX10_rest 3 (some .int) 2 42 [.ref (h 0), .int a1, .int a2] M (some (.int r0)) M := by
  refine Ct.mk [some (.ref (h 0)), some (.int a1), some (.int a2)] (by decide) (Nat.le_of_ble_eq_true rfl) (argsV [.ref (h 0), .int a1, .int a2] 0 rfl rfl) ?_
  intro x hx0 K hR
  have K : Kx x E D (tysOf ca) h (LaM ca h) RX10 cX10_rest 3 2 42 := K
  rw [f_X10_rest] at hf
  refine o_iload_n K 1 dX10_rest_0 rfl rfl ?_
  obtain ⟨r1, er1, hf⟩ := bd_e hf
  refine o_callS K [.int a1] (k_X10_isSlot x.2.1 E D ca h M a1 er1) s_X10_277 rfl ⟨by decide, by decide⟩ (Nat.le_of_ble_eq_true rfl) _ rfl dX10_rest_1 ?_
  show Go x D (tysOf ca) h (LaM ca h) 3 M 4 [some (.ref (h 0)), some (.int a1), some (.int a2)] [.int r1]
  refine o_if_ne K 10 dX10_rest_4 (by decide) (fun c2 => ?_) (fun c2 => ?_)
  · have hf := im c2 hf
    refine o_aload_n K 0 dX10_rest_10 rfl rfl ?_
    refine gM_69 K dX10_rest_11 ?_
    refine o_iload_n K 1 dX10_rest_14 rfl rfl ?_
    obtain ⟨g4, x3, ex3, hf⟩ := rd_e hf
    refine lM_20 K g4 dX10_rest_15 ?_
    refine o_nmi ex3 ?_
    refine o_if_ne K 22 dX10_rest_16 (by decide) (fun c5 => ?_) (fun c5 => ?_)
    · have hf := im c5 hf
      refine o_aload_n K 0 dX10_rest_22 rfl rfl ?_
      refine gM_69 K dX10_rest_23 ?_
      refine o_iload_n K 1 dX10_rest_26 rfl rfl ?_
      obtain ⟨g7, x6, ex6, hf⟩ := rd_e hf
      refine lM_20 K g7 dX10_rest_27 ?_
      refine o_nmi ex6 ?_
      refine o_iconst K 3 dX10_rest_28 (by decide) ?_
      refine o_icmp_eq K 35 dX10_rest_29 (by decide) (fun c8 => ?_) (fun c8 => ?_)
      · have hf := ip c8 hf
        refine o_iload_n K 2 dX10_rest_35 rfl rfl ?_
        refine o_if_ne K 45 dX10_rest_36 (by decide) (fun c9 => ?_) (fun c9 => ?_)
        · have hf := im c9 hf
          refine o_iload_n K 2 dX10_rest_45 rfl rfl ?_
          refine o_iconst K (-1) dX10_rest_46 (by decide) ?_
          refine o_icmp_ne K 54 dX10_rest_47 (by decide) (fun c10 => ?_) (fun c10 => ?_)
          · have hf := im c10 hf
            refine o_aload_n K 0 dX10_rest_54 rfl rfl ?_
            refine gM_72 K dX10_rest_55 ?_
            refine o_iload_n K 1 dX10_rest_58 rfl rfl ?_
            obtain ⟨g12, x11, ex11, hf⟩ := rd_e hf
            refine lM_21 K g12 dX10_rest_59 ?_
            refine o_nmi ex11 ?_
            refine o_iload_n K 2 dX10_rest_60 rfl rfl ?_
            obtain ⟨g13, hf⟩ := gd_e hf
            refine o_irem K dX10_rest_61 (of_decide_eq_true g13) ?_
            exact r_iret K hf hR dX10_rest_62
          · have hf := ip c10 hf
            refine o_iconst K 0 dX10_rest_50 (by decide) ?_
            refine o_goto K 62 dX10_rest_51 (by decide) ?_
            exact r_iret K hf hR dX10_rest_62
        · have hf := ip c9 hf
          refine o_ldcw K q1418 dX10_rest_39 ?_
          refine o_goto K 62 dX10_rest_42 (by decide) ?_
          exact r_iret K hf hR dX10_rest_62
      · have hf := im c8 hf
        refine o_ldc K q1162 dX10_rest_32 ?_
        exact r_iret K hf hR dX10_rest_34
    · have hf := ip c5 hf
      refine o_ldc K q1303 dX10_rest_19 ?_
      exact r_iret K hf hR dX10_rest_21
  · have hf := ip c2 hf
    refine o_ldc K q1102 dX10_rest_7 ?_
    exact r_iret K hf hR dX10_rest_9
