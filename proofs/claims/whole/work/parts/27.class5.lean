def f_X9_back (nl : Nat) (M : Mem) : Option (Int32 × Mem) := if (M 0 2) = 0 then (some (((-1000000002) : Int32), M)) else bd (f_X1_takeFrom nl 0 1 M) fun M3 => some (M3 (HB 0 + 1) 0, M3)
set_option maxHeartbeats 4000000 in
set_option maxRecDepth 100000 in
theorem k_X9_back (l : Launch) (E : Amd) (D : va_G) (ca : Nat → ClassId) (h : Nat → Nat) (nl : Nat) (M : Mem) {r0 : Int32} {Mo : Mem} (hf : f_X9_back nl M = some (r0, Mo)) : Ct l E D (tysOf ca) h (LaC ca h nl) yX9_back cX9_back 1 (some .int) 3 70 [.ref (h 0)] M (some (.int r0)) Mo := by
  refine Ct.mk [some (.ref (h 0))] (by decide) (Nat.le_of_ble_eq_true rfl) (argsV [.ref (h 0)] 0 rfl rfl) ?_
  intro x hx0 K hR
  have K : Kx x E D (tysOf ca) h (LaC ca h nl) RX9 cX9_back 1 3 70 := K
  rw [f_X9_back] at hf
  refine o_aload_n K 0 dX9_back_0 rfl rfl ?_
  refine gC_X9_327 K dX9_back_1 ?_
  refine o_if_ne K 11 dX9_back_4 (by decide) (fun c1 => ?_) (fun c1 => ?_)
  · have hf := im c1 hf
    refine o_aload_n K 0 dX9_back_11 rfl rfl ?_
    refine gC_X9_10 K dX9_back_12 ?_
    refine o_aload_n K 0 dX9_back_15 rfl rfl ?_
    refine gC_X9_16 K dX9_back_16 ?_
    obtain ⟨M3, er2, hf⟩ := bd_e hf
    refine o_callV K [.ref (h (HB 1))] (k_X1_takeFrom x.2.1 E D ca h nl M 0 1 hb_0 hb_1 er2) s_X9_335 (ltHall hb_0) (obHall_c (ca := ca) (h := h) hb_0 _) rfl rfl rfl ⟨by decide, by decide⟩ (Nat.le_of_ble_eq_true rfl) _ rfl dX9_back_19 ?_
    show Go x D (tysOf ca) h (LaC ca h nl) 1 M3 22 [some (.ref (h 0))] []
    refine o_aload_n K 0 dX9_back_22 rfl rfl ?_
    refine gC_X9_10 K dX9_back_23 ?_
    refine gC_X9_67 hb_0 K dX9_back_26 ?_
    refine gC_X9_71 hb_0 K dX9_back_29 ?_
    exact e_iret K hf hR dX9_back_32
  · have hf := ip c1 hf
    refine o_ldcw K q943 dX9_back_7 ?_
    exact e_iret K hf hR dX9_back_10
def f_X9_count (M : Mem) (a1 : Int32) : Option Int32 := if a1 = 0 then (some (M (HB 0 + 1) 0)) else if a1 = 1 then (bd (f_X0_openMany 0 M) fun r3 => some (r3)) else if a1 = 2 then (some (M (HB 0) 7)) else if a1 = 3 then (rd M (HB 0 + 11) 9 8 fun x6 => some (x6)) else if a1 = 4 then (bd (f_X1_litMany 0 M) fun r9 => some (r9)) else if a1 = 5 then (some (M (HB 0 + 6) 0)) else if a1 = 6 then (some (M 0 10)) else if a1 = 7 then (some (M 54 1)) else if a1 = 8 then (some (M (HB 0) 8)) else some (((-1000000001) : Int32))
set_option maxHeartbeats 4000000 in
set_option maxRecDepth 100000 in
theorem k_X9_count (l : Launch) (E : Amd) (D : va_G) (ca : Nat → ClassId) (h : Nat → Nat) (nl : Nat) (M : Mem) (a1 : Int32) {r0 : Int32} (hf : f_X9_count M a1 = some r0) : Ct l E D (tysOf ca) h (LaC ca h nl) yX9_count cX9_count 2 (some .int) 2 40 [.ref (h 0), .int a1] M (some (.int r0)) M := by
  refine Ct.mk [some (.ref (h 0)), some (.int a1)] (by decide) (Nat.le_of_ble_eq_true rfl) (argsV [.ref (h 0), .int a1] 0 rfl rfl) ?_
  intro x hx0 K hR
  have K : Kx x E D (tysOf ca) h (LaC ca h nl) RX9 cX9_count 2 2 40 := K
  rw [f_X9_count] at hf
  refine o_iload_n K 1 dX9_count_0 rfl rfl ?_
  by_cases c1 : a1 = 0
  · have hf := ip c1 hf
    refine o_table K 52 dX9_count_1 (by decide) (by rw [c1]; try decide) (by decide) ?_
    refine o_aload_n K 0 dX9_count_52 rfl rfl ?_
    refine gC_X9_10 K dX9_count_53 ?_
    refine gC_X9_67 hb_0 K dX9_count_56 ?_
    refine gC_X9_71 hb_0 K dX9_count_59 ?_
    exact r_iret K hf hR dX9_count_62
  have hf := im c1 hf
  by_cases c2 : a1 = 1
  · have hf := ip c2 hf
    refine o_table K 63 dX9_count_1 (by decide) (by rw [c2]; try decide) (by decide) ?_
    refine o_aload_n K 0 dX9_count_63 rfl rfl ?_
    refine gC_X9_10 K dX9_count_64 ?_
    refine gC_X9_67 hb_0 K dX9_count_67 ?_
    obtain ⟨r3, er3, hf⟩ := bd_e hf
    refine o_callV K [] (k_X0_openMany x.2.1 E D ca h nl M 0 hb_0 er3) s_X9_160 (ltDoors hb_0) (obDoors_c (ca := ca) (h := h) hb_0 _) rfl rfl rfl ⟨by decide, by decide⟩ (Nat.le_of_ble_eq_true rfl) _ rfl dX9_count_70 ?_
    show Go x D (tysOf ca) h (LaC ca h nl) 2 M 73 [some (.ref (h 0)), some (.int a1)] [.int r3]
    exact r_iret K hf hR dX9_count_73
  have hf := im c2 hf
  by_cases c4 : a1 = 2
  · have hf := ip c4 hf
    refine o_table K 74 dX9_count_1 (by decide) (by rw [c4]; try decide) (by decide) ?_
    refine o_aload_n K 0 dX9_count_74 rfl rfl ?_
    refine gC_X9_10 K dX9_count_75 ?_
    refine gC_X9_229 hb_0 K dX9_count_78 ?_
    exact r_iret K hf hR dX9_count_81
  have hf := im c4 hf
  by_cases c5 : a1 = 3
  · have hf := ip c5 hf
    refine o_table K 82 dX9_count_1 (by decide) (by rw [c5]; try decide) (by decide) ?_
    refine o_aload_n K 0 dX9_count_82 rfl rfl ?_
    refine gC_X9_10 K dX9_count_83 ?_
    refine gC_X9_118 hb_0 K dX9_count_86 ?_
    refine o_bipush K 8 dX9_count_89 (by decide) ?_
    obtain ⟨g7, x6, ex6, hf⟩ := rd_e hf
    refine lCh hb_0 11 9 (by decide) (fun _ => rfl) K g7 dX9_count_91 ?_
    refine o_nmi ex6 ?_
    exact r_iret K hf hR dX9_count_92
  have hf := im c5 hf
  by_cases c8 : a1 = 4
  · have hf := ip c8 hf
    refine o_table K 93 dX9_count_1 (by decide) (by rw [c8]; try decide) (by decide) ?_
    refine o_aload_n K 0 dX9_count_93 rfl rfl ?_
    refine gC_X9_10 K dX9_count_94 ?_
    obtain ⟨r9, er9, hf⟩ := bd_e hf
    refine o_callV K [] (k_X1_litMany x.2.1 E D ca h nl M 0 hb_0 er9) s_X9_150 (ltHall hb_0) (obHall_c (ca := ca) (h := h) hb_0 _) rfl rfl rfl ⟨by decide, by decide⟩ (Nat.le_of_ble_eq_true rfl) _ rfl dX9_count_97 ?_
    show Go x D (tysOf ca) h (LaC ca h nl) 2 M 100 [some (.ref (h 0)), some (.int a1)] [.int r9]
    exact r_iret K hf hR dX9_count_100
  have hf := im c8 hf
  by_cases c10 : a1 = 5
  · have hf := ip c10 hf
    refine o_table K 101 dX9_count_1 (by decide) (by rw [c10]; try decide) (by decide) ?_
    refine o_aload_n K 0 dX9_count_101 rfl rfl ?_
    refine gC_X9_10 K dX9_count_102 ?_
    refine gC_X9_223 hb_0 K dX9_count_105 ?_
    refine gC_X9_244 hb_0 K dX9_count_108 ?_
    exact r_iret K hf hR dX9_count_111
  have hf := im c10 hf
  by_cases c11 : a1 = 6
  · have hf := ip c11 hf
    refine o_table K 112 dX9_count_1 (by decide) (by rw [c11]; try decide) (by decide) ?_
    refine o_aload_n K 0 dX9_count_112 rfl rfl ?_
    refine gC_X9_324 K dX9_count_113 ?_
    exact r_iret K hf hR dX9_count_116
  have hf := im c11 hf
  by_cases c12 : a1 = 7
  · have hf := ip c12 hf
    refine o_table K 117 dX9_count_1 (by decide) (by rw [c12]; try decide) (by decide) ?_
    refine o_aload_n K 0 dX9_count_117 rfl rfl ?_
    refine gC_X9_29 K dX9_count_118 ?_
    refine gC_X9_235 K dX9_count_121 ?_
    exact r_iret K hf hR dX9_count_124
  have hf := im c12 hf
  by_cases c13 : a1 = 8
  · have hf := ip c13 hf
    refine o_table K 125 dX9_count_1 (by decide) (by rw [c13]; try decide) (by decide) ?_
    refine o_aload_n K 0 dX9_count_125 rfl rfl ?_
    refine gC_X9_10 K dX9_count_126 ?_
    refine gC_X9_147 hb_0 K dX9_count_129 ?_
    exact r_iret K hf hR dX9_count_132
  have hf := im c13 hf
  refine o_table K 133 dX9_count_1 (by decide) (tsel_d [0, 1, 2, 3, 4, 5, 6, 7, 8] (List.forall_mem_cons.mpr ⟨lv_neT c1 rfl, (List.forall_mem_cons.mpr ⟨lv_neT c2 rfl, (List.forall_mem_cons.mpr ⟨lv_neT c4 rfl, (List.forall_mem_cons.mpr ⟨lv_neT c5 rfl, (List.forall_mem_cons.mpr ⟨lv_neT c8 rfl, (List.forall_mem_cons.mpr ⟨lv_neT c10 rfl, (List.forall_mem_cons.mpr ⟨lv_neT c11 rfl, (List.forall_mem_cons.mpr ⟨lv_neT c12 rfl, (List.forall_mem_cons.mpr ⟨lv_neT c13 rfl, (List.forall_mem_nil _)⟩)⟩)⟩)⟩)⟩)⟩)⟩)⟩)⟩) (by decide)) (by decide) ?_
  refine o_ldc K q330 dX9_count_133 ?_
  exact r_iret K hf hR dX9_count_135
def f_X4_readLevel_l37 (recL : Mem → Int32 → Int32 → Int32 → Option Mem) (recP : Mem → Int32 → Int32 → Option Mem) : Nat → Int32 → Int32 → Int32 → Int32 → Int32 → Mem → Option Mem
  | 0, _, _, _, _, _, _ => none
  | n + 1, a0, a1, a2, a3, a4, M => if a3 ≤ a4 then (some M) else if (M 54 9) = (-1000000005) then (bd (f_X4_signsOf a0) fun r9 => gd (decide (r9 < 17)) <| bd (f_X4_isSignOf r9 M) fun r11 => if r11 = 0 then (some M) else rd M 53 96 (M 54 2) fun x13 => bd (f_X4_step M) fun M16 => bd (recL M16 (a0 + 1) a1 a2) fun M18 => bd (f_X4_put M18 (-x13)) fun M20 => nm (a4 + 1 : Int32) fun x21 => f_X4_readLevel_l37 recL recP n a0 a1 a2 a3 x21 M20) else some M
set_option maxHeartbeats 4000000 in
set_option maxRecDepth 100000 in
theorem t_X4_readLevel_l37 {x : En} {E : Amd} {D : va_G} {ca : Nat → ClassId} {h : Nat → Nat} {nl : Nat} {recL : Mem → Int32 → Int32 → Int32 → Option Mem} {recP : Mem → Int32 → Int32 → Option Mem} {d : Nat} (K : Kx x E D (tysOf ca) h (LaC ca h nl) RX4 cX4_readLevel 7 (6 + (d + 1)) (134 + 26 * (d + 1))) {Mo : Mem} (hR : Rt x D h (LaC ca h nl) none none Mo) (hL : ∀ (M Mo : Mem) (u1 u2 u3 : Int32), recL M u1 u2 u3 = some Mo → Ct x.2.1 E D (tysOf ca) h (LaC ca h nl) yX4_readLevel cX4_readLevel 7 none (6 + d) (134 + 26 * d) [.ref (h 54), .int u1, .int u2, .int u3] M none Mo) (hP : ∀ (M Mo : Mem) (u1 u2 : Int32), recP M u1 u2 = some Mo → Ct x.2.1 E D (tysOf ca) h (LaC ca h nl) yX4_readPiece cX4_readPiece 3 none (6 + d) (134 + 26 * d) [.ref (h 54), .int u1, .int u2] M none Mo) : ∀ (n : Nat) (a0 : Int32) (a1 : Int32) (a2 : Int32) (a3 : Int32) (a4 : Int32) (M : Mem), f_X4_readLevel_l37 recL recP n a0 a1 a2 a3 a4 M = some Mo → Go x D (tysOf ca) h (LaC ca h nl) 7 M 37 [some (.ref (h 54)), some (.int a0), some (.int a1), some (.int a2), some (.int a3), some (.int a4), none] [] := by
  intro n
  induction n with
  | zero =>
    intro a0 a1 a2 a3 a4 M hf
    cases hf
  | succ n ih =>
    intro a0 a1 a2 a3 a4 M hf
    rw [f_X4_readLevel_l37] at hf
    refine o_iload K 5 dX4_readLevel_37 rfl ?_
    refine o_iload K 4 dX4_readLevel_39 rfl ?_
    refine o_icmp_ge K 101 dX4_readLevel_41 (by decide) (fun c7 => ?_) (fun c7 => ?_)
    · have hf := ip c7 hf
      exact e_vret K hf hR dX4_readLevel_101
    · have hf := im c7 hf
      refine o_aload_n K 0 dX4_readLevel_44 rfl rfl ?_
      refine gC_X4_36 K dX4_readLevel_45 ?_
      refine o_ldc K q654 dX4_readLevel_48 ?_
      refine o_icmp_ne K 101 dX4_readLevel_50 (by decide) (fun c8 => ?_) (fun c8 => ?_)
      · have hf := im c8 hf
        exact e_vret K hf hR dX4_readLevel_101
      · have hf := ip c8 hf
        refine o_aload_n K 0 dX4_readLevel_53 rfl rfl ?_
        refine o_iload_n K 1 dX4_readLevel_54 rfl rfl ?_
        obtain ⟨r9, er9, hf⟩ := bd_e hf
        obtain ⟨g10, hf⟩ := gd_e hf
        refine o_callS K [.int a0] (k_X4_signsOf x.2.1 E D ca h nl M a0 er9) s_X4_92 rfl ⟨by omega, by omega⟩ (Nat.le_of_ble_eq_true rfl) _ rfl dX4_readLevel_55 ?_
        show Go x D (tysOf ca) h (LaC ca h nl) 7 M 58 [some (.ref (h 54)), some (.int a0), some (.int a1), some (.int a2), some (.int a3), some (.int a4), none] [.ref (E.1 r9), .ref (h 54)]
        obtain ⟨r11, er11, hf⟩ := bd_e hf
        refine o_callV K [.ref (E.1 r9)] (k_X4_isSignOf x.2.1 E D ca h nl M r9 (of_decide_eq_true g10) er11) s_X4_96 (ltReader) (obReader_c (ca := ca) (h := h) _) rfl rfl rfl ⟨by omega, by omega⟩ (Nat.le_of_ble_eq_true rfl) _ rfl dX4_readLevel_58 ?_
        show Go x D (tysOf ca) h (LaC ca h nl) 7 M 61 [some (.ref (h 54)), some (.int a0), some (.int a1), some (.int a2), some (.int a3), some (.int a4), none] [.int r11]
        refine o_if_eq K 101 dX4_readLevel_61 (by decide) (fun c12 => ?_) (fun c12 => ?_)
        · have hf := ip c12 hf
          exact e_vret K hf hR dX4_readLevel_101
        · have hf := im c12 hf
          refine o_aload_n K 0 dX4_readLevel_64 rfl rfl ?_
          refine gC_X4_9 K dX4_readLevel_65 ?_
          refine o_aload_n K 0 dX4_readLevel_68 rfl rfl ?_
          refine gC_X4_49 K dX4_readLevel_69 ?_
          obtain ⟨g14, x13, ex13, hf⟩ := rd_e hf
          refine lCb K g14 dX4_readLevel_72 ?_
          refine o_nmi ex13 ?_
          refine o_istore K 6 [some (.ref (h 54)), some (.int a0), some (.int a1), some (.int a2), some (.int a3), some (.int a4), some (.int x13)] dX4_readLevel_73 (by decide) rfl rfl ?_
          refine o_aload_n K 0 dX4_readLevel_75 rfl rfl ?_
          obtain ⟨M16, er15, hf⟩ := bd_e hf
          refine o_callV K [] (k_X4_step x.2.1 E D ca h nl M er15) s_X4_39 (ltReader) (obReader_c (ca := ca) (h := h) _) rfl rfl rfl ⟨by omega, by omega⟩ (Nat.le_of_ble_eq_true rfl) _ rfl dX4_readLevel_76 ?_
          show Go x D (tysOf ca) h (LaC ca h nl) 7 M16 79 [some (.ref (h 54)), some (.int a0), some (.int a1), some (.int a2), some (.int a3), some (.int a4), some (.int x13)] []
          refine o_aload_n K 0 dX4_readLevel_79 rfl rfl ?_
          refine o_iload_n K 1 dX4_readLevel_80 rfl rfl ?_
          refine o_iconst K 1 dX4_readLevel_81 (by decide) ?_
          refine o_iadd K dX4_readLevel_82 ?_
          refine o_iload_n K 2 dX4_readLevel_83 rfl rfl ?_
          refine o_iload_n K 3 dX4_readLevel_84 rfl rfl ?_
          obtain ⟨M18, er17, hf⟩ := bd_e hf
          refine o_callV K [.int (a0 + 1), .int a1, .int a2] (hL M16 M18 (a0 + 1) a1 a2 er17) s_X4_45 (ltReader) (obReader_c (ca := ca) (h := h) _) rfl rfl rfl ⟨by omega, by omega⟩ (Nat.le_of_ble_eq_true rfl) _ rfl dX4_readLevel_85 ?_
          show Go x D (tysOf ca) h (LaC ca h nl) 7 M18 88 [some (.ref (h 54)), some (.int a0), some (.int a1), some (.int a2), some (.int a3), some (.int a4), some (.int x13)] []
          refine o_aload_n K 0 dX4_readLevel_88 rfl rfl ?_
          refine o_iload K 6 dX4_readLevel_89 rfl ?_
          refine o_ineg K dX4_readLevel_91 ?_
          obtain ⟨M20, er19, hf⟩ := bd_e hf
          refine o_callV K [.int (-x13)] (k_X4_put x.2.1 E D ca h nl M18 (-x13) er19) s_X4_99 (ltReader) (obReader_c (ca := ca) (h := h) _) rfl rfl rfl ⟨by omega, by omega⟩ (Nat.le_of_ble_eq_true rfl) _ rfl dX4_readLevel_92 ?_
          show Go x D (tysOf ca) h (LaC ca h nl) 7 M20 95 [some (.ref (h 54)), some (.int a0), some (.int a1), some (.int a2), some (.int a3), some (.int a4), some (.int x13)] []
          obtain ⟨x21, ex21, hf⟩ := nm_o hf
          refine o_iinc K 5 x21 [some (.ref (h 54)), some (.int a0), some (.int a1), some (.int a2), some (.int a3), some (.int x21), some (.int x13)] dX4_readLevel_95 rfl (inc_e (by decide) ex21) (by decide) rfl rfl ?_
          refine o_goto K 37 dX4_readLevel_98 (by decide) ?_
          refine o_drop [true, true, true, true, true, true, false] (V2 := [some (.ref (h 54)), some (.int a0), some (.int a1), some (.int a2), some (.int a3), some (.int x21), none]) rfl ?_
          exact ih a0 a1 a2 a3 x21 M20 hf
def f_X4_readLevel_j32 (recL : Mem → Int32 → Int32 → Int32 → Option Mem) (recP : Mem → Int32 → Int32 → Option Mem) (a0 : Int32) (a1 : Int32) (a2 : Int32) (a3 : Int32) (M : Mem) : Option Mem := f_X4_readLevel_l37 recL recP FU a0 a1 a2 a3 (0 : Int32) M
set_option maxHeartbeats 4000000 in
set_option maxRecDepth 100000 in
theorem t_X4_readLevel_j32 {x : En} {E : Amd} {D : va_G} {ca : Nat → ClassId} {h : Nat → Nat} {nl : Nat} {recL : Mem → Int32 → Int32 → Int32 → Option Mem} {recP : Mem → Int32 → Int32 → Option Mem} {d : Nat} (K : Kx x E D (tysOf ca) h (LaC ca h nl) RX4 cX4_readLevel 7 (6 + (d + 1)) (134 + 26 * (d + 1))) {Mo : Mem} (hR : Rt x D h (LaC ca h nl) none none Mo) (hL : ∀ (M Mo : Mem) (u1 u2 u3 : Int32), recL M u1 u2 u3 = some Mo → Ct x.2.1 E D (tysOf ca) h (LaC ca h nl) yX4_readLevel cX4_readLevel 7 none (6 + d) (134 + 26 * d) [.ref (h 54), .int u1, .int u2, .int u3] M none Mo) (hP : ∀ (M Mo : Mem) (u1 u2 : Int32), recP M u1 u2 = some Mo → Ct x.2.1 E D (tysOf ca) h (LaC ca h nl) yX4_readPiece cX4_readPiece 3 none (6 + d) (134 + 26 * d) [.ref (h 54), .int u1, .int u2] M none Mo) (a0 : Int32) (a1 : Int32) (a2 : Int32) (a3 : Int32) (M : Mem) (hf : f_X4_readLevel_j32 recL recP a0 a1 a2 a3 M = some Mo) : Go x D (tysOf ca) h (LaC ca h nl) 7 M 32 [some (.ref (h 54)), some (.int a0), some (.int a1), some (.int a2), none, none, none] [.int a3] := by
  rw [f_X4_readLevel_j32] at hf
  refine o_istore K 4 [some (.ref (h 54)), some (.int a0), some (.int a1), some (.int a2), some (.int a3), none, none] dX4_readLevel_32 (by decide) rfl rfl ?_
  refine o_iconst K 0 dX4_readLevel_34 (by decide) ?_
  refine o_istore K 5 [some (.ref (h 54)), some (.int a0), some (.int a1), some (.int a2), some (.int a3), some (.int 0), none] dX4_readLevel_35 (by decide) rfl rfl ?_
  exact t_X4_readLevel_l37 K hR hL hP FU a0 a1 a2 a3 (0 : Int32) M hf
def f_X4_readLevel (recL : Mem → Int32 → Int32 → Int32 → Option Mem) (recP : Mem → Int32 → Int32 → Option Mem) (M : Mem) (a1 : Int32) (a2 : Int32) (a3 : Int32) : Option Mem := if a1 ≤ 4 then (bd (recL M (a1 + 1) a2 a3) fun M3 => if a1 = 2 then (f_X4_readLevel_j32 recL recP a1 a2 a3 (1 : Int32) M3) else f_X4_readLevel_j32 recL recP a1 a2 a3 (96 : Int32) M3) else bd (recP M a2 a3) fun M6 => some M6
set_option maxHeartbeats 4000000 in
set_option maxRecDepth 100000 in
theorem k_X4_readLevel (l : Launch) (E : Amd) (D : va_G) (ca : Nat → ClassId) (h : Nat → Nat) (nl : Nat) (M : Mem) {recL : Mem → Int32 → Int32 → Int32 → Option Mem} {recP : Mem → Int32 → Int32 → Option Mem} {d : Nat} (a1 : Int32) (a2 : Int32) (a3 : Int32) {Mo : Mem} (hL : ∀ (M Mo : Mem) (u1 u2 u3 : Int32), recL M u1 u2 u3 = some Mo → Ct l E D (tysOf ca) h (LaC ca h nl) yX4_readLevel cX4_readLevel 7 none (6 + d) (134 + 26 * d) [.ref (h 54), .int u1, .int u2, .int u3] M none Mo) (hP : ∀ (M Mo : Mem) (u1 u2 : Int32), recP M u1 u2 = some Mo → Ct l E D (tysOf ca) h (LaC ca h nl) yX4_readPiece cX4_readPiece 3 none (6 + d) (134 + 26 * d) [.ref (h 54), .int u1, .int u2] M none Mo) (hf : f_X4_readLevel recL recP M a1 a2 a3 = some Mo) : Ct l E D (tysOf ca) h (LaC ca h nl) yX4_readLevel cX4_readLevel 7 none (6 + (d + 1)) (134 + 26 * (d + 1)) [.ref (h 54), .int a1, .int a2, .int a3] M none Mo := by
  refine Ct.mk [some (.ref (h 54)), some (.int a1), some (.int a2), some (.int a3), none, none, none] (by decide) (Nat.le_of_ble_eq_true rfl) (argsV [.ref (h 54), .int a1, .int a2, .int a3] 3 rfl rfl) ?_
  intro x hx0 K hR
  subst hx0
  have K : Kx x E D (tysOf ca) h (LaC ca h nl) RX4 cX4_readLevel 7 (6 + (d + 1)) (134 + 26 * (d + 1)) := K
  rw [f_X4_readLevel] at hf
  refine o_iload_n K 1 dX4_readLevel_0 rfl rfl ?_
  refine o_iconst K 4 dX4_readLevel_1 (by decide) ?_
  refine o_icmp_le K 12 dX4_readLevel_2 (by decide) (fun c1 => ?_) (fun c1 => ?_)
  · have hf := ip c1 hf
    refine o_aload_n K 0 dX4_readLevel_12 rfl rfl ?_
    refine o_iload_n K 1 dX4_readLevel_13 rfl rfl ?_
    refine o_iconst K 1 dX4_readLevel_14 (by decide) ?_
    refine o_iadd K dX4_readLevel_15 ?_
    refine o_iload_n K 2 dX4_readLevel_16 rfl rfl ?_
    refine o_iload_n K 3 dX4_readLevel_17 rfl rfl ?_
    obtain ⟨M3, er2, hf⟩ := bd_e hf
    refine o_callV K [.int (a1 + 1), .int a2, .int a3] (hL M M3 (a1 + 1) a2 a3 er2) s_X4_45 (ltReader) (obReader_c (ca := ca) (h := h) _) rfl rfl rfl ⟨by omega, by omega⟩ (Nat.le_of_ble_eq_true rfl) _ rfl dX4_readLevel_18 ?_
    show Go x D (tysOf ca) h (LaC ca h nl) 7 M3 21 [some (.ref (h 54)), some (.int a1), some (.int a2), some (.int a3), none, none, none] []
    refine o_iload_n K 1 dX4_readLevel_21 rfl rfl ?_
    refine o_iconst K 2 dX4_readLevel_22 (by decide) ?_
    refine o_icmp_ne K 30 dX4_readLevel_23 (by decide) (fun c4 => ?_) (fun c4 => ?_)
    · have hf := im c4 hf
      refine o_bipush K 96 dX4_readLevel_30 (by decide) ?_
      exact t_X4_readLevel_j32 K hR hL hP a1 a2 a3 (96 : Int32) M3 hf
    · have hf := ip c4 hf
      refine o_iconst K 1 dX4_readLevel_26 (by decide) ?_
      refine o_goto K 32 dX4_readLevel_27 (by decide) ?_
      exact t_X4_readLevel_j32 K hR hL hP a1 a2 a3 (1 : Int32) M3 hf
  · have hf := im c1 hf
    refine o_aload_n K 0 dX4_readLevel_5 rfl rfl ?_
    refine o_iload_n K 2 dX4_readLevel_6 rfl rfl ?_
    refine o_iload_n K 3 dX4_readLevel_7 rfl rfl ?_
    obtain ⟨M6, er5, hf⟩ := bd_e hf
    refine o_callV K [.int a2, .int a3] (hP M M6 a2 a3 er5) s_X4_88 (ltReader) (obReader_c (ca := ca) (h := h) _) rfl rfl rfl ⟨by omega, by omega⟩ (Nat.le_of_ble_eq_true rfl) _ rfl dX4_readLevel_8 ?_
    show Go x D (tysOf ca) h (LaC ca h nl) 7 M6 11 [some (.ref (h 54)), some (.int a1), some (.int a2), some (.int a3), none, none, none] []
    exact e_vret K hf hR dX4_readLevel_11
def f_X4_readPiece_j107 (recL : Mem → Int32 → Int32 → Int32 → Option Mem) (recP : Mem → Int32 → Int32 → Option Mem) (a0 : Int32) (a1 : Int32) (M : Mem) : Option Mem := bd (f_X4_isSignOf 10 M) fun r27 => if r27 = 0 then (nm (sto M 54 9 (M 54 2)) fun M29 => some M29) else if 8 ≤ a0 then (nm (sto M 54 9 (M 54 2)) fun M31 => some M31) else bd (f_X4_step M) fun M33 => bd (recL M33 (0 : Int32) (a0 + 1) a1) fun M35 => bd (f_X4_closeBracket M35) fun M37 => some M37
set_option maxHeartbeats 4000000 in
set_option maxRecDepth 100000 in
theorem t_X4_readPiece_j107 {x : En} {E : Amd} {D : va_G} {ca : Nat → ClassId} {h : Nat → Nat} {nl : Nat} {recL : Mem → Int32 → Int32 → Int32 → Option Mem} {recP : Mem → Int32 → Int32 → Option Mem} {d : Nat} (K : Kx x E D (tysOf ca) h (LaC ca h nl) RX4 cX4_readPiece 3 (6 + (d + 1)) (134 + 26 * (d + 1))) {Mo : Mem} (hR : Rt x D h (LaC ca h nl) none none Mo) (hL : ∀ (M Mo : Mem) (u1 u2 u3 : Int32), recL M u1 u2 u3 = some Mo → Ct x.2.1 E D (tysOf ca) h (LaC ca h nl) yX4_readLevel cX4_readLevel 7 none (6 + d) (134 + 26 * d) [.ref (h 54), .int u1, .int u2, .int u3] M none Mo) (hP : ∀ (M Mo : Mem) (u1 u2 : Int32), recP M u1 u2 = some Mo → Ct x.2.1 E D (tysOf ca) h (LaC ca h nl) yX4_readPiece cX4_readPiece 3 none (6 + d) (134 + 26 * d) [.ref (h 54), .int u1, .int u2] M none Mo) (a0 : Int32) (a1 : Int32) (M : Mem) (hf : f_X4_readPiece_j107 recL recP a0 a1 M = some Mo) : Go x D (tysOf ca) h (LaC ca h nl) 3 M 107 [some (.ref (h 54)), some (.int a0), some (.int a1)] [] := by
  rw [f_X4_readPiece_j107] at hf
  refine o_aload_n K 0 dX4_readPiece_107 rfl rfl ?_
  refine o_ldcS K 10 rfl dX4_readPiece_108 ?_
  obtain ⟨r27, er27, hf⟩ := bd_e hf
  refine o_callV K [.ref (E.1 10)] (k_X4_isSignOf x.2.1 E D ca h nl M 10 (by decide) er27) s_X4_96 (ltReader) (obReader_c (ca := ca) (h := h) _) rfl rfl rfl ⟨by omega, by omega⟩ (Nat.le_of_ble_eq_true rfl) _ rfl dX4_readPiece_110 ?_
  show Go x D (tysOf ca) h (LaC ca h nl) 3 M 113 [some (.ref (h 54)), some (.int a0), some (.int a1)] [.int r27]
  refine o_if_eq K 142 dX4_readPiece_113 (by decide) (fun c28 => ?_) (fun c28 => ?_)
  · have hf := ip c28 hf
    refine o_aload_n K 0 dX4_readPiece_142 rfl rfl ?_
    refine o_aload_n K 0 dX4_readPiece_143 rfl rfl ?_
    refine gC_X4_49 K dX4_readPiece_144 ?_
    obtain ⟨M29, eM29, hf⟩ := nm_o hf
    refine pC_X4_36 K dX4_readPiece_147 ?_
    refine o_nmM eM29 ?_
    exact e_vret K hf hR dX4_readPiece_150
  · have hf := im c28 hf
    refine o_iload_n K 1 dX4_readPiece_116 rfl rfl ?_
    refine o_bipush K 8 dX4_readPiece_117 (by decide) ?_
    refine o_icmp_ge K 142 dX4_readPiece_119 (by decide) (fun c30 => ?_) (fun c30 => ?_)
    · have hf := ip c30 hf
      refine o_aload_n K 0 dX4_readPiece_142 rfl rfl ?_
      refine o_aload_n K 0 dX4_readPiece_143 rfl rfl ?_
      refine gC_X4_49 K dX4_readPiece_144 ?_
      obtain ⟨M31, eM31, hf⟩ := nm_o hf
      refine pC_X4_36 K dX4_readPiece_147 ?_
      refine o_nmM eM31 ?_
      exact e_vret K hf hR dX4_readPiece_150
    · have hf := im c30 hf
      refine o_aload_n K 0 dX4_readPiece_122 rfl rfl ?_
      obtain ⟨M33, er32, hf⟩ := bd_e hf
      refine o_callV K [] (k_X4_step x.2.1 E D ca h nl M er32) s_X4_39 (ltReader) (obReader_c (ca := ca) (h := h) _) rfl rfl rfl ⟨by omega, by omega⟩ (Nat.le_of_ble_eq_true rfl) _ rfl dX4_readPiece_123 ?_
      show Go x D (tysOf ca) h (LaC ca h nl) 3 M33 126 [some (.ref (h 54)), some (.int a0), some (.int a1)] []
      refine o_aload_n K 0 dX4_readPiece_126 rfl rfl ?_
      refine o_iconst K 0 dX4_readPiece_127 (by decide) ?_
      refine o_iload_n K 1 dX4_readPiece_128 rfl rfl ?_
      refine o_iconst K 1 dX4_readPiece_129 (by decide) ?_
      refine o_iadd K dX4_readPiece_130 ?_
      refine o_iload_n K 2 dX4_readPiece_131 rfl rfl ?_
      obtain ⟨M35, er34, hf⟩ := bd_e hf
      refine o_callV K [.int 0, .int (a0 + 1), .int a1] (hL M33 M35 (0 : Int32) (a0 + 1) a1 er34) s_X4_45 (ltReader) (obReader_c (ca := ca) (h := h) _) rfl rfl rfl ⟨by omega, by omega⟩ (Nat.le_of_ble_eq_true rfl) _ rfl dX4_readPiece_132 ?_
      show Go x D (tysOf ca) h (LaC ca h nl) 3 M35 135 [some (.ref (h 54)), some (.int a0), some (.int a1)] []
      refine o_aload_n K 0 dX4_readPiece_135 rfl rfl ?_
      obtain ⟨M37, er36, hf⟩ := bd_e hf
      refine o_callV K [] (k_X4_closeBracket x.2.1 E D ca h nl M35 er36) s_X4_121 (ltReader) (obReader_c (ca := ca) (h := h) _) rfl rfl rfl ⟨by omega, by omega⟩ (Nat.le_of_ble_eq_true rfl) _ rfl dX4_readPiece_136 ?_
      show Go x D (tysOf ca) h (LaC ca h nl) 3 M37 139 [some (.ref (h 54)), some (.int a0), some (.int a1)] []
      refine o_goto K 150 dX4_readPiece_139 (by decide) ?_
      exact e_vret K hf hR dX4_readPiece_150
def f_X4_readPiece_j32 (recL : Mem → Int32 → Int32 → Int32 → Option Mem) (recP : Mem → Int32 → Int32 → Option Mem) (a0 : Int32) (a1 : Int32) (M : Mem) : Option Mem := bd (f_X4_firstName M) fun r6 => gd (decide (r6 < 17)) <| bd (f_X4_isWord r6 M) fun r8 => if r8 = 0 then (bd (f_X4_secondName M) fun r10 => gd (decide (r10 < 17)) <| bd (f_X4_isWord r10 M) fun r12 => if r12 = 0 then (bd (f_X4_isSignOf 9 M) fun r14 => if r14 = 0 then (f_X4_readPiece_j107 recL recP a0 a1 M) else if 8 ≤ a1 then (f_X4_readPiece_j107 recL recP a0 a1 M) else bd (f_X4_step M) fun M18 => bd (recP M18 a0 (a1 + 1)) fun M20 => bd (f_X4_put M20 ((-33) : Int32)) fun M22 => some M22) else bd (f_X4_putLeaf M ((-2) : Int32)) fun M24 => some M24) else bd (f_X4_putLeaf M ((-1) : Int32)) fun M26 => some M26
set_option maxHeartbeats 4000000 in
set_option maxRecDepth 100000 in
theorem t_X4_readPiece_j32 {x : En} {E : Amd} {D : va_G} {ca : Nat → ClassId} {h : Nat → Nat} {nl : Nat} {recL : Mem → Int32 → Int32 → Int32 → Option Mem} {recP : Mem → Int32 → Int32 → Option Mem} {d : Nat} (K : Kx x E D (tysOf ca) h (LaC ca h nl) RX4 cX4_readPiece 3 (6 + (d + 1)) (134 + 26 * (d + 1))) {Mo : Mem} (hR : Rt x D h (LaC ca h nl) none none Mo) (hL : ∀ (M Mo : Mem) (u1 u2 u3 : Int32), recL M u1 u2 u3 = some Mo → Ct x.2.1 E D (tysOf ca) h (LaC ca h nl) yX4_readLevel cX4_readLevel 7 none (6 + d) (134 + 26 * d) [.ref (h 54), .int u1, .int u2, .int u3] M none Mo) (hP : ∀ (M Mo : Mem) (u1 u2 : Int32), recP M u1 u2 = some Mo → Ct x.2.1 E D (tysOf ca) h (LaC ca h nl) yX4_readPiece cX4_readPiece 3 none (6 + d) (134 + 26 * d) [.ref (h 54), .int u1, .int u2] M none Mo) (a0 : Int32) (a1 : Int32) (M : Mem) (hf : f_X4_readPiece_j32 recL recP a0 a1 M = some Mo) : Go x D (tysOf ca) h (LaC ca h nl) 3 M 32 [some (.ref (h 54)), some (.int a0), some (.int a1)] [] := by
  rw [f_X4_readPiece_j32] at hf
  refine o_aload_n K 0 dX4_readPiece_32 rfl rfl ?_
  refine o_aload_n K 0 dX4_readPiece_33 rfl rfl ?_
  obtain ⟨r6, er6, hf⟩ := bd_e hf
  obtain ⟨g7, hf⟩ := gd_e hf
  refine o_callV K [] (k_X4_firstName x.2.1 E D ca h nl M er6) s_X4_110 (ltReader) (obReader_c (ca := ca) (h := h) _) rfl rfl rfl ⟨by omega, by omega⟩ (Nat.le_of_ble_eq_true rfl) _ rfl dX4_readPiece_34 ?_
  show Go x D (tysOf ca) h (LaC ca h nl) 3 M 37 [some (.ref (h 54)), some (.int a0), some (.int a1)] [.ref (E.1 r6), .ref (h 54)]
  obtain ⟨r8, er8, hf⟩ := bd_e hf
  refine o_callV K [.ref (E.1 r6)] (k_X4_isWord x.2.1 E D ca h nl M r6 (of_decide_eq_true g7) er8) s_X4_68 (ltReader) (obReader_c (ca := ca) (h := h) _) rfl rfl rfl ⟨by omega, by omega⟩ (Nat.le_of_ble_eq_true rfl) _ rfl dX4_readPiece_37 ?_
  show Go x D (tysOf ca) h (LaC ca h nl) 3 M 40 [some (.ref (h 54)), some (.int a0), some (.int a1)] [.int r8]
  refine o_if_eq K 51 dX4_readPiece_40 (by decide) (fun c9 => ?_) (fun c9 => ?_)
  · have hf := ip c9 hf
    refine o_aload_n K 0 dX4_readPiece_51 rfl rfl ?_
    refine o_aload_n K 0 dX4_readPiece_52 rfl rfl ?_
    obtain ⟨r10, er10, hf⟩ := bd_e hf
    obtain ⟨g11, hf⟩ := gd_e hf
    refine o_callV K [] (k_X4_secondName x.2.1 E D ca h nl M er10) s_X4_114 (ltReader) (obReader_c (ca := ca) (h := h) _) rfl rfl rfl ⟨by omega, by omega⟩ (Nat.le_of_ble_eq_true rfl) _ rfl dX4_readPiece_53 ?_
    show Go x D (tysOf ca) h (LaC ca h nl) 3 M 56 [some (.ref (h 54)), some (.int a0), some (.int a1)] [.ref (E.1 r10), .ref (h 54)]
    obtain ⟨r12, er12, hf⟩ := bd_e hf
    refine o_callV K [.ref (E.1 r10)] (k_X4_isWord x.2.1 E D ca h nl M r10 (of_decide_eq_true g11) er12) s_X4_68 (ltReader) (obReader_c (ca := ca) (h := h) _) rfl rfl rfl ⟨by omega, by omega⟩ (Nat.le_of_ble_eq_true rfl) _ rfl dX4_readPiece_56 ?_
    show Go x D (tysOf ca) h (LaC ca h nl) 3 M 59 [some (.ref (h 54)), some (.int a0), some (.int a1)] [.int r12]
    refine o_if_eq K 71 dX4_readPiece_59 (by decide) (fun c13 => ?_) (fun c13 => ?_)
    · have hf := ip c13 hf
      refine o_aload_n K 0 dX4_readPiece_71 rfl rfl ?_
      refine o_ldcS K 9 rfl dX4_readPiece_72 ?_
      obtain ⟨r14, er14, hf⟩ := bd_e hf
      refine o_callV K [.ref (E.1 9)] (k_X4_isSignOf x.2.1 E D ca h nl M 9 (by decide) er14) s_X4_96 (ltReader) (obReader_c (ca := ca) (h := h) _) rfl rfl rfl ⟨by omega, by omega⟩ (Nat.le_of_ble_eq_true rfl) _ rfl dX4_readPiece_74 ?_
      show Go x D (tysOf ca) h (LaC ca h nl) 3 M 77 [some (.ref (h 54)), some (.int a0), some (.int a1)] [.int r14]
      refine o_if_eq K 107 dX4_readPiece_77 (by decide) (fun c15 => ?_) (fun c15 => ?_)
      · have hf := ip c15 hf
        exact t_X4_readPiece_j107 K hR hL hP a0 a1 M hf
      · have hf := im c15 hf
        refine o_iload_n K 2 dX4_readPiece_80 rfl rfl ?_
        refine o_bipush K 8 dX4_readPiece_81 (by decide) ?_
        refine o_icmp_ge K 107 dX4_readPiece_83 (by decide) (fun c16 => ?_) (fun c16 => ?_)
        · have hf := ip c16 hf
          exact t_X4_readPiece_j107 K hR hL hP a0 a1 M hf
        · have hf := im c16 hf
          refine o_aload_n K 0 dX4_readPiece_86 rfl rfl ?_
          obtain ⟨M18, er17, hf⟩ := bd_e hf
          refine o_callV K [] (k_X4_step x.2.1 E D ca h nl M er17) s_X4_39 (ltReader) (obReader_c (ca := ca) (h := h) _) rfl rfl rfl ⟨by omega, by omega⟩ (Nat.le_of_ble_eq_true rfl) _ rfl dX4_readPiece_87 ?_
          show Go x D (tysOf ca) h (LaC ca h nl) 3 M18 90 [some (.ref (h 54)), some (.int a0), some (.int a1)] []
          refine o_aload_n K 0 dX4_readPiece_90 rfl rfl ?_
          refine o_iload_n K 1 dX4_readPiece_91 rfl rfl ?_
          refine o_iload_n K 2 dX4_readPiece_92 rfl rfl ?_
          refine o_iconst K 1 dX4_readPiece_93 (by decide) ?_
          refine o_iadd K dX4_readPiece_94 ?_
          obtain ⟨M20, er19, hf⟩ := bd_e hf
          refine o_callV K [.int a0, .int (a1 + 1)] (hP M18 M20 a0 (a1 + 1) er19) s_X4_88 (ltReader) (obReader_c (ca := ca) (h := h) _) rfl rfl rfl ⟨by omega, by omega⟩ (Nat.le_of_ble_eq_true rfl) _ rfl dX4_readPiece_95 ?_
          show Go x D (tysOf ca) h (LaC ca h nl) 3 M20 98 [some (.ref (h 54)), some (.int a0), some (.int a1)] []
          refine o_aload_n K 0 dX4_readPiece_98 rfl rfl ?_
          refine o_bipush K (-33) dX4_readPiece_99 (by decide) ?_
          obtain ⟨M22, er21, hf⟩ := bd_e hf
          refine o_callV K [.int (-33)] (k_X4_put x.2.1 E D ca h nl M20 ((-33) : Int32) er21) s_X4_99 (ltReader) (obReader_c (ca := ca) (h := h) _) rfl rfl rfl ⟨by omega, by omega⟩ (Nat.le_of_ble_eq_true rfl) _ rfl dX4_readPiece_101 ?_
          show Go x D (tysOf ca) h (LaC ca h nl) 3 M22 104 [some (.ref (h 54)), some (.int a0), some (.int a1)] []
          refine o_goto K 150 dX4_readPiece_104 (by decide) ?_
          exact e_vret K hf hR dX4_readPiece_150
    · have hf := im c13 hf
      refine o_aload_n K 0 dX4_readPiece_62 rfl rfl ?_
      refine o_bipush K (-2) dX4_readPiece_63 (by decide) ?_
      obtain ⟨M24, er23, hf⟩ := bd_e hf
      refine o_callV K [.int (-2)] (k_X4_putLeaf x.2.1 E D ca h nl M ((-2) : Int32) er23) s_X4_107 (ltReader) (obReader_c (ca := ca) (h := h) _) rfl rfl rfl ⟨by omega, by omega⟩ (Nat.le_of_ble_eq_true rfl) _ rfl dX4_readPiece_65 ?_
      show Go x D (tysOf ca) h (LaC ca h nl) 3 M24 68 [some (.ref (h 54)), some (.int a0), some (.int a1)] []
      refine o_goto K 150 dX4_readPiece_68 (by decide) ?_
      exact e_vret K hf hR dX4_readPiece_150
  · have hf := im c9 hf
    refine o_aload_n K 0 dX4_readPiece_43 rfl rfl ?_
    refine o_iconst K (-1) dX4_readPiece_44 (by decide) ?_
    obtain ⟨M26, er25, hf⟩ := bd_e hf
    refine o_callV K [.int (-1)] (k_X4_putLeaf x.2.1 E D ca h nl M ((-1) : Int32) er25) s_X4_107 (ltReader) (obReader_c (ca := ca) (h := h) _) rfl rfl rfl ⟨by omega, by omega⟩ (Nat.le_of_ble_eq_true rfl) _ rfl dX4_readPiece_45 ?_
    show Go x D (tysOf ca) h (LaC ca h nl) 3 M26 48 [some (.ref (h 54)), some (.int a0), some (.int a1)] []
    refine o_goto K 150 dX4_readPiece_48 (by decide) ?_
    exact e_vret K hf hR dX4_readPiece_150
def f_X4_readPiece (recL : Mem → Int32 → Int32 → Int32 → Option Mem) (recP : Mem → Int32 → Int32 → Option Mem) (M : Mem) (a1 : Int32) (a2 : Int32) : Option Mem := if (M 54 4) = 2 then (if 4 < ((M 54 3) - (M 54 2)) then (f_X4_readPiece_j32 recL recP a1 a2 M) else bd (f_X4_numberRead M) fun r3 => bd (f_X4_putLeaf M r3) fun M5 => some M5) else f_X4_readPiece_j32 recL recP a1 a2 M
set_option maxHeartbeats 4000000 in
set_option maxRecDepth 100000 in
theorem k_X4_readPiece (l : Launch) (E : Amd) (D : va_G) (ca : Nat → ClassId) (h : Nat → Nat) (nl : Nat) (M : Mem) {recL : Mem → Int32 → Int32 → Int32 → Option Mem} {recP : Mem → Int32 → Int32 → Option Mem} {d : Nat} (a1 : Int32) (a2 : Int32) {Mo : Mem} (hL : ∀ (M Mo : Mem) (u1 u2 u3 : Int32), recL M u1 u2 u3 = some Mo → Ct l E D (tysOf ca) h (LaC ca h nl) yX4_readLevel cX4_readLevel 7 none (6 + d) (134 + 26 * d) [.ref (h 54), .int u1, .int u2, .int u3] M none Mo) (hP : ∀ (M Mo : Mem) (u1 u2 : Int32), recP M u1 u2 = some Mo → Ct l E D (tysOf ca) h (LaC ca h nl) yX4_readPiece cX4_readPiece 3 none (6 + d) (134 + 26 * d) [.ref (h 54), .int u1, .int u2] M none Mo) (hf : f_X4_readPiece recL recP M a1 a2 = some Mo) : Ct l E D (tysOf ca) h (LaC ca h nl) yX4_readPiece cX4_readPiece 3 none (6 + (d + 1)) (134 + 26 * (d + 1)) [.ref (h 54), .int a1, .int a2] M none Mo := by
  refine Ct.mk [some (.ref (h 54)), some (.int a1), some (.int a2)] (by decide) (Nat.le_of_ble_eq_true rfl) (argsV [.ref (h 54), .int a1, .int a2] 0 rfl rfl) ?_
  intro x hx0 K hR
  subst hx0
  have K : Kx x E D (tysOf ca) h (LaC ca h nl) RX4 cX4_readPiece 3 (6 + (d + 1)) (134 + 26 * (d + 1)) := K
  rw [f_X4_readPiece] at hf
  refine o_aload_n K 0 dX4_readPiece_0 rfl rfl ?_
  refine gC_X4_26 K dX4_readPiece_1 ?_
  refine o_iconst K 2 dX4_readPiece_4 (by decide) ?_
  refine o_icmp_ne K 32 dX4_readPiece_5 (by decide) (fun c1 => ?_) (fun c1 => ?_)
  · have hf := im c1 hf
    exact t_X4_readPiece_j32 K hR hL hP a1 a2 M hf
  · have hf := ip c1 hf
    refine o_aload_n K 0 dX4_readPiece_8 rfl rfl ?_
    refine gC_X4_23 K dX4_readPiece_9 ?_
    refine o_aload_n K 0 dX4_readPiece_12 rfl rfl ?_
    refine gC_X4_49 K dX4_readPiece_13 ?_
    refine o_isub K dX4_readPiece_16 ?_
    refine o_iconst K 4 dX4_readPiece_17 (by decide) ?_
    refine o_icmp_gt K 32 dX4_readPiece_18 (by decide) (fun c2 => ?_) (fun c2 => ?_)
    · have hf := ip c2 hf
      exact t_X4_readPiece_j32 K hR hL hP a1 a2 M hf
    · have hf := im c2 hf
      refine o_aload_n K 0 dX4_readPiece_21 rfl rfl ?_
      refine o_aload_n K 0 dX4_readPiece_22 rfl rfl ?_
      obtain ⟨r3, er3, hf⟩ := bd_e hf
      refine o_callV K [] (k_X4_numberRead x.2.1 E D ca h nl M er3) s_X4_103 (ltReader) (obReader_c (ca := ca) (h := h) _) rfl rfl rfl ⟨by omega, by omega⟩ (Nat.le_of_ble_eq_true rfl) _ rfl dX4_readPiece_23 ?_
      show Go x D (tysOf ca) h (LaC ca h nl) 3 M 26 [some (.ref (h 54)), some (.int a1), some (.int a2)] [.int r3, .ref (h 54)]
      obtain ⟨M5, er4, hf⟩ := bd_e hf
      refine o_callV K [.int r3] (k_X4_putLeaf x.2.1 E D ca h nl M r3 er4) s_X4_107 (ltReader) (obReader_c (ca := ca) (h := h) _) rfl rfl rfl ⟨by omega, by omega⟩ (Nat.le_of_ble_eq_true rfl) _ rfl dX4_readPiece_26 ?_
      show Go x D (tysOf ca) h (LaC ca h nl) 3 M5 29 [some (.ref (h 54)), some (.int a1), some (.int a2)] []
      refine o_goto K 150 dX4_readPiece_29 (by decide) ?_
      exact e_vret K hf hR dX4_readPiece_150
def RR : Nat → (Mem → Int32 → Int32 → Int32 → Option Mem) × (Mem → Int32 → Int32 → Option Mem)
  | 0 => (fun _ _ _ _ => none, fun _ _ _ => none)
  | d + 1 => (fun M a b c => f_X4_readLevel (RR d).1 (RR d).2 M a b c, fun M a b => f_X4_readPiece (RR d).1 (RR d).2 M a b)
set_option maxHeartbeats 4000000 in
theorem k_RR (l : Launch) (E : Amd) (D : va_G) (ca : Nat → ClassId) (h : Nat → Nat) (nl : Nat) : ∀ d : Nat, (∀ (M Mo : Mem) (u1 u2 u3 : Int32), (RR d).1 M u1 u2 u3 = some Mo → Ct l E D (tysOf ca) h (LaC ca h nl) yX4_readLevel cX4_readLevel 7 none (6 + d) (134 + 26 * d) [.ref (h 54), .int u1, .int u2, .int u3] M none Mo) ∧ ∀ (M Mo : Mem) (u1 u2 : Int32), (RR d).2 M u1 u2 = some Mo → Ct l E D (tysOf ca) h (LaC ca h nl) yX4_readPiece cX4_readPiece 3 none (6 + d) (134 + 26 * d) [.ref (h 54), .int u1, .int u2] M none Mo := by
  intro d
  induction d with
  | zero => exact ⟨fun M Mo u1 u2 u3 hf => (by cases hf), fun M Mo u1 u2 hf => (by cases hf)⟩
  | succ d ih => exact ⟨fun M Mo u1 u2 u3 hf => k_X4_readLevel l E D ca h nl M u1 u2 u3 ih.1 ih.2 hf, fun M Mo u1 u2 hf => k_X4_readPiece l E D ca h nl M u1 u2 ih.1 ih.2 hf⟩
def f_X4_rd (M : Mem) (a1 a2 a3 : Int32) : Option Mem := (RR 100).1 M a1 a2 a3
theorem kRR (l : Launch) (E : Amd) (D : va_G) (ca : Nat → ClassId) (h : Nat → Nat) (nl : Nat) (M : Mem) (u1 u2 u3 : Int32) {Mo : Mem} (hf : f_X4_rd M u1 u2 u3 = some Mo) : Ct l E D (tysOf ca) h (LaC ca h nl) yX4_readLevel cX4_readLevel 7 none 106 2734 [.ref (h 54), .int u1, .int u2, .int u3] M none Mo := (k_RR l E D ca h nl 100).1 M Mo u1 u2 u3 hf
def f_X4_faultFound_j50 (M : Mem) : Option (Int32 × Mem) := if (M 54 9) = (-1000000005) then (if (M 54 4) = 0 then (some (M 54 9, M)) else nm (sto M 54 9 (M 54 2)) fun M15 => some (M15 54 9, M15)) else some (M 54 9, M)
set_option maxHeartbeats 4000000 in
set_option maxRecDepth 100000 in
theorem t_X4_faultFound_j50 {x : En} {E : Amd} {D : va_G} {ca : Nat → ClassId} {h : Nat → Nat} {nl : Nat} (K : Kx x E D (tysOf ca) h (LaC ca h nl) RX4 cX4_faultFound 1 107 2760) {r0 : Int32} {Mo : Mem} (hR : Rt x D h (LaC ca h nl) (some .int) (some (.int r0)) Mo) (M : Mem) (hf : f_X4_faultFound_j50 M = some (r0, Mo)) : Go x D (tysOf ca) h (LaC ca h nl) 1 M 50 [some (.ref (h 54))] [] := by
  rw [f_X4_faultFound_j50] at hf
  refine o_aload_n K 0 dX4_faultFound_50 rfl rfl ?_
  refine gC_X4_36 K dX4_faultFound_51 ?_
  refine o_ldc K q654 dX4_faultFound_54 ?_
  refine o_icmp_ne K 74 dX4_faultFound_56 (by decide) (fun c13 => ?_) (fun c13 => ?_)
  · have hf := im c13 hf
    refine o_aload_n K 0 dX4_faultFound_74 rfl rfl ?_
    refine gC_X4_36 K dX4_faultFound_75 ?_
    exact e_iret K hf hR dX4_faultFound_78
  · have hf := ip c13 hf
    refine o_aload_n K 0 dX4_faultFound_59 rfl rfl ?_
    refine gC_X4_26 K dX4_faultFound_60 ?_
    refine o_if_eq K 74 dX4_faultFound_63 (by decide) (fun c14 => ?_) (fun c14 => ?_)
    · have hf := ip c14 hf
      refine o_aload_n K 0 dX4_faultFound_74 rfl rfl ?_
      refine gC_X4_36 K dX4_faultFound_75 ?_
      exact e_iret K hf hR dX4_faultFound_78
    · have hf := im c14 hf
      refine o_aload_n K 0 dX4_faultFound_66 rfl rfl ?_
      refine o_aload_n K 0 dX4_faultFound_67 rfl rfl ?_
      refine gC_X4_49 K dX4_faultFound_68 ?_
      obtain ⟨M15, eM15, hf⟩ := nm_o hf
      refine pC_X4_36 K dX4_faultFound_71 ?_
      refine o_nmM eM15 ?_
      refine o_aload_n K 0 dX4_faultFound_74 rfl rfl ?_
      refine gC_X4_36 K dX4_faultFound_75 ?_
      exact e_iret K hf hR dX4_faultFound_78
def f_X4_faultFound (M : Mem) : Option (Int32 × Mem) := nm (sto M 54 3 0) fun M1 => nm (sto M1 54 4 0) fun M2 => nm (sto M2 54 6 0) fun M3 => nm (sto M3 54 8 0) fun M4 => nm (sto M4 54 9 (-1000000005)) fun M5 => bd (f_X4_step M5) fun M7 => bd (f_X4_readKey M7) fun M9 => if (M9 54 9) = (-1000000005) then (bd (f_X4_rd M9 (0 : Int32) (0 : Int32) (0 : Int32)) fun M12 => f_X4_faultFound_j50 M12) else f_X4_faultFound_j50 M9
set_option maxHeartbeats 4000000 in
set_option maxRecDepth 100000 in
theorem k_X4_faultFound (l : Launch) (E : Amd) (D : va_G) (ca : Nat → ClassId) (h : Nat → Nat) (nl : Nat) (M : Mem) {r0 : Int32} {Mo : Mem} (hf : f_X4_faultFound M = some (r0, Mo)) : Ct l E D (tysOf ca) h (LaC ca h nl) yX4_faultFound cX4_faultFound 1 (some .int) 107 2760 [.ref (h 54)] M (some (.int r0)) Mo := by
  refine Ct.mk [some (.ref (h 54))] (by decide) (Nat.le_of_ble_eq_true rfl) (argsV [.ref (h 54)] 0 rfl rfl) ?_
  intro x hx0 K hR
  have K : Kx x E D (tysOf ca) h (LaC ca h nl) RX4 cX4_faultFound 1 107 2760 := K
  rw [f_X4_faultFound] at hf
  refine o_aload_n K 0 dX4_faultFound_0 rfl rfl ?_
  refine o_iconst K 0 dX4_faultFound_1 (by decide) ?_
  obtain ⟨M1, eM1, hf⟩ := nm_o hf
  refine pC_X4_23 K dX4_faultFound_2 ?_
  refine o_nmM eM1 ?_
  refine o_aload_n K 0 dX4_faultFound_5 rfl rfl ?_
  refine o_iconst K 0 dX4_faultFound_6 (by decide) ?_
  obtain ⟨M2, eM2, hf⟩ := nm_o hf
  refine pC_X4_26 K dX4_faultFound_7 ?_
  refine o_nmM eM2 ?_
  refine o_aload_n K 0 dX4_faultFound_10 rfl rfl ?_
  refine o_iconst K 0 dX4_faultFound_11 (by decide) ?_
  obtain ⟨M3, eM3, hf⟩ := nm_o hf
  refine pC_X4_29 K dX4_faultFound_12 ?_
  refine o_nmM eM3 ?_
  refine o_aload_n K 0 dX4_faultFound_15 rfl rfl ?_
  refine o_iconst K 0 dX4_faultFound_16 (by decide) ?_
  obtain ⟨M4, eM4, hf⟩ := nm_o hf
  refine pC_X4_32 K dX4_faultFound_17 ?_
  refine o_nmM eM4 ?_
  refine o_aload_n K 0 dX4_faultFound_20 rfl rfl ?_
  refine o_ldc K q654 dX4_faultFound_21 ?_
  obtain ⟨M5, eM5, hf⟩ := nm_o hf
  refine pC_X4_36 K dX4_faultFound_23 ?_
  refine o_nmM eM5 ?_
  refine o_aload_n K 0 dX4_faultFound_26 rfl rfl ?_
  obtain ⟨M7, er6, hf⟩ := bd_e hf
  refine o_callV K [] (k_X4_step x.2.1 E D ca h nl M5 er6) s_X4_39 (ltReader) (obReader_c (ca := ca) (h := h) _) rfl rfl rfl ⟨by decide, by decide⟩ (Nat.le_of_ble_eq_true rfl) _ rfl dX4_faultFound_27 ?_
  show Go x D (tysOf ca) h (LaC ca h nl) 1 M7 30 [some (.ref (h 54))] []
  refine o_aload_n K 0 dX4_faultFound_30 rfl rfl ?_
  obtain ⟨M9, er8, hf⟩ := bd_e hf
  refine o_callV K [] (k_X4_readKey x.2.1 E D ca h nl M7 er8) s_X4_42 (ltReader) (obReader_c (ca := ca) (h := h) _) rfl rfl rfl ⟨by decide, by decide⟩ (Nat.le_of_ble_eq_true rfl) _ rfl dX4_faultFound_31 ?_
  show Go x D (tysOf ca) h (LaC ca h nl) 1 M9 34 [some (.ref (h 54))] []
  refine o_aload_n K 0 dX4_faultFound_34 rfl rfl ?_
  refine gC_X4_36 K dX4_faultFound_35 ?_
  refine o_ldc K q654 dX4_faultFound_38 ?_
  refine o_icmp_ne K 50 dX4_faultFound_40 (by decide) (fun c10 => ?_) (fun c10 => ?_)
  · have hf := im c10 hf
    exact t_X4_faultFound_j50 K hR M9 hf
  · have hf := ip c10 hf
    refine o_aload_n K 0 dX4_faultFound_43 rfl rfl ?_
    refine o_iconst K 0 dX4_faultFound_44 (by decide) ?_
    refine o_iconst K 0 dX4_faultFound_45 (by decide) ?_
    refine o_iconst K 0 dX4_faultFound_46 (by decide) ?_
    obtain ⟨M12, er11, hf⟩ := bd_e hf
    refine o_callV K [.int 0, .int 0, .int 0] (kRR x.2.1 E D ca h nl M9 (0 : Int32) (0 : Int32) (0 : Int32) er11) s_X4_45 (ltReader) (obReader_c (ca := ca) (h := h) _) rfl rfl rfl ⟨by decide, by decide⟩ (Nat.le_of_ble_eq_true rfl) _ rfl dX4_faultFound_47 ?_
    show Go x D (tysOf ca) h (LaC ca h nl) 1 M12 50 [some (.ref (h 54))] []
    exact t_X4_faultFound_j50 K hR M12 hf
