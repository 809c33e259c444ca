def f_X1_moveAir_j91 (b : Nat) (rec2 : Int32 → Mem → Option Mem) (a0 : Int32) (M : Mem) : Option Mem := nm (a0 + 1 : Int32) fun x32 => rec2 x32 M
set_option maxHeartbeats 4000000 in
set_option maxRecDepth 100000 in
theorem t_X1_moveAir_j91 {x : En} {E : Amd} {D : va_G} {ca : Nat → ClassId} {h : Nat → Nat} {nl : Nat} {b : Nat} (K : Kx x E D (tysOf ca) h (LaC ca h nl) RX1 cX1_moveAir 2 1 27) {Mo : Mem} (hR : Rt x D h (LaC ca h nl) none none Mo) (hb : b < 3) {rec2 : Int32 → Mem → Option Mem} (ih2 : ∀ (w0 : Int32) (M : Mem), rec2 w0 M = some Mo → Go x D (tysOf ca) h (LaC ca h nl) 2 M 2 [some (.ref (h (HB b))), some (.int w0)] []) (a0 : Int32) (M : Mem) (hf : f_X1_moveAir_j91 b rec2 a0 M = some Mo) : Go x D (tysOf ca) h (LaC ca h nl) 2 M 91 [some (.ref (h (HB b))), some (.int a0)] [] := by
  rw [f_X1_moveAir_j91] at hf
  obtain ⟨x32, ex32, hf⟩ := nm_o hf
  refine o_iinc K 1 x32 [some (.ref (h (HB b))), some (.int x32)] dX1_moveAir_91 rfl (inc_e (by decide) ex32) (by decide) rfl rfl ?_
  refine o_goto K 2 dX1_moveAir_94 (by decide) ?_
  exact ih2 x32 M hf
def f_X1_moveAir_l99 (b : Nat) : Nat → Int32 → Mem → Option Mem
  | 0, _, _ => none
  | n + 1, a0, M => if 8 ≤ a0 then (some M) else rd M (HB b + 11) 9 a0 fun x25 => rd M (HB b + 12) 8 a0 fun x27 => wr M (HB b + 11) 9 a0 (if (0 : Int32) < (x25 - x27) then (x25 - x27) else (0 : Int32)) fun M30 => nm (a0 + 1 : Int32) fun x31 => f_X1_moveAir_l99 b n x31 M30
set_option maxHeartbeats 4000000 in
set_option maxRecDepth 100000 in
theorem t_X1_moveAir_l99 {x : En} {E : Amd} {D : va_G} {ca : Nat → ClassId} {h : Nat → Nat} {nl : Nat} {b : Nat} (K : Kx x E D (tysOf ca) h (LaC ca h nl) RX1 cX1_moveAir 2 1 27) {Mo : Mem} (hR : Rt x D h (LaC ca h nl) none none Mo) (hb : b < 3) : ∀ (n : Nat) (a0 : Int32) (M : Mem), f_X1_moveAir_l99 b n a0 M = some Mo → Go x D (tysOf ca) h (LaC ca h nl) 2 M 99 [some (.ref (h (HB b))), some (.int a0)] [] := by
  intro n
  induction n with
  | zero =>
    intro a0 M hf
    cases hf
  | succ n ih =>
    intro a0 M hf
    rw [f_X1_moveAir_l99] at hf
    refine o_iload_n K 1 dX1_moveAir_99 rfl rfl ?_
    refine o_bipush K 8 dX1_moveAir_100 (by decide) ?_
    refine o_icmp_ge K 134 dX1_moveAir_102 (by decide) (fun c24 => ?_) (fun c24 => ?_)
    · have hf := ip c24 hf
      exact e_vret K hf hR dX1_moveAir_134
    · have hf := im c24 hf
      refine o_aload_n K 0 dX1_moveAir_105 rfl rfl ?_
      refine gC_X1_25 hb K dX1_moveAir_106 ?_
      refine o_iload_n K 1 dX1_moveAir_109 rfl rfl ?_
      refine o_iconst K 0 dX1_moveAir_110 (by decide) ?_
      refine o_aload_n K 0 dX1_moveAir_111 rfl rfl ?_
      refine gC_X1_25 hb K dX1_moveAir_112 ?_
      refine o_iload_n K 1 dX1_moveAir_115 rfl rfl ?_
      obtain ⟨g26, x25, ex25, hf⟩ := rd_e hf
      refine lCh hb 11 9 (by decide) (fun _ => rfl) K g26 dX1_moveAir_116 ?_
      refine o_nmi ex25 ?_
      refine o_aload_n K 0 dX1_moveAir_117 rfl rfl ?_
      refine gC_X1_29 hb K dX1_moveAir_118 ?_
      refine o_iload_n K 1 dX1_moveAir_121 rfl rfl ?_
      obtain ⟨g28, x27, ex27, hf⟩ := rd_e hf
      refine lCh hb 12 8 (by decide) (fun _ => rfl) K g28 dX1_moveAir_122 ?_
      refine o_nmi ex27 ?_
      refine o_isub K dX1_moveAir_123 ?_
      refine o_mmax K q459 q113 q6 q114 ⟨by decide, by decide⟩ (Nat.le_of_ble_eq_true rfl) dX1_moveAir_124 ?_
      obtain ⟨g29, M30, eM30, hf⟩ := wr_e hf
      refine sCh hb 11 9 (by decide) (fun _ => rfl) K g29 dX1_moveAir_127 ?_
      refine o_nmM eM30 ?_
      obtain ⟨x31, ex31, hf⟩ := nm_o hf
      refine o_iinc K 1 x31 [some (.ref (h (HB b))), some (.int x31)] dX1_moveAir_128 rfl (inc_e (by decide) ex31) (by decide) rfl rfl ?_
      refine o_goto K 99 dX1_moveAir_131 (by decide) ?_
      exact ih x31 M30 hf
def f_X1_moveAir_l2 (b : Nat) : Nat → Int32 → Mem → Option Mem
  | 0, _, _ => none
  | n + 1, a0, M => if (M (HB b + 1) 0) ≤ a0 then (f_X1_moveAir_l99 b FU (0 : Int32) M) else rd M (HB b + 3) 10 a0 fun x2 => rd M (HB b + 11) 9 x2 fun x4 => rd M (HB b + 14) 10 a0 fun x6 => wr M (HB b + 11) 9 x2 (x4 - x6) fun M9 => rd M9 (HB b + 4) 10 a0 fun x10 => if x10 = 8 then (rd M9 (HB b + 14) 10 a0 fun x21 => nm (sto M9 (HB b) 6 ((M9 (HB b) 6) + x21)) fun M23 => f_X1_moveAir_j91 b (f_X1_moveAir_l2 b n) a0 M23) else rd M9 (HB b + 4) 10 a0 fun x13 => rd M9 (HB b + 11) 9 x13 fun x15 => rd M9 (HB b + 14) 10 a0 fun x17 => wr M9 (HB b + 11) 9 x13 (x15 + x17) fun M20 => f_X1_moveAir_j91 b (f_X1_moveAir_l2 b n) a0 M20
set_option maxHeartbeats 4000000 in
set_option maxRecDepth 100000 in
theorem t_X1_moveAir_l2 {x : En} {E : Amd} {D : va_G} {ca : Nat → ClassId} {h : Nat → Nat} {nl : Nat} {b : Nat} (K : Kx x E D (tysOf ca) h (LaC ca h nl) RX1 cX1_moveAir 2 1 27) {Mo : Mem} (hR : Rt x D h (LaC ca h nl) none none Mo) (hb : b < 3) : ∀ (n : Nat) (a0 : Int32) (M : Mem), f_X1_moveAir_l2 b n a0 M = some Mo → Go x D (tysOf ca) h (LaC ca h nl) 2 M 2 [some (.ref (h (HB b))), some (.int a0)] [] := by
  intro n
  induction n with
  | zero =>
    intro a0 M hf
    cases hf
  | succ n ih =>
    intro a0 M hf
    rw [f_X1_moveAir_l2] at hf
    refine o_iload_n K 1 dX1_moveAir_2 rfl rfl ?_
    refine o_aload_n K 0 dX1_moveAir_3 rfl rfl ?_
    refine gC_X1_12 hb K dX1_moveAir_4 ?_
    refine gC_X1_116 hb K dX1_moveAir_7 ?_
    refine o_icmp_ge K 97 dX1_moveAir_10 (by decide) (fun c1 => ?_) (fun c1 => ?_)
    · have hf := ip c1 hf
      refine o_iconst K 0 dX1_moveAir_97 (by decide) ?_
      refine o_istore_n K 1 [some (.ref (h (HB b))), some (.int 0)] dX1_moveAir_98 rfl (by decide) rfl rfl ?_
      exact t_X1_moveAir_l99 K hR hb FU (0 : Int32) M hf
    · have hf := im c1 hf
      refine o_aload_n K 0 dX1_moveAir_13 rfl rfl ?_
      refine gC_X1_25 hb K dX1_moveAir_14 ?_
      refine o_aload_n K 0 dX1_moveAir_17 rfl rfl ?_
      refine gC_X1_12 hb K dX1_moveAir_18 ?_
      refine gC_X1_105 hb K dX1_moveAir_21 ?_
      refine o_iload_n K 1 dX1_moveAir_24 rfl rfl ?_
      obtain ⟨g3, x2, ex2, hf⟩ := rd_e hf
      refine lCh hb 3 10 (by decide) (fun _ => rfl) K g3 dX1_moveAir_25 ?_
      refine o_nmi ex2 ?_
      refine o_dup2 K dX1_moveAir_26 rfl rfl ?_
      obtain ⟨g5, x4, ex4, hf⟩ := rd_e hf
      refine lCh hb 11 9 (by decide) (fun _ => rfl) K g5 dX1_moveAir_27 ?_
      refine o_nmi ex4 ?_
      refine o_aload_n K 0 dX1_moveAir_28 rfl rfl ?_
      refine gC_X1_39 hb K dX1_moveAir_29 ?_
      refine o_iload_n K 1 dX1_moveAir_32 rfl rfl ?_
      obtain ⟨g7, x6, ex6, hf⟩ := rd_e hf
      refine lCh hb 14 10 (by decide) (fun _ => rfl) K g7 dX1_moveAir_33 ?_
      refine o_nmi ex6 ?_
      refine o_isub K dX1_moveAir_34 ?_
      obtain ⟨g8, M9, eM9, hf⟩ := wr_e hf
      refine sCh hb 11 9 (by decide) (fun _ => rfl) K g8 dX1_moveAir_35 ?_
      refine o_nmM eM9 ?_
      refine o_aload_n K 0 dX1_moveAir_36 rfl rfl ?_
      refine gC_X1_12 hb K dX1_moveAir_37 ?_
      refine gC_X1_108 hb K dX1_moveAir_40 ?_
      refine o_iload_n K 1 dX1_moveAir_43 rfl rfl ?_
      obtain ⟨g11, x10, ex10, hf⟩ := rd_e hf
      refine lCh hb 4 10 (by decide) (fun _ => rfl) K g11 dX1_moveAir_44 ?_
      refine o_nmi ex10 ?_
      refine o_bipush K 8 dX1_moveAir_45 (by decide) ?_
      refine o_icmp_ne K 68 dX1_moveAir_47 (by decide) (fun c12 => ?_) (fun c12 => ?_)
      · have hf := im c12 hf
        refine o_aload_n K 0 dX1_moveAir_68 rfl rfl ?_
        refine gC_X1_25 hb K dX1_moveAir_69 ?_
        refine o_aload_n K 0 dX1_moveAir_72 rfl rfl ?_
        refine gC_X1_12 hb K dX1_moveAir_73 ?_
        refine gC_X1_108 hb K dX1_moveAir_76 ?_
        refine o_iload_n K 1 dX1_moveAir_79 rfl rfl ?_
        obtain ⟨g14, x13, ex13, hf⟩ := rd_e hf
        refine lCh hb 4 10 (by decide) (fun _ => rfl) K g14 dX1_moveAir_80 ?_
        refine o_nmi ex13 ?_
        refine o_dup2 K dX1_moveAir_81 rfl rfl ?_
        obtain ⟨g16, x15, ex15, hf⟩ := rd_e hf
        refine lCh hb 11 9 (by decide) (fun _ => rfl) K g16 dX1_moveAir_82 ?_
        refine o_nmi ex15 ?_
        refine o_aload_n K 0 dX1_moveAir_83 rfl rfl ?_
        refine gC_X1_39 hb K dX1_moveAir_84 ?_
        refine o_iload_n K 1 dX1_moveAir_87 rfl rfl ?_
        obtain ⟨g18, x17, ex17, hf⟩ := rd_e hf
        refine lCh hb 14 10 (by decide) (fun _ => rfl) K g18 dX1_moveAir_88 ?_
        refine o_nmi ex17 ?_
        refine o_iadd K dX1_moveAir_89 ?_
        obtain ⟨g19, M20, eM20, hf⟩ := wr_e hf
        refine sCh hb 11 9 (by decide) (fun _ => rfl) K g19 dX1_moveAir_90 ?_
        refine o_nmM eM20 ?_
        exact t_X1_moveAir_j91 K hR hb ih a0 M20 hf
      · have hf := ip c12 hf
        refine o_aload_n K 0 dX1_moveAir_50 rfl rfl ?_
        refine o_dup K dX1_moveAir_51 rfl ?_
        refine gC_X1_74 hb K dX1_moveAir_52 ?_
        refine o_aload_n K 0 dX1_moveAir_55 rfl rfl ?_
        refine gC_X1_39 hb K dX1_moveAir_56 ?_
        refine o_iload_n K 1 dX1_moveAir_59 rfl rfl ?_
        obtain ⟨g22, x21, ex21, hf⟩ := rd_e hf
        refine lCh hb 14 10 (by decide) (fun _ => rfl) K g22 dX1_moveAir_60 ?_
        refine o_nmi ex21 ?_
        refine o_iadd K dX1_moveAir_61 ?_
        obtain ⟨M23, eM23, hf⟩ := nm_o hf
        refine pC_X1_74 hb K dX1_moveAir_62 ?_
        refine o_nmM eM23 ?_
        refine o_goto K 91 dX1_moveAir_65 (by decide) ?_
        exact t_X1_moveAir_j91 K hR hb ih a0 M23 hf
def f_X1_moveAir (b : Nat) (M : Mem) : Option Mem := f_X1_moveAir_l2 b FU (0 : Int32) M
set_option maxHeartbeats 4000000 in
set_option maxRecDepth 100000 in
theorem k_X1_moveAir (l : Launch) (E : Amd) (D : va_G) (ca : Nat → ClassId) (h : Nat → Nat) (nl : Nat) (M : Mem) (b : Nat) {Mo : Mem} (hb : b < 3) (hf : f_X1_moveAir b M = some Mo) : Ct l E D (tysOf ca) h (LaC ca h nl) yX1_moveAir cX1_moveAir 2 none 1 27 [.ref (h (HB b))] M none Mo := by
  refine Ct.mk [some (.ref (h (HB b))), none] (by decide) (Nat.le_of_ble_eq_true rfl) (argsV [.ref (h (HB b))] 1 rfl rfl) ?_
  intro x hx0 K hR
  have K : Kx x E D (tysOf ca) h (LaC ca h nl) RX1 cX1_moveAir 2 1 27 := K
  rw [f_X1_moveAir] at hf
  refine o_iconst K 0 dX1_moveAir_0 (by decide) ?_
  refine o_istore_n K 1 [some (.ref (h (HB b))), some (.int 0)] dX1_moveAir_1 rfl (by decide) rfl rfl ?_
  exact t_X1_moveAir_l2 K hR hb FU (0 : Int32) M hf
def f_X5_lawAt (nl : Nat) (b : Nat) (M : Mem) (a1 : Int32) : Option Int32 := bd (f_X9_isWithin a1 (0 : Int32) ((M (HB b + 6) 0) - 1)) fun r1 => if r1 = 0 then (some (0 : Int32)) else rd M (HB b + 8) 14 a1 fun x4 => if x4 = 0 then (some (0 : Int32)) else gd (lok nl x4) <| nm (ix x4) fun c7 => some x4
set_option maxHeartbeats 4000000 in
set_option maxRecDepth 100000 in
theorem k_X5_lawAt (l : Launch) (E : Amd) (D : va_G) (ca : Nat → ClassId) (h : Nat → Nat) (nl : Nat) (M : Mem) (b : Nat) (a1 : Int32) {r0 : Int32} (hb : b < 3) (hf : f_X5_lawAt nl b M a1 = some r0) : Ct l E D (tysOf ca) h (LaC ca h nl) yX5_lawAt cX5_lawAt 2 (some (.object "OneDraught$Law")) 1 22 [.ref (h (HB b + 6)), .int a1] M (some (va_rf (lawAd h r0))) M := by
  refine Ct.mk [some (.ref (h (HB b + 6))), some (.int a1)] (by decide) (Nat.le_of_ble_eq_true rfl) (argsV [.ref (h (HB b + 6)), .int a1] 0 rfl rfl) ?_
  intro x hx0 K hR
  have K : Kx x E D (tysOf ca) h (LaC ca h nl) RX5 cX5_lawAt 2 1 22 := K
  rw [f_X5_lawAt] at hf
  refine o_iload_n K 1 dX5_lawAt_0 rfl rfl ?_
  refine o_iconst K 0 dX5_lawAt_1 (by decide) ?_
  refine o_aload_n K 0 dX5_lawAt_2 rfl rfl ?_
  refine gC_X5_35 hb K dX5_lawAt_3 ?_
  refine o_iconst K 1 dX5_lawAt_6 (by decide) ?_
  refine o_isub K dX5_lawAt_7 ?_
  obtain ⟨r1, er1, hf⟩ := bd_e hf
  refine o_callSN K [.int a1, .int 0, .int ((M (HB b + 6) 0) - 1)] (k_X9_isWithin x.2.1 E D ca h nl M a1 (0 : Int32) ((M (HB b + 6) 0) - 1) er1) s_X5_48 rfl ⟨by decide, by decide⟩ (Nat.le_of_ble_eq_true rfl) _ rfl dX5_lawAt_8 ?_
  show Go x D (tysOf ca) h (LaC ca h nl) 2 M 11 [some (.ref (h (HB b + 6))), some (.int a1)] [.int r1]
  refine o_if_eq K 23 dX5_lawAt_11 (by decide) (fun c2 => ?_) (fun c2 => ?_)
  · have hf := ip c2 hf
    refine o_null K dX5_lawAt_23 ?_
    exact l_nret K hf hR dX5_lawAt_24
  · have hf := im c2 hf
    refine o_aload_n K 0 dX5_lawAt_14 rfl rfl ?_
    refine gC_X5_22 hb K dX5_lawAt_15 ?_
    refine o_iload_n K 1 dX5_lawAt_18 rfl rfl ?_
    obtain ⟨g3, x4, ex4, hf⟩ := rd_e hf
    refine aLaws hb K g3 ex4 dX5_lawAt_19 ?_
    by_cases c5 : x4 = 0
    · have hf := ip c5 hf
      refine o_unull c5 ?_
      refine o_goto K 24 dX5_lawAt_20 (by decide) ?_
      exact l_nret K hf hR dX5_lawAt_24
    have hf := im c5 hf
    obtain ⟨g6, hf⟩ := gd_e hf
    obtain ⟨c7, ec7, hf⟩ := nm_o hf
    have hc7 := lok_e g6 ec7
    refine o_uref c5 ec7 ?_
    refine o_goto K 24 dX5_lawAt_20 (by decide) ?_
    exact l_aret K hf hR c5 ec7 dX5_lawAt_24
def f_X3_joined (a1 : Int32) (a2 : Int32) (a3 : Int32) : Option Int32 := if a1 = 38 then (if a2 = 0 then (some ((0 : Int32))) else if a3 = 0 then (some ((0 : Int32))) else some ((1 : Int32))) else if a1 = 42 then (some (a2 * a3)) else if a1 = 43 then (some (a2 + a3)) else if a1 = 45 then (some (a2 - a3)) else if a1 = 47 then (if a3 = 0 then (some ((0 : Int32))) else gd (decide (¬ a3 = (0 : Int32))) <| some (a2 / a3)) else if a1 = 60 then (if a3 ≤ a2 then (some ((0 : Int32))) else some ((1 : Int32))) else if a1 = 61 then (if a2 = a3 then (some ((1 : Int32))) else some ((0 : Int32))) else if a1 = 62 then (if a2 ≤ a3 then (some ((0 : Int32))) else some ((1 : Int32))) else if a2 = 0 then (if a3 = 0 then (some ((0 : Int32))) else some ((1 : Int32))) else some ((1 : Int32))
set_option maxHeartbeats 4000000 in
set_option maxRecDepth 100000 in
theorem k_X3_joined (l : Launch) (E : Amd) (D : va_G) (ca : Nat → ClassId) (h : Nat → Nat) (nl : Nat) (M : Mem) (a1 : Int32) (a2 : Int32) (a3 : Int32) {r0 : Int32} (hf : f_X3_joined a1 a2 a3 = some r0) : Ct l E D (tysOf ca) h (LaC ca h nl) yX3_joined cX3_joined 3 (some .int) 0 0 [.int a1, .int a2, .int a3] M (some (.int r0)) M := by
  refine Ct.mk [some (.int a1), some (.int a2), some (.int a3)] (by decide) (Nat.le_of_ble_eq_true rfl) (argsV [.int a1, .int a2, .int a3] 0 rfl rfl) ?_
  intro x hx0 K hR
  have K : Kx x E D (tysOf ca) h (LaC ca h nl) RX3 cX3_joined 3 0 0 := K
  rw [f_X3_joined] at hf
  refine o_iload_n K 0 dX3_joined_0 rfl rfl ?_
  by_cases c1 : a1 = 38
  · have hf := ip c1 hf
    refine o_table K 173 dX3_joined_1 (by decide) (by rw [c1]; try decide) (by decide) ?_
    refine o_iload_n K 1 dX3_joined_173 rfl rfl ?_
    refine o_if_eq K 185 dX3_joined_174 (by decide) (fun c2 => ?_) (fun c2 => ?_)
    · have hf := ip c2 hf
      refine o_iconst K 0 dX3_joined_185 (by decide) ?_
      exact r_iret K hf hR dX3_joined_186
    · have hf := im c2 hf
      refine o_iload_n K 2 dX3_joined_177 rfl rfl ?_
      refine o_if_eq K 185 dX3_joined_178 (by decide) (fun c3 => ?_) (fun c3 => ?_)
      · have hf := ip c3 hf
        refine o_iconst K 0 dX3_joined_185 (by decide) ?_
        exact r_iret K hf hR dX3_joined_186
      · have hf := im c3 hf
        refine o_iconst K 1 dX3_joined_181 (by decide) ?_
        refine o_goto K 186 dX3_joined_182 (by decide) ?_
        exact r_iret K hf hR dX3_joined_186
  have hf := im c1 hf
  by_cases c4 : a1 = 42
  · have hf := ip c4 hf
    refine o_table K 124 dX3_joined_1 (by decide) (by rw [c4]; try decide) (by decide) ?_
    refine o_iload_n K 1 dX3_joined_124 rfl rfl ?_
    refine o_iload_n K 2 dX3_joined_125 rfl rfl ?_
    refine o_imul K dX3_joined_126 ?_
    exact r_iret K hf hR dX3_joined_127
  have hf := im c4 hf
  by_cases c5 : a1 = 43
  · have hf := ip c5 hf
    refine o_table K 116 dX3_joined_1 (by decide) (by rw [c5]; try decide) (by decide) ?_
    refine o_iload_n K 1 dX3_joined_116 rfl rfl ?_
    refine o_iload_n K 2 dX3_joined_117 rfl rfl ?_
    refine o_iadd K dX3_joined_118 ?_
    exact r_iret K hf hR dX3_joined_119
  have hf := im c5 hf
  by_cases c6 : a1 = 45
  · have hf := ip c6 hf
    refine o_table K 120 dX3_joined_1 (by decide) (by rw [c6]; try decide) (by decide) ?_
    refine o_iload_n K 1 dX3_joined_120 rfl rfl ?_
    refine o_iload_n K 2 dX3_joined_121 rfl rfl ?_
    refine o_isub K dX3_joined_122 ?_
    exact r_iret K hf hR dX3_joined_123
  have hf := im c6 hf
  by_cases c7 : a1 = 47
  · have hf := ip c7 hf
    refine o_table K 128 dX3_joined_1 (by decide) (by rw [c7]; try decide) (by decide) ?_
    refine o_iload_n K 2 dX3_joined_128 rfl rfl ?_
    refine o_if_ne K 136 dX3_joined_129 (by decide) (fun c8 => ?_) (fun c8 => ?_)
    · have hf := im c8 hf
      refine o_iload_n K 1 dX3_joined_136 rfl rfl ?_
      refine o_iload_n K 2 dX3_joined_137 rfl rfl ?_
      obtain ⟨g9, hf⟩ := gd_e hf
      refine o_idiv K dX3_joined_138 (of_decide_eq_true g9) ?_
      exact r_iret K hf hR dX3_joined_139
    · have hf := ip c8 hf
      refine o_iconst K 0 dX3_joined_132 (by decide) ?_
      refine o_goto K 139 dX3_joined_133 (by decide) ?_
      exact r_iret K hf hR dX3_joined_139
  have hf := im c7 hf
  by_cases c10 : a1 = 60
  · have hf := ip c10 hf
    refine o_table K 140 dX3_joined_1 (by decide) (by rw [c10]; try decide) (by decide) ?_
    refine o_iload_n K 1 dX3_joined_140 rfl rfl ?_
    refine o_iload_n K 2 dX3_joined_141 rfl rfl ?_
    refine o_icmp_ge K 149 dX3_joined_142 (by decide) (fun c11 => ?_) (fun c11 => ?_)
    · have hf := ip c11 hf
      refine o_iconst K 0 dX3_joined_149 (by decide) ?_
      exact r_iret K hf hR dX3_joined_150
    · have hf := im c11 hf
      refine o_iconst K 1 dX3_joined_145 (by decide) ?_
      refine o_goto K 150 dX3_joined_146 (by decide) ?_
      exact r_iret K hf hR dX3_joined_150
  have hf := im c10 hf
  by_cases c12 : a1 = 61
  · have hf := ip c12 hf
    refine o_table K 151 dX3_joined_1 (by decide) (by rw [c12]; try decide) (by decide) ?_
    refine o_iload_n K 1 dX3_joined_151 rfl rfl ?_
    refine o_iload_n K 2 dX3_joined_152 rfl rfl ?_
    refine o_icmp_ne K 160 dX3_joined_153 (by decide) (fun c13 => ?_) (fun c13 => ?_)
    · have hf := im c13 hf
      refine o_iconst K 0 dX3_joined_160 (by decide) ?_
      exact r_iret K hf hR dX3_joined_161
    · have hf := ip c13 hf
      refine o_iconst K 1 dX3_joined_156 (by decide) ?_
      refine o_goto K 161 dX3_joined_157 (by decide) ?_
      exact r_iret K hf hR dX3_joined_161
  have hf := im c12 hf
  by_cases c14 : a1 = 62
  · have hf := ip c14 hf
    refine o_table K 162 dX3_joined_1 (by decide) (by rw [c14]; try decide) (by decide) ?_
    refine o_iload_n K 1 dX3_joined_162 rfl rfl ?_
    refine o_iload_n K 2 dX3_joined_163 rfl rfl ?_
    refine o_icmp_le K 171 dX3_joined_164 (by decide) (fun c15 => ?_) (fun c15 => ?_)
    · have hf := ip c15 hf
      refine o_iconst K 0 dX3_joined_171 (by decide) ?_
      exact r_iret K hf hR dX3_joined_172
    · have hf := im c15 hf
      refine o_iconst K 1 dX3_joined_167 (by decide) ?_
      refine o_goto K 172 dX3_joined_168 (by decide) ?_
      exact r_iret K hf hR dX3_joined_172
  have hf := im c14 hf
  refine o_table K 187 dX3_joined_1 (by decide) (tsel_d [38, 42, 43, 45, 47, 60, 61, 62] (List.forall_mem_cons.mpr ⟨lv_neT c1 rfl, (List.forall_mem_cons.mpr ⟨lv_neT c4 rfl, (List.forall_mem_cons.mpr ⟨lv_neT c5 rfl, (List.forall_mem_cons.mpr ⟨lv_neT c6 rfl, (List.forall_mem_cons.mpr ⟨lv_neT c7 rfl, (List.forall_mem_cons.mpr ⟨lv_neT c10 rfl, (List.forall_mem_cons.mpr ⟨lv_neT c12 rfl, (List.forall_mem_cons.mpr ⟨lv_neT c14 rfl, (List.forall_mem_nil _)⟩)⟩)⟩)⟩)⟩)⟩)⟩)⟩) (by decide)) (by decide) ?_
  refine o_iload_n K 1 dX3_joined_187 rfl rfl ?_
  refine o_if_ne K 195 dX3_joined_188 (by decide) (fun c16 => ?_) (fun c16 => ?_)
  · have hf := im c16 hf
    refine o_iconst K 1 dX3_joined_195 (by decide) ?_
    refine o_goto K 200 dX3_joined_196 (by decide) ?_
    exact r_iret K hf hR dX3_joined_200
  · have hf := ip c16 hf
    refine o_iload_n K 2 dX3_joined_191 rfl rfl ?_
    refine o_if_eq K 199 dX3_joined_192 (by decide) (fun c17 => ?_) (fun c17 => ?_)
    · have hf := ip c17 hf
      refine o_iconst K 0 dX3_joined_199 (by decide) ?_
      exact r_iret K hf hR dX3_joined_200
    · have hf := im c17 hf
      refine o_iconst K 1 dX3_joined_195 (by decide) ?_
      refine o_goto K 200 dX3_joined_196 (by decide) ?_
      exact r_iret K hf hR dX3_joined_200
def f_X3_valueWith_j139 (c : Nat) (b : Nat) (rec6 : Int32 → Int32 → Int32 → Int32 → Mem → Option (Int32 × Mem)) (a0 : Int32) (a1 : Int32) (a2 : Int32) (a3 : Int32) (M : Mem) : Option (Int32 × Mem) := nm (a3 + 1 : Int32) fun x29 => rec6 a0 a1 a2 x29 M
set_option maxHeartbeats 4000000 in
set_option maxRecDepth 100000 in
theorem t_X3_valueWith_j139 {x : En} {E : Amd} {D : va_G} {ca : Nat → ClassId} {h : Nat → Nat} {nl : Nat} {c : Nat} {b : Nat} (K : Kx x E D (tysOf ca) h (LaC ca h nl) RX3 cX3_valueWith 7 1 22) {r0 : Int32} {Mo : Mem} (hR : Rt x D h (LaC ca h nl) (some .int) (some (.int r0)) Mo) (hc : 1 ≤ c ∧ c ≤ nl) (hb : b < 3) {rec6 : Int32 → Int32 → Int32 → Int32 → Mem → Option (Int32 × Mem)} (ih6 : ∀ (w0 : Int32) (w1 : Int32) (w2 : Int32) (w3 : Int32) (M : Mem), rec6 w0 w1 w2 w3 M = some (r0, Mo) → Go x D (tysOf ca) h (LaC ca h nl) 7 M 6 [some (.ref (h (80 + 2 * c))), some (.int w0), some (.int w1), some (.ref (h (HB b + 10))), some (.int w2), some (.int w3), none] []) (a0 : Int32) (a1 : Int32) (a2 : Int32) (a3 : Int32) (M : Mem) (hf : f_X3_valueWith_j139 c b rec6 a0 a1 a2 a3 M = some (r0, Mo)) : Go x D (tysOf ca) h (LaC ca h nl) 7 M 139 [some (.ref (h (80 + 2 * c))), some (.int a0), some (.int a1), some (.ref (h (HB b + 10))), some (.int a2), some (.int a3), none] [] := by
  rw [f_X3_valueWith_j139] at hf
  obtain ⟨x29, ex29, hf⟩ := nm_o hf
  refine o_iinc K 5 x29 [some (.ref (h (80 + 2 * c))), some (.int a0), some (.int a1), some (.ref (h (HB b + 10))), some (.int a2), some (.int x29), none] dX3_valueWith_139 rfl (inc_e (by decide) ex29) (by decide) rfl rfl ?_
  refine o_goto K 6 dX3_valueWith_142 (by decide) ?_
  exact ih6 a0 a1 a2 x29 M hf
def f_X3_valueWith_j65 (c : Nat) (b : Nat) (rec6 : Int32 → Int32 → Int32 → Int32 → Mem → Option (Int32 × Mem)) (a0 : Int32) (a1 : Int32) (a2 : Int32) (a3 : Int32) (a4 : Int32) (a5 : Int32) (M : Mem) : Option (Int32 × Mem) := wr M (HB b + 10) 96 a5 a4 fun M16 => nm (a2 + 1 : Int32) fun x17 => f_X3_valueWith_j139 c b rec6 a0 a1 x17 a3 M16
set_option maxHeartbeats 4000000 in
set_option maxRecDepth 100000 in
theorem t_X3_valueWith_j65 {x : En} {E : Amd} {D : va_G} {ca : Nat → ClassId} {h : Nat → Nat} {nl : Nat} {c : Nat} {b : Nat} (K : Kx x E D (tysOf ca) h (LaC ca h nl) RX3 cX3_valueWith 7 1 22) {r0 : Int32} {Mo : Mem} (hR : Rt x D h (LaC ca h nl) (some .int) (some (.int r0)) Mo) (hc : 1 ≤ c ∧ c ≤ nl) (hb : b < 3) {rec6 : Int32 → Int32 → Int32 → Int32 → Mem → Option (Int32 × Mem)} (ih6 : ∀ (w0 : Int32) (w1 : Int32) (w2 : Int32) (w3 : Int32) (M : Mem), rec6 w0 w1 w2 w3 M = some (r0, Mo) → Go x D (tysOf ca) h (LaC ca h nl) 7 M 6 [some (.ref (h (80 + 2 * c))), some (.int w0), some (.int w1), some (.ref (h (HB b + 10))), some (.int w2), some (.int w3), none] []) (a0 : Int32) (a1 : Int32) (a2 : Int32) (a3 : Int32) (a4 : Int32) (a5 : Int32) (M : Mem) (hf : f_X3_valueWith_j65 c b rec6 a0 a1 a2 a3 a4 a5 M = some (r0, Mo)) : Go x D (tysOf ca) h (LaC ca h nl) 7 M 65 [some (.ref (h (80 + 2 * c))), some (.int a0), some (.int a1), some (.ref (h (HB b + 10))), some (.int a2), some (.int a3), none] [.int a4, .int a5, .ref (h (HB b + 10))] := by
  rw [f_X3_valueWith_j65] at hf
  obtain ⟨g15, M16, eM16, hf⟩ := wr_e hf
  refine sCh hb 10 96 (by decide) (fun _ => rfl) K g15 dX3_valueWith_65 ?_
  refine o_nmM eM16 ?_
  obtain ⟨x17, ex17, hf⟩ := nm_o hf
  refine o_iinc K 4 x17 [some (.ref (h (80 + 2 * c))), some (.int a0), some (.int a1), some (.ref (h (HB b + 10))), some (.int x17), some (.int a3), none] dX3_valueWith_66 rfl (inc_e (by decide) ex17) (by decide) rfl rfl ?_
  refine o_goto K 139 dX3_valueWith_69 (by decide) ?_
  exact t_X3_valueWith_j139 K hR hc hb ih6 a0 a1 x17 a3 M16 hf
def f_X3_valueWith_j104 (c : Nat) (b : Nat) (rec6 : Int32 → Int32 → Int32 → Int32 → Mem → Option (Int32 × Mem)) (a0 : Int32) (a1 : Int32) (a2 : Int32) (a3 : Int32) (a4 : Int32) (a5 : Int32) (M : Mem) : Option (Int32 × Mem) := wr M (HB b + 10) 96 a5 a4 fun M28 => f_X3_valueWith_j139 c b rec6 a0 a1 a2 a3 M28
set_option maxHeartbeats 4000000 in
set_option maxRecDepth 100000 in
theorem t_X3_valueWith_j104 {x : En} {E : Amd} {D : va_G} {ca : Nat → ClassId} {h : Nat → Nat} {nl : Nat} {c : Nat} {b : Nat} (K : Kx x E D (tysOf ca) h (LaC ca h nl) RX3 cX3_valueWith 7 1 22) {r0 : Int32} {Mo : Mem} (hR : Rt x D h (LaC ca h nl) (some .int) (some (.int r0)) Mo) (hc : 1 ≤ c ∧ c ≤ nl) (hb : b < 3) {rec6 : Int32 → Int32 → Int32 → Int32 → Mem → Option (Int32 × Mem)} (ih6 : ∀ (w0 : Int32) (w1 : Int32) (w2 : Int32) (w3 : Int32) (M : Mem), rec6 w0 w1 w2 w3 M = some (r0, Mo) → Go x D (tysOf ca) h (LaC ca h nl) 7 M 6 [some (.ref (h (80 + 2 * c))), some (.int w0), some (.int w1), some (.ref (h (HB b + 10))), some (.int w2), some (.int w3), none] []) (a0 : Int32) (a1 : Int32) (a2 : Int32) (a3 : Int32) (a4 : Int32) (a5 : Int32) (M : Mem) (hf : f_X3_valueWith_j104 c b rec6 a0 a1 a2 a3 a4 a5 M = some (r0, Mo)) : Go x D (tysOf ca) h (LaC ca h nl) 7 M 104 [some (.ref (h (80 + 2 * c))), some (.int a0), some (.int a1), some (.ref (h (HB b + 10))), some (.int a2), some (.int a3), none] [.int a4, .int a5, .ref (h (HB b + 10))] := by
  rw [f_X3_valueWith_j104] at hf
  obtain ⟨g27, M28, eM28, hf⟩ := wr_e hf
  refine sCh hb 10 96 (by decide) (fun _ => rfl) K g27 dX3_valueWith_104 ?_
  refine o_nmM eM28 ?_
  refine o_goto K 139 dX3_valueWith_105 (by decide) ?_
  exact t_X3_valueWith_j139 K hR hc hb ih6 a0 a1 a2 a3 M28 hf
def f_X3_valueWith_j108 (c : Nat) (b : Nat) (rec6 : Int32 → Int32 → Int32 → Int32 → Mem → Option (Int32 × Mem)) (a0 : Int32) (a1 : Int32) (a2 : Int32) (a3 : Int32) (a4 : Int32) (M : Mem) : Option (Int32 × Mem) := if a2 < 2 then (f_X3_valueWith_j139 c b rec6 a0 a1 a2 a3 M) else nm (a2 + (-1) : Int32) fun x19 => rd M (HB b + 10) 96 (x19 - 1) fun x20 => rd M (HB b + 10) 96 x19 fun x22 => bd (f_X3_joined (-a4) x20 x22) fun r24 => wr M (HB b + 10) 96 (x19 - 1) r24 fun M26 => f_X3_valueWith_j139 c b rec6 a0 a1 x19 a3 M26
set_option maxHeartbeats 4000000 in
set_option maxRecDepth 100000 in
theorem t_X3_valueWith_j108 {x : En} {E : Amd} {D : va_G} {ca : Nat → ClassId} {h : Nat → Nat} {nl : Nat} {c : Nat} {b : Nat} (K : Kx x E D (tysOf ca) h (LaC ca h nl) RX3 cX3_valueWith 7 1 22) {r0 : Int32} {Mo : Mem} (hR : Rt x D h (LaC ca h nl) (some .int) (some (.int r0)) Mo) (hc : 1 ≤ c ∧ c ≤ nl) (hb : b < 3) {rec6 : Int32 → Int32 → Int32 → Int32 → Mem → Option (Int32 × Mem)} (ih6 : ∀ (w0 : Int32) (w1 : Int32) (w2 : Int32) (w3 : Int32) (M : Mem), rec6 w0 w1 w2 w3 M = some (r0, Mo) → Go x D (tysOf ca) h (LaC ca h nl) 7 M 6 [some (.ref (h (80 + 2 * c))), some (.int w0), some (.int w1), some (.ref (h (HB b + 10))), some (.int w2), some (.int w3), none] []) (a0 : Int32) (a1 : Int32) (a2 : Int32) (a3 : Int32) (a4 : Int32) (M : Mem) (hf : f_X3_valueWith_j108 c b rec6 a0 a1 a2 a3 a4 M = some (r0, Mo)) : Go x D (tysOf ca) h (LaC ca h nl) 7 M 108 [some (.ref (h (80 + 2 * c))), some (.int a0), some (.int a1), some (.ref (h (HB b + 10))), some (.int a2), some (.int a3), some (.int a4)] [] := by
  rw [f_X3_valueWith_j108] at hf
  refine o_iload K 4 dX3_valueWith_108 rfl ?_
  refine o_iconst K 2 dX3_valueWith_110 (by decide) ?_
  refine o_icmp_lt K 139 dX3_valueWith_111 (by decide) (fun c18 => ?_) (fun c18 => ?_)
  · have hf := ip c18 hf
    refine o_drop [true, true, true, true, true, true, false] (V2 := [some (.ref (h (80 + 2 * c))), some (.int a0), some (.int a1), some (.ref (h (HB b + 10))), some (.int a2), some (.int a3), none]) rfl ?_
    exact t_X3_valueWith_j139 K hR hc hb ih6 a0 a1 a2 a3 M hf
  · have hf := im c18 hf
    obtain ⟨x19, ex19, hf⟩ := nm_o hf
    refine o_iinc K 4 x19 [some (.ref (h (80 + 2 * c))), some (.int a0), some (.int a1), some (.ref (h (HB b + 10))), some (.int x19), some (.int a3), some (.int a4)] dX3_valueWith_114 rfl (inc_e (by decide) ex19) (by decide) rfl rfl ?_
    refine o_aload_n K 3 dX3_valueWith_117 rfl rfl ?_
    refine o_iload K 4 dX3_valueWith_118 rfl ?_
    refine o_iconst K 1 dX3_valueWith_120 (by decide) ?_
    refine o_isub K dX3_valueWith_121 ?_
    refine o_iload K 6 dX3_valueWith_122 rfl ?_
    refine o_ineg K dX3_valueWith_124 ?_
    refine o_aload_n K 3 dX3_valueWith_125 rfl rfl ?_
    refine o_iload K 4 dX3_valueWith_126 rfl ?_
    refine o_iconst K 1 dX3_valueWith_128 (by decide) ?_
    refine o_isub K dX3_valueWith_129 ?_
    obtain ⟨g21, x20, ex20, hf⟩ := rd_e hf
    refine lCh hb 10 96 (by decide) (fun _ => rfl) K g21 dX3_valueWith_130 ?_
    refine o_nmi ex20 ?_
    refine o_aload_n K 3 dX3_valueWith_131 rfl rfl ?_
    refine o_iload K 4 dX3_valueWith_132 rfl ?_
    obtain ⟨g23, x22, ex22, hf⟩ := rd_e hf
    refine lCh hb 10 96 (by decide) (fun _ => rfl) K g23 dX3_valueWith_134 ?_
    refine o_nmi ex22 ?_
    obtain ⟨r24, er24, hf⟩ := bd_e hf
    refine o_callS K [.int (-a4), .int x20, .int x22] (k_X3_joined x.2.1 E D ca h nl M (-a4) x20 x22 er24) s_X3_20 rfl ⟨by decide, by decide⟩ (Nat.le_of_ble_eq_true rfl) _ rfl dX3_valueWith_135 ?_
    show Go x D (tysOf ca) h (LaC ca h nl) 7 M 138 [some (.ref (h (80 + 2 * c))), some (.int a0), some (.int a1), some (.ref (h (HB b + 10))), some (.int x19), some (.int a3), some (.int a4)] [.int r24, .int (x19 - 1), .ref (h (HB b + 10))]
    obtain ⟨g25, M26, eM26, hf⟩ := wr_e hf
    refine sCh hb 10 96 (by decide) (fun _ => rfl) K g25 dX3_valueWith_138 ?_
    refine o_nmM eM26 ?_
    refine o_drop [true, true, true, true, true, true, false] (V2 := [some (.ref (h (80 + 2 * c))), some (.int a0), some (.int a1), some (.ref (h (HB b + 10))), some (.int x19), some (.int a3), none]) rfl ?_
    exact t_X3_valueWith_j139 K hR hc hb ih6 a0 a1 x19 a3 M26 hf
def f_X3_valueWith_j72 (c : Nat) (b : Nat) (rec6 : Int32 → Int32 → Int32 → Int32 → Mem → Option (Int32 × Mem)) (a0 : Int32) (a1 : Int32) (a2 : Int32) (a3 : Int32) (a4 : Int32) (M : Mem) : Option (Int32 × Mem) := if a4 = (-33) then (if a2 < 1 then (f_X3_valueWith_j108 c b rec6 a0 a1 a2 a3 a4 M) else rd M (HB b + 10) 96 (a2 - 1) fun x12 => if x12 = 0 then (f_X3_valueWith_j104 c b rec6 a0 a1 a2 a3 (1 : Int32) (a2 - 1) M) else f_X3_valueWith_j104 c b rec6 a0 a1 a2 a3 (0 : Int32) (a2 - 1) M) else f_X3_valueWith_j108 c b rec6 a0 a1 a2 a3 a4 M
set_option maxHeartbeats 4000000 in
set_option maxRecDepth 100000 in
theorem t_X3_valueWith_j72 {x : En} {E : Amd} {D : va_G} {ca : Nat → ClassId} {h : Nat → Nat} {nl : Nat} {c : Nat} {b : Nat} (K : Kx x E D (tysOf ca) h (LaC ca h nl) RX3 cX3_valueWith 7 1 22) {r0 : Int32} {Mo : Mem} (hR : Rt x D h (LaC ca h nl) (some .int) (some (.int r0)) Mo) (hc : 1 ≤ c ∧ c ≤ nl) (hb : b < 3) {rec6 : Int32 → Int32 → Int32 → Int32 → Mem → Option (Int32 × Mem)} (ih6 : ∀ (w0 : Int32) (w1 : Int32) (w2 : Int32) (w3 : Int32) (M : Mem), rec6 w0 w1 w2 w3 M = some (r0, Mo) → Go x D (tysOf ca) h (LaC ca h nl) 7 M 6 [some (.ref (h (80 + 2 * c))), some (.int w0), some (.int w1), some (.ref (h (HB b + 10))), some (.int w2), some (.int w3), none] []) (a0 : Int32) (a1 : Int32) (a2 : Int32) (a3 : Int32) (a4 : Int32) (M : Mem) (hf : f_X3_valueWith_j72 c b rec6 a0 a1 a2 a3 a4 M = some (r0, Mo)) : Go x D (tysOf ca) h (LaC ca h nl) 7 M 72 [some (.ref (h (80 + 2 * c))), some (.int a0), some (.int a1), some (.ref (h (HB b + 10))), some (.int a2), some (.int a3), some (.int a4)] [] := by
  rw [f_X3_valueWith_j72] at hf
  refine o_iload K 6 dX3_valueWith_72 rfl ?_
  refine o_bipush K (-33) dX3_valueWith_74 (by decide) ?_
  refine o_icmp_ne K 108 dX3_valueWith_76 (by decide) (fun c10 => ?_) (fun c10 => ?_)
  · have hf := im c10 hf
    exact t_X3_valueWith_j108 K hR hc hb ih6 a0 a1 a2 a3 a4 M hf
  · have hf := ip c10 hf
    refine o_iload K 4 dX3_valueWith_79 rfl ?_
    refine o_iconst K 1 dX3_valueWith_81 (by decide) ?_
    refine o_icmp_lt K 108 dX3_valueWith_82 (by decide) (fun c11 => ?_) (fun c11 => ?_)
    · have hf := ip c11 hf
      exact t_X3_valueWith_j108 K hR hc hb ih6 a0 a1 a2 a3 a4 M hf
    · have hf := im c11 hf
      refine o_aload_n K 3 dX3_valueWith_85 rfl rfl ?_
      refine o_iload K 4 dX3_valueWith_86 rfl ?_
      refine o_iconst K 1 dX3_valueWith_88 (by decide) ?_
      refine o_isub K dX3_valueWith_89 ?_
      refine o_aload_n K 3 dX3_valueWith_90 rfl rfl ?_
      refine o_iload K 4 dX3_valueWith_91 rfl ?_
      refine o_iconst K 1 dX3_valueWith_93 (by decide) ?_
      refine o_isub K dX3_valueWith_94 ?_
      obtain ⟨g13, x12, ex12, hf⟩ := rd_e hf
      refine lCh hb 10 96 (by decide) (fun _ => rfl) K g13 dX3_valueWith_95 ?_
      refine o_nmi ex12 ?_
      refine o_if_ne K 103 dX3_valueWith_96 (by decide) (fun c14 => ?_) (fun c14 => ?_)
      · have hf := im c14 hf
        refine o_iconst K 0 dX3_valueWith_103 (by decide) ?_
        refine o_drop [true, true, true, true, true, true, false] (V2 := [some (.ref (h (80 + 2 * c))), some (.int a0), some (.int a1), some (.ref (h (HB b + 10))), some (.int a2), some (.int a3), none]) rfl ?_
        exact t_X3_valueWith_j104 K hR hc hb ih6 a0 a1 a2 a3 (0 : Int32) (a2 - 1) M hf
      · have hf := ip c14 hf
        refine o_iconst K 1 dX3_valueWith_99 (by decide) ?_
        refine o_goto K 104 dX3_valueWith_100 (by decide) ?_
        refine o_drop [true, true, true, true, true, true, false] (V2 := [some (.ref (h (80 + 2 * c))), some (.int a0), some (.int a1), some (.ref (h (HB b + 10))), some (.int a2), some (.int a3), none]) rfl ?_
        exact t_X3_valueWith_j104 K hR hc hb ih6 a0 a1 a2 a3 (1 : Int32) (a2 - 1) M hf
def f_X3_valueWith_l6 (c : Nat) (b : Nat) : Nat → Int32 → Int32 → Int32 → Int32 → Mem → Option (Int32 × Mem)
  | 0, _, _, _, _, _ => none
  | n + 1, a0, a1, a2, a3, M => if (Int32.ofNat (ix (M (81 + 2 * c) 1000))) ≤ a3 then (rd M (HB b + 10) 96 0 fun x2 => some (x2, M)) else rd M (81 + 2 * c) (ix (M (81 + 2 * c) 1000)) a3 fun x4 => if x4 < (-2) then (f_X3_valueWith_j72 c b (f_X3_valueWith_l6 c b n) a0 a1 a2 a3 x4 M) else if (Int32.ofNat 96) ≤ a2 then (f_X3_valueWith_j72 c b (f_X3_valueWith_l6 c b n) a0 a1 a2 a3 x4 M) else if x4 = (-1) then (f_X3_valueWith_j65 c b (f_X3_valueWith_l6 c b n) a0 a1 a2 a3 a0 a2 M) else if x4 = (-2) then (f_X3_valueWith_j65 c b (f_X3_valueWith_l6 c b n) a0 a1 a2 a3 a1 a2 M) else f_X3_valueWith_j65 c b (f_X3_valueWith_l6 c b n) a0 a1 a2 a3 x4 a2 M
set_option maxHeartbeats 4000000 in
set_option maxRecDepth 100000 in
theorem t_X3_valueWith_l6 {x : En} {E : Amd} {D : va_G} {ca : Nat → ClassId} {h : Nat → Nat} {nl : Nat} {c : Nat} {b : Nat} (K : Kx x E D (tysOf ca) h (LaC ca h nl) RX3 cX3_valueWith 7 1 22) {r0 : Int32} {Mo : Mem} (hR : Rt x D h (LaC ca h nl) (some .int) (some (.int r0)) Mo) (hc : 1 ≤ c ∧ c ≤ nl) (hb : b < 3) : ∀ (n : Nat) (a0 : Int32) (a1 : Int32) (a2 : Int32) (a3 : Int32) (M : Mem), f_X3_valueWith_l6 c b n a0 a1 a2 a3 M = some (r0, Mo) → Go x D (tysOf ca) h (LaC ca h nl) 7 M 6 [some (.ref (h (80 + 2 * c))), some (.int a0), some (.int a1), some (.ref (h (HB b + 10))), some (.int a2), some (.int a3), none] [] := by
  intro n
  induction n with
  | zero =>
    intro a0 a1 a2 a3 M hf
    cases hf
  | succ n ih =>
    intro a0 a1 a2 a3 M hf
    rw [f_X3_valueWith_l6] at hf
    refine o_iload K 5 dX3_valueWith_6 rfl ?_
    refine o_aload_n K 0 dX3_valueWith_8 rfl rfl ?_
    refine gC_X3_16 hc K dX3_valueWith_9 ?_
    refine nCc hc K dX3_valueWith_12 ?_
    refine o_icmp_ge K 145 dX3_valueWith_13 (by decide) (fun c1 => ?_) (fun c1 => ?_)
    · have hf := ip c1 hf
      refine o_aload_n K 3 dX3_valueWith_145 rfl rfl ?_
      refine o_iconst K 0 dX3_valueWith_146 (by decide) ?_
      obtain ⟨g3, x2, ex2, hf⟩ := rd_e hf
      refine lCh hb 10 96 (by decide) (fun _ => rfl) K g3 dX3_valueWith_147 ?_
      refine o_nmi ex2 ?_
      exact e_iret K hf hR dX3_valueWith_148
    · have hf := im c1 hf
      refine o_aload_n K 0 dX3_valueWith_16 rfl rfl ?_
      refine gC_X3_16 hc K dX3_valueWith_17 ?_
      refine o_iload K 5 dX3_valueWith_20 rfl ?_
      obtain ⟨g5, x4, ex4, hf⟩ := rd_e hf
      refine lCc hc K g5 dX3_valueWith_22 ?_
      refine o_nmi ex4 ?_
      refine o_istore K 6 [some (.ref (h (80 + 2 * c))), some (.int a0), some (.int a1), some (.ref (h (HB b + 10))), some (.int a2), some (.int a3), some (.int x4)] dX3_valueWith_23 (by decide) rfl rfl ?_
      refine o_iload K 6 dX3_valueWith_25 rfl ?_
      refine o_bipush K (-2) dX3_valueWith_27 (by decide) ?_
      refine o_icmp_lt K 72 dX3_valueWith_29 (by decide) (fun c6 => ?_) (fun c6 => ?_)
      · have hf := ip c6 hf
        exact t_X3_valueWith_j72 K hR hc hb ih a0 a1 a2 a3 x4 M hf
      · have hf := im c6 hf
        refine o_iload K 4 dX3_valueWith_32 rfl ?_
        refine o_aload_n K 3 dX3_valueWith_34 rfl rfl ?_
        refine nCh hb 10 96 (by decide) (fun _ => rfl) K dX3_valueWith_35 ?_
        refine o_icmp_ge K 72 dX3_valueWith_36 (by decide) (fun c7 => ?_) (fun c7 => ?_)
        · have hf := ip c7 hf
          exact t_X3_valueWith_j72 K hR hc hb ih a0 a1 a2 a3 x4 M hf
        · have hf := im c7 hf
          refine o_aload_n K 3 dX3_valueWith_39 rfl rfl ?_
          refine o_iload K 4 dX3_valueWith_40 rfl ?_
          refine o_iload K 6 dX3_valueWith_42 rfl ?_
          refine o_iconst K (-1) dX3_valueWith_44 (by decide) ?_
          refine o_icmp_ne K 52 dX3_valueWith_45 (by decide) (fun c8 => ?_) (fun c8 => ?_)
          · have hf := im c8 hf
            refine o_iload K 6 dX3_valueWith_52 rfl ?_
            refine o_bipush K (-2) dX3_valueWith_54 (by decide) ?_
            refine o_icmp_ne K 63 dX3_valueWith_56 (by decide) (fun c9 => ?_) (fun c9 => ?_)
            · have hf := im c9 hf
              refine o_iload K 6 dX3_valueWith_63 rfl ?_
              refine o_drop [true, true, true, true, true, true, false] (V2 := [some (.ref (h (80 + 2 * c))), some (.int a0), some (.int a1), some (.ref (h (HB b + 10))), some (.int a2), some (.int a3), none]) rfl ?_
              exact t_X3_valueWith_j65 K hR hc hb ih a0 a1 a2 a3 x4 a2 M hf
            · have hf := ip c9 hf
              refine o_iload_n K 2 dX3_valueWith_59 rfl rfl ?_
              refine o_goto K 65 dX3_valueWith_60 (by decide) ?_
              refine o_drop [true, true, true, true, true, true, false] (V2 := [some (.ref (h (80 + 2 * c))), some (.int a0), some (.int a1), some (.ref (h (HB b + 10))), some (.int a2), some (.int a3), none]) rfl ?_
              exact t_X3_valueWith_j65 K hR hc hb ih a0 a1 a2 a3 a1 a2 M hf
          · have hf := ip c8 hf
            refine o_iload_n K 1 dX3_valueWith_48 rfl rfl ?_
            refine o_goto K 65 dX3_valueWith_49 (by decide) ?_
            refine o_drop [true, true, true, true, true, true, false] (V2 := [some (.ref (h (80 + 2 * c))), some (.int a0), some (.int a1), some (.ref (h (HB b + 10))), some (.int a2), some (.int a3), none]) rfl ?_
            exact t_X3_valueWith_j65 K hR hc hb ih a0 a1 a2 a3 a0 a2 M hf
def f_X3_valueWith (c : Nat) (b : Nat) (M : Mem) (a1 : Int32) (a2 : Int32) : Option (Int32 × Mem) := f_X3_valueWith_l6 c b FU a1 a2 (0 : Int32) (0 : Int32) M
set_option maxHeartbeats 4000000 in
set_option maxRecDepth 100000 in
theorem k_X3_valueWith (l : Launch) (E : Amd) (D : va_G) (ca : Nat → ClassId) (h : Nat → Nat) (nl : Nat) (M : Mem) (c : Nat) (b : Nat) (a1 : Int32) (a2 : Int32) {r0 : Int32} {Mo : Mem} (hc : 1 ≤ c ∧ c ≤ nl) (hb : b < 3) (hf : f_X3_valueWith c b M a1 a2 = some (r0, Mo)) : Ct l E D (tysOf ca) h (LaC ca h nl) yX3_valueWith cX3_valueWith 7 (some .int) 1 22 [.ref (h (80 + 2 * c)), .int a1, .int a2, .ref (h (HB b + 10))] M (some (.int r0)) Mo := by
  refine Ct.mk [some (.ref (h (80 + 2 * c))), some (.int a1), some (.int a2), some (.ref (h (HB b + 10))), none, none, none] (by decide) (Nat.le_of_ble_eq_true rfl) (argsV [.ref (h (80 + 2 * c)), .int a1, .int a2, .ref (h (HB b + 10))] 3 rfl rfl) ?_
  intro x hx0 K hR
  have K : Kx x E D (tysOf ca) h (LaC ca h nl) RX3 cX3_valueWith 7 1 22 := K
  rw [f_X3_valueWith] at hf
  refine o_iconst K 0 dX3_valueWith_0 (by decide) ?_
  refine o_istore K 4 [some (.ref (h (80 + 2 * c))), some (.int a1), some (.int a2), some (.ref (h (HB b + 10))), some (.int 0), none, none] dX3_valueWith_1 (by decide) rfl rfl ?_
  refine o_iconst K 0 dX3_valueWith_3 (by decide) ?_
  refine o_istore K 5 [some (.ref (h (80 + 2 * c))), some (.int a1), some (.int a2), some (.ref (h (HB b + 10))), some (.int 0), some (.int 0), none] dX3_valueWith_4 (by decide) rfl rfl ?_
  exact t_X3_valueWith_l6 K hR hc hb FU a1 a2 (0 : Int32) (0 : Int32) M hf
def f_X5_valueOf (nl : Nat) (b : Nat) (M : Mem) (a1 : Int32) (a2 : Int32) (a3 : Int32) (a4 : Int32) : Option (Int32 × Mem) := rd M (HB b + 7) 3 a1 fun x1 => bd (f_X5_lawAt nl b M x1) fun r3 => if r3 = 0 then (some (a4, M)) else gd (lok nl r3) <| nm (ix r3) fun c6 => bd2 (f_X3_valueWith c6 b M a2 a3) fun r7 M8 => some (r7, M8)
set_option maxHeartbeats 4000000 in
set_option maxRecDepth 100000 in
theorem k_X5_valueOf (l : Launch) (E : Amd) (D : va_G) (ca : Nat → ClassId) (h : Nat → Nat) (nl : Nat) (M : Mem) (b : Nat) (a1 : Int32) (a2 : Int32) (a3 : Int32) (a4 : Int32) {r0 : Int32} {Mo : Mem} (hb : b < 3) (hf : f_X5_valueOf nl b M a1 a2 a3 a4 = some (r0, Mo)) : Ct l E D (tysOf ca) h (LaC ca h nl) yX5_valueOf cX5_valueOf 6 (some .int) 2 48 [.ref (h (HB b + 6)), .int a1, .int a2, .int a3, .int a4] M (some (.int r0)) Mo := by
  refine Ct.mk [some (.ref (h (HB b + 6))), some (.int a1), some (.int a2), some (.int a3), some (.int a4), none] (by decide) (Nat.le_of_ble_eq_true rfl) (argsV [.ref (h (HB b + 6)), .int a1, .int a2, .int a3, .int a4] 1 rfl rfl) ?_
  intro x hx0 K hR
  have K : Kx x E D (tysOf ca) h (LaC ca h nl) RX5 cX5_valueOf 6 2 48 := K
  rw [f_X5_valueOf] at hf
  refine o_aload_n K 0 dX5_valueOf_0 rfl rfl ?_
  refine o_aload_n K 0 dX5_valueOf_1 rfl rfl ?_
  refine gC_X5_16 hb K dX5_valueOf_2 ?_
  refine o_iload_n K 1 dX5_valueOf_5 rfl rfl ?_
  obtain ⟨g2, x1, ex1, hf⟩ := rd_e hf
  refine lCh hb 7 3 (by decide) (fun _ => rfl) K g2 dX5_valueOf_6 ?_
  refine o_nmi ex1 ?_
  obtain ⟨r3, er3, hf⟩ := bd_e hf
  refine o_callV K [.int x1] (k_X5_lawAt x.2.1 E D ca h nl M b x1 hb er3) s_X5_52 (ltLaws hb) (obLaws_c (ca := ca) (h := h) hb _) rfl rfl rfl ⟨by decide, by decide⟩ (Nat.le_of_ble_eq_true rfl) _ rfl dX5_valueOf_7 ?_
  show Go x D (tysOf ca) h (LaC ca h nl) 6 M 10 [some (.ref (h (HB b + 6))), some (.int a1), some (.int a2), some (.int a3), some (.int a4), none] [va_rf (lawAd h r3)]
  by_cases c4 : r3 = 0
  · have hf := ip c4 hf
    refine o_unull c4 ?_
    refine o_astoreN K 5 [some (.ref (h (HB b + 6))), some (.int a1), some (.int a2), some (.int a3), some (.int a4), some (.null)] dX5_valueOf_10 (by decide) rfl rfl ?_
    refine o_aloadN K 5 dX5_valueOf_12 rfl ?_
    refine o_ifnonnullN K dX5_valueOf_14 ?_
    refine o_iload K 4 dX5_valueOf_17 rfl ?_
    refine o_goto K 33 dX5_valueOf_19 (by decide) ?_
    exact e_iret K hf hR dX5_valueOf_33
  have hf := im c4 hf
  obtain ⟨g5, hf⟩ := gd_e hf
  obtain ⟨c6, ec6, hf⟩ := nm_o hf
  have hc6 := lok_e g5 ec6
  refine o_uref c4 ec6 ?_
  refine o_astore K 5 [some (.ref (h (HB b + 6))), some (.int a1), some (.int a2), some (.int a3), some (.int a4), some (.ref (h (80 + 2 * c6)))] dX5_valueOf_10 (by decide) rfl rfl ?_
  refine o_aload K 5 dX5_valueOf_12 rfl ?_
  refine o_ifnonnull K 22 dX5_valueOf_14 (by decide) ?_
  refine o_aload K 5 dX5_valueOf_22 rfl ?_
  refine o_iload_n K 2 dX5_valueOf_24 rfl rfl ?_
  refine o_iload_n K 3 dX5_valueOf_25 rfl rfl ?_
  refine o_aload_n K 0 dX5_valueOf_26 rfl rfl ?_
  refine gC_X5_29 hb K dX5_valueOf_27 ?_
  obtain ⟨r7, M8, er7, hf⟩ := bd2_e hf
  refine o_callV K [.int a2, .int a3, .ref (h (HB b + 10))] (k_X3_valueWith x.2.1 E D ca h nl M c6 b a2 a3 hc6 hb er7) s_X5_56 (ltLaw hc6) (obLaw_c (ca := ca) (h := h) hc6 _) rfl rfl rfl ⟨by decide, by decide⟩ (Nat.le_of_ble_eq_true rfl) _ rfl dX5_valueOf_30 ?_
  show Go x D (tysOf ca) h (LaC ca h nl) 6 M8 33 [some (.ref (h (HB b + 6))), some (.int a1), some (.int a2), some (.int a3), some (.int a4), some (.ref (h (80 + 2 * c6)))] [.int r7]
  exact e_iret K hf hR dX5_valueOf_33
def f_X9_heldWithin (a1 : Int32) (a2 : Int32) (a3 : Int32) : Option Int32 := some ((if a2 < (if a1 < a3 then a1 else a3) then (if a1 < a3 then a1 else a3) else a2))
set_option maxHeartbeats 4000000 in
set_option maxRecDepth 100000 in
theorem k_X9_heldWithin (l : Launch) (E : Amd) (D : va_G) (ca : Nat → ClassId) (h : Nat → Nat) (nl : Nat) (M : Mem) (a1 : Int32) (a2 : Int32) (a3 : Int32) {r0 : Int32} (hf : f_X9_heldWithin a1 a2 a3 = some r0) : Ct l E D (tysOf ca) h (LaC ca h nl) yX9_heldWithin cX9_heldWithin 3 (some .int) 1 27 [.int a1, .int a2, .int a3] M (some (.int r0)) M := by
  refine Ct.mk [some (.int a1), some (.int a2), some (.int a3)] (by decide) (Nat.le_of_ble_eq_true rfl) (argsV [.int a1, .int a2, .int a3] 0 rfl rfl) ?_
  intro x hx0 K hR
  have K : Kx x E D (tysOf ca) h (LaC ca h nl) RX9 cX9_heldWithin 3 1 27 := K
  rw [f_X9_heldWithin] at hf
  refine o_iload_n K 1 dX9_heldWithin_0 rfl rfl ?_
  refine o_iload_n K 2 dX9_heldWithin_1 rfl rfl ?_
  refine o_iload_n K 0 dX9_heldWithin_2 rfl rfl ?_
  refine o_mmin K q109 q110 q6 q111 ⟨by decide, by decide⟩ (Nat.le_of_ble_eq_true rfl) dX9_heldWithin_3 ?_
  refine o_mmax K q112 q113 q6 q114 ⟨by decide, by decide⟩ (Nat.le_of_ble_eq_true rfl) dX9_heldWithin_6 ?_
  exact r_iret K hf hR dX9_heldWithin_9
def f_X1_snuffCandles_j62 (nl : Nat) (b : Nat) (rec2 : Int32 → Mem → Option Mem) (a0 : Int32) (M : Mem) : Option Mem := nm (a0 + 1 : Int32) fun x16 => rec2 x16 M
set_option maxHeartbeats 4000000 in
set_option maxRecDepth 100000 in
theorem t_X1_snuffCandles_j62 {x : En} {E : Amd} {D : va_G} {ca : Nat → ClassId} {h : Nat → Nat} {nl : Nat} {b : Nat} (K : Kx x E D (tysOf ca) h (LaC ca h nl) RX1 cX1_snuffCandles 3 3 73) {Mo : Mem} (hR : Rt x D h (LaC ca h nl) none none Mo) (hb : b < 3) {rec2 : Int32 → Mem → Option Mem} (ih2 : ∀ (w0 : Int32) (M : Mem), rec2 w0 M = some Mo → Go x D (tysOf ca) h (LaC ca h nl) 3 M 2 [some (.ref (h (HB b))), some (.int w0), none] []) (a0 : Int32) (M : Mem) (hf : f_X1_snuffCandles_j62 nl b rec2 a0 M = some Mo) : Go x D (tysOf ca) h (LaC ca h nl) 3 M 62 [some (.ref (h (HB b))), some (.int a0), none] [] := by
  rw [f_X1_snuffCandles_j62] at hf
  obtain ⟨x16, ex16, hf⟩ := nm_o hf
  refine o_iinc K 1 x16 [some (.ref (h (HB b))), some (.int x16), none] dX1_snuffCandles_62 rfl (inc_e (by decide) ex16) (by decide) rfl rfl ?_
  refine o_goto K 2 dX1_snuffCandles_65 (by decide) ?_
  exact ih2 x16 M hf
def f_X1_snuffCandles_l2 (nl : Nat) (b : Nat) : Nat → Int32 → Mem → Option Mem
  | 0, _, _ => none
  | n + 1, a0, M => if 8 ≤ a0 then (some M) else bd (f_X1_isLit b M a0) fun r2 => if r2 = 0 then (f_X1_snuffCandles_j62 nl b (f_X1_snuffCandles_l2 nl b n) a0 M) else rd M (HB b + 12) 8 a0 fun x4 => rd M (HB b + 13) 8 a0 fun x6 => bd2 (f_X5_valueOf nl b M (1 : Int32) x4 x6 (20 : Int32)) fun r8 M9 => rd M9 (HB b + 15) 9 a0 fun x10 => bd (f_X9_heldWithin r8 (0 : Int32) (999 : Int32)) fun r12 => if x10 ≤ r12 then (f_X1_snuffCandles_j62 nl b (f_X1_snuffCandles_l2 nl b n) a0 M9) else bd (f_X1_light b M9 a0 (0 : Int32)) fun M15 => f_X1_snuffCandles_j62 nl b (f_X1_snuffCandles_l2 nl b n) a0 M15
set_option maxHeartbeats 4000000 in
set_option maxRecDepth 100000 in
theorem t_X1_snuffCandles_l2 {x : En} {E : Amd} {D : va_G} {ca : Nat → ClassId} {h : Nat → Nat} {nl : Nat} {b : Nat} (K : Kx x E D (tysOf ca) h (LaC ca h nl) RX1 cX1_snuffCandles 3 3 73) {Mo : Mem} (hR : Rt x D h (LaC ca h nl) none none Mo) (hb : b < 3) : ∀ (n : Nat) (a0 : Int32) (M : Mem), f_X1_snuffCandles_l2 nl b n a0 M = some Mo → Go x D (tysOf ca) h (LaC ca h nl) 3 M 2 [some (.ref (h (HB b))), some (.int a0), none] [] := by
  intro n
  induction n with
  | zero =>
    intro a0 M hf
    cases hf
  | succ n ih =>
    intro a0 M hf
    rw [f_X1_snuffCandles_l2] at hf
    refine o_iload_n K 1 dX1_snuffCandles_2 rfl rfl ?_
    refine o_bipush K 8 dX1_snuffCandles_3 (by decide) ?_
    refine o_icmp_ge K 68 dX1_snuffCandles_5 (by decide) (fun c1 => ?_) (fun c1 => ?_)
    · have hf := ip c1 hf
      exact e_vret K hf hR dX1_snuffCandles_68
    · have hf := im c1 hf
      refine o_aload_n K 0 dX1_snuffCandles_8 rfl rfl ?_
      refine o_iload_n K 1 dX1_snuffCandles_9 rfl rfl ?_
      obtain ⟨r2, er2, hf⟩ := bd_e hf
      refine o_callV K [.int a0] (k_X1_isLit x.2.1 E D ca h nl M b a0 hb er2) s_X1_129 (ltHall hb) (obHall_c (ca := ca) (h := h) hb _) rfl rfl rfl ⟨by decide, by decide⟩ (Nat.le_of_ble_eq_true rfl) _ rfl dX1_snuffCandles_10 ?_
      show Go x D (tysOf ca) h (LaC ca h nl) 3 M 13 [some (.ref (h (HB b))), some (.int a0), none] [.int r2]
      refine o_if_eq K 62 dX1_snuffCandles_13 (by decide) (fun c3 => ?_) (fun c3 => ?_)
      · have hf := ip c3 hf
        exact t_X1_snuffCandles_j62 K hR hb ih a0 M hf
      · have hf := im c3 hf
        refine o_aload_n K 0 dX1_snuffCandles_16 rfl rfl ?_
        refine gC_X1_21 hb K dX1_snuffCandles_17 ?_
        refine o_iconst K 1 dX1_snuffCandles_20 (by decide) ?_
        refine o_aload_n K 0 dX1_snuffCandles_21 rfl rfl ?_
        refine gC_X1_29 hb K dX1_snuffCandles_22 ?_
        refine o_iload_n K 1 dX1_snuffCandles_25 rfl rfl ?_
        obtain ⟨g5, x4, ex4, hf⟩ := rd_e hf
        refine lCh hb 12 8 (by decide) (fun _ => rfl) K g5 dX1_snuffCandles_26 ?_
        refine o_nmi ex4 ?_
        refine o_aload_n K 0 dX1_snuffCandles_27 rfl rfl ?_
        refine gC_X1_32 hb K dX1_snuffCandles_28 ?_
        refine o_iload_n K 1 dX1_snuffCandles_31 rfl rfl ?_
        obtain ⟨g7, x6, ex6, hf⟩ := rd_e hf
        refine lCh hb 13 8 (by decide) (fun _ => rfl) K g7 dX1_snuffCandles_32 ?_
        refine o_nmi ex6 ?_
        refine o_bipush K 20 dX1_snuffCandles_33 (by decide) ?_
        obtain ⟨r8, M9, er8, hf⟩ := bd2_e hf
        refine o_callV K [.int 1, .int x4, .int x6, .int 20] (k_X5_valueOf x.2.1 E D ca h nl M b (1 : Int32) x4 x6 (20 : Int32) hb er8) s_X1_133 (ltLaws hb) (obLaws_c (ca := ca) (h := h) hb _) rfl rfl rfl ⟨by decide, by decide⟩ (Nat.le_of_ble_eq_true rfl) _ rfl dX1_snuffCandles_35 ?_
        show Go x D (tysOf ca) h (LaC ca h nl) 3 M9 38 [some (.ref (h (HB b))), some (.int a0), none] [.int r8]
        refine o_istore_n K 2 [some (.ref (h (HB b))), some (.int a0), some (.int r8)] dX1_snuffCandles_38 rfl (by decide) rfl rfl ?_
        refine o_aload_n K 0 dX1_snuffCandles_39 rfl rfl ?_
        refine gC_X1_42 hb K dX1_snuffCandles_40 ?_
        refine o_iload_n K 1 dX1_snuffCandles_43 rfl rfl ?_
        obtain ⟨g11, x10, ex10, hf⟩ := rd_e hf
        refine lCh hb 15 9 (by decide) (fun _ => rfl) K g11 dX1_snuffCandles_44 ?_
        refine o_nmi ex10 ?_
        refine o_iload_n K 2 dX1_snuffCandles_45 rfl rfl ?_
        refine o_iconst K 0 dX1_snuffCandles_46 (by decide) ?_
        refine o_sipush K 999 dX1_snuffCandles_47 (by decide) ?_
        obtain ⟨r12, er12, hf⟩ := bd_e hf
        refine o_callSN K [.int r8, .int 0, .int 999] (k_X9_heldWithin x.2.1 E D ca h nl M9 r8 (0 : Int32) (999 : Int32) er12) s_X1_137 rfl ⟨by decide, by decide⟩ (Nat.le_of_ble_eq_true rfl) _ rfl dX1_snuffCandles_50 ?_
        show Go x D (tysOf ca) h (LaC ca h nl) 3 M9 53 [some (.ref (h (HB b))), some (.int a0), some (.int r8)] [.int r12, .int x10]
        refine o_icmp_le K 62 dX1_snuffCandles_53 (by decide) (fun c13 => ?_) (fun c13 => ?_)
        · have hf := ip c13 hf
          refine o_drop [true, true, false] (V2 := [some (.ref (h (HB b))), some (.int a0), none]) rfl ?_
          exact t_X1_snuffCandles_j62 K hR hb ih a0 M9 hf
        · have hf := im c13 hf
          refine o_aload_n K 0 dX1_snuffCandles_56 rfl rfl ?_
          refine o_iload_n K 1 dX1_snuffCandles_57 rfl rfl ?_
          refine o_iconst K 0 dX1_snuffCandles_58 (by decide) ?_
          obtain ⟨M15, er14, hf⟩ := bd_e hf
          refine o_callV K [.int a0, .int 0] (k_X1_light x.2.1 E D ca h nl M9 b a0 (0 : Int32) hb er14) s_X1_140 (ltHall hb) (obHall_c (ca := ca) (h := h) hb _) rfl rfl rfl ⟨by decide, by decide⟩ (Nat.le_of_ble_eq_true rfl) _ rfl dX1_snuffCandles_59 ?_
          show Go x D (tysOf ca) h (LaC ca h nl) 3 M15 62 [some (.ref (h (HB b))), some (.int a0), some (.int r8)] []
          refine o_drop [true, true, false] (V2 := [some (.ref (h (HB b))), some (.int a0), none]) rfl ?_
          exact t_X1_snuffCandles_j62 K hR hb ih a0 M15 hf
def f_X1_snuffCandles (nl : Nat) (b : Nat) (M : Mem) : Option Mem := f_X1_snuffCandles_l2 nl b FU (0 : Int32) M
set_option maxHeartbeats 4000000 in
set_option maxRecDepth 100000 in
theorem k_X1_snuffCandles (l : Launch) (E : Amd) (D : va_G) (ca : Nat → ClassId) (h : Nat → Nat) (nl : Nat) (M : Mem) (b : Nat) {Mo : Mem} (hb : b < 3) (hf : f_X1_snuffCandles nl b M = some Mo) : Ct l E D (tysOf ca) h (LaC ca h nl) yX1_snuffCandles cX1_snuffCandles 3 none 3 73 [.ref (h (HB b))] M none Mo := by
  refine Ct.mk [some (.ref (h (HB b))), none, none] (by decide) (Nat.le_of_ble_eq_true rfl) (argsV [.ref (h (HB b))] 2 rfl rfl) ?_
  intro x hx0 K hR
  have K : Kx x E D (tysOf ca) h (LaC ca h nl) RX1 cX1_snuffCandles 3 3 73 := K
  rw [f_X1_snuffCandles] at hf
  refine o_iconst K 0 dX1_snuffCandles_0 (by decide) ?_
  refine o_istore_n K 1 [some (.ref (h (HB b))), some (.int 0), none] dX1_snuffCandles_1 rfl (by decide) rfl rfl ?_
  exact t_X1_snuffCandles_l2 K hR hb FU (0 : Int32) M hf
def f_X1_passMinute (nl : Nat) (b : Nat) (M : Mem) : Option Mem := bd (f_X1_measureFlows b M) fun M2 => bd (f_X1_carryScent b M2) fun M4 => bd (f_X1_moveAir b M4) fun M6 => bd (f_X1_snuffCandles nl b M6) fun M8 => nm (sto M8 (HB b) 7 ((M8 (HB b) 7) + 1)) fun M9 => some M9
set_option maxHeartbeats 4000000 in
set_option maxRecDepth 100000 in
theorem k_X1_passMinute (l : Launch) (E : Amd) (D : va_G) (ca : Nat → ClassId) (h : Nat → Nat) (nl : Nat) (M : Mem) (b : Nat) {Mo : Mem} (hb : b < 3) (hf : f_X1_passMinute nl b M = some Mo) : Ct l E D (tysOf ca) h (LaC ca h nl) yX1_passMinute cX1_passMinute 1 none 4 95 [.ref (h (HB b))] M none Mo := by
  refine Ct.mk [some (.ref (h (HB b)))] (by decide) (Nat.le_of_ble_eq_true rfl) (argsV [.ref (h (HB b))] 0 rfl rfl) ?_
  intro x hx0 K hR
  have K : Kx x E D (tysOf ca) h (LaC ca h nl) RX1 cX1_passMinute 1 4 95 := K
  rw [f_X1_passMinute] at hf
  refine o_aload_n K 0 dX1_passMinute_0 rfl rfl ?_
  obtain ⟨M2, er1, hf⟩ := bd_e hf
  refine o_callV K [] (k_X1_measureFlows x.2.1 E D ca h nl M b hb er1) s_X1_113 (ltHall hb) (obHall_c (ca := ca) (h := h) hb _) rfl rfl rfl ⟨by decide, by decide⟩ (Nat.le_of_ble_eq_true rfl) _ rfl dX1_passMinute_1 ?_
  show Go x D (tysOf ca) h (LaC ca h nl) 1 M2 4 [some (.ref (h (HB b)))] []
  refine o_aload_n K 0 dX1_passMinute_4 rfl rfl ?_
  obtain ⟨M4, er3, hf⟩ := bd_e hf
  refine o_callV K [] (k_X1_carryScent x.2.1 E D ca h nl M2 b hb er3) s_X1_144 (ltHall hb) (obHall_c (ca := ca) (h := h) hb _) rfl rfl rfl ⟨by decide, by decide⟩ (Nat.le_of_ble_eq_true rfl) _ rfl dX1_passMinute_5 ?_
  show Go x D (tysOf ca) h (LaC ca h nl) 1 M4 8 [some (.ref (h (HB b)))] []
  refine o_aload_n K 0 dX1_passMinute_8 rfl rfl ?_
  obtain ⟨M6, er5, hf⟩ := bd_e hf
  refine o_callV K [] (k_X1_moveAir x.2.1 E D ca h nl M4 b hb er5) s_X1_147 (ltHall hb) (obHall_c (ca := ca) (h := h) hb _) rfl rfl rfl ⟨by decide, by decide⟩ (Nat.le_of_ble_eq_true rfl) _ rfl dX1_passMinute_9 ?_
  show Go x D (tysOf ca) h (LaC ca h nl) 1 M6 12 [some (.ref (h (HB b)))] []
  refine o_aload_n K 0 dX1_passMinute_12 rfl rfl ?_
  obtain ⟨M8, er7, hf⟩ := bd_e hf
  refine o_callV K [] (k_X1_snuffCandles x.2.1 E D ca h nl M6 b hb er7) s_X1_150 (ltHall hb) (obHall_c (ca := ca) (h := h) hb _) rfl rfl rfl ⟨by decide, by decide⟩ (Nat.le_of_ble_eq_true rfl) _ rfl dX1_passMinute_13 ?_
  show Go x D (tysOf ca) h (LaC ca h nl) 1 M8 16 [some (.ref (h (HB b)))] []
  refine o_aload_n K 0 dX1_passMinute_16 rfl rfl ?_
  refine o_dup K dX1_passMinute_17 rfl ?_
  refine gC_X1_77 hb K dX1_passMinute_18 ?_
  refine o_iconst K 1 dX1_passMinute_21 (by decide) ?_
  refine o_iadd K dX1_passMinute_22 ?_
  obtain ⟨M9, eM9, hf⟩ := nm_o hf
  refine pC_X1_77 hb K dX1_passMinute_23 ?_
  refine o_nmM eM9 ?_
  exact e_vret K hf hR dX1_passMinute_26
def f_X1_draw (b : Nat) (M : Mem) : Option (Int32 × Mem) := nm (sto M (HB b) 8 (((M (HB b) 8) * 1103515245) + 12345)) fun M1 => some (((M1 (HB b) 8).toUInt32 >>> ((8 : Int32).toUInt32 &&& Int32.toUInt32 31)).toInt32, M1)
set_option maxHeartbeats 4000000 in
set_option maxRecDepth 100000 in
theorem k_X1_draw (l : Launch) (E : Amd) (D : va_G) (ca : Nat → ClassId) (h : Nat → Nat) (nl : Nat) (M : Mem) (b : Nat) {r0 : Int32} {Mo : Mem} (hb : b < 3) (hf : f_X1_draw b M = some (r0, Mo)) : Ct l E D (tysOf ca) h (LaC ca h nl) yX1_draw cX1_draw 1 (some .int) 0 0 [.ref (h (HB b))] M (some (.int r0)) Mo := by
  refine Ct.mk [some (.ref (h (HB b)))] (by decide) (Nat.le_of_ble_eq_true rfl) (argsV [.ref (h (HB b))] 0 rfl rfl) ?_
  intro x hx0 K hR
  have K : Kx x E D (tysOf ca) h (LaC ca h nl) RX1 cX1_draw 1 0 0 := K
  rw [f_X1_draw] at hf
  refine o_aload_n K 0 dX1_draw_0 rfl rfl ?_
  refine o_aload_n K 0 dX1_draw_1 rfl rfl ?_
  refine gC_X1_35 hb K dX1_draw_2 ?_
  refine o_ldc K q434 dX1_draw_5 ?_
  refine o_imul K dX1_draw_7 ?_
  refine o_sipush K 12345 dX1_draw_8 (by decide) ?_
  refine o_iadd K dX1_draw_11 ?_
  obtain ⟨M1, eM1, hf⟩ := nm_o hf
  refine pC_X1_35 hb K dX1_draw_12 ?_
  refine o_nmM eM1 ?_
  refine o_aload_n K 0 dX1_draw_15 rfl rfl ?_
  refine gC_X1_35 hb K dX1_draw_16 ?_
  refine o_bipush K 8 dX1_draw_19 (by decide) ?_
  refine o_iushr K dX1_draw_21 ?_
  exact e_iret K hf hR dX1_draw_22
def f_X1_drawDoor (b : Nat) (M : Mem) : Option Mem := bd2 (f_X1_draw b M) fun r1 M2 => nm (r1 - r1 / 6 * 6 : Int32) fun x3 => bd2 (f_X1_draw b M2) fun r4 M5 => nm (r4 - r4 / 8 * 8 : Int32) fun x6 => bd2 (f_X1_draw b M5) fun r7 M8 => nm (((x6 + 1) + (r7 - r7 / 8 * 8)) - ((x6 + 1) + (r7 - r7 / 8 * 8)) / 9 * 9 : Int32) fun x9 => bd2 (f_X1_draw b M8) fun r10 M11 => nm ((1 : Int32) + (r10 - r10 / 9 * 9) : Int32) fun x12 => bd2 (f_X0_add b M11 x3 x6 x9 x12) fun r13 M14 => bd (f_X0_swing b M14 r13 (1 : Int32)) fun M16 => some M16
set_option maxHeartbeats 4000000 in
set_option maxRecDepth 100000 in
theorem k_X1_drawDoor (l : Launch) (E : Amd) (D : va_G) (ca : Nat → ClassId) (h : Nat → Nat) (nl : Nat) (M : Mem) (b : Nat) {Mo : Mem} (hb : b < 3) (hf : f_X1_drawDoor b M = some Mo) : Ct l E D (tysOf ca) h (LaC ca h nl) yX1_drawDoor cX1_drawDoor 5 none 1 25 [.ref (h (HB b))] M none Mo := by
  refine Ct.mk [some (.ref (h (HB b))), none, none, none, none] (by decide) (Nat.le_of_ble_eq_true rfl) (argsV [.ref (h (HB b))] 4 rfl rfl) ?_
  intro x hx0 K hR
  have K : Kx x E D (tysOf ca) h (LaC ca h nl) RX1 cX1_drawDoor 5 1 25 := K
  rw [f_X1_drawDoor] at hf
  refine o_aload_n K 0 dX1_drawDoor_0 rfl rfl ?_
  obtain ⟨r1, M2, er1, hf⟩ := bd2_e hf
  refine o_callV K [] (k_X1_draw x.2.1 E D ca h nl M b hb er1) s_X1_154 (ltHall hb) (obHall_c (ca := ca) (h := h) hb _) rfl rfl rfl ⟨by decide, by decide⟩ (Nat.le_of_ble_eq_true rfl) _ rfl dX1_drawDoor_1 ?_
  show Go x D (tysOf ca) h (LaC ca h nl) 5 M2 4 [some (.ref (h (HB b))), none, none, none, none] [.int r1]
  refine o_bipush K 6 dX1_drawDoor_4 (by decide) ?_
  refine o_irem K dX1_drawDoor_6 (by decide) ?_
  obtain ⟨x3, ex3, hf⟩ := nm_o hf
  refine o_nmi ex3 ?_
  refine o_istore_n K 1 [some (.ref (h (HB b))), some (.int x3), none, none, none] dX1_drawDoor_7 rfl (by decide) rfl rfl ?_
  refine o_aload_n K 0 dX1_drawDoor_8 rfl rfl ?_
  obtain ⟨r4, M5, er4, hf⟩ := bd2_e hf
  refine o_callV K [] (k_X1_draw x.2.1 E D ca h nl M2 b hb er4) s_X1_154 (ltHall hb) (obHall_c (ca := ca) (h := h) hb _) rfl rfl rfl ⟨by decide, by decide⟩ (Nat.le_of_ble_eq_true rfl) _ rfl dX1_drawDoor_9 ?_
  show Go x D (tysOf ca) h (LaC ca h nl) 5 M5 12 [some (.ref (h (HB b))), some (.int x3), none, none, none] [.int r4]
  refine o_bipush K 8 dX1_drawDoor_12 (by decide) ?_
  refine o_irem K dX1_drawDoor_14 (by decide) ?_
  obtain ⟨x6, ex6, hf⟩ := nm_o hf
  refine o_nmi ex6 ?_
  refine o_istore_n K 2 [some (.ref (h (HB b))), some (.int x3), some (.int x6), none, none] dX1_drawDoor_15 rfl (by decide) rfl rfl ?_
  refine o_iload_n K 2 dX1_drawDoor_16 rfl rfl ?_
  refine o_iconst K 1 dX1_drawDoor_17 (by decide) ?_
  refine o_iadd K dX1_drawDoor_18 ?_
  refine o_aload_n K 0 dX1_drawDoor_19 rfl rfl ?_
  obtain ⟨r7, M8, er7, hf⟩ := bd2_e hf
  refine o_callV K [] (k_X1_draw x.2.1 E D ca h nl M5 b hb er7) s_X1_154 (ltHall hb) (obHall_c (ca := ca) (h := h) hb _) rfl rfl rfl ⟨by decide, by decide⟩ (Nat.le_of_ble_eq_true rfl) _ rfl dX1_drawDoor_20 ?_
  show Go x D (tysOf ca) h (LaC ca h nl) 5 M8 23 [some (.ref (h (HB b))), some (.int x3), some (.int x6), none, none] [.int r7, .int (x6 + 1)]
  refine o_bipush K 8 dX1_drawDoor_23 (by decide) ?_
  refine o_irem K dX1_drawDoor_25 (by decide) ?_
  refine o_iadd K dX1_drawDoor_26 ?_
  refine o_bipush K 9 dX1_drawDoor_27 (by decide) ?_
  refine o_irem K dX1_drawDoor_29 (by decide) ?_
  obtain ⟨x9, ex9, hf⟩ := nm_o hf
  refine o_nmi ex9 ?_
  refine o_istore_n K 3 [some (.ref (h (HB b))), some (.int x3), some (.int x6), some (.int x9), none] dX1_drawDoor_30 rfl (by decide) rfl rfl ?_
  refine o_iconst K 1 dX1_drawDoor_31 (by decide) ?_
  refine o_aload_n K 0 dX1_drawDoor_32 rfl rfl ?_
  obtain ⟨r10, M11, er10, hf⟩ := bd2_e hf
  refine o_callV K [] (k_X1_draw x.2.1 E D ca h nl M8 b hb er10) s_X1_154 (ltHall hb) (obHall_c (ca := ca) (h := h) hb _) rfl rfl rfl ⟨by decide, by decide⟩ (Nat.le_of_ble_eq_true rfl) _ rfl dX1_drawDoor_33 ?_
  show Go x D (tysOf ca) h (LaC ca h nl) 5 M11 36 [some (.ref (h (HB b))), some (.int x3), some (.int x6), some (.int x9), none] [.int r10, .int 1]
  refine o_bipush K 9 dX1_drawDoor_36 (by decide) ?_
  refine o_irem K dX1_drawDoor_38 (by decide) ?_
  refine o_iadd K dX1_drawDoor_39 ?_
  obtain ⟨x12, ex12, hf⟩ := nm_o hf
  refine o_nmi ex12 ?_
  refine o_istore K 4 [some (.ref (h (HB b))), some (.int x3), some (.int x6), some (.int x9), some (.int x12)] dX1_drawDoor_40 (by decide) rfl rfl ?_
  refine o_aload_n K 0 dX1_drawDoor_42 rfl rfl ?_
  refine gC_X1_12 hb K dX1_drawDoor_43 ?_
  refine o_aload_n K 0 dX1_drawDoor_46 rfl rfl ?_
  refine gC_X1_12 hb K dX1_drawDoor_47 ?_
  refine o_iload_n K 1 dX1_drawDoor_50 rfl rfl ?_
  refine o_iload_n K 2 dX1_drawDoor_51 rfl rfl ?_
  refine o_iload_n K 3 dX1_drawDoor_52 rfl rfl ?_
  refine o_iload K 4 dX1_drawDoor_53 rfl ?_
  obtain ⟨r13, M14, er13, hf⟩ := bd2_e hf
  refine o_callV K [.int x3, .int x6, .int x9, .int x12] (k_X0_add x.2.1 E D ca h nl M11 b x3 x6 x9 x12 hb er13) s_X1_160 (ltDoors hb) (obDoors_c (ca := ca) (h := h) hb _) rfl rfl rfl ⟨by decide, by decide⟩ (Nat.le_of_ble_eq_true rfl) _ rfl dX1_drawDoor_55 ?_
  show Go x D (tysOf ca) h (LaC ca h nl) 5 M14 58 [some (.ref (h (HB b))), some (.int x3), some (.int x6), some (.int x9), some (.int x12)] [.int r13, .ref (h (HB b + 1))]
  refine o_iconst K 1 dX1_drawDoor_58 (by decide) ?_
  obtain ⟨M16, er15, hf⟩ := bd_e hf
  refine o_callV K [.int r13, .int 1] (k_X0_swing x.2.1 E D ca h nl M14 b r13 (1 : Int32) hb er15) s_X1_163 (ltDoors hb) (obDoors_c (ca := ca) (h := h) hb _) rfl rfl rfl ⟨by decide, by decide⟩ (Nat.le_of_ble_eq_true rfl) _ rfl dX1_drawDoor_59 ?_
  show Go x D (tysOf ca) h (LaC ca h nl) 5 M16 62 [some (.ref (h (HB b))), some (.int x3), some (.int x6), some (.int x9), some (.int x12)] []
  exact e_vret K hf hR dX1_drawDoor_62
def f_X1_goRound_j33 (b : Nat) (rec2 : Int32 → Int32 → Mem → Option Mem) (a0 : Int32) (a1 : Int32) (M : Mem) : Option Mem := nm (a1 + 1 : Int32) fun x7 => rec2 a0 x7 M
set_option maxHeartbeats 4000000 in
set_option maxRecDepth 100000 in
theorem t_X1_goRound_j33 {x : En} {E : Amd} {D : va_G} {ca : Nat → ClassId} {h : Nat → Nat} {nl : Nat} {b : Nat} (K : Kx x E D (tysOf ca) h (LaC ca h nl) RX1 cX1_goRound 3 1 22) {Mo : Mem} (hR : Rt x D h (LaC ca h nl) none none Mo) (hb : b < 3) {rec2 : Int32 → Int32 → Mem → Option Mem} (ih2 : ∀ (w0 : Int32) (w1 : Int32) (M : Mem), rec2 w0 w1 M = some Mo → Go x D (tysOf ca) h (LaC ca h nl) 3 M 2 [some (.ref (h (HB b))), some (.int w0), some (.int w1)] []) (a0 : Int32) (a1 : Int32) (M : Mem) (hf : f_X1_goRound_j33 b rec2 a0 a1 M = some Mo) : Go x D (tysOf ca) h (LaC ca h nl) 3 M 33 [some (.ref (h (HB b))), some (.int a0), some (.int a1)] [] := by
  rw [f_X1_goRound_j33] at hf
  obtain ⟨x7, ex7, hf⟩ := nm_o hf
  refine o_iinc K 2 x7 [some (.ref (h (HB b))), some (.int a0), some (.int x7)] dX1_goRound_33 rfl (inc_e (by decide) ex7) (by decide) rfl rfl ?_
  refine o_goto K 2 dX1_goRound_36 (by decide) ?_
  exact ih2 a0 x7 M hf
def f_X1_goRound_l2 (b : Nat) : Nat → Int32 → Int32 → Mem → Option Mem
  | 0, _, _, _ => none
  | n + 1, a0, a1, M => if (M (HB b + 1) 0) ≤ a1 then (some M) else bd2 (f_X1_draw b M) fun r2 M3 => if a0 ≤ (r2 - r2 / 100 * 100) then (f_X1_goRound_j33 b (f_X1_goRound_l2 b n) a0 a1 M3) else bd (f_X0_swing b M3 a1 (0 : Int32)) fun M6 => f_X1_goRound_j33 b (f_X1_goRound_l2 b n) a0 a1 M6
set_option maxHeartbeats 4000000 in
set_option maxRecDepth 100000 in
theorem t_X1_goRound_l2 {x : En} {E : Amd} {D : va_G} {ca : Nat → ClassId} {h : Nat → Nat} {nl : Nat} {b : Nat} (K : Kx x E D (tysOf ca) h (LaC ca h nl) RX1 cX1_goRound 3 1 22) {Mo : Mem} (hR : Rt x D h (LaC ca h nl) none none Mo) (hb : b < 3) : ∀ (n : Nat) (a0 : Int32) (a1 : Int32) (M : Mem), f_X1_goRound_l2 b n a0 a1 M = some Mo → Go x D (tysOf ca) h (LaC ca h nl) 3 M 2 [some (.ref (h (HB b))), some (.int a0), some (.int a1)] [] := by
  intro n
  induction n with
  | zero =>
    intro a0 a1 M hf
    cases hf
  | succ n ih =>
    intro a0 a1 M hf
    rw [f_X1_goRound_l2] at hf
    refine o_iload_n K 2 dX1_goRound_2 rfl rfl ?_
    refine o_aload_n K 0 dX1_goRound_3 rfl rfl ?_
    refine gC_X1_12 hb K dX1_goRound_4 ?_
    refine gC_X1_116 hb K dX1_goRound_7 ?_
    refine o_icmp_ge K 39 dX1_goRound_10 (by decide) (fun c1 => ?_) (fun c1 => ?_)
    · have hf := ip c1 hf
      exact e_vret K hf hR dX1_goRound_39
    · have hf := im c1 hf
      refine o_aload_n K 0 dX1_goRound_13 rfl rfl ?_
      obtain ⟨r2, M3, er2, hf⟩ := bd2_e hf
      refine o_callV K [] (k_X1_draw x.2.1 E D ca h nl M b hb er2) s_X1_154 (ltHall hb) (obHall_c (ca := ca) (h := h) hb _) rfl rfl rfl ⟨by decide, by decide⟩ (Nat.le_of_ble_eq_true rfl) _ rfl dX1_goRound_14 ?_
      show Go x D (tysOf ca) h (LaC ca h nl) 3 M3 17 [some (.ref (h (HB b))), some (.int a0), some (.int a1)] [.int r2]
      refine o_bipush K 100 dX1_goRound_17 (by decide) ?_
      refine o_irem K dX1_goRound_19 (by decide) ?_
      refine o_iload_n K 1 dX1_goRound_20 rfl rfl ?_
      refine o_icmp_ge K 33 dX1_goRound_21 (by decide) (fun c4 => ?_) (fun c4 => ?_)
      · have hf := ip c4 hf
        exact t_X1_goRound_j33 K hR hb ih a0 a1 M3 hf
      · have hf := im c4 hf
        refine o_aload_n K 0 dX1_goRound_24 rfl rfl ?_
        refine gC_X1_12 hb K dX1_goRound_25 ?_
        refine o_iload_n K 2 dX1_goRound_28 rfl rfl ?_
        refine o_iconst K 0 dX1_goRound_29 (by decide) ?_
        obtain ⟨M6, er5, hf⟩ := bd_e hf
        refine o_callV K [.int a1, .int 0] (k_X0_swing x.2.1 E D ca h nl M3 b a1 (0 : Int32) hb er5) s_X1_163 (ltDoors hb) (obDoors_c (ca := ca) (h := h) hb _) rfl rfl rfl ⟨by decide, by decide⟩ (Nat.le_of_ble_eq_true rfl) _ rfl dX1_goRound_30 ?_
        show Go x D (tysOf ca) h (LaC ca h nl) 3 M6 33 [some (.ref (h (HB b))), some (.int a0), some (.int a1)] []
        exact t_X1_goRound_j33 K hR hb ih a0 a1 M6 hf
def f_X1_goRound (b : Nat) (M : Mem) (a1 : Int32) : Option Mem := f_X1_goRound_l2 b FU a1 (0 : Int32) M
set_option maxHeartbeats 4000000 in
set_option maxRecDepth 100000 in
theorem k_X1_goRound (l : Launch) (E : Amd) (D : va_G) (ca : Nat → ClassId) (h : Nat → Nat) (nl : Nat) (M : Mem) (b : Nat) (a1 : Int32) {Mo : Mem} (hb : b < 3) (hf : f_X1_goRound b M a1 = some Mo) : Ct l E D (tysOf ca) h (LaC ca h nl) yX1_goRound cX1_goRound 3 none 1 22 [.ref (h (HB b)), .int a1] M none Mo := by
  refine Ct.mk [some (.ref (h (HB b))), some (.int a1), none] (by decide) (Nat.le_of_ble_eq_true rfl) (argsV [.ref (h (HB b)), .int a1] 1 rfl rfl) ?_
  intro x hx0 K hR
  have K : Kx x E D (tysOf ca) h (LaC ca h nl) RX1 cX1_goRound 3 1 22 := K
  rw [f_X1_goRound] at hf
  refine o_iconst K 0 dX1_goRound_0 (by decide) ?_
  refine o_istore_n K 2 [some (.ref (h (HB b))), some (.int a1), some (.int 0)] dX1_goRound_1 rfl (by decide) rfl rfl ?_
  exact t_X1_goRound_l2 K hR hb FU a1 (0 : Int32) M hf
def f_X2_isKind (a1 : Int32) : Option Int32 := bd (f_X9_isWithin a1 (0 : Int32) (5 : Int32)) fun r1 => gd (bz r1) <| some (r1)
set_option maxHeartbeats 4000000 in
set_option maxRecDepth 100000 in
theorem k_X2_isKind (l : Launch) (E : Amd) (D : va_G) (ca : Nat → ClassId) (h : Nat → Nat) (nl : Nat) (M : Mem) (a1 : Int32) {r0 : Int32} (hf : f_X2_isKind a1 = some r0) : Ct l E D (tysOf ca) h (LaC ca h nl) yX2_isKind cX2_isKind 1 (some .boolean) 1 22 [.int a1] M (some (.int r0)) M := by
  refine Ct.mk [some (.int a1)] (by decide) (Nat.le_of_ble_eq_true rfl) (argsV [.int a1] 0 rfl rfl) ?_
  intro x hx0 K hR
  have K : Kx x E D (tysOf ca) h (LaC ca h nl) RX2 cX2_isKind 1 1 22 := K
  rw [f_X2_isKind] at hf
  refine o_iload_n K 0 dX2_isKind_0 rfl rfl ?_
  refine o_iconst K 0 dX2_isKind_1 (by decide) ?_
  refine o_iconst K 5 dX2_isKind_2 (by decide) ?_
  obtain ⟨r1, er1, hf⟩ := bd_e hf
  refine o_callSN K [.int a1, .int 0, .int 5] (k_X9_isWithin x.2.1 E D ca h nl M a1 (0 : Int32) (5 : Int32) er1) s_X2_9 rfl ⟨by decide, by decide⟩ (Nat.le_of_ble_eq_true rfl) _ rfl dX2_isKind_3 ?_
  show Go x D (tysOf ca) h (LaC ca h nl) 1 M 6 [some (.int a1)] [.int r1]
  obtain ⟨g2, hf⟩ := gd_e hf
  exact r_zret K hf hR g2 dX2_isKind_6
def f_X2_isOf_l4 : Nat → Int32 → Int32 → Int32 → Mem → Option Int32
  | 0, _, _, _, _ => none
  | n + 1, a0, a1, a2, M => if 6 ≤ a2 then (some ((0 : Int32))) else if a1 = (-1) then (some ((0 : Int32))) else if a1 = a0 then (some ((1 : Int32))) else gd (ib a1 6) <| nm (aboveV (ix a1)) fun x4 => nm (a2 + 1 : Int32) fun x6 => f_X2_isOf_l4 n a0 x4 x6 M
set_option maxHeartbeats 4000000 in
set_option maxRecDepth 100000 in
theorem t_X2_isOf_l4 {x : En} {E : Amd} {D : va_G} {ca : Nat → ClassId} {h : Nat → Nat} {nl : Nat} {M : Mem} (K : Kx x E D (tysOf ca) h (LaC ca h nl) RX2 cX2_isOf 4 0 0) {r0 : Int32} (hR : Rt x D h (LaC ca h nl) (some .boolean) (some (.int r0)) M) : ∀ (n : Nat) (a0 : Int32) (a1 : Int32) (a2 : Int32), f_X2_isOf_l4 n a0 a1 a2 M = some r0 → Go x D (tysOf ca) h (LaC ca h nl) 4 M 4 [none, some (.int a0), some (.int a1), some (.int a2)] [] := by
  intro n
  induction n with
  | zero =>
    intro a0 a1 a2 hf
    cases hf
  | succ n ih =>
    intro a0 a1 a2 hf
    rw [f_X2_isOf_l4] at hf
    refine o_iload_n K 3 dX2_isOf_4 rfl rfl ?_
    refine o_bipush K 6 dX2_isOf_5 (by decide) ?_
    refine o_icmp_ge K 34 dX2_isOf_7 (by decide) (fun c1 => ?_) (fun c1 => ?_)
    · have hf := ip c1 hf
      refine o_iconst K 0 dX2_isOf_34 (by decide) ?_
      exact r_zret K hf hR (by decide) dX2_isOf_35
    · have hf := im c1 hf
      refine o_iload_n K 2 dX2_isOf_10 rfl rfl ?_
      refine o_iconst K (-1) dX2_isOf_11 (by decide) ?_
      refine o_icmp_eq K 34 dX2_isOf_12 (by decide) (fun c2 => ?_) (fun c2 => ?_)
      · have hf := ip c2 hf
        refine o_iconst K 0 dX2_isOf_34 (by decide) ?_
        exact r_zret K hf hR (by decide) dX2_isOf_35
      · have hf := im c2 hf
        refine o_iload_n K 2 dX2_isOf_15 rfl rfl ?_
        refine o_iload_n K 1 dX2_isOf_16 rfl rfl ?_
        refine o_icmp_ne K 22 dX2_isOf_17 (by decide) (fun c3 => ?_) (fun c3 => ?_)
        · have hf := im c3 hf
          refine o_above K q372 dX2_isOf_22 ?_
          refine o_iload_n K 2 dX2_isOf_25 rfl rfl ?_
          obtain ⟨g5, hf⟩ := gd_e hf
          obtain ⟨x4, ex4, hf⟩ := nm_o hf
          refine o_aboveld K g5 dX2_isOf_26 ?_
          refine o_nmi ex4 ?_
          refine o_istore_n K 2 [none, some (.int a0), some (.int x4), some (.int a2)] dX2_isOf_27 rfl (by decide) rfl rfl ?_
          obtain ⟨x6, ex6, hf⟩ := nm_o hf
          refine o_iinc K 3 x6 [none, some (.int a0), some (.int x4), some (.int x6)] dX2_isOf_28 rfl (inc_e (by decide) ex6) (by decide) rfl rfl ?_
          refine o_goto K 4 dX2_isOf_31 (by decide) ?_
          exact ih a0 x4 x6 hf
        · have hf := ip c3 hf
          refine o_iconst K 1 dX2_isOf_20 (by decide) ?_
          exact r_zret K hf hR (by decide) dX2_isOf_21
def f_X2_isOf (M : Mem) (a1 : Int32) (a2 : Int32) : Option Int32 := f_X2_isOf_l4 FU a2 a1 (0 : Int32) M
set_option maxHeartbeats 4000000 in
set_option maxRecDepth 100000 in
theorem k_X2_isOf (l : Launch) (E : Amd) (D : va_G) (ca : Nat → ClassId) (h : Nat → Nat) (nl : Nat) (M : Mem) (a1 : Int32) (a2 : Int32) {r0 : Int32} (hf : f_X2_isOf M a1 a2 = some r0) : Ct l E D (tysOf ca) h (LaC ca h nl) yX2_isOf cX2_isOf 4 (some .boolean) 0 0 [.int a1, .int a2] M (some (.int r0)) M := by
  refine Ct.mk [some (.int a1), some (.int a2), none, none] (by decide) (Nat.le_of_ble_eq_true rfl) (argsV [.int a1, .int a2] 2 rfl rfl) ?_
  intro x hx0 K hR
  have K : Kx x E D (tysOf ca) h (LaC ca h nl) RX2 cX2_isOf 4 0 0 := K
  rw [f_X2_isOf] at hf
  refine o_iload_n K 0 dX2_isOf_0 rfl rfl ?_
  refine o_istore_n K 2 [some (.int a1), some (.int a2), some (.int a1), none] dX2_isOf_1 rfl (by decide) rfl rfl ?_
  refine o_iconst K 0 dX2_isOf_2 (by decide) ?_
  refine o_istore_n K 3 [some (.int a1), some (.int a2), some (.int a1), some (.int 0)] dX2_isOf_3 rfl (by decide) rfl rfl ?_
  refine o_drop [false, true, true, true] (V2 := [none, some (.int a2), some (.int a1), some (.int 0)]) rfl ?_
  exact t_X2_isOf_l4 K hR FU a2 a1 (0 : Int32) hf
def f_X2_letsOf (a1 : Int32) (a2 : Int32) (a3 : Int32) (a4 : Int32) : Option Int32 := nm (a2 / 2 : Int32) fun x1 => nm (a2 + 3 : Int32) fun x2 => if a1 = 1 then (some (x1)) else if a1 = 2 then (some (x2)) else if a1 = 3 then (if a4 = 0 then (some ((0 : Int32))) else some (x1)) else if a1 = 4 then (some ((if x2 < (10 : Int32) then x2 else (10 : Int32)))) else if a1 = 5 then (some (a3)) else some (a2)
set_option maxHeartbeats 4000000 in
set_option maxRecDepth 100000 in
theorem k_X2_letsOf (l : Launch) (E : Amd) (D : va_G) (ca : Nat → ClassId) (h : Nat → Nat) (nl : Nat) (M : Mem) (a1 : Int32) (a2 : Int32) (a3 : Int32) (a4 : Int32) {r0 : Int32} (hf : f_X2_letsOf a1 a2 a3 a4 = some r0) : Ct l E D (tysOf ca) h (LaC ca h nl) yX2_letsOf cX2_letsOf 6 (some .int) 1 27 [.int a1, .int a2, .int a3, .int a4] M (some (.int r0)) M := by
  refine Ct.mk [some (.int a1), some (.int a2), some (.int a3), some (.int a4), none, none] (by decide) (Nat.le_of_ble_eq_true rfl) (argsV [.int a1, .int a2, .int a3, .int a4] 2 rfl rfl) ?_
  intro x hx0 K hR
  have K : Kx x E D (tysOf ca) h (LaC ca h nl) RX2 cX2_letsOf 6 1 27 := K
  rw [f_X2_letsOf] at hf
  refine o_iload_n K 1 dX2_letsOf_0 rfl rfl ?_
  refine o_iconst K 2 dX2_letsOf_1 (by decide) ?_
  refine o_idiv K dX2_letsOf_2 (by decide) ?_
  obtain ⟨x1, ex1, hf⟩ := nm_o hf
  refine o_nmi ex1 ?_
  refine o_istore K 4 [some (.int a1), some (.int a2), some (.int a3), some (.int a4), some (.int x1), none] dX2_letsOf_3 (by decide) rfl rfl ?_
  refine o_iload_n K 1 dX2_letsOf_5 rfl rfl ?_
  refine o_iconst K 3 dX2_letsOf_6 (by decide) ?_
  refine o_iadd K dX2_letsOf_7 ?_
  obtain ⟨x2, ex2, hf⟩ := nm_o hf
  refine o_nmi ex2 ?_
  refine o_istore K 5 [some (.int a1), some (.int a2), some (.int a3), some (.int a4), some (.int x1), some (.int x2)] dX2_letsOf_8 (by decide) rfl rfl ?_
  refine o_iload_n K 0 dX2_letsOf_10 rfl rfl ?_
  by_cases c3 : a1 = 1
  · have hf := ip c3 hf
    refine o_table K 44 dX2_letsOf_11 (by decide) (by rw [c3]; try decide) (by decide) ?_
    refine o_iload K 4 dX2_letsOf_44 rfl ?_
    exact r_iret K hf hR dX2_letsOf_46
  have hf := im c3 hf
  by_cases c4 : a1 = 2
  · have hf := ip c4 hf
    refine o_table K 58 dX2_letsOf_11 (by decide) (by rw [c4]; try decide) (by decide) ?_
    refine o_iload K 5 dX2_letsOf_58 rfl ?_
    exact r_iret K hf hR dX2_letsOf_60
  have hf := im c4 hf
  by_cases c5 : a1 = 3
  · have hf := ip c5 hf
    refine o_table K 47 dX2_letsOf_11 (by decide) (by rw [c5]; try decide) (by decide) ?_
    refine o_iload_n K 3 dX2_letsOf_47 rfl rfl ?_
    refine o_if_eq K 56 dX2_letsOf_48 (by decide) (fun c6 => ?_) (fun c6 => ?_)
    · have hf := ip c6 hf
      refine o_iconst K 0 dX2_letsOf_56 (by decide) ?_
      exact r_iret K hf hR dX2_letsOf_57
    · have hf := im c6 hf
      refine o_iload K 4 dX2_letsOf_51 rfl ?_
      refine o_goto K 57 dX2_letsOf_53 (by decide) ?_
      exact r_iret K hf hR dX2_letsOf_57
  have hf := im c5 hf
  by_cases c7 : a1 = 4
  · have hf := ip c7 hf
    refine o_table K 61 dX2_letsOf_11 (by decide) (by rw [c7]; try decide) (by decide) ?_
    refine o_bipush K 10 dX2_letsOf_61 (by decide) ?_
    refine o_iload K 5 dX2_letsOf_63 rfl ?_
    refine o_mmin K q118 q110 q6 q111 ⟨by decide, by decide⟩ (Nat.le_of_ble_eq_true rfl) dX2_letsOf_65 ?_
    exact r_iret K hf hR dX2_letsOf_68
  have hf := im c7 hf
  by_cases c8 : a1 = 5
  · have hf := ip c8 hf
    refine o_table K 69 dX2_letsOf_11 (by decide) (by rw [c8]; try decide) (by decide) ?_
    refine o_iload_n K 2 dX2_letsOf_69 rfl rfl ?_
    exact r_iret K hf hR dX2_letsOf_70
  have hf := im c8 hf
  refine o_table K 71 dX2_letsOf_11 (by decide) (tsel_d [1, 2, 3, 4, 5] (List.forall_mem_cons.mpr ⟨lv_neT c3 rfl, (List.forall_mem_cons.mpr ⟨lv_neT c4 rfl, (List.forall_mem_cons.mpr ⟨lv_neT c5 rfl, (List.forall_mem_cons.mpr ⟨lv_neT c7 rfl, (List.forall_mem_cons.mpr ⟨lv_neT c8 rfl, (List.forall_mem_nil _)⟩)⟩)⟩)⟩)⟩) (by decide)) (by decide) ?_
  refine o_iload_n K 1 dX2_letsOf_71 rfl rfl ?_
  exact r_iret K hf hR dX2_letsOf_72
def f_X2_worthOf (a1 : Int32) (a2 : Int32) : Option Int32 := nm (a2 + 20 : Int32) fun x1 => nm ((30 : Int32) - a2 : Int32) fun x2 => if a1 = 1 then (some (x1)) else if a1 = 2 then (some (x2)) else if a1 = 3 then (some ((2 : Int32) * x1)) else if a1 = 4 then (some (x2 - 5)) else if a1 = 5 then (some ((2 : Int32))) else some (a2)
set_option maxHeartbeats 4000000 in
set_option maxRecDepth 100000 in
theorem k_X2_worthOf (l : Launch) (E : Amd) (D : va_G) (ca : Nat → ClassId) (h : Nat → Nat) (nl : Nat) (M : Mem) (a1 : Int32) (a2 : Int32) {r0 : Int32} (hf : f_X2_worthOf a1 a2 = some r0) : Ct l E D (tysOf ca) h (LaC ca h nl) yX2_worthOf cX2_worthOf 4 (some .int) 0 0 [.int a1, .int a2] M (some (.int r0)) M := by
  refine Ct.mk [some (.int a1), some (.int a2), none, none] (by decide) (Nat.le_of_ble_eq_true rfl) (argsV [.int a1, .int a2] 2 rfl rfl) ?_
  intro x hx0 K hR
  have K : Kx x E D (tysOf ca) h (LaC ca h nl) RX2 cX2_worthOf 4 0 0 := K
  rw [f_X2_worthOf] at hf
  refine o_iload_n K 1 dX2_worthOf_0 rfl rfl ?_
  refine o_bipush K 20 dX2_worthOf_1 (by decide) ?_
  refine o_iadd K dX2_worthOf_3 ?_
  obtain ⟨x1, ex1, hf⟩ := nm_o hf
  refine o_nmi ex1 ?_
  refine o_istore_n K 2 [some (.int a1), some (.int a2), some (.int x1), none] dX2_worthOf_4 rfl (by decide) rfl rfl ?_
  refine o_bipush K 30 dX2_worthOf_5 (by decide) ?_
  refine o_iload_n K 1 dX2_worthOf_7 rfl rfl ?_
  refine o_isub K dX2_worthOf_8 ?_
  obtain ⟨x2, ex2, hf⟩ := nm_o hf
  refine o_nmi ex2 ?_
  refine o_istore_n K 3 [some (.int a1), some (.int a2), some (.int x1), some (.int x2)] dX2_worthOf_9 rfl (by decide) rfl rfl ?_
  refine o_iload_n K 0 dX2_worthOf_10 rfl rfl ?_
  by_cases c3 : a1 = 1
  · have hf := ip c3 hf
    refine o_table K 44 dX2_worthOf_11 (by decide) (by rw [c3]; try decide) (by decide) ?_
    refine o_iload_n K 2 dX2_worthOf_44 rfl rfl ?_
    exact r_iret K hf hR dX2_worthOf_45
  have hf := im c3 hf
  by_cases c4 : a1 = 2
  · have hf := ip c4 hf
    refine o_table K 50 dX2_worthOf_11 (by decide) (by rw [c4]; try decide) (by decide) ?_
    refine o_iload_n K 3 dX2_worthOf_50 rfl rfl ?_
    exact r_iret K hf hR dX2_worthOf_51
  have hf := im c4 hf
  by_cases c5 : a1 = 3
  · have hf := ip c5 hf
    refine o_table K 46 dX2_worthOf_11 (by decide) (by rw [c5]; try decide) (by decide) ?_
    refine o_iconst K 2 dX2_worthOf_46 (by decide) ?_
    refine o_iload_n K 2 dX2_worthOf_47 rfl rfl ?_
    refine o_imul K dX2_worthOf_48 ?_
    exact r_iret K hf hR dX2_worthOf_49
  have hf := im c5 hf
  by_cases c6 : a1 = 4
  · have hf := ip c6 hf
    refine o_table K 52 dX2_worthOf_11 (by decide) (by rw [c6]; try decide) (by decide) ?_
    refine o_iload_n K 3 dX2_worthOf_52 rfl rfl ?_
    refine o_iconst K 5 dX2_worthOf_53 (by decide) ?_
    refine o_isub K dX2_worthOf_54 ?_
    exact r_iret K hf hR dX2_worthOf_55
  have hf := im c6 hf
  by_cases c7 : a1 = 5
  · have hf := ip c7 hf
    refine o_table K 56 dX2_worthOf_11 (by decide) (by rw [c7]; try decide) (by decide) ?_
    refine o_iconst K 2 dX2_worthOf_56 (by decide) ?_
    exact r_iret K hf hR dX2_worthOf_57
  have hf := im c7 hf
  refine o_table K 58 dX2_worthOf_11 (by decide) (tsel_d [1, 2, 3, 4, 5] (List.forall_mem_cons.mpr ⟨lv_neT c3 rfl, (List.forall_mem_cons.mpr ⟨lv_neT c4 rfl, (List.forall_mem_cons.mpr ⟨lv_neT c5 rfl, (List.forall_mem_cons.mpr ⟨lv_neT c6 rfl, (List.forall_mem_cons.mpr ⟨lv_neT c7 rfl, (List.forall_mem_nil _)⟩)⟩)⟩)⟩)⟩) (by decide)) (by decide) ?_
  refine o_iload_n K 1 dX2_worthOf_58 rfl rfl ?_
  exact r_iret K hf hR dX2_worthOf_59
def f_X4_putBytes_l3 : Nat → Int32 → Int32 → Mem → Option Mem
  | 0, _, _, _ => none
  | n + 1, a0, a1, M => if a1 < 0 then (some M) else if 96 ≤ (M 54 1) then (some M) else wr M 53 96 (M 54 1) (vp_nar .byte ((((a0).toUInt32 >>> ((a1 : Int32).toUInt32 &&& Int32.toUInt32 31)).toInt32).toInt8.toInt32)) fun M4 => nm (sto M4 54 1 ((M4 54 1) + 1)) fun M5 => nm (a1 + (-8) : Int32) fun x6 => f_X4_putBytes_l3 n a0 x6 M5
set_option maxHeartbeats 4000000 in
set_option maxRecDepth 100000 in
theorem t_X4_putBytes_l3 {x : En} {E : Amd} {D : va_G} {ca : Nat → ClassId} {h : Nat → Nat} {nl : Nat} (K : Kx x E D (tysOf ca) h (LaC ca h nl) RX4 cX4_putBytes 3 0 0) {Mo : Mem} (hR : Rt x D h (LaC ca h nl) none none Mo) : ∀ (n : Nat) (a0 : Int32) (a1 : Int32) (M : Mem), f_X4_putBytes_l3 n a0 a1 M = some Mo → Go x D (tysOf ca) h (LaC ca h nl) 3 M 3 [some (.ref (h 54)), some (.int a0), some (.int a1)] [] := by
  intro n
  induction n with
  | zero =>
    intro a0 a1 M hf
    cases hf
  | succ n ih =>
    intro a0 a1 M hf
    rw [f_X4_putBytes_l3] at hf
    refine o_iload_n K 2 dX4_putBytes_3 rfl rfl ?_
    refine o_if_lt K 45 dX4_putBytes_4 (by decide) (fun c1 => ?_) (fun c1 => ?_)
    · have hf := ip c1 hf
      exact e_vret K hf hR dX4_putBytes_45
    · have hf := im c1 hf
      refine o_aload_n K 0 dX4_putBytes_7 rfl rfl ?_
      refine gC_X4_19 K dX4_putBytes_8 ?_
      refine o_bipush K 96 dX4_putBytes_11 (by decide) ?_
      refine o_icmp_ge K 45 dX4_putBytes_13 (by decide) (fun c2 => ?_) (fun c2 => ?_)
      · have hf := ip c2 hf
        exact e_vret K hf hR dX4_putBytes_45
      · have hf := im c2 hf
        refine o_aload_n K 0 dX4_putBytes_16 rfl rfl ?_
        refine gC_X4_9 K dX4_putBytes_17 ?_
        refine o_aload_n K 0 dX4_putBytes_20 rfl rfl ?_
        refine gC_X4_19 K dX4_putBytes_21 ?_
        refine o_iload_n K 1 dX4_putBytes_24 rfl rfl ?_
        refine o_iload_n K 2 dX4_putBytes_25 rfl rfl ?_
        refine o_iushr K dX4_putBytes_26 ?_
        refine o_i2b K dX4_putBytes_27 ?_
        obtain ⟨g3, M4, eM4, hf⟩ := wr_e hf
        refine sCb K g3 dX4_putBytes_28 ?_
        refine o_nmM eM4 ?_
        refine o_aload_n K 0 dX4_putBytes_29 rfl rfl ?_
        refine o_dup K dX4_putBytes_30 rfl ?_
        refine gC_X4_19 K dX4_putBytes_31 ?_
        refine o_iconst K 1 dX4_putBytes_34 (by decide) ?_
        refine o_iadd K dX4_putBytes_35 ?_
        obtain ⟨M5, eM5, hf⟩ := nm_o hf
        refine pC_X4_19 K dX4_putBytes_36 ?_
        refine o_nmM eM5 ?_
        obtain ⟨x6, ex6, hf⟩ := nm_o hf
        refine o_iinc K 2 x6 [some (.ref (h 54)), some (.int a0), some (.int x6)] dX4_putBytes_39 rfl (inc_e (by decide) ex6) (by decide) rfl rfl ?_
        refine o_goto K 3 dX4_putBytes_42 (by decide) ?_
        exact ih a0 x6 M5 hf
def f_X4_putBytes (M : Mem) (a1 : Int32) : Option Mem := f_X4_putBytes_l3 FU a1 (24 : Int32) M
set_option maxHeartbeats 4000000 in
set_option maxRecDepth 100000 in
theorem k_X4_putBytes (l : Launch) (E : Amd) (D : va_G) (ca : Nat → ClassId) (h : Nat → Nat) (nl : Nat) (M : Mem) (a1 : Int32) {Mo : Mem} (hf : f_X4_putBytes M a1 = some Mo) : Ct l E D (tysOf ca) h (LaC ca h nl) yX4_putBytes cX4_putBytes 3 none 0 0 [.ref (h 54), .int a1] M none Mo := by
  refine Ct.mk [some (.ref (h 54)), some (.int a1), none] (by decide) (Nat.le_of_ble_eq_true rfl) (argsV [.ref (h 54), .int a1] 1 rfl rfl) ?_
  intro x hx0 K hR
  have K : Kx x E D (tysOf ca) h (LaC ca h nl) RX4 cX4_putBytes 3 0 0 := K
  rw [f_X4_putBytes] at hf
  refine o_bipush K 24 dX4_putBytes_0 (by decide) ?_
  refine o_istore_n K 2 [some (.ref (h 54)), some (.int a1), some (.int 24)] dX4_putBytes_2 rfl (by decide) rfl rfl ?_
  exact t_X4_putBytes_l3 K hR FU a1 (24 : Int32) M hf
def f_X4_isWord_l28 (s1 : Nat) : Nat → Int32 → Mem → Option Int32
  | 0, _, _ => none
  | n + 1, a0, M => bd (f_J0_length_8abf5 s1 M) fun r4 => if r4 ≤ a0 then (some ((1 : Int32))) else rd M 53 96 ((M 54 2) + a0) fun x6 => bd (f_J0_charAt_5068e s1 M a0) fun r8 => if x6 = r8 then (nm (a0 + 1 : Int32) fun x10 => f_X4_isWord_l28 s1 n x10 M) else some ((0 : Int32))
set_option maxHeartbeats 4000000 in
set_option maxRecDepth 100000 in
theorem t_X4_isWord_l28 {x : En} {E : Amd} {D : va_G} {ca : Nat → ClassId} {h : Nat → Nat} {nl : Nat} {s1 : Nat} {M : Mem} (K : Kx x E D (tysOf ca) h (LaC ca h nl) RX4 cX4_isWord 3 4 85) {r0 : Int32} (hR : Rt x D h (LaC ca h nl) (some .boolean) (some (.int r0)) M) (hs1 : s1 < 17) : ∀ (n : Nat) (a0 : Int32), f_X4_isWord_l28 s1 n a0 M = some r0 → Go x D (tysOf ca) h (LaC ca h nl) 3 M 28 [some (.ref (h 54)), some (.ref (E.1 s1)), some (.int a0)] [] := by
  intro n
  induction n with
  | zero =>
    intro a0 hf
    cases hf
  | succ n ih =>
    intro a0 hf
    rw [f_X4_isWord_l28] at hf
    refine o_iload_n K 2 dX4_isWord_28 rfl rfl ?_
    refine o_aload_n K 1 dX4_isWord_29 rfl rfl ?_
    obtain ⟨r4, er4, hf⟩ := bd_e hf
    refine o_callVs K [] (k_J0_length_8abf5 x.2.1 E D ca h nl M s1 hs1 er4) s_X4_138 hs1 rfl rfl ⟨by decide, by decide⟩ (Nat.le_of_ble_eq_true rfl) _ rfl dX4_isWord_30 ?_
    show Go x D (tysOf ca) h (LaC ca h nl) 3 M 33 [some (.ref (h 54)), some (.ref (E.1 s1)), some (.int a0)] [.int r4, .int a0]
    refine o_icmp_ge K 63 dX4_isWord_33 (by decide) (fun c5 => ?_) (fun c5 => ?_)
    · have hf := ip c5 hf
      refine o_iconst K 1 dX4_isWord_63 (by decide) ?_
      exact r_zret K hf hR (by decide) dX4_isWord_64
    · have hf := im c5 hf
      refine o_aload_n K 0 dX4_isWord_36 rfl rfl ?_
      refine gC_X4_9 K dX4_isWord_37 ?_
      refine o_aload_n K 0 dX4_isWord_40 rfl rfl ?_
      refine gC_X4_49 K dX4_isWord_41 ?_
      refine o_iload_n K 2 dX4_isWord_44 rfl rfl ?_
      refine o_iadd K dX4_isWord_45 ?_
      obtain ⟨g7, x6, ex6, hf⟩ := rd_e hf
      refine lCb K g7 dX4_isWord_46 ?_
      refine o_nmi ex6 ?_
      refine o_aload_n K 1 dX4_isWord_47 rfl rfl ?_
      refine o_iload_n K 2 dX4_isWord_48 rfl rfl ?_
      obtain ⟨r8, er8, hf⟩ := bd_e hf
      refine o_callVs K [.int a0] (k_J0_charAt_5068e x.2.1 E D ca h nl M s1 a0 hs1 er8) s_X4_142 hs1 rfl rfl ⟨by decide, by decide⟩ (Nat.le_of_ble_eq_true rfl) _ rfl dX4_isWord_49 ?_
      show Go x D (tysOf ca) h (LaC ca h nl) 3 M 52 [some (.ref (h 54)), some (.ref (E.1 s1)), some (.int a0)] [.int r8, .int x6]
      refine o_icmp_eq K 57 dX4_isWord_52 (by decide) (fun c9 => ?_) (fun c9 => ?_)
      · have hf := ip c9 hf
        obtain ⟨x10, ex10, hf⟩ := nm_o hf
        refine o_iinc K 2 x10 [some (.ref (h 54)), some (.ref (E.1 s1)), some (.int x10)] dX4_isWord_57 rfl (inc_e (by decide) ex10) (by decide) rfl rfl ?_
        refine o_goto K 28 dX4_isWord_60 (by decide) ?_
        exact ih x10 hf
      · have hf := im c9 hf
        refine o_iconst K 0 dX4_isWord_55 (by decide) ?_
        exact r_zret K hf hR (by decide) dX4_isWord_56
def f_X4_isWord (s1 : Nat) (M : Mem) : Option Int32 := if (M 54 4) = 1 then (bd (f_J0_length_8abf5 s1 M) fun r2 => if ((M 54 3) - (M 54 2)) = r2 then (f_X4_isWord_l28 s1 FU (0 : Int32) M) else some ((0 : Int32))) else some ((0 : Int32))
set_option maxHeartbeats 4000000 in
set_option maxRecDepth 100000 in
theorem k_X4_isWord (l : Launch) (E : Amd) (D : va_G) (ca : Nat → ClassId) (h : Nat → Nat) (nl : Nat) (M : Mem) (s1 : Nat) {r0 : Int32} (hs1 : s1 < 17) (hf : f_X4_isWord s1 M = some r0) : Ct l E D (tysOf ca) h (LaC ca h nl) yX4_isWord cX4_isWord 3 (some .boolean) 4 85 [.ref (h 54), .ref (E.1 s1)] M (some (.int r0)) M := by
  refine Ct.mk [some (.ref (h 54)), some (.ref (E.1 s1)), none] (by decide) (Nat.le_of_ble_eq_true rfl) (argsV [.ref (h 54), .ref (E.1 s1)] 1 rfl rfl) ?_
  intro x hx0 K hR
  have K : Kx x E D (tysOf ca) h (LaC ca h nl) RX4 cX4_isWord 3 4 85 := K
  rw [f_X4_isWord] at hf
  refine o_aload_n K 0 dX4_isWord_0 rfl rfl ?_
  refine gC_X4_26 K dX4_isWord_1 ?_
  refine o_iconst K 1 dX4_isWord_4 (by decide) ?_
  refine o_icmp_ne K 24 dX4_isWord_5 (by decide) (fun c1 => ?_) (fun c1 => ?_)
  · have hf := im c1 hf
    refine o_iconst K 0 dX4_isWord_24 (by decide) ?_
    exact r_zret K hf hR (by decide) dX4_isWord_25
  · have hf := ip c1 hf
    refine o_aload_n K 0 dX4_isWord_8 rfl rfl ?_
    refine gC_X4_23 K dX4_isWord_9 ?_
    refine o_aload_n K 0 dX4_isWord_12 rfl rfl ?_
    refine gC_X4_49 K dX4_isWord_13 ?_
    refine o_isub K dX4_isWord_16 ?_
    refine o_aload_n K 1 dX4_isWord_17 rfl rfl ?_
    obtain ⟨r2, er2, hf⟩ := bd_e hf
    refine o_callVs K [] (k_J0_length_8abf5 x.2.1 E D ca h nl M s1 hs1 er2) s_X4_138 hs1 rfl rfl ⟨by decide, by decide⟩ (Nat.le_of_ble_eq_true rfl) _ rfl dX4_isWord_18 ?_
    show Go x D (tysOf ca) h (LaC ca h nl) 3 M 21 [some (.ref (h 54)), some (.ref (E.1 s1)), none] [.int r2, .int ((M 54 3) - (M 54 2))]
    refine o_icmp_eq K 26 dX4_isWord_21 (by decide) (fun c3 => ?_) (fun c3 => ?_)
    · have hf := ip c3 hf
      refine o_iconst K 0 dX4_isWord_26 (by decide) ?_
      refine o_istore_n K 2 [some (.ref (h 54)), some (.ref (E.1 s1)), some (.int 0)] dX4_isWord_27 rfl (by decide) rfl rfl ?_
      exact t_X4_isWord_l28 K hR hs1 FU (0 : Int32) hf
    · have hf := im c3 hf
      refine o_iconst K 0 dX4_isWord_24 (by decide) ?_
      exact r_zret K hf hR (by decide) dX4_isWord_25
def f_X4_sortAt_j31 (a0 : Int32) (M : Mem) : Option Int32 := if a0 < 48 then (some ((3 : Int32))) else if 57 < a0 then (some ((3 : Int32))) else some ((2 : Int32))
set_option maxHeartbeats 4000000 in
set_option maxRecDepth 100000 in
theorem t_X4_sortAt_j31 {x : En} {E : Amd} {D : va_G} {ca : Nat → ClassId} {h : Nat → Nat} {nl : Nat} {M : Mem} (K : Kx x E D (tysOf ca) h (LaC ca h nl) RX4 cX4_sortAt 3 0 0) {r0 : Int32} (hR : Rt x D h (LaC ca h nl) (some .int) (some (.int r0)) M) (a0 : Int32) (hf : f_X4_sortAt_j31 a0 M = some r0) : Go x D (tysOf ca) h (LaC ca h nl) 3 M 31 [none, none, some (.int a0)] [] := by
  rw [f_X4_sortAt_j31] at hf
  refine o_iload_n K 2 dX4_sortAt_31 rfl rfl ?_
  refine o_bipush K 48 dX4_sortAt_32 (by decide) ?_
  refine o_icmp_lt K 47 dX4_sortAt_34 (by decide) (fun c6 => ?_) (fun c6 => ?_)
  · have hf := ip c6 hf
    refine o_iconst K 3 dX4_sortAt_47 (by decide) ?_
    exact r_iret K hf hR dX4_sortAt_48
  · have hf := im c6 hf
    refine o_iload_n K 2 dX4_sortAt_37 rfl rfl ?_
    refine o_bipush K 57 dX4_sortAt_38 (by decide) ?_
    refine o_icmp_gt K 47 dX4_sortAt_40 (by decide) (fun c7 => ?_) (fun c7 => ?_)
    · have hf := ip c7 hf
      refine o_iconst K 3 dX4_sortAt_47 (by decide) ?_
      exact r_iret K hf hR dX4_sortAt_48
    · have hf := im c7 hf
      refine o_iconst K 2 dX4_sortAt_43 (by decide) ?_
      refine o_goto K 48 dX4_sortAt_44 (by decide) ?_
      exact r_iret K hf hR dX4_sortAt_48
def f_X4_sortAt (M : Mem) (a1 : Int32) : Option Int32 := if a1 < (M 54 1) then (rd M 53 96 a1 fun x2 => if x2 < 97 then (f_X4_sortAt_j31 x2 M) else if 122 < x2 then (f_X4_sortAt_j31 x2 M) else some ((1 : Int32))) else some ((0 : Int32))
set_option maxHeartbeats 4000000 in
set_option maxRecDepth 100000 in
theorem k_X4_sortAt (l : Launch) (E : Amd) (D : va_G) (ca : Nat → ClassId) (h : Nat → Nat) (nl : Nat) (M : Mem) (a1 : Int32) {r0 : Int32} (hf : f_X4_sortAt M a1 = some r0) : Ct l E D (tysOf ca) h (LaC ca h nl) yX4_sortAt cX4_sortAt 3 (some .int) 0 0 [.ref (h 54), .int a1] M (some (.int r0)) M := by
  refine Ct.mk [some (.ref (h 54)), some (.int a1), none] (by decide) (Nat.le_of_ble_eq_true rfl) (argsV [.ref (h 54), .int a1] 1 rfl rfl) ?_
  intro x hx0 K hR
  have K : Kx x E D (tysOf ca) h (LaC ca h nl) RX4 cX4_sortAt 3 0 0 := K
  rw [f_X4_sortAt] at hf
  refine o_iload_n K 1 dX4_sortAt_0 rfl rfl ?_
  refine o_aload_n K 0 dX4_sortAt_1 rfl rfl ?_
  refine gC_X4_19 K dX4_sortAt_2 ?_
  refine o_icmp_lt K 10 dX4_sortAt_5 (by decide) (fun c1 => ?_) (fun c1 => ?_)
  · have hf := ip c1 hf
    refine o_aload_n K 0 dX4_sortAt_10 rfl rfl ?_
    refine gC_X4_9 K dX4_sortAt_11 ?_
    refine o_iload_n K 1 dX4_sortAt_14 rfl rfl ?_
    obtain ⟨g3, x2, ex2, hf⟩ := rd_e hf
    refine lCb K g3 dX4_sortAt_15 ?_
    refine o_nmi ex2 ?_
    refine o_istore_n K 2 [some (.ref (h 54)), some (.int a1), some (.int x2)] dX4_sortAt_16 rfl (by decide) rfl rfl ?_
    refine o_iload_n K 2 dX4_sortAt_17 rfl rfl ?_
    refine o_bipush K 97 dX4_sortAt_18 (by decide) ?_
    refine o_icmp_lt K 31 dX4_sortAt_20 (by decide) (fun c4 => ?_) (fun c4 => ?_)
    · have hf := ip c4 hf
      refine o_drop [false, false, true] (V2 := [none, none, some (.int x2)]) rfl ?_
      exact t_X4_sortAt_j31 K hR x2 hf
    · have hf := im c4 hf
      refine o_iload_n K 2 dX4_sortAt_23 rfl rfl ?_
      refine o_bipush K 122 dX4_sortAt_24 (by decide) ?_
      refine o_icmp_gt K 31 dX4_sortAt_26 (by decide) (fun c5 => ?_) (fun c5 => ?_)
      · have hf := ip c5 hf
        refine o_drop [false, false, true] (V2 := [none, none, some (.int x2)]) rfl ?_
        exact t_X4_sortAt_j31 K hR x2 hf
      · have hf := im c5 hf
        refine o_iconst K 1 dX4_sortAt_29 (by decide) ?_
        exact r_iret K hf hR dX4_sortAt_30
  · have hf := im c1 hf
    refine o_iconst K 0 dX4_sortAt_8 (by decide) ?_
    exact r_iret K hf hR dX4_sortAt_9
def f_X4_step_l121 : Nat → Int32 → Int32 → Mem → Option Mem
  | 0, _, _, _ => none
  | n + 1, a0, a1, M => if (M 54 1) ≤ (M 54 3) then (if a0 = 0 then (some M) else if (M 54 2) = a1 then (nm (sto M 54 4 4) fun M19 => some M19) else some M) else bd (f_X4_sortAt M (M 54 3)) fun r20 => if r20 = (M 54 4) then (nm (sto M 54 3 ((M 54 3) + 1)) fun M25 => f_X4_step_l121 n a0 a1 M25) else if a0 = 0 then (some M) else if (M 54 2) = a1 then (nm (sto M 54 4 4) fun M24 => some M24) else some M
set_option maxHeartbeats 4000000 in
set_option maxRecDepth 100000 in
theorem t_X4_step_l121 {x : En} {E : Amd} {D : va_G} {ca : Nat → ClassId} {h : Nat → Nat} {nl : Nat} (K : Kx x E D (tysOf ca) h (LaC ca h nl) RX4 cX4_step 3 1 22) {Mo : Mem} (hR : Rt x D h (LaC ca h nl) none none Mo) : ∀ (n : Nat) (a0 : Int32) (a1 : Int32) (M : Mem), f_X4_step_l121 n a0 a1 M = some Mo → Go x D (tysOf ca) h (LaC ca h nl) 3 M 121 [some (.ref (h 54)), some (.int a0), some (.int a1)] [] := by
  intro n
  induction n with
  | zero =>
    intro a0 a1 M hf
    cases hf
  | succ n ih =>
    intro a0 a1 M hf
    rw [f_X4_step_l121] at hf
    refine o_aload_n K 0 dX4_step_121 rfl rfl ?_
    refine gC_X4_23 K dX4_step_122 ?_
    refine o_aload_n K 0 dX4_step_125 rfl rfl ?_
    refine gC_X4_19 K dX4_step_126 ?_
    refine o_icmp_ge K 160 dX4_step_129 (by decide) (fun c16 => ?_) (fun c16 => ?_)
    · have hf := ip c16 hf
      refine o_iload_n K 1 dX4_step_160 rfl rfl ?_
      refine o_if_eq K 177 dX4_step_161 (by decide) (fun c17 => ?_) (fun c17 => ?_)
      · have hf := ip c17 hf
        exact e_vret K hf hR dX4_step_177
      · have hf := im c17 hf
        refine o_aload_n K 0 dX4_step_164 rfl rfl ?_
        refine gC_X4_49 K dX4_step_165 ?_
        refine o_iload_n K 2 dX4_step_168 rfl rfl ?_
        refine o_icmp_ne K 177 dX4_step_169 (by decide) (fun c18 => ?_) (fun c18 => ?_)
        · have hf := im c18 hf
          exact e_vret K hf hR dX4_step_177
        · have hf := ip c18 hf
          refine o_aload_n K 0 dX4_step_172 rfl rfl ?_
          refine o_iconst K 4 dX4_step_173 (by decide) ?_
          obtain ⟨M19, eM19, hf⟩ := nm_o hf
          refine pC_X4_26 K dX4_step_174 ?_
          refine o_nmM eM19 ?_
          exact e_vret K hf hR dX4_step_177
    · have hf := im c16 hf
      refine o_aload_n K 0 dX4_step_132 rfl rfl ?_
      refine o_aload_n K 0 dX4_step_133 rfl rfl ?_
      refine gC_X4_23 K dX4_step_134 ?_
      obtain ⟨r20, er20, hf⟩ := bd_e hf
      refine o_callV K [.int (M 54 3)] (k_X4_sortAt x.2.1 E D ca h nl M (M 54 3) er20) s_X4_150 (ltReader) (obReader_c (ca := ca) (h := h) _) rfl rfl rfl ⟨by decide, by decide⟩ (Nat.le_of_ble_eq_true rfl) _ rfl dX4_step_137 ?_
      show Go x D (tysOf ca) h (LaC ca h nl) 3 M 140 [some (.ref (h 54)), some (.int a0), some (.int a1)] [.int r20]
      refine o_aload_n K 0 dX4_step_140 rfl rfl ?_
      refine gC_X4_26 K dX4_step_141 ?_
      refine o_icmp_ne K 160 dX4_step_144 (by decide) (fun c21 => ?_) (fun c21 => ?_)
      · have hf := im c21 hf
        refine o_iload_n K 1 dX4_step_160 rfl rfl ?_
        refine o_if_eq K 177 dX4_step_161 (by decide) (fun c22 => ?_) (fun c22 => ?_)
        · have hf := ip c22 hf
          exact e_vret K hf hR dX4_step_177
        · have hf := im c22 hf
          refine o_aload_n K 0 dX4_step_164 rfl rfl ?_
          refine gC_X4_49 K dX4_step_165 ?_
          refine o_iload_n K 2 dX4_step_168 rfl rfl ?_
          refine o_icmp_ne K 177 dX4_step_169 (by decide) (fun c23 => ?_) (fun c23 => ?_)
          · have hf := im c23 hf
            exact e_vret K hf hR dX4_step_177
          · have hf := ip c23 hf
            refine o_aload_n K 0 dX4_step_172 rfl rfl ?_
            refine o_iconst K 4 dX4_step_173 (by decide) ?_
            obtain ⟨M24, eM24, hf⟩ := nm_o hf
            refine pC_X4_26 K dX4_step_174 ?_
            refine o_nmM eM24 ?_
            exact e_vret K hf hR dX4_step_177
      · have hf := ip c21 hf
        refine o_aload_n K 0 dX4_step_147 rfl rfl ?_
        refine o_dup K dX4_step_148 rfl ?_
        refine gC_X4_23 K dX4_step_149 ?_
        refine o_iconst K 1 dX4_step_152 (by decide) ?_
        refine o_iadd K dX4_step_153 ?_
        obtain ⟨M25, eM25, hf⟩ := nm_o hf
        refine pC_X4_23 K dX4_step_154 ?_
        refine o_nmM eM25 ?_
        refine o_goto K 121 dX4_step_157 (by decide) ?_
        exact ih a0 a1 M25 hf
def f_X4_step_j73 (a0 : Int32) (a1 : Int32) (M : Mem) : Option Mem := bd (f_X4_sortAt M (M 54 2)) fun r10 => nm (sto M 54 4 r10) fun M11 => nm (sto M11 54 3 (M11 54 2)) fun M12 => if (M12 54 4) = 3 then (nm (sto M12 54 3 ((M12 54 3) + 1)) fun M15 => some M15) else if (M12 54 4) = 0 then (some M12) else f_X4_step_l121 FU a0 a1 M12
set_option maxHeartbeats 4000000 in
set_option maxRecDepth 100000 in
theorem t_X4_step_j73 {x : En} {E : Amd} {D : va_G} {ca : Nat → ClassId} {h : Nat → Nat} {nl : Nat} (K : Kx x E D (tysOf ca) h (LaC ca h nl) RX4 cX4_step 3 1 22) {Mo : Mem} (hR : Rt x D h (LaC ca h nl) none none Mo) (a0 : Int32) (a1 : Int32) (M : Mem) (hf : f_X4_step_j73 a0 a1 M = some Mo) : Go x D (tysOf ca) h (LaC ca h nl) 3 M 73 [some (.ref (h 54)), some (.int a0), some (.int a1)] [] := by
  rw [f_X4_step_j73] at hf
  refine o_aload_n K 0 dX4_step_73 rfl rfl ?_
  refine o_aload_n K 0 dX4_step_74 rfl rfl ?_
  refine o_aload_n K 0 dX4_step_75 rfl rfl ?_
  refine gC_X4_49 K dX4_step_76 ?_
  obtain ⟨r10, er10, hf⟩ := bd_e hf
  refine o_callV K [.int (M 54 2)] (k_X4_sortAt x.2.1 E D ca h nl M (M 54 2) er10) s_X4_150 (ltReader) (obReader_c (ca := ca) (h := h) _) rfl rfl rfl ⟨by decide, by decide⟩ (Nat.le_of_ble_eq_true rfl) _ rfl dX4_step_79 ?_
  show Go x D (tysOf ca) h (LaC ca h nl) 3 M 82 [some (.ref (h 54)), some (.int a0), some (.int a1)] [.int r10, .ref (h 54)]
  obtain ⟨M11, eM11, hf⟩ := nm_o hf
  refine pC_X4_26 K dX4_step_82 ?_
  refine o_nmM eM11 ?_
  refine o_aload_n K 0 dX4_step_85 rfl rfl ?_
  refine o_aload_n K 0 dX4_step_86 rfl rfl ?_
  refine gC_X4_49 K dX4_step_87 ?_
  obtain ⟨M12, eM12, hf⟩ := nm_o hf
  refine pC_X4_23 K dX4_step_90 ?_
  refine o_nmM eM12 ?_
  refine o_aload_n K 0 dX4_step_93 rfl rfl ?_
  refine gC_X4_26 K dX4_step_94 ?_
  refine o_iconst K 3 dX4_step_97 (by decide) ?_
  refine o_icmp_ne K 114 dX4_step_98 (by decide) (fun c13 => ?_) (fun c13 => ?_)
  · have hf := im c13 hf
    refine o_aload_n K 0 dX4_step_114 rfl rfl ?_
    refine gC_X4_26 K dX4_step_115 ?_
    refine o_if_eq K 177 dX4_step_118 (by decide) (fun c14 => ?_) (fun c14 => ?_)
    · have hf := ip c14 hf
      exact e_vret K hf hR dX4_step_177
    · have hf := im c14 hf
      exact t_X4_step_l121 K hR FU a0 a1 M12 hf
  · have hf := ip c13 hf
    refine o_aload_n K 0 dX4_step_101 rfl rfl ?_
    refine o_dup K dX4_step_102 rfl ?_
    refine gC_X4_23 K dX4_step_103 ?_
    refine o_iconst K 1 dX4_step_106 (by decide) ?_
    refine o_iadd K dX4_step_107 ?_
    obtain ⟨M15, eM15, hf⟩ := nm_o hf
    refine pC_X4_23 K dX4_step_108 ?_
    refine o_nmM eM15 ?_
    refine o_goto K 177 dX4_step_111 (by decide) ?_
    exact e_vret K hf hR dX4_step_177
def f_X4_step_l35 : Nat → Int32 → Int32 → Mem → Option Mem
  | 0, _, _, _ => none
  | n + 1, a0, a1, M => if (M 54 1) ≤ (M 54 2) then (f_X4_step_j73 a0 a1 M) else rd M 53 96 (M 54 2) fun x6 => if x6 = 32 then (nm (sto M 54 2 ((M 54 2) + 1)) fun M9 => f_X4_step_l35 n a0 a1 M9) else f_X4_step_j73 a0 a1 M
set_option maxHeartbeats 4000000 in
set_option maxRecDepth 100000 in
theorem t_X4_step_l35 {x : En} {E : Amd} {D : va_G} {ca : Nat → ClassId} {h : Nat → Nat} {nl : Nat} (K : Kx x E D (tysOf ca) h (LaC ca h nl) RX4 cX4_step 3 1 22) {Mo : Mem} (hR : Rt x D h (LaC ca h nl) none none Mo) : ∀ (n : Nat) (a0 : Int32) (a1 : Int32) (M : Mem), f_X4_step_l35 n a0 a1 M = some Mo → Go x D (tysOf ca) h (LaC ca h nl) 3 M 35 [some (.ref (h 54)), some (.int a0), some (.int a1)] [] := by
  intro n
  induction n with
  | zero =>
    intro a0 a1 M hf
    cases hf
  | succ n ih =>
    intro a0 a1 M hf
    rw [f_X4_step_l35] at hf
    refine o_aload_n K 0 dX4_step_35 rfl rfl ?_
    refine gC_X4_49 K dX4_step_36 ?_
    refine o_aload_n K 0 dX4_step_39 rfl rfl ?_
    refine gC_X4_19 K dX4_step_40 ?_
    refine o_icmp_ge K 73 dX4_step_43 (by decide) (fun c5 => ?_) (fun c5 => ?_)
    · have hf := ip c5 hf
      exact t_X4_step_j73 K hR a0 a1 M hf
    · have hf := im c5 hf
      refine o_aload_n K 0 dX4_step_46 rfl rfl ?_
      refine gC_X4_9 K dX4_step_47 ?_
      refine o_aload_n K 0 dX4_step_50 rfl rfl ?_
      refine gC_X4_49 K dX4_step_51 ?_
      obtain ⟨g7, x6, ex6, hf⟩ := rd_e hf
      refine lCb K g7 dX4_step_54 ?_
      refine o_nmi ex6 ?_
      refine o_bipush K 32 dX4_step_55 (by decide) ?_
      refine o_icmp_ne K 73 dX4_step_57 (by decide) (fun c8 => ?_) (fun c8 => ?_)
      · have hf := im c8 hf
        exact t_X4_step_j73 K hR a0 a1 M hf
      · have hf := ip c8 hf
        refine o_aload_n K 0 dX4_step_60 rfl rfl ?_
        refine o_dup K dX4_step_61 rfl ?_
        refine gC_X4_49 K dX4_step_62 ?_
        refine o_iconst K 1 dX4_step_65 (by decide) ?_
        refine o_iadd K dX4_step_66 ?_
        obtain ⟨M9, eM9, hf⟩ := nm_o hf
        refine pC_X4_49 K dX4_step_67 ?_
        refine o_nmM eM9 ?_
        refine o_goto K 35 dX4_step_70 (by decide) ?_
        exact ih a0 a1 M9 hf
def f_X4_step_j21 (a0 : Int32) (M : Mem) : Option Mem := nm (M 54 3 : Int32) fun x3 => nm (sto M 54 2 (M 54 3)) fun M4 => f_X4_step_l35 FU a0 x3 M4
set_option maxHeartbeats 4000000 in
set_option maxRecDepth 100000 in
theorem t_X4_step_j21 {x : En} {E : Amd} {D : va_G} {ca : Nat → ClassId} {h : Nat → Nat} {nl : Nat} (K : Kx x E D (tysOf ca) h (LaC ca h nl) RX4 cX4_step 3 1 22) {Mo : Mem} (hR : Rt x D h (LaC ca h nl) none none Mo) (a0 : Int32) (M : Mem) (hf : f_X4_step_j21 a0 M = some Mo) : Go x D (tysOf ca) h (LaC ca h nl) 3 M 21 [some (.ref (h 54)), none, none] [.int a0] := by
  rw [f_X4_step_j21] at hf
  refine o_istore_n K 1 [some (.ref (h 54)), some (.int a0), none] dX4_step_21 rfl (by decide) rfl rfl ?_
  refine o_aload_n K 0 dX4_step_22 rfl rfl ?_
  refine gC_X4_23 K dX4_step_23 ?_
  obtain ⟨x3, ex3, hf⟩ := nm_o hf
  refine o_nmi ex3 ?_
  refine o_istore_n K 2 [some (.ref (h 54)), some (.int a0), some (.int x3)] dX4_step_26 rfl (by decide) rfl rfl ?_
  refine o_aload_n K 0 dX4_step_27 rfl rfl ?_
  refine o_aload_n K 0 dX4_step_28 rfl rfl ?_
  refine gC_X4_23 K dX4_step_29 ?_
  obtain ⟨M4, eM4, hf⟩ := nm_o hf
  refine pC_X4_49 K dX4_step_32 ?_
  refine o_nmM eM4 ?_
  exact t_X4_step_l35 K hR FU a0 x3 M4 hf
def f_X4_step_j16 (M : Mem) : Option Mem := f_X4_step_j21 (1 : Int32) M
set_option maxHeartbeats 4000000 in
set_option maxRecDepth 100000 in
theorem t_X4_step_j16 {x : En} {E : Amd} {D : va_G} {ca : Nat → ClassId} {h : Nat → Nat} {nl : Nat} (K : Kx x E D (tysOf ca) h (LaC ca h nl) RX4 cX4_step 3 1 22) {Mo : Mem} (hR : Rt x D h (LaC ca h nl) none none Mo) (M : Mem) (hf : f_X4_step_j16 M = some Mo) : Go x D (tysOf ca) h (LaC ca h nl) 3 M 16 [some (.ref (h 54)), none, none] [] := by
  rw [f_X4_step_j16] at hf
  refine o_iconst K 1 dX4_step_16 (by decide) ?_
  refine o_goto K 21 dX4_step_17 (by decide) ?_
  exact t_X4_step_j21 K hR (1 : Int32) M hf
def f_X4_step (M : Mem) : Option Mem := if (M 54 4) = 1 then (f_X4_step_j16 M) else if (M 54 4) = 2 then (f_X4_step_j16 M) else f_X4_step_j21 (0 : Int32) M
set_option maxHeartbeats 4000000 in
set_option maxRecDepth 100000 in
theorem k_X4_step (l : Launch) (E : Amd) (D : va_G) (ca : Nat → ClassId) (h : Nat → Nat) (nl : Nat) (M : Mem) {Mo : Mem} (hf : f_X4_step M = some Mo) : Ct l E D (tysOf ca) h (LaC ca h nl) yX4_step cX4_step 3 none 1 22 [.ref (h 54)] M none Mo := by
  refine Ct.mk [some (.ref (h 54)), none, none] (by decide) (Nat.le_of_ble_eq_true rfl) (argsV [.ref (h 54)] 2 rfl rfl) ?_
  intro x hx0 K hR
  have K : Kx x E D (tysOf ca) h (LaC ca h nl) RX4 cX4_step 3 1 22 := K
  rw [f_X4_step] at hf
  refine o_aload_n K 0 dX4_step_0 rfl rfl ?_
  refine gC_X4_26 K dX4_step_1 ?_
  refine o_iconst K 1 dX4_step_4 (by decide) ?_
  refine o_icmp_eq K 16 dX4_step_5 (by decide) (fun c1 => ?_) (fun c1 => ?_)
  · have hf := ip c1 hf
    exact t_X4_step_j16 K hR M hf
  · have hf := im c1 hf
    refine o_aload_n K 0 dX4_step_8 rfl rfl ?_
    refine gC_X4_26 K dX4_step_9 ?_
    refine o_iconst K 2 dX4_step_12 (by decide) ?_
    refine o_icmp_ne K 20 dX4_step_13 (by decide) (fun c2 => ?_) (fun c2 => ?_)
    · have hf := im c2 hf
      refine o_iconst K 0 dX4_step_20 (by decide) ?_
      exact t_X4_step_j21 K hR (0 : Int32) M hf
    · have hf := ip c2 hf
      exact t_X4_step_j16 K hR M hf
