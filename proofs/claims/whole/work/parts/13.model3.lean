def f_X10_trim (M : Mem) (a1 : Int32) : Option (Int32 × Mem) := bd (f_X10_in a1 (0 : Int32) (M 0 10)) fun r1 => if r1 = 0 then (some (((-1000000001) : Int32), M)) else nm (sto M 0 10 a1) fun M3 => some (a1, M3)
set_option maxHeartbeats 4000000 in
set_option maxRecDepth 100000 in
theorem k_X10_trim (l : Launch) (E : Amd) (D : va_G) (ca : Nat → ClassId) (h : Nat → Nat) (M : Mem) (a1 : Int32) {r0 : Int32} {Mo : Mem} (hf : f_X10_trim M a1 = some (r0, Mo)) : Ct l E D (tysOf ca) h (LaM ca h) yX10_trim cX10_trim 2 (some .int) 1 22 [.ref (h 0), .int a1] M (some (.int r0)) Mo := by
  refine Ct.mk [some (.ref (h 0)), some (.int a1)] (by decide) (Nat.le_of_ble_eq_true rfl) (argsV [.ref (h 0), .int a1] 0 rfl rfl) ?_
  intro x hx0 K hR
  have K : Kx x E D (tysOf ca) h (LaM ca h) RX10 cX10_trim 2 1 22 := K
  rw [f_X10_trim] at hf
  refine o_iload_n K 1 dX10_trim_0 rfl rfl ?_
  refine o_iconst K 0 dX10_trim_1 (by decide) ?_
  refine o_aload_n K 0 dX10_trim_2 rfl rfl ?_
  refine gM_205 K dX10_trim_3 ?_
  obtain ⟨r1, er1, hf⟩ := bd_e hf
  refine o_callS K [.int a1, .int 0, .int (M 0 10)] (k_X10_in x.2.1 E D ca h M a1 (0 : Int32) (M 0 10) er1) s_X10_87 rfl ⟨by decide, by decide⟩ (Nat.le_of_ble_eq_true rfl) _ rfl dX10_trim_6 ?_
  show Go x D (tysOf ca) h (LaM ca h) 2 M 9 [some (.ref (h 0)), some (.int a1)] [.int r1]
  refine o_if_ne K 15 dX10_trim_9 (by decide) (fun c2 => ?_) (fun c2 => ?_)
  · have hf := im c2 hf
    refine o_aload_n K 0 dX10_trim_15 rfl rfl ?_
    refine o_iload_n K 1 dX10_trim_16 rfl rfl ?_
    obtain ⟨M3, eM3, hf⟩ := nm_o hf
    refine pM_205 K dX10_trim_17 ?_
    refine o_nmM eM3 ?_
    refine o_iload_n K 1 dX10_trim_20 rfl rfl ?_
    exact e_iret K hf hR dX10_trim_21
  · have hf := ip c2 hf
    refine o_ldc K q1102 dX10_trim_12 ?_
    exact e_iret K hf hR dX10_trim_14
def f_X10_isLetter (M : Mem) (a1 : Int32) : Option Int32 := if (M 0 10) ≤ a1 then (some ((0 : Int32))) else rd M 9 96 a1 fun x2 => if x2 < 97 then (some ((0 : Int32))) else rd M 9 96 a1 fun x5 => if 122 < x5 then (some ((0 : Int32))) else some ((1 : Int32))
set_option maxHeartbeats 4000000 in
set_option maxRecDepth 100000 in
theorem k_X10_isLetter (l : Launch) (E : Amd) (D : va_G) (ca : Nat → ClassId) (h : Nat → Nat) (M : Mem) (a1 : Int32) {r0 : Int32} (hf : f_X10_isLetter M a1 = some r0) : Ct l E D (tysOf ca) h (LaM ca h) yX10_isLetter cX10_isLetter 2 (some .boolean) 0 0 [.ref (h 0), .int a1] M (some (.int r0)) M := by
  refine Ct.mk [some (.ref (h 0)), some (.int a1)] (by decide) (Nat.le_of_ble_eq_true rfl) (argsV [.ref (h 0), .int a1] 0 rfl rfl) ?_
  intro x hx0 K hR
  have K : Kx x E D (tysOf ca) h (LaM ca h) RX10 cX10_isLetter 2 0 0 := K
  rw [f_X10_isLetter] at hf
  refine o_iload_n K 1 dX10_isLetter_0 rfl rfl ?_
  refine o_aload_n K 0 dX10_isLetter_1 rfl rfl ?_
  refine gM_205 K dX10_isLetter_2 ?_
  refine o_icmp_ge K 34 dX10_isLetter_5 (by decide) (fun c1 => ?_) (fun c1 => ?_)
  · have hf := ip c1 hf
    refine o_iconst K 0 dX10_isLetter_34 (by decide) ?_
    exact r_zret K hf hR (by decide) dX10_isLetter_35
  · have hf := im c1 hf
    refine o_aload_n K 0 dX10_isLetter_8 rfl rfl ?_
    refine gM_34 K dX10_isLetter_9 ?_
    refine o_iload_n K 1 dX10_isLetter_12 rfl rfl ?_
    obtain ⟨g3, x2, ex2, hf⟩ := rd_e hf
    refine lM_9 K g3 dX10_isLetter_13 ?_
    refine o_nmi ex2 ?_
    refine o_bipush K 97 dX10_isLetter_14 (by decide) ?_
    refine o_icmp_lt K 34 dX10_isLetter_16 (by decide) (fun c4 => ?_) (fun c4 => ?_)
    · have hf := ip c4 hf
      refine o_iconst K 0 dX10_isLetter_34 (by decide) ?_
      exact r_zret K hf hR (by decide) dX10_isLetter_35
    · have hf := im c4 hf
      refine o_aload_n K 0 dX10_isLetter_19 rfl rfl ?_
      refine gM_34 K dX10_isLetter_20 ?_
      refine o_iload_n K 1 dX10_isLetter_23 rfl rfl ?_
      obtain ⟨g6, x5, ex5, hf⟩ := rd_e hf
      refine lM_9 K g6 dX10_isLetter_24 ?_
      refine o_nmi ex5 ?_
      refine o_bipush K 122 dX10_isLetter_25 (by decide) ?_
      refine o_icmp_gt K 34 dX10_isLetter_27 (by decide) (fun c7 => ?_) (fun c7 => ?_)
      · have hf := ip c7 hf
        refine o_iconst K 0 dX10_isLetter_34 (by decide) ?_
        exact r_zret K hf hR (by decide) dX10_isLetter_35
      · have hf := im c7 hf
        refine o_iconst K 1 dX10_isLetter_30 (by decide) ?_
        refine o_goto K 35 dX10_isLetter_31 (by decide) ?_
        exact r_zret K hf hR (by decide) dX10_isLetter_35
def f_X10_isFigure (M : Mem) (a1 : Int32) : Option Int32 := if (M 0 10) ≤ a1 then (some ((0 : Int32))) else rd M 9 96 a1 fun x2 => if x2 < 48 then (some ((0 : Int32))) else rd M 9 96 a1 fun x5 => if 57 < x5 then (some ((0 : Int32))) else some ((1 : Int32))
set_option maxHeartbeats 4000000 in
set_option maxRecDepth 100000 in
theorem k_X10_isFigure (l : Launch) (E : Amd) (D : va_G) (ca : Nat → ClassId) (h : Nat → Nat) (M : Mem) (a1 : Int32) {r0 : Int32} (hf : f_X10_isFigure M a1 = some r0) : Ct l E D (tysOf ca) h (LaM ca h) yX10_isFigure cX10_isFigure 2 (some .boolean) 0 0 [.ref (h 0), .int a1] M (some (.int r0)) M := by
  refine Ct.mk [some (.ref (h 0)), some (.int a1)] (by decide) (Nat.le_of_ble_eq_true rfl) (argsV [.ref (h 0), .int a1] 0 rfl rfl) ?_
  intro x hx0 K hR
  have K : Kx x E D (tysOf ca) h (LaM ca h) RX10 cX10_isFigure 2 0 0 := K
  rw [f_X10_isFigure] at hf
  refine o_iload_n K 1 dX10_isFigure_0 rfl rfl ?_
  refine o_aload_n K 0 dX10_isFigure_1 rfl rfl ?_
  refine gM_205 K dX10_isFigure_2 ?_
  refine o_icmp_ge K 34 dX10_isFigure_5 (by decide) (fun c1 => ?_) (fun c1 => ?_)
  · have hf := ip c1 hf
    refine o_iconst K 0 dX10_isFigure_34 (by decide) ?_
    exact r_zret K hf hR (by decide) dX10_isFigure_35
  · have hf := im c1 hf
    refine o_aload_n K 0 dX10_isFigure_8 rfl rfl ?_
    refine gM_34 K dX10_isFigure_9 ?_
    refine o_iload_n K 1 dX10_isFigure_12 rfl rfl ?_
    obtain ⟨g3, x2, ex2, hf⟩ := rd_e hf
    refine lM_9 K g3 dX10_isFigure_13 ?_
    refine o_nmi ex2 ?_
    refine o_bipush K 48 dX10_isFigure_14 (by decide) ?_
    refine o_icmp_lt K 34 dX10_isFigure_16 (by decide) (fun c4 => ?_) (fun c4 => ?_)
    · have hf := ip c4 hf
      refine o_iconst K 0 dX10_isFigure_34 (by decide) ?_
      exact r_zret K hf hR (by decide) dX10_isFigure_35
    · have hf := im c4 hf
      refine o_aload_n K 0 dX10_isFigure_19 rfl rfl ?_
      refine gM_34 K dX10_isFigure_20 ?_
      refine o_iload_n K 1 dX10_isFigure_23 rfl rfl ?_
      obtain ⟨g6, x5, ex5, hf⟩ := rd_e hf
      refine lM_9 K g6 dX10_isFigure_24 ?_
      refine o_nmi ex5 ?_
      refine o_bipush K 57 dX10_isFigure_25 (by decide) ?_
      refine o_icmp_gt K 34 dX10_isFigure_27 (by decide) (fun c7 => ?_) (fun c7 => ?_)
      · have hf := ip c7 hf
        refine o_iconst K 0 dX10_isFigure_34 (by decide) ?_
        exact r_zret K hf hR (by decide) dX10_isFigure_35
      · have hf := im c7 hf
        refine o_iconst K 1 dX10_isFigure_30 (by decide) ?_
        refine o_goto K 35 dX10_isFigure_31 (by decide) ?_
        exact r_zret K hf hR (by decide) dX10_isFigure_35
def f_X10_go_j127 (a0 : Int32) (M : Mem) : Option Mem := nm (sto M 0 13 a0) fun M39 => rd M39 9 96 (M39 0 12) fun x40 => nm (sto M39 0 14 x40) fun M42 => nm (sto M42 0 15 (M42 0 11)) fun M43 => some M43
set_option maxHeartbeats 4000000 in
set_option maxRecDepth 100000 in
theorem t_X10_go_j127 {x : En} {E : Amd} {D : va_G} {ca : Nat → ClassId} {h : Nat → Nat} (K : Kx x E D (tysOf ca) h (LaM ca h) RX10 cX10_go 2 1 21) {Mo : Mem} (hR : Rt x D h (LaM ca h) none none Mo) (a0 : Int32) (M : Mem) (hf : f_X10_go_j127 a0 M = some Mo) : Go x D (tysOf ca) h (LaM ca h) 2 M 127 [some (.ref (h 0)), none] [.int a0, .ref (h 0)] := by
  rw [f_X10_go_j127] at hf
  obtain ⟨M39, eM39, hf⟩ := nm_o hf
  refine pM_218 K dX10_go_127 ?_
  refine o_nmM eM39 ?_
  refine o_aload_n K 0 dX10_go_130 rfl rfl ?_
  refine o_aload_n K 0 dX10_go_131 rfl rfl ?_
  refine gM_34 K dX10_go_132 ?_
  refine o_aload_n K 0 dX10_go_135 rfl rfl ?_
  refine gM_212 K dX10_go_136 ?_
  obtain ⟨g41, x40, ex40, hf⟩ := rd_e hf
  refine lM_9 K g41 dX10_go_139 ?_
  refine o_nmi ex40 ?_
  obtain ⟨M42, eM42, hf⟩ := nm_o hf
  refine pM_224 K dX10_go_140 ?_
  refine o_nmM eM42 ?_
  refine o_aload_n K 0 dX10_go_143 rfl rfl ?_
  refine o_aload_n K 0 dX10_go_144 rfl rfl ?_
  refine gM_209 K dX10_go_145 ?_
  obtain ⟨M43, eM43, hf⟩ := nm_o hf
  refine pM_215 K dX10_go_148 ?_
  refine o_nmM eM43 ?_
  refine o_goto K 303 dX10_go_151 (by decide) ?_
  exact e_vret K hf hR dX10_go_303
def f_X10_go_l93 : Nat → Int32 → Mem → Option Mem
  | 0, _, _ => none
  | n + 1, a0, M => bd (f_X10_isLetter M (M 0 11)) fun r33 => if r33 = 0 then (if a0 = 0 then (f_X10_go_j127 (1 : Int32) M) else f_X10_go_j127 (4 : Int32) M) else nm (sto M 0 11 ((M 0 11) + 1)) fun M36 => f_X10_go_l93 n a0 M36
set_option maxHeartbeats 4000000 in
set_option maxRecDepth 100000 in
theorem t_X10_go_l93 {x : En} {E : Amd} {D : va_G} {ca : Nat → ClassId} {h : Nat → Nat} (K : Kx x E D (tysOf ca) h (LaM ca h) RX10 cX10_go 2 1 21) {Mo : Mem} (hR : Rt x D h (LaM ca h) none none Mo) : ∀ (n : Nat) (a0 : Int32) (M : Mem), f_X10_go_l93 n a0 M = some Mo → Go x D (tysOf ca) h (LaM ca h) 2 M 93 [some (.ref (h 0)), some (.int a0)] [] := by
  intro n
  induction n with
  | zero =>
    intro a0 M hf
    cases hf
  | succ n ih =>
    intro a0 M hf
    rw [f_X10_go_l93] at hf
    refine o_aload_n K 0 dX10_go_93 rfl rfl ?_
    refine o_aload_n K 0 dX10_go_94 rfl rfl ?_
    refine gM_209 K dX10_go_95 ?_
    obtain ⟨r33, er33, hf⟩ := bd_e hf
    refine o_callV K [.int (M 0 11)] (k_X10_isLetter x.2.1 E D ca h M (M 0 11) er33) s_X10_221 (ltM (by decide)) rfl rfl rfl rfl ⟨by decide, by decide⟩ (Nat.le_of_ble_eq_true rfl) _ rfl dX10_go_98 ?_
    show Go x D (tysOf ca) h (LaM ca h) 2 M 101 [some (.ref (h 0)), some (.int a0)] [.int r33]
    refine o_if_eq K 117 dX10_go_101 (by decide) (fun c34 => ?_) (fun c34 => ?_)
    · have hf := ip c34 hf
      refine o_aload_n K 0 dX10_go_117 rfl rfl ?_
      refine o_iload_n K 1 dX10_go_118 rfl rfl ?_
      refine o_if_eq K 126 dX10_go_119 (by decide) (fun c35 => ?_) (fun c35 => ?_)
      · have hf := ip c35 hf
        refine o_iconst K 1 dX10_go_126 (by decide) ?_
        refine o_drop [true, false] (V2 := [some (.ref (h 0)), none]) rfl ?_
        exact t_X10_go_j127 K hR (1 : Int32) M hf
      · have hf := im c35 hf
        refine o_iconst K 4 dX10_go_122 (by decide) ?_
        refine o_goto K 127 dX10_go_123 (by decide) ?_
        refine o_drop [true, false] (V2 := [some (.ref (h 0)), none]) rfl ?_
        exact t_X10_go_j127 K hR (4 : Int32) M hf
    · have hf := im c34 hf
      refine o_aload_n K 0 dX10_go_104 rfl rfl ?_
      refine o_dup K dX10_go_105 rfl ?_
      refine gM_209 K dX10_go_106 ?_
      refine o_iconst K 1 dX10_go_109 (by decide) ?_
      refine o_iadd K dX10_go_110 ?_
      obtain ⟨M36, eM36, hf⟩ := nm_o hf
      refine pM_209 K dX10_go_111 ?_
      refine o_nmM eM36 ?_
      refine o_goto K 93 dX10_go_114 (by decide) ?_
      exact ih a0 M36 hf
def f_X10_go_j222 (rec170 : Int32 → Mem → Option Mem) (a0 : Int32) (a1 : Int32) (M : Mem) : Option Mem := nm (sto M 0 14 a1) fun M37 => nm (sto M37 0 11 ((M37 0 11) + 1)) fun M38 => rec170 a0 M38
set_option maxHeartbeats 4000000 in
set_option maxRecDepth 100000 in
theorem t_X10_go_j222 {x : En} {E : Amd} {D : va_G} {ca : Nat → ClassId} {h : Nat → Nat} (K : Kx x E D (tysOf ca) h (LaM ca h) RX10 cX10_go 2 1 21) {Mo : Mem} (hR : Rt x D h (LaM ca h) none none Mo) {rec170 : Int32 → Mem → Option Mem} (ih170 : ∀ (w0 : Int32) (M : Mem), rec170 w0 M = some Mo → Go x D (tysOf ca) h (LaM ca h) 2 M 170 [some (.ref (h 0)), some (.int w0)] []) (a0 : Int32) (a1 : Int32) (M : Mem) (hf : f_X10_go_j222 rec170 a0 a1 M = some Mo) : Go x D (tysOf ca) h (LaM ca h) 2 M 222 [some (.ref (h 0)), some (.int a0)] [.int a1, .ref (h 0)] := by
  rw [f_X10_go_j222] at hf
  obtain ⟨M37, eM37, hf⟩ := nm_o hf
  refine pM_224 K dX10_go_222 ?_
  refine o_nmM eM37 ?_
  refine o_aload_n K 0 dX10_go_225 rfl rfl ?_
  refine o_dup K dX10_go_226 rfl ?_
  refine gM_209 K dX10_go_227 ?_
  refine o_iconst K 1 dX10_go_230 (by decide) ?_
  refine o_iadd K dX10_go_231 ?_
  obtain ⟨M38, eM38, hf⟩ := nm_o hf
  refine pM_209 K dX10_go_232 ?_
  refine o_nmM eM38 ?_
  refine o_goto K 170 dX10_go_235 (by decide) ?_
  exact ih170 a0 M38 hf
def f_X10_go_l170 : Nat → Int32 → Mem → Option Mem
  | 0, _, _ => none
  | n + 1, a0, M => bd (f_X10_isFigure M (M 0 11)) fun r20 => if r20 = 0 then (if a0 = 0 then (if ((M 0 11) - (M 0 12)) ≤ 4 then (nm (sto M 0 13 2) fun M26 => nm (sto M26 0 15 (M26 0 11)) fun M27 => some M27) else nm (sto M 0 13 4) fun M28 => nm (sto M28 0 15 (M28 0 11)) fun M29 => some M29) else nm (sto M 0 13 4) fun M23 => nm (sto M23 0 15 (M23 0 11)) fun M24 => some M24) else if 4 ≤ ((M 0 11) - (M 0 12)) then (f_X10_go_j222 (f_X10_go_l170 n) a0 (M 0 14) M) else rd M 9 96 (M 0 11) fun x31 => f_X10_go_j222 (f_X10_go_l170 n) a0 ((((10 : Int32) * (M 0 14)) + x31) - 48) M
set_option maxHeartbeats 4000000 in
set_option maxRecDepth 100000 in
theorem t_X10_go_l170 {x : En} {E : Amd} {D : va_G} {ca : Nat → ClassId} {h : Nat → Nat} (K : Kx x E D (tysOf ca) h (LaM ca h) RX10 cX10_go 2 1 21) {Mo : Mem} (hR : Rt x D h (LaM ca h) none none Mo) : ∀ (n : Nat) (a0 : Int32) (M : Mem), f_X10_go_l170 n a0 M = some Mo → Go x D (tysOf ca) h (LaM ca h) 2 M 170 [some (.ref (h 0)), some (.int a0)] [] := by
  intro n
  induction n with
  | zero =>
    intro a0 M hf
    cases hf
  | succ n ih =>
    intro a0 M hf
    rw [f_X10_go_l170] at hf
    refine o_aload_n K 0 dX10_go_170 rfl rfl ?_
    refine o_aload_n K 0 dX10_go_171 rfl rfl ?_
    refine gM_209 K dX10_go_172 ?_
    obtain ⟨r20, er20, hf⟩ := bd_e hf
    refine o_callV K [.int (M 0 11)] (k_X10_isFigure x.2.1 E D ca h M (M 0 11) er20) s_X10_227 (ltM (by decide)) rfl rfl rfl rfl ⟨by decide, by decide⟩ (Nat.le_of_ble_eq_true rfl) _ rfl dX10_go_175 ?_
    show Go x D (tysOf ca) h (LaM ca h) 2 M 178 [some (.ref (h 0)), some (.int a0)] [.int r20]
    refine o_if_eq K 238 dX10_go_178 (by decide) (fun c21 => ?_) (fun c21 => ?_)
    · have hf := ip c21 hf
      refine o_aload_n K 0 dX10_go_238 rfl rfl ?_
      refine o_iload_n K 1 dX10_go_239 rfl rfl ?_
      refine o_if_ne K 256 dX10_go_240 (by decide) (fun c22 => ?_) (fun c22 => ?_)
      · have hf := im c22 hf
        refine o_iconst K 4 dX10_go_256 (by decide) ?_
        refine o_goto K 261 dX10_go_257 (by decide) ?_
        obtain ⟨M23, eM23, hf⟩ := nm_o hf
        refine pM_218 K dX10_go_261 ?_
        refine o_nmM eM23 ?_
        refine o_aload_n K 0 dX10_go_264 rfl rfl ?_
        refine o_aload_n K 0 dX10_go_265 rfl rfl ?_
        refine gM_209 K dX10_go_266 ?_
        obtain ⟨M24, eM24, hf⟩ := nm_o hf
        refine pM_215 K dX10_go_269 ?_
        refine o_nmM eM24 ?_
        refine o_goto K 303 dX10_go_272 (by decide) ?_
        exact e_vret K hf hR dX10_go_303
      · have hf := ip c22 hf
        refine o_aload_n K 0 dX10_go_243 rfl rfl ?_
        refine gM_209 K dX10_go_244 ?_
        refine o_aload_n K 0 dX10_go_247 rfl rfl ?_
        refine gM_212 K dX10_go_248 ?_
        refine o_isub K dX10_go_251 ?_
        refine o_iconst K 4 dX10_go_252 (by decide) ?_
        refine o_icmp_le K 260 dX10_go_253 (by decide) (fun c25 => ?_) (fun c25 => ?_)
        · have hf := ip c25 hf
          refine o_iconst K 2 dX10_go_260 (by decide) ?_
          obtain ⟨M26, eM26, hf⟩ := nm_o hf
          refine pM_218 K dX10_go_261 ?_
          refine o_nmM eM26 ?_
          refine o_aload_n K 0 dX10_go_264 rfl rfl ?_
          refine o_aload_n K 0 dX10_go_265 rfl rfl ?_
          refine gM_209 K dX10_go_266 ?_
          obtain ⟨M27, eM27, hf⟩ := nm_o hf
          refine pM_215 K dX10_go_269 ?_
          refine o_nmM eM27 ?_
          refine o_goto K 303 dX10_go_272 (by decide) ?_
          exact e_vret K hf hR dX10_go_303
        · have hf := im c25 hf
          refine o_iconst K 4 dX10_go_256 (by decide) ?_
          refine o_goto K 261 dX10_go_257 (by decide) ?_
          obtain ⟨M28, eM28, hf⟩ := nm_o hf
          refine pM_218 K dX10_go_261 ?_
          refine o_nmM eM28 ?_
          refine o_aload_n K 0 dX10_go_264 rfl rfl ?_
          refine o_aload_n K 0 dX10_go_265 rfl rfl ?_
          refine gM_209 K dX10_go_266 ?_
          obtain ⟨M29, eM29, hf⟩ := nm_o hf
          refine pM_215 K dX10_go_269 ?_
          refine o_nmM eM29 ?_
          refine o_goto K 303 dX10_go_272 (by decide) ?_
          exact e_vret K hf hR dX10_go_303
    · have hf := im c21 hf
      refine o_aload_n K 0 dX10_go_181 rfl rfl ?_
      refine o_aload_n K 0 dX10_go_182 rfl rfl ?_
      refine gM_209 K dX10_go_183 ?_
      refine o_aload_n K 0 dX10_go_186 rfl rfl ?_
      refine gM_212 K dX10_go_187 ?_
      refine o_isub K dX10_go_190 ?_
      refine o_iconst K 4 dX10_go_191 (by decide) ?_
      refine o_icmp_ge K 218 dX10_go_192 (by decide) (fun c30 => ?_) (fun c30 => ?_)
      · have hf := ip c30 hf
        refine o_aload_n K 0 dX10_go_218 rfl rfl ?_
        refine gM_224 K dX10_go_219 ?_
        exact t_X10_go_j222 K hR ih a0 (M 0 14) M hf
      · have hf := im c30 hf
        refine o_bipush K 10 dX10_go_195 (by decide) ?_
        refine o_aload_n K 0 dX10_go_197 rfl rfl ?_
        refine gM_224 K dX10_go_198 ?_
        refine o_imul K dX10_go_201 ?_
        refine o_aload_n K 0 dX10_go_202 rfl rfl ?_
        refine gM_34 K dX10_go_203 ?_
        refine o_aload_n K 0 dX10_go_206 rfl rfl ?_
        refine gM_209 K dX10_go_207 ?_
        obtain ⟨g32, x31, ex31, hf⟩ := rd_e hf
        refine lM_9 K g32 dX10_go_210 ?_
        refine o_nmi ex31 ?_
        refine o_iadd K dX10_go_211 ?_
        refine o_bipush K 48 dX10_go_212 (by decide) ?_
        refine o_isub K dX10_go_214 ?_
        refine o_goto K 222 dX10_go_215 (by decide) ?_
        exact t_X10_go_j222 K hR ih a0 ((((10 : Int32) * (M 0 14)) + x31) - 48) M hf
def f_X10_go_j62 (a0 : Int32) (M : Mem) : Option Mem := if (M 0 12) = (M 0 10) then (nm (sto M 0 13 0) fun M19 => some M19) else bd (f_X10_isLetter M (M 0 12)) fun r9 => if r9 = 0 then (bd (f_X10_isFigure M (M 0 12)) fun r11 => if r11 = 0 then (nm (sto M 0 13 3) fun M13 => rd M13 9 96 (M13 0 12) fun x14 => nm (sto M13 0 14 x14) fun M16 => nm (sto M16 0 11 ((M16 0 11) + 1)) fun M17 => some M17) else nm (sto M 0 14 0) fun M18 => f_X10_go_l170 FU a0 M18) else f_X10_go_l93 FU a0 M
set_option maxHeartbeats 4000000 in
set_option maxRecDepth 100000 in
theorem t_X10_go_j62 {x : En} {E : Amd} {D : va_G} {ca : Nat → ClassId} {h : Nat → Nat} (K : Kx x E D (tysOf ca) h (LaM ca h) RX10 cX10_go 2 1 21) {Mo : Mem} (hR : Rt x D h (LaM ca h) none none Mo) (a0 : Int32) (M : Mem) (hf : f_X10_go_j62 a0 M = some Mo) : Go x D (tysOf ca) h (LaM ca h) 2 M 62 [some (.ref (h 0)), none] [.int a0] := by
  rw [f_X10_go_j62] at hf
  refine o_istore_n K 1 [some (.ref (h 0)), some (.int a0)] dX10_go_62 rfl (by decide) rfl rfl ?_
  refine o_aload_n K 0 dX10_go_63 rfl rfl ?_
  refine gM_212 K dX10_go_64 ?_
  refine o_aload_n K 0 dX10_go_67 rfl rfl ?_
  refine gM_205 K dX10_go_68 ?_
  refine o_icmp_ne K 82 dX10_go_71 (by decide) (fun c8 => ?_) (fun c8 => ?_)
  · have hf := im c8 hf
    refine o_aload_n K 0 dX10_go_82 rfl rfl ?_
    refine o_aload_n K 0 dX10_go_83 rfl rfl ?_
    refine gM_212 K dX10_go_84 ?_
    obtain ⟨r9, er9, hf⟩ := bd_e hf
    refine o_callV K [.int (M 0 12)] (k_X10_isLetter x.2.1 E D ca h M (M 0 12) er9) s_X10_221 (ltM (by decide)) rfl rfl rfl rfl ⟨by decide, by decide⟩ (Nat.le_of_ble_eq_true rfl) _ rfl dX10_go_87 ?_
    show Go x D (tysOf ca) h (LaM ca h) 2 M 90 [some (.ref (h 0)), some (.int a0)] [.int r9]
    refine o_if_eq K 154 dX10_go_90 (by decide) (fun c10 => ?_) (fun c10 => ?_)
    · have hf := ip c10 hf
      refine o_aload_n K 0 dX10_go_154 rfl rfl ?_
      refine o_aload_n K 0 dX10_go_155 rfl rfl ?_
      refine gM_212 K dX10_go_156 ?_
      obtain ⟨r11, er11, hf⟩ := bd_e hf
      refine o_callV K [.int (M 0 12)] (k_X10_isFigure x.2.1 E D ca h M (M 0 12) er11) s_X10_227 (ltM (by decide)) rfl rfl rfl rfl ⟨by decide, by decide⟩ (Nat.le_of_ble_eq_true rfl) _ rfl dX10_go_159 ?_
      show Go x D (tysOf ca) h (LaM ca h) 2 M 162 [some (.ref (h 0)), some (.int a0)] [.int r11]
      refine o_if_eq K 275 dX10_go_162 (by decide) (fun c12 => ?_) (fun c12 => ?_)
      · have hf := ip c12 hf
        refine o_aload_n K 0 dX10_go_275 rfl rfl ?_
        refine o_iconst K 3 dX10_go_276 (by decide) ?_
        obtain ⟨M13, eM13, hf⟩ := nm_o hf
        refine pM_218 K dX10_go_277 ?_
        refine o_nmM eM13 ?_
        refine o_aload_n K 0 dX10_go_280 rfl rfl ?_
        refine o_aload_n K 0 dX10_go_281 rfl rfl ?_
        refine gM_34 K dX10_go_282 ?_
        refine o_aload_n K 0 dX10_go_285 rfl rfl ?_
        refine gM_212 K dX10_go_286 ?_
        obtain ⟨g15, x14, ex14, hf⟩ := rd_e hf
        refine lM_9 K g15 dX10_go_289 ?_
        refine o_nmi ex14 ?_
        obtain ⟨M16, eM16, hf⟩ := nm_o hf
        refine pM_224 K dX10_go_290 ?_
        refine o_nmM eM16 ?_
        refine o_aload_n K 0 dX10_go_293 rfl rfl ?_
        refine o_dup K dX10_go_294 rfl ?_
        refine gM_209 K dX10_go_295 ?_
        refine o_iconst K 1 dX10_go_298 (by decide) ?_
        refine o_iadd K dX10_go_299 ?_
        obtain ⟨M17, eM17, hf⟩ := nm_o hf
        refine pM_209 K dX10_go_300 ?_
        refine o_nmM eM17 ?_
        exact e_vret K hf hR dX10_go_303
      · have hf := im c12 hf
        refine o_aload_n K 0 dX10_go_165 rfl rfl ?_
        refine o_iconst K 0 dX10_go_166 (by decide) ?_
        obtain ⟨M18, eM18, hf⟩ := nm_o hf
        refine pM_224 K dX10_go_167 ?_
        refine o_nmM eM18 ?_
        exact t_X10_go_l170 K hR FU a0 M18 hf
    · have hf := im c10 hf
      exact t_X10_go_l93 K hR FU a0 M hf
  · have hf := ip c8 hf
    refine o_aload_n K 0 dX10_go_74 rfl rfl ?_
    refine o_iconst K 0 dX10_go_75 (by decide) ?_
    obtain ⟨M19, eM19, hf⟩ := nm_o hf
    refine pM_218 K dX10_go_76 ?_
    refine o_nmM eM19 ?_
    refine o_goto K 303 dX10_go_79 (by decide) ?_
    exact e_vret K hf hR dX10_go_303
def f_X10_go_j38 (M : Mem) : Option Mem := nm (sto M 0 12 (M 0 11)) fun M6 => if (M6 0 12) = (M6 0 15) then (f_X10_go_j62 (1 : Int32) M6) else f_X10_go_j62 (0 : Int32) M6
set_option maxHeartbeats 4000000 in
set_option maxRecDepth 100000 in
theorem t_X10_go_j38 {x : En} {E : Amd} {D : va_G} {ca : Nat → ClassId} {h : Nat → Nat} (K : Kx x E D (tysOf ca) h (LaM ca h) RX10 cX10_go 2 1 21) {Mo : Mem} (hR : Rt x D h (LaM ca h) none none Mo) (M : Mem) (hf : f_X10_go_j38 M = some Mo) : Go x D (tysOf ca) h (LaM ca h) 2 M 38 [some (.ref (h 0)), none] [] := by
  rw [f_X10_go_j38] at hf
  refine o_aload_n K 0 dX10_go_38 rfl rfl ?_
  refine o_aload_n K 0 dX10_go_39 rfl rfl ?_
  refine gM_209 K dX10_go_40 ?_
  obtain ⟨M6, eM6, hf⟩ := nm_o hf
  refine pM_212 K dX10_go_43 ?_
  refine o_nmM eM6 ?_
  refine o_aload_n K 0 dX10_go_46 rfl rfl ?_
  refine gM_212 K dX10_go_47 ?_
  refine o_aload_n K 0 dX10_go_50 rfl rfl ?_
  refine gM_215 K dX10_go_51 ?_
  refine o_icmp_ne K 61 dX10_go_54 (by decide) (fun c7 => ?_) (fun c7 => ?_)
  · have hf := im c7 hf
    refine o_iconst K 0 dX10_go_61 (by decide) ?_
    exact t_X10_go_j62 K hR (0 : Int32) M6 hf
  · have hf := ip c7 hf
    refine o_iconst K 1 dX10_go_57 (by decide) ?_
    refine o_goto K 62 dX10_go_58 (by decide) ?_
    exact t_X10_go_j62 K hR (1 : Int32) M6 hf
def f_X10_go_l0 : Nat → Mem → Option Mem
  | 0, _ => none
  | n + 1, M => if (M 0 10) ≤ (M 0 11) then (f_X10_go_j38 M) else rd M 9 96 (M 0 11) fun x2 => if x2 = 32 then (nm (sto M 0 11 ((M 0 11) + 1)) fun M5 => f_X10_go_l0 n  M5) else f_X10_go_j38 M
set_option maxHeartbeats 4000000 in
set_option maxRecDepth 100000 in
theorem t_X10_go_l0 {x : En} {E : Amd} {D : va_G} {ca : Nat → ClassId} {h : Nat → Nat} (K : Kx x E D (tysOf ca) h (LaM ca h) RX10 cX10_go 2 1 21) {Mo : Mem} (hR : Rt x D h (LaM ca h) none none Mo) : ∀ (n : Nat) (M : Mem), f_X10_go_l0 n M = some Mo → Go x D (tysOf ca) h (LaM ca h) 2 M 0 [some (.ref (h 0)), none] [] := by
  intro n
  induction n with
  | zero =>
    intro M hf
    cases hf
  | succ n ih =>
    intro M hf
    rw [f_X10_go_l0] at hf
    refine o_aload_n K 0 dX10_go_0 rfl rfl ?_
    refine gM_209 K dX10_go_1 ?_
    refine o_aload_n K 0 dX10_go_4 rfl rfl ?_
    refine gM_205 K dX10_go_5 ?_
    refine o_icmp_ge K 38 dX10_go_8 (by decide) (fun c1 => ?_) (fun c1 => ?_)
    · have hf := ip c1 hf
      exact t_X10_go_j38 K hR M hf
    · have hf := im c1 hf
      refine o_aload_n K 0 dX10_go_11 rfl rfl ?_
      refine gM_34 K dX10_go_12 ?_
      refine o_aload_n K 0 dX10_go_15 rfl rfl ?_
      refine gM_209 K dX10_go_16 ?_
      obtain ⟨g3, x2, ex2, hf⟩ := rd_e hf
      refine lM_9 K g3 dX10_go_19 ?_
      refine o_nmi ex2 ?_
      refine o_bipush K 32 dX10_go_20 (by decide) ?_
      refine o_icmp_ne K 38 dX10_go_22 (by decide) (fun c4 => ?_) (fun c4 => ?_)
      · have hf := im c4 hf
        exact t_X10_go_j38 K hR M hf
      · have hf := ip c4 hf
        refine o_aload_n K 0 dX10_go_25 rfl rfl ?_
        refine o_dup K dX10_go_26 rfl ?_
        refine gM_209 K dX10_go_27 ?_
        refine o_iconst K 1 dX10_go_30 (by decide) ?_
        refine o_iadd K dX10_go_31 ?_
        obtain ⟨M5, eM5, hf⟩ := nm_o hf
        refine pM_209 K dX10_go_32 ?_
        refine o_nmM eM5 ?_
        refine o_goto K 0 dX10_go_35 (by decide) ?_
        exact ih  M5 hf
def f_X10_go (M : Mem) : Option Mem := f_X10_go_l0 FU M
set_option maxHeartbeats 4000000 in
set_option maxRecDepth 100000 in
theorem k_X10_go (l : Launch) (E : Amd) (D : va_G) (ca : Nat → ClassId) (h : Nat → Nat) (M : Mem) {Mo : Mem} (hf : f_X10_go M = some Mo) : Ct l E D (tysOf ca) h (LaM ca h) yX10_go cX10_go 2 none 1 21 [.ref (h 0)] M none Mo := by
  refine Ct.mk [some (.ref (h 0)), none] (by decide) (Nat.le_of_ble_eq_true rfl) (argsV [.ref (h 0)] 1 rfl rfl) ?_
  intro x hx0 K hR
  have K : Kx x E D (tysOf ca) h (LaM ca h) RX10 cX10_go 2 1 21 := K
  rw [f_X10_go] at hf
  exact t_X10_go_l0 K hR FU M hf
def f_X10_takesKey_j99 (rec12 : Int32 → Mem → Option (Int32 × Mem)) (rec55 : Int32 → Int32 → Int32 → Int32 → Mem → Option (Int32 × Mem)) (a0 : Int32) (a1 : Int32) (a2 : Int32) (a3 : Int32) (M : Mem) : Option (Int32 × Mem) := nm (a2 + 1 : Int32) fun x23 => rec55 a0 a1 a3 x23 M
set_option maxHeartbeats 4000000 in
set_option maxRecDepth 100000 in
theorem t_X10_takesKey_j99 {x : En} {E : Amd} {D : va_G} {ca : Nat → ClassId} {h : Nat → Nat} (K : Kx x E D (tysOf ca) h (LaM ca h) RX10 cX10_takesKey 5 2 42) {r0 : Int32} {Mo : Mem} (hR : Rt x D h (LaM ca h) (some .boolean) (some (.int r0)) Mo) {rec12 : Int32 → Mem → Option (Int32 × Mem)} {rec55 : Int32 → Int32 → Int32 → Int32 → Mem → Option (Int32 × Mem)} (ih12 : ∀ (w0 : Int32) (M : Mem), rec12 w0 M = some (r0, Mo) → Go x D (tysOf ca) h (LaM ca h) 5 M 12 [some (.ref (h 0)), some (.int w0), none, none, none] []) (ih55 : ∀ (w0 : Int32) (w1 : Int32) (w2 : Int32) (w3 : Int32) (M : Mem), rec55 w0 w1 w2 w3 M = some (r0, Mo) → Go x D (tysOf ca) h (LaM ca h) 5 M 55 [some (.ref (h 0)), some (.int w0), some (.int w1), some (.int w2), some (.int w3)] []) (a0 : Int32) (a1 : Int32) (a2 : Int32) (a3 : Int32) (M : Mem) (hf : f_X10_takesKey_j99 rec12 rec55 a0 a1 a2 a3 M = some (r0, Mo)) : Go x D (tysOf ca) h (LaM ca h) 5 M 99 [some (.ref (h 0)), some (.int a0), some (.int a1), none, some (.int a2)] [.int a3] := by
  rw [f_X10_takesKey_j99] at hf
  refine o_istore_n K 3 [some (.ref (h 0)), some (.int a0), some (.int a1), some (.int a3), some (.int a2)] dX10_takesKey_99 rfl (by decide) rfl rfl ?_
  obtain ⟨x23, ex23, hf⟩ := nm_o hf
  refine o_iinc K 4 x23 [some (.ref (h 0)), some (.int a0), some (.int a1), some (.int a3), some (.int x23)] dX10_takesKey_100 rfl (inc_e (by decide) ex23) (by decide) rfl rfl ?_
  refine o_goto K 55 dX10_takesKey_103 (by decide) ?_
  exact ih55 a0 a1 a3 x23 M hf
def f_X10_takesKey_j106 (rec12 : Int32 → Mem → Option (Int32 × Mem)) (a0 : Int32) (a1 : Int32) (M : Mem) : Option (Int32 × Mem) := if a1 = 0 then (nm (a0 + 1 : Int32) fun x19 => rec12 x19 M) else nm (sto M 0 16 a0) fun M20 => bd (f_X10_go M20) fun M22 => some ((1 : Int32), M22)
set_option maxHeartbeats 4000000 in
set_option maxRecDepth 100000 in
theorem t_X10_takesKey_j106 {x : En} {E : Amd} {D : va_G} {ca : Nat → ClassId} {h : Nat → Nat} (K : Kx x E D (tysOf ca) h (LaM ca h) RX10 cX10_takesKey 5 2 42) {r0 : Int32} {Mo : Mem} (hR : Rt x D h (LaM ca h) (some .boolean) (some (.int r0)) Mo) {rec12 : Int32 → Mem → Option (Int32 × Mem)} (ih12 : ∀ (w0 : Int32) (M : Mem), rec12 w0 M = some (r0, Mo) → Go x D (tysOf ca) h (LaM ca h) 5 M 12 [some (.ref (h 0)), some (.int w0), none, none, none] []) (a0 : Int32) (a1 : Int32) (M : Mem) (hf : f_X10_takesKey_j106 rec12 a0 a1 M = some (r0, Mo)) : Go x D (tysOf ca) h (LaM ca h) 5 M 106 [some (.ref (h 0)), some (.int a0), none, some (.int a1), none] [] := by
  rw [f_X10_takesKey_j106] at hf
  refine o_iload_n K 3 dX10_takesKey_106 rfl rfl ?_
  refine o_if_eq K 121 dX10_takesKey_107 (by decide) (fun c18 => ?_) (fun c18 => ?_)
  · have hf := ip c18 hf
    obtain ⟨x19, ex19, hf⟩ := nm_o hf
    refine o_iinc K 1 x19 [some (.ref (h 0)), some (.int x19), none, some (.int a1), none] dX10_takesKey_121 rfl (inc_e (by decide) ex19) (by decide) rfl rfl ?_
    refine o_goto K 12 dX10_takesKey_124 (by decide) ?_
    refine o_drop [true, true, false, false, false] (V2 := [some (.ref (h 0)), some (.int x19), none, none, none]) rfl ?_
    exact ih12 x19 M hf
  · have hf := im c18 hf
    refine o_aload_n K 0 dX10_takesKey_110 rfl rfl ?_
    refine o_iload_n K 1 dX10_takesKey_111 rfl rfl ?_
    obtain ⟨M20, eM20, hf⟩ := nm_o hf
    refine pM_230 K dX10_takesKey_112 ?_
    refine o_nmM eM20 ?_
    refine o_aload_n K 0 dX10_takesKey_115 rfl rfl ?_
    obtain ⟨M22, er21, hf⟩ := bd_e hf
    refine o_callV K [] (k_X10_go x.2.1 E D ca h M20 er21) s_X10_233 (ltM (by decide)) rfl rfl rfl rfl ⟨by decide, by decide⟩ (Nat.le_of_ble_eq_true rfl) _ rfl dX10_takesKey_116 ?_
    show Go x D (tysOf ca) h (LaM ca h) 5 M22 119 [some (.ref (h 0)), some (.int a0), none, some (.int a1), none] []
    refine o_iconst K 1 dX10_takesKey_119 (by decide) ?_
    exact e_zret K hf hR (by decide) dX10_takesKey_120
def f_X10_takesKey_l55 (rec12 : Int32 → Mem → Option (Int32 × Mem)) : Nat → Int32 → Int32 → Int32 → Int32 → Mem → Option (Int32 × Mem)
  | 0, _, _, _, _, _ => none
  | n + 1, a0, a1, a2, a3, M => if a1 ≤ a3 then (f_X10_takesKey_j106 rec12 a0 a2 M) else if a2 = 0 then (f_X10_takesKey_j106 rec12 a0 a2 M) else rd M 9 96 ((M 0 12) + a3) fun x11 => rd M 11 4 a0 fun x13 => rd M 10 12 (x13 + a3) fun x15 => if x11 = x15 then (f_X10_takesKey_j99 rec12 (f_X10_takesKey_l55 rec12 n) a0 a1 a3 (1 : Int32) M) else f_X10_takesKey_j99 rec12 (f_X10_takesKey_l55 rec12 n) a0 a1 a3 (0 : Int32) M
set_option maxHeartbeats 4000000 in
set_option maxRecDepth 100000 in
theorem t_X10_takesKey_l55 {x : En} {E : Amd} {D : va_G} {ca : Nat → ClassId} {h : Nat → Nat} (K : Kx x E D (tysOf ca) h (LaM ca h) RX10 cX10_takesKey 5 2 42) {r0 : Int32} {Mo : Mem} (hR : Rt x D h (LaM ca h) (some .boolean) (some (.int r0)) Mo) {rec12 : Int32 → Mem → Option (Int32 × Mem)} (ih12 : ∀ (w0 : Int32) (M : Mem), rec12 w0 M = some (r0, Mo) → Go x D (tysOf ca) h (LaM ca h) 5 M 12 [some (.ref (h 0)), some (.int w0), none, none, none] []) : ∀ (n : Nat) (a0 : Int32) (a1 : Int32) (a2 : Int32) (a3 : Int32) (M : Mem), f_X10_takesKey_l55 rec12 n a0 a1 a2 a3 M = some (r0, Mo) → Go x D (tysOf ca) h (LaM ca h) 5 M 55 [some (.ref (h 0)), some (.int a0), some (.int a1), some (.int a2), some (.int a3)] [] := by
  intro n
  induction n with
  | zero =>
    intro a0 a1 a2 a3 M hf
    cases hf
  | succ n ih =>
    intro a0 a1 a2 a3 M hf
    rw [f_X10_takesKey_l55] at hf
    refine o_iload K 4 dX10_takesKey_55 rfl ?_
    refine o_iload_n K 2 dX10_takesKey_57 rfl rfl ?_
    refine o_icmp_ge K 106 dX10_takesKey_58 (by decide) (fun c9 => ?_) (fun c9 => ?_)
    · have hf := ip c9 hf
      refine o_drop [true, true, false, true, false] (V2 := [some (.ref (h 0)), some (.int a0), none, some (.int a2), none]) rfl ?_
      exact t_X10_takesKey_j106 K hR ih12 a0 a2 M hf
    · have hf := im c9 hf
      refine o_iload_n K 3 dX10_takesKey_61 rfl rfl ?_
      refine o_if_eq K 106 dX10_takesKey_62 (by decide) (fun c10 => ?_) (fun c10 => ?_)
      · have hf := ip c10 hf
        refine o_drop [true, true, false, true, false] (V2 := [some (.ref (h 0)), some (.int a0), none, some (.int a2), none]) rfl ?_
        exact t_X10_takesKey_j106 K hR ih12 a0 a2 M hf
      · have hf := im c10 hf
        refine o_aload_n K 0 dX10_takesKey_65 rfl rfl ?_
        refine gM_34 K dX10_takesKey_66 ?_
        refine o_aload_n K 0 dX10_takesKey_69 rfl rfl ?_
        refine gM_212 K dX10_takesKey_70 ?_
        refine o_iload K 4 dX10_takesKey_73 rfl ?_
        refine o_iadd K dX10_takesKey_75 ?_
        obtain ⟨g12, x11, ex11, hf⟩ := rd_e hf
        refine lM_9 K g12 dX10_takesKey_76 ?_
        refine o_nmi ex11 ?_
        refine o_aload_n K 0 dX10_takesKey_77 rfl rfl ?_
        refine gM_37 K dX10_takesKey_78 ?_
        refine o_aload_n K 0 dX10_takesKey_81 rfl rfl ?_
        refine gM_41 K dX10_takesKey_82 ?_
        refine o_iload_n K 1 dX10_takesKey_85 rfl rfl ?_
        obtain ⟨g14, x13, ex13, hf⟩ := rd_e hf
        refine lM_11 K g14 dX10_takesKey_86 ?_
        refine o_nmi ex13 ?_
        refine o_iload K 4 dX10_takesKey_87 rfl ?_
        refine o_iadd K dX10_takesKey_89 ?_
        obtain ⟨g16, x15, ex15, hf⟩ := rd_e hf
        refine lM_10 K g16 dX10_takesKey_90 ?_
        refine o_nmi ex15 ?_
        refine o_icmp_ne K 98 dX10_takesKey_91 (by decide) (fun c17 => ?_) (fun c17 => ?_)
        · have hf := im c17 hf
          refine o_iconst K 0 dX10_takesKey_98 (by decide) ?_
          refine o_drop [true, true, true, false, true] (V2 := [some (.ref (h 0)), some (.int a0), some (.int a1), none, some (.int a3)]) rfl ?_
          exact t_X10_takesKey_j99 K hR ih12 ih a0 a1 a3 (0 : Int32) M hf
        · have hf := ip c17 hf
          refine o_iconst K 1 dX10_takesKey_94 (by decide) ?_
          refine o_goto K 99 dX10_takesKey_95 (by decide) ?_
          refine o_drop [true, true, true, false, true] (V2 := [some (.ref (h 0)), some (.int a0), some (.int a1), none, some (.int a3)]) rfl ?_
          exact t_X10_takesKey_j99 K hR ih12 ih a0 a1 a3 (1 : Int32) M hf
def f_X10_takesKey_j51 (rec12 : Int32 → Mem → Option (Int32 × Mem)) (a0 : Int32) (a1 : Int32) (a2 : Int32) (M : Mem) : Option (Int32 × Mem) := f_X10_takesKey_l55 rec12 FU a0 a1 a2 (0 : Int32) M
set_option maxHeartbeats 4000000 in
set_option maxRecDepth 100000 in
theorem t_X10_takesKey_j51 {x : En} {E : Amd} {D : va_G} {ca : Nat → ClassId} {h : Nat → Nat} (K : Kx x E D (tysOf ca) h (LaM ca h) RX10 cX10_takesKey 5 2 42) {r0 : Int32} {Mo : Mem} (hR : Rt x D h (LaM ca h) (some .boolean) (some (.int r0)) Mo) {rec12 : Int32 → Mem → Option (Int32 × Mem)} (ih12 : ∀ (w0 : Int32) (M : Mem), rec12 w0 M = some (r0, Mo) → Go x D (tysOf ca) h (LaM ca h) 5 M 12 [some (.ref (h 0)), some (.int w0), none, none, none] []) (a0 : Int32) (a1 : Int32) (a2 : Int32) (M : Mem) (hf : f_X10_takesKey_j51 rec12 a0 a1 a2 M = some (r0, Mo)) : Go x D (tysOf ca) h (LaM ca h) 5 M 51 [some (.ref (h 0)), some (.int a0), some (.int a1), none, none] [.int a2] := by
  rw [f_X10_takesKey_j51] at hf
  refine o_istore_n K 3 [some (.ref (h 0)), some (.int a0), some (.int a1), some (.int a2), none] dX10_takesKey_51 rfl (by decide) rfl rfl ?_
  refine o_iconst K 0 dX10_takesKey_52 (by decide) ?_
  refine o_istore K 4 [some (.ref (h 0)), some (.int a0), some (.int a1), some (.int a2), some (.int 0)] dX10_takesKey_53 (by decide) rfl rfl ?_
  exact t_X10_takesKey_l55 K hR ih12 FU a0 a1 a2 (0 : Int32) M hf
def f_X10_takesKey_l12 : Nat → Int32 → Mem → Option (Int32 × Mem)
  | 0, _, _ => none
  | n + 1, a0, M => if 3 ≤ a0 then (some ((0 : Int32), M)) else rd M 11 4 (a0 + 1) fun x3 => rd M 11 4 a0 fun x5 => nm (x3 - x5 : Int32) fun x7 => if x7 = ((M 0 11) - (M 0 12)) then (f_X10_takesKey_j51 (f_X10_takesKey_l12 n) a0 x7 (1 : Int32) M) else f_X10_takesKey_j51 (f_X10_takesKey_l12 n) a0 x7 (0 : Int32) M
set_option maxHeartbeats 4000000 in
set_option maxRecDepth 100000 in
theorem t_X10_takesKey_l12 {x : En} {E : Amd} {D : va_G} {ca : Nat → ClassId} {h : Nat → Nat} (K : Kx x E D (tysOf ca) h (LaM ca h) RX10 cX10_takesKey 5 2 42) {r0 : Int32} {Mo : Mem} (hR : Rt x D h (LaM ca h) (some .boolean) (some (.int r0)) Mo) : ∀ (n : Nat) (a0 : Int32) (M : Mem), f_X10_takesKey_l12 n a0 M = some (r0, Mo) → Go x D (tysOf ca) h (LaM ca h) 5 M 12 [some (.ref (h 0)), some (.int a0), none, none, none] [] := by
  intro n
  induction n with
  | zero =>
    intro a0 M hf
    cases hf
  | succ n ih =>
    intro a0 M hf
    rw [f_X10_takesKey_l12] at hf
    refine o_iload_n K 1 dX10_takesKey_12 rfl rfl ?_
    refine o_iconst K 3 dX10_takesKey_13 (by decide) ?_
    refine o_icmp_ge K 127 dX10_takesKey_14 (by decide) (fun c2 => ?_) (fun c2 => ?_)
    · have hf := ip c2 hf
      refine o_iconst K 0 dX10_takesKey_127 (by decide) ?_
      exact e_zret K hf hR (by decide) dX10_takesKey_128
    · have hf := im c2 hf
      refine o_aload_n K 0 dX10_takesKey_17 rfl rfl ?_
      refine gM_41 K dX10_takesKey_18 ?_
      refine o_iload_n K 1 dX10_takesKey_21 rfl rfl ?_
      refine o_iconst K 1 dX10_takesKey_22 (by decide) ?_
      refine o_iadd K dX10_takesKey_23 ?_
      obtain ⟨g4, x3, ex3, hf⟩ := rd_e hf
      refine lM_11 K g4 dX10_takesKey_24 ?_
      refine o_nmi ex3 ?_
      refine o_aload_n K 0 dX10_takesKey_25 rfl rfl ?_
      refine gM_41 K dX10_takesKey_26 ?_
      refine o_iload_n K 1 dX10_takesKey_29 rfl rfl ?_
      obtain ⟨g6, x5, ex5, hf⟩ := rd_e hf
      refine lM_11 K g6 dX10_takesKey_30 ?_
      refine o_nmi ex5 ?_
      refine o_isub K dX10_takesKey_31 ?_
      obtain ⟨x7, ex7, hf⟩ := nm_o hf
      refine o_nmi ex7 ?_
      refine o_istore_n K 2 [some (.ref (h 0)), some (.int a0), some (.int x7), none, none] dX10_takesKey_32 rfl (by decide) rfl rfl ?_
      refine o_iload_n K 2 dX10_takesKey_33 rfl rfl ?_
      refine o_aload_n K 0 dX10_takesKey_34 rfl rfl ?_
      refine gM_209 K dX10_takesKey_35 ?_
      refine o_aload_n K 0 dX10_takesKey_38 rfl rfl ?_
      refine gM_212 K dX10_takesKey_39 ?_
      refine o_isub K dX10_takesKey_42 ?_
      refine o_icmp_ne K 50 dX10_takesKey_43 (by decide) (fun c8 => ?_) (fun c8 => ?_)
      · have hf := im c8 hf
        refine o_iconst K 0 dX10_takesKey_50 (by decide) ?_
        exact t_X10_takesKey_j51 K hR ih a0 x7 (0 : Int32) M hf
      · have hf := ip c8 hf
        refine o_iconst K 1 dX10_takesKey_46 (by decide) ?_
        refine o_goto K 51 dX10_takesKey_47 (by decide) ?_
        exact t_X10_takesKey_j51 K hR ih a0 x7 (1 : Int32) M hf
def f_X10_takesKey (M : Mem) : Option (Int32 × Mem) := if (M 0 13) = 1 then (f_X10_takesKey_l12 FU (0 : Int32) M) else some ((0 : Int32), M)
set_option maxHeartbeats 4000000 in
set_option maxRecDepth 100000 in
theorem k_X10_takesKey (l : Launch) (E : Amd) (D : va_G) (ca : Nat → ClassId) (h : Nat → Nat) (M : Mem) {r0 : Int32} {Mo : Mem} (hf : f_X10_takesKey M = some (r0, Mo)) : Ct l E D (tysOf ca) h (LaM ca h) yX10_takesKey cX10_takesKey 5 (some .boolean) 2 42 [.ref (h 0)] M (some (.int r0)) Mo := by
  refine Ct.mk [some (.ref (h 0)), none, none, none, none] (by decide) (Nat.le_of_ble_eq_true rfl) (argsV [.ref (h 0)] 4 rfl rfl) ?_
  intro x hx0 K hR
  have K : Kx x E D (tysOf ca) h (LaM ca h) RX10 cX10_takesKey 5 2 42 := K
  rw [f_X10_takesKey] at hf
  refine o_aload_n K 0 dX10_takesKey_0 rfl rfl ?_
  refine gM_218 K dX10_takesKey_1 ?_
  refine o_iconst K 1 dX10_takesKey_4 (by decide) ?_
  refine o_icmp_eq K 10 dX10_takesKey_5 (by decide) (fun c1 => ?_) (fun c1 => ?_)
  · have hf := ip c1 hf
    refine o_iconst K 0 dX10_takesKey_10 (by decide) ?_
    refine o_istore_n K 1 [some (.ref (h 0)), some (.int 0), none, none, none] dX10_takesKey_11 rfl (by decide) rfl rfl ?_
    exact t_X10_takesKey_l12 K hR FU (0 : Int32) M hf
  · have hf := im c1 hf
    refine o_iconst K 0 dX10_takesKey_8 (by decide) ?_
    exact e_zret K hf hR (by decide) dX10_takesKey_9
def f_X10_nameOf (M : Mem) (a1 : Int32) : Option Int32 := if (M 0 16) = 0 then (if a1 = 119 then (some ((0 : Int32))) else if a1 = 111 then (some ((1 : Int32))) else some (((-1) : Int32))) else if (M 0 16) = 1 then (if a1 = 102 then (some ((0 : Int32))) else if a1 = 115 then (some ((1 : Int32))) else some (((-1) : Int32))) else if a1 = 103 then (some ((0 : Int32))) else if a1 = 109 then (some ((1 : Int32))) else some (((-1) : Int32))
set_option maxHeartbeats 4000000 in
set_option maxRecDepth 100000 in
theorem k_X10_nameOf (l : Launch) (E : Amd) (D : va_G) (ca : Nat → ClassId) (h : Nat → Nat) (M : Mem) (a1 : Int32) {r0 : Int32} (hf : f_X10_nameOf M a1 = some r0) : Ct l E D (tysOf ca) h (LaM ca h) yX10_nameOf cX10_nameOf 2 (some .int) 0 0 [.ref (h 0), .int a1] M (some (.int r0)) M := by
  refine Ct.mk [some (.ref (h 0)), some (.int a1)] (by decide) (Nat.le_of_ble_eq_true rfl) (argsV [.ref (h 0), .int a1] 0 rfl rfl) ?_
  intro x hx0 K hR
  have K : Kx x E D (tysOf ca) h (LaM ca h) RX10 cX10_nameOf 2 0 0 := K
  rw [f_X10_nameOf] at hf
  refine o_aload_n K 0 dX10_nameOf_0 rfl rfl ?_
  refine gM_230 K dX10_nameOf_1 ?_
  by_cases c1 : (M 0 16) = 0
  · have hf := ip c1 hf
    refine o_lookup K 32 dX10_nameOf_4 (by decide) (by rw [c1]; try decide) (by decide) ?_
    refine o_iload_n K 1 dX10_nameOf_32 rfl rfl ?_
    refine o_bipush K 119 dX10_nameOf_33 (by decide) ?_
    refine o_icmp_ne K 42 dX10_nameOf_35 (by decide) (fun c2 => ?_) (fun c2 => ?_)
    · have hf := im c2 hf
      refine o_iload_n K 1 dX10_nameOf_42 rfl rfl ?_
      refine o_bipush K 111 dX10_nameOf_43 (by decide) ?_
      refine o_icmp_ne K 52 dX10_nameOf_45 (by decide) (fun c3 => ?_) (fun c3 => ?_)
      · have hf := im c3 hf
        refine o_iconst K (-1) dX10_nameOf_52 (by decide) ?_
        exact r_iret K hf hR dX10_nameOf_53
      · have hf := ip c3 hf
        refine o_iconst K 1 dX10_nameOf_48 (by decide) ?_
        refine o_goto K 53 dX10_nameOf_49 (by decide) ?_
        exact r_iret K hf hR dX10_nameOf_53
    · have hf := ip c2 hf
      refine o_iconst K 0 dX10_nameOf_38 (by decide) ?_
      refine o_goto K 53 dX10_nameOf_39 (by decide) ?_
      exact r_iret K hf hR dX10_nameOf_53
  have hf := im c1 hf
  by_cases c4 : (M 0 16) = 1
  · have hf := ip c4 hf
    refine o_lookup K 54 dX10_nameOf_4 (by decide) (by rw [c4]; try decide) (by decide) ?_
    refine o_iload_n K 1 dX10_nameOf_54 rfl rfl ?_
    refine o_bipush K 102 dX10_nameOf_55 (by decide) ?_
    refine o_icmp_ne K 64 dX10_nameOf_57 (by decide) (fun c5 => ?_) (fun c5 => ?_)
    · have hf := im c5 hf
      refine o_iload_n K 1 dX10_nameOf_64 rfl rfl ?_
      refine o_bipush K 115 dX10_nameOf_65 (by decide) ?_
      refine o_icmp_ne K 74 dX10_nameOf_67 (by decide) (fun c6 => ?_) (fun c6 => ?_)
      · have hf := im c6 hf
        refine o_iconst K (-1) dX10_nameOf_74 (by decide) ?_
        exact r_iret K hf hR dX10_nameOf_75
      · have hf := ip c6 hf
        refine o_iconst K 1 dX10_nameOf_70 (by decide) ?_
        refine o_goto K 75 dX10_nameOf_71 (by decide) ?_
        exact r_iret K hf hR dX10_nameOf_75
    · have hf := ip c5 hf
      refine o_iconst K 0 dX10_nameOf_60 (by decide) ?_
      refine o_goto K 75 dX10_nameOf_61 (by decide) ?_
      exact r_iret K hf hR dX10_nameOf_75
  have hf := im c4 hf
  refine o_lookup K (off := 72) 76 dX10_nameOf_4 (by decide) ((lv_osw c1 rfl).trans ((lv_osw c4 rfl).trans rfl)) (by decide) ?_
  refine o_iload_n K 1 dX10_nameOf_76 rfl rfl ?_
  refine o_bipush K 103 dX10_nameOf_77 (by decide) ?_
  refine o_icmp_ne K 86 dX10_nameOf_79 (by decide) (fun c7 => ?_) (fun c7 => ?_)
  · have hf := im c7 hf
    refine o_iload_n K 1 dX10_nameOf_86 rfl rfl ?_
    refine o_bipush K 109 dX10_nameOf_87 (by decide) ?_
    refine o_icmp_ne K 96 dX10_nameOf_89 (by decide) (fun c8 => ?_) (fun c8 => ?_)
    · have hf := im c8 hf
      refine o_iconst K (-1) dX10_nameOf_96 (by decide) ?_
      exact r_iret K hf hR dX10_nameOf_97
    · have hf := ip c8 hf
      refine o_iconst K 1 dX10_nameOf_92 (by decide) ?_
      refine o_goto K 97 dX10_nameOf_93 (by decide) ?_
      exact r_iret K hf hR dX10_nameOf_97
  · have hf := ip c7 hf
    refine o_iconst K 0 dX10_nameOf_82 (by decide) ?_
    refine o_goto K 97 dX10_nameOf_83 (by decide) ?_
    exact r_iret K hf hR dX10_nameOf_97
def f_X10_rank (a1 : Int32) : Option Int32 := if a1 = (-1) then (some ((1 : Int32))) else if a1 = (-2) then (some ((2 : Int32))) else if a1 < (-5) then (if a1 < (-7) then (if a1 < (-9) then (some ((6 : Int32))) else some ((5 : Int32))) else some ((4 : Int32))) else some ((3 : Int32))
set_option maxHeartbeats 4000000 in
set_option maxRecDepth 100000 in
theorem k_X10_rank (l : Launch) (E : Amd) (D : va_G) (ca : Nat → ClassId) (h : Nat → Nat) (M : Mem) (a1 : Int32) {r0 : Int32} (hf : f_X10_rank a1 = some r0) : Ct l E D (tysOf ca) h (LaM ca h) yX10_rank cX10_rank 1 (some .int) 0 0 [.int a1] M (some (.int r0)) M := by
  refine Ct.mk [some (.int a1)] (by decide) (Nat.le_of_ble_eq_true rfl) (argsV [.int a1] 0 rfl rfl) ?_
  intro x hx0 K hR
  have K : Kx x E D (tysOf ca) h (LaM ca h) RX10 cX10_rank 1 0 0 := K
  rw [f_X10_rank] at hf
  refine o_iload_n K 0 dX10_rank_0 rfl rfl ?_
  refine o_iconst K (-1) dX10_rank_1 (by decide) ?_
  refine o_icmp_ne K 9 dX10_rank_2 (by decide) (fun c1 => ?_) (fun c1 => ?_)
  · have hf := im c1 hf
    refine o_iload_n K 0 dX10_rank_9 rfl rfl ?_
    refine o_bipush K (-2) dX10_rank_10 (by decide) ?_
    refine o_icmp_ne K 19 dX10_rank_12 (by decide) (fun c2 => ?_) (fun c2 => ?_)
    · have hf := im c2 hf
      refine o_iload_n K 0 dX10_rank_19 rfl rfl ?_
      refine o_bipush K (-5) dX10_rank_20 (by decide) ?_
      refine o_icmp_lt K 29 dX10_rank_22 (by decide) (fun c3 => ?_) (fun c3 => ?_)
      · have hf := ip c3 hf
        refine o_iload_n K 0 dX10_rank_29 rfl rfl ?_
        refine o_bipush K (-7) dX10_rank_30 (by decide) ?_
        refine o_icmp_lt K 39 dX10_rank_32 (by decide) (fun c4 => ?_) (fun c4 => ?_)
        · have hf := ip c4 hf
          refine o_iload_n K 0 dX10_rank_39 rfl rfl ?_
          refine o_bipush K (-9) dX10_rank_40 (by decide) ?_
          refine o_icmp_lt K 49 dX10_rank_42 (by decide) (fun c5 => ?_) (fun c5 => ?_)
          · have hf := ip c5 hf
            refine o_bipush K 6 dX10_rank_49 (by decide) ?_
            exact r_iret K hf hR dX10_rank_51
          · have hf := im c5 hf
            refine o_iconst K 5 dX10_rank_45 (by decide) ?_
            refine o_goto K 51 dX10_rank_46 (by decide) ?_
            exact r_iret K hf hR dX10_rank_51
        · have hf := im c4 hf
          refine o_iconst K 4 dX10_rank_35 (by decide) ?_
          refine o_goto K 51 dX10_rank_36 (by decide) ?_
          exact r_iret K hf hR dX10_rank_51
      · have hf := im c3 hf
        refine o_iconst K 3 dX10_rank_25 (by decide) ?_
        refine o_goto K 51 dX10_rank_26 (by decide) ?_
        exact r_iret K hf hR dX10_rank_51
    · have hf := ip c2 hf
      refine o_iconst K 2 dX10_rank_15 (by decide) ?_
      refine o_goto K 51 dX10_rank_16 (by decide) ?_
      exact r_iret K hf hR dX10_rank_51
  · have hf := ip c1 hf
    refine o_iconst K 1 dX10_rank_5 (by decide) ?_
    refine o_goto K 51 dX10_rank_6 (by decide) ?_
    exact r_iret K hf hR dX10_rank_51
def f_X10_settle_l0 : Nat → Int32 → Mem → Option Mem
  | 0, _, _ => none
  | n + 1, a0, M => if (M 0 23) ≤ 0 then (some M) else rd M 13 96 ((M 0 23) - 1) fun x2 => if x2 = (-11) then (some M) else rd M 13 96 ((M 0 23) - 1) fun x5 => bd (f_X10_rank x5) fun r7 => if r7 < a0 then (some M) else nm (sto M 0 23 ((M 0 23) - 1)) fun M9 => rd M9 13 96 (M9 0 23) fun x10 => wr M9 12 96 (M9 0 20) x10 fun M13 => nm (sto M13 0 20 ((M13 0 20) + 1)) fun M14 => f_X10_settle_l0 n a0 M14
set_option maxHeartbeats 4000000 in
set_option maxRecDepth 100000 in
theorem t_X10_settle_l0 {x : En} {E : Amd} {D : va_G} {ca : Nat → ClassId} {h : Nat → Nat} (K : Kx x E D (tysOf ca) h (LaM ca h) RX10 cX10_settle 2 1 20) {Mo : Mem} (hR : Rt x D h (LaM ca h) none none Mo) : ∀ (n : Nat) (a0 : Int32) (M : Mem), f_X10_settle_l0 n a0 M = some Mo → Go x D (tysOf ca) h (LaM ca h) 2 M 0 [some (.ref (h 0)), some (.int a0)] [] := by
  intro n
  induction n with
  | zero =>
    intro a0 M hf
    cases hf
  | succ n ih =>
    intro a0 M hf
    rw [f_X10_settle_l0] at hf
    refine o_aload_n K 0 dX10_settle_0 rfl rfl ?_
    refine gM_236 K dX10_settle_1 ?_
    refine o_if_le K 82 dX10_settle_4 (by decide) (fun c1 => ?_) (fun c1 => ?_)
    · have hf := ip c1 hf
      exact e_vret K hf hR dX10_settle_82
    · have hf := im c1 hf
      refine o_aload_n K 0 dX10_settle_7 rfl rfl ?_
      refine gM_47 K dX10_settle_8 ?_
      refine o_aload_n K 0 dX10_settle_11 rfl rfl ?_
      refine gM_236 K dX10_settle_12 ?_
      refine o_iconst K 1 dX10_settle_15 (by decide) ?_
      refine o_isub K dX10_settle_16 ?_
      obtain ⟨g3, x2, ex2, hf⟩ := rd_e hf
      refine lM_13 K g3 dX10_settle_17 ?_
      refine o_nmi ex2 ?_
      refine o_bipush K (-11) dX10_settle_18 (by decide) ?_
      refine o_icmp_eq K 82 dX10_settle_20 (by decide) (fun c4 => ?_) (fun c4 => ?_)
      · have hf := ip c4 hf
        exact e_vret K hf hR dX10_settle_82
      · have hf := im c4 hf
        refine o_aload_n K 0 dX10_settle_23 rfl rfl ?_
        refine gM_47 K dX10_settle_24 ?_
        refine o_aload_n K 0 dX10_settle_27 rfl rfl ?_
        refine gM_236 K dX10_settle_28 ?_
        refine o_iconst K 1 dX10_settle_31 (by decide) ?_
        refine o_isub K dX10_settle_32 ?_
        obtain ⟨g6, x5, ex5, hf⟩ := rd_e hf
        refine lM_13 K g6 dX10_settle_33 ?_
        refine o_nmi ex5 ?_
        obtain ⟨r7, er7, hf⟩ := bd_e hf
        refine o_callS K [.int x5] (k_X10_rank x.2.1 E D ca h M x5 er7) s_X10_239 rfl ⟨by decide, by decide⟩ (Nat.le_of_ble_eq_true rfl) _ rfl dX10_settle_34 ?_
        show Go x D (tysOf ca) h (LaM ca h) 2 M 37 [some (.ref (h 0)), some (.int a0)] [.int r7]
        refine o_iload_n K 1 dX10_settle_37 rfl rfl ?_
        refine o_icmp_lt K 82 dX10_settle_38 (by decide) (fun c8 => ?_) (fun c8 => ?_)
        · have hf := ip c8 hf
          exact e_vret K hf hR dX10_settle_82
        · have hf := im c8 hf
          refine o_aload_n K 0 dX10_settle_41 rfl rfl ?_
          refine o_dup K dX10_settle_42 rfl ?_
          refine gM_236 K dX10_settle_43 ?_
          refine o_iconst K 1 dX10_settle_46 (by decide) ?_
          refine o_isub K dX10_settle_47 ?_
          obtain ⟨M9, eM9, hf⟩ := nm_o hf
          refine pM_236 K dX10_settle_48 ?_
          refine o_nmM eM9 ?_
          refine o_aload_n K 0 dX10_settle_51 rfl rfl ?_
          refine gM_44 K dX10_settle_52 ?_
          refine o_aload_n K 0 dX10_settle_55 rfl rfl ?_
          refine gM_242 K dX10_settle_56 ?_
          refine o_aload_n K 0 dX10_settle_59 rfl rfl ?_
          refine gM_47 K dX10_settle_60 ?_
          refine o_aload_n K 0 dX10_settle_63 rfl rfl ?_
          refine gM_236 K dX10_settle_64 ?_
          obtain ⟨g11, x10, ex10, hf⟩ := rd_e hf
          refine lM_13 K g11 dX10_settle_67 ?_
          refine o_nmi ex10 ?_
          obtain ⟨g12, M13, eM13, hf⟩ := wr_e hf
          refine sM_12 K g12 dX10_settle_68 ?_
          refine o_nmM eM13 ?_
          refine o_aload_n K 0 dX10_settle_69 rfl rfl ?_
          refine o_dup K dX10_settle_70 rfl ?_
          refine gM_242 K dX10_settle_71 ?_
          refine o_iconst K 1 dX10_settle_74 (by decide) ?_
          refine o_iadd K dX10_settle_75 ?_
          obtain ⟨M14, eM14, hf⟩ := nm_o hf
          refine pM_242 K dX10_settle_76 ?_
          refine o_nmM eM14 ?_
          refine o_goto K 0 dX10_settle_79 (by decide) ?_
          exact ih a0 M14 hf
def f_X10_settle (M : Mem) (a1 : Int32) : Option Mem := f_X10_settle_l0 FU a1 M
set_option maxHeartbeats 4000000 in
set_option maxRecDepth 100000 in
theorem k_X10_settle (l : Launch) (E : Amd) (D : va_G) (ca : Nat → ClassId) (h : Nat → Nat) (M : Mem) (a1 : Int32) {Mo : Mem} (hf : f_X10_settle M a1 = some Mo) : Ct l E D (tysOf ca) h (LaM ca h) yX10_settle cX10_settle 2 none 1 20 [.ref (h 0), .int a1] M none Mo := by
  refine Ct.mk [some (.ref (h 0)), some (.int a1)] (by decide) (Nat.le_of_ble_eq_true rfl) (argsV [.ref (h 0), .int a1] 0 rfl rfl) ?_
  intro x hx0 K hR
  have K : Kx x E D (tysOf ca) h (LaM ca h) RX10 cX10_settle 2 1 20 := K
  rw [f_X10_settle] at hf
  exact t_X10_settle_l0 K hR FU a1 M hf
def f_X10_signHere (M : Mem) : Option Int32 := if (M 0 13) = 3 then (if (M 0 14) = 38 then (some (((-2) : Int32))) else if (M 0 14) = 42 then (some (((-8) : Int32))) else if (M 0 14) = 43 then (some (((-6) : Int32))) else if (M 0 14) = 45 then (some (((-7) : Int32))) else if (M 0 14) = 47 then (some (((-9) : Int32))) else if (M 0 14) = 60 then (some (((-3) : Int32))) else if (M 0 14) = 61 then (some (((-4) : Int32))) else if (M 0 14) = 62 then (some (((-5) : Int32))) else if (M 0 14) = 124 then (some (((-1) : Int32))) else some ((0 : Int32))) else some ((0 : Int32))
set_option maxHeartbeats 4000000 in
set_option maxRecDepth 100000 in
theorem k_X10_signHere (l : Launch) (E : Amd) (D : va_G) (ca : Nat → ClassId) (h : Nat → Nat) (M : Mem) {r0 : Int32} (hf : f_X10_signHere M = some r0) : Ct l E D (tysOf ca) h (LaM ca h) yX10_signHere cX10_signHere 1 (some .int) 0 0 [.ref (h 0)] M (some (.int r0)) M := by
  refine Ct.mk [some (.ref (h 0))] (by decide) (Nat.le_of_ble_eq_true rfl) (argsV [.ref (h 0)] 0 rfl rfl) ?_
  intro x hx0 K hR
  have K : Kx x E D (tysOf ca) h (LaM ca h) RX10 cX10_signHere 1 0 0 := K
  rw [f_X10_signHere] at hf
  refine o_aload_n K 0 dX10_signHere_0 rfl rfl ?_
  refine gM_218 K dX10_signHere_1 ?_
  refine o_iconst K 3 dX10_signHere_4 (by decide) ?_
  refine o_icmp_eq K 10 dX10_signHere_5 (by decide) (fun c1 => ?_) (fun c1 => ?_)
  · have hf := ip c1 hf
    refine o_aload_n K 0 dX10_signHere_10 rfl rfl ?_
    refine gM_224 K dX10_signHere_11 ?_
    by_cases c2 : (M 0 14) = 38
    · have hf := ip c2 hf
      refine o_lookup K 98 dX10_signHere_14 (by decide) (by rw [c2]; try decide) (by decide) ?_
      refine o_bipush K (-2) dX10_signHere_98 (by decide) ?_
      exact r_iret K hf hR dX10_signHere_100
    have hf := im c2 hf
    by_cases c3 : (M 0 14) = 42
    · have hf := ip c3 hf
      refine o_lookup K 116 dX10_signHere_14 (by decide) (by rw [c3]; try decide) (by decide) ?_
      refine o_bipush K (-8) dX10_signHere_116 (by decide) ?_
      exact r_iret K hf hR dX10_signHere_118
    have hf := im c3 hf
    by_cases c4 : (M 0 14) = 43
    · have hf := ip c4 hf
      refine o_lookup K 110 dX10_signHere_14 (by decide) (by rw [c4]; try decide) (by decide) ?_
      refine o_bipush K (-6) dX10_signHere_110 (by decide) ?_
      exact r_iret K hf hR dX10_signHere_112
    have hf := im c4 hf
    by_cases c5 : (M 0 14) = 45
    · have hf := ip c5 hf
      refine o_lookup K 113 dX10_signHere_14 (by decide) (by rw [c5]; try decide) (by decide) ?_
      refine o_bipush K (-7) dX10_signHere_113 (by decide) ?_
      exact r_iret K hf hR dX10_signHere_115
    have hf := im c5 hf
    by_cases c6 : (M 0 14) = 47
    · have hf := ip c6 hf
      refine o_lookup K 119 dX10_signHere_14 (by decide) (by rw [c6]; try decide) (by decide) ?_
      refine o_bipush K (-9) dX10_signHere_119 (by decide) ?_
      exact r_iret K hf hR dX10_signHere_121
    have hf := im c6 hf
    by_cases c7 : (M 0 14) = 60
    · have hf := ip c7 hf
      refine o_lookup K 101 dX10_signHere_14 (by decide) (by rw [c7]; try decide) (by decide) ?_
      refine o_bipush K (-3) dX10_signHere_101 (by decide) ?_
      exact r_iret K hf hR dX10_signHere_103
    have hf := im c7 hf
    by_cases c8 : (M 0 14) = 61
    · have hf := ip c8 hf
      refine o_lookup K 104 dX10_signHere_14 (by decide) (by rw [c8]; try decide) (by decide) ?_
      refine o_bipush K (-4) dX10_signHere_104 (by decide) ?_
      exact r_iret K hf hR dX10_signHere_106
    have hf := im c8 hf
    by_cases c9 : (M 0 14) = 62
    · have hf := ip c9 hf
      refine o_lookup K 107 dX10_signHere_14 (by decide) (by rw [c9]; try decide) (by decide) ?_
      refine o_bipush K (-5) dX10_signHere_107 (by decide) ?_
      exact r_iret K hf hR dX10_signHere_109
    have hf := im c9 hf
    by_cases c10 : (M 0 14) = 124
    · have hf := ip c10 hf
      refine o_lookup K 96 dX10_signHere_14 (by decide) (by rw [c10]; try decide) (by decide) ?_
      refine o_iconst K (-1) dX10_signHere_96 (by decide) ?_
      exact r_iret K hf hR dX10_signHere_97
    have hf := im c10 hf
    refine o_lookup K (off := 108) 122 dX10_signHere_14 (by decide) ((lv_osw c2 rfl).trans ((lv_osw c3 rfl).trans ((lv_osw c4 rfl).trans ((lv_osw c5 rfl).trans ((lv_osw c6 rfl).trans ((lv_osw c7 rfl).trans ((lv_osw c8 rfl).trans ((lv_osw c9 rfl).trans ((lv_osw c10 rfl).trans rfl))))))))) (by decide) ?_
    refine o_iconst K 0 dX10_signHere_122 (by decide) ?_
    exact r_iret K hf hR dX10_signHere_123
  · have hf := im c1 hf
    refine o_iconst K 0 dX10_signHere_8 (by decide) ?_
    exact r_iret K hf hR dX10_signHere_9
def f_X10_takesPart_j87 (a0 : Int32) (a1 : Int32) (M : Mem) : Option (Int32 × Mem) := wr M 12 96 a1 a0 fun M10 => nm (sto M10 0 20 ((M10 0 20) + 1)) fun M11 => nm (sto M11 0 21 ((M11 0 21) + 1)) fun M12 => bd (f_X10_settle M12 (6 : Int32)) fun M14 => bd (f_X10_go M14) fun M16 => some ((1 : Int32), M16)
set_option maxHeartbeats 4000000 in
set_option maxRecDepth 100000 in
theorem t_X10_takesPart_j87 {x : En} {E : Amd} {D : va_G} {ca : Nat → ClassId} {h : Nat → Nat} (K : Kx x E D (tysOf ca) h (LaM ca h) RX10 cX10_takesPart 2 2 42) {r0 : Int32} {Mo : Mem} (hR : Rt x D h (LaM ca h) (some .boolean) (some (.int r0)) Mo) (a0 : Int32) (a1 : Int32) (M : Mem) (hf : f_X10_takesPart_j87 a0 a1 M = some (r0, Mo)) : Go x D (tysOf ca) h (LaM ca h) 2 M 87 [some (.ref (h 0)), none] [.int a0, .int a1, .ref (h 12)] := by
  rw [f_X10_takesPart_j87] at hf
  obtain ⟨g9, M10, eM10, hf⟩ := wr_e hf
  refine sM_12 K g9 dX10_takesPart_87 ?_
  refine o_nmM eM10 ?_
  refine o_aload_n K 0 dX10_takesPart_88 rfl rfl ?_
  refine o_dup K dX10_takesPart_89 rfl ?_
  refine gM_242 K dX10_takesPart_90 ?_
  refine o_iconst K 1 dX10_takesPart_93 (by decide) ?_
  refine o_iadd K dX10_takesPart_94 ?_
  obtain ⟨M11, eM11, hf⟩ := nm_o hf
  refine pM_242 K dX10_takesPart_95 ?_
  refine o_nmM eM11 ?_
  refine o_aload_n K 0 dX10_takesPart_98 rfl rfl ?_
  refine o_dup K dX10_takesPart_99 rfl ?_
  refine gM_248 K dX10_takesPart_100 ?_
  refine o_iconst K 1 dX10_takesPart_103 (by decide) ?_
  refine o_iadd K dX10_takesPart_104 ?_
  obtain ⟨M12, eM12, hf⟩ := nm_o hf
  refine pM_248 K dX10_takesPart_105 ?_
  refine o_nmM eM12 ?_
  refine o_aload_n K 0 dX10_takesPart_108 rfl rfl ?_
  refine o_bipush K 6 dX10_takesPart_109 (by decide) ?_
  obtain ⟨M14, er13, hf⟩ := bd_e hf
  refine o_callV K [.int 6] (k_X10_settle x.2.1 E D ca h M12 (6 : Int32) er13) s_X10_251 (ltM (by decide)) rfl rfl rfl rfl ⟨by decide, by decide⟩ (Nat.le_of_ble_eq_true rfl) _ rfl dX10_takesPart_111 ?_
  show Go x D (tysOf ca) h (LaM ca h) 2 M14 114 [some (.ref (h 0)), none] []
  refine o_aload_n K 0 dX10_takesPart_114 rfl rfl ?_
  obtain ⟨M16, er15, hf⟩ := bd_e hf
  refine o_callV K [] (k_X10_go x.2.1 E D ca h M14 er15) s_X10_233 (ltM (by decide)) rfl rfl rfl rfl ⟨by decide, by decide⟩ (Nat.le_of_ble_eq_true rfl) _ rfl dX10_takesPart_115 ?_
  show Go x D (tysOf ca) h (LaM ca h) 2 M16 118 [some (.ref (h 0)), none] []
  refine o_iconst K 1 dX10_takesPart_118 (by decide) ?_
  exact e_zret K hf hR (by decide) dX10_takesPart_119
def f_X10_takesPart_j52 (M : Mem) : Option (Int32 × Mem) := if (M 0 13) = 2 then (f_X10_takesPart_j87 (M 0 14) (M 0 20) M) else bd (f_X10_nameOf M (M 0 14)) fun r8 => f_X10_takesPart_j87 ((10000 : Int32) + r8) (M 0 20) M
set_option maxHeartbeats 4000000 in
set_option maxRecDepth 100000 in
theorem t_X10_takesPart_j52 {x : En} {E : Amd} {D : va_G} {ca : Nat → ClassId} {h : Nat → Nat} (K : Kx x E D (tysOf ca) h (LaM ca h) RX10 cX10_takesPart 2 2 42) {r0 : Int32} {Mo : Mem} (hR : Rt x D h (LaM ca h) (some .boolean) (some (.int r0)) Mo) (M : Mem) (hf : f_X10_takesPart_j52 M = some (r0, Mo)) : Go x D (tysOf ca) h (LaM ca h) 2 M 52 [some (.ref (h 0)), none] [] := by
  rw [f_X10_takesPart_j52] at hf
  refine o_aload_n K 0 dX10_takesPart_52 rfl rfl ?_
  refine gM_44 K dX10_takesPart_53 ?_
  refine o_aload_n K 0 dX10_takesPart_56 rfl rfl ?_
  refine gM_242 K dX10_takesPart_57 ?_
  refine o_aload_n K 0 dX10_takesPart_60 rfl rfl ?_
  refine gM_218 K dX10_takesPart_61 ?_
  refine o_iconst K 2 dX10_takesPart_64 (by decide) ?_
  refine o_icmp_ne K 75 dX10_takesPart_65 (by decide) (fun c7 => ?_) (fun c7 => ?_)
  · have hf := im c7 hf
    refine o_sipush K 10000 dX10_takesPart_75 (by decide) ?_
    refine o_aload_n K 0 dX10_takesPart_78 rfl rfl ?_
    refine o_aload_n K 0 dX10_takesPart_79 rfl rfl ?_
    refine gM_224 K dX10_takesPart_80 ?_
    obtain ⟨r8, er8, hf⟩ := bd_e hf
    refine o_callV K [.int (M 0 14)] (k_X10_nameOf x.2.1 E D ca h M (M 0 14) er8) s_X10_245 (ltM (by decide)) rfl rfl rfl rfl ⟨by decide, by decide⟩ (Nat.le_of_ble_eq_true rfl) _ rfl dX10_takesPart_83 ?_
    show Go x D (tysOf ca) h (LaM ca h) 2 M 86 [some (.ref (h 0)), none] [.int r8, .int 10000, .int (M 0 20), .ref (h 12)]
    refine o_iadd K dX10_takesPart_86 ?_
    exact t_X10_takesPart_j87 K hR ((10000 : Int32) + r8) (M 0 20) M hf
  · have hf := ip c7 hf
    refine o_aload_n K 0 dX10_takesPart_68 rfl rfl ?_
    refine gM_224 K dX10_takesPart_69 ?_
    refine o_goto K 87 dX10_takesPart_72 (by decide) ?_
    exact t_X10_takesPart_j87 K hR (M 0 14) (M 0 20) M hf
def f_X10_takesPart_j37 (a0 : Int32) (M : Mem) : Option (Int32 × Mem) := if (M 0 13) = 2 then (f_X10_takesPart_j52 M) else if a0 = 0 then (some ((0 : Int32), M)) else f_X10_takesPart_j52 M
set_option maxHeartbeats 4000000 in
set_option maxRecDepth 100000 in
theorem t_X10_takesPart_j37 {x : En} {E : Amd} {D : va_G} {ca : Nat → ClassId} {h : Nat → Nat} (K : Kx x E D (tysOf ca) h (LaM ca h) RX10 cX10_takesPart 2 2 42) {r0 : Int32} {Mo : Mem} (hR : Rt x D h (LaM ca h) (some .boolean) (some (.int r0)) Mo) (a0 : Int32) (M : Mem) (hf : f_X10_takesPart_j37 a0 M = some (r0, Mo)) : Go x D (tysOf ca) h (LaM ca h) 2 M 37 [some (.ref (h 0)), none] [.int a0] := by
  rw [f_X10_takesPart_j37] at hf
  refine o_istore_n K 1 [some (.ref (h 0)), some (.int a0)] dX10_takesPart_37 rfl (by decide) rfl rfl ?_
  refine o_aload_n K 0 dX10_takesPart_38 rfl rfl ?_
  refine gM_218 K dX10_takesPart_39 ?_
  refine o_iconst K 2 dX10_takesPart_42 (by decide) ?_
  refine o_icmp_eq K 52 dX10_takesPart_43 (by decide) (fun c5 => ?_) (fun c5 => ?_)
  · have hf := ip c5 hf
    refine o_drop [true, false] (V2 := [some (.ref (h 0)), none]) rfl ?_
    exact t_X10_takesPart_j52 K hR M hf
  · have hf := im c5 hf
    refine o_iload_n K 1 dX10_takesPart_46 rfl rfl ?_
    refine o_if_ne K 52 dX10_takesPart_47 (by decide) (fun c6 => ?_) (fun c6 => ?_)
    · have hf := im c6 hf
      refine o_drop [true, false] (V2 := [some (.ref (h 0)), none]) rfl ?_
      exact t_X10_takesPart_j52 K hR M hf
    · have hf := ip c6 hf
      refine o_iconst K 0 dX10_takesPart_50 (by decide) ?_
      exact e_zret K hf hR (by decide) dX10_takesPart_51
def f_X10_takesPart_j36 (M : Mem) : Option (Int32 × Mem) := f_X10_takesPart_j37 (0 : Int32) M
set_option maxHeartbeats 4000000 in
set_option maxRecDepth 100000 in
theorem t_X10_takesPart_j36 {x : En} {E : Amd} {D : va_G} {ca : Nat → ClassId} {h : Nat → Nat} (K : Kx x E D (tysOf ca) h (LaM ca h) RX10 cX10_takesPart 2 2 42) {r0 : Int32} {Mo : Mem} (hR : Rt x D h (LaM ca h) (some .boolean) (some (.int r0)) Mo) (M : Mem) (hf : f_X10_takesPart_j36 M = some (r0, Mo)) : Go x D (tysOf ca) h (LaM ca h) 2 M 36 [some (.ref (h 0)), none] [] := by
  rw [f_X10_takesPart_j36] at hf
  refine o_iconst K 0 dX10_takesPart_36 (by decide) ?_
  exact t_X10_takesPart_j37 K hR (0 : Int32) M hf
def f_X10_takesPart (M : Mem) : Option (Int32 × Mem) := if (M 0 13) = 1 then (if ((M 0 11) - (M 0 12)) = 1 then (bd (f_X10_nameOf M (M 0 14)) fun r3 => if r3 < 0 then (f_X10_takesPart_j36 M) else f_X10_takesPart_j37 (1 : Int32) M) else f_X10_takesPart_j36 M) else f_X10_takesPart_j36 M
set_option maxHeartbeats 4000000 in
set_option maxRecDepth 100000 in
theorem k_X10_takesPart (l : Launch) (E : Amd) (D : va_G) (ca : Nat → ClassId) (h : Nat → Nat) (M : Mem) {r0 : Int32} {Mo : Mem} (hf : f_X10_takesPart M = some (r0, Mo)) : Ct l E D (tysOf ca) h (LaM ca h) yX10_takesPart cX10_takesPart 2 (some .boolean) 2 42 [.ref (h 0)] M (some (.int r0)) Mo := by
  refine Ct.mk [some (.ref (h 0)), none] (by decide) (Nat.le_of_ble_eq_true rfl) (argsV [.ref (h 0)] 1 rfl rfl) ?_
  intro x hx0 K hR
  have K : Kx x E D (tysOf ca) h (LaM ca h) RX10 cX10_takesPart 2 2 42 := K
  rw [f_X10_takesPart] at hf
  refine o_aload_n K 0 dX10_takesPart_0 rfl rfl ?_
  refine gM_218 K dX10_takesPart_1 ?_
  refine o_iconst K 1 dX10_takesPart_4 (by decide) ?_
  refine o_icmp_ne K 36 dX10_takesPart_5 (by decide) (fun c1 => ?_) (fun c1 => ?_)
  · have hf := im c1 hf
    exact t_X10_takesPart_j36 K hR M hf
  · have hf := ip c1 hf
    refine o_aload_n K 0 dX10_takesPart_8 rfl rfl ?_
    refine gM_209 K dX10_takesPart_9 ?_
    refine o_aload_n K 0 dX10_takesPart_12 rfl rfl ?_
    refine gM_212 K dX10_takesPart_13 ?_
    refine o_isub K dX10_takesPart_16 ?_
    refine o_iconst K 1 dX10_takesPart_17 (by decide) ?_
    refine o_icmp_ne K 36 dX10_takesPart_18 (by decide) (fun c2 => ?_) (fun c2 => ?_)
    · have hf := im c2 hf
      exact t_X10_takesPart_j36 K hR M hf
    · have hf := ip c2 hf
      refine o_aload_n K 0 dX10_takesPart_21 rfl rfl ?_
      refine o_aload_n K 0 dX10_takesPart_22 rfl rfl ?_
      refine gM_224 K dX10_takesPart_23 ?_
      obtain ⟨r3, er3, hf⟩ := bd_e hf
      refine o_callV K [.int (M 0 14)] (k_X10_nameOf x.2.1 E D ca h M (M 0 14) er3) s_X10_245 (ltM (by decide)) rfl rfl rfl rfl ⟨by decide, by decide⟩ (Nat.le_of_ble_eq_true rfl) _ rfl dX10_takesPart_26 ?_
      show Go x D (tysOf ca) h (LaM ca h) 2 M 29 [some (.ref (h 0)), none] [.int r3]
      refine o_if_lt K 36 dX10_takesPart_29 (by decide) (fun c4 => ?_) (fun c4 => ?_)
      · have hf := ip c4 hf
        exact t_X10_takesPart_j36 K hR M hf
      · have hf := im c4 hf
        refine o_iconst K 1 dX10_takesPart_32 (by decide) ?_
        refine o_goto K 37 dX10_takesPart_33 (by decide) ?_
        exact t_X10_takesPart_j37 K hR (1 : Int32) M hf
def f_X10_notsOpen_j29 (rec4 : Int32 → Int32 → Mem → Option Int32) (a0 : Int32) (a1 : Int32) (a2 : Int32) (M : Mem) : Option Int32 := nm (a2 + a1 : Int32) fun x5 => nm (a0 + 1 : Int32) fun x6 => rec4 x5 x6 M
set_option maxHeartbeats 4000000 in
set_option maxRecDepth 100000 in
theorem t_X10_notsOpen_j29 {x : En} {E : Amd} {D : va_G} {ca : Nat → ClassId} {h : Nat → Nat} {M : Mem} (K : Kx x E D (tysOf ca) h (LaM ca h) RX10 cX10_notsOpen 3 0 0) {r0 : Int32} (hR : Rt x D h (LaM ca h) (some .int) (some (.int r0)) M) {rec4 : Int32 → Int32 → Mem → Option Int32} (ih4 : ∀ (w0 : Int32) (w1 : Int32), rec4 w0 w1 M = some r0 → Go x D (tysOf ca) h (LaM ca h) 3 M 4 [some (.ref (h 0)), some (.int w0), some (.int w1)] []) (a0 : Int32) (a1 : Int32) (a2 : Int32) (hf : f_X10_notsOpen_j29 rec4 a0 a1 a2 M = some r0) : Go x D (tysOf ca) h (LaM ca h) 3 M 29 [some (.ref (h 0)), none, some (.int a0)] [.int a1, .int a2] := by
  rw [f_X10_notsOpen_j29] at hf
  refine o_iadd K dX10_notsOpen_29 ?_
  obtain ⟨x5, ex5, hf⟩ := nm_o hf
  refine o_nmi ex5 ?_
  refine o_istore_n K 1 [some (.ref (h 0)), some (.int x5), some (.int a0)] dX10_notsOpen_30 rfl (by decide) rfl rfl ?_
  obtain ⟨x6, ex6, hf⟩ := nm_o hf
  refine o_iinc K 2 x6 [some (.ref (h 0)), some (.int x5), some (.int x6)] dX10_notsOpen_31 rfl (inc_e (by decide) ex6) (by decide) rfl rfl ?_
  refine o_goto K 4 dX10_notsOpen_34 (by decide) ?_
  exact ih4 x5 x6 hf
def f_X10_notsOpen_l4 : Nat → Int32 → Int32 → Mem → Option Int32
  | 0, _, _, _ => none
  | n + 1, a0, a1, M => if (M 0 23) ≤ a1 then (some (a0)) else rd M 13 96 a1 fun x2 => if x2 = (-10) then (f_X10_notsOpen_j29 (f_X10_notsOpen_l4 n) a1 (1 : Int32) a0 M) else f_X10_notsOpen_j29 (f_X10_notsOpen_l4 n) a1 (0 : Int32) a0 M
set_option maxHeartbeats 4000000 in
set_option maxRecDepth 100000 in
theorem t_X10_notsOpen_l4 {x : En} {E : Amd} {D : va_G} {ca : Nat → ClassId} {h : Nat → Nat} {M : Mem} (K : Kx x E D (tysOf ca) h (LaM ca h) RX10 cX10_notsOpen 3 0 0) {r0 : Int32} (hR : Rt x D h (LaM ca h) (some .int) (some (.int r0)) M) : ∀ (n : Nat) (a0 : Int32) (a1 : Int32), f_X10_notsOpen_l4 n a0 a1 M = some r0 → Go x D (tysOf ca) h (LaM ca h) 3 M 4 [some (.ref (h 0)), some (.int a0), some (.int a1)] [] := by
  intro n
  induction n with
  | zero =>
    intro a0 a1 hf
    cases hf
  | succ n ih =>
    intro a0 a1 hf
    rw [f_X10_notsOpen_l4] at hf
    refine o_iload_n K 2 dX10_notsOpen_4 rfl rfl ?_
    refine o_aload_n K 0 dX10_notsOpen_5 rfl rfl ?_
    refine gM_236 K dX10_notsOpen_6 ?_
    refine o_icmp_ge K 37 dX10_notsOpen_9 (by decide) (fun c1 => ?_) (fun c1 => ?_)
    · have hf := ip c1 hf
      refine o_iload_n K 1 dX10_notsOpen_37 rfl rfl ?_
      exact r_iret K hf hR dX10_notsOpen_38
    · have hf := im c1 hf
      refine o_iload_n K 1 dX10_notsOpen_12 rfl rfl ?_
      refine o_aload_n K 0 dX10_notsOpen_13 rfl rfl ?_
      refine gM_47 K dX10_notsOpen_14 ?_
      refine o_iload_n K 2 dX10_notsOpen_17 rfl rfl ?_
      obtain ⟨g3, x2, ex2, hf⟩ := rd_e hf
      refine lM_13 K g3 dX10_notsOpen_18 ?_
      refine o_nmi ex2 ?_
      refine o_bipush K (-10) dX10_notsOpen_19 (by decide) ?_
      refine o_icmp_ne K 28 dX10_notsOpen_21 (by decide) (fun c4 => ?_) (fun c4 => ?_)
      · have hf := im c4 hf
        refine o_iconst K 0 dX10_notsOpen_28 (by decide) ?_
        refine o_drop [true, false, true] (V2 := [some (.ref (h 0)), none, some (.int a1)]) rfl ?_
        exact t_X10_notsOpen_j29 K hR ih a1 (0 : Int32) a0 hf
      · have hf := ip c4 hf
        refine o_iconst K 1 dX10_notsOpen_24 (by decide) ?_
        refine o_goto K 29 dX10_notsOpen_25 (by decide) ?_
        refine o_drop [true, false, true] (V2 := [some (.ref (h 0)), none, some (.int a1)]) rfl ?_
        exact t_X10_notsOpen_j29 K hR ih a1 (1 : Int32) a0 hf
def f_X10_notsOpen (M : Mem) : Option Int32 := f_X10_notsOpen_l4 FU (0 : Int32) (0 : Int32) M
set_option maxHeartbeats 4000000 in
set_option maxRecDepth 100000 in
theorem k_X10_notsOpen (l : Launch) (E : Amd) (D : va_G) (ca : Nat → ClassId) (h : Nat → Nat) (M : Mem) {r0 : Int32} (hf : f_X10_notsOpen M = some r0) : Ct l E D (tysOf ca) h (LaM ca h) yX10_notsOpen cX10_notsOpen 3 (some .int) 0 0 [.ref (h 0)] M (some (.int r0)) M := by
  refine Ct.mk [some (.ref (h 0)), none, none] (by decide) (Nat.le_of_ble_eq_true rfl) (argsV [.ref (h 0)] 2 rfl rfl) ?_
  intro x hx0 K hR
  have K : Kx x E D (tysOf ca) h (LaM ca h) RX10 cX10_notsOpen 3 0 0 := K
  rw [f_X10_notsOpen] at hf
  refine o_iconst K 0 dX10_notsOpen_0 (by decide) ?_
  refine o_istore_n K 1 [some (.ref (h 0)), some (.int 0), none] dX10_notsOpen_1 rfl (by decide) rfl rfl ?_
  refine o_iconst K 0 dX10_notsOpen_2 (by decide) ?_
  refine o_istore_n K 2 [some (.ref (h 0)), some (.int 0), some (.int 0)] dX10_notsOpen_3 rfl (by decide) rfl rfl ?_
  exact t_X10_notsOpen_l4 K hR FU (0 : Int32) (0 : Int32) hf
def f_X10_takesE_j172 (rec28 : Int32 → Int32 → Int32 → Mem → Option (Int32 × Mem)) (a0 : Int32) (a1 : Int32) (M : Mem) : Option (Int32 × Mem) := bd (f_X10_notsOpen M) fun r51 => rec28 a0 r51 a1 M
set_option maxHeartbeats 4000000 in
set_option maxRecDepth 100000 in
theorem t_X10_takesE_j172 {x : En} {E : Amd} {D : va_G} {ca : Nat → ClassId} {h : Nat → Nat} (K : Kx x E D (tysOf ca) h (LaM ca h) RX10 cX10_takesE 5 3 63) {r0 : Int32} {Mo : Mem} (hR : Rt x D h (LaM ca h) (some .boolean) (some (.int r0)) Mo) {rec28 : Int32 → Int32 → Int32 → Mem → Option (Int32 × Mem)} (ih28 : ∀ (w0 : Int32) (w1 : Int32) (w2 : Int32) (M : Mem), rec28 w0 w1 w2 M = some (r0, Mo) → Go x D (tysOf ca) h (LaM ca h) 5 M 28 [some (.ref (h 0)), some (.int w0), some (.int w1), some (.int w2), none] []) (a0 : Int32) (a1 : Int32) (M : Mem) (hf : f_X10_takesE_j172 rec28 a0 a1 M = some (r0, Mo)) : Go x D (tysOf ca) h (LaM ca h) 5 M 172 [some (.ref (h 0)), some (.int a0), none, some (.int a1), none] [] := by
  rw [f_X10_takesE_j172] at hf
  refine o_aload_n K 0 dX10_takesE_172 rfl rfl ?_
  obtain ⟨r51, er51, hf⟩ := bd_e hf
  refine o_callV K [] (k_X10_notsOpen x.2.1 E D ca h M er51) s_X10_258 (ltM (by decide)) rfl rfl rfl rfl ⟨by decide, by decide⟩ (Nat.le_of_ble_eq_true rfl) _ rfl dX10_takesE_173 ?_
  show Go x D (tysOf ca) h (LaM ca h) 5 M 176 [some (.ref (h 0)), some (.int a0), none, some (.int a1), none] [.int r51]
  refine o_istore_n K 2 [some (.ref (h 0)), some (.int a0), some (.int r51), some (.int a1), none] dX10_takesE_176 rfl (by decide) rfl rfl ?_
  refine o_goto K 28 dX10_takesE_177 (by decide) ?_
  exact ih28 a0 r51 a1 M hf
def f_X10_takesE_j158 (rec28 : Int32 → Int32 → Int32 → Mem → Option (Int32 × Mem)) (a0 : Int32) (M : Mem) : Option (Int32 × Mem) := bd2 (f_X10_takesPart M) fun r59 M60 => if r59 = 0 then (some ((0 : Int32), M60)) else f_X10_takesE_j172 rec28 a0 (0 : Int32) M60
set_option maxHeartbeats 4000000 in
set_option maxRecDepth 100000 in
theorem t_X10_takesE_j158 {x : En} {E : Amd} {D : va_G} {ca : Nat → ClassId} {h : Nat → Nat} (K : Kx x E D (tysOf ca) h (LaM ca h) RX10 cX10_takesE 5 3 63) {r0 : Int32} {Mo : Mem} (hR : Rt x D h (LaM ca h) (some .boolean) (some (.int r0)) Mo) {rec28 : Int32 → Int32 → Int32 → Mem → Option (Int32 × Mem)} (ih28 : ∀ (w0 : Int32) (w1 : Int32) (w2 : Int32) (M : Mem), rec28 w0 w1 w2 M = some (r0, Mo) → Go x D (tysOf ca) h (LaM ca h) 5 M 28 [some (.ref (h 0)), some (.int w0), some (.int w1), some (.int w2), none] []) (a0 : Int32) (M : Mem) (hf : f_X10_takesE_j158 rec28 a0 M = some (r0, Mo)) : Go x D (tysOf ca) h (LaM ca h) 5 M 158 [some (.ref (h 0)), some (.int a0), none, none, none] [] := by
  rw [f_X10_takesE_j158] at hf
  refine o_aload_n K 0 dX10_takesE_158 rfl rfl ?_
  obtain ⟨r59, M60, er59, hf⟩ := bd2_e hf
  refine o_callV K [] (k_X10_takesPart x.2.1 E D ca h M er59) s_X10_255 (ltM (by decide)) rfl rfl rfl rfl ⟨by decide, by decide⟩ (Nat.le_of_ble_eq_true rfl) _ rfl dX10_takesE_159 ?_
  show Go x D (tysOf ca) h (LaM ca h) 5 M60 162 [some (.ref (h 0)), some (.int a0), none, none, none] [.int r59]
  refine o_if_eq K 170 dX10_takesE_162 (by decide) (fun c61 => ?_) (fun c61 => ?_)
  · have hf := ip c61 hf
    refine o_iconst K 0 dX10_takesE_170 (by decide) ?_
    exact e_zret K hf hR (by decide) dX10_takesE_171
  · have hf := im c61 hf
    refine o_iconst K 0 dX10_takesE_165 (by decide) ?_
    refine o_istore_n K 3 [some (.ref (h 0)), some (.int a0), none, some (.int 0), none] dX10_takesE_166 rfl (by decide) rfl rfl ?_
    refine o_goto K 172 dX10_takesE_167 (by decide) ?_
    exact t_X10_takesE_j172 K hR ih28 a0 (0 : Int32) M60 hf
def f_X10_takesE_j97 (rec28 : Int32 → Int32 → Int32 → Mem → Option (Int32 × Mem)) (a0 : Int32) (a1 : Int32) (M : Mem) : Option (Int32 × Mem) := if (M 0 13) = 3 then (if (M 0 14) = 40 then (if 8 ≤ a0 then (f_X10_takesE_j158 rec28 a0 M) else wr M 13 96 (M 0 23) (-11) fun M44 => nm (sto M44 0 23 ((M44 0 23) + 1)) fun M45 => nm (a0 + 1 : Int32) fun x46 => wr M45 14 10 x46 (vp_nar .boolean 0) fun M48 => bd (f_X10_go M48) fun M50 => f_X10_takesE_j172 rec28 x46 a1 M50) else f_X10_takesE_j158 rec28 a0 M) else f_X10_takesE_j158 rec28 a0 M
set_option maxHeartbeats 4000000 in
set_option maxRecDepth 100000 in
theorem t_X10_takesE_j97 {x : En} {E : Amd} {D : va_G} {ca : Nat → ClassId} {h : Nat → Nat} (K : Kx x E D (tysOf ca) h (LaM ca h) RX10 cX10_takesE 5 3 63) {r0 : Int32} {Mo : Mem} (hR : Rt x D h (LaM ca h) (some .boolean) (some (.int r0)) Mo) {rec28 : Int32 → Int32 → Int32 → Mem → Option (Int32 × Mem)} (ih28 : ∀ (w0 : Int32) (w1 : Int32) (w2 : Int32) (M : Mem), rec28 w0 w1 w2 M = some (r0, Mo) → Go x D (tysOf ca) h (LaM ca h) 5 M 28 [some (.ref (h 0)), some (.int w0), some (.int w1), some (.int w2), none] []) (a0 : Int32) (a1 : Int32) (M : Mem) (hf : f_X10_takesE_j97 rec28 a0 a1 M = some (r0, Mo)) : Go x D (tysOf ca) h (LaM ca h) 5 M 97 [some (.ref (h 0)), some (.int a0), none, some (.int a1), none] [] := by
  rw [f_X10_takesE_j97] at hf
  refine o_aload_n K 0 dX10_takesE_97 rfl rfl ?_
  refine gM_218 K dX10_takesE_98 ?_
  refine o_iconst K 3 dX10_takesE_101 (by decide) ?_
  refine o_icmp_ne K 158 dX10_takesE_102 (by decide) (fun c40 => ?_) (fun c40 => ?_)
  · have hf := im c40 hf
    refine o_drop [true, true, false, false, false] (V2 := [some (.ref (h 0)), some (.int a0), none, none, none]) rfl ?_
    exact t_X10_takesE_j158 K hR ih28 a0 M hf
  · have hf := ip c40 hf
    refine o_aload_n K 0 dX10_takesE_105 rfl rfl ?_
    refine gM_224 K dX10_takesE_106 ?_
    refine o_bipush K 40 dX10_takesE_109 (by decide) ?_
    refine o_icmp_ne K 158 dX10_takesE_111 (by decide) (fun c41 => ?_) (fun c41 => ?_)
    · have hf := im c41 hf
      refine o_drop [true, true, false, false, false] (V2 := [some (.ref (h 0)), some (.int a0), none, none, none]) rfl ?_
      exact t_X10_takesE_j158 K hR ih28 a0 M hf
    · have hf := ip c41 hf
      refine o_iload_n K 1 dX10_takesE_114 rfl rfl ?_
      refine o_bipush K 8 dX10_takesE_115 (by decide) ?_
      refine o_icmp_ge K 158 dX10_takesE_117 (by decide) (fun c42 => ?_) (fun c42 => ?_)
      · have hf := ip c42 hf
        refine o_drop [true, true, false, false, false] (V2 := [some (.ref (h 0)), some (.int a0), none, none, none]) rfl ?_
        exact t_X10_takesE_j158 K hR ih28 a0 M hf
      · have hf := im c42 hf
        refine o_aload_n K 0 dX10_takesE_120 rfl rfl ?_
        refine gM_47 K dX10_takesE_121 ?_
        refine o_aload_n K 0 dX10_takesE_124 rfl rfl ?_
        refine gM_236 K dX10_takesE_125 ?_
        refine o_bipush K (-11) dX10_takesE_128 (by decide) ?_
        obtain ⟨g43, M44, eM44, hf⟩ := wr_e hf
        refine sM_13 K g43 dX10_takesE_130 ?_
        refine o_nmM eM44 ?_
        refine o_aload_n K 0 dX10_takesE_131 rfl rfl ?_
        refine o_dup K dX10_takesE_132 rfl ?_
        refine gM_236 K dX10_takesE_133 ?_
        refine o_iconst K 1 dX10_takesE_136 (by decide) ?_
        refine o_iadd K dX10_takesE_137 ?_
        obtain ⟨M45, eM45, hf⟩ := nm_o hf
        refine pM_236 K dX10_takesE_138 ?_
        refine o_nmM eM45 ?_
        obtain ⟨x46, ex46, hf⟩ := nm_o hf
        refine o_iinc K 1 x46 [some (.ref (h 0)), some (.int x46), none, some (.int a1), none] dX10_takesE_141 rfl (inc_e (by decide) ex46) (by decide) rfl rfl ?_
        refine o_aload_n K 0 dX10_takesE_144 rfl rfl ?_
        refine gM_50 K dX10_takesE_145 ?_
        refine o_iload_n K 1 dX10_takesE_148 rfl rfl ?_
        refine o_iconst K 0 dX10_takesE_149 (by decide) ?_
        obtain ⟨g47, M48, eM48, hf⟩ := wr_e hf
        refine sM_14 K g47 dX10_takesE_150 ?_
        refine o_nmM eM48 ?_
        refine o_aload_n K 0 dX10_takesE_151 rfl rfl ?_
        obtain ⟨M50, er49, hf⟩ := bd_e hf
        refine o_callV K [] (k_X10_go x.2.1 E D ca h M48 er49) s_X10_233 (ltM (by decide)) rfl rfl rfl rfl ⟨by decide, by decide⟩ (Nat.le_of_ble_eq_true rfl) _ rfl dX10_takesE_152 ?_
        show Go x D (tysOf ca) h (LaM ca h) 5 M50 155 [some (.ref (h 0)), some (.int x46), none, some (.int a1), none] []
        refine o_goto K 172 dX10_takesE_155 (by decide) ?_
        exact t_X10_takesE_j172 K hR ih28 x46 a1 M50 hf
def f_X10_takesE_j305 (rec28 : Int32 → Int32 → Int32 → Mem → Option (Int32 × Mem)) (a0 : Int32) (a1 : Int32) (a2 : Int32) (a3 : Int32) (a4 : Int32) (M : Mem) : Option (Int32 × Mem) := wr M 14 10 a4 (vp_nar .boolean a3) fun M63 => bd (f_X10_rank a2) fun r64 => bd (f_X10_settle M63 r64) fun M66 => wr M66 13 96 (M66 0 23) a2 fun M68 => nm (sto M68 0 23 ((M68 0 23) + 1)) fun M69 => bd (f_X10_go M69) fun M71 => rec28 a0 a1 (1 : Int32) M71
set_option maxHeartbeats 4000000 in
set_option maxRecDepth 100000 in
theorem t_X10_takesE_j305 {x : En} {E : Amd} {D : va_G} {ca : Nat → ClassId} {h : Nat → Nat} (K : Kx x E D (tysOf ca) h (LaM ca h) RX10 cX10_takesE 5 3 63) {r0 : Int32} {Mo : Mem} (hR : Rt x D h (LaM ca h) (some .boolean) (some (.int r0)) Mo) {rec28 : Int32 → Int32 → Int32 → Mem → Option (Int32 × Mem)} (ih28 : ∀ (w0 : Int32) (w1 : Int32) (w2 : Int32) (M : Mem), rec28 w0 w1 w2 M = some (r0, Mo) → Go x D (tysOf ca) h (LaM ca h) 5 M 28 [some (.ref (h 0)), some (.int w0), some (.int w1), some (.int w2), none] []) (a0 : Int32) (a1 : Int32) (a2 : Int32) (a3 : Int32) (a4 : Int32) (M : Mem) (hf : f_X10_takesE_j305 rec28 a0 a1 a2 a3 a4 M = some (r0, Mo)) : Go x D (tysOf ca) h (LaM ca h) 5 M 305 [some (.ref (h 0)), some (.int a0), some (.int a1), none, some (.int a2)] [.int a3, .int a4, .ref (h 14)] := by
  rw [f_X10_takesE_j305] at hf
  obtain ⟨g62, M63, eM63, hf⟩ := wr_e hf
  refine sM_14 K g62 dX10_takesE_305 ?_
  refine o_nmM eM63 ?_
  refine o_aload_n K 0 dX10_takesE_306 rfl rfl ?_
  refine o_iload K 4 dX10_takesE_307 rfl ?_
  obtain ⟨r64, er64, hf⟩ := bd_e hf
  refine o_callS K [.int a2] (k_X10_rank x.2.1 E D ca h M63 a2 er64) s_X10_239 rfl ⟨by decide, by decide⟩ (Nat.le_of_ble_eq_true rfl) _ rfl dX10_takesE_309 ?_
  show Go x D (tysOf ca) h (LaM ca h) 5 M63 312 [some (.ref (h 0)), some (.int a0), some (.int a1), none, some (.int a2)] [.int r64, .ref (h 0)]
  obtain ⟨M66, er65, hf⟩ := bd_e hf
  refine o_callV K [.int r64] (k_X10_settle x.2.1 E D ca h M63 r64 er65) s_X10_251 (ltM (by decide)) rfl rfl rfl rfl ⟨by decide, by decide⟩ (Nat.le_of_ble_eq_true rfl) _ rfl dX10_takesE_312 ?_
  show Go x D (tysOf ca) h (LaM ca h) 5 M66 315 [some (.ref (h 0)), some (.int a0), some (.int a1), none, some (.int a2)] []
  refine o_aload_n K 0 dX10_takesE_315 rfl rfl ?_
  refine gM_47 K dX10_takesE_316 ?_
  refine o_aload_n K 0 dX10_takesE_319 rfl rfl ?_
  refine gM_236 K dX10_takesE_320 ?_
  refine o_iload K 4 dX10_takesE_323 rfl ?_
  obtain ⟨g67, M68, eM68, hf⟩ := wr_e hf
  refine sM_13 K g67 dX10_takesE_325 ?_
  refine o_nmM eM68 ?_
  refine o_aload_n K 0 dX10_takesE_326 rfl rfl ?_
  refine o_dup K dX10_takesE_327 rfl ?_
  refine gM_236 K dX10_takesE_328 ?_
  refine o_iconst K 1 dX10_takesE_331 (by decide) ?_
  refine o_iadd K dX10_takesE_332 ?_
  obtain ⟨M69, eM69, hf⟩ := nm_o hf
  refine pM_236 K dX10_takesE_333 ?_
  refine o_nmM eM69 ?_
  refine o_iconst K 1 dX10_takesE_336 (by decide) ?_
  refine o_istore_n K 3 [some (.ref (h 0)), some (.int a0), some (.int a1), some (.int 1), some (.int a2)] dX10_takesE_337 rfl (by decide) rfl rfl ?_
  refine o_aload_n K 0 dX10_takesE_338 rfl rfl ?_
  obtain ⟨M71, er70, hf⟩ := bd_e hf
  refine o_callV K [] (k_X10_go x.2.1 E D ca h M69 er70) s_X10_233 (ltM (by decide)) rfl rfl rfl rfl ⟨by decide, by decide⟩ (Nat.le_of_ble_eq_true rfl) _ rfl dX10_takesE_339 ?_
  show Go x D (tysOf ca) h (LaM ca h) 5 M71 342 [some (.ref (h 0)), some (.int a0), some (.int a1), some (.int 1), some (.int a2)] []
  refine o_goto K 28 dX10_takesE_342 (by decide) ?_
  refine o_drop [true, true, true, true, false] (V2 := [some (.ref (h 0)), some (.int a0), some (.int a1), some (.int 1), none]) rfl ?_
  exact ih28 a0 a1 (1 : Int32) M71 hf
def f_X10_takesE_j300 (rec28 : Int32 → Int32 → Int32 → Mem → Option (Int32 × Mem)) (a0 : Int32) (a1 : Int32) (a2 : Int32) (a3 : Int32) (M : Mem) : Option (Int32 × Mem) := f_X10_takesE_j305 rec28 a0 a1 a2 (1 : Int32) a3 M
set_option maxHeartbeats 4000000 in
set_option maxRecDepth 100000 in
theorem t_X10_takesE_j300 {x : En} {E : Amd} {D : va_G} {ca : Nat → ClassId} {h : Nat → Nat} (K : Kx x E D (tysOf ca) h (LaM ca h) RX10 cX10_takesE 5 3 63) {r0 : Int32} {Mo : Mem} (hR : Rt x D h (LaM ca h) (some .boolean) (some (.int r0)) Mo) {rec28 : Int32 → Int32 → Int32 → Mem → Option (Int32 × Mem)} (ih28 : ∀ (w0 : Int32) (w1 : Int32) (w2 : Int32) (M : Mem), rec28 w0 w1 w2 M = some (r0, Mo) → Go x D (tysOf ca) h (LaM ca h) 5 M 28 [some (.ref (h 0)), some (.int w0), some (.int w1), some (.int w2), none] []) (a0 : Int32) (a1 : Int32) (a2 : Int32) (a3 : Int32) (M : Mem) (hf : f_X10_takesE_j300 rec28 a0 a1 a2 a3 M = some (r0, Mo)) : Go x D (tysOf ca) h (LaM ca h) 5 M 300 [some (.ref (h 0)), some (.int a0), some (.int a1), none, some (.int a2)] [.int a3, .ref (h 14)] := by
  rw [f_X10_takesE_j300] at hf
  refine o_iconst K 1 dX10_takesE_300 (by decide) ?_
  refine o_goto K 305 dX10_takesE_301 (by decide) ?_
  exact t_X10_takesE_j305 K hR ih28 a0 a1 a2 (1 : Int32) a3 M hf
def f_X10_takesE_j304 (rec28 : Int32 → Int32 → Int32 → Mem → Option (Int32 × Mem)) (a0 : Int32) (a1 : Int32) (a2 : Int32) (a3 : Int32) (M : Mem) : Option (Int32 × Mem) := f_X10_takesE_j305 rec28 a0 a1 a2 (0 : Int32) a3 M
set_option maxHeartbeats 4000000 in
set_option maxRecDepth 100000 in
theorem t_X10_takesE_j304 {x : En} {E : Amd} {D : va_G} {ca : Nat → ClassId} {h : Nat → Nat} (K : Kx x E D (tysOf ca) h (LaM ca h) RX10 cX10_takesE 5 3 63) {r0 : Int32} {Mo : Mem} (hR : Rt x D h (LaM ca h) (some .boolean) (some (.int r0)) Mo) {rec28 : Int32 → Int32 → Int32 → Mem → Option (Int32 × Mem)} (ih28 : ∀ (w0 : Int32) (w1 : Int32) (w2 : Int32) (M : Mem), rec28 w0 w1 w2 M = some (r0, Mo) → Go x D (tysOf ca) h (LaM ca h) 5 M 28 [some (.ref (h 0)), some (.int w0), some (.int w1), some (.int w2), none] []) (a0 : Int32) (a1 : Int32) (a2 : Int32) (a3 : Int32) (M : Mem) (hf : f_X10_takesE_j304 rec28 a0 a1 a2 a3 M = some (r0, Mo)) : Go x D (tysOf ca) h (LaM ca h) 5 M 304 [some (.ref (h 0)), some (.int a0), some (.int a1), none, some (.int a2)] [.int a3, .ref (h 14)] := by
  rw [f_X10_takesE_j304] at hf
  refine o_iconst K 0 dX10_takesE_304 (by decide) ?_
  exact t_X10_takesE_j305 K hR ih28 a0 a1 a2 (0 : Int32) a3 M hf
def f_X10_takesE_j268 (rec28 : Int32 → Int32 → Int32 → Mem → Option (Int32 × Mem)) (a0 : Int32) (a1 : Int32) (a2 : Int32) (M : Mem) : Option (Int32 × Mem) := bd (f_X10_rank a2) fun r52 => if r52 = 3 then (f_X10_takesE_j300 rec28 a0 a1 a2 a0 M) else bd (f_X10_rank a2) fun r54 => if r54 ≤ 3 then (f_X10_takesE_j304 rec28 a0 a1 a2 a0 M) else rd M 14 10 a0 fun x56 => if x56 = 0 then (f_X10_takesE_j304 rec28 a0 a1 a2 a0 M) else f_X10_takesE_j300 rec28 a0 a1 a2 a0 M
set_option maxHeartbeats 4000000 in
set_option maxRecDepth 100000 in
theorem t_X10_takesE_j268 {x : En} {E : Amd} {D : va_G} {ca : Nat → ClassId} {h : Nat → Nat} (K : Kx x E D (tysOf ca) h (LaM ca h) RX10 cX10_takesE 5 3 63) {r0 : Int32} {Mo : Mem} (hR : Rt x D h (LaM ca h) (some .boolean) (some (.int r0)) Mo) {rec28 : Int32 → Int32 → Int32 → Mem → Option (Int32 × Mem)} (ih28 : ∀ (w0 : Int32) (w1 : Int32) (w2 : Int32) (M : Mem), rec28 w0 w1 w2 M = some (r0, Mo) → Go x D (tysOf ca) h (LaM ca h) 5 M 28 [some (.ref (h 0)), some (.int w0), some (.int w1), some (.int w2), none] []) (a0 : Int32) (a1 : Int32) (a2 : Int32) (M : Mem) (hf : f_X10_takesE_j268 rec28 a0 a1 a2 M = some (r0, Mo)) : Go x D (tysOf ca) h (LaM ca h) 5 M 268 [some (.ref (h 0)), some (.int a0), some (.int a1), none, some (.int a2)] [] := by
  rw [f_X10_takesE_j268] at hf
  refine o_aload_n K 0 dX10_takesE_268 rfl rfl ?_
  refine gM_50 K dX10_takesE_269 ?_
  refine o_iload_n K 1 dX10_takesE_272 rfl rfl ?_
  refine o_iload K 4 dX10_takesE_273 rfl ?_
  obtain ⟨r52, er52, hf⟩ := bd_e hf
  refine o_callS K [.int a2] (k_X10_rank x.2.1 E D ca h M a2 er52) s_X10_239 rfl ⟨by decide, by decide⟩ (Nat.le_of_ble_eq_true rfl) _ rfl dX10_takesE_275 ?_
  show Go x D (tysOf ca) h (LaM ca h) 5 M 278 [some (.ref (h 0)), some (.int a0), some (.int a1), none, some (.int a2)] [.int r52, .int a0, .ref (h 14)]
  refine o_iconst K 3 dX10_takesE_278 (by decide) ?_
  refine o_icmp_eq K 300 dX10_takesE_279 (by decide) (fun c53 => ?_) (fun c53 => ?_)
  · have hf := ip c53 hf
    exact t_X10_takesE_j300 K hR ih28 a0 a1 a2 a0 M hf
  · have hf := im c53 hf
    refine o_iload K 4 dX10_takesE_282 rfl ?_
    obtain ⟨r54, er54, hf⟩ := bd_e hf
    refine o_callS K [.int a2] (k_X10_rank x.2.1 E D ca h M a2 er54) s_X10_239 rfl ⟨by decide, by decide⟩ (Nat.le_of_ble_eq_true rfl) _ rfl dX10_takesE_284 ?_
    show Go x D (tysOf ca) h (LaM ca h) 5 M 287 [some (.ref (h 0)), some (.int a0), some (.int a1), none, some (.int a2)] [.int r54, .int a0, .ref (h 14)]
    refine o_iconst K 3 dX10_takesE_287 (by decide) ?_
    refine o_icmp_le K 304 dX10_takesE_288 (by decide) (fun c55 => ?_) (fun c55 => ?_)
    · have hf := ip c55 hf
      exact t_X10_takesE_j304 K hR ih28 a0 a1 a2 a0 M hf
    · have hf := im c55 hf
      refine o_aload_n K 0 dX10_takesE_291 rfl rfl ?_
      refine gM_50 K dX10_takesE_292 ?_
      refine o_iload_n K 1 dX10_takesE_295 rfl rfl ?_
      obtain ⟨g57, x56, ex56, hf⟩ := rd_e hf
      refine lM_14 K g57 dX10_takesE_296 ?_
      refine o_nmi ex56 ?_
      refine o_if_eq K 304 dX10_takesE_297 (by decide) (fun c58 => ?_) (fun c58 => ?_)
      · have hf := ip c58 hf
        exact t_X10_takesE_j304 K hR ih28 a0 a1 a2 a0 M hf
      · have hf := im c58 hf
        exact t_X10_takesE_j300 K hR ih28 a0 a1 a2 a0 M hf
def f_X10_takesE_j237 (rec28 : Int32 → Int32 → Int32 → Mem → Option (Int32 × Mem)) (a0 : Int32) (a1 : Int32) (M : Mem) : Option (Int32 × Mem) := bd (f_X10_signHere M) fun r33 => if r33 = 0 then (some ((0 : Int32), M)) else bd (f_X10_rank r33) fun r35 => if r35 = 3 then (rd M 14 10 a0 fun x37 => if x37 = 0 then (f_X10_takesE_j268 rec28 a0 a1 r33 M) else some ((0 : Int32), M)) else f_X10_takesE_j268 rec28 a0 a1 r33 M
set_option maxHeartbeats 4000000 in
set_option maxRecDepth 100000 in
theorem t_X10_takesE_j237 {x : En} {E : Amd} {D : va_G} {ca : Nat → ClassId} {h : Nat → Nat} (K : Kx x E D (tysOf ca) h (LaM ca h) RX10 cX10_takesE 5 3 63) {r0 : Int32} {Mo : Mem} (hR : Rt x D h (LaM ca h) (some .boolean) (some (.int r0)) Mo) {rec28 : Int32 → Int32 → Int32 → Mem → Option (Int32 × Mem)} (ih28 : ∀ (w0 : Int32) (w1 : Int32) (w2 : Int32) (M : Mem), rec28 w0 w1 w2 M = some (r0, Mo) → Go x D (tysOf ca) h (LaM ca h) 5 M 28 [some (.ref (h 0)), some (.int w0), some (.int w1), some (.int w2), none] []) (a0 : Int32) (a1 : Int32) (M : Mem) (hf : f_X10_takesE_j237 rec28 a0 a1 M = some (r0, Mo)) : Go x D (tysOf ca) h (LaM ca h) 5 M 237 [some (.ref (h 0)), some (.int a0), some (.int a1), none, none] [] := by
  rw [f_X10_takesE_j237] at hf
  refine o_aload_n K 0 dX10_takesE_237 rfl rfl ?_
  obtain ⟨r33, er33, hf⟩ := bd_e hf
  refine o_callV K [] (k_X10_signHere x.2.1 E D ca h M er33) s_X10_261 (ltM (by decide)) rfl rfl rfl rfl ⟨by decide, by decide⟩ (Nat.le_of_ble_eq_true rfl) _ rfl dX10_takesE_238 ?_
  show Go x D (tysOf ca) h (LaM ca h) 5 M 241 [some (.ref (h 0)), some (.int a0), some (.int a1), none, none] [.int r33]
  refine o_istore K 4 [some (.ref (h 0)), some (.int a0), some (.int a1), none, some (.int r33)] dX10_takesE_241 (by decide) rfl rfl ?_
  refine o_iload K 4 dX10_takesE_243 rfl ?_
  refine o_if_eq K 266 dX10_takesE_245 (by decide) (fun c34 => ?_) (fun c34 => ?_)
  · have hf := ip c34 hf
    refine o_iconst K 0 dX10_takesE_266 (by decide) ?_
    exact e_zret K hf hR (by decide) dX10_takesE_267
  · have hf := im c34 hf
    refine o_iload K 4 dX10_takesE_248 rfl ?_
    obtain ⟨r35, er35, hf⟩ := bd_e hf
    refine o_callS K [.int r33] (k_X10_rank x.2.1 E D ca h M r33 er35) s_X10_239 rfl ⟨by decide, by decide⟩ (Nat.le_of_ble_eq_true rfl) _ rfl dX10_takesE_250 ?_
    show Go x D (tysOf ca) h (LaM ca h) 5 M 253 [some (.ref (h 0)), some (.int a0), some (.int a1), none, some (.int r33)] [.int r35]
    refine o_iconst K 3 dX10_takesE_253 (by decide) ?_
    refine o_icmp_ne K 268 dX10_takesE_254 (by decide) (fun c36 => ?_) (fun c36 => ?_)
    · have hf := im c36 hf
      exact t_X10_takesE_j268 K hR ih28 a0 a1 r33 M hf
    · have hf := ip c36 hf
      refine o_aload_n K 0 dX10_takesE_257 rfl rfl ?_
      refine gM_50 K dX10_takesE_258 ?_
      refine o_iload_n K 1 dX10_takesE_261 rfl rfl ?_
      obtain ⟨g38, x37, ex37, hf⟩ := rd_e hf
      refine lM_14 K g38 dX10_takesE_262 ?_
      refine o_nmi ex37 ?_
      refine o_if_eq K 268 dX10_takesE_263 (by decide) (fun c39 => ?_) (fun c39 => ?_)
      · have hf := ip c39 hf
        exact t_X10_takesE_j268 K hR ih28 a0 a1 r33 M hf
      · have hf := im c39 hf
        refine o_iconst K 0 dX10_takesE_266 (by decide) ?_
        exact e_zret K hf hR (by decide) dX10_takesE_267
def f_X10_takesE_j39 (rec28 : Int32 → Int32 → Int32 → Mem → Option (Int32 × Mem)) (a0 : Int32) (a1 : Int32) (a2 : Int32) (M : Mem) : Option (Int32 × Mem) := if a2 = 0 then (if (M 0 13) = 3 then (if (M 0 14) = 41 then (if a0 ≤ 0 then (f_X10_takesE_j237 rec28 a0 a1 M) else bd (f_X10_settle M (0 : Int32)) fun M16 => nm (sto M16 0 23 ((M16 0 23) - 1)) fun M17 => nm (a0 + (-1) : Int32) fun x18 => bd (f_X10_settle M17 (6 : Int32)) fun M20 => bd (f_X10_notsOpen M20) fun r21 => bd (f_X10_go M20) fun M23 => rec28 x18 r21 a2 M23) else f_X10_takesE_j237 rec28 a0 a1 M) else f_X10_takesE_j237 rec28 a0 a1 M) else if (M 0 13) = 3 then (if (M 0 14) = 33 then (if 8 ≤ a1 then (f_X10_takesE_j97 rec28 a0 a2 M) else wr M 13 96 (M 0 23) (-10) fun M28 => nm (sto M28 0 23 ((M28 0 23) + 1)) fun M29 => nm (a1 + 1 : Int32) fun x30 => bd (f_X10_go M29) fun M32 => f_X10_takesE_j172 rec28 a0 a2 M32) else f_X10_takesE_j97 rec28 a0 a2 M) else f_X10_takesE_j97 rec28 a0 a2 M
set_option maxHeartbeats 4000000 in
set_option maxRecDepth 100000 in
theorem t_X10_takesE_j39 {x : En} {E : Amd} {D : va_G} {ca : Nat → ClassId} {h : Nat → Nat} (K : Kx x E D (tysOf ca) h (LaM ca h) RX10 cX10_takesE 5 3 63) {r0 : Int32} {Mo : Mem} (hR : Rt x D h (LaM ca h) (some .boolean) (some (.int r0)) Mo) {rec28 : Int32 → Int32 → Int32 → Mem → Option (Int32 × Mem)} (ih28 : ∀ (w0 : Int32) (w1 : Int32) (w2 : Int32) (M : Mem), rec28 w0 w1 w2 M = some (r0, Mo) → Go x D (tysOf ca) h (LaM ca h) 5 M 28 [some (.ref (h 0)), some (.int w0), some (.int w1), some (.int w2), none] []) (a0 : Int32) (a1 : Int32) (a2 : Int32) (M : Mem) (hf : f_X10_takesE_j39 rec28 a0 a1 a2 M = some (r0, Mo)) : Go x D (tysOf ca) h (LaM ca h) 5 M 39 [some (.ref (h 0)), some (.int a0), some (.int a1), some (.int a2), none] [] := by
  rw [f_X10_takesE_j39] at hf
  refine o_iload_n K 3 dX10_takesE_39 rfl rfl ?_
  refine o_if_eq K 180 dX10_takesE_40 (by decide) (fun c11 => ?_) (fun c11 => ?_)
  · have hf := ip c11 hf
    refine o_aload_n K 0 dX10_takesE_180 rfl rfl ?_
    refine gM_218 K dX10_takesE_181 ?_
    refine o_iconst K 3 dX10_takesE_184 (by decide) ?_
    refine o_icmp_ne K 237 dX10_takesE_185 (by decide) (fun c12 => ?_) (fun c12 => ?_)
    · have hf := im c12 hf
      refine o_drop [true, true, true, false, false] (V2 := [some (.ref (h 0)), some (.int a0), some (.int a1), none, none]) rfl ?_
      exact t_X10_takesE_j237 K hR ih28 a0 a1 M hf
    · have hf := ip c12 hf
      refine o_aload_n K 0 dX10_takesE_188 rfl rfl ?_
      refine gM_224 K dX10_takesE_189 ?_
      refine o_bipush K 41 dX10_takesE_192 (by decide) ?_
      refine o_icmp_ne K 237 dX10_takesE_194 (by decide) (fun c13 => ?_) (fun c13 => ?_)
      · have hf := im c13 hf
        refine o_drop [true, true, true, false, false] (V2 := [some (.ref (h 0)), some (.int a0), some (.int a1), none, none]) rfl ?_
        exact t_X10_takesE_j237 K hR ih28 a0 a1 M hf
      · have hf := ip c13 hf
        refine o_iload_n K 1 dX10_takesE_197 rfl rfl ?_
        refine o_if_le K 237 dX10_takesE_198 (by decide) (fun c14 => ?_) (fun c14 => ?_)
        · have hf := ip c14 hf
          refine o_drop [true, true, true, false, false] (V2 := [some (.ref (h 0)), some (.int a0), some (.int a1), none, none]) rfl ?_
          exact t_X10_takesE_j237 K hR ih28 a0 a1 M hf
        · have hf := im c14 hf
          refine o_aload_n K 0 dX10_takesE_201 rfl rfl ?_
          refine o_iconst K 0 dX10_takesE_202 (by decide) ?_
          obtain ⟨M16, er15, hf⟩ := bd_e hf
          refine o_callV K [.int 0] (k_X10_settle x.2.1 E D ca h M (0 : Int32) er15) s_X10_251 (ltM (by decide)) rfl rfl rfl rfl ⟨by decide, by decide⟩ (Nat.le_of_ble_eq_true rfl) _ rfl dX10_takesE_203 ?_
          show Go x D (tysOf ca) h (LaM ca h) 5 M16 206 [some (.ref (h 0)), some (.int a0), some (.int a1), some (.int a2), none] []
          refine o_aload_n K 0 dX10_takesE_206 rfl rfl ?_
          refine o_dup K dX10_takesE_207 rfl ?_
          refine gM_236 K dX10_takesE_208 ?_
          refine o_iconst K 1 dX10_takesE_211 (by decide) ?_
          refine o_isub K dX10_takesE_212 ?_
          obtain ⟨M17, eM17, hf⟩ := nm_o hf
          refine pM_236 K dX10_takesE_213 ?_
          refine o_nmM eM17 ?_
          obtain ⟨x18, ex18, hf⟩ := nm_o hf
          refine o_iinc K 1 x18 [some (.ref (h 0)), some (.int x18), some (.int a1), some (.int a2), none] dX10_takesE_216 rfl (inc_e (by decide) ex18) (by decide) rfl rfl ?_
          refine o_aload_n K 0 dX10_takesE_219 rfl rfl ?_
          refine o_bipush K 6 dX10_takesE_220 (by decide) ?_
          obtain ⟨M20, er19, hf⟩ := bd_e hf
          refine o_callV K [.int 6] (k_X10_settle x.2.1 E D ca h M17 (6 : Int32) er19) s_X10_251 (ltM (by decide)) rfl rfl rfl rfl ⟨by decide, by decide⟩ (Nat.le_of_ble_eq_true rfl) _ rfl dX10_takesE_222 ?_
          show Go x D (tysOf ca) h (LaM ca h) 5 M20 225 [some (.ref (h 0)), some (.int x18), some (.int a1), some (.int a2), none] []
          refine o_aload_n K 0 dX10_takesE_225 rfl rfl ?_
          obtain ⟨r21, er21, hf⟩ := bd_e hf
          refine o_callV K [] (k_X10_notsOpen x.2.1 E D ca h M20 er21) s_X10_258 (ltM (by decide)) rfl rfl rfl rfl ⟨by decide, by decide⟩ (Nat.le_of_ble_eq_true rfl) _ rfl dX10_takesE_226 ?_
          show Go x D (tysOf ca) h (LaM ca h) 5 M20 229 [some (.ref (h 0)), some (.int x18), some (.int a1), some (.int a2), none] [.int r21]
          refine o_istore_n K 2 [some (.ref (h 0)), some (.int x18), some (.int r21), some (.int a2), none] dX10_takesE_229 rfl (by decide) rfl rfl ?_
          refine o_aload_n K 0 dX10_takesE_230 rfl rfl ?_
          obtain ⟨M23, er22, hf⟩ := bd_e hf
          refine o_callV K [] (k_X10_go x.2.1 E D ca h M20 er22) s_X10_233 (ltM (by decide)) rfl rfl rfl rfl ⟨by decide, by decide⟩ (Nat.le_of_ble_eq_true rfl) _ rfl dX10_takesE_231 ?_
          show Go x D (tysOf ca) h (LaM ca h) 5 M23 234 [some (.ref (h 0)), some (.int x18), some (.int r21), some (.int a2), none] []
          refine o_goto K 28 dX10_takesE_234 (by decide) ?_
          exact ih28 x18 r21 a2 M23 hf
  · have hf := im c11 hf
    refine o_aload_n K 0 dX10_takesE_43 rfl rfl ?_
    refine gM_218 K dX10_takesE_44 ?_
    refine o_iconst K 3 dX10_takesE_47 (by decide) ?_
    refine o_icmp_ne K 97 dX10_takesE_48 (by decide) (fun c24 => ?_) (fun c24 => ?_)
    · have hf := im c24 hf
      refine o_drop [true, true, false, true, false] (V2 := [some (.ref (h 0)), some (.int a0), none, some (.int a2), none]) rfl ?_
      exact t_X10_takesE_j97 K hR ih28 a0 a2 M hf
    · have hf := ip c24 hf
      refine o_aload_n K 0 dX10_takesE_51 rfl rfl ?_
      refine gM_224 K dX10_takesE_52 ?_
      refine o_bipush K 33 dX10_takesE_55 (by decide) ?_
      refine o_icmp_ne K 97 dX10_takesE_57 (by decide) (fun c25 => ?_) (fun c25 => ?_)
      · have hf := im c25 hf
        refine o_drop [true, true, false, true, false] (V2 := [some (.ref (h 0)), some (.int a0), none, some (.int a2), none]) rfl ?_
        exact t_X10_takesE_j97 K hR ih28 a0 a2 M hf
      · have hf := ip c25 hf
        refine o_iload_n K 2 dX10_takesE_60 rfl rfl ?_
        refine o_bipush K 8 dX10_takesE_61 (by decide) ?_
        refine o_icmp_ge K 97 dX10_takesE_63 (by decide) (fun c26 => ?_) (fun c26 => ?_)
        · have hf := ip c26 hf
          refine o_drop [true, true, false, true, false] (V2 := [some (.ref (h 0)), some (.int a0), none, some (.int a2), none]) rfl ?_
          exact t_X10_takesE_j97 K hR ih28 a0 a2 M hf
        · have hf := im c26 hf
          refine o_aload_n K 0 dX10_takesE_66 rfl rfl ?_
          refine gM_47 K dX10_takesE_67 ?_
          refine o_aload_n K 0 dX10_takesE_70 rfl rfl ?_
          refine gM_236 K dX10_takesE_71 ?_
          refine o_bipush K (-10) dX10_takesE_74 (by decide) ?_
          obtain ⟨g27, M28, eM28, hf⟩ := wr_e hf
          refine sM_13 K g27 dX10_takesE_76 ?_
          refine o_nmM eM28 ?_
          refine o_aload_n K 0 dX10_takesE_77 rfl rfl ?_
          refine o_dup K dX10_takesE_78 rfl ?_
          refine gM_236 K dX10_takesE_79 ?_
          refine o_iconst K 1 dX10_takesE_82 (by decide) ?_
          refine o_iadd K dX10_takesE_83 ?_
          obtain ⟨M29, eM29, hf⟩ := nm_o hf
          refine pM_236 K dX10_takesE_84 ?_
          refine o_nmM eM29 ?_
          obtain ⟨x30, ex30, hf⟩ := nm_o hf
          refine o_iinc K 2 x30 [some (.ref (h 0)), some (.int a0), some (.int x30), some (.int a2), none] dX10_takesE_87 rfl (inc_e (by decide) ex30) (by decide) rfl rfl ?_
          refine o_aload_n K 0 dX10_takesE_90 rfl rfl ?_
          obtain ⟨M32, er31, hf⟩ := bd_e hf
          refine o_callV K [] (k_X10_go x.2.1 E D ca h M29 er31) s_X10_233 (ltM (by decide)) rfl rfl rfl rfl ⟨by decide, by decide⟩ (Nat.le_of_ble_eq_true rfl) _ rfl dX10_takesE_91 ?_
          show Go x D (tysOf ca) h (LaM ca h) 5 M32 94 [some (.ref (h 0)), some (.int a0), some (.int x30), some (.int a2), none] []
          refine o_goto K 172 dX10_takesE_94 (by decide) ?_
          refine o_drop [true, true, false, true, false] (V2 := [some (.ref (h 0)), some (.int a0), none, some (.int a2), none]) rfl ?_
          exact t_X10_takesE_j172 K hR ih28 a0 a2 M32 hf
def f_X10_takesE_l28 : Nat → Int32 → Int32 → Int32 → Mem → Option (Int32 × Mem)
  | 0, _, _, _, _ => none
  | n + 1, a0, a1, a2, M => if a2 = 0 then (if (M 0 13) = 0 then (bd (f_X10_settle M (0 : Int32)) fun M9 => if a0 = 0 then (some ((1 : Int32), M9)) else some ((0 : Int32), M9)) else f_X10_takesE_j39 (f_X10_takesE_l28 n) a0 a1 a2 M) else f_X10_takesE_j39 (f_X10_takesE_l28 n) a0 a1 a2 M
set_option maxHeartbeats 4000000 in
set_option maxRecDepth 100000 in
theorem t_X10_takesE_l28 {x : En} {E : Amd} {D : va_G} {ca : Nat → ClassId} {h : Nat → Nat} (K : Kx x E D (tysOf ca) h (LaM ca h) RX10 cX10_takesE 5 3 63) {r0 : Int32} {Mo : Mem} (hR : Rt x D h (LaM ca h) (some .boolean) (some (.int r0)) Mo) : ∀ (n : Nat) (a0 : Int32) (a1 : Int32) (a2 : Int32) (M : Mem), f_X10_takesE_l28 n a0 a1 a2 M = some (r0, Mo) → Go x D (tysOf ca) h (LaM ca h) 5 M 28 [some (.ref (h 0)), some (.int a0), some (.int a1), some (.int a2), none] [] := by
  intro n
  induction n with
  | zero =>
    intro a0 a1 a2 M hf
    cases hf
  | succ n ih =>
    intro a0 a1 a2 M hf
    rw [f_X10_takesE_l28] at hf
    refine o_iload_n K 3 dX10_takesE_28 rfl rfl ?_
    refine o_if_ne K 39 dX10_takesE_29 (by decide) (fun c6 => ?_) (fun c6 => ?_)
    · have hf := im c6 hf
      exact t_X10_takesE_j39 K hR ih a0 a1 a2 M hf
    · have hf := ip c6 hf
      refine o_aload_n K 0 dX10_takesE_32 rfl rfl ?_
      refine gM_218 K dX10_takesE_33 ?_
      refine o_if_eq K 345 dX10_takesE_36 (by decide) (fun c7 => ?_) (fun c7 => ?_)
      · have hf := ip c7 hf
        refine o_aload_n K 0 dX10_takesE_345 rfl rfl ?_
        refine o_iconst K 0 dX10_takesE_346 (by decide) ?_
        obtain ⟨M9, er8, hf⟩ := bd_e hf
        refine o_callV K [.int 0] (k_X10_settle x.2.1 E D ca h M (0 : Int32) er8) s_X10_251 (ltM (by decide)) rfl rfl rfl rfl ⟨by decide, by decide⟩ (Nat.le_of_ble_eq_true rfl) _ rfl dX10_takesE_347 ?_
        show Go x D (tysOf ca) h (LaM ca h) 5 M9 350 [some (.ref (h 0)), some (.int a0), some (.int a1), some (.int a2), none] []
        refine o_iload_n K 1 dX10_takesE_350 rfl rfl ?_
        refine o_if_ne K 358 dX10_takesE_351 (by decide) (fun c10 => ?_) (fun c10 => ?_)
        · have hf := im c10 hf
          refine o_iconst K 0 dX10_takesE_358 (by decide) ?_
          exact e_zret K hf hR (by decide) dX10_takesE_359
        · have hf := ip c10 hf
          refine o_iconst K 1 dX10_takesE_354 (by decide) ?_
          refine o_goto K 359 dX10_takesE_355 (by decide) ?_
          exact e_zret K hf hR (by decide) dX10_takesE_359
      · have hf := im c7 hf
        exact t_X10_takesE_j39 K hR ih a0 a1 a2 M hf
def f_X10_takesE (M : Mem) : Option (Int32 × Mem) := nm (sto M 0 20 0) fun M1 => nm (sto M1 0 21 0) fun M2 => nm (sto M2 0 23 0) fun M3 => wr M3 14 10 0 (vp_nar .boolean 0) fun M5 => f_X10_takesE_l28 FU (0 : Int32) (0 : Int32) (1 : Int32) M5
set_option maxHeartbeats 4000000 in
set_option maxRecDepth 100000 in
theorem k_X10_takesE (l : Launch) (E : Amd) (D : va_G) (ca : Nat → ClassId) (h : Nat → Nat) (M : Mem) {r0 : Int32} {Mo : Mem} (hf : f_X10_takesE M = some (r0, Mo)) : Ct l E D (tysOf ca) h (LaM ca h) yX10_takesE cX10_takesE 5 (some .boolean) 3 63 [.ref (h 0)] M (some (.int r0)) Mo := by
  refine Ct.mk [some (.ref (h 0)), none, none, none, none] (by decide) (Nat.le_of_ble_eq_true rfl) (argsV [.ref (h 0)] 4 rfl rfl) ?_
  intro x hx0 K hR
  have K : Kx x E D (tysOf ca) h (LaM ca h) RX10 cX10_takesE 5 3 63 := K
  rw [f_X10_takesE] at hf
  refine o_iconst K 0 dX10_takesE_0 (by decide) ?_
  refine o_istore_n K 1 [some (.ref (h 0)), some (.int 0), none, none, none] dX10_takesE_1 rfl (by decide) rfl rfl ?_
  refine o_iconst K 0 dX10_takesE_2 (by decide) ?_
  refine o_istore_n K 2 [some (.ref (h 0)), some (.int 0), some (.int 0), none, none] dX10_takesE_3 rfl (by decide) rfl rfl ?_
  refine o_iconst K 1 dX10_takesE_4 (by decide) ?_
  refine o_istore_n K 3 [some (.ref (h 0)), some (.int 0), some (.int 0), some (.int 1), none] dX10_takesE_5 rfl (by decide) rfl rfl ?_
  refine o_aload_n K 0 dX10_takesE_6 rfl rfl ?_
  refine o_iconst K 0 dX10_takesE_7 (by decide) ?_
  obtain ⟨M1, eM1, hf⟩ := nm_o hf
  refine pM_242 K dX10_takesE_8 ?_
  refine o_nmM eM1 ?_
  refine o_aload_n K 0 dX10_takesE_11 rfl rfl ?_
  refine o_iconst K 0 dX10_takesE_12 (by decide) ?_
  obtain ⟨M2, eM2, hf⟩ := nm_o hf
  refine pM_248 K dX10_takesE_13 ?_
  refine o_nmM eM2 ?_
  refine o_aload_n K 0 dX10_takesE_16 rfl rfl ?_
  refine o_iconst K 0 dX10_takesE_17 (by decide) ?_
  obtain ⟨M3, eM3, hf⟩ := nm_o hf
  refine pM_236 K dX10_takesE_18 ?_
  refine o_nmM eM3 ?_
  refine o_aload_n K 0 dX10_takesE_21 rfl rfl ?_
  refine gM_50 K dX10_takesE_22 ?_
  refine o_iconst K 0 dX10_takesE_25 (by decide) ?_
  refine o_iconst K 0 dX10_takesE_26 (by decide) ?_
  obtain ⟨g4, M5, eM5, hf⟩ := wr_e hf
  refine sM_14 K g4 dX10_takesE_27 ?_
  refine o_nmM eM5 ?_
  exact t_X10_takesE_l28 K hR FU (0 : Int32) (0 : Int32) (1 : Int32) M5 hf
