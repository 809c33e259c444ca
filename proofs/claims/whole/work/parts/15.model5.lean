def f_X10_tell (M : Mem) (a1 : Int32) : Option (Int32 × Mem) := if (M 0 36) = 60 then (some (((-1000000003) : Int32), M)) else wr M 25 60 (M 0 36) a1 fun M3 => nm (sto M3 0 36 ((M3 0 36) + 1)) fun M4 => some (M4 0 36, M4)
set_option maxHeartbeats 4000000 in
set_option maxRecDepth 100000 in
theorem k_X10_tell (l : Launch) (E : Amd) (D : va_G) (ca : Nat → ClassId) (h : Nat → Nat) (M : Mem) (a1 : Int32) {r0 : Int32} {Mo : Mem} (hf : f_X10_tell M a1 = some (r0, Mo)) : Ct l E D (tysOf ca) h (LaM ca h) yX10_tell cX10_tell 2 (some .int) 0 0 [.ref (h 0), .int a1] M (some (.int r0)) Mo := by
  refine Ct.mk [some (.ref (h 0)), some (.int a1)] (by decide) (Nat.le_of_ble_eq_true rfl) (argsV [.ref (h 0), .int a1] 0 rfl rfl) ?_
  intro x hx0 K hR
  have K : Kx x E D (tysOf ca) h (LaM ca h) RX10 cX10_tell 2 0 0 := K
  rw [f_X10_tell] at hf
  refine o_aload_n K 0 dX10_tell_0 rfl rfl ?_
  refine gM_281 K dX10_tell_1 ?_
  refine o_bipush K 60 dX10_tell_4 (by decide) ?_
  refine o_icmp_ne K 12 dX10_tell_6 (by decide) (fun c1 => ?_) (fun c1 => ?_)
  · have hf := im c1 hf
    refine o_aload_n K 0 dX10_tell_12 rfl rfl ?_
    refine gM_84 K dX10_tell_13 ?_
    refine o_aload_n K 0 dX10_tell_16 rfl rfl ?_
    refine gM_281 K dX10_tell_17 ?_
    refine o_iload_n K 1 dX10_tell_20 rfl rfl ?_
    obtain ⟨g2, M3, eM3, hf⟩ := wr_e hf
    refine sM_25 K g2 dX10_tell_21 ?_
    refine o_nmM eM3 ?_
    refine o_aload_n K 0 dX10_tell_22 rfl rfl ?_
    refine o_dup K dX10_tell_23 rfl ?_
    refine gM_281 K dX10_tell_24 ?_
    refine o_iconst K 1 dX10_tell_27 (by decide) ?_
    refine o_iadd K dX10_tell_28 ?_
    obtain ⟨M4, eM4, hf⟩ := nm_o hf
    refine pM_281 K dX10_tell_29 ?_
    refine o_nmM eM4 ?_
    refine o_aload_n K 0 dX10_tell_32 rfl rfl ?_
    refine gM_281 K dX10_tell_33 ?_
    exact e_iret K hf hR dX10_tell_36
  · have hf := ip c1 hf
    refine o_ldc K q1103 dX10_tell_9 ?_
    exact e_iret K hf hR dX10_tell_11
def f_X10_check_j172 (rec80 : Int32 → Int32 → Int32 → Int32 → Mem → Option (Int32 × Mem)) (a0 : Int32) (a1 : Int32) (a2 : Int32) (a3 : Int32) (a4 : Int32) (M : Mem) : Option (Int32 × Mem) := nm (a4 + a3 : Int32) fun x34 => nm (a2 + 1 : Int32) fun x35 => rec80 a0 a1 x34 x35 M
set_option maxHeartbeats 4000000 in
set_option maxRecDepth 100000 in
theorem t_X10_check_j172 {x : En} {E : Amd} {D : va_G} {ca : Nat → ClassId} {h : Nat → Nat} (K : Kx x E D (tysOf ca) h (LaM ca h) RX10 cX10_check 7 6 136) {r0 : Int32} {Mo : Mem} (hR : Rt x D h (LaM ca h) (some .int) (some (.int r0)) Mo) {rec80 : Int32 → Int32 → Int32 → Int32 → Mem → Option (Int32 × Mem)} (ih80 : ∀ (w0 : Int32) (w1 : Int32) (w2 : Int32) (w3 : Int32) (M : Mem), rec80 w0 w1 w2 w3 M = some (r0, Mo) → Go x D (tysOf ca) h (LaM ca h) 7 M 80 [some (.ref (h 0)), none, some (.int w0), some (.int w1), some (.int w2), some (.int w3), none] []) (a0 : Int32) (a1 : Int32) (a2 : Int32) (a3 : Int32) (a4 : Int32) (M : Mem) (hf : f_X10_check_j172 rec80 a0 a1 a2 a3 a4 M = some (r0, Mo)) : Go x D (tysOf ca) h (LaM ca h) 7 M 172 [some (.ref (h 0)), none, some (.int a0), some (.int a1), none, some (.int a2), none] [.int a3, .int a4] := by
  rw [f_X10_check_j172] at hf
  refine o_iadd K dX10_check_172 ?_
  obtain ⟨x34, ex34, hf⟩ := nm_o hf
  refine o_nmi ex34 ?_
  refine o_istore K 4 [some (.ref (h 0)), none, some (.int a0), some (.int a1), some (.int x34), some (.int a2), none] dX10_check_173 (by decide) rfl rfl ?_
  obtain ⟨x35, ex35, hf⟩ := nm_o hf
  refine o_iinc K 5 x35 [some (.ref (h 0)), none, some (.int a0), some (.int a1), some (.int x34), some (.int x35), none] dX10_check_175 rfl (inc_e (by decide) ex35) (by decide) rfl rfl ?_
  refine o_goto K 80 dX10_check_178 (by decide) ?_
  exact ih80 a0 a1 x34 x35 M hf
def f_X10_check_j171 (rec80 : Int32 → Int32 → Int32 → Int32 → Mem → Option (Int32 × Mem)) (a0 : Int32) (a1 : Int32) (a2 : Int32) (a3 : Int32) (M : Mem) : Option (Int32 × Mem) := f_X10_check_j172 rec80 a0 a1 a2 (0 : Int32) a3 M
set_option maxHeartbeats 4000000 in
set_option maxRecDepth 100000 in
theorem t_X10_check_j171 {x : En} {E : Amd} {D : va_G} {ca : Nat → ClassId} {h : Nat → Nat} (K : Kx x E D (tysOf ca) h (LaM ca h) RX10 cX10_check 7 6 136) {r0 : Int32} {Mo : Mem} (hR : Rt x D h (LaM ca h) (some .int) (some (.int r0)) Mo) {rec80 : Int32 → Int32 → Int32 → Int32 → Mem → Option (Int32 × Mem)} (ih80 : ∀ (w0 : Int32) (w1 : Int32) (w2 : Int32) (w3 : Int32) (M : Mem), rec80 w0 w1 w2 w3 M = some (r0, Mo) → Go x D (tysOf ca) h (LaM ca h) 7 M 80 [some (.ref (h 0)), none, some (.int w0), some (.int w1), some (.int w2), some (.int w3), none] []) (a0 : Int32) (a1 : Int32) (a2 : Int32) (a3 : Int32) (M : Mem) (hf : f_X10_check_j171 rec80 a0 a1 a2 a3 M = some (r0, Mo)) : Go x D (tysOf ca) h (LaM ca h) 7 M 171 [some (.ref (h 0)), none, some (.int a0), some (.int a1), none, some (.int a2), none] [.int a3] := by
  rw [f_X10_check_j171] at hf
  refine o_iconst K 0 dX10_check_171 (by decide) ?_
  exact t_X10_check_j172 K hR ih80 a0 a1 a2 (0 : Int32) a3 M hf
def f_X10_check_j131 (rec80 : Int32 → Int32 → Int32 → Int32 → Mem → Option (Int32 × Mem)) (a0 : Int32) (a1 : Int32) (a2 : Int32) (a3 : Int32) (a4 : Int32) (M : Mem) : Option (Int32 × Mem) := nm (a4 + a3 : Int32) fun x27 => if x27 = (((2 : Int32) * a2) + 1) then (if a0 ≤ x27 then (f_X10_check_j171 rec80 a0 a1 a2 x27 M) else rd M 25 60 x27 fun x30 => bd (f_X10_litSet M) fun r32 => if x30 = r32 then (f_X10_check_j172 rec80 a0 a1 a2 (1 : Int32) x27 M) else f_X10_check_j171 rec80 a0 a1 a2 x27 M) else f_X10_check_j171 rec80 a0 a1 a2 x27 M
set_option maxHeartbeats 4000000 in
set_option maxRecDepth 100000 in
theorem t_X10_check_j131 {x : En} {E : Amd} {D : va_G} {ca : Nat → ClassId} {h : Nat → Nat} (K : Kx x E D (tysOf ca) h (LaM ca h) RX10 cX10_check 7 6 136) {r0 : Int32} {Mo : Mem} (hR : Rt x D h (LaM ca h) (some .int) (some (.int r0)) Mo) {rec80 : Int32 → Int32 → Int32 → Int32 → Mem → Option (Int32 × Mem)} (ih80 : ∀ (w0 : Int32) (w1 : Int32) (w2 : Int32) (w3 : Int32) (M : Mem), rec80 w0 w1 w2 w3 M = some (r0, Mo) → Go x D (tysOf ca) h (LaM ca h) 7 M 80 [some (.ref (h 0)), none, some (.int w0), some (.int w1), some (.int w2), some (.int w3), none] []) (a0 : Int32) (a1 : Int32) (a2 : Int32) (a3 : Int32) (a4 : Int32) (M : Mem) (hf : f_X10_check_j131 rec80 a0 a1 a2 a3 a4 M = some (r0, Mo)) : Go x D (tysOf ca) h (LaM ca h) 7 M 131 [some (.ref (h 0)), none, some (.int a0), some (.int a1), none, some (.int a2), none] [.int a3, .int a4] := by
  rw [f_X10_check_j131] at hf
  refine o_iadd K dX10_check_131 ?_
  obtain ⟨x27, ex27, hf⟩ := nm_o hf
  refine o_nmi ex27 ?_
  refine o_istore K 4 [some (.ref (h 0)), none, some (.int a0), some (.int a1), some (.int x27), some (.int a2), none] dX10_check_132 (by decide) rfl rfl ?_
  refine o_iload K 4 dX10_check_134 rfl ?_
  refine o_iload K 4 dX10_check_136 rfl ?_
  refine o_iconst K 2 dX10_check_138 (by decide) ?_
  refine o_iload K 5 dX10_check_139 rfl ?_
  refine o_imul K dX10_check_141 ?_
  refine o_iconst K 1 dX10_check_142 (by decide) ?_
  refine o_iadd K dX10_check_143 ?_
  refine o_icmp_ne K 171 dX10_check_144 (by decide) (fun c28 => ?_) (fun c28 => ?_)
  · have hf := im c28 hf
    refine o_drop [true, false, true, true, false, true, false] (V2 := [some (.ref (h 0)), none, some (.int a0), some (.int a1), none, some (.int a2), none]) rfl ?_
    exact t_X10_check_j171 K hR ih80 a0 a1 a2 x27 M hf
  · have hf := ip c28 hf
    refine o_iload K 4 dX10_check_147 rfl ?_
    refine o_iload_n K 2 dX10_check_149 rfl rfl ?_
    refine o_icmp_ge K 171 dX10_check_150 (by decide) (fun c29 => ?_) (fun c29 => ?_)
    · have hf := ip c29 hf
      refine o_drop [true, false, true, true, false, true, false] (V2 := [some (.ref (h 0)), none, some (.int a0), some (.int a1), none, some (.int a2), none]) rfl ?_
      exact t_X10_check_j171 K hR ih80 a0 a1 a2 x27 M hf
    · have hf := im c29 hf
      refine o_aload_n K 0 dX10_check_153 rfl rfl ?_
      refine gM_84 K dX10_check_154 ?_
      refine o_iload K 4 dX10_check_157 rfl ?_
      obtain ⟨g31, x30, ex30, hf⟩ := rd_e hf
      refine lM_25 K g31 dX10_check_159 ?_
      refine o_nmi ex30 ?_
      refine o_aload_n K 0 dX10_check_160 rfl rfl ?_
      obtain ⟨r32, er32, hf⟩ := bd_e hf
      refine o_callV K [] (k_X10_litSet x.2.1 E D ca h M er32) s_X10_170 (ltM (by decide)) rfl rfl rfl rfl ⟨by decide, by decide⟩ (Nat.le_of_ble_eq_true rfl) _ rfl dX10_check_161 ?_
      show Go x D (tysOf ca) h (LaM ca h) 7 M 164 [some (.ref (h 0)), none, some (.int a0), some (.int a1), some (.int x27), some (.int a2), none] [.int r32, .int x30, .int x27]
      refine o_icmp_ne K 171 dX10_check_164 (by decide) (fun c33 => ?_) (fun c33 => ?_)
      · have hf := im c33 hf
        refine o_drop [true, false, true, true, false, true, false] (V2 := [some (.ref (h 0)), none, some (.int a0), some (.int a1), none, some (.int a2), none]) rfl ?_
        exact t_X10_check_j171 K hR ih80 a0 a1 a2 x27 M hf
      · have hf := ip c33 hf
        refine o_iconst K 1 dX10_check_167 (by decide) ?_
        refine o_goto K 172 dX10_check_168 (by decide) ?_
        refine o_drop [true, false, true, true, false, true, false] (V2 := [some (.ref (h 0)), none, some (.int a0), some (.int a1), none, some (.int a2), none]) rfl ?_
        exact t_X10_check_j172 K hR ih80 a0 a1 a2 (1 : Int32) x27 M hf
def f_X10_check_j130 (rec80 : Int32 → Int32 → Int32 → Int32 → Mem → Option (Int32 × Mem)) (a0 : Int32) (a1 : Int32) (a2 : Int32) (a3 : Int32) (M : Mem) : Option (Int32 × Mem) := f_X10_check_j131 rec80 a0 a1 a2 (0 : Int32) a3 M
set_option maxHeartbeats 4000000 in
set_option maxRecDepth 100000 in
theorem t_X10_check_j130 {x : En} {E : Amd} {D : va_G} {ca : Nat → ClassId} {h : Nat → Nat} (K : Kx x E D (tysOf ca) h (LaM ca h) RX10 cX10_check 7 6 136) {r0 : Int32} {Mo : Mem} (hR : Rt x D h (LaM ca h) (some .int) (some (.int r0)) Mo) {rec80 : Int32 → Int32 → Int32 → Int32 → Mem → Option (Int32 × Mem)} (ih80 : ∀ (w0 : Int32) (w1 : Int32) (w2 : Int32) (w3 : Int32) (M : Mem), rec80 w0 w1 w2 w3 M = some (r0, Mo) → Go x D (tysOf ca) h (LaM ca h) 7 M 80 [some (.ref (h 0)), none, some (.int w0), some (.int w1), some (.int w2), some (.int w3), none] []) (a0 : Int32) (a1 : Int32) (a2 : Int32) (a3 : Int32) (M : Mem) (hf : f_X10_check_j130 rec80 a0 a1 a2 a3 M = some (r0, Mo)) : Go x D (tysOf ca) h (LaM ca h) 7 M 130 [some (.ref (h 0)), none, some (.int a0), some (.int a1), none, some (.int a2), none] [.int a3] := by
  rw [f_X10_check_j130] at hf
  refine o_iconst K 0 dX10_check_130 (by decide) ?_
  exact t_X10_check_j131 K hR ih80 a0 a1 a2 (0 : Int32) a3 M hf
def f_X10_check_j181 (a0 : Int32) (a1 : Int32) (a2 : Int32) (M : Mem) : Option (Int32 × Mem) := bd (f_X10_copyAll M 3 1) fun M24 => if a2 = a0 then (if a2 = a1 then (some ((0 : Int32), M24)) else some ((1 : Int32) + a2, M24)) else some ((1 : Int32) + a2, M24)
set_option maxHeartbeats 4000000 in
set_option maxRecDepth 100000 in
theorem t_X10_check_j181 {x : En} {E : Amd} {D : va_G} {ca : Nat → ClassId} {h : Nat → Nat} (K : Kx x E D (tysOf ca) h (LaM ca h) RX10 cX10_check 7 6 136) {r0 : Int32} {Mo : Mem} (hR : Rt x D h (LaM ca h) (some .int) (some (.int r0)) Mo) (a0 : Int32) (a1 : Int32) (a2 : Int32) (M : Mem) (hf : f_X10_check_j181 a0 a1 a2 M = some (r0, Mo)) : Go x D (tysOf ca) h (LaM ca h) 7 M 181 [some (.ref (h 0)), none, some (.int a0), some (.int a1), some (.int a2), none, none] [] := by
  rw [f_X10_check_j181] at hf
  refine o_aload_n K 0 dX10_check_181 rfl rfl ?_
  refine gM_16 K dX10_check_182 ?_
  refine o_aload_n K 0 dX10_check_185 rfl rfl ?_
  refine gM_9 K dX10_check_186 ?_
  obtain ⟨M24, er23, hf⟩ := bd_e hf
  refine o_callS K [.ref (h 3), .ref (h 1)] (k_X10_copyAll x.2.1 E D ca h M 3 1 (by decide) (fun _ => rfl) (by decide) (fun _ => rfl) er23) s_X10_288 rfl ⟨by decide, by decide⟩ (Nat.le_of_ble_eq_true rfl) _ rfl dX10_check_189 ?_
  show Go x D (tysOf ca) h (LaM ca h) 7 M24 192 [some (.ref (h 0)), none, some (.int a0), some (.int a1), some (.int a2), none, none] []
  refine o_iload K 4 dX10_check_192 rfl ?_
  refine o_iload_n K 2 dX10_check_194 rfl rfl ?_
  refine o_icmp_ne K 208 dX10_check_195 (by decide) (fun c25 => ?_) (fun c25 => ?_)
  · have hf := im c25 hf
    refine o_iconst K 1 dX10_check_208 (by decide) ?_
    refine o_iload K 4 dX10_check_209 rfl ?_
    refine o_iadd K dX10_check_211 ?_
    exact e_iret K hf hR dX10_check_212
  · have hf := ip c25 hf
    refine o_iload K 4 dX10_check_198 rfl ?_
    refine o_iload_n K 3 dX10_check_200 rfl rfl ?_
    refine o_icmp_ne K 208 dX10_check_201 (by decide) (fun c26 => ?_) (fun c26 => ?_)
    · have hf := im c26 hf
      refine o_iconst K 1 dX10_check_208 (by decide) ?_
      refine o_iload K 4 dX10_check_209 rfl ?_
      refine o_iadd K dX10_check_211 ?_
      exact e_iret K hf hR dX10_check_212
    · have hf := ip c26 hf
      refine o_iconst K 0 dX10_check_204 (by decide) ?_
      refine o_goto K 212 dX10_check_205 (by decide) ?_
      exact e_iret K hf hR dX10_check_212
def f_X10_check_l80 : Nat → Int32 → Int32 → Int32 → Int32 → Mem → Option (Int32 × Mem)
  | 0, _, _, _, _, _ => none
  | n + 1, a0, a1, a2, a3, M => if a1 ≤ ((2 : Int32) * a3) then (f_X10_check_j181 a0 a1 a2 M) else if a2 = ((2 : Int32) * a3) then (bd2 (f_X10_minute M) fun r16 M17 => if a0 ≤ a2 then (f_X10_check_j130 (f_X10_check_l80 n) a0 a1 a3 a2 M17) else rd M17 25 60 a2 fun x19 => bd (f_X10_sumOf M17 (0 : Int32)) fun r21 => if x19 = r21 then (f_X10_check_j131 (f_X10_check_l80 n) a0 a1 a3 (1 : Int32) a2 M17) else f_X10_check_j130 (f_X10_check_l80 n) a0 a1 a3 a2 M17) else f_X10_check_j181 a0 a1 a2 M
set_option maxHeartbeats 4000000 in
set_option maxRecDepth 100000 in
theorem t_X10_check_l80 {x : En} {E : Amd} {D : va_G} {ca : Nat → ClassId} {h : Nat → Nat} (K : Kx x E D (tysOf ca) h (LaM ca h) RX10 cX10_check 7 6 136) {r0 : Int32} {Mo : Mem} (hR : Rt x D h (LaM ca h) (some .int) (some (.int r0)) Mo) : ∀ (n : Nat) (a0 : Int32) (a1 : Int32) (a2 : Int32) (a3 : Int32) (M : Mem), f_X10_check_l80 n a0 a1 a2 a3 M = some (r0, Mo) → Go x D (tysOf ca) h (LaM ca h) 7 M 80 [some (.ref (h 0)), none, some (.int a0), some (.int a1), some (.int a2), some (.int a3), none] [] := by
  intro n
  induction n with
  | zero =>
    intro a0 a1 a2 a3 M hf
    cases hf
  | succ n ih =>
    intro a0 a1 a2 a3 M hf
    rw [f_X10_check_l80] at hf
    refine o_iconst K 2 dX10_check_80 (by decide) ?_
    refine o_iload K 5 dX10_check_81 rfl ?_
    refine o_imul K dX10_check_83 ?_
    refine o_iload_n K 3 dX10_check_84 rfl rfl ?_
    refine o_icmp_ge K 181 dX10_check_85 (by decide) (fun c14 => ?_) (fun c14 => ?_)
    · have hf := ip c14 hf
      refine o_drop [true, false, true, true, true, false, false] (V2 := [some (.ref (h 0)), none, some (.int a0), some (.int a1), some (.int a2), none, none]) rfl ?_
      exact t_X10_check_j181 K hR a0 a1 a2 M hf
    · have hf := im c14 hf
      refine o_iload K 4 dX10_check_88 rfl ?_
      refine o_iconst K 2 dX10_check_90 (by decide) ?_
      refine o_iload K 5 dX10_check_91 rfl ?_
      refine o_imul K dX10_check_93 ?_
      refine o_icmp_ne K 181 dX10_check_94 (by decide) (fun c15 => ?_) (fun c15 => ?_)
      · have hf := im c15 hf
        refine o_drop [true, false, true, true, true, false, false] (V2 := [some (.ref (h 0)), none, some (.int a0), some (.int a1), some (.int a2), none, none]) rfl ?_
        exact t_X10_check_j181 K hR a0 a1 a2 M hf
      · have hf := ip c15 hf
        refine o_aload_n K 0 dX10_check_97 rfl rfl ?_
        obtain ⟨r16, M17, er16, hf⟩ := bd2_e hf
        refine o_callV K [] (k_X10_minute x.2.1 E D ca h M er16) s_X10_161 (ltM (by decide)) rfl rfl rfl rfl ⟨by decide, by decide⟩ (Nat.le_of_ble_eq_true rfl) _ rfl dX10_check_98 ?_
        show Go x D (tysOf ca) h (LaM ca h) 7 M17 101 [some (.ref (h 0)), none, some (.int a0), some (.int a1), some (.int a2), some (.int a3), none] [.int r16]
        refine o_istore K 6 [some (.ref (h 0)), none, some (.int a0), some (.int a1), some (.int a2), some (.int a3), some (.int r16)] dX10_check_101 (by decide) rfl rfl ?_
        refine o_iload K 4 dX10_check_103 rfl ?_
        refine o_iload K 4 dX10_check_105 rfl ?_
        refine o_iload_n K 2 dX10_check_107 rfl rfl ?_
        refine o_icmp_ge K 130 dX10_check_108 (by decide) (fun c18 => ?_) (fun c18 => ?_)
        · have hf := ip c18 hf
          refine o_drop [true, false, true, true, false, true, false] (V2 := [some (.ref (h 0)), none, some (.int a0), some (.int a1), none, some (.int a3), none]) rfl ?_
          exact t_X10_check_j130 K hR ih a0 a1 a3 a2 M17 hf
        · have hf := im c18 hf
          refine o_aload_n K 0 dX10_check_111 rfl rfl ?_
          refine gM_84 K dX10_check_112 ?_
          refine o_iload K 4 dX10_check_115 rfl ?_
          obtain ⟨g20, x19, ex19, hf⟩ := rd_e hf
          refine lM_25 K g20 dX10_check_117 ?_
          refine o_nmi ex19 ?_
          refine o_aload_n K 0 dX10_check_118 rfl rfl ?_
          refine o_iconst K 0 dX10_check_119 (by decide) ?_
          obtain ⟨r21, er21, hf⟩ := bd_e hf
          refine o_callV K [.int 0] (k_X10_sumOf x.2.1 E D ca h M17 (0 : Int32) er21) s_X10_167 (ltM (by decide)) rfl rfl rfl rfl ⟨by decide, by decide⟩ (Nat.le_of_ble_eq_true rfl) _ rfl dX10_check_120 ?_
          show Go x D (tysOf ca) h (LaM ca h) 7 M17 123 [some (.ref (h 0)), none, some (.int a0), some (.int a1), some (.int a2), some (.int a3), some (.int r16)] [.int r21, .int x19, .int a2]
          refine o_icmp_ne K 130 dX10_check_123 (by decide) (fun c22 => ?_) (fun c22 => ?_)
          · have hf := im c22 hf
            refine o_drop [true, false, true, true, false, true, false] (V2 := [some (.ref (h 0)), none, some (.int a0), some (.int a1), none, some (.int a3), none]) rfl ?_
            exact t_X10_check_j130 K hR ih a0 a1 a3 a2 M17 hf
          · have hf := ip c22 hf
            refine o_iconst K 1 dX10_check_126 (by decide) ?_
            refine o_goto K 131 dX10_check_127 (by decide) ?_
            refine o_drop [true, false, true, true, false, true, false] (V2 := [some (.ref (h 0)), none, some (.int a0), some (.int a1), none, some (.int a3), none]) rfl ?_
            exact t_X10_check_j131 K hR ih a0 a1 a3 (1 : Int32) a2 M17 hf
def f_X10_check (M : Mem) (a1 : Int32) : Option (Int32 × Mem) := nm (M 0 36 : Int32) fun x1 => nm (sto M 0 36 0) fun M2 => bd (f_X10_in a1 (1 : Int32) (30 : Int32)) fun r3 => if r3 = 0 then (some (((-1000000001) : Int32), M2)) else if (M2 0 3) = 0 then (some (((-1000000002) : Int32), M2)) else bd (f_X10_copyAll M2 1 3) fun M7 => bd (f_X10_copyAll M7 2 1) fun M9 => rd M9 1 1460 2 fun x10 => bd (f_X10_within ((9999 : Int32) - x10) (0 : Int32) a1) fun r12 => nm ((2 : Int32) * r12 : Int32) fun x13 => f_X10_check_l80 FU x1 x13 (0 : Int32) (0 : Int32) M9
set_option maxHeartbeats 4000000 in
set_option maxRecDepth 100000 in
theorem k_X10_check (l : Launch) (E : Amd) (D : va_G) (ca : Nat → ClassId) (h : Nat → Nat) (M : Mem) (a1 : Int32) {r0 : Int32} {Mo : Mem} (hf : f_X10_check M a1 = some (r0, Mo)) : Ct l E D (tysOf ca) h (LaM ca h) yX10_check cX10_check 7 (some .int) 6 136 [.ref (h 0), .int a1] M (some (.int r0)) Mo := by
  refine Ct.mk [some (.ref (h 0)), some (.int a1), none, none, none, none, none] (by decide) (Nat.le_of_ble_eq_true rfl) (argsV [.ref (h 0), .int a1] 5 rfl rfl) ?_
  intro x hx0 K hR
  have K : Kx x E D (tysOf ca) h (LaM ca h) RX10 cX10_check 7 6 136 := K
  rw [f_X10_check] at hf
  refine o_aload_n K 0 dX10_check_0 rfl rfl ?_
  refine gM_281 K dX10_check_1 ?_
  obtain ⟨x1, ex1, hf⟩ := nm_o hf
  refine o_nmi ex1 ?_
  refine o_istore_n K 2 [some (.ref (h 0)), some (.int a1), some (.int x1), none, none, none, none] dX10_check_4 rfl (by decide) rfl rfl ?_
  refine o_aload_n K 0 dX10_check_5 rfl rfl ?_
  refine o_iconst K 0 dX10_check_6 (by decide) ?_
  obtain ⟨M2, eM2, hf⟩ := nm_o hf
  refine pM_281 K dX10_check_7 ?_
  refine o_nmM eM2 ?_
  refine o_iload_n K 1 dX10_check_10 rfl rfl ?_
  refine o_iconst K 1 dX10_check_11 (by decide) ?_
  refine o_bipush K 30 dX10_check_12 (by decide) ?_
  obtain ⟨r3, er3, hf⟩ := bd_e hf
  refine o_callS K [.int a1, .int 1, .int 30] (k_X10_in x.2.1 E D ca h M2 a1 (1 : Int32) (30 : Int32) er3) s_X10_87 rfl ⟨by decide, by decide⟩ (Nat.le_of_ble_eq_true rfl) _ rfl dX10_check_14 ?_
  show Go x D (tysOf ca) h (LaM ca h) 7 M2 17 [some (.ref (h 0)), some (.int a1), some (.int x1), none, none, none, none] [.int r3]
  refine o_if_ne K 23 dX10_check_17 (by decide) (fun c4 => ?_) (fun c4 => ?_)
  · have hf := im c4 hf
    refine o_aload_n K 0 dX10_check_23 rfl rfl ?_
    refine gM_284 K dX10_check_24 ?_
    refine o_if_ne K 34 dX10_check_27 (by decide) (fun c5 => ?_) (fun c5 => ?_)
    · have hf := im c5 hf
      refine o_aload_n K 0 dX10_check_34 rfl rfl ?_
      refine gM_9 K dX10_check_35 ?_
      refine o_aload_n K 0 dX10_check_38 rfl rfl ?_
      refine gM_16 K dX10_check_39 ?_
      obtain ⟨M7, er6, hf⟩ := bd_e hf
      refine o_callS K [.ref (h 1), .ref (h 3)] (k_X10_copyAll x.2.1 E D ca h M2 1 3 (by decide) (fun _ => rfl) (by decide) (fun _ => rfl) er6) s_X10_288 rfl ⟨by decide, by decide⟩ (Nat.le_of_ble_eq_true rfl) _ rfl dX10_check_42 ?_
      show Go x D (tysOf ca) h (LaM ca h) 7 M7 45 [some (.ref (h 0)), some (.int a1), some (.int x1), none, none, none, none] []
      refine o_aload_n K 0 dX10_check_45 rfl rfl ?_
      refine gM_13 K dX10_check_46 ?_
      refine o_aload_n K 0 dX10_check_49 rfl rfl ?_
      refine gM_9 K dX10_check_50 ?_
      obtain ⟨M9, er8, hf⟩ := bd_e hf
      refine o_callS K [.ref (h 2), .ref (h 1)] (k_X10_copyAll x.2.1 E D ca h M7 2 1 (by decide) (fun _ => rfl) (by decide) (fun _ => rfl) er8) s_X10_288 rfl ⟨by decide, by decide⟩ (Nat.le_of_ble_eq_true rfl) _ rfl dX10_check_53 ?_
      show Go x D (tysOf ca) h (LaM ca h) 7 M9 56 [some (.ref (h 0)), some (.int a1), some (.int x1), none, none, none, none] []
      refine o_iconst K 2 dX10_check_56 (by decide) ?_
      refine o_sipush K 9999 dX10_check_57 (by decide) ?_
      refine o_aload_n K 0 dX10_check_60 rfl rfl ?_
      refine gM_9 K dX10_check_61 ?_
      refine o_iconst K 2 dX10_check_64 (by decide) ?_
      obtain ⟨g11, x10, ex10, hf⟩ := rd_e hf
      refine lM_1 K g11 dX10_check_65 ?_
      refine o_nmi ex10 ?_
      refine o_isub K dX10_check_66 ?_
      refine o_iconst K 0 dX10_check_67 (by decide) ?_
      refine o_iload_n K 1 dX10_check_68 rfl rfl ?_
      obtain ⟨r12, er12, hf⟩ := bd_e hf
      refine o_callS K [.int ((9999 : Int32) - x10), .int 0, .int a1] (k_X10_within x.2.1 E D ca h M9 ((9999 : Int32) - x10) (0 : Int32) a1 er12) s_X10_112 rfl ⟨by decide, by decide⟩ (Nat.le_of_ble_eq_true rfl) _ rfl dX10_check_69 ?_
      show Go x D (tysOf ca) h (LaM ca h) 7 M9 72 [some (.ref (h 0)), some (.int a1), some (.int x1), none, none, none, none] [.int r12, .int 2]
      refine o_imul K dX10_check_72 ?_
      obtain ⟨x13, ex13, hf⟩ := nm_o hf
      refine o_nmi ex13 ?_
      refine o_istore_n K 3 [some (.ref (h 0)), some (.int a1), some (.int x1), some (.int x13), none, none, none] dX10_check_73 rfl (by decide) rfl rfl ?_
      refine o_iconst K 0 dX10_check_74 (by decide) ?_
      refine o_istore K 4 [some (.ref (h 0)), some (.int a1), some (.int x1), some (.int x13), some (.int 0), none, none] dX10_check_75 (by decide) rfl rfl ?_
      refine o_iconst K 0 dX10_check_77 (by decide) ?_
      refine o_istore K 5 [some (.ref (h 0)), some (.int a1), some (.int x1), some (.int x13), some (.int 0), some (.int 0), none] dX10_check_78 (by decide) rfl rfl ?_
      refine o_drop [true, false, true, true, true, true, false] (V2 := [some (.ref (h 0)), none, some (.int x1), some (.int x13), some (.int 0), some (.int 0), none]) rfl ?_
      exact t_X10_check_l80 K hR FU x1 x13 (0 : Int32) (0 : Int32) M9 hf
    · have hf := ip c5 hf
      refine o_ldcw K q1418 dX10_check_30 ?_
      exact e_iret K hf hR dX10_check_33
  · have hf := ip c4 hf
    refine o_ldc K q1102 dX10_check_20 ?_
    exact e_iret K hf hR dX10_check_22
def f_X10_keep (M : Mem) : Option (Int32 × Mem) := bd (f_X10_copyAll M 1 2) fun M2 => nm (sto M2 0 3 1) fun M3 => rd M3 1 1460 1 fun x4 => some (x4, M3)
set_option maxHeartbeats 4000000 in
set_option maxRecDepth 100000 in
theorem k_X10_keep (l : Launch) (E : Amd) (D : va_G) (ca : Nat → ClassId) (h : Nat → Nat) (M : Mem) {r0 : Int32} {Mo : Mem} (hf : f_X10_keep M = some (r0, Mo)) : Ct l E D (tysOf ca) h (LaM ca h) yX10_keep cX10_keep 1 (some .int) 1 22 [.ref (h 0)] M (some (.int r0)) Mo := by
  refine Ct.mk [some (.ref (h 0))] (by decide) (Nat.le_of_ble_eq_true rfl) (argsV [.ref (h 0)] 0 rfl rfl) ?_
  intro x hx0 K hR
  have K : Kx x E D (tysOf ca) h (LaM ca h) RX10 cX10_keep 1 1 22 := K
  rw [f_X10_keep] at hf
  refine o_aload_n K 0 dX10_keep_0 rfl rfl ?_
  refine gM_9 K dX10_keep_1 ?_
  refine o_aload_n K 0 dX10_keep_4 rfl rfl ?_
  refine gM_13 K dX10_keep_5 ?_
  obtain ⟨M2, er1, hf⟩ := bd_e hf
  refine o_callS K [.ref (h 1), .ref (h 2)] (k_X10_copyAll x.2.1 E D ca h M 1 2 (by decide) (fun _ => rfl) (by decide) (fun _ => rfl) er1) s_X10_288 rfl ⟨by decide, by decide⟩ (Nat.le_of_ble_eq_true rfl) _ rfl dX10_keep_8 ?_
  show Go x D (tysOf ca) h (LaM ca h) 1 M2 11 [some (.ref (h 0))] []
  refine o_aload_n K 0 dX10_keep_11 rfl rfl ?_
  refine o_iconst K 1 dX10_keep_12 (by decide) ?_
  obtain ⟨M3, eM3, hf⟩ := nm_o hf
  refine pM_284 K rfl rfl dX10_keep_13 ?_
  refine o_nmM eM3 ?_
  refine o_aload_n K 0 dX10_keep_16 rfl rfl ?_
  refine gM_9 K dX10_keep_17 ?_
  refine o_iconst K 1 dX10_keep_20 (by decide) ?_
  obtain ⟨g5, x4, ex4, hf⟩ := rd_e hf
  refine lM_1 K g5 dX10_keep_21 ?_
  refine o_nmi ex4 ?_
  exact e_iret K hf hR dX10_keep_22
def f_X10_back (M : Mem) : Option (Int32 × Mem) := if (M 0 3) = 0 then (some (((-1000000002) : Int32), M)) else bd (f_X10_copyAll M 2 1) fun M3 => rd M3 1 1460 1 fun x4 => some (x4, M3)
set_option maxHeartbeats 4000000 in
set_option maxRecDepth 100000 in
theorem k_X10_back (l : Launch) (E : Amd) (D : va_G) (ca : Nat → ClassId) (h : Nat → Nat) (M : Mem) {r0 : Int32} {Mo : Mem} (hf : f_X10_back M = some (r0, Mo)) : Ct l E D (tysOf ca) h (LaM ca h) yX10_back cX10_back 1 (some .int) 1 22 [.ref (h 0)] M (some (.int r0)) Mo := by
  refine Ct.mk [some (.ref (h 0))] (by decide) (Nat.le_of_ble_eq_true rfl) (argsV [.ref (h 0)] 0 rfl rfl) ?_
  intro x hx0 K hR
  have K : Kx x E D (tysOf ca) h (LaM ca h) RX10 cX10_back 1 1 22 := K
  rw [f_X10_back] at hf
  refine o_aload_n K 0 dX10_back_0 rfl rfl ?_
  refine gM_284 K dX10_back_1 ?_
  refine o_if_ne K 11 dX10_back_4 (by decide) (fun c1 => ?_) (fun c1 => ?_)
  · have hf := im c1 hf
    refine o_aload_n K 0 dX10_back_11 rfl rfl ?_
    refine gM_13 K dX10_back_12 ?_
    refine o_aload_n K 0 dX10_back_15 rfl rfl ?_
    refine gM_9 K dX10_back_16 ?_
    obtain ⟨M3, er2, hf⟩ := bd_e hf
    refine o_callS K [.ref (h 2), .ref (h 1)] (k_X10_copyAll x.2.1 E D ca h M 2 1 (by decide) (fun _ => rfl) (by decide) (fun _ => rfl) er2) s_X10_288 rfl ⟨by decide, by decide⟩ (Nat.le_of_ble_eq_true rfl) _ rfl dX10_back_19 ?_
    show Go x D (tysOf ca) h (LaM ca h) 1 M3 22 [some (.ref (h 0))] []
    refine o_aload_n K 0 dX10_back_22 rfl rfl ?_
    refine gM_9 K dX10_back_23 ?_
    refine o_iconst K 1 dX10_back_26 (by decide) ?_
    obtain ⟨g5, x4, ex4, hf⟩ := rd_e hf
    refine lM_1 K g5 dX10_back_27 ?_
    refine o_nmi ex4 ?_
    exact e_iret K hf hR dX10_back_28
  · have hf := ip c1 hf
    refine o_ldcw K q1418 dX10_back_7 ?_
    exact e_iret K hf hR dX10_back_10
def f_X10_count (M : Mem) (a1 : Int32) : Option Int32 := if a1 = 0 then (rd M 1 1460 1 fun x2 => some (x2)) else if a1 = 1 then (bd (f_X10_openSet M) fun r5 => bd (f_X10_bitsOf r5) fun r6 => some (r6)) else if a1 = 2 then (rd M 1 1460 a1 fun x8 => some (x8)) else if a1 = 3 then (rd M 1 1460 a1 fun x11 => some (x11)) else if a1 = 4 then (bd (f_X10_sumOf M (3 : Int32)) fun r14 => some (r14)) else if a1 = 5 then (rd M 1 1460 5 fun x16 => some (x16)) else if a1 = 6 then (some (M 0 36)) else if a1 = 7 then (some (M 0 10)) else if a1 = 8 then (rd M 1 1460 0 fun x21 => some (x21)) else some (((-1000000001) : Int32))
set_option maxHeartbeats 4000000 in
set_option maxRecDepth 100000 in
theorem k_X10_count (l : Launch) (E : Amd) (D : va_G) (ca : Nat → ClassId) (h : Nat → Nat) (M : Mem) (a1 : Int32) {r0 : Int32} (hf : f_X10_count M a1 = some r0) : Ct l E D (tysOf ca) h (LaM ca h) yX10_count cX10_count 2 (some .int) 2 45 [.ref (h 0), .int a1] M (some (.int r0)) M := by
  refine Ct.mk [some (.ref (h 0)), some (.int a1)] (by decide) (Nat.le_of_ble_eq_true rfl) (argsV [.ref (h 0), .int a1] 0 rfl rfl) ?_
  intro x hx0 K hR
  have K : Kx x E D (tysOf ca) h (LaM ca h) RX10 cX10_count 2 2 45 := K
  rw [f_X10_count] at hf
  refine o_iload_n K 1 dX10_count_0 rfl rfl ?_
  by_cases c1 : a1 = 0
  · have hf := ip c1 hf
    refine o_table K 52 dX10_count_1 (by decide) (by rw [c1]; try decide) (by decide) ?_
    refine o_aload_n K 0 dX10_count_52 rfl rfl ?_
    refine gM_9 K dX10_count_53 ?_
    refine o_iconst K 1 dX10_count_56 (by decide) ?_
    obtain ⟨g3, x2, ex2, hf⟩ := rd_e hf
    refine lM_1 K g3 dX10_count_57 ?_
    refine o_nmi ex2 ?_
    exact r_iret K hf hR dX10_count_58
  have hf := im c1 hf
  by_cases c4 : a1 = 1
  · have hf := ip c4 hf
    refine o_table K 59 dX10_count_1 (by decide) (by rw [c4]; try decide) (by decide) ?_
    refine o_aload_n K 0 dX10_count_59 rfl rfl ?_
    obtain ⟨r5, er5, hf⟩ := bd_e hf
    refine o_callV K [] (k_X10_openSet x.2.1 E D ca h M er5) s_X10_173 (ltM (by decide)) rfl rfl rfl rfl ⟨by decide, by decide⟩ (Nat.le_of_ble_eq_true rfl) _ rfl dX10_count_60 ?_
    show Go x D (tysOf ca) h (LaM ca h) 2 M 63 [some (.ref (h 0)), some (.int a1)] [.int r5]
    obtain ⟨r6, er6, hf⟩ := bd_e hf
    refine o_callS K [.int r5] (k_X10_bitsOf x.2.1 E D ca h M r5 er6) s_X10_187 rfl ⟨by decide, by decide⟩ (Nat.le_of_ble_eq_true rfl) _ rfl dX10_count_63 ?_
    show Go x D (tysOf ca) h (LaM ca h) 2 M 66 [some (.ref (h 0)), some (.int a1)] [.int r6]
    exact r_iret K hf hR dX10_count_66
  have hf := im c4 hf
  by_cases c7 : a1 = 2
  · have hf := ip c7 hf
    refine o_table K 67 dX10_count_1 (by decide) (by rw [c7]; try decide) (by decide) ?_
    refine o_aload_n K 0 dX10_count_67 rfl rfl ?_
    refine gM_9 K dX10_count_68 ?_
    refine o_iload_n K 1 dX10_count_71 rfl rfl ?_
    obtain ⟨g9, x8, ex8, hf⟩ := rd_e hf
    refine lM_1 K g9 dX10_count_72 ?_
    refine o_nmi ex8 ?_
    exact r_iret K hf hR dX10_count_73
  have hf := im c7 hf
  by_cases c10 : a1 = 3
  · have hf := ip c10 hf
    refine o_table K 67 dX10_count_1 (by decide) (by rw [c10]; try decide) (by decide) ?_
    refine o_aload_n K 0 dX10_count_67 rfl rfl ?_
    refine gM_9 K dX10_count_68 ?_
    refine o_iload_n K 1 dX10_count_71 rfl rfl ?_
    obtain ⟨g12, x11, ex11, hf⟩ := rd_e hf
    refine lM_1 K g12 dX10_count_72 ?_
    refine o_nmi ex11 ?_
    exact r_iret K hf hR dX10_count_73
  have hf := im c10 hf
  by_cases c13 : a1 = 4
  · have hf := ip c13 hf
    refine o_table K 74 dX10_count_1 (by decide) (by rw [c13]; try decide) (by decide) ?_
    refine o_aload_n K 0 dX10_count_74 rfl rfl ?_
    refine o_iconst K 3 dX10_count_75 (by decide) ?_
    obtain ⟨r14, er14, hf⟩ := bd_e hf
    refine o_callV K [.int 3] (k_X10_sumOf x.2.1 E D ca h M (3 : Int32) er14) s_X10_167 (ltM (by decide)) rfl rfl rfl rfl ⟨by decide, by decide⟩ (Nat.le_of_ble_eq_true rfl) _ rfl dX10_count_76 ?_
    show Go x D (tysOf ca) h (LaM ca h) 2 M 79 [some (.ref (h 0)), some (.int a1)] [.int r14]
    exact r_iret K hf hR dX10_count_79
  have hf := im c13 hf
  by_cases c15 : a1 = 5
  · have hf := ip c15 hf
    refine o_table K 80 dX10_count_1 (by decide) (by rw [c15]; try decide) (by decide) ?_
    refine o_aload_n K 0 dX10_count_80 rfl rfl ?_
    refine gM_9 K dX10_count_81 ?_
    refine o_iconst K 5 dX10_count_84 (by decide) ?_
    obtain ⟨g17, x16, ex16, hf⟩ := rd_e hf
    refine lM_1 K g17 dX10_count_85 ?_
    refine o_nmi ex16 ?_
    exact r_iret K hf hR dX10_count_86
  have hf := im c15 hf
  by_cases c18 : a1 = 6
  · have hf := ip c18 hf
    refine o_table K 87 dX10_count_1 (by decide) (by rw [c18]; try decide) (by decide) ?_
    refine o_aload_n K 0 dX10_count_87 rfl rfl ?_
    refine gM_281 K dX10_count_88 ?_
    exact r_iret K hf hR dX10_count_91
  have hf := im c18 hf
  by_cases c19 : a1 = 7
  · have hf := ip c19 hf
    refine o_table K 92 dX10_count_1 (by decide) (by rw [c19]; try decide) (by decide) ?_
    refine o_aload_n K 0 dX10_count_92 rfl rfl ?_
    refine gM_205 K dX10_count_93 ?_
    exact r_iret K hf hR dX10_count_96
  have hf := im c19 hf
  by_cases c20 : a1 = 8
  · have hf := ip c20 hf
    refine o_table K 97 dX10_count_1 (by decide) (by rw [c20]; try decide) (by decide) ?_
    refine o_aload_n K 0 dX10_count_97 rfl rfl ?_
    refine gM_9 K dX10_count_98 ?_
    refine o_iconst K 0 dX10_count_101 (by decide) ?_
    obtain ⟨g22, x21, ex21, hf⟩ := rd_e hf
    refine lM_1 K g22 dX10_count_102 ?_
    refine o_nmi ex21 ?_
    exact r_iret K hf hR dX10_count_103
  have hf := im c20 hf
  refine o_table K 104 dX10_count_1 (by decide) (tsel_d [0, 1, 2, 3, 4, 5, 6, 7, 8] (List.forall_mem_cons.mpr ⟨lv_neT c1 rfl, (List.forall_mem_cons.mpr ⟨lv_neT c4 rfl, (List.forall_mem_cons.mpr ⟨lv_neT c7 rfl, (List.forall_mem_cons.mpr ⟨lv_neT c10 rfl, (List.forall_mem_cons.mpr ⟨lv_neT c13 rfl, (List.forall_mem_cons.mpr ⟨lv_neT c15 rfl, (List.forall_mem_cons.mpr ⟨lv_neT c18 rfl, (List.forall_mem_cons.mpr ⟨lv_neT c19 rfl, (List.forall_mem_cons.mpr ⟨lv_neT c20 rfl, (List.forall_mem_nil _)⟩)⟩)⟩)⟩)⟩)⟩)⟩)⟩)⟩) (by decide)) (by decide) ?_
  refine o_ldc K q1102 dX10_count_104 ?_
  exact r_iret K hf hR dX10_count_106
