def f_X10_putsBack_l2 : Nat → Int32 → Mem → Option Mem
  | 0, _, _ => none
  | n + 1, a0, M => if 88 ≤ a0 then (some M) else rd M 8 88 a0 fun x2 => wr M 1 1460 a0 x2 fun M5 => nm (a0 + 1 : Int32) fun x6 => f_X10_putsBack_l2 n x6 M5
set_option maxHeartbeats 4000000 in
set_option maxRecDepth 100000 in
theorem t_X10_putsBack_l2 {x : En} {E : Amd} {D : va_G} {ca : Nat → ClassId} {h : Nat → Nat} (K : Kx x E D (tysOf ca) h (LaM ca h) RX10 cX10_putsBack 2 0 0) {Mo : Mem} (hR : Rt x D h (LaM ca h) none none Mo) : ∀ (n : Nat) (a0 : Int32) (M : Mem), f_X10_putsBack_l2 n a0 M = some Mo → Go x D (tysOf ca) h (LaM ca h) 2 M 2 [some (.ref (h 0)), some (.int a0)] [] := by
  intro n
  induction n with
  | zero =>
    intro a0 M hf
    cases hf
  | succ n ih =>
    intro a0 M hf
    rw [f_X10_putsBack_l2] at hf
    refine o_iload_n K 1 dX10_putsBack_2 rfl rfl ?_
    refine o_bipush K 88 dX10_putsBack_3 (by decide) ?_
    refine o_icmp_ge K 26 dX10_putsBack_5 (by decide) (fun c1 => ?_) (fun c1 => ?_)
    · have hf := ip c1 hf
      exact e_vret K hf hR dX10_putsBack_26
    · have hf := im c1 hf
      refine o_aload_n K 0 dX10_putsBack_8 rfl rfl ?_
      refine gM_9 K dX10_putsBack_9 ?_
      refine o_iload_n K 1 dX10_putsBack_12 rfl rfl ?_
      refine o_aload_n K 0 dX10_putsBack_13 rfl rfl ?_
      refine gM_31 K dX10_putsBack_14 ?_
      refine o_iload_n K 1 dX10_putsBack_17 rfl rfl ?_
      obtain ⟨g3, x2, ex2, hf⟩ := rd_e hf
      refine lM_8 K g3 dX10_putsBack_18 ?_
      refine o_nmi ex2 ?_
      obtain ⟨g4, M5, eM5, hf⟩ := wr_e hf
      refine sM_1 K g4 dX10_putsBack_19 ?_
      refine o_nmM eM5 ?_
      obtain ⟨x6, ex6, hf⟩ := nm_o hf
      refine o_iinc K 1 x6 [some (.ref (h 0)), some (.int x6)] dX10_putsBack_20 rfl (inc_e (by decide) ex6) (by decide) rfl rfl ?_
      refine o_goto K 2 dX10_putsBack_23 (by decide) ?_
      exact ih x6 M5 hf
def f_X10_putsBack (M : Mem) : Option Mem := f_X10_putsBack_l2 FU (0 : Int32) M
set_option maxHeartbeats 4000000 in
set_option maxRecDepth 100000 in
theorem k_X10_putsBack (l : Launch) (E : Amd) (D : va_G) (ca : Nat → ClassId) (h : Nat → Nat) (M : Mem) {Mo : Mem} (hf : f_X10_putsBack M = some Mo) : Ct l E D (tysOf ca) h (LaM ca h) yX10_putsBack cX10_putsBack 2 none 0 0 [.ref (h 0)] M none Mo := by
  refine Ct.mk [some (.ref (h 0)), none] (by decide) (Nat.le_of_ble_eq_true rfl) (argsV [.ref (h 0)] 1 rfl rfl) ?_
  intro x hx0 K hR
  have K : Kx x E D (tysOf ca) h (LaM ca h) RX10 cX10_putsBack 2 0 0 := K
  rw [f_X10_putsBack] at hf
  refine o_iconst K 0 dX10_putsBack_0 (by decide) ?_
  refine o_istore_n K 1 [some (.ref (h 0)), some (.int 0)] dX10_putsBack_1 rfl (by decide) rfl rfl ?_
  exact t_X10_putsBack_l2 K hR FU (0 : Int32) M hf
def f_X10_behind (M : Mem) (a1 : Int32) (a2 : Int32) (a3 : Int32) : Option (Int32 × Mem) := bd (f_X10_isRoom a1) fun r1 => if r1 = 0 then (some (((-1000000001) : Int32), M)) else bd (f_X10_in a2 (0 : Int32) (100 : Int32)) fun r3 => if r3 = 0 then (some (((-1000000001) : Int32), M)) else bd (f_X10_in a3 (0 : Int32) (3 : Int32)) fun r5 => if r5 = 0 then (some (((-1000000001) : Int32), M)) else bd (f_X10_thinks M) fun M8 => bd2 (f_X10_goesOn M8 a2) fun r9 M10 => bd (f_X10_findFlows M10) fun M12 => if a3 = 0 then (bd (f_X10_at0 M12 a1 (0 : Int32)) fun r26 => bd (f_X10_putsBack M12) fun M28 => some (r26, M28)) else if a3 = 1 then (bd (f_X10_at0 M12 a1 (2 : Int32)) fun r23 => bd (f_X10_putsBack M12) fun M25 => some (r23, M25)) else if a3 = 2 then (rd M12 5 9 a1 fun x19 => bd (f_X10_putsBack M12) fun M22 => some (x19, M22)) else bd (f_X10_at0 M12 a1 (3 : Int32)) fun r16 => bd (f_X10_putsBack M12) fun M18 => some (r16, M18)
set_option maxHeartbeats 4000000 in
set_option maxRecDepth 100000 in
theorem k_X10_behind (l : Launch) (E : Amd) (D : va_G) (ca : Nat → ClassId) (h : Nat → Nat) (M : Mem) (a1 : Int32) (a2 : Int32) (a3 : Int32) {r0 : Int32} {Mo : Mem} (hf : f_X10_behind M a1 a2 a3 = some (r0, Mo)) : Ct l E D (tysOf ca) h (LaM ca h) yX10_behind cX10_behind 6 (some .int) 7 159 [.ref (h 0), .int a1, .int a2, .int a3] M (some (.int r0)) Mo := by
  refine Ct.mk [some (.ref (h 0)), some (.int a1), some (.int a2), some (.int a3), none, none] (by decide) (Nat.le_of_ble_eq_true rfl) (argsV [.ref (h 0), .int a1, .int a2, .int a3] 2 rfl rfl) ?_
  intro x hx0 K hR
  have K : Kx x E D (tysOf ca) h (LaM ca h) RX10 cX10_behind 6 7 159 := K
  rw [f_X10_behind] at hf
  refine o_iload_n K 1 dX10_behind_0 rfl rfl ?_
  obtain ⟨r1, er1, hf⟩ := bd_e hf
  refine o_callS K [.int a1] (k_X10_isRoom x.2.1 E D ca h M a1 er1) s_X10_91 rfl ⟨by decide, by decide⟩ (Nat.le_of_ble_eq_true rfl) _ rfl dX10_behind_1 ?_
  show Go x D (tysOf ca) h (LaM ca h) 6 M 4 [some (.ref (h 0)), some (.int a1), some (.int a2), some (.int a3), none, none] [.int r1]
  refine o_if_eq K 26 dX10_behind_4 (by decide) (fun c2 => ?_) (fun c2 => ?_)
  · have hf := ip c2 hf
    refine o_ldc K q1102 dX10_behind_26 ?_
    exact e_iret K hf hR dX10_behind_28
  · have hf := im c2 hf
    refine o_iload_n K 2 dX10_behind_7 rfl rfl ?_
    refine o_iconst K 0 dX10_behind_8 (by decide) ?_
    refine o_bipush K 100 dX10_behind_9 (by decide) ?_
    obtain ⟨r3, er3, hf⟩ := bd_e hf
    refine o_callS K [.int a2, .int 0, .int 100] (k_X10_in x.2.1 E D ca h M a2 (0 : Int32) (100 : Int32) er3) s_X10_87 rfl ⟨by decide, by decide⟩ (Nat.le_of_ble_eq_true rfl) _ rfl dX10_behind_11 ?_
    show Go x D (tysOf ca) h (LaM ca h) 6 M 14 [some (.ref (h 0)), some (.int a1), some (.int a2), some (.int a3), none, none] [.int r3]
    refine o_if_eq K 26 dX10_behind_14 (by decide) (fun c4 => ?_) (fun c4 => ?_)
    · have hf := ip c4 hf
      refine o_ldc K q1102 dX10_behind_26 ?_
      exact e_iret K hf hR dX10_behind_28
    · have hf := im c4 hf
      refine o_iload_n K 3 dX10_behind_17 rfl rfl ?_
      refine o_iconst K 0 dX10_behind_18 (by decide) ?_
      refine o_iconst K 3 dX10_behind_19 (by decide) ?_
      obtain ⟨r5, er5, hf⟩ := bd_e hf
      refine o_callS K [.int a3, .int 0, .int 3] (k_X10_in x.2.1 E D ca h M a3 (0 : Int32) (3 : Int32) er5) s_X10_87 rfl ⟨by decide, by decide⟩ (Nat.le_of_ble_eq_true rfl) _ rfl dX10_behind_20 ?_
      show Go x D (tysOf ca) h (LaM ca h) 6 M 23 [some (.ref (h 0)), some (.int a1), some (.int a2), some (.int a3), none, none] [.int r5]
      refine o_if_ne K 29 dX10_behind_23 (by decide) (fun c6 => ?_) (fun c6 => ?_)
      · have hf := im c6 hf
        refine o_aload_n K 0 dX10_behind_29 rfl rfl ?_
        obtain ⟨M8, er7, hf⟩ := bd_e hf
        refine o_callV K [] (k_X10_thinks x.2.1 E D ca h M er7) s_X10_176 (ltM (by decide)) rfl rfl rfl rfl ⟨by decide, by decide⟩ (Nat.le_of_ble_eq_true rfl) _ rfl dX10_behind_30 ?_
        show Go x D (tysOf ca) h (LaM ca h) 6 M8 33 [some (.ref (h 0)), some (.int a1), some (.int a2), some (.int a3), none, none] []
        refine o_aload_n K 0 dX10_behind_33 rfl rfl ?_
        refine o_iload_n K 2 dX10_behind_34 rfl rfl ?_
        obtain ⟨r9, M10, er9, hf⟩ := bd2_e hf
        refine o_callV K [.int a2] (k_X10_goesOn x.2.1 E D ca h M8 a2 er9) s_X10_164 (ltM (by decide)) rfl rfl rfl rfl ⟨by decide, by decide⟩ (Nat.le_of_ble_eq_true rfl) _ rfl dX10_behind_35 ?_
        show Go x D (tysOf ca) h (LaM ca h) 6 M10 38 [some (.ref (h 0)), some (.int a1), some (.int a2), some (.int a3), none, none] [.int r9]
        refine o_istore K 4 [some (.ref (h 0)), some (.int a1), some (.int a2), some (.int a3), some (.int r9), none] dX10_behind_38 (by decide) rfl rfl ?_
        refine o_aload_n K 0 dX10_behind_40 rfl rfl ?_
        obtain ⟨M12, er11, hf⟩ := bd_e hf
        refine o_callV K [] (k_X10_findFlows x.2.1 E D ca h M10 er11) s_X10_144 (ltM (by decide)) rfl rfl rfl rfl ⟨by decide, by decide⟩ (Nat.le_of_ble_eq_true rfl) _ rfl dX10_behind_41 ?_
        show Go x D (tysOf ca) h (LaM ca h) 6 M12 44 [some (.ref (h 0)), some (.int a1), some (.int a2), some (.int a3), some (.int r9), none] []
        refine o_iload_n K 3 dX10_behind_44 rfl rfl ?_
        refine o_if_ne K 57 dX10_behind_45 (by decide) (fun c13 => ?_) (fun c13 => ?_)
        · have hf := im c13 hf
          refine o_iload_n K 3 dX10_behind_57 rfl rfl ?_
          refine o_iconst K 1 dX10_behind_58 (by decide) ?_
          refine o_icmp_ne K 71 dX10_behind_59 (by decide) (fun c14 => ?_) (fun c14 => ?_)
          · have hf := im c14 hf
            refine o_iload_n K 3 dX10_behind_71 rfl rfl ?_
            refine o_iconst K 2 dX10_behind_72 (by decide) ?_
            refine o_icmp_ne K 85 dX10_behind_73 (by decide) (fun c15 => ?_) (fun c15 => ?_)
            · have hf := im c15 hf
              refine o_aload_n K 0 dX10_behind_85 rfl rfl ?_
              refine o_iload_n K 1 dX10_behind_86 rfl rfl ?_
              refine o_iconst K 3 dX10_behind_87 (by decide) ?_
              obtain ⟨r16, er16, hf⟩ := bd_e hf
              refine o_callV K [.int a1, .int 3] (k_X10_at0 x.2.1 E D ca h M12 a1 (3 : Int32) er16) s_X10_116 (ltM (by decide)) rfl rfl rfl rfl ⟨by decide, by decide⟩ (Nat.le_of_ble_eq_true rfl) _ rfl dX10_behind_88 ?_
              show Go x D (tysOf ca) h (LaM ca h) 6 M12 91 [some (.ref (h 0)), some (.int a1), some (.int a2), some (.int a3), some (.int r9), none] [.int r16]
              refine o_istore K 5 [some (.ref (h 0)), some (.int a1), some (.int a2), some (.int a3), some (.int r9), some (.int r16)] dX10_behind_91 (by decide) rfl rfl ?_
              refine o_aload_n K 0 dX10_behind_93 rfl rfl ?_
              obtain ⟨M18, er17, hf⟩ := bd_e hf
              refine o_callV K [] (k_X10_putsBack x.2.1 E D ca h M12 er17) s_X10_179 (ltM (by decide)) rfl rfl rfl rfl ⟨by decide, by decide⟩ (Nat.le_of_ble_eq_true rfl) _ rfl dX10_behind_94 ?_
              show Go x D (tysOf ca) h (LaM ca h) 6 M18 97 [some (.ref (h 0)), some (.int a1), some (.int a2), some (.int a3), some (.int r9), some (.int r16)] []
              refine o_iload K 5 dX10_behind_97 rfl ?_
              exact e_iret K hf hR dX10_behind_99
            · have hf := ip c15 hf
              refine o_aload_n K 0 dX10_behind_76 rfl rfl ?_
              refine gM_22 K dX10_behind_77 ?_
              refine o_iload_n K 1 dX10_behind_80 rfl rfl ?_
              obtain ⟨g20, x19, ex19, hf⟩ := rd_e hf
              refine lM_5 K g20 dX10_behind_81 ?_
              refine o_nmi ex19 ?_
              refine o_goto K 91 dX10_behind_82 (by decide) ?_
              refine o_istore K 5 [some (.ref (h 0)), some (.int a1), some (.int a2), some (.int a3), some (.int r9), some (.int x19)] dX10_behind_91 (by decide) rfl rfl ?_
              refine o_aload_n K 0 dX10_behind_93 rfl rfl ?_
              obtain ⟨M22, er21, hf⟩ := bd_e hf
              refine o_callV K [] (k_X10_putsBack x.2.1 E D ca h M12 er21) s_X10_179 (ltM (by decide)) rfl rfl rfl rfl ⟨by decide, by decide⟩ (Nat.le_of_ble_eq_true rfl) _ rfl dX10_behind_94 ?_
              show Go x D (tysOf ca) h (LaM ca h) 6 M22 97 [some (.ref (h 0)), some (.int a1), some (.int a2), some (.int a3), some (.int r9), some (.int x19)] []
              refine o_iload K 5 dX10_behind_97 rfl ?_
              exact e_iret K hf hR dX10_behind_99
          · have hf := ip c14 hf
            refine o_aload_n K 0 dX10_behind_62 rfl rfl ?_
            refine o_iload_n K 1 dX10_behind_63 rfl rfl ?_
            refine o_iconst K 2 dX10_behind_64 (by decide) ?_
            obtain ⟨r23, er23, hf⟩ := bd_e hf
            refine o_callV K [.int a1, .int 2] (k_X10_at0 x.2.1 E D ca h M12 a1 (2 : Int32) er23) s_X10_116 (ltM (by decide)) rfl rfl rfl rfl ⟨by decide, by decide⟩ (Nat.le_of_ble_eq_true rfl) _ rfl dX10_behind_65 ?_
            show Go x D (tysOf ca) h (LaM ca h) 6 M12 68 [some (.ref (h 0)), some (.int a1), some (.int a2), some (.int a3), some (.int r9), none] [.int r23]
            refine o_goto K 91 dX10_behind_68 (by decide) ?_
            refine o_istore K 5 [some (.ref (h 0)), some (.int a1), some (.int a2), some (.int a3), some (.int r9), some (.int r23)] dX10_behind_91 (by decide) rfl rfl ?_
            refine o_aload_n K 0 dX10_behind_93 rfl rfl ?_
            obtain ⟨M25, er24, hf⟩ := bd_e hf
            refine o_callV K [] (k_X10_putsBack x.2.1 E D ca h M12 er24) s_X10_179 (ltM (by decide)) rfl rfl rfl rfl ⟨by decide, by decide⟩ (Nat.le_of_ble_eq_true rfl) _ rfl dX10_behind_94 ?_
            show Go x D (tysOf ca) h (LaM ca h) 6 M25 97 [some (.ref (h 0)), some (.int a1), some (.int a2), some (.int a3), some (.int r9), some (.int r23)] []
            refine o_iload K 5 dX10_behind_97 rfl ?_
            exact e_iret K hf hR dX10_behind_99
        · have hf := ip c13 hf
          refine o_aload_n K 0 dX10_behind_48 rfl rfl ?_
          refine o_iload_n K 1 dX10_behind_49 rfl rfl ?_
          refine o_iconst K 0 dX10_behind_50 (by decide) ?_
          obtain ⟨r26, er26, hf⟩ := bd_e hf
          refine o_callV K [.int a1, .int 0] (k_X10_at0 x.2.1 E D ca h M12 a1 (0 : Int32) er26) s_X10_116 (ltM (by decide)) rfl rfl rfl rfl ⟨by decide, by decide⟩ (Nat.le_of_ble_eq_true rfl) _ rfl dX10_behind_51 ?_
          show Go x D (tysOf ca) h (LaM ca h) 6 M12 54 [some (.ref (h 0)), some (.int a1), some (.int a2), some (.int a3), some (.int r9), none] [.int r26]
          refine o_goto K 91 dX10_behind_54 (by decide) ?_
          refine o_istore K 5 [some (.ref (h 0)), some (.int a1), some (.int a2), some (.int a3), some (.int r9), some (.int r26)] dX10_behind_91 (by decide) rfl rfl ?_
          refine o_aload_n K 0 dX10_behind_93 rfl rfl ?_
          obtain ⟨M28, er27, hf⟩ := bd_e hf
          refine o_callV K [] (k_X10_putsBack x.2.1 E D ca h M12 er27) s_X10_179 (ltM (by decide)) rfl rfl rfl rfl ⟨by decide, by decide⟩ (Nat.le_of_ble_eq_true rfl) _ rfl dX10_behind_94 ?_
          show Go x D (tysOf ca) h (LaM ca h) 6 M28 97 [some (.ref (h 0)), some (.int a1), some (.int a2), some (.int a3), some (.int r9), some (.int r26)] []
          refine o_iload K 5 dX10_behind_97 rfl ?_
          exact e_iret K hf hR dX10_behind_99
      · have hf := ip c6 hf
        refine o_ldc K q1102 dX10_behind_26 ?_
        exact e_iret K hf hR dX10_behind_28
def f_X10_isStill_l6 : Nat → Int32 → Mem → Option (Int32 × Mem)
  | 0, _, _ => none
  | n + 1, a0, M => rd M 1 1460 1 fun x3 => if x3 ≤ a0 then (some ((1 : Int32), M)) else rd M 4 10 a0 fun x6 => if x6 = 0 then (nm (a0 + 1 : Int32) fun x9 => f_X10_isStill_l6 n x9 M) else some ((0 : Int32), M)
set_option maxHeartbeats 4000000 in
set_option maxRecDepth 100000 in
theorem t_X10_isStill_l6 {x : En} {E : Amd} {D : va_G} {ca : Nat → ClassId} {h : Nat → Nat} (K : Kx x E D (tysOf ca) h (LaM ca h) RX10 cX10_isStill 2 5 114) {r0 : Int32} {Mo : Mem} (hR : Rt x D h (LaM ca h) (some .boolean) (some (.int r0)) Mo) : ∀ (n : Nat) (a0 : Int32) (M : Mem), f_X10_isStill_l6 n a0 M = some (r0, Mo) → Go x D (tysOf ca) h (LaM ca h) 2 M 6 [some (.ref (h 0)), some (.int a0)] [] := by
  intro n
  induction n with
  | zero =>
    intro a0 M hf
    cases hf
  | succ n ih =>
    intro a0 M hf
    rw [f_X10_isStill_l6] at hf
    refine o_iload_n K 1 dX10_isStill_6 rfl rfl ?_
    refine o_aload_n K 0 dX10_isStill_7 rfl rfl ?_
    refine gM_9 K dX10_isStill_8 ?_
    refine o_iconst K 1 dX10_isStill_11 (by decide) ?_
    obtain ⟨g4, x3, ex3, hf⟩ := rd_e hf
    refine lM_1 K g4 dX10_isStill_12 ?_
    refine o_nmi ex3 ?_
    refine o_icmp_ge K 33 dX10_isStill_13 (by decide) (fun c5 => ?_) (fun c5 => ?_)
    · have hf := ip c5 hf
      refine o_iconst K 1 dX10_isStill_33 (by decide) ?_
      exact e_zret K hf hR (by decide) dX10_isStill_34
    · have hf := im c5 hf
      refine o_aload_n K 0 dX10_isStill_16 rfl rfl ?_
      refine gM_19 K dX10_isStill_17 ?_
      refine o_iload_n K 1 dX10_isStill_20 rfl rfl ?_
      obtain ⟨g7, x6, ex6, hf⟩ := rd_e hf
      refine lM_4 K g7 dX10_isStill_21 ?_
      refine o_nmi ex6 ?_
      refine o_if_eq K 27 dX10_isStill_22 (by decide) (fun c8 => ?_) (fun c8 => ?_)
      · have hf := ip c8 hf
        obtain ⟨x9, ex9, hf⟩ := nm_o hf
        refine o_iinc K 1 x9 [some (.ref (h 0)), some (.int x9)] dX10_isStill_27 rfl (inc_e (by decide) ex9) (by decide) rfl rfl ?_
        refine o_goto K 6 dX10_isStill_30 (by decide) ?_
        exact ih x9 M hf
      · have hf := im c8 hf
        refine o_iconst K 0 dX10_isStill_25 (by decide) ?_
        exact e_zret K hf hR (by decide) dX10_isStill_26
def f_X10_isStill (M : Mem) : Option (Int32 × Mem) := bd (f_X10_findFlows M) fun M2 => f_X10_isStill_l6 FU (0 : Int32) M2
set_option maxHeartbeats 4000000 in
set_option maxRecDepth 100000 in
theorem k_X10_isStill (l : Launch) (E : Amd) (D : va_G) (ca : Nat → ClassId) (h : Nat → Nat) (M : Mem) {r0 : Int32} {Mo : Mem} (hf : f_X10_isStill M = some (r0, Mo)) : Ct l E D (tysOf ca) h (LaM ca h) yX10_isStill cX10_isStill 2 (some .boolean) 5 114 [.ref (h 0)] M (some (.int r0)) Mo := by
  refine Ct.mk [some (.ref (h 0)), none] (by decide) (Nat.le_of_ble_eq_true rfl) (argsV [.ref (h 0)] 1 rfl rfl) ?_
  intro x hx0 K hR
  have K : Kx x E D (tysOf ca) h (LaM ca h) RX10 cX10_isStill 2 5 114 := K
  rw [f_X10_isStill] at hf
  refine o_aload_n K 0 dX10_isStill_0 rfl rfl ?_
  obtain ⟨M2, er1, hf⟩ := bd_e hf
  refine o_callV K [] (k_X10_findFlows x.2.1 E D ca h M er1) s_X10_144 (ltM (by decide)) rfl rfl rfl rfl ⟨by decide, by decide⟩ (Nat.le_of_ble_eq_true rfl) _ rfl dX10_isStill_1 ?_
  show Go x D (tysOf ca) h (LaM ca h) 2 M2 4 [some (.ref (h 0)), none] []
  refine o_iconst K 0 dX10_isStill_4 (by decide) ?_
  refine o_istore_n K 1 [some (.ref (h 0)), some (.int 0)] dX10_isStill_5 rfl (by decide) rfl rfl ?_
  exact t_X10_isStill_l6 K hR FU (0 : Int32) M2 hf
def f_X10_still_j31 (a0 : Int32) (M : Mem) : Option (Int32 × Mem) := bd (f_X10_putsBack M) fun M11 => if 200 < a0 then (some (((-1000000005) : Int32), M11)) else some (a0, M11)
set_option maxHeartbeats 4000000 in
set_option maxRecDepth 100000 in
theorem t_X10_still_j31 {x : En} {E : Amd} {D : va_G} {ca : Nat → ClassId} {h : Nat → Nat} (K : Kx x E D (tysOf ca) h (LaM ca h) RX10 cX10_still 3 6 136) {r0 : Int32} {Mo : Mem} (hR : Rt x D h (LaM ca h) (some .int) (some (.int r0)) Mo) (a0 : Int32) (M : Mem) (hf : f_X10_still_j31 a0 M = some (r0, Mo)) : Go x D (tysOf ca) h (LaM ca h) 3 M 31 [some (.ref (h 0)), some (.int a0), none] [] := by
  rw [f_X10_still_j31] at hf
  refine o_aload_n K 0 dX10_still_31 rfl rfl ?_
  obtain ⟨M11, er10, hf⟩ := bd_e hf
  refine o_callV K [] (k_X10_putsBack x.2.1 E D ca h M er10) s_X10_179 (ltM (by decide)) rfl rfl rfl rfl ⟨by decide, by decide⟩ (Nat.le_of_ble_eq_true rfl) _ rfl dX10_still_32 ?_
  show Go x D (tysOf ca) h (LaM ca h) 3 M11 35 [some (.ref (h 0)), some (.int a0), none] []
  refine o_iload_n K 1 dX10_still_35 rfl rfl ?_
  refine o_sipush K 200 dX10_still_36 (by decide) ?_
  refine o_icmp_gt K 46 dX10_still_39 (by decide) (fun c12 => ?_) (fun c12 => ?_)
  · have hf := ip c12 hf
    refine o_ldc K q1268 dX10_still_46 ?_
    exact e_iret K hf hR dX10_still_48
  · have hf := im c12 hf
    refine o_iload_n K 1 dX10_still_42 rfl rfl ?_
    refine o_goto K 48 dX10_still_43 (by decide) ?_
    exact e_iret K hf hR dX10_still_48
def f_X10_still_l6 : Nat → Int32 → Mem → Option (Int32 × Mem)
  | 0, _, _ => none
  | n + 1, a0, M => if 200 < a0 then (f_X10_still_j31 a0 M) else bd2 (f_X10_isStill M) fun r4 M5 => if r4 = 0 then (bd2 (f_X10_minute M5) fun r7 M8 => nm (a0 + 1 : Int32) fun x9 => f_X10_still_l6 n x9 M8) else f_X10_still_j31 a0 M5
set_option maxHeartbeats 4000000 in
set_option maxRecDepth 100000 in
theorem t_X10_still_l6 {x : En} {E : Amd} {D : va_G} {ca : Nat → ClassId} {h : Nat → Nat} (K : Kx x E D (tysOf ca) h (LaM ca h) RX10 cX10_still 3 6 136) {r0 : Int32} {Mo : Mem} (hR : Rt x D h (LaM ca h) (some .int) (some (.int r0)) Mo) : ∀ (n : Nat) (a0 : Int32) (M : Mem), f_X10_still_l6 n a0 M = some (r0, Mo) → Go x D (tysOf ca) h (LaM ca h) 3 M 6 [some (.ref (h 0)), some (.int a0), none] [] := by
  intro n
  induction n with
  | zero =>
    intro a0 M hf
    cases hf
  | succ n ih =>
    intro a0 M hf
    rw [f_X10_still_l6] at hf
    refine o_iload_n K 1 dX10_still_6 rfl rfl ?_
    refine o_sipush K 200 dX10_still_7 (by decide) ?_
    refine o_icmp_gt K 31 dX10_still_10 (by decide) (fun c3 => ?_) (fun c3 => ?_)
    · have hf := ip c3 hf
      exact t_X10_still_j31 K hR a0 M hf
    · have hf := im c3 hf
      refine o_aload_n K 0 dX10_still_13 rfl rfl ?_
      obtain ⟨r4, M5, er4, hf⟩ := bd2_e hf
      refine o_callV K [] (k_X10_isStill x.2.1 E D ca h M er4) s_X10_182 (ltM (by decide)) rfl rfl rfl rfl ⟨by decide, by decide⟩ (Nat.le_of_ble_eq_true rfl) _ rfl dX10_still_14 ?_
      show Go x D (tysOf ca) h (LaM ca h) 3 M5 17 [some (.ref (h 0)), some (.int a0), none] [.int r4]
      refine o_if_ne K 31 dX10_still_17 (by decide) (fun c6 => ?_) (fun c6 => ?_)
      · have hf := im c6 hf
        exact t_X10_still_j31 K hR a0 M5 hf
      · have hf := ip c6 hf
        refine o_aload_n K 0 dX10_still_20 rfl rfl ?_
        obtain ⟨r7, M8, er7, hf⟩ := bd2_e hf
        refine o_callV K [] (k_X10_minute x.2.1 E D ca h M5 er7) s_X10_161 (ltM (by decide)) rfl rfl rfl rfl ⟨by decide, by decide⟩ (Nat.le_of_ble_eq_true rfl) _ rfl dX10_still_21 ?_
        show Go x D (tysOf ca) h (LaM ca h) 3 M8 24 [some (.ref (h 0)), some (.int a0), none] [.int r7]
        refine o_istore_n K 2 [some (.ref (h 0)), some (.int a0), some (.int r7)] dX10_still_24 rfl (by decide) rfl rfl ?_
        obtain ⟨x9, ex9, hf⟩ := nm_o hf
        refine o_iinc K 1 x9 [some (.ref (h 0)), some (.int x9), some (.int r7)] dX10_still_25 rfl (inc_e (by decide) ex9) (by decide) rfl rfl ?_
        refine o_goto K 6 dX10_still_28 (by decide) ?_
        refine o_drop [true, true, false] (V2 := [some (.ref (h 0)), some (.int x9), none]) rfl ?_
        exact ih x9 M8 hf
def f_X10_still (M : Mem) : Option (Int32 × Mem) := bd (f_X10_thinks M) fun M2 => f_X10_still_l6 FU (0 : Int32) M2
set_option maxHeartbeats 4000000 in
set_option maxRecDepth 100000 in
theorem k_X10_still (l : Launch) (E : Amd) (D : va_G) (ca : Nat → ClassId) (h : Nat → Nat) (M : Mem) {r0 : Int32} {Mo : Mem} (hf : f_X10_still M = some (r0, Mo)) : Ct l E D (tysOf ca) h (LaM ca h) yX10_still cX10_still 3 (some .int) 6 136 [.ref (h 0)] M (some (.int r0)) Mo := by
  refine Ct.mk [some (.ref (h 0)), none, none] (by decide) (Nat.le_of_ble_eq_true rfl) (argsV [.ref (h 0)] 2 rfl rfl) ?_
  intro x hx0 K hR
  have K : Kx x E D (tysOf ca) h (LaM ca h) RX10 cX10_still 3 6 136 := K
  rw [f_X10_still] at hf
  refine o_aload_n K 0 dX10_still_0 rfl rfl ?_
  obtain ⟨M2, er1, hf⟩ := bd_e hf
  refine o_callV K [] (k_X10_thinks x.2.1 E D ca h M er1) s_X10_176 (ltM (by decide)) rfl rfl rfl rfl ⟨by decide, by decide⟩ (Nat.le_of_ble_eq_true rfl) _ rfl dX10_still_1 ?_
  show Go x D (tysOf ca) h (LaM ca h) 3 M2 4 [some (.ref (h 0)), none, none] []
  refine o_iconst K 0 dX10_still_4 (by decide) ?_
  refine o_istore_n K 1 [some (.ref (h 0)), some (.int 0), none] dX10_still_5 rfl (by decide) rfl rfl ?_
  exact t_X10_still_l6 K hR FU (0 : Int32) M2 hf
def f_X10_bitsOf_l4 : Nat → Int32 → Int32 → Int32 → Option Int32
  | 0, _, _, _ => none
  | n + 1, a0, a1, a2 => if 10 ≤ a2 then (some (a1)) else nm (a1 + ((a0 >>> (a2 &&& 31)) &&& 1) : Int32) fun x2 => nm (a2 + 1 : Int32) fun x3 => f_X10_bitsOf_l4 n a0 x2 x3
set_option maxHeartbeats 4000000 in
set_option maxRecDepth 100000 in
theorem t_X10_bitsOf_l4 {x : En} {E : Amd} {D : va_G} {ca : Nat → ClassId} {h : Nat → Nat} {M : Mem} (K : Kx x E D (tysOf ca) h (LaM ca h) RX10 cX10_bitsOf 3 0 0) {r0 : Int32} (hR : Rt x D h (LaM ca h) (some .int) (some (.int r0)) M) : ∀ (n : Nat) (a0 : Int32) (a1 : Int32) (a2 : Int32), f_X10_bitsOf_l4 n a0 a1 a2 = some r0 → Go x D (tysOf ca) h (LaM ca h) 3 M 4 [some (.int a0), some (.int a1), some (.int a2)] [] := by
  intro n
  induction n with
  | zero =>
    intro a0 a1 a2 hf
    cases hf
  | succ n ih =>
    intro a0 a1 a2 hf
    rw [f_X10_bitsOf_l4] at hf
    refine o_iload_n K 2 dX10_bitsOf_4 rfl rfl ?_
    refine o_bipush K 10 dX10_bitsOf_5 (by decide) ?_
    refine o_icmp_ge K 24 dX10_bitsOf_7 (by decide) (fun c1 => ?_) (fun c1 => ?_)
    · have hf := ip c1 hf
      refine o_iload_n K 1 dX10_bitsOf_24 rfl rfl ?_
      exact r_iret K hf hR dX10_bitsOf_25
    · have hf := im c1 hf
      refine o_iload_n K 1 dX10_bitsOf_10 rfl rfl ?_
      refine o_iload_n K 0 dX10_bitsOf_11 rfl rfl ?_
      refine o_iload_n K 2 dX10_bitsOf_12 rfl rfl ?_
      refine o_ishr K dX10_bitsOf_13 ?_
      refine o_iconst K 1 dX10_bitsOf_14 (by decide) ?_
      refine o_iand K dX10_bitsOf_15 ?_
      refine o_iadd K dX10_bitsOf_16 ?_
      obtain ⟨x2, ex2, hf⟩ := nm_o hf
      refine o_nmi ex2 ?_
      refine o_istore_n K 1 [some (.int a0), some (.int x2), some (.int a2)] dX10_bitsOf_17 rfl (by decide) rfl rfl ?_
      obtain ⟨x3, ex3, hf⟩ := nm_o hf
      refine o_iinc K 2 x3 [some (.int a0), some (.int x2), some (.int x3)] dX10_bitsOf_18 rfl (inc_e (by decide) ex3) (by decide) rfl rfl ?_
      refine o_goto K 4 dX10_bitsOf_21 (by decide) ?_
      exact ih a0 x2 x3 hf
def f_X10_bitsOf (a1 : Int32) : Option Int32 := f_X10_bitsOf_l4 FU a1 (0 : Int32) (0 : Int32)
set_option maxHeartbeats 4000000 in
set_option maxRecDepth 100000 in
theorem k_X10_bitsOf (l : Launch) (E : Amd) (D : va_G) (ca : Nat → ClassId) (h : Nat → Nat) (M : Mem) (a1 : Int32) {r0 : Int32} (hf : f_X10_bitsOf a1 = some r0) : Ct l E D (tysOf ca) h (LaM ca h) yX10_bitsOf cX10_bitsOf 3 (some .int) 0 0 [.int a1] M (some (.int r0)) M := by
  refine Ct.mk [some (.int a1), none, none] (by decide) (Nat.le_of_ble_eq_true rfl) (argsV [.int a1] 2 rfl rfl) ?_
  intro x hx0 K hR
  have K : Kx x E D (tysOf ca) h (LaM ca h) RX10 cX10_bitsOf 3 0 0 := K
  rw [f_X10_bitsOf] at hf
  refine o_iconst K 0 dX10_bitsOf_0 (by decide) ?_
  refine o_istore_n K 1 [some (.int a1), some (.int 0), none] dX10_bitsOf_1 rfl (by decide) rfl rfl ?_
  refine o_iconst K 0 dX10_bitsOf_2 (by decide) ?_
  refine o_istore_n K 2 [some (.int a1), some (.int 0), some (.int 0)] dX10_bitsOf_3 rfl (by decide) rfl rfl ?_
  exact t_X10_bitsOf_l4 K hR FU a1 (0 : Int32) (0 : Int32) hf
def f_X10_isCalm_j49 (rec3 : Int32 → Int32 → Int32 → Int32 → Int32 → Mem → Option (Int32 × Mem)) (a0 : Int32) (a1 : Int32) (a2 : Int32) (a3 : Int32) (a4 : Int32) (a5 : Int32) (a6 : Int32) (M : Mem) : Option (Int32 × Mem) := wr M 1 1460 a6 a5 fun M20 => nm (a4 + 1 : Int32) fun x21 => rec3 a0 a1 a2 a3 x21 M20
set_option maxHeartbeats 4000000 in
set_option maxRecDepth 100000 in
theorem t_X10_isCalm_j49 {x : En} {E : Amd} {D : va_G} {ca : Nat → ClassId} {h : Nat → Nat} (K : Kx x E D (tysOf ca) h (LaM ca h) RX10 cX10_isCalm 8 6 136) {r0 : Int32} {Mo : Mem} (hR : Rt x D h (LaM ca h) (some .boolean) (some (.int r0)) Mo) {rec3 : Int32 → Int32 → Int32 → Int32 → Int32 → Mem → Option (Int32 × Mem)} (ih3 : ∀ (w0 : Int32) (w1 : Int32) (w2 : Int32) (w3 : Int32) (w4 : Int32) (M : Mem), rec3 w0 w1 w2 w3 w4 M = some (r0, Mo) → Go x D (tysOf ca) h (LaM ca h) 8 M 3 [some (.ref (h 0)), some (.int w0), some (.int w1), some (.int w2), some (.int w3), some (.int w4), none, none] []) (a0 : Int32) (a1 : Int32) (a2 : Int32) (a3 : Int32) (a4 : Int32) (a5 : Int32) (a6 : Int32) (M : Mem) (hf : f_X10_isCalm_j49 rec3 a0 a1 a2 a3 a4 a5 a6 M = some (r0, Mo)) : Go x D (tysOf ca) h (LaM ca h) 8 M 49 [some (.ref (h 0)), some (.int a0), some (.int a1), some (.int a2), some (.int a3), some (.int a4), none, none] [.int a5, .int a6, .ref (h 1)] := by
  rw [f_X10_isCalm_j49] at hf
  obtain ⟨g19, M20, eM20, hf⟩ := wr_e hf
  refine sM_1 K g19 dX10_isCalm_49 ?_
  refine o_nmM eM20 ?_
  obtain ⟨x21, ex21, hf⟩ := nm_o hf
  refine o_iinc K 5 x21 [some (.ref (h 0)), some (.int a0), some (.int a1), some (.int a2), some (.int a3), some (.int x21), none, none] dX10_isCalm_50 rfl (inc_e (by decide) ex21) (by decide) rfl rfl ?_
  refine o_goto K 3 dX10_isCalm_53 (by decide) ?_
  exact ih3 a0 a1 a2 a3 x21 M20 hf
def f_X10_isCalm_j92 (rec62 : Int32 → Int32 → Int32 → Int32 → Int32 → Mem → Option (Int32 × Mem)) (a0 : Int32) (a1 : Int32) (a2 : Int32) (a3 : Int32) (a4 : Int32) (M : Mem) : Option (Int32 × Mem) := bd2 (f_X10_minute M) fun r22 M23 => nm (a3 + 1 : Int32) fun x24 => rec62 a0 a1 a2 a4 x24 M23
set_option maxHeartbeats 4000000 in
set_option maxRecDepth 100000 in
theorem t_X10_isCalm_j92 {x : En} {E : Amd} {D : va_G} {ca : Nat → ClassId} {h : Nat → Nat} (K : Kx x E D (tysOf ca) h (LaM ca h) RX10 cX10_isCalm 8 6 136) {r0 : Int32} {Mo : Mem} (hR : Rt x D h (LaM ca h) (some .boolean) (some (.int r0)) Mo) {rec62 : Int32 → Int32 → Int32 → Int32 → Int32 → Mem → Option (Int32 × Mem)} (ih62 : ∀ (w0 : Int32) (w1 : Int32) (w2 : Int32) (w3 : Int32) (w4 : Int32) (M : Mem), rec62 w0 w1 w2 w3 w4 M = some (r0, Mo) → Go x D (tysOf ca) h (LaM ca h) 8 M 62 [some (.ref (h 0)), some (.int w0), some (.int w1), some (.int w2), none, some (.int w3), some (.int w4), none] []) (a0 : Int32) (a1 : Int32) (a2 : Int32) (a3 : Int32) (a4 : Int32) (M : Mem) (hf : f_X10_isCalm_j92 rec62 a0 a1 a2 a3 a4 M = some (r0, Mo)) : Go x D (tysOf ca) h (LaM ca h) 8 M 92 [some (.ref (h 0)), some (.int a0), some (.int a1), some (.int a2), none, none, some (.int a3), none] [.int a4] := by
  rw [f_X10_isCalm_j92] at hf
  refine o_istore K 5 [some (.ref (h 0)), some (.int a0), some (.int a1), some (.int a2), none, some (.int a4), some (.int a3), none] dX10_isCalm_92 (by decide) rfl rfl ?_
  refine o_aload_n K 0 dX10_isCalm_94 rfl rfl ?_
  obtain ⟨r22, M23, er22, hf⟩ := bd2_e hf
  refine o_callV K [] (k_X10_minute x.2.1 E D ca h M er22) s_X10_161 (ltM (by decide)) rfl rfl rfl rfl ⟨by decide, by decide⟩ (Nat.le_of_ble_eq_true rfl) _ rfl dX10_isCalm_95 ?_
  show Go x D (tysOf ca) h (LaM ca h) 8 M23 98 [some (.ref (h 0)), some (.int a0), some (.int a1), some (.int a2), none, some (.int a4), some (.int a3), none] [.int r22]
  refine o_istore K 7 [some (.ref (h 0)), some (.int a0), some (.int a1), some (.int a2), none, some (.int a4), some (.int a3), some (.int r22)] dX10_isCalm_98 (by decide) rfl rfl ?_
  obtain ⟨x24, ex24, hf⟩ := nm_o hf
  refine o_iinc K 6 x24 [some (.ref (h 0)), some (.int a0), some (.int a1), some (.int a2), none, some (.int a4), some (.int x24), some (.int r22)] dX10_isCalm_100 rfl (inc_e (by decide) ex24) (by decide) rfl rfl ?_
  refine o_goto K 62 dX10_isCalm_103 (by decide) ?_
  refine o_drop [true, true, true, true, false, true, true, false] (V2 := [some (.ref (h 0)), some (.int a0), some (.int a1), some (.int a2), none, some (.int a4), some (.int x24), none]) rfl ?_
  exact ih62 a0 a1 a2 a4 x24 M23 hf
def f_X10_isCalm_l62 : Nat → Int32 → Int32 → Int32 → Int32 → Int32 → Mem → Option (Int32 × Mem)
  | 0, _, _, _, _, _, _ => none
  | n + 1, a0, a1, a2, a3, a4, M => if a2 < a4 then (bd (f_X10_putsBack M) fun M8 => gd (bz a3) <| some (a3, M8)) else if a3 = 0 then (bd (f_X10_putsBack M) fun M12 => gd (bz a3) <| some (a3, M12)) else bd (f_X10_findFlows M) fun M15 => rd M15 5 9 a0 fun x16 => if a1 < x16 then (f_X10_isCalm_j92 (f_X10_isCalm_l62 n) a0 a1 a2 a4 (0 : Int32) M15) else f_X10_isCalm_j92 (f_X10_isCalm_l62 n) a0 a1 a2 a4 (1 : Int32) M15
set_option maxHeartbeats 4000000 in
set_option maxRecDepth 100000 in
theorem t_X10_isCalm_l62 {x : En} {E : Amd} {D : va_G} {ca : Nat → ClassId} {h : Nat → Nat} (K : Kx x E D (tysOf ca) h (LaM ca h) RX10 cX10_isCalm 8 6 136) {r0 : Int32} {Mo : Mem} (hR : Rt x D h (LaM ca h) (some .boolean) (some (.int r0)) Mo) : ∀ (n : Nat) (a0 : Int32) (a1 : Int32) (a2 : Int32) (a3 : Int32) (a4 : Int32) (M : Mem), f_X10_isCalm_l62 n a0 a1 a2 a3 a4 M = some (r0, Mo) → Go x D (tysOf ca) h (LaM ca h) 8 M 62 [some (.ref (h 0)), some (.int a0), some (.int a1), some (.int a2), none, some (.int a3), some (.int a4), none] [] := by
  intro n
  induction n with
  | zero =>
    intro a0 a1 a2 a3 a4 M hf
    cases hf
  | succ n ih =>
    intro a0 a1 a2 a3 a4 M hf
    rw [f_X10_isCalm_l62] at hf
    refine o_iload K 6 dX10_isCalm_62 rfl ?_
    refine o_iload_n K 3 dX10_isCalm_64 rfl rfl ?_
    refine o_icmp_gt K 106 dX10_isCalm_65 (by decide) (fun c6 => ?_) (fun c6 => ?_)
    · have hf := ip c6 hf
      refine o_aload_n K 0 dX10_isCalm_106 rfl rfl ?_
      obtain ⟨M8, er7, hf⟩ := bd_e hf
      refine o_callV K [] (k_X10_putsBack x.2.1 E D ca h M er7) s_X10_179 (ltM (by decide)) rfl rfl rfl rfl ⟨by decide, by decide⟩ (Nat.le_of_ble_eq_true rfl) _ rfl dX10_isCalm_107 ?_
      show Go x D (tysOf ca) h (LaM ca h) 8 M8 110 [some (.ref (h 0)), some (.int a0), some (.int a1), some (.int a2), none, some (.int a3), some (.int a4), none] []
      refine o_iload K 5 dX10_isCalm_110 rfl ?_
      obtain ⟨g9, hf⟩ := gd_e hf
      exact e_zret K hf hR g9 dX10_isCalm_112
    · have hf := im c6 hf
      refine o_iload K 5 dX10_isCalm_68 rfl ?_
      refine o_if_eq K 106 dX10_isCalm_70 (by decide) (fun c10 => ?_) (fun c10 => ?_)
      · have hf := ip c10 hf
        refine o_aload_n K 0 dX10_isCalm_106 rfl rfl ?_
        obtain ⟨M12, er11, hf⟩ := bd_e hf
        refine o_callV K [] (k_X10_putsBack x.2.1 E D ca h M er11) s_X10_179 (ltM (by decide)) rfl rfl rfl rfl ⟨by decide, by decide⟩ (Nat.le_of_ble_eq_true rfl) _ rfl dX10_isCalm_107 ?_
        show Go x D (tysOf ca) h (LaM ca h) 8 M12 110 [some (.ref (h 0)), some (.int a0), some (.int a1), some (.int a2), none, some (.int a3), some (.int a4), none] []
        refine o_iload K 5 dX10_isCalm_110 rfl ?_
        obtain ⟨g13, hf⟩ := gd_e hf
        exact e_zret K hf hR g13 dX10_isCalm_112
      · have hf := im c10 hf
        refine o_aload_n K 0 dX10_isCalm_73 rfl rfl ?_
        obtain ⟨M15, er14, hf⟩ := bd_e hf
        refine o_callV K [] (k_X10_findFlows x.2.1 E D ca h M er14) s_X10_144 (ltM (by decide)) rfl rfl rfl rfl ⟨by decide, by decide⟩ (Nat.le_of_ble_eq_true rfl) _ rfl dX10_isCalm_74 ?_
        show Go x D (tysOf ca) h (LaM ca h) 8 M15 77 [some (.ref (h 0)), some (.int a0), some (.int a1), some (.int a2), none, some (.int a3), some (.int a4), none] []
        refine o_aload_n K 0 dX10_isCalm_77 rfl rfl ?_
        refine gM_22 K dX10_isCalm_78 ?_
        refine o_iload_n K 1 dX10_isCalm_81 rfl rfl ?_
        obtain ⟨g17, x16, ex16, hf⟩ := rd_e hf
        refine lM_5 K g17 dX10_isCalm_82 ?_
        refine o_nmi ex16 ?_
        refine o_iload_n K 2 dX10_isCalm_83 rfl rfl ?_
        refine o_icmp_gt K 91 dX10_isCalm_84 (by decide) (fun c18 => ?_) (fun c18 => ?_)
        · have hf := ip c18 hf
          refine o_iconst K 0 dX10_isCalm_91 (by decide) ?_
          refine o_drop [true, true, true, true, false, false, true, false] (V2 := [some (.ref (h 0)), some (.int a0), some (.int a1), some (.int a2), none, none, some (.int a4), none]) rfl ?_
          exact t_X10_isCalm_j92 K hR ih a0 a1 a2 a4 (0 : Int32) M15 hf
        · have hf := im c18 hf
          refine o_iconst K 1 dX10_isCalm_87 (by decide) ?_
          refine o_goto K 92 dX10_isCalm_88 (by decide) ?_
          refine o_drop [true, true, true, true, false, false, true, false] (V2 := [some (.ref (h 0)), some (.int a0), some (.int a1), some (.int a2), none, none, some (.int a4), none]) rfl ?_
          exact t_X10_isCalm_j92 K hR ih a0 a1 a2 a4 (1 : Int32) M15 hf
def f_X10_isCalm_l3 : Nat → Int32 → Int32 → Int32 → Int32 → Int32 → Mem → Option (Int32 × Mem)
  | 0, _, _, _, _, _, _ => none
  | n + 1, a0, a1, a2, a3, a4, M => rd M 1 1460 1 fun x1 => if x1 ≤ a4 then (f_X10_isCalm_l62 FU a0 a1 a2 (1 : Int32) (0 : Int32) M) else if ((a3 >>> (a4 &&& 31)) &&& 1) = 1 then (f_X10_isCalm_j49 (f_X10_isCalm_l3 n) a0 a1 a2 a3 a4 (0 : Int32) (((38 : Int32) + ((5 : Int32) * a4)) + 4) M) else bd (f_X10_of M a4 (4 : Int32)) fun r5 => f_X10_isCalm_j49 (f_X10_isCalm_l3 n) a0 a1 a2 a3 a4 r5 (((38 : Int32) + ((5 : Int32) * a4)) + 4) M
set_option maxHeartbeats 4000000 in
set_option maxRecDepth 100000 in
theorem t_X10_isCalm_l3 {x : En} {E : Amd} {D : va_G} {ca : Nat → ClassId} {h : Nat → Nat} (K : Kx x E D (tysOf ca) h (LaM ca h) RX10 cX10_isCalm 8 6 136) {r0 : Int32} {Mo : Mem} (hR : Rt x D h (LaM ca h) (some .boolean) (some (.int r0)) Mo) : ∀ (n : Nat) (a0 : Int32) (a1 : Int32) (a2 : Int32) (a3 : Int32) (a4 : Int32) (M : Mem), f_X10_isCalm_l3 n a0 a1 a2 a3 a4 M = some (r0, Mo) → Go x D (tysOf ca) h (LaM ca h) 8 M 3 [some (.ref (h 0)), some (.int a0), some (.int a1), some (.int a2), some (.int a3), some (.int a4), none, none] [] := by
  intro n
  induction n with
  | zero =>
    intro a0 a1 a2 a3 a4 M hf
    cases hf
  | succ n ih =>
    intro a0 a1 a2 a3 a4 M hf
    rw [f_X10_isCalm_l3] at hf
    refine o_iload K 5 dX10_isCalm_3 rfl ?_
    refine o_aload_n K 0 dX10_isCalm_5 rfl rfl ?_
    refine gM_9 K dX10_isCalm_6 ?_
    refine o_iconst K 1 dX10_isCalm_9 (by decide) ?_
    obtain ⟨g2, x1, ex1, hf⟩ := rd_e hf
    refine lM_1 K g2 dX10_isCalm_10 ?_
    refine o_nmi ex1 ?_
    refine o_icmp_ge K 56 dX10_isCalm_11 (by decide) (fun c3 => ?_) (fun c3 => ?_)
    · have hf := ip c3 hf
      refine o_iconst K 1 dX10_isCalm_56 (by decide) ?_
      refine o_istore K 5 [some (.ref (h 0)), some (.int a0), some (.int a1), some (.int a2), some (.int a3), some (.int 1), none, none] dX10_isCalm_57 (by decide) rfl rfl ?_
      refine o_iconst K 0 dX10_isCalm_59 (by decide) ?_
      refine o_istore K 6 [some (.ref (h 0)), some (.int a0), some (.int a1), some (.int a2), some (.int a3), some (.int 1), some (.int 0), none] dX10_isCalm_60 (by decide) rfl rfl ?_
      refine o_drop [true, true, true, true, false, true, true, false] (V2 := [some (.ref (h 0)), some (.int a0), some (.int a1), some (.int a2), none, some (.int 1), some (.int 0), none]) rfl ?_
      exact t_X10_isCalm_l62 K hR FU a0 a1 a2 (1 : Int32) (0 : Int32) M hf
    · have hf := im c3 hf
      refine o_aload_n K 0 dX10_isCalm_14 rfl rfl ?_
      refine gM_9 K dX10_isCalm_15 ?_
      refine o_bipush K 38 dX10_isCalm_18 (by decide) ?_
      refine o_iconst K 5 dX10_isCalm_20 (by decide) ?_
      refine o_iload K 5 dX10_isCalm_21 rfl ?_
      refine o_imul K dX10_isCalm_23 ?_
      refine o_iadd K dX10_isCalm_24 ?_
      refine o_iconst K 4 dX10_isCalm_25 (by decide) ?_
      refine o_iadd K dX10_isCalm_26 ?_
      refine o_iload K 4 dX10_isCalm_27 rfl ?_
      refine o_iload K 5 dX10_isCalm_29 rfl ?_
      refine o_ishr K dX10_isCalm_31 ?_
      refine o_iconst K 1 dX10_isCalm_32 (by decide) ?_
      refine o_iand K dX10_isCalm_33 ?_
      refine o_iconst K 1 dX10_isCalm_34 (by decide) ?_
      refine o_icmp_ne K 42 dX10_isCalm_35 (by decide) (fun c4 => ?_) (fun c4 => ?_)
      · have hf := im c4 hf
        refine o_aload_n K 0 dX10_isCalm_42 rfl rfl ?_
        refine o_iload K 5 dX10_isCalm_43 rfl ?_
        refine o_iconst K 4 dX10_isCalm_45 (by decide) ?_
        obtain ⟨r5, er5, hf⟩ := bd_e hf
        refine o_callV K [.int a4, .int 4] (k_X10_of x.2.1 E D ca h M a4 (4 : Int32) er5) s_X10_101 (ltM (by decide)) rfl rfl rfl rfl ⟨by decide, by decide⟩ (Nat.le_of_ble_eq_true rfl) _ rfl dX10_isCalm_46 ?_
        show Go x D (tysOf ca) h (LaM ca h) 8 M 49 [some (.ref (h 0)), some (.int a0), some (.int a1), some (.int a2), some (.int a3), some (.int a4), none, none] [.int r5, .int (((38 : Int32) + ((5 : Int32) * a4)) + 4), .ref (h 1)]
        exact t_X10_isCalm_j49 K hR ih a0 a1 a2 a3 a4 r5 (((38 : Int32) + ((5 : Int32) * a4)) + 4) M hf
      · have hf := ip c4 hf
        refine o_iconst K 0 dX10_isCalm_38 (by decide) ?_
        refine o_goto K 49 dX10_isCalm_39 (by decide) ?_
        exact t_X10_isCalm_j49 K hR ih a0 a1 a2 a3 a4 (0 : Int32) (((38 : Int32) + ((5 : Int32) * a4)) + 4) M hf
def f_X10_isCalm (M : Mem) (a1 : Int32) (a2 : Int32) (a3 : Int32) (a4 : Int32) : Option (Int32 × Mem) := f_X10_isCalm_l3 FU a1 a2 a3 a4 (0 : Int32) M
set_option maxHeartbeats 4000000 in
set_option maxRecDepth 100000 in
theorem k_X10_isCalm (l : Launch) (E : Amd) (D : va_G) (ca : Nat → ClassId) (h : Nat → Nat) (M : Mem) (a1 : Int32) (a2 : Int32) (a3 : Int32) (a4 : Int32) {r0 : Int32} {Mo : Mem} (hf : f_X10_isCalm M a1 a2 a3 a4 = some (r0, Mo)) : Ct l E D (tysOf ca) h (LaM ca h) yX10_isCalm cX10_isCalm 8 (some .boolean) 6 136 [.ref (h 0), .int a1, .int a2, .int a3, .int a4] M (some (.int r0)) Mo := by
  refine Ct.mk [some (.ref (h 0)), some (.int a1), some (.int a2), some (.int a3), some (.int a4), none, none, none] (by decide) (Nat.le_of_ble_eq_true rfl) (argsV [.ref (h 0), .int a1, .int a2, .int a3, .int a4] 3 rfl rfl) ?_
  intro x hx0 K hR
  have K : Kx x E D (tysOf ca) h (LaM ca h) RX10 cX10_isCalm 8 6 136 := K
  rw [f_X10_isCalm] at hf
  refine o_iconst K 0 dX10_isCalm_0 (by decide) ?_
  refine o_istore K 5 [some (.ref (h 0)), some (.int a1), some (.int a2), some (.int a3), some (.int a4), some (.int 0), none, none] dX10_isCalm_1 (by decide) rfl rfl ?_
  exact t_X10_isCalm_l3 K hR FU a1 a2 a3 a4 (0 : Int32) M hf
def f_X10_birth_j121 (rec47 : Int32 → Int32 → Int32 → Int32 → Int32 → Int32 → Mem → Option (Int32 × Mem)) (a0 : Int32) (a1 : Int32) (a2 : Int32) (a3 : Int32) (a4 : Int32) (a5 : Int32) (M : Mem) : Option (Int32 × Mem) := nm (a4 + 1 : Int32) fun x22 => rec47 a0 a1 a2 a3 a5 x22 M
set_option maxHeartbeats 4000000 in
set_option maxRecDepth 100000 in
theorem t_X10_birth_j121 {x : En} {E : Amd} {D : va_G} {ca : Nat → ClassId} {h : Nat → Nat} (K : Kx x E D (tysOf ca) h (LaM ca h) RX10 cX10_birth 8 7 163) {r0 : Int32} {Mo : Mem} (hR : Rt x D h (LaM ca h) (some .int) (some (.int r0)) Mo) {rec47 : Int32 → Int32 → Int32 → Int32 → Int32 → Int32 → Mem → Option (Int32 × Mem)} (ih47 : ∀ (w0 : Int32) (w1 : Int32) (w2 : Int32) (w3 : Int32) (w4 : Int32) (w5 : Int32) (M : Mem), rec47 w0 w1 w2 w3 w4 w5 M = some (r0, Mo) → Go x D (tysOf ca) h (LaM ca h) 8 M 47 [some (.ref (h 0)), some (.int w0), some (.int w1), some (.int w2), some (.int w3), some (.int w4), some (.int w5), none] []) (a0 : Int32) (a1 : Int32) (a2 : Int32) (a3 : Int32) (a4 : Int32) (a5 : Int32) (M : Mem) (hf : f_X10_birth_j121 rec47 a0 a1 a2 a3 a4 a5 M = some (r0, Mo)) : Go x D (tysOf ca) h (LaM ca h) 8 M 121 [some (.ref (h 0)), some (.int a0), some (.int a1), some (.int a2), some (.int a3), none, some (.int a4), none] [.int a5] := by
  rw [f_X10_birth_j121] at hf
  refine o_istore K 5 [some (.ref (h 0)), some (.int a0), some (.int a1), some (.int a2), some (.int a3), some (.int a5), some (.int a4), none] dX10_birth_121 (by decide) rfl rfl ?_
  obtain ⟨x22, ex22, hf⟩ := nm_o hf
  refine o_iinc K 6 x22 [some (.ref (h 0)), some (.int a0), some (.int a1), some (.int a2), some (.int a3), some (.int a5), some (.int x22), none] dX10_birth_123 rfl (inc_e (by decide) ex22) (by decide) rfl rfl ?_
  refine o_goto K 47 dX10_birth_126 (by decide) ?_
  exact ih47 a0 a1 a2 a3 a5 x22 M hf
def f_X10_birth_j119 (rec47 : Int32 → Int32 → Int32 → Int32 → Int32 → Int32 → Mem → Option (Int32 × Mem)) (a0 : Int32) (a1 : Int32) (a2 : Int32) (a3 : Int32) (a4 : Int32) (a5 : Int32) (M : Mem) : Option (Int32 × Mem) := f_X10_birth_j121 rec47 a0 a1 a2 a3 a5 a4 M
set_option maxHeartbeats 4000000 in
set_option maxRecDepth 100000 in
theorem t_X10_birth_j119 {x : En} {E : Amd} {D : va_G} {ca : Nat → ClassId} {h : Nat → Nat} (K : Kx x E D (tysOf ca) h (LaM ca h) RX10 cX10_birth 8 7 163) {r0 : Int32} {Mo : Mem} (hR : Rt x D h (LaM ca h) (some .int) (some (.int r0)) Mo) {rec47 : Int32 → Int32 → Int32 → Int32 → Int32 → Int32 → Mem → Option (Int32 × Mem)} (ih47 : ∀ (w0 : Int32) (w1 : Int32) (w2 : Int32) (w3 : Int32) (w4 : Int32) (w5 : Int32) (M : Mem), rec47 w0 w1 w2 w3 w4 w5 M = some (r0, Mo) → Go x D (tysOf ca) h (LaM ca h) 8 M 47 [some (.ref (h 0)), some (.int w0), some (.int w1), some (.int w2), some (.int w3), some (.int w4), some (.int w5), none] []) (a0 : Int32) (a1 : Int32) (a2 : Int32) (a3 : Int32) (a4 : Int32) (a5 : Int32) (M : Mem) (hf : f_X10_birth_j119 rec47 a0 a1 a2 a3 a4 a5 M = some (r0, Mo)) : Go x D (tysOf ca) h (LaM ca h) 8 M 119 [some (.ref (h 0)), some (.int a0), some (.int a1), some (.int a2), some (.int a3), some (.int a4), some (.int a5), none] [] := by
  rw [f_X10_birth_j119] at hf
  refine o_iload K 5 dX10_birth_119 rfl ?_
  refine o_drop [true, true, true, true, true, false, true, false] (V2 := [some (.ref (h 0)), some (.int a0), some (.int a1), some (.int a2), some (.int a3), none, some (.int a5), none]) rfl ?_
  exact t_X10_birth_j121 K hR ih47 a0 a1 a2 a3 a5 a4 M hf
def f_X10_birth_j95 (rec47 : Int32 → Int32 → Int32 → Int32 → Int32 → Int32 → Mem → Option (Int32 × Mem)) (a0 : Int32) (a1 : Int32) (a2 : Int32) (a3 : Int32) (a4 : Int32) (a5 : Int32) (a6 : Int32) (M : Mem) : Option (Int32 × Mem) := if a6 = 0 then (f_X10_birth_j119 rec47 a0 a1 a2 a3 a4 a5 M) else bd2 (f_X10_isCalm M a0 a1 a2 a5) fun r19 M20 => if r19 = 0 then (f_X10_birth_j119 rec47 a0 a1 a2 a3 a4 a5 M20) else f_X10_birth_j121 rec47 a0 a1 a2 a3 a5 a5 M20
set_option maxHeartbeats 4000000 in
set_option maxRecDepth 100000 in
theorem t_X10_birth_j95 {x : En} {E : Amd} {D : va_G} {ca : Nat → ClassId} {h : Nat → Nat} (K : Kx x E D (tysOf ca) h (LaM ca h) RX10 cX10_birth 8 7 163) {r0 : Int32} {Mo : Mem} (hR : Rt x D h (LaM ca h) (some .int) (some (.int r0)) Mo) {rec47 : Int32 → Int32 → Int32 → Int32 → Int32 → Int32 → Mem → Option (Int32 × Mem)} (ih47 : ∀ (w0 : Int32) (w1 : Int32) (w2 : Int32) (w3 : Int32) (w4 : Int32) (w5 : Int32) (M : Mem), rec47 w0 w1 w2 w3 w4 w5 M = some (r0, Mo) → Go x D (tysOf ca) h (LaM ca h) 8 M 47 [some (.ref (h 0)), some (.int w0), some (.int w1), some (.int w2), some (.int w3), some (.int w4), some (.int w5), none] []) (a0 : Int32) (a1 : Int32) (a2 : Int32) (a3 : Int32) (a4 : Int32) (a5 : Int32) (a6 : Int32) (M : Mem) (hf : f_X10_birth_j95 rec47 a0 a1 a2 a3 a4 a5 a6 M = some (r0, Mo)) : Go x D (tysOf ca) h (LaM ca h) 8 M 95 [some (.ref (h 0)), some (.int a0), some (.int a1), some (.int a2), some (.int a3), some (.int a4), some (.int a5), none] [.int a6] := by
  rw [f_X10_birth_j95] at hf
  refine o_istore K 7 [some (.ref (h 0)), some (.int a0), some (.int a1), some (.int a2), some (.int a3), some (.int a4), some (.int a5), some (.int a6)] dX10_birth_95 (by decide) rfl rfl ?_
  refine o_iload K 7 dX10_birth_97 rfl ?_
  refine o_if_eq K 119 dX10_birth_99 (by decide) (fun c18 => ?_) (fun c18 => ?_)
  · have hf := ip c18 hf
    refine o_drop [true, true, true, true, true, true, true, false] (V2 := [some (.ref (h 0)), some (.int a0), some (.int a1), some (.int a2), some (.int a3), some (.int a4), some (.int a5), none]) rfl ?_
    exact t_X10_birth_j119 K hR ih47 a0 a1 a2 a3 a4 a5 M hf
  · have hf := im c18 hf
    refine o_aload_n K 0 dX10_birth_102 rfl rfl ?_
    refine o_iload_n K 1 dX10_birth_103 rfl rfl ?_
    refine o_iload_n K 2 dX10_birth_104 rfl rfl ?_
    refine o_iload_n K 3 dX10_birth_105 rfl rfl ?_
    refine o_iload K 6 dX10_birth_106 rfl ?_
    obtain ⟨r19, M20, er19, hf⟩ := bd2_e hf
    refine o_callV K [.int a0, .int a1, .int a2, .int a5] (k_X10_isCalm x.2.1 E D ca h M a0 a1 a2 a5 er19) s_X10_190 (ltM (by decide)) rfl rfl rfl rfl ⟨by decide, by decide⟩ (Nat.le_of_ble_eq_true rfl) _ rfl dX10_birth_108 ?_
    show Go x D (tysOf ca) h (LaM ca h) 8 M20 111 [some (.ref (h 0)), some (.int a0), some (.int a1), some (.int a2), some (.int a3), some (.int a4), some (.int a5), some (.int a6)] [.int r19]
    refine o_if_eq K 119 dX10_birth_111 (by decide) (fun c21 => ?_) (fun c21 => ?_)
    · have hf := ip c21 hf
      refine o_drop [true, true, true, true, true, true, true, false] (V2 := [some (.ref (h 0)), some (.int a0), some (.int a1), some (.int a2), some (.int a3), some (.int a4), some (.int a5), none]) rfl ?_
      exact t_X10_birth_j119 K hR ih47 a0 a1 a2 a3 a4 a5 M20 hf
    · have hf := im c21 hf
      refine o_iload K 6 dX10_birth_114 rfl ?_
      refine o_goto K 121 dX10_birth_116 (by decide) ?_
      refine o_drop [true, true, true, true, true, false, true, false] (V2 := [some (.ref (h 0)), some (.int a0), some (.int a1), some (.int a2), some (.int a3), none, some (.int a5), none]) rfl ?_
      exact t_X10_birth_j121 K hR ih47 a0 a1 a2 a3 a5 a5 M20 hf
def f_X10_birth_j90 (rec47 : Int32 → Int32 → Int32 → Int32 → Int32 → Int32 → Mem → Option (Int32 × Mem)) (a0 : Int32) (a1 : Int32) (a2 : Int32) (a3 : Int32) (a4 : Int32) (a5 : Int32) (M : Mem) : Option (Int32 × Mem) := f_X10_birth_j95 rec47 a0 a1 a2 a3 a4 a5 (1 : Int32) M
set_option maxHeartbeats 4000000 in
set_option maxRecDepth 100000 in
theorem t_X10_birth_j90 {x : En} {E : Amd} {D : va_G} {ca : Nat → ClassId} {h : Nat → Nat} (K : Kx x E D (tysOf ca) h (LaM ca h) RX10 cX10_birth 8 7 163) {r0 : Int32} {Mo : Mem} (hR : Rt x D h (LaM ca h) (some .int) (some (.int r0)) Mo) {rec47 : Int32 → Int32 → Int32 → Int32 → Int32 → Int32 → Mem → Option (Int32 × Mem)} (ih47 : ∀ (w0 : Int32) (w1 : Int32) (w2 : Int32) (w3 : Int32) (w4 : Int32) (w5 : Int32) (M : Mem), rec47 w0 w1 w2 w3 w4 w5 M = some (r0, Mo) → Go x D (tysOf ca) h (LaM ca h) 8 M 47 [some (.ref (h 0)), some (.int w0), some (.int w1), some (.int w2), some (.int w3), some (.int w4), some (.int w5), none] []) (a0 : Int32) (a1 : Int32) (a2 : Int32) (a3 : Int32) (a4 : Int32) (a5 : Int32) (M : Mem) (hf : f_X10_birth_j90 rec47 a0 a1 a2 a3 a4 a5 M = some (r0, Mo)) : Go x D (tysOf ca) h (LaM ca h) 8 M 90 [some (.ref (h 0)), some (.int a0), some (.int a1), some (.int a2), some (.int a3), some (.int a4), some (.int a5), none] [] := by
  rw [f_X10_birth_j90] at hf
  refine o_iconst K 1 dX10_birth_90 (by decide) ?_
  refine o_goto K 95 dX10_birth_91 (by decide) ?_
  exact t_X10_birth_j95 K hR ih47 a0 a1 a2 a3 a4 a5 (1 : Int32) M hf
def f_X10_birth_j94 (rec47 : Int32 → Int32 → Int32 → Int32 → Int32 → Int32 → Mem → Option (Int32 × Mem)) (a0 : Int32) (a1 : Int32) (a2 : Int32) (a3 : Int32) (a4 : Int32) (a5 : Int32) (M : Mem) : Option (Int32 × Mem) := f_X10_birth_j95 rec47 a0 a1 a2 a3 a4 a5 (0 : Int32) M
set_option maxHeartbeats 4000000 in
set_option maxRecDepth 100000 in
theorem t_X10_birth_j94 {x : En} {E : Amd} {D : va_G} {ca : Nat → ClassId} {h : Nat → Nat} (K : Kx x E D (tysOf ca) h (LaM ca h) RX10 cX10_birth 8 7 163) {r0 : Int32} {Mo : Mem} (hR : Rt x D h (LaM ca h) (some .int) (some (.int r0)) Mo) {rec47 : Int32 → Int32 → Int32 → Int32 → Int32 → Int32 → Mem → Option (Int32 × Mem)} (ih47 : ∀ (w0 : Int32) (w1 : Int32) (w2 : Int32) (w3 : Int32) (w4 : Int32) (w5 : Int32) (M : Mem), rec47 w0 w1 w2 w3 w4 w5 M = some (r0, Mo) → Go x D (tysOf ca) h (LaM ca h) 8 M 47 [some (.ref (h 0)), some (.int w0), some (.int w1), some (.int w2), some (.int w3), some (.int w4), some (.int w5), none] []) (a0 : Int32) (a1 : Int32) (a2 : Int32) (a3 : Int32) (a4 : Int32) (a5 : Int32) (M : Mem) (hf : f_X10_birth_j94 rec47 a0 a1 a2 a3 a4 a5 M = some (r0, Mo)) : Go x D (tysOf ca) h (LaM ca h) 8 M 94 [some (.ref (h 0)), some (.int a0), some (.int a1), some (.int a2), some (.int a3), some (.int a4), some (.int a5), none] [] := by
  rw [f_X10_birth_j94] at hf
  refine o_iconst K 0 dX10_birth_94 (by decide) ?_
  exact t_X10_birth_j95 K hR ih47 a0 a1 a2 a3 a4 a5 (0 : Int32) M hf
def f_X10_birth_l47 : Nat → Int32 → Int32 → Int32 → Int32 → Int32 → Int32 → Mem → Option (Int32 × Mem)
  | 0, _, _, _, _, _, _, _ => none
  | n + 1, a0, a1, a2, a3, a4, a5, M => rd M 1 1460 1 fun x10 => if ((1 : Int32) <<< (x10 &&& 31)) ≤ a5 then (some (a4, M)) else if (a5 &&& (a3 ^^^ (-1))) = 0 then (if a4 = (-1000000005) then (f_X10_birth_j90 (f_X10_birth_l47 n) a0 a1 a2 a3 a4 a5 M) else bd (f_X10_bitsOf a5) fun r15 => bd (f_X10_bitsOf a4) fun r16 => if r16 ≤ r15 then (f_X10_birth_j94 (f_X10_birth_l47 n) a0 a1 a2 a3 a4 a5 M) else f_X10_birth_j90 (f_X10_birth_l47 n) a0 a1 a2 a3 a4 a5 M) else f_X10_birth_j94 (f_X10_birth_l47 n) a0 a1 a2 a3 a4 a5 M
set_option maxHeartbeats 4000000 in
set_option maxRecDepth 100000 in
theorem t_X10_birth_l47 {x : En} {E : Amd} {D : va_G} {ca : Nat → ClassId} {h : Nat → Nat} (K : Kx x E D (tysOf ca) h (LaM ca h) RX10 cX10_birth 8 7 163) {r0 : Int32} {Mo : Mem} (hR : Rt x D h (LaM ca h) (some .int) (some (.int r0)) Mo) : ∀ (n : Nat) (a0 : Int32) (a1 : Int32) (a2 : Int32) (a3 : Int32) (a4 : Int32) (a5 : Int32) (M : Mem), f_X10_birth_l47 n a0 a1 a2 a3 a4 a5 M = some (r0, Mo) → Go x D (tysOf ca) h (LaM ca h) 8 M 47 [some (.ref (h 0)), some (.int a0), some (.int a1), some (.int a2), some (.int a3), some (.int a4), some (.int a5), none] [] := by
  intro n
  induction n with
  | zero =>
    intro a0 a1 a2 a3 a4 a5 M hf
    cases hf
  | succ n ih =>
    intro a0 a1 a2 a3 a4 a5 M hf
    rw [f_X10_birth_l47] at hf
    refine o_iload K 6 dX10_birth_47 rfl ?_
    refine o_iconst K 1 dX10_birth_49 (by decide) ?_
    refine o_aload_n K 0 dX10_birth_50 rfl rfl ?_
    refine gM_9 K dX10_birth_51 ?_
    refine o_iconst K 1 dX10_birth_54 (by decide) ?_
    obtain ⟨g11, x10, ex10, hf⟩ := rd_e hf
    refine lM_1 K g11 dX10_birth_55 ?_
    refine o_nmi ex10 ?_
    refine o_ishl K dX10_birth_56 ?_
    refine o_icmp_ge K 129 dX10_birth_57 (by decide) (fun c12 => ?_) (fun c12 => ?_)
    · have hf := ip c12 hf
      refine o_iload K 5 dX10_birth_129 rfl ?_
      exact e_iret K hf hR dX10_birth_131
    · have hf := im c12 hf
      refine o_iload K 6 dX10_birth_60 rfl ?_
      refine o_iload K 4 dX10_birth_62 rfl ?_
      refine o_iconst K (-1) dX10_birth_64 (by decide) ?_
      refine o_ixor K dX10_birth_65 ?_
      refine o_iand K dX10_birth_66 ?_
      refine o_if_ne K 94 dX10_birth_67 (by decide) (fun c13 => ?_) (fun c13 => ?_)
      · have hf := im c13 hf
        exact t_X10_birth_j94 K hR ih a0 a1 a2 a3 a4 a5 M hf
      · have hf := ip c13 hf
        refine o_iload K 5 dX10_birth_70 rfl ?_
        refine o_ldc K q1268 dX10_birth_72 ?_
        refine o_icmp_eq K 90 dX10_birth_74 (by decide) (fun c14 => ?_) (fun c14 => ?_)
        · have hf := ip c14 hf
          exact t_X10_birth_j90 K hR ih a0 a1 a2 a3 a4 a5 M hf
        · have hf := im c14 hf
          refine o_iload K 6 dX10_birth_77 rfl ?_
          obtain ⟨r15, er15, hf⟩ := bd_e hf
          refine o_callS K [.int a5] (k_X10_bitsOf x.2.1 E D ca h M a5 er15) s_X10_187 rfl ⟨by decide, by decide⟩ (Nat.le_of_ble_eq_true rfl) _ rfl dX10_birth_79 ?_
          show Go x D (tysOf ca) h (LaM ca h) 8 M 82 [some (.ref (h 0)), some (.int a0), some (.int a1), some (.int a2), some (.int a3), some (.int a4), some (.int a5), none] [.int r15]
          refine o_iload K 5 dX10_birth_82 rfl ?_
          obtain ⟨r16, er16, hf⟩ := bd_e hf
          refine o_callS K [.int a4] (k_X10_bitsOf x.2.1 E D ca h M a4 er16) s_X10_187 rfl ⟨by decide, by decide⟩ (Nat.le_of_ble_eq_true rfl) _ rfl dX10_birth_84 ?_
          show Go x D (tysOf ca) h (LaM ca h) 8 M 87 [some (.ref (h 0)), some (.int a0), some (.int a1), some (.int a2), some (.int a3), some (.int a4), some (.int a5), none] [.int r16, .int r15]
          refine o_icmp_ge K 94 dX10_birth_87 (by decide) (fun c17 => ?_) (fun c17 => ?_)
          · have hf := ip c17 hf
            exact t_X10_birth_j94 K hR ih a0 a1 a2 a3 a4 a5 M hf
          · have hf := im c17 hf
            exact t_X10_birth_j90 K hR ih a0 a1 a2 a3 a4 a5 M hf
def f_X10_birth (M : Mem) (a1 : Int32) (a2 : Int32) (a3 : Int32) : Option (Int32 × Mem) := bd (f_X10_isRoom a1) fun r1 => if r1 = 0 then (some (((-1000000001) : Int32), M)) else bd (f_X10_in a2 (0 : Int32) (999 : Int32)) fun r3 => if r3 = 0 then (some (((-1000000001) : Int32), M)) else bd (f_X10_in a3 (0 : Int32) (5 : Int32)) fun r5 => if r5 = 0 then (some (((-1000000001) : Int32), M)) else bd (f_X10_thinks M) fun M8 => bd (f_X10_openSet M8) fun r9 => f_X10_birth_l47 FU a1 a2 a3 r9 ((-1000000005) : Int32) (0 : Int32) M8
set_option maxHeartbeats 4000000 in
set_option maxRecDepth 100000 in
theorem k_X10_birth (l : Launch) (E : Amd) (D : va_G) (ca : Nat → ClassId) (h : Nat → Nat) (M : Mem) (a1 : Int32) (a2 : Int32) (a3 : Int32) {r0 : Int32} {Mo : Mem} (hf : f_X10_birth M a1 a2 a3 = some (r0, Mo)) : Ct l E D (tysOf ca) h (LaM ca h) yX10_birth cX10_birth 8 (some .int) 7 163 [.ref (h 0), .int a1, .int a2, .int a3] M (some (.int r0)) Mo := by
  refine Ct.mk [some (.ref (h 0)), some (.int a1), some (.int a2), some (.int a3), none, none, none, none] (by decide) (Nat.le_of_ble_eq_true rfl) (argsV [.ref (h 0), .int a1, .int a2, .int a3] 4 rfl rfl) ?_
  intro x hx0 K hR
  have K : Kx x E D (tysOf ca) h (LaM ca h) RX10 cX10_birth 8 7 163 := K
  rw [f_X10_birth] at hf
  refine o_iload_n K 1 dX10_birth_0 rfl rfl ?_
  obtain ⟨r1, er1, hf⟩ := bd_e hf
  refine o_callS K [.int a1] (k_X10_isRoom x.2.1 E D ca h M a1 er1) s_X10_91 rfl ⟨by decide, by decide⟩ (Nat.le_of_ble_eq_true rfl) _ rfl dX10_birth_1 ?_
  show Go x D (tysOf ca) h (LaM ca h) 8 M 4 [some (.ref (h 0)), some (.int a1), some (.int a2), some (.int a3), none, none, none, none] [.int r1]
  refine o_if_eq K 27 dX10_birth_4 (by decide) (fun c2 => ?_) (fun c2 => ?_)
  · have hf := ip c2 hf
    refine o_ldc K q1102 dX10_birth_27 ?_
    exact e_iret K hf hR dX10_birth_29
  · have hf := im c2 hf
    refine o_iload_n K 2 dX10_birth_7 rfl rfl ?_
    refine o_iconst K 0 dX10_birth_8 (by decide) ?_
    refine o_sipush K 999 dX10_birth_9 (by decide) ?_
    obtain ⟨r3, er3, hf⟩ := bd_e hf
    refine o_callS K [.int a2, .int 0, .int 999] (k_X10_in x.2.1 E D ca h M a2 (0 : Int32) (999 : Int32) er3) s_X10_87 rfl ⟨by decide, by decide⟩ (Nat.le_of_ble_eq_true rfl) _ rfl dX10_birth_12 ?_
    show Go x D (tysOf ca) h (LaM ca h) 8 M 15 [some (.ref (h 0)), some (.int a1), some (.int a2), some (.int a3), none, none, none, none] [.int r3]
    refine o_if_eq K 27 dX10_birth_15 (by decide) (fun c4 => ?_) (fun c4 => ?_)
    · have hf := ip c4 hf
      refine o_ldc K q1102 dX10_birth_27 ?_
      exact e_iret K hf hR dX10_birth_29
    · have hf := im c4 hf
      refine o_iload_n K 3 dX10_birth_18 rfl rfl ?_
      refine o_iconst K 0 dX10_birth_19 (by decide) ?_
      refine o_iconst K 5 dX10_birth_20 (by decide) ?_
      obtain ⟨r5, er5, hf⟩ := bd_e hf
      refine o_callS K [.int a3, .int 0, .int 5] (k_X10_in x.2.1 E D ca h M a3 (0 : Int32) (5 : Int32) er5) s_X10_87 rfl ⟨by decide, by decide⟩ (Nat.le_of_ble_eq_true rfl) _ rfl dX10_birth_21 ?_
      show Go x D (tysOf ca) h (LaM ca h) 8 M 24 [some (.ref (h 0)), some (.int a1), some (.int a2), some (.int a3), none, none, none, none] [.int r5]
      refine o_if_ne K 30 dX10_birth_24 (by decide) (fun c6 => ?_) (fun c6 => ?_)
      · have hf := im c6 hf
        refine o_aload_n K 0 dX10_birth_30 rfl rfl ?_
        obtain ⟨M8, er7, hf⟩ := bd_e hf
        refine o_callV K [] (k_X10_thinks x.2.1 E D ca h M er7) s_X10_176 (ltM (by decide)) rfl rfl rfl rfl ⟨by decide, by decide⟩ (Nat.le_of_ble_eq_true rfl) _ rfl dX10_birth_31 ?_
        show Go x D (tysOf ca) h (LaM ca h) 8 M8 34 [some (.ref (h 0)), some (.int a1), some (.int a2), some (.int a3), none, none, none, none] []
        refine o_aload_n K 0 dX10_birth_34 rfl rfl ?_
        obtain ⟨r9, er9, hf⟩ := bd_e hf
        refine o_callV K [] (k_X10_openSet x.2.1 E D ca h M8 er9) s_X10_173 (ltM (by decide)) rfl rfl rfl rfl ⟨by decide, by decide⟩ (Nat.le_of_ble_eq_true rfl) _ rfl dX10_birth_35 ?_
        show Go x D (tysOf ca) h (LaM ca h) 8 M8 38 [some (.ref (h 0)), some (.int a1), some (.int a2), some (.int a3), none, none, none, none] [.int r9]
        refine o_istore K 4 [some (.ref (h 0)), some (.int a1), some (.int a2), some (.int a3), some (.int r9), none, none, none] dX10_birth_38 (by decide) rfl rfl ?_
        refine o_ldc K q1268 dX10_birth_40 ?_
        refine o_istore K 5 [some (.ref (h 0)), some (.int a1), some (.int a2), some (.int a3), some (.int r9), some (.int (-1000000005)), none, none] dX10_birth_42 (by decide) rfl rfl ?_
        refine o_iconst K 0 dX10_birth_44 (by decide) ?_
        refine o_istore K 6 [some (.ref (h 0)), some (.int a1), some (.int a2), some (.int a3), some (.int r9), some (.int (-1000000005)), some (.int 0), none] dX10_birth_45 (by decide) rfl rfl ?_
        exact t_X10_birth_l47 K hR FU a1 a2 a3 r9 ((-1000000005) : Int32) (0 : Int32) M8 hf
      · have hf := ip c6 hf
        refine o_ldc K q1102 dX10_birth_27 ?_
        exact e_iret K hf hR dX10_birth_29
def f_X10_smells_j56 (rec26 : Int32 → Int32 → Int32 → Mem → Option (Int32 × Mem)) (a0 : Int32) (a1 : Int32) (a2 : Int32) (a3 : Int32) (a4 : Int32) (M : Mem) : Option (Int32 × Mem) := wr M 1 1460 a4 a3 fun M17 => nm (a2 + 1 : Int32) fun x18 => rec26 a0 a1 x18 M17
set_option maxHeartbeats 4000000 in
set_option maxRecDepth 100000 in
theorem t_X10_smells_j56 {x : En} {E : Amd} {D : va_G} {ca : Nat → ClassId} {h : Nat → Nat} (K : Kx x E D (tysOf ca) h (LaM ca h) RX10 cX10_smells 6 7 159) {r0 : Int32} {Mo : Mem} (hR : Rt x D h (LaM ca h) (some .int) (some (.int r0)) Mo) {rec26 : Int32 → Int32 → Int32 → Mem → Option (Int32 × Mem)} (ih26 : ∀ (w0 : Int32) (w1 : Int32) (w2 : Int32) (M : Mem), rec26 w0 w1 w2 M = some (r0, Mo) → Go x D (tysOf ca) h (LaM ca h) 6 M 26 [some (.ref (h 0)), some (.int w0), some (.int w1), some (.int w2), none, none] []) (a0 : Int32) (a1 : Int32) (a2 : Int32) (a3 : Int32) (a4 : Int32) (M : Mem) (hf : f_X10_smells_j56 rec26 a0 a1 a2 a3 a4 M = some (r0, Mo)) : Go x D (tysOf ca) h (LaM ca h) 6 M 56 [some (.ref (h 0)), some (.int a0), some (.int a1), some (.int a2), none, none] [.int a3, .int a4, .ref (h 1)] := by
  rw [f_X10_smells_j56] at hf
  obtain ⟨g16, M17, eM17, hf⟩ := wr_e hf
  refine sM_1 K g16 dX10_smells_56 ?_
  refine o_nmM eM17 ?_
  obtain ⟨x18, ex18, hf⟩ := nm_o hf
  refine o_iinc K 3 x18 [some (.ref (h 0)), some (.int a0), some (.int a1), some (.int x18), none, none] dX10_smells_57 rfl (inc_e (by decide) ex18) (by decide) rfl rfl ?_
  refine o_goto K 26 dX10_smells_60 (by decide) ?_
  exact ih26 a0 a1 x18 M17 hf
def f_X10_smells_j102 (rec75 : Int32 → Int32 → Mem → Option (Int32 × Mem)) (a0 : Int32) (a1 : Int32) (a2 : Int32) (M : Mem) : Option (Int32 × Mem) := nm (a2 ||| a1 : Int32) fun x19 => nm (a0 + 1 : Int32) fun x20 => rec75 x19 x20 M
set_option maxHeartbeats 4000000 in
set_option maxRecDepth 100000 in
theorem t_X10_smells_j102 {x : En} {E : Amd} {D : va_G} {ca : Nat → ClassId} {h : Nat → Nat} (K : Kx x E D (tysOf ca) h (LaM ca h) RX10 cX10_smells 6 7 159) {r0 : Int32} {Mo : Mem} (hR : Rt x D h (LaM ca h) (some .int) (some (.int r0)) Mo) {rec75 : Int32 → Int32 → Mem → Option (Int32 × Mem)} (ih75 : ∀ (w0 : Int32) (w1 : Int32) (M : Mem), rec75 w0 w1 M = some (r0, Mo) → Go x D (tysOf ca) h (LaM ca h) 6 M 75 [some (.ref (h 0)), none, none, none, some (.int w0), some (.int w1)] []) (a0 : Int32) (a1 : Int32) (a2 : Int32) (M : Mem) (hf : f_X10_smells_j102 rec75 a0 a1 a2 M = some (r0, Mo)) : Go x D (tysOf ca) h (LaM ca h) 6 M 102 [some (.ref (h 0)), none, none, none, none, some (.int a0)] [.int a1, .int a2] := by
  rw [f_X10_smells_j102] at hf
  refine o_ior K dX10_smells_102 ?_
  obtain ⟨x19, ex19, hf⟩ := nm_o hf
  refine o_nmi ex19 ?_
  refine o_istore K 4 [some (.ref (h 0)), none, none, none, some (.int x19), some (.int a0)] dX10_smells_103 (by decide) rfl rfl ?_
  obtain ⟨x20, ex20, hf⟩ := nm_o hf
  refine o_iinc K 5 x20 [some (.ref (h 0)), none, none, none, some (.int x19), some (.int x20)] dX10_smells_105 rfl (inc_e (by decide) ex20) (by decide) rfl rfl ?_
  refine o_goto K 75 dX10_smells_108 (by decide) ?_
  exact ih75 x19 x20 M hf
def f_X10_smells_l75 : Nat → Int32 → Int32 → Mem → Option (Int32 × Mem)
  | 0, _, _, _ => none
  | n + 1, a0, a1, M => if 8 ≤ a1 then (bd (f_X10_putsBack M) fun M13 => some (a0, M13)) else bd (f_X10_at0 M a1 (2 : Int32)) fun r14 => if r14 ≤ 0 then (f_X10_smells_j102 (f_X10_smells_l75 n) a1 (0 : Int32) a0 M) else f_X10_smells_j102 (f_X10_smells_l75 n) a1 ((1 : Int32) <<< (a1 &&& 31)) a0 M
set_option maxHeartbeats 4000000 in
set_option maxRecDepth 100000 in
theorem t_X10_smells_l75 {x : En} {E : Amd} {D : va_G} {ca : Nat → ClassId} {h : Nat → Nat} (K : Kx x E D (tysOf ca) h (LaM ca h) RX10 cX10_smells 6 7 159) {r0 : Int32} {Mo : Mem} (hR : Rt x D h (LaM ca h) (some .int) (some (.int r0)) Mo) : ∀ (n : Nat) (a0 : Int32) (a1 : Int32) (M : Mem), f_X10_smells_l75 n a0 a1 M = some (r0, Mo) → Go x D (tysOf ca) h (LaM ca h) 6 M 75 [some (.ref (h 0)), none, none, none, some (.int a0), some (.int a1)] [] := by
  intro n
  induction n with
  | zero =>
    intro a0 a1 M hf
    cases hf
  | succ n ih =>
    intro a0 a1 M hf
    rw [f_X10_smells_l75] at hf
    refine o_iload K 5 dX10_smells_75 rfl ?_
    refine o_bipush K 8 dX10_smells_77 (by decide) ?_
    refine o_icmp_ge K 111 dX10_smells_79 (by decide) (fun c11 => ?_) (fun c11 => ?_)
    · have hf := ip c11 hf
      refine o_aload_n K 0 dX10_smells_111 rfl rfl ?_
      obtain ⟨M13, er12, hf⟩ := bd_e hf
      refine o_callV K [] (k_X10_putsBack x.2.1 E D ca h M er12) s_X10_179 (ltM (by decide)) rfl rfl rfl rfl ⟨by decide, by decide⟩ (Nat.le_of_ble_eq_true rfl) _ rfl dX10_smells_112 ?_
      show Go x D (tysOf ca) h (LaM ca h) 6 M13 115 [some (.ref (h 0)), none, none, none, some (.int a0), some (.int a1)] []
      refine o_iload K 4 dX10_smells_115 rfl ?_
      exact e_iret K hf hR dX10_smells_117
    · have hf := im c11 hf
      refine o_iload K 4 dX10_smells_82 rfl ?_
      refine o_aload_n K 0 dX10_smells_84 rfl rfl ?_
      refine o_iload K 5 dX10_smells_85 rfl ?_
      refine o_iconst K 2 dX10_smells_87 (by decide) ?_
      obtain ⟨r14, er14, hf⟩ := bd_e hf
      refine o_callV K [.int a1, .int 2] (k_X10_at0 x.2.1 E D ca h M a1 (2 : Int32) er14) s_X10_116 (ltM (by decide)) rfl rfl rfl rfl ⟨by decide, by decide⟩ (Nat.le_of_ble_eq_true rfl) _ rfl dX10_smells_88 ?_
      show Go x D (tysOf ca) h (LaM ca h) 6 M 91 [some (.ref (h 0)), none, none, none, some (.int a0), some (.int a1)] [.int r14, .int a0]
      refine o_if_le K 101 dX10_smells_91 (by decide) (fun c15 => ?_) (fun c15 => ?_)
      · have hf := ip c15 hf
        refine o_iconst K 0 dX10_smells_101 (by decide) ?_
        refine o_drop [true, false, false, false, false, true] (V2 := [some (.ref (h 0)), none, none, none, none, some (.int a1)]) rfl ?_
        exact t_X10_smells_j102 K hR ih a1 (0 : Int32) a0 M hf
      · have hf := im c15 hf
        refine o_iconst K 1 dX10_smells_94 (by decide) ?_
        refine o_iload K 5 dX10_smells_95 rfl ?_
        refine o_ishl K dX10_smells_97 ?_
        refine o_goto K 102 dX10_smells_98 (by decide) ?_
        refine o_drop [true, false, false, false, false, true] (V2 := [some (.ref (h 0)), none, none, none, none, some (.int a1)]) rfl ?_
        exact t_X10_smells_j102 K hR ih a1 ((1 : Int32) <<< (a1 &&& 31)) a0 M hf
def f_X10_smells_l26 : Nat → Int32 → Int32 → Int32 → Mem → Option (Int32 × Mem)
  | 0, _, _, _, _ => none
  | n + 1, a0, a1, a2, M => if 8 ≤ a2 then (bd2 (f_X10_goesOn M a1) fun r8 M9 => f_X10_smells_l75 FU (0 : Int32) (0 : Int32) M9) else if a2 = a0 then (f_X10_smells_j56 (f_X10_smells_l26 n) a0 a1 a2 (9999 : Int32) (((6 : Int32) + ((4 : Int32) * a2)) + 2) M) else f_X10_smells_j56 (f_X10_smells_l26 n) a0 a1 a2 (0 : Int32) (((6 : Int32) + ((4 : Int32) * a2)) + 2) M
set_option maxHeartbeats 4000000 in
set_option maxRecDepth 100000 in
theorem t_X10_smells_l26 {x : En} {E : Amd} {D : va_G} {ca : Nat → ClassId} {h : Nat → Nat} (K : Kx x E D (tysOf ca) h (LaM ca h) RX10 cX10_smells 6 7 159) {r0 : Int32} {Mo : Mem} (hR : Rt x D h (LaM ca h) (some .int) (some (.int r0)) Mo) : ∀ (n : Nat) (a0 : Int32) (a1 : Int32) (a2 : Int32) (M : Mem), f_X10_smells_l26 n a0 a1 a2 M = some (r0, Mo) → Go x D (tysOf ca) h (LaM ca h) 6 M 26 [some (.ref (h 0)), some (.int a0), some (.int a1), some (.int a2), none, none] [] := by
  intro n
  induction n with
  | zero =>
    intro a0 a1 a2 M hf
    cases hf
  | succ n ih =>
    intro a0 a1 a2 M hf
    rw [f_X10_smells_l26] at hf
    refine o_iload_n K 3 dX10_smells_26 rfl rfl ?_
    refine o_bipush K 8 dX10_smells_27 (by decide) ?_
    refine o_icmp_ge K 63 dX10_smells_29 (by decide) (fun c7 => ?_) (fun c7 => ?_)
    · have hf := ip c7 hf
      refine o_aload_n K 0 dX10_smells_63 rfl rfl ?_
      refine o_iload_n K 2 dX10_smells_64 rfl rfl ?_
      obtain ⟨r8, M9, er8, hf⟩ := bd2_e hf
      refine o_callV K [.int a1] (k_X10_goesOn x.2.1 E D ca h M a1 er8) s_X10_164 (ltM (by decide)) rfl rfl rfl rfl ⟨by decide, by decide⟩ (Nat.le_of_ble_eq_true rfl) _ rfl dX10_smells_65 ?_
      show Go x D (tysOf ca) h (LaM ca h) 6 M9 68 [some (.ref (h 0)), some (.int a0), some (.int a1), some (.int a2), none, none] [.int r8]
      refine o_istore_n K 3 [some (.ref (h 0)), some (.int a0), some (.int a1), some (.int r8), none, none] dX10_smells_68 rfl (by decide) rfl rfl ?_
      refine o_iconst K 0 dX10_smells_69 (by decide) ?_
      refine o_istore K 4 [some (.ref (h 0)), some (.int a0), some (.int a1), some (.int r8), some (.int 0), none] dX10_smells_70 (by decide) rfl rfl ?_
      refine o_iconst K 0 dX10_smells_72 (by decide) ?_
      refine o_istore K 5 [some (.ref (h 0)), some (.int a0), some (.int a1), some (.int r8), some (.int 0), some (.int 0)] dX10_smells_73 (by decide) rfl rfl ?_
      refine o_drop [true, false, false, false, true, true] (V2 := [some (.ref (h 0)), none, none, none, some (.int 0), some (.int 0)]) rfl ?_
      exact t_X10_smells_l75 K hR FU (0 : Int32) (0 : Int32) M9 hf
    · have hf := im c7 hf
      refine o_aload_n K 0 dX10_smells_32 rfl rfl ?_
      refine gM_9 K dX10_smells_33 ?_
      refine o_bipush K 6 dX10_smells_36 (by decide) ?_
      refine o_iconst K 4 dX10_smells_38 (by decide) ?_
      refine o_iload_n K 3 dX10_smells_39 rfl rfl ?_
      refine o_imul K dX10_smells_40 ?_
      refine o_iadd K dX10_smells_41 ?_
      refine o_iconst K 2 dX10_smells_42 (by decide) ?_
      refine o_iadd K dX10_smells_43 ?_
      refine o_iload_n K 3 dX10_smells_44 rfl rfl ?_
      refine o_iload_n K 1 dX10_smells_45 rfl rfl ?_
      refine o_icmp_ne K 55 dX10_smells_46 (by decide) (fun c10 => ?_) (fun c10 => ?_)
      · have hf := im c10 hf
        refine o_iconst K 0 dX10_smells_55 (by decide) ?_
        exact t_X10_smells_j56 K hR ih a0 a1 a2 (0 : Int32) (((6 : Int32) + ((4 : Int32) * a2)) + 2) M hf
      · have hf := ip c10 hf
        refine o_sipush K 9999 dX10_smells_49 (by decide) ?_
        refine o_goto K 56 dX10_smells_52 (by decide) ?_
        exact t_X10_smells_j56 K hR ih a0 a1 a2 (9999 : Int32) (((6 : Int32) + ((4 : Int32) * a2)) + 2) M hf
def f_X10_smells (M : Mem) (a1 : Int32) (a2 : Int32) : Option (Int32 × Mem) := bd (f_X10_isRoom a1) fun r1 => if r1 = 0 then (some (((-1000000001) : Int32), M)) else bd (f_X10_in a2 (0 : Int32) (60 : Int32)) fun r3 => if r3 = 0 then (some (((-1000000001) : Int32), M)) else bd (f_X10_thinks M) fun M6 => f_X10_smells_l26 FU a1 a2 (0 : Int32) M6
set_option maxHeartbeats 4000000 in
set_option maxRecDepth 100000 in
theorem k_X10_smells (l : Launch) (E : Amd) (D : va_G) (ca : Nat → ClassId) (h : Nat → Nat) (M : Mem) (a1 : Int32) (a2 : Int32) {r0 : Int32} {Mo : Mem} (hf : f_X10_smells M a1 a2 = some (r0, Mo)) : Ct l E D (tysOf ca) h (LaM ca h) yX10_smells cX10_smells 6 (some .int) 7 159 [.ref (h 0), .int a1, .int a2] M (some (.int r0)) Mo := by
  refine Ct.mk [some (.ref (h 0)), some (.int a1), some (.int a2), none, none, none] (by decide) (Nat.le_of_ble_eq_true rfl) (argsV [.ref (h 0), .int a1, .int a2] 3 rfl rfl) ?_
  intro x hx0 K hR
  have K : Kx x E D (tysOf ca) h (LaM ca h) RX10 cX10_smells 6 7 159 := K
  rw [f_X10_smells] at hf
  refine o_iload_n K 1 dX10_smells_0 rfl rfl ?_
  obtain ⟨r1, er1, hf⟩ := bd_e hf
  refine o_callS K [.int a1] (k_X10_isRoom x.2.1 E D ca h M a1 er1) s_X10_91 rfl ⟨by decide, by decide⟩ (Nat.le_of_ble_eq_true rfl) _ rfl dX10_smells_1 ?_
  show Go x D (tysOf ca) h (LaM ca h) 6 M 4 [some (.ref (h 0)), some (.int a1), some (.int a2), none, none, none] [.int r1]
  refine o_if_eq K 17 dX10_smells_4 (by decide) (fun c2 => ?_) (fun c2 => ?_)
  · have hf := ip c2 hf
    refine o_ldc K q1102 dX10_smells_17 ?_
    exact e_iret K hf hR dX10_smells_19
  · have hf := im c2 hf
    refine o_iload_n K 2 dX10_smells_7 rfl rfl ?_
    refine o_iconst K 0 dX10_smells_8 (by decide) ?_
    refine o_bipush K 60 dX10_smells_9 (by decide) ?_
    obtain ⟨r3, er3, hf⟩ := bd_e hf
    refine o_callS K [.int a2, .int 0, .int 60] (k_X10_in x.2.1 E D ca h M a2 (0 : Int32) (60 : Int32) er3) s_X10_87 rfl ⟨by decide, by decide⟩ (Nat.le_of_ble_eq_true rfl) _ rfl dX10_smells_11 ?_
    show Go x D (tysOf ca) h (LaM ca h) 6 M 14 [some (.ref (h 0)), some (.int a1), some (.int a2), none, none, none] [.int r3]
    refine o_if_ne K 20 dX10_smells_14 (by decide) (fun c4 => ?_) (fun c4 => ?_)
    · have hf := im c4 hf
      refine o_aload_n K 0 dX10_smells_20 rfl rfl ?_
      obtain ⟨M6, er5, hf⟩ := bd_e hf
      refine o_callV K [] (k_X10_thinks x.2.1 E D ca h M er5) s_X10_176 (ltM (by decide)) rfl rfl rfl rfl ⟨by decide, by decide⟩ (Nat.le_of_ble_eq_true rfl) _ rfl dX10_smells_21 ?_
      show Go x D (tysOf ca) h (LaM ca h) 6 M6 24 [some (.ref (h 0)), some (.int a1), some (.int a2), none, none, none] []
      refine o_iconst K 0 dX10_smells_24 (by decide) ?_
      refine o_istore_n K 3 [some (.ref (h 0)), some (.int a1), some (.int a2), some (.int 0), none, none] dX10_smells_25 rfl (by decide) rfl rfl ?_
      exact t_X10_smells_l26 K hR FU a1 a2 (0 : Int32) M6 hf
    · have hf := ip c4 hf
      refine o_ldc K q1102 dX10_smells_17 ?_
      exact e_iret K hf hR dX10_smells_19
def f_X10_litBehind (M : Mem) (a1 : Int32) (a2 : Int32) (a3 : Int32) : Option (Int32 × Mem) := wr M 1 1460 (((38 : Int32) + ((5 : Int32) * a1)) + 4) a2 fun M2 => bd2 (f_X10_goesOn M2 a3) fun r3 M4 => bd (f_X10_sumOf M4 (3 : Int32)) fun r5 => bd (f_X10_putsBack M4) fun M7 => some (r5, M7)
set_option maxHeartbeats 4000000 in
set_option maxRecDepth 100000 in
theorem k_X10_litBehind (l : Launch) (E : Amd) (D : va_G) (ca : Nat → ClassId) (h : Nat → Nat) (M : Mem) (a1 : Int32) (a2 : Int32) (a3 : Int32) {r0 : Int32} {Mo : Mem} (hf : f_X10_litBehind M a1 a2 a3 = some (r0, Mo)) : Ct l E D (tysOf ca) h (LaM ca h) yX10_litBehind cX10_litBehind 6 (some .int) 7 159 [.ref (h 0), .int a1, .int a2, .int a3] M (some (.int r0)) Mo := by
  refine Ct.mk [some (.ref (h 0)), some (.int a1), some (.int a2), some (.int a3), none, none] (by decide) (Nat.le_of_ble_eq_true rfl) (argsV [.ref (h 0), .int a1, .int a2, .int a3] 2 rfl rfl) ?_
  intro x hx0 K hR
  have K : Kx x E D (tysOf ca) h (LaM ca h) RX10 cX10_litBehind 6 7 159 := K
  rw [f_X10_litBehind] at hf
  refine o_aload_n K 0 dX10_litBehind_0 rfl rfl ?_
  refine gM_9 K dX10_litBehind_1 ?_
  refine o_bipush K 38 dX10_litBehind_4 (by decide) ?_
  refine o_iconst K 5 dX10_litBehind_6 (by decide) ?_
  refine o_iload_n K 1 dX10_litBehind_7 rfl rfl ?_
  refine o_imul K dX10_litBehind_8 ?_
  refine o_iadd K dX10_litBehind_9 ?_
  refine o_iconst K 4 dX10_litBehind_10 (by decide) ?_
  refine o_iadd K dX10_litBehind_11 ?_
  refine o_iload_n K 2 dX10_litBehind_12 rfl rfl ?_
  obtain ⟨g1, M2, eM2, hf⟩ := wr_e hf
  refine sM_1 K g1 dX10_litBehind_13 ?_
  refine o_nmM eM2 ?_
  refine o_aload_n K 0 dX10_litBehind_14 rfl rfl ?_
  refine o_iload_n K 3 dX10_litBehind_15 rfl rfl ?_
  obtain ⟨r3, M4, er3, hf⟩ := bd2_e hf
  refine o_callV K [.int a3] (k_X10_goesOn x.2.1 E D ca h M2 a3 er3) s_X10_164 (ltM (by decide)) rfl rfl rfl rfl ⟨by decide, by decide⟩ (Nat.le_of_ble_eq_true rfl) _ rfl dX10_litBehind_16 ?_
  show Go x D (tysOf ca) h (LaM ca h) 6 M4 19 [some (.ref (h 0)), some (.int a1), some (.int a2), some (.int a3), none, none] [.int r3]
  refine o_istore K 4 [some (.ref (h 0)), some (.int a1), some (.int a2), some (.int a3), some (.int r3), none] dX10_litBehind_19 (by decide) rfl rfl ?_
  refine o_aload_n K 0 dX10_litBehind_21 rfl rfl ?_
  refine o_iconst K 3 dX10_litBehind_22 (by decide) ?_
  obtain ⟨r5, er5, hf⟩ := bd_e hf
  refine o_callV K [.int 3] (k_X10_sumOf x.2.1 E D ca h M4 (3 : Int32) er5) s_X10_167 (ltM (by decide)) rfl rfl rfl rfl ⟨by decide, by decide⟩ (Nat.le_of_ble_eq_true rfl) _ rfl dX10_litBehind_23 ?_
  show Go x D (tysOf ca) h (LaM ca h) 6 M4 26 [some (.ref (h 0)), some (.int a1), some (.int a2), some (.int a3), some (.int r3), none] [.int r5]
  refine o_istore K 5 [some (.ref (h 0)), some (.int a1), some (.int a2), some (.int a3), some (.int r3), some (.int r5)] dX10_litBehind_26 (by decide) rfl rfl ?_
  refine o_aload_n K 0 dX10_litBehind_28 rfl rfl ?_
  obtain ⟨M7, er6, hf⟩ := bd_e hf
  refine o_callV K [] (k_X10_putsBack x.2.1 E D ca h M4 er6) s_X10_179 (ltM (by decide)) rfl rfl rfl rfl ⟨by decide, by decide⟩ (Nat.le_of_ble_eq_true rfl) _ rfl dX10_litBehind_29 ?_
  show Go x D (tysOf ca) h (LaM ca h) 6 M7 32 [some (.ref (h 0)), some (.int a1), some (.int a2), some (.int a3), some (.int r3), some (.int r5)] []
  refine o_iload K 5 dX10_litBehind_32 rfl ?_
  exact e_iret K hf hR dX10_litBehind_34
def f_X10_snuffs (M : Mem) (a1 : Int32) (a2 : Int32) : Option (Int32 × Mem) := bd (f_X10_isDoor M a1) fun r1 => if r1 = 0 then (some (((-1000000001) : Int32), M)) else bd (f_X10_in a2 (1 : Int32) (60 : Int32)) fun r3 => if r3 = 0 then (some (((-1000000001) : Int32), M)) else bd (f_X10_thinks M) fun M6 => bd2 (f_X10_litBehind M6 a1 (0 : Int32) a2) fun r7 M8 => bd2 (f_X10_litBehind M8 a1 (1 : Int32) a2) fun r9 M10 => some (r7 - r9, M10)
set_option maxHeartbeats 4000000 in
set_option maxRecDepth 100000 in
theorem k_X10_snuffs (l : Launch) (E : Amd) (D : va_G) (ca : Nat → ClassId) (h : Nat → Nat) (M : Mem) (a1 : Int32) (a2 : Int32) {r0 : Int32} {Mo : Mem} (hf : f_X10_snuffs M a1 a2 = some (r0, Mo)) : Ct l E D (tysOf ca) h (LaM ca h) yX10_snuffs cX10_snuffs 4 (some .int) 8 184 [.ref (h 0), .int a1, .int a2] M (some (.int r0)) Mo := by
  refine Ct.mk [some (.ref (h 0)), some (.int a1), some (.int a2), none] (by decide) (Nat.le_of_ble_eq_true rfl) (argsV [.ref (h 0), .int a1, .int a2] 1 rfl rfl) ?_
  intro x hx0 K hR
  have K : Kx x E D (tysOf ca) h (LaM ca h) RX10 cX10_snuffs 4 8 184 := K
  rw [f_X10_snuffs] at hf
  refine o_aload_n K 0 dX10_snuffs_0 rfl rfl ?_
  refine o_iload_n K 1 dX10_snuffs_1 rfl rfl ?_
  obtain ⟨r1, er1, hf⟩ := bd_e hf
  refine o_callV K [.int a1] (k_X10_isDoor x.2.1 E D ca h M a1 er1) s_X10_127 (ltM (by decide)) rfl rfl rfl rfl ⟨by decide, by decide⟩ (Nat.le_of_ble_eq_true rfl) _ rfl dX10_snuffs_2 ?_
  show Go x D (tysOf ca) h (LaM ca h) 4 M 5 [some (.ref (h 0)), some (.int a1), some (.int a2), none] [.int r1]
  refine o_if_eq K 18 dX10_snuffs_5 (by decide) (fun c2 => ?_) (fun c2 => ?_)
  · have hf := ip c2 hf
    refine o_ldc K q1102 dX10_snuffs_18 ?_
    exact e_iret K hf hR dX10_snuffs_20
  · have hf := im c2 hf
    refine o_iload_n K 2 dX10_snuffs_8 rfl rfl ?_
    refine o_iconst K 1 dX10_snuffs_9 (by decide) ?_
    refine o_bipush K 60 dX10_snuffs_10 (by decide) ?_
    obtain ⟨r3, er3, hf⟩ := bd_e hf
    refine o_callS K [.int a2, .int 1, .int 60] (k_X10_in x.2.1 E D ca h M a2 (1 : Int32) (60 : Int32) er3) s_X10_87 rfl ⟨by decide, by decide⟩ (Nat.le_of_ble_eq_true rfl) _ rfl dX10_snuffs_12 ?_
    show Go x D (tysOf ca) h (LaM ca h) 4 M 15 [some (.ref (h 0)), some (.int a1), some (.int a2), none] [.int r3]
    refine o_if_ne K 21 dX10_snuffs_15 (by decide) (fun c4 => ?_) (fun c4 => ?_)
    · have hf := im c4 hf
      refine o_aload_n K 0 dX10_snuffs_21 rfl rfl ?_
      obtain ⟨M6, er5, hf⟩ := bd_e hf
      refine o_callV K [] (k_X10_thinks x.2.1 E D ca h M er5) s_X10_176 (ltM (by decide)) rfl rfl rfl rfl ⟨by decide, by decide⟩ (Nat.le_of_ble_eq_true rfl) _ rfl dX10_snuffs_22 ?_
      show Go x D (tysOf ca) h (LaM ca h) 4 M6 25 [some (.ref (h 0)), some (.int a1), some (.int a2), none] []
      refine o_aload_n K 0 dX10_snuffs_25 rfl rfl ?_
      refine o_iload_n K 1 dX10_snuffs_26 rfl rfl ?_
      refine o_iconst K 0 dX10_snuffs_27 (by decide) ?_
      refine o_iload_n K 2 dX10_snuffs_28 rfl rfl ?_
      obtain ⟨r7, M8, er7, hf⟩ := bd2_e hf
      refine o_callV K [.int a1, .int 0, .int a2] (k_X10_litBehind x.2.1 E D ca h M6 a1 (0 : Int32) a2 er7) s_X10_194 (ltM (by decide)) rfl rfl rfl rfl ⟨by decide, by decide⟩ (Nat.le_of_ble_eq_true rfl) _ rfl dX10_snuffs_29 ?_
      show Go x D (tysOf ca) h (LaM ca h) 4 M8 32 [some (.ref (h 0)), some (.int a1), some (.int a2), none] [.int r7]
      refine o_istore_n K 3 [some (.ref (h 0)), some (.int a1), some (.int a2), some (.int r7)] dX10_snuffs_32 rfl (by decide) rfl rfl ?_
      refine o_iload_n K 3 dX10_snuffs_33 rfl rfl ?_
      refine o_aload_n K 0 dX10_snuffs_34 rfl rfl ?_
      refine o_iload_n K 1 dX10_snuffs_35 rfl rfl ?_
      refine o_iconst K 1 dX10_snuffs_36 (by decide) ?_
      refine o_iload_n K 2 dX10_snuffs_37 rfl rfl ?_
      obtain ⟨r9, M10, er9, hf⟩ := bd2_e hf
      refine o_callV K [.int a1, .int 1, .int a2] (k_X10_litBehind x.2.1 E D ca h M8 a1 (1 : Int32) a2 er9) s_X10_194 (ltM (by decide)) rfl rfl rfl rfl ⟨by decide, by decide⟩ (Nat.le_of_ble_eq_true rfl) _ rfl dX10_snuffs_38 ?_
      show Go x D (tysOf ca) h (LaM ca h) 4 M10 41 [some (.ref (h 0)), some (.int a1), some (.int a2), some (.int r7)] [.int r9, .int r7]
      refine o_isub K dX10_snuffs_41 ?_
      exact e_iret K hf hR dX10_snuffs_42
    · have hf := ip c4 hf
      refine o_ldc K q1102 dX10_snuffs_18 ?_
      exact e_iret K hf hR dX10_snuffs_20
def f_X10_storm_l21 : Nat → Int32 → Int32 → Mem → Option (Int32 × Mem)
  | 0, _, _, _ => none
  | n + 1, a0, a1, M => if a1 ≤ 0 then (some (((-1000000005) : Int32), M)) else wr M 1 1460 3 a1 fun M7 => bd2 (f_X10_goesOn M7 a0) fun r8 M9 => bd (f_X10_putsBack M9) fun M11 => if r8 = 0 then (some (a1, M11)) else nm (a1 + (-100) : Int32) fun x13 => f_X10_storm_l21 n a0 x13 M11
set_option maxHeartbeats 4000000 in
set_option maxRecDepth 100000 in
theorem t_X10_storm_l21 {x : En} {E : Amd} {D : va_G} {ca : Nat → ClassId} {h : Nat → Nat} (K : Kx x E D (tysOf ca) h (LaM ca h) RX10 cX10_storm 4 7 159) {r0 : Int32} {Mo : Mem} (hR : Rt x D h (LaM ca h) (some .int) (some (.int r0)) Mo) : ∀ (n : Nat) (a0 : Int32) (a1 : Int32) (M : Mem), f_X10_storm_l21 n a0 a1 M = some (r0, Mo) → Go x D (tysOf ca) h (LaM ca h) 4 M 21 [some (.ref (h 0)), some (.int a0), some (.int a1), none] [] := by
  intro n
  induction n with
  | zero =>
    intro a0 a1 M hf
    cases hf
  | succ n ih =>
    intro a0 a1 M hf
    rw [f_X10_storm_l21] at hf
    refine o_iload_n K 2 dX10_storm_21 rfl rfl ?_
    refine o_if_le K 54 dX10_storm_22 (by decide) (fun c5 => ?_) (fun c5 => ?_)
    · have hf := ip c5 hf
      refine o_ldc K q1268 dX10_storm_54 ?_
      exact e_iret K hf hR dX10_storm_56
    · have hf := im c5 hf
      refine o_aload_n K 0 dX10_storm_25 rfl rfl ?_
      refine gM_9 K dX10_storm_26 ?_
      refine o_iconst K 3 dX10_storm_29 (by decide) ?_
      refine o_iload_n K 2 dX10_storm_30 rfl rfl ?_
      obtain ⟨g6, M7, eM7, hf⟩ := wr_e hf
      refine sM_1 K g6 dX10_storm_31 ?_
      refine o_nmM eM7 ?_
      refine o_aload_n K 0 dX10_storm_32 rfl rfl ?_
      refine o_iload_n K 1 dX10_storm_33 rfl rfl ?_
      obtain ⟨r8, M9, er8, hf⟩ := bd2_e hf
      refine o_callV K [.int a0] (k_X10_goesOn x.2.1 E D ca h M7 a0 er8) s_X10_164 (ltM (by decide)) rfl rfl rfl rfl ⟨by decide, by decide⟩ (Nat.le_of_ble_eq_true rfl) _ rfl dX10_storm_34 ?_
      show Go x D (tysOf ca) h (LaM ca h) 4 M9 37 [some (.ref (h 0)), some (.int a0), some (.int a1), none] [.int r8]
      refine o_istore_n K 3 [some (.ref (h 0)), some (.int a0), some (.int a1), some (.int r8)] dX10_storm_37 rfl (by decide) rfl rfl ?_
      refine o_aload_n K 0 dX10_storm_38 rfl rfl ?_
      obtain ⟨M11, er10, hf⟩ := bd_e hf
      refine o_callV K [] (k_X10_putsBack x.2.1 E D ca h M9 er10) s_X10_179 (ltM (by decide)) rfl rfl rfl rfl ⟨by decide, by decide⟩ (Nat.le_of_ble_eq_true rfl) _ rfl dX10_storm_39 ?_
      show Go x D (tysOf ca) h (LaM ca h) 4 M11 42 [some (.ref (h 0)), some (.int a0), some (.int a1), some (.int r8)] []
      refine o_iload_n K 3 dX10_storm_42 rfl rfl ?_
      refine o_if_ne K 48 dX10_storm_43 (by decide) (fun c12 => ?_) (fun c12 => ?_)
      · have hf := im c12 hf
        obtain ⟨x13, ex13, hf⟩ := nm_o hf
        refine o_iinc K 2 x13 [some (.ref (h 0)), some (.int a0), some (.int x13), some (.int r8)] dX10_storm_48 rfl (inc_e (by decide) ex13) (by decide) rfl rfl ?_
        refine o_goto K 21 dX10_storm_51 (by decide) ?_
        refine o_drop [true, true, true, false] (V2 := [some (.ref (h 0)), some (.int a0), some (.int x13), none]) rfl ?_
        exact ih a0 x13 M11 hf
      · have hf := ip c12 hf
        refine o_iload_n K 2 dX10_storm_46 rfl rfl ?_
        exact e_iret K hf hR dX10_storm_47
def f_X10_storm (M : Mem) (a1 : Int32) : Option (Int32 × Mem) := bd (f_X10_in a1 (1 : Int32) (20 : Int32)) fun r1 => if r1 = 0 then (some (((-1000000001) : Int32), M)) else bd (f_X10_thinks M) fun M4 => f_X10_storm_l21 FU a1 (9999 : Int32) M4
set_option maxHeartbeats 4000000 in
set_option maxRecDepth 100000 in
theorem k_X10_storm (l : Launch) (E : Amd) (D : va_G) (ca : Nat → ClassId) (h : Nat → Nat) (M : Mem) (a1 : Int32) {r0 : Int32} {Mo : Mem} (hf : f_X10_storm M a1 = some (r0, Mo)) : Ct l E D (tysOf ca) h (LaM ca h) yX10_storm cX10_storm 4 (some .int) 7 159 [.ref (h 0), .int a1] M (some (.int r0)) Mo := by
  refine Ct.mk [some (.ref (h 0)), some (.int a1), none, none] (by decide) (Nat.le_of_ble_eq_true rfl) (argsV [.ref (h 0), .int a1] 2 rfl rfl) ?_
  intro x hx0 K hR
  have K : Kx x E D (tysOf ca) h (LaM ca h) RX10 cX10_storm 4 7 159 := K
  rw [f_X10_storm] at hf
  refine o_iload_n K 1 dX10_storm_0 rfl rfl ?_
  refine o_iconst K 1 dX10_storm_1 (by decide) ?_
  refine o_bipush K 20 dX10_storm_2 (by decide) ?_
  obtain ⟨r1, er1, hf⟩ := bd_e hf
  refine o_callS K [.int a1, .int 1, .int 20] (k_X10_in x.2.1 E D ca h M a1 (1 : Int32) (20 : Int32) er1) s_X10_87 rfl ⟨by decide, by decide⟩ (Nat.le_of_ble_eq_true rfl) _ rfl dX10_storm_4 ?_
  show Go x D (tysOf ca) h (LaM ca h) 4 M 7 [some (.ref (h 0)), some (.int a1), none, none] [.int r1]
  refine o_if_ne K 13 dX10_storm_7 (by decide) (fun c2 => ?_) (fun c2 => ?_)
  · have hf := im c2 hf
    refine o_aload_n K 0 dX10_storm_13 rfl rfl ?_
    obtain ⟨M4, er3, hf⟩ := bd_e hf
    refine o_callV K [] (k_X10_thinks x.2.1 E D ca h M er3) s_X10_176 (ltM (by decide)) rfl rfl rfl rfl ⟨by decide, by decide⟩ (Nat.le_of_ble_eq_true rfl) _ rfl dX10_storm_14 ?_
    show Go x D (tysOf ca) h (LaM ca h) 4 M4 17 [some (.ref (h 0)), some (.int a1), none, none] []
    refine o_sipush K 9999 dX10_storm_17 (by decide) ?_
    refine o_istore_n K 2 [some (.ref (h 0)), some (.int a1), some (.int 9999), none] dX10_storm_20 rfl (by decide) rfl rfl ?_
    exact t_X10_storm_l21 K hR FU a1 (9999 : Int32) M4 hf
  · have hf := ip c2 hf
    refine o_ldc K q1102 dX10_storm_10 ?_
    exact e_iret K hf hR dX10_storm_12
def f_X10_offBy_j108 (rec34 : Int32 → Int64 → Int32 → Mem → Option (Int64 × Mem)) (a0 : Int32) (a1 : Int32) (a2 : Int64) (a3 : Int64) (M : Mem) : Option (Int64 × Mem) := nm (a3 + a2 : Int64) fun x20 => nm (a1 + 1 : Int32) fun x21 => rec34 a0 x20 x21 M
set_option maxHeartbeats 4000000 in
set_option maxRecDepth 100000 in
theorem t_X10_offBy_j108 {x : En} {E : Amd} {D : va_G} {ca : Nat → ClassId} {h : Nat → Nat} (K : Kx x E D (tysOf ca) h (LaM ca h) RX10 cX10_offBy 11 7 159) {r0 : Int64} {Mo : Mem} (hR : Rt x D h (LaM ca h) (some .long) (some (.long r0)) Mo) {rec34 : Int32 → Int64 → Int32 → Mem → Option (Int64 × Mem)} (ih34 : ∀ (w0 : Int32) (w1 : Int64) (w2 : Int32) (M : Mem), rec34 w0 w1 w2 M = some (r0, Mo) → Go x D (tysOf ca) h (LaM ca h) 11 M 34 [some (.ref (h 0)), some (.int w0), none, none, none, some (.long w1), none, some (.int w2), none, none, none] []) (a0 : Int32) (a1 : Int32) (a2 : Int64) (a3 : Int64) (M : Mem) (hf : f_X10_offBy_j108 rec34 a0 a1 a2 a3 M = some (r0, Mo)) : Go x D (tysOf ca) h (LaM ca h) 11 M 108 [some (.ref (h 0)), some (.int a0), none, none, none, none, none, some (.int a1), none, none, none] [.long a2, .long a3] := by
  rw [f_X10_offBy_j108] at hf
  refine o_ladd K dX10_offBy_108 ?_
  obtain ⟨x20, ex20, hf⟩ := nm_o hf
  refine o_nml ex20 ?_
  refine o_lstore K 5 [some (.ref (h 0)), some (.int a0), none, none, none, some (.long x20), none, some (.int a1), none, none, none] dX10_offBy_109 (by decide) rfl rfl ?_
  obtain ⟨x21, ex21, hf⟩ := nm_o hf
  refine o_iinc K 7 x21 [some (.ref (h 0)), some (.int a0), none, none, none, some (.long x20), none, some (.int x21), none, none, none] dX10_offBy_111 rfl (inc_e (by decide) ex21) (by decide) rfl rfl ?_
  refine o_goto K 34 dX10_offBy_114 (by decide) ?_
  exact ih34 a0 x20 x21 M hf
def f_X10_offBy_l34 : Nat → Int32 → Int64 → Int32 → Mem → Option (Int64 × Mem)
  | 0, _, _, _, _ => none
  | n + 1, a0, a1, a2, M => rd M 18 4 a0 fun x6 => if x6 ≤ a2 then (bd (f_X10_putsBack M) fun M10 => some (a1, M10)) else if 8 ≤ a2 then (bd (f_X10_putsBack M) fun M13 => some (a1, M13)) else rd M 19 96 (((24 : Int32) * a0) + a2) fun x14 => bd (f_X10_at0 M a2 (0 : Int32)) fun r16 => nm ((x14.toInt64) - (r16.toInt64) : Int64) fun x17 => if x14 = (-1000000005) then (f_X10_offBy_j108 (f_X10_offBy_l34 n) a0 a2 (0 : Int64) a1 M) else if 0 ≤ (lg_cmp x17 0) then (f_X10_offBy_j108 (f_X10_offBy_l34 n) a0 a2 x17 a1 M) else f_X10_offBy_j108 (f_X10_offBy_l34 n) a0 a2 (-x17) a1 M
set_option maxHeartbeats 4000000 in
set_option maxRecDepth 100000 in
theorem t_X10_offBy_l34 {x : En} {E : Amd} {D : va_G} {ca : Nat → ClassId} {h : Nat → Nat} (K : Kx x E D (tysOf ca) h (LaM ca h) RX10 cX10_offBy 11 7 159) {r0 : Int64} {Mo : Mem} (hR : Rt x D h (LaM ca h) (some .long) (some (.long r0)) Mo) : ∀ (n : Nat) (a0 : Int32) (a1 : Int64) (a2 : Int32) (M : Mem), f_X10_offBy_l34 n a0 a1 a2 M = some (r0, Mo) → Go x D (tysOf ca) h (LaM ca h) 11 M 34 [some (.ref (h 0)), some (.int a0), none, none, none, some (.long a1), none, some (.int a2), none, none, none] [] := by
  intro n
  induction n with
  | zero =>
    intro a0 a1 a2 M hf
    cases hf
  | succ n ih =>
    intro a0 a1 a2 M hf
    rw [f_X10_offBy_l34] at hf
    refine o_iload K 7 dX10_offBy_34 rfl ?_
    refine o_aload_n K 0 dX10_offBy_36 rfl rfl ?_
    refine gM_63 K dX10_offBy_37 ?_
    refine o_iload_n K 1 dX10_offBy_40 rfl rfl ?_
    obtain ⟨g7, x6, ex6, hf⟩ := rd_e hf
    refine lM_18 K g7 dX10_offBy_41 ?_
    refine o_nmi ex6 ?_
    refine o_icmp_ge K 117 dX10_offBy_42 (by decide) (fun c8 => ?_) (fun c8 => ?_)
    · have hf := ip c8 hf
      refine o_aload_n K 0 dX10_offBy_117 rfl rfl ?_
      obtain ⟨M10, er9, hf⟩ := bd_e hf
      refine o_callV K [] (k_X10_putsBack x.2.1 E D ca h M er9) s_X10_179 (ltM (by decide)) rfl rfl rfl rfl ⟨by decide, by decide⟩ (Nat.le_of_ble_eq_true rfl) _ rfl dX10_offBy_118 ?_
      show Go x D (tysOf ca) h (LaM ca h) 11 M10 121 [some (.ref (h 0)), some (.int a0), none, none, none, some (.long a1), none, some (.int a2), none, none, none] []
      refine o_lload K 5 dX10_offBy_121 rfl ?_
      exact e_lret K hf hR dX10_offBy_123
    · have hf := im c8 hf
      refine o_iload K 7 dX10_offBy_45 rfl ?_
      refine o_bipush K 8 dX10_offBy_47 (by decide) ?_
      refine o_icmp_ge K 117 dX10_offBy_49 (by decide) (fun c11 => ?_) (fun c11 => ?_)
      · have hf := ip c11 hf
        refine o_aload_n K 0 dX10_offBy_117 rfl rfl ?_
        obtain ⟨M13, er12, hf⟩ := bd_e hf
        refine o_callV K [] (k_X10_putsBack x.2.1 E D ca h M er12) s_X10_179 (ltM (by decide)) rfl rfl rfl rfl ⟨by decide, by decide⟩ (Nat.le_of_ble_eq_true rfl) _ rfl dX10_offBy_118 ?_
        show Go x D (tysOf ca) h (LaM ca h) 11 M13 121 [some (.ref (h 0)), some (.int a0), none, none, none, some (.long a1), none, some (.int a2), none, none, none] []
        refine o_lload K 5 dX10_offBy_121 rfl ?_
        exact e_lret K hf hR dX10_offBy_123
      · have hf := im c11 hf
        refine o_aload_n K 0 dX10_offBy_52 rfl rfl ?_
        refine gM_66 K dX10_offBy_53 ?_
        refine o_bipush K 24 dX10_offBy_56 (by decide) ?_
        refine o_iload_n K 1 dX10_offBy_58 rfl rfl ?_
        refine o_imul K dX10_offBy_59 ?_
        refine o_iload K 7 dX10_offBy_60 rfl ?_
        refine o_iadd K dX10_offBy_62 ?_
        obtain ⟨g15, x14, ex14, hf⟩ := rd_e hf
        refine lM_19 K g15 dX10_offBy_63 ?_
        refine o_nmi ex14 ?_
        refine o_istore K 8 [some (.ref (h 0)), some (.int a0), none, none, none, some (.long a1), none, some (.int a2), some (.int x14), none, none] dX10_offBy_64 (by decide) rfl rfl ?_
        refine o_iload K 8 dX10_offBy_66 rfl ?_
        refine o_i2l K dX10_offBy_68 ?_
        refine o_aload_n K 0 dX10_offBy_69 rfl rfl ?_
        refine o_iload K 7 dX10_offBy_70 rfl ?_
        refine o_iconst K 0 dX10_offBy_72 (by decide) ?_
        obtain ⟨r16, er16, hf⟩ := bd_e hf
        refine o_callV K [.int a2, .int 0] (k_X10_at0 x.2.1 E D ca h M a2 (0 : Int32) er16) s_X10_116 (ltM (by decide)) rfl rfl rfl rfl ⟨by decide, by decide⟩ (Nat.le_of_ble_eq_true rfl) _ rfl dX10_offBy_73 ?_
        show Go x D (tysOf ca) h (LaM ca h) 11 M 76 [some (.ref (h 0)), some (.int a0), none, none, none, some (.long a1), none, some (.int a2), some (.int x14), none, none] [.int r16, .long (x14.toInt64)]
        refine o_i2l K dX10_offBy_76 ?_
        refine o_lsub K dX10_offBy_77 ?_
        obtain ⟨x17, ex17, hf⟩ := nm_o hf
        refine o_nml ex17 ?_
        refine o_lstore K 9 [some (.ref (h 0)), some (.int a0), none, none, none, some (.long a1), none, some (.int a2), some (.int x14), some (.long x17), none] dX10_offBy_78 (by decide) rfl rfl ?_
        refine o_lload K 5 dX10_offBy_80 rfl ?_
        refine o_iload K 8 dX10_offBy_82 rfl ?_
        refine o_ldc K q1268 dX10_offBy_84 ?_
        refine o_icmp_ne K 93 dX10_offBy_86 (by decide) (fun c18 => ?_) (fun c18 => ?_)
        · have hf := im c18 hf
          refine o_lload K 9 dX10_offBy_93 rfl ?_
          refine o_lconst K 0 dX10_offBy_95 rfl ?_
          refine o_lcmp K dX10_offBy_96 ?_
          refine o_if_ge K 106 dX10_offBy_97 (by decide) (fun c19 => ?_) (fun c19 => ?_)
          · have hf := ip c19 hf
            refine o_lload K 9 dX10_offBy_106 rfl ?_
            refine o_drop [true, true, false, false, false, false, false, true, false, false, false] (V2 := [some (.ref (h 0)), some (.int a0), none, none, none, none, none, some (.int a2), none, none, none]) rfl ?_
            exact t_X10_offBy_j108 K hR ih a0 a2 x17 a1 M hf
          · have hf := im c19 hf
            refine o_lload K 9 dX10_offBy_100 rfl ?_
            refine o_lneg K dX10_offBy_102 ?_
            refine o_goto K 108 dX10_offBy_103 (by decide) ?_
            refine o_drop [true, true, false, false, false, false, false, true, false, false, false] (V2 := [some (.ref (h 0)), some (.int a0), none, none, none, none, none, some (.int a2), none, none, none]) rfl ?_
            exact t_X10_offBy_j108 K hR ih a0 a2 (-x17) a1 M hf
        · have hf := ip c18 hf
          refine o_lconst K 0 dX10_offBy_89 rfl ?_
          refine o_goto K 108 dX10_offBy_90 (by decide) ?_
          refine o_drop [true, true, false, false, false, false, false, true, false, false, false] (V2 := [some (.ref (h 0)), some (.int a0), none, none, none, none, none, some (.int a2), none, none, none]) rfl ?_
          exact t_X10_offBy_j108 K hR ih a0 a2 (0 : Int64) a1 M hf
def f_X10_offBy (M : Mem) (a1 : Int32) (a2 : Int32) (a3 : Int32) : Option (Int64 × Mem) := bd (f_X10_of M a2 (4 : Int32)) fun r1 => wr M 1 1460 (((38 : Int32) + ((5 : Int32) * a2)) + 4) ((1 : Int32) - r1) fun M3 => bd2 (f_X10_goesOn M3 a3) fun r4 M5 => f_X10_offBy_l34 FU a1 (0 : Int64) (0 : Int32) M5
set_option maxHeartbeats 4000000 in
set_option maxRecDepth 100000 in
theorem k_X10_offBy (l : Launch) (E : Amd) (D : va_G) (ca : Nat → ClassId) (h : Nat → Nat) (M : Mem) (a1 : Int32) (a2 : Int32) (a3 : Int32) {r0 : Int64} {Mo : Mem} (hf : f_X10_offBy M a1 a2 a3 = some (r0, Mo)) : Ct l E D (tysOf ca) h (LaM ca h) yX10_offBy cX10_offBy 11 (some .long) 7 159 [.ref (h 0), .int a1, .int a2, .int a3] M (some (.long r0)) Mo := by
  refine Ct.mk [some (.ref (h 0)), some (.int a1), some (.int a2), some (.int a3), none, none, none, none, none, none, none] (by decide) (Nat.le_of_ble_eq_true rfl) (argsV [.ref (h 0), .int a1, .int a2, .int a3] 7 rfl rfl) ?_
  intro x hx0 K hR
  have K : Kx x E D (tysOf ca) h (LaM ca h) RX10 cX10_offBy 11 7 159 := K
  rw [f_X10_offBy] at hf
  refine o_aload_n K 0 dX10_offBy_0 rfl rfl ?_
  refine gM_9 K dX10_offBy_1 ?_
  refine o_bipush K 38 dX10_offBy_4 (by decide) ?_
  refine o_iconst K 5 dX10_offBy_6 (by decide) ?_
  refine o_iload_n K 2 dX10_offBy_7 rfl rfl ?_
  refine o_imul K dX10_offBy_8 ?_
  refine o_iadd K dX10_offBy_9 ?_
  refine o_iconst K 4 dX10_offBy_10 (by decide) ?_
  refine o_iadd K dX10_offBy_11 ?_
  refine o_iconst K 1 dX10_offBy_12 (by decide) ?_
  refine o_aload_n K 0 dX10_offBy_13 rfl rfl ?_
  refine o_iload_n K 2 dX10_offBy_14 rfl rfl ?_
  refine o_iconst K 4 dX10_offBy_15 (by decide) ?_
  obtain ⟨r1, er1, hf⟩ := bd_e hf
  refine o_callV K [.int a2, .int 4] (k_X10_of x.2.1 E D ca h M a2 (4 : Int32) er1) s_X10_101 (ltM (by decide)) rfl rfl rfl rfl ⟨by decide, by decide⟩ (Nat.le_of_ble_eq_true rfl) _ rfl dX10_offBy_16 ?_
  show Go x D (tysOf ca) h (LaM ca h) 11 M 19 [some (.ref (h 0)), some (.int a1), some (.int a2), some (.int a3), none, none, none, none, none, none, none] [.int r1, .int 1, .int (((38 : Int32) + ((5 : Int32) * a2)) + 4), .ref (h 1)]
  refine o_isub K dX10_offBy_19 ?_
  obtain ⟨g2, M3, eM3, hf⟩ := wr_e hf
  refine sM_1 K g2 dX10_offBy_20 ?_
  refine o_nmM eM3 ?_
  refine o_aload_n K 0 dX10_offBy_21 rfl rfl ?_
  refine o_iload_n K 3 dX10_offBy_22 rfl rfl ?_
  obtain ⟨r4, M5, er4, hf⟩ := bd2_e hf
  refine o_callV K [.int a3] (k_X10_goesOn x.2.1 E D ca h M3 a3 er4) s_X10_164 (ltM (by decide)) rfl rfl rfl rfl ⟨by decide, by decide⟩ (Nat.le_of_ble_eq_true rfl) _ rfl dX10_offBy_23 ?_
  show Go x D (tysOf ca) h (LaM ca h) 11 M5 26 [some (.ref (h 0)), some (.int a1), some (.int a2), some (.int a3), none, none, none, none, none, none, none] [.int r4]
  refine o_istore K 4 [some (.ref (h 0)), some (.int a1), some (.int a2), some (.int a3), some (.int r4), none, none, none, none, none, none] dX10_offBy_26 (by decide) rfl rfl ?_
  refine o_lconst K 0 dX10_offBy_28 rfl ?_
  refine o_lstore K 5 [some (.ref (h 0)), some (.int a1), some (.int a2), some (.int a3), some (.int r4), some (.long 0), none, none, none, none, none] dX10_offBy_29 (by decide) rfl rfl ?_
  refine o_iconst K 0 dX10_offBy_31 (by decide) ?_
  refine o_istore K 7 [some (.ref (h 0)), some (.int a1), some (.int a2), some (.int a3), some (.int r4), some (.long 0), none, some (.int 0), none, none, none] dX10_offBy_32 (by decide) rfl rfl ?_
  refine o_drop [true, true, false, false, false, true, false, true, false, false, false] (V2 := [some (.ref (h 0)), some (.int a1), none, none, none, some (.long 0), none, some (.int 0), none, none, none]) rfl ?_
  exact t_X10_offBy_l34 K hR FU a1 (0 : Int64) (0 : Int32) M5 hf
def f_X10_isSheet (a1 : Int32) : Option Int32 := bd (f_X10_in a1 (0 : Int32) (3 : Int32)) fun r1 => gd (bz r1) <| some (r1)
set_option maxHeartbeats 4000000 in
set_option maxRecDepth 100000 in
theorem k_X10_isSheet (l : Launch) (E : Amd) (D : va_G) (ca : Nat → ClassId) (h : Nat → Nat) (M : Mem) (a1 : Int32) {r0 : Int32} (hf : f_X10_isSheet a1 = some r0) : Ct l E D (tysOf ca) h (LaM ca h) yX10_isSheet cX10_isSheet 1 (some .boolean) 1 22 [.int a1] M (some (.int r0)) M := by
  refine Ct.mk [some (.int a1)] (by decide) (Nat.le_of_ble_eq_true rfl) (argsV [.int a1] 0 rfl rfl) ?_
  intro x hx0 K hR
  have K : Kx x E D (tysOf ca) h (LaM ca h) RX10 cX10_isSheet 1 1 22 := K
  rw [f_X10_isSheet] at hf
  refine o_iload_n K 0 dX10_isSheet_0 rfl rfl ?_
  refine o_iconst K 0 dX10_isSheet_1 (by decide) ?_
  refine o_iconst K 3 dX10_isSheet_2 (by decide) ?_
  obtain ⟨r1, er1, hf⟩ := bd_e hf
  refine o_callS K [.int a1, .int 0, .int 3] (k_X10_in x.2.1 E D ca h M a1 (0 : Int32) (3 : Int32) er1) s_X10_87 rfl ⟨by decide, by decide⟩ (Nat.le_of_ble_eq_true rfl) _ rfl dX10_isSheet_3 ?_
  show Go x D (tysOf ca) h (LaM ca h) 1 M 6 [some (.int a1)] [.int r1]
  obtain ⟨g2, hf⟩ := gd_e hf
  exact r_zret K hf hR g2 dX10_isSheet_6
def f_X10_opened_j111 (rec54 : Int32 → Int32 → Int32 → Int32 → Int64 → Int32 → Mem → Option (Int32 × Mem)) (a0 : Int32) (a1 : Int32) (a2 : Int32) (a3 : Int32) (a4 : Int32) (a5 : Int64) (M : Mem) : Option (Int32 × Mem) := nm (a4 + 1 : Int32) fun x22 => rec54 a0 a1 a2 a3 a5 x22 M
set_option maxHeartbeats 4000000 in
set_option maxRecDepth 100000 in
theorem t_X10_opened_j111 {x : En} {E : Amd} {D : va_G} {ca : Nat → ClassId} {h : Nat → Nat} (K : Kx x E D (tysOf ca) h (LaM ca h) RX10 cX10_opened 10 8 189) {r0 : Int32} {Mo : Mem} (hR : Rt x D h (LaM ca h) (some .int) (some (.int r0)) Mo) {rec54 : Int32 → Int32 → Int32 → Int32 → Int64 → Int32 → Mem → Option (Int32 × Mem)} (ih54 : ∀ (w0 : Int32) (w1 : Int32) (w2 : Int32) (w3 : Int32) (w4 : Int64) (w5 : Int32) (M : Mem), rec54 w0 w1 w2 w3 w4 w5 M = some (r0, Mo) → Go x D (tysOf ca) h (LaM ca h) 10 M 54 [some (.ref (h 0)), some (.int w0), some (.int w1), some (.int w2), some (.int w3), some (.long w4), none, some (.int w5), none, none] []) (a0 : Int32) (a1 : Int32) (a2 : Int32) (a3 : Int32) (a4 : Int32) (a5 : Int64) (M : Mem) (hf : f_X10_opened_j111 rec54 a0 a1 a2 a3 a4 a5 M = some (r0, Mo)) : Go x D (tysOf ca) h (LaM ca h) 10 M 111 [some (.ref (h 0)), some (.int a0), some (.int a1), some (.int a2), some (.int a3), none, none, some (.int a4), none, none] [.long a5] := by
  rw [f_X10_opened_j111] at hf
  refine o_lstore K 5 [some (.ref (h 0)), some (.int a0), some (.int a1), some (.int a2), some (.int a3), some (.long a5), none, some (.int a4), none, none] dX10_opened_111 (by decide) rfl rfl ?_
  obtain ⟨x22, ex22, hf⟩ := nm_o hf
  refine o_iinc K 7 x22 [some (.ref (h 0)), some (.int a0), some (.int a1), some (.int a2), some (.int a3), some (.long a5), none, some (.int x22), none, none] dX10_opened_113 rfl (inc_e (by decide) ex22) (by decide) rfl rfl ?_
  refine o_goto K 54 dX10_opened_116 (by decide) ?_
  exact ih54 a0 a1 a2 a3 a5 x22 M hf
def f_X10_opened_j95 (rec54 : Int32 → Int32 → Int32 → Int32 → Int64 → Int32 → Mem → Option (Int32 × Mem)) (a0 : Int32) (a1 : Int32) (a2 : Int32) (a3 : Int64) (a4 : Int32) (a5 : Int64) (a6 : Int32) (M : Mem) : Option (Int32 × Mem) := if a6 = a4 then (f_X10_opened_j111 rec54 a0 a1 a2 a6 a4 a5 M) else f_X10_opened_j111 rec54 a0 a1 a2 a6 a4 a3 M
set_option maxHeartbeats 4000000 in
set_option maxRecDepth 100000 in
theorem t_X10_opened_j95 {x : En} {E : Amd} {D : va_G} {ca : Nat → ClassId} {h : Nat → Nat} (K : Kx x E D (tysOf ca) h (LaM ca h) RX10 cX10_opened 10 8 189) {r0 : Int32} {Mo : Mem} (hR : Rt x D h (LaM ca h) (some .int) (some (.int r0)) Mo) {rec54 : Int32 → Int32 → Int32 → Int32 → Int64 → Int32 → Mem → Option (Int32 × Mem)} (ih54 : ∀ (w0 : Int32) (w1 : Int32) (w2 : Int32) (w3 : Int32) (w4 : Int64) (w5 : Int32) (M : Mem), rec54 w0 w1 w2 w3 w4 w5 M = some (r0, Mo) → Go x D (tysOf ca) h (LaM ca h) 10 M 54 [some (.ref (h 0)), some (.int w0), some (.int w1), some (.int w2), some (.int w3), some (.long w4), none, some (.int w5), none, none] []) (a0 : Int32) (a1 : Int32) (a2 : Int32) (a3 : Int64) (a4 : Int32) (a5 : Int64) (a6 : Int32) (M : Mem) (hf : f_X10_opened_j95 rec54 a0 a1 a2 a3 a4 a5 a6 M = some (r0, Mo)) : Go x D (tysOf ca) h (LaM ca h) 10 M 95 [some (.ref (h 0)), some (.int a0), some (.int a1), some (.int a2), none, some (.long a3), none, some (.int a4), some (.long a5), none] [.int a6] := by
  rw [f_X10_opened_j95] at hf
  refine o_istore K 4 [some (.ref (h 0)), some (.int a0), some (.int a1), some (.int a2), some (.int a6), some (.long a3), none, some (.int a4), some (.long a5), none] dX10_opened_95 (by decide) rfl rfl ?_
  refine o_iload K 4 dX10_opened_97 rfl ?_
  refine o_iload K 7 dX10_opened_99 rfl ?_
  refine o_icmp_ne K 109 dX10_opened_101 (by decide) (fun c21 => ?_) (fun c21 => ?_)
  · have hf := im c21 hf
    refine o_lload K 5 dX10_opened_109 rfl ?_
    refine o_drop [true, true, true, true, true, false, false, true, false, false] (V2 := [some (.ref (h 0)), some (.int a0), some (.int a1), some (.int a2), some (.int a6), none, none, some (.int a4), none, none]) rfl ?_
    exact t_X10_opened_j111 K hR ih54 a0 a1 a2 a6 a4 a3 M hf
  · have hf := ip c21 hf
    refine o_lload K 8 dX10_opened_104 rfl ?_
    refine o_goto K 111 dX10_opened_106 (by decide) ?_
    refine o_drop [true, true, true, true, true, false, false, true, false, false] (V2 := [some (.ref (h 0)), some (.int a0), some (.int a1), some (.int a2), some (.int a6), none, none, some (.int a4), none, none]) rfl ?_
    exact t_X10_opened_j111 K hR ih54 a0 a1 a2 a6 a4 a5 M hf
def f_X10_opened_j88 (rec54 : Int32 → Int32 → Int32 → Int32 → Int64 → Int32 → Mem → Option (Int32 × Mem)) (a0 : Int32) (a1 : Int32) (a2 : Int32) (a3 : Int64) (a4 : Int32) (a5 : Int64) (M : Mem) : Option (Int32 × Mem) := f_X10_opened_j95 rec54 a0 a1 a2 a3 a4 a5 a4 M
set_option maxHeartbeats 4000000 in
set_option maxRecDepth 100000 in
theorem t_X10_opened_j88 {x : En} {E : Amd} {D : va_G} {ca : Nat → ClassId} {h : Nat → Nat} (K : Kx x E D (tysOf ca) h (LaM ca h) RX10 cX10_opened 10 8 189) {r0 : Int32} {Mo : Mem} (hR : Rt x D h (LaM ca h) (some .int) (some (.int r0)) Mo) {rec54 : Int32 → Int32 → Int32 → Int32 → Int64 → Int32 → Mem → Option (Int32 × Mem)} (ih54 : ∀ (w0 : Int32) (w1 : Int32) (w2 : Int32) (w3 : Int32) (w4 : Int64) (w5 : Int32) (M : Mem), rec54 w0 w1 w2 w3 w4 w5 M = some (r0, Mo) → Go x D (tysOf ca) h (LaM ca h) 10 M 54 [some (.ref (h 0)), some (.int w0), some (.int w1), some (.int w2), some (.int w3), some (.long w4), none, some (.int w5), none, none] []) (a0 : Int32) (a1 : Int32) (a2 : Int32) (a3 : Int64) (a4 : Int32) (a5 : Int64) (M : Mem) (hf : f_X10_opened_j88 rec54 a0 a1 a2 a3 a4 a5 M = some (r0, Mo)) : Go x D (tysOf ca) h (LaM ca h) 10 M 88 [some (.ref (h 0)), some (.int a0), some (.int a1), some (.int a2), none, some (.long a3), none, some (.int a4), some (.long a5), none] [] := by
  rw [f_X10_opened_j88] at hf
  refine o_iload K 7 dX10_opened_88 rfl ?_
  refine o_goto K 95 dX10_opened_90 (by decide) ?_
  exact t_X10_opened_j95 K hR ih54 a0 a1 a2 a3 a4 a5 a4 M hf
def f_X10_opened_l54 : Nat → Int32 → Int32 → Int32 → Int32 → Int64 → Int32 → Mem → Option (Int32 × Mem)
  | 0, _, _, _, _, _, _, _ => none
  | n + 1, a0, a1, a2, a3, a4, a5, M => rd M 1 1460 1 fun x12 => if x12 ≤ a5 then (if 0 ≤ a3 then (if a2 = 0 then (some (a3, M)) else some (a4.toInt32, M)) else some (((-1000000005) : Int32), M)) else bd2 (f_X10_offBy M a0 a5 a1) fun r17 M18 => if a3 < 0 then (f_X10_opened_j88 (f_X10_opened_l54 n) a0 a1 a2 a4 a5 r17 M18) else if 0 ≤ (lg_cmp r17 a4) then (f_X10_opened_j95 (f_X10_opened_l54 n) a0 a1 a2 a4 a5 r17 a3 M18) else f_X10_opened_j88 (f_X10_opened_l54 n) a0 a1 a2 a4 a5 r17 M18
set_option maxHeartbeats 4000000 in
set_option maxRecDepth 100000 in
theorem t_X10_opened_l54 {x : En} {E : Amd} {D : va_G} {ca : Nat → ClassId} {h : Nat → Nat} (K : Kx x E D (tysOf ca) h (LaM ca h) RX10 cX10_opened 10 8 189) {r0 : Int32} {Mo : Mem} (hR : Rt x D h (LaM ca h) (some .int) (some (.int r0)) Mo) : ∀ (n : Nat) (a0 : Int32) (a1 : Int32) (a2 : Int32) (a3 : Int32) (a4 : Int64) (a5 : Int32) (M : Mem), f_X10_opened_l54 n a0 a1 a2 a3 a4 a5 M = some (r0, Mo) → Go x D (tysOf ca) h (LaM ca h) 10 M 54 [some (.ref (h 0)), some (.int a0), some (.int a1), some (.int a2), some (.int a3), some (.long a4), none, some (.int a5), none, none] [] := by
  intro n
  induction n with
  | zero =>
    intro a0 a1 a2 a3 a4 a5 M hf
    cases hf
  | succ n ih =>
    intro a0 a1 a2 a3 a4 a5 M hf
    rw [f_X10_opened_l54] at hf
    refine o_iload K 7 dX10_opened_54 rfl ?_
    refine o_aload_n K 0 dX10_opened_56 rfl rfl ?_
    refine gM_9 K dX10_opened_57 ?_
    refine o_iconst K 1 dX10_opened_60 (by decide) ?_
    obtain ⟨g13, x12, ex12, hf⟩ := rd_e hf
    refine lM_1 K g13 dX10_opened_61 ?_
    refine o_nmi ex12 ?_
    refine o_icmp_ge K 119 dX10_opened_62 (by decide) (fun c14 => ?_) (fun c14 => ?_)
    · have hf := ip c14 hf
      refine o_iload K 4 dX10_opened_119 rfl ?_
      refine o_if_ge K 129 dX10_opened_121 (by decide) (fun c15 => ?_) (fun c15 => ?_)
      · have hf := ip c15 hf
        refine o_iload_n K 3 dX10_opened_129 rfl rfl ?_
        refine o_if_ne K 138 dX10_opened_130 (by decide) (fun c16 => ?_) (fun c16 => ?_)
        · have hf := im c16 hf
          refine o_lload K 5 dX10_opened_138 rfl ?_
          refine o_l2i K dX10_opened_140 ?_
          exact e_iret K hf hR dX10_opened_141
        · have hf := ip c16 hf
          refine o_iload K 4 dX10_opened_133 rfl ?_
          refine o_goto K 141 dX10_opened_135 (by decide) ?_
          exact e_iret K hf hR dX10_opened_141
      · have hf := im c15 hf
        refine o_ldc K q1268 dX10_opened_124 ?_
        refine o_goto K 141 dX10_opened_126 (by decide) ?_
        exact e_iret K hf hR dX10_opened_141
    · have hf := im c14 hf
      refine o_aload_n K 0 dX10_opened_65 rfl rfl ?_
      refine o_iload_n K 1 dX10_opened_66 rfl rfl ?_
      refine o_iload K 7 dX10_opened_67 rfl ?_
      refine o_iload_n K 2 dX10_opened_69 rfl rfl ?_
      obtain ⟨r17, M18, er17, hf⟩ := bd2_e hf
      refine o_callV K [.int a0, .int a5, .int a1] (k_X10_offBy x.2.1 E D ca h M a0 a5 a1 er17) s_X10_201 (ltM (by decide)) rfl rfl rfl rfl ⟨by decide, by decide⟩ (Nat.le_of_ble_eq_true rfl) _ rfl dX10_opened_70 ?_
      show Go x D (tysOf ca) h (LaM ca h) 10 M18 73 [some (.ref (h 0)), some (.int a0), some (.int a1), some (.int a2), some (.int a3), some (.long a4), none, some (.int a5), none, none] [.long r17]
      refine o_lstore K 8 [some (.ref (h 0)), some (.int a0), some (.int a1), some (.int a2), some (.int a3), some (.long a4), none, some (.int a5), some (.long r17), none] dX10_opened_73 (by decide) rfl rfl ?_
      refine o_iload K 4 dX10_opened_75 rfl ?_
      refine o_if_lt K 88 dX10_opened_77 (by decide) (fun c19 => ?_) (fun c19 => ?_)
      · have hf := ip c19 hf
        refine o_drop [true, true, true, true, false, true, false, true, true, false] (V2 := [some (.ref (h 0)), some (.int a0), some (.int a1), some (.int a2), none, some (.long a4), none, some (.int a5), some (.long r17), none]) rfl ?_
        exact t_X10_opened_j88 K hR ih a0 a1 a2 a4 a5 r17 M18 hf
      · have hf := im c19 hf
        refine o_lload K 8 dX10_opened_80 rfl ?_
        refine o_lload K 5 dX10_opened_82 rfl ?_
        refine o_lcmp K dX10_opened_84 ?_
        refine o_if_ge K 93 dX10_opened_85 (by decide) (fun c20 => ?_) (fun c20 => ?_)
        · have hf := ip c20 hf
          refine o_iload K 4 dX10_opened_93 rfl ?_
          refine o_drop [true, true, true, true, false, true, false, true, true, false] (V2 := [some (.ref (h 0)), some (.int a0), some (.int a1), some (.int a2), none, some (.long a4), none, some (.int a5), some (.long r17), none]) rfl ?_
          exact t_X10_opened_j95 K hR ih a0 a1 a2 a4 a5 r17 a3 M18 hf
        · have hf := im c20 hf
          refine o_drop [true, true, true, true, false, true, false, true, true, false] (V2 := [some (.ref (h 0)), some (.int a0), some (.int a1), some (.int a2), none, some (.long a4), none, some (.int a5), some (.long r17), none]) rfl ?_
          exact t_X10_opened_j88 K hR ih a0 a1 a2 a4 a5 r17 M18 hf
def f_X10_opened (M : Mem) (a1 : Int32) (a2 : Int32) (a3 : Int32) : Option (Int32 × Mem) := bd (f_X10_isSheet a1) fun r1 => if r1 = 0 then (some (((-1000000001) : Int32), M)) else bd (f_X10_in a2 (0 : Int32) (40 : Int32)) fun r3 => if r3 = 0 then (some (((-1000000001) : Int32), M)) else bd (f_X10_in a3 (0 : Int32) (1 : Int32)) fun r5 => if r5 = 0 then (some (((-1000000001) : Int32), M)) else rd M 17 4 a1 fun x7 => if 0 ≤ x7 then (bd (f_X10_thinks M) fun M11 => f_X10_opened_l54 FU a1 a2 a3 ((-1) : Int32) (0 : Int64) (0 : Int32) M11) else some (((-1000000011) : Int32), M)
set_option maxHeartbeats 4000000 in
set_option maxRecDepth 100000 in
theorem k_X10_opened (l : Launch) (E : Amd) (D : va_G) (ca : Nat → ClassId) (h : Nat → Nat) (M : Mem) (a1 : Int32) (a2 : Int32) (a3 : Int32) {r0 : Int32} {Mo : Mem} (hf : f_X10_opened M a1 a2 a3 = some (r0, Mo)) : Ct l E D (tysOf ca) h (LaM ca h) yX10_opened cX10_opened 10 (some .int) 8 189 [.ref (h 0), .int a1, .int a2, .int a3] M (some (.int r0)) Mo := by
  refine Ct.mk [some (.ref (h 0)), some (.int a1), some (.int a2), some (.int a3), none, none, none, none, none, none] (by decide) (Nat.le_of_ble_eq_true rfl) (argsV [.ref (h 0), .int a1, .int a2, .int a3] 6 rfl rfl) ?_
  intro x hx0 K hR
  have K : Kx x E D (tysOf ca) h (LaM ca h) RX10 cX10_opened 10 8 189 := K
  rw [f_X10_opened] at hf
  refine o_iload_n K 1 dX10_opened_0 rfl rfl ?_
  obtain ⟨r1, er1, hf⟩ := bd_e hf
  refine o_callS K [.int a1] (k_X10_isSheet x.2.1 E D ca h M a1 er1) s_X10_197 rfl ⟨by decide, by decide⟩ (Nat.le_of_ble_eq_true rfl) _ rfl dX10_opened_1 ?_
  show Go x D (tysOf ca) h (LaM ca h) 10 M 4 [some (.ref (h 0)), some (.int a1), some (.int a2), some (.int a3), none, none, none, none, none, none] [.int r1]
  refine o_if_eq K 26 dX10_opened_4 (by decide) (fun c2 => ?_) (fun c2 => ?_)
  · have hf := ip c2 hf
    refine o_ldc K q1102 dX10_opened_26 ?_
    exact e_iret K hf hR dX10_opened_28
  · have hf := im c2 hf
    refine o_iload_n K 2 dX10_opened_7 rfl rfl ?_
    refine o_iconst K 0 dX10_opened_8 (by decide) ?_
    refine o_bipush K 40 dX10_opened_9 (by decide) ?_
    obtain ⟨r3, er3, hf⟩ := bd_e hf
    refine o_callS K [.int a2, .int 0, .int 40] (k_X10_in x.2.1 E D ca h M a2 (0 : Int32) (40 : Int32) er3) s_X10_87 rfl ⟨by decide, by decide⟩ (Nat.le_of_ble_eq_true rfl) _ rfl dX10_opened_11 ?_
    show Go x D (tysOf ca) h (LaM ca h) 10 M 14 [some (.ref (h 0)), some (.int a1), some (.int a2), some (.int a3), none, none, none, none, none, none] [.int r3]
    refine o_if_eq K 26 dX10_opened_14 (by decide) (fun c4 => ?_) (fun c4 => ?_)
    · have hf := ip c4 hf
      refine o_ldc K q1102 dX10_opened_26 ?_
      exact e_iret K hf hR dX10_opened_28
    · have hf := im c4 hf
      refine o_iload_n K 3 dX10_opened_17 rfl rfl ?_
      refine o_iconst K 0 dX10_opened_18 (by decide) ?_
      refine o_iconst K 1 dX10_opened_19 (by decide) ?_
      obtain ⟨r5, er5, hf⟩ := bd_e hf
      refine o_callS K [.int a3, .int 0, .int 1] (k_X10_in x.2.1 E D ca h M a3 (0 : Int32) (1 : Int32) er5) s_X10_87 rfl ⟨by decide, by decide⟩ (Nat.le_of_ble_eq_true rfl) _ rfl dX10_opened_20 ?_
      show Go x D (tysOf ca) h (LaM ca h) 10 M 23 [some (.ref (h 0)), some (.int a1), some (.int a2), some (.int a3), none, none, none, none, none, none] [.int r5]
      refine o_if_ne K 29 dX10_opened_23 (by decide) (fun c6 => ?_) (fun c6 => ?_)
      · have hf := im c6 hf
        refine o_aload_n K 0 dX10_opened_29 rfl rfl ?_
        refine gM_60 K dX10_opened_30 ?_
        refine o_iload_n K 1 dX10_opened_33 rfl rfl ?_
        obtain ⟨g8, x7, ex7, hf⟩ := rd_e hf
        refine lM_17 K g8 dX10_opened_34 ?_
        refine o_nmi ex7 ?_
        refine o_if_ge K 41 dX10_opened_35 (by decide) (fun c9 => ?_) (fun c9 => ?_)
        · have hf := ip c9 hf
          refine o_aload_n K 0 dX10_opened_41 rfl rfl ?_
          obtain ⟨M11, er10, hf⟩ := bd_e hf
          refine o_callV K [] (k_X10_thinks x.2.1 E D ca h M er10) s_X10_176 (ltM (by decide)) rfl rfl rfl rfl ⟨by decide, by decide⟩ (Nat.le_of_ble_eq_true rfl) _ rfl dX10_opened_42 ?_
          show Go x D (tysOf ca) h (LaM ca h) 10 M11 45 [some (.ref (h 0)), some (.int a1), some (.int a2), some (.int a3), none, none, none, none, none, none] []
          refine o_iconst K (-1) dX10_opened_45 (by decide) ?_
          refine o_istore K 4 [some (.ref (h 0)), some (.int a1), some (.int a2), some (.int a3), some (.int (-1)), none, none, none, none, none] dX10_opened_46 (by decide) rfl rfl ?_
          refine o_lconst K 0 dX10_opened_48 rfl ?_
          refine o_lstore K 5 [some (.ref (h 0)), some (.int a1), some (.int a2), some (.int a3), some (.int (-1)), some (.long 0), none, none, none, none] dX10_opened_49 (by decide) rfl rfl ?_
          refine o_iconst K 0 dX10_opened_51 (by decide) ?_
          refine o_istore K 7 [some (.ref (h 0)), some (.int a1), some (.int a2), some (.int a3), some (.int (-1)), some (.long 0), none, some (.int 0), none, none] dX10_opened_52 (by decide) rfl rfl ?_
          exact t_X10_opened_l54 K hR FU a1 a2 a3 ((-1) : Int32) (0 : Int64) (0 : Int32) M11 hf
        · have hf := im c9 hf
          refine o_ldc K q1303 dX10_opened_38 ?_
          exact e_iret K hf hR dX10_opened_40
      · have hf := ip c6 hf
        refine o_ldc K q1102 dX10_opened_26 ?_
        exact e_iret K hf hR dX10_opened_28
def f_X10_fine (M : Mem) : Option (Int32 × Mem) := bd (f_X10_counts M (2 : Int32)) fun r1 => rd M 1 1460 4 fun x2 => wr M 16 4 0 x2 fun M5 => rd M5 1 1460 2 fun x6 => wr M5 16 4 1 x6 fun M9 => if 0 ≤ r1 then (bd2 (f_X10_worksOut M9 r1) fun r11 M12 => some (r11, M12)) else rd M9 1 1460 4 fun x13 => some (x13, M9)
set_option maxHeartbeats 4000000 in
set_option maxRecDepth 100000 in
theorem k_X10_fine (l : Launch) (E : Amd) (D : va_G) (ca : Nat → ClassId) (h : Nat → Nat) (M : Mem) {r0 : Int32} {Mo : Mem} (hf : f_X10_fine M = some (r0, Mo)) : Ct l E D (tysOf ca) h (LaM ca h) yX10_fine cX10_fine 2 (some .int) 2 47 [.ref (h 0)] M (some (.int r0)) Mo := by
  refine Ct.mk [some (.ref (h 0)), none] (by decide) (Nat.le_of_ble_eq_true rfl) (argsV [.ref (h 0)] 1 rfl rfl) ?_
  intro x hx0 K hR
  have K : Kx x E D (tysOf ca) h (LaM ca h) RX10 cX10_fine 2 2 47 := K
  rw [f_X10_fine] at hf
  refine o_aload_n K 0 dX10_fine_0 rfl rfl ?_
  refine o_iconst K 2 dX10_fine_1 (by decide) ?_
  obtain ⟨r1, er1, hf⟩ := bd_e hf
  refine o_callV K [.int 2] (k_X10_counts x.2.1 E D ca h M (2 : Int32) er1) s_X10_105 (ltM (by decide)) rfl rfl rfl rfl ⟨by decide, by decide⟩ (Nat.le_of_ble_eq_true rfl) _ rfl dX10_fine_2 ?_
  show Go x D (tysOf ca) h (LaM ca h) 2 M 5 [some (.ref (h 0)), none] [.int r1]
  refine o_istore_n K 1 [some (.ref (h 0)), some (.int r1)] dX10_fine_5 rfl (by decide) rfl rfl ?_
  refine o_aload_n K 0 dX10_fine_6 rfl rfl ?_
  refine gM_57 K dX10_fine_7 ?_
  refine o_iconst K 0 dX10_fine_10 (by decide) ?_
  refine o_aload_n K 0 dX10_fine_11 rfl rfl ?_
  refine gM_9 K dX10_fine_12 ?_
  refine o_iconst K 4 dX10_fine_15 (by decide) ?_
  obtain ⟨g3, x2, ex2, hf⟩ := rd_e hf
  refine lM_1 K g3 dX10_fine_16 ?_
  refine o_nmi ex2 ?_
  obtain ⟨g4, M5, eM5, hf⟩ := wr_e hf
  refine sM_16 K g4 dX10_fine_17 ?_
  refine o_nmM eM5 ?_
  refine o_aload_n K 0 dX10_fine_18 rfl rfl ?_
  refine gM_57 K dX10_fine_19 ?_
  refine o_iconst K 1 dX10_fine_22 (by decide) ?_
  refine o_aload_n K 0 dX10_fine_23 rfl rfl ?_
  refine gM_9 K dX10_fine_24 ?_
  refine o_iconst K 2 dX10_fine_27 (by decide) ?_
  obtain ⟨g7, x6, ex6, hf⟩ := rd_e hf
  refine lM_1 K g7 dX10_fine_28 ?_
  refine o_nmi ex6 ?_
  obtain ⟨g8, M9, eM9, hf⟩ := wr_e hf
  refine sM_16 K g8 dX10_fine_29 ?_
  refine o_nmM eM9 ?_
  refine o_iload_n K 1 dX10_fine_30 rfl rfl ?_
  refine o_if_ge K 43 dX10_fine_31 (by decide) (fun c10 => ?_) (fun c10 => ?_)
  · have hf := ip c10 hf
    refine o_aload_n K 0 dX10_fine_43 rfl rfl ?_
    refine o_iload_n K 1 dX10_fine_44 rfl rfl ?_
    obtain ⟨r11, M12, er11, hf⟩ := bd2_e hf
    refine o_callV K [.int r1] (k_X10_worksOut x.2.1 E D ca h M9 r1 er11) s_X10_109 (ltM (by decide)) rfl rfl rfl rfl ⟨by decide, by decide⟩ (Nat.le_of_ble_eq_true rfl) _ rfl dX10_fine_45 ?_
    show Go x D (tysOf ca) h (LaM ca h) 2 M12 48 [some (.ref (h 0)), some (.int r1)] [.int r11]
    exact e_iret K hf hR dX10_fine_48
  · have hf := im c10 hf
    refine o_aload_n K 0 dX10_fine_34 rfl rfl ?_
    refine gM_9 K dX10_fine_35 ?_
    refine o_iconst K 4 dX10_fine_38 (by decide) ?_
    obtain ⟨g14, x13, ex13, hf⟩ := rd_e hf
    refine lM_1 K g14 dX10_fine_39 ?_
    refine o_nmi ex13 ?_
    refine o_goto K 48 dX10_fine_40 (by decide) ?_
    exact e_iret K hf hR dX10_fine_48
def f_X10_feed_j47 (rec18 : Int32 → Int32 → Int32 → Int32 → Mem → Option (Int32 × Mem)) (a0 : Int32) (a1 : Int32) (a2 : Int32) (a3 : Int32) (a4 : Int32) (M : Mem) : Option (Int32 × Mem) := wr M 9 96 ((M 0 10) + a3) ((a4 >>> (((24 : Int32) - ((8 : Int32) * (a3 - a3 / 4 * 4))) &&& 31)) &&& 255) fun M7 => nm (a3 + 1 : Int32) fun x8 => rec18 a0 a1 a2 x8 M7
set_option maxHeartbeats 4000000 in
set_option maxRecDepth 100000 in
theorem t_X10_feed_j47 {x : En} {E : Amd} {D : va_G} {ca : Nat → ClassId} {h : Nat → Nat} (K : Kx x E D (tysOf ca) h (LaM ca h) RX10 cX10_feed 6 0 0) {r0 : Int32} {Mo : Mem} (hR : Rt x D h (LaM ca h) (some .int) (some (.int r0)) Mo) {rec18 : Int32 → Int32 → Int32 → Int32 → Mem → Option (Int32 × Mem)} (ih18 : ∀ (w0 : Int32) (w1 : Int32) (w2 : Int32) (w3 : Int32) (M : Mem), rec18 w0 w1 w2 w3 M = some (r0, Mo) → Go x D (tysOf ca) h (LaM ca h) 6 M 18 [some (.ref (h 0)), some (.int w0), some (.int w1), some (.int w2), some (.int w3), none] []) (a0 : Int32) (a1 : Int32) (a2 : Int32) (a3 : Int32) (a4 : Int32) (M : Mem) (hf : f_X10_feed_j47 rec18 a0 a1 a2 a3 a4 M = some (r0, Mo)) : Go x D (tysOf ca) h (LaM ca h) 6 M 47 [some (.ref (h 0)), some (.int a0), some (.int a1), some (.int a2), some (.int a3), none] [.int a4] := by
  rw [f_X10_feed_j47] at hf
  refine o_istore K 5 [some (.ref (h 0)), some (.int a0), some (.int a1), some (.int a2), some (.int a3), some (.int a4)] dX10_feed_47 (by decide) rfl rfl ?_
  refine o_aload_n K 0 dX10_feed_49 rfl rfl ?_
  refine gM_34 K dX10_feed_50 ?_
  refine o_aload_n K 0 dX10_feed_53 rfl rfl ?_
  refine gM_205 K dX10_feed_54 ?_
  refine o_iload K 4 dX10_feed_57 rfl ?_
  refine o_iadd K dX10_feed_59 ?_
  refine o_iload K 5 dX10_feed_60 rfl ?_
  refine o_bipush K 24 dX10_feed_62 (by decide) ?_
  refine o_bipush K 8 dX10_feed_64 (by decide) ?_
  refine o_iload K 4 dX10_feed_66 rfl ?_
  refine o_iconst K 4 dX10_feed_68 (by decide) ?_
  refine o_irem K dX10_feed_69 (by decide) ?_
  refine o_imul K dX10_feed_70 ?_
  refine o_isub K dX10_feed_71 ?_
  refine o_ishr K dX10_feed_72 ?_
  refine o_sipush K 255 dX10_feed_73 (by decide) ?_
  refine o_iand K dX10_feed_76 ?_
  obtain ⟨g6, M7, eM7, hf⟩ := wr_e hf
  refine sM_9 K g6 dX10_feed_77 ?_
  refine o_nmM eM7 ?_
  obtain ⟨x8, ex8, hf⟩ := nm_o hf
  refine o_iinc K 4 x8 [some (.ref (h 0)), some (.int a0), some (.int a1), some (.int a2), some (.int x8), some (.int a4)] dX10_feed_78 rfl (inc_e (by decide) ex8) (by decide) rfl rfl ?_
  refine o_goto K 18 dX10_feed_81 (by decide) ?_
  refine o_drop [true, true, true, true, true, false] (V2 := [some (.ref (h 0)), some (.int a0), some (.int a1), some (.int a2), some (.int x8), none]) rfl ?_
  exact ih18 a0 a1 a2 x8 M7 hf
def f_X10_feed_l18 : Nat → Int32 → Int32 → Int32 → Int32 → Mem → Option (Int32 × Mem)
  | 0, _, _, _, _, _ => none
  | n + 1, a0, a1, a2, a3, M => if 12 ≤ a3 then (nm (sto M 0 10 ((M 0 10) + 12)) fun M3 => some (M3 0 10, M3)) else if 4 ≤ a3 then (if 8 ≤ a3 then (f_X10_feed_j47 (f_X10_feed_l18 n) a0 a1 a2 a3 a2 M) else f_X10_feed_j47 (f_X10_feed_l18 n) a0 a1 a2 a3 a1 M) else f_X10_feed_j47 (f_X10_feed_l18 n) a0 a1 a2 a3 a0 M
set_option maxHeartbeats 4000000 in
set_option maxRecDepth 100000 in
theorem t_X10_feed_l18 {x : En} {E : Amd} {D : va_G} {ca : Nat → ClassId} {h : Nat → Nat} (K : Kx x E D (tysOf ca) h (LaM ca h) RX10 cX10_feed 6 0 0) {r0 : Int32} {Mo : Mem} (hR : Rt x D h (LaM ca h) (some .int) (some (.int r0)) Mo) : ∀ (n : Nat) (a0 : Int32) (a1 : Int32) (a2 : Int32) (a3 : Int32) (M : Mem), f_X10_feed_l18 n a0 a1 a2 a3 M = some (r0, Mo) → Go x D (tysOf ca) h (LaM ca h) 6 M 18 [some (.ref (h 0)), some (.int a0), some (.int a1), some (.int a2), some (.int a3), none] [] := by
  intro n
  induction n with
  | zero =>
    intro a0 a1 a2 a3 M hf
    cases hf
  | succ n ih =>
    intro a0 a1 a2 a3 M hf
    rw [f_X10_feed_l18] at hf
    refine o_iload K 4 dX10_feed_18 rfl ?_
    refine o_bipush K 12 dX10_feed_20 (by decide) ?_
    refine o_icmp_ge K 84 dX10_feed_22 (by decide) (fun c2 => ?_) (fun c2 => ?_)
    · have hf := ip c2 hf
      refine o_aload_n K 0 dX10_feed_84 rfl rfl ?_
      refine o_dup K dX10_feed_85 rfl ?_
      refine gM_205 K dX10_feed_86 ?_
      refine o_bipush K 12 dX10_feed_89 (by decide) ?_
      refine o_iadd K dX10_feed_91 ?_
      obtain ⟨M3, eM3, hf⟩ := nm_o hf
      refine pM_205 K dX10_feed_92 ?_
      refine o_nmM eM3 ?_
      refine o_aload_n K 0 dX10_feed_95 rfl rfl ?_
      refine gM_205 K dX10_feed_96 ?_
      exact e_iret K hf hR dX10_feed_99
    · have hf := im c2 hf
      refine o_iload K 4 dX10_feed_25 rfl ?_
      refine o_iconst K 4 dX10_feed_27 (by decide) ?_
      refine o_icmp_ge K 35 dX10_feed_28 (by decide) (fun c4 => ?_) (fun c4 => ?_)
      · have hf := ip c4 hf
        refine o_iload K 4 dX10_feed_35 rfl ?_
        refine o_bipush K 8 dX10_feed_37 (by decide) ?_
        refine o_icmp_ge K 46 dX10_feed_39 (by decide) (fun c5 => ?_) (fun c5 => ?_)
        · have hf := ip c5 hf
          refine o_iload_n K 3 dX10_feed_46 rfl rfl ?_
          exact t_X10_feed_j47 K hR ih a0 a1 a2 a3 a2 M hf
        · have hf := im c5 hf
          refine o_iload_n K 2 dX10_feed_42 rfl rfl ?_
          refine o_goto K 47 dX10_feed_43 (by decide) ?_
          exact t_X10_feed_j47 K hR ih a0 a1 a2 a3 a1 M hf
      · have hf := im c4 hf
        refine o_iload_n K 1 dX10_feed_31 rfl rfl ?_
        refine o_goto K 47 dX10_feed_32 (by decide) ?_
        exact t_X10_feed_j47 K hR ih a0 a1 a2 a3 a0 M hf
def f_X10_feed (M : Mem) (a1 : Int32) (a2 : Int32) (a3 : Int32) : Option (Int32 × Mem) := if ((M 0 10) + 12) ≤ 96 then (f_X10_feed_l18 FU a1 a2 a3 (0 : Int32) M) else some (((-1000000003) : Int32), M)
set_option maxHeartbeats 4000000 in
set_option maxRecDepth 100000 in
theorem k_X10_feed (l : Launch) (E : Amd) (D : va_G) (ca : Nat → ClassId) (h : Nat → Nat) (M : Mem) (a1 : Int32) (a2 : Int32) (a3 : Int32) {r0 : Int32} {Mo : Mem} (hf : f_X10_feed M a1 a2 a3 = some (r0, Mo)) : Ct l E D (tysOf ca) h (LaM ca h) yX10_feed cX10_feed 6 (some .int) 0 0 [.ref (h 0), .int a1, .int a2, .int a3] M (some (.int r0)) Mo := by
  refine Ct.mk [some (.ref (h 0)), some (.int a1), some (.int a2), some (.int a3), none, none] (by decide) (Nat.le_of_ble_eq_true rfl) (argsV [.ref (h 0), .int a1, .int a2, .int a3] 2 rfl rfl) ?_
  intro x hx0 K hR
  have K : Kx x E D (tysOf ca) h (LaM ca h) RX10 cX10_feed 6 0 0 := K
  rw [f_X10_feed] at hf
  refine o_aload_n K 0 dX10_feed_0 rfl rfl ?_
  refine gM_205 K dX10_feed_1 ?_
  refine o_bipush K 12 dX10_feed_4 (by decide) ?_
  refine o_iadd K dX10_feed_6 ?_
  refine o_bipush K 96 dX10_feed_7 (by decide) ?_
  refine o_icmp_le K 15 dX10_feed_9 (by decide) (fun c1 => ?_) (fun c1 => ?_)
  · have hf := ip c1 hf
    refine o_iconst K 0 dX10_feed_15 (by decide) ?_
    refine o_istore K 4 [some (.ref (h 0)), some (.int a1), some (.int a2), some (.int a3), some (.int 0), none] dX10_feed_16 (by decide) rfl rfl ?_
    exact t_X10_feed_l18 K hR FU a1 a2 a3 (0 : Int32) M hf
  · have hf := im c1 hf
    refine o_ldc K q1103 dX10_feed_12 ?_
    exact e_iret K hf hR dX10_feed_14
