def f_X9_storm_l17 (nl : Nat) : Nat → Int32 → Int32 → Mem → Option (Int32 × Mem)
  | 0, _, _, _ => none
  | n + 1, a0, a1, M => if a1 < 0 then (some (((-1000000005) : Int32), M)) else bd2 (f_X8_allStayLit nl 0 M a1 a0) fun r4 M5 => if r4 = 0 then (nm (a1 + (-100) : Int32) fun x7 => f_X9_storm_l17 nl n a0 x7 M5) else some (a1, M5)
set_option maxHeartbeats 4000000 in
set_option maxRecDepth 100000 in
theorem t_X9_storm_l17 {x : En} {E : Amd} {D : va_G} {ca : Nat → ClassId} {h : Nat → Nat} {nl : Nat} (K : Kx x E D (tysOf ca) h (LaC ca h nl) RX9 cX9_storm 3 6 139) {r0 : Int32} {Mo : Mem} (hR : Rt x D h (LaC ca h nl) (some .int) (some (.int r0)) Mo) : ∀ (n : Nat) (a0 : Int32) (a1 : Int32) (M : Mem), f_X9_storm_l17 nl n a0 a1 M = some (r0, Mo) → Go x D (tysOf ca) h (LaC ca h nl) 3 M 17 [some (.ref (h 0)), some (.int a0), some (.int a1)] [] := by
  intro n
  induction n with
  | zero =>
    intro a0 a1 M hf
    cases hf
  | succ n ih =>
    intro a0 a1 M hf
    rw [f_X9_storm_l17] at hf
    refine o_iload_n K 2 dX9_storm_17 rfl rfl ?_
    refine o_if_lt K 45 dX9_storm_18 (by decide) (fun c3 => ?_) (fun c3 => ?_)
    · have hf := ip c3 hf
      refine o_ldc K q595 dX9_storm_45 ?_
      exact e_iret K hf hR dX9_storm_47
    · have hf := im c3 hf
      refine o_aload_n K 0 dX9_storm_21 rfl rfl ?_
      refine gC_X9_22 K dX9_storm_22 ?_
      refine o_aload_n K 0 dX9_storm_25 rfl rfl ?_
      refine gC_X9_10 K dX9_storm_26 ?_
      refine o_iload_n K 2 dX9_storm_29 rfl rfl ?_
      refine o_iload_n K 1 dX9_storm_30 rfl rfl ?_
      obtain ⟨r4, M5, er4, hf⟩ := bd2_e hf
      refine o_callV K [.ref (h (HB 0)), .int a1, .int a0] (k_X8_allStayLit x.2.1 E D ca h nl M 0 a1 a0 hb_0 er4) s_X9_202 (ltThought) (obThought_c (ca := ca) (h := h) (fun _ => 0)) rfl rfl rfl ⟨by decide, by decide⟩ (Nat.le_of_ble_eq_true rfl) _ rfl dX9_storm_31 ?_
      show Go x D (tysOf ca) h (LaC ca h nl) 3 M5 34 [some (.ref (h 0)), some (.int a0), some (.int a1)] [.int r4]
      refine o_if_eq K 39 dX9_storm_34 (by decide) (fun c6 => ?_) (fun c6 => ?_)
      · have hf := ip c6 hf
        obtain ⟨x7, ex7, hf⟩ := nm_o hf
        refine o_iinc K 2 x7 [some (.ref (h 0)), some (.int a0), some (.int x7)] dX9_storm_39 rfl (inc_e (by decide) ex7) (by decide) rfl rfl ?_
        refine o_goto K 17 dX9_storm_42 (by decide) ?_
        exact ih a0 x7 M5 hf
      · have hf := im c6 hf
        refine o_iload_n K 2 dX9_storm_37 rfl rfl ?_
        exact e_iret K hf hR dX9_storm_38
def f_X9_storm (nl : Nat) (M : Mem) (a1 : Int32) : Option (Int32 × Mem) := bd (f_X9_isWithin a1 (1 : Int32) (20 : Int32)) fun r1 => if r1 = 0 then (some (((-1000000001) : Int32), M)) else f_X9_storm_l17 nl FU a1 (9999 : Int32) M
set_option maxHeartbeats 4000000 in
set_option maxRecDepth 100000 in
theorem k_X9_storm (l : Launch) (E : Amd) (D : va_G) (ca : Nat → ClassId) (h : Nat → Nat) (nl : Nat) (M : Mem) (a1 : Int32) {r0 : Int32} {Mo : Mem} (hf : f_X9_storm nl M a1 = some (r0, Mo)) : Ct l E D (tysOf ca) h (LaC ca h nl) yX9_storm cX9_storm 3 (some .int) 6 139 [.ref (h 0), .int a1] M (some (.int r0)) Mo := by
  refine Ct.mk [some (.ref (h 0)), some (.int a1), none] (by decide) (Nat.le_of_ble_eq_true rfl) (argsV [.ref (h 0), .int a1] 1 rfl rfl) ?_
  intro x hx0 K hR
  have K : Kx x E D (tysOf ca) h (LaC ca h nl) RX9 cX9_storm 3 6 139 := K
  rw [f_X9_storm] at hf
  refine o_iload_n K 1 dX9_storm_0 rfl rfl ?_
  refine o_iconst K 1 dX9_storm_1 (by decide) ?_
  refine o_bipush K 20 dX9_storm_2 (by decide) ?_
  obtain ⟨r1, er1, hf⟩ := bd_e hf
  refine o_callS K [.int a1, .int 1, .int 20] (k_X9_isWithin x.2.1 E D ca h nl M a1 (1 : Int32) (20 : Int32) er1) s_X9_60 rfl ⟨by decide, by decide⟩ (Nat.le_of_ble_eq_true rfl) _ rfl dX9_storm_4 ?_
  show Go x D (tysOf ca) h (LaC ca h nl) 3 M 7 [some (.ref (h 0)), some (.int a1), none] [.int r1]
  refine o_if_ne K 13 dX9_storm_7 (by decide) (fun c2 => ?_) (fun c2 => ?_)
  · have hf := im c2 hf
    refine o_sipush K 9999 dX9_storm_13 (by decide) ?_
    refine o_istore_n K 2 [some (.ref (h 0)), some (.int a1), some (.int 9999)] dX9_storm_16 rfl (by decide) rfl rfl ?_
    exact t_X9_storm_l17 K hR FU a1 (9999 : Int32) M hf
  · have hf := ip c2 hf
    refine o_ldc K q330 dX9_storm_10 ?_
    exact e_iret K hf hR dX9_storm_12
def f_X9_isSheet (a1 : Int32) : Option Int32 := bd (f_X9_isWithin a1 (0 : Int32) (3 : Int32)) fun r1 => gd (bz r1) <| some (r1)
set_option maxHeartbeats 4000000 in
set_option maxRecDepth 100000 in
theorem k_X9_isSheet (l : Launch) (E : Amd) (D : va_G) (ca : Nat → ClassId) (h : Nat → Nat) (nl : Nat) (M : Mem) (a1 : Int32) {r0 : Int32} (hf : f_X9_isSheet a1 = some r0) : Ct l E D (tysOf ca) h (LaC ca h nl) yX9_isSheet cX9_isSheet 1 (some .boolean) 1 22 [.int a1] M (some (.int r0)) M := by
  refine Ct.mk [some (.int a1)] (by decide) (Nat.le_of_ble_eq_true rfl) (argsV [.int a1] 0 rfl rfl) ?_
  intro x hx0 K hR
  have K : Kx x E D (tysOf ca) h (LaC ca h nl) RX9 cX9_isSheet 1 1 22 := K
  rw [f_X9_isSheet] at hf
  refine o_iload_n K 0 dX9_isSheet_0 rfl rfl ?_
  refine o_iconst K 0 dX9_isSheet_1 (by decide) ?_
  refine o_iconst K 3 dX9_isSheet_2 (by decide) ?_
  obtain ⟨r1, er1, hf⟩ := bd_e hf
  refine o_callS K [.int a1, .int 0, .int 3] (k_X9_isWithin x.2.1 E D ca h nl M a1 (0 : Int32) (3 : Int32) er1) s_X9_60 rfl ⟨by decide, by decide⟩ (Nat.le_of_ble_eq_true rfl) _ rfl dX9_isSheet_3 ?_
  show Go x D (tysOf ca) h (LaC ca h nl) 1 M 6 [some (.int a1)] [.int r1]
  obtain ⟨g2, hf⟩ := gd_e hf
  exact r_zret K hf hR g2 dX9_isSheet_6
def f_X9_opened (nl : Nat) (M : Mem) (a1 : Int32) (a2 : Int32) (a3 : Int32) : Option (Int32 × Mem) := bd (f_X9_isSheet a1) fun r1 => if r1 = 0 then (some (((-1000000001) : Int32), M)) else bd (f_X9_isWithin a2 (0 : Int32) (40 : Int32)) fun r3 => if r3 = 0 then (some (((-1000000001) : Int32), M)) else bd (f_X9_isWithin a3 (0 : Int32) (1 : Int32)) fun r5 => if r5 = 0 then (some (((-1000000001) : Int32), M)) else gd (ib a1 4) <| nm (57 + 2 * ix a1) fun s8 => bd (f_X6_isMissing s8 M) fun r9 => if r9 = 0 then (gd (ib a1 4) <| nm (57 + 2 * ix a1) fun s12 => bd2 (f_X8_likeliestDoor nl 0 s12 M a2) fun r13 M14 => if r13 = (-1000000005) then (some (r13, M14)) else if a3 = 0 then (some (r13, M14)) else gd (ib a1 4) <| nm (57 + 2 * ix a1) fun s18 => bd2 (f_X8_differenceWith nl 0 s18 M14 r13 a2) fun r19 M20 => some (r19, M20)) else some (((-1000000011) : Int32), M)
set_option maxHeartbeats 4000000 in
set_option maxRecDepth 100000 in
theorem k_X9_opened (l : Launch) (E : Amd) (D : va_G) (ca : Nat → ClassId) (h : Nat → Nat) (nl : Nat) (M : Mem) (a1 : Int32) (a2 : Int32) (a3 : Int32) {r0 : Int32} {Mo : Mem} (hf : f_X9_opened nl M a1 a2 a3 = some (r0, Mo)) : Ct l E D (tysOf ca) h (LaC ca h nl) yX9_opened cX9_opened 5 (some .int) 6 140 [.ref (h 0), .int a1, .int a2, .int a3] M (some (.int r0)) Mo := by
  refine Ct.mk [some (.ref (h 0)), some (.int a1), some (.int a2), some (.int a3), none] (by decide) (Nat.le_of_ble_eq_true rfl) (argsV [.ref (h 0), .int a1, .int a2, .int a3] 1 rfl rfl) ?_
  intro x hx0 K hR
  have K : Kx x E D (tysOf ca) h (LaC ca h nl) RX9 cX9_opened 5 6 140 := K
  rw [f_X9_opened] at hf
  refine o_iload_n K 1 dX9_opened_0 rfl rfl ?_
  obtain ⟨r1, er1, hf⟩ := bd_e hf
  refine o_callS K [.int a1] (k_X9_isSheet x.2.1 E D ca h nl M a1 er1) s_X9_207 rfl ⟨by decide, by decide⟩ (Nat.le_of_ble_eq_true rfl) _ rfl dX9_opened_1 ?_
  show Go x D (tysOf ca) h (LaC ca h nl) 5 M 4 [some (.ref (h 0)), some (.int a1), some (.int a2), some (.int a3), none] [.int r1]
  refine o_if_eq K 26 dX9_opened_4 (by decide) (fun c2 => ?_) (fun c2 => ?_)
  · have hf := ip c2 hf
    refine o_ldc K q330 dX9_opened_26 ?_
    exact e_iret K hf hR dX9_opened_28
  · have hf := im c2 hf
    refine o_iload_n K 2 dX9_opened_7 rfl rfl ?_
    refine o_iconst K 0 dX9_opened_8 (by decide) ?_
    refine o_bipush K 40 dX9_opened_9 (by decide) ?_
    obtain ⟨r3, er3, hf⟩ := bd_e hf
    refine o_callS K [.int a2, .int 0, .int 40] (k_X9_isWithin x.2.1 E D ca h nl M a2 (0 : Int32) (40 : Int32) er3) s_X9_60 rfl ⟨by decide, by decide⟩ (Nat.le_of_ble_eq_true rfl) _ rfl dX9_opened_11 ?_
    show Go x D (tysOf ca) h (LaC ca h nl) 5 M 14 [some (.ref (h 0)), some (.int a1), some (.int a2), some (.int a3), none] [.int r3]
    refine o_if_eq K 26 dX9_opened_14 (by decide) (fun c4 => ?_) (fun c4 => ?_)
    · have hf := ip c4 hf
      refine o_ldc K q330 dX9_opened_26 ?_
      exact e_iret K hf hR dX9_opened_28
    · have hf := im c4 hf
      refine o_iload_n K 3 dX9_opened_17 rfl rfl ?_
      refine o_iconst K 0 dX9_opened_18 (by decide) ?_
      refine o_iconst K 1 dX9_opened_19 (by decide) ?_
      obtain ⟨r5, er5, hf⟩ := bd_e hf
      refine o_callS K [.int a3, .int 0, .int 1] (k_X9_isWithin x.2.1 E D ca h nl M a3 (0 : Int32) (1 : Int32) er5) s_X9_60 rfl ⟨by decide, by decide⟩ (Nat.le_of_ble_eq_true rfl) _ rfl dX9_opened_20 ?_
      show Go x D (tysOf ca) h (LaC ca h nl) 5 M 23 [some (.ref (h 0)), some (.int a1), some (.int a2), some (.int a3), none] [.int r5]
      refine o_if_ne K 29 dX9_opened_23 (by decide) (fun c6 => ?_) (fun c6 => ?_)
      · have hf := im c6 hf
        refine o_aload_n K 0 dX9_opened_29 rfl rfl ?_
        refine gC_X9_35 K dX9_opened_30 ?_
        refine o_iload_n K 1 dX9_opened_33 rfl rfl ?_
        obtain ⟨g7, hf⟩ := gd_e hf
        obtain ⟨s8, es8, hf⟩ := nm_o hf
        have hs8 : ShOK ca h s8 := shA g7 es8
        refine aSheets K g7 es8 dX9_opened_34 ?_
        obtain ⟨r9, er9, hf⟩ := bd_e hf
        refine o_callV K [] (k_X6_isMissing x.2.1 E D ca h nl M s8 hs8 er9) s_X9_210 (ltSheet hs8) (obSheet_c (ca := ca) (h := h) hs8 _) rfl rfl rfl ⟨by decide, by decide⟩ (Nat.le_of_ble_eq_true rfl) _ rfl dX9_opened_35 ?_
        show Go x D (tysOf ca) h (LaC ca h nl) 5 M 38 [some (.ref (h 0)), some (.int a1), some (.int a2), some (.int a3), none] [.int r9]
        refine o_if_eq K 44 dX9_opened_38 (by decide) (fun c10 => ?_) (fun c10 => ?_)
        · have hf := ip c10 hf
          refine o_aload_n K 0 dX9_opened_44 rfl rfl ?_
          refine gC_X9_22 K dX9_opened_45 ?_
          refine o_aload_n K 0 dX9_opened_48 rfl rfl ?_
          refine gC_X9_10 K dX9_opened_49 ?_
          refine o_aload_n K 0 dX9_opened_52 rfl rfl ?_
          refine gC_X9_35 K dX9_opened_53 ?_
          refine o_iload_n K 1 dX9_opened_56 rfl rfl ?_
          obtain ⟨g11, hf⟩ := gd_e hf
          obtain ⟨s12, es12, hf⟩ := nm_o hf
          have hs12 : ShOK ca h s12 := shA g11 es12
          refine aSheets K g11 es12 dX9_opened_57 ?_
          refine o_iload_n K 2 dX9_opened_58 rfl rfl ?_
          obtain ⟨r13, M14, er13, hf⟩ := bd2_e hf
          refine o_callV K [.ref (h (HB 0)), .ref (h s12), .int a2] (k_X8_likeliestDoor x.2.1 E D ca h nl M 0 s12 a2 hb_0 hs12 er13) s_X9_215 (ltThought) (obThought_c (ca := ca) (h := h) (fun _ => 0)) rfl rfl rfl ⟨by decide, by decide⟩ (Nat.le_of_ble_eq_true rfl) _ rfl dX9_opened_59 ?_
          show Go x D (tysOf ca) h (LaC ca h nl) 5 M14 62 [some (.ref (h 0)), some (.int a1), some (.int a2), some (.int a3), none] [.int r13]
          refine o_istore K 4 [some (.ref (h 0)), some (.int a1), some (.int a2), some (.int a3), some (.int r13)] dX9_opened_62 (by decide) rfl rfl ?_
          refine o_iload K 4 dX9_opened_64 rfl ?_
          refine o_ldc K q595 dX9_opened_66 ?_
          refine o_icmp_eq K 75 dX9_opened_68 (by decide) (fun c15 => ?_) (fun c15 => ?_)
          · have hf := ip c15 hf
            refine o_iload K 4 dX9_opened_75 rfl ?_
            exact e_iret K hf hR dX9_opened_77
          · have hf := im c15 hf
            refine o_iload_n K 3 dX9_opened_71 rfl rfl ?_
            refine o_if_ne K 78 dX9_opened_72 (by decide) (fun c16 => ?_) (fun c16 => ?_)
            · have hf := im c16 hf
              refine o_aload_n K 0 dX9_opened_78 rfl rfl ?_
              refine gC_X9_22 K dX9_opened_79 ?_
              refine o_aload_n K 0 dX9_opened_82 rfl rfl ?_
              refine gC_X9_10 K dX9_opened_83 ?_
              refine o_aload_n K 0 dX9_opened_86 rfl rfl ?_
              refine gC_X9_35 K dX9_opened_87 ?_
              refine o_iload_n K 1 dX9_opened_90 rfl rfl ?_
              obtain ⟨g17, hf⟩ := gd_e hf
              obtain ⟨s18, es18, hf⟩ := nm_o hf
              have hs18 : ShOK ca h s18 := shA g17 es18
              refine aSheets K g17 es18 dX9_opened_91 ?_
              refine o_iload K 4 dX9_opened_92 rfl ?_
              refine o_iload_n K 2 dX9_opened_94 rfl rfl ?_
              obtain ⟨r19, M20, er19, hf⟩ := bd2_e hf
              refine o_callV K [.ref (h (HB 0)), .ref (h s18), .int r13, .int a2] (k_X8_differenceWith x.2.1 E D ca h nl M14 0 s18 r13 a2 hb_0 hs18 er19) s_X9_219 (ltThought) (obThought_c (ca := ca) (h := h) (fun _ => 0)) rfl rfl rfl ⟨by decide, by decide⟩ (Nat.le_of_ble_eq_true rfl) _ rfl dX9_opened_95 ?_
              show Go x D (tysOf ca) h (LaC ca h nl) 5 M20 98 [some (.ref (h 0)), some (.int a1), some (.int a2), some (.int a3), some (.int r13)] [.int r19]
              exact e_iret K hf hR dX9_opened_98
            · have hf := ip c16 hf
              refine o_iload K 4 dX9_opened_75 rfl ?_
              exact e_iret K hf hR dX9_opened_77
        · have hf := im c10 hf
          refine o_ldc K q607 dX9_opened_41 ?_
          exact e_iret K hf hR dX9_opened_43
      · have hf := ip c6 hf
        refine o_ldc K q330 dX9_opened_26 ?_
        exact e_iret K hf hR dX9_opened_28
def f_X9_fine (nl : Nat) (M : Mem) : Option (Int32 × Mem) := bd2 (f_X5_valueOf nl 0 M (2 : Int32) (M (HB 0) 6) (M (HB 0) 7) (M (HB 0) 6)) fun r1 M2 => some (r1, M2)
set_option maxHeartbeats 4000000 in
set_option maxRecDepth 100000 in
theorem k_X9_fine (l : Launch) (E : Amd) (D : va_G) (ca : Nat → ClassId) (h : Nat → Nat) (nl : Nat) (M : Mem) {r0 : Int32} {Mo : Mem} (hf : f_X9_fine nl M = some (r0, Mo)) : Ct l E D (tysOf ca) h (LaC ca h nl) yX9_fine cX9_fine 1 (some .int) 3 73 [.ref (h 0)] M (some (.int r0)) Mo := by
  refine Ct.mk [some (.ref (h 0))] (by decide) (Nat.le_of_ble_eq_true rfl) (argsV [.ref (h 0)] 0 rfl rfl) ?_
  intro x hx0 K hR
  have K : Kx x E D (tysOf ca) h (LaC ca h nl) RX9 cX9_fine 1 3 73 := K
  rw [f_X9_fine] at hf
  refine o_aload_n K 0 dX9_fine_0 rfl rfl ?_
  refine gC_X9_10 K dX9_fine_1 ?_
  refine gC_X9_223 hb_0 K dX9_fine_4 ?_
  refine o_iconst K 2 dX9_fine_7 (by decide) ?_
  refine o_aload_n K 0 dX9_fine_8 rfl rfl ?_
  refine gC_X9_10 K dX9_fine_9 ?_
  refine gC_X9_167 hb_0 K dX9_fine_12 ?_
  refine o_aload_n K 0 dX9_fine_15 rfl rfl ?_
  refine gC_X9_10 K dX9_fine_16 ?_
  refine gC_X9_229 hb_0 K dX9_fine_19 ?_
  refine o_aload_n K 0 dX9_fine_22 rfl rfl ?_
  refine gC_X9_10 K dX9_fine_23 ?_
  refine gC_X9_167 hb_0 K dX9_fine_26 ?_
  obtain ⟨r1, M2, er1, hf⟩ := bd2_e hf
  refine o_callV K [.int 2, .int (M (HB 0) 6), .int (M (HB 0) 7), .int (M (HB 0) 6)] (k_X5_valueOf x.2.1 E D ca h nl M 0 (2 : Int32) (M (HB 0) 6) (M (HB 0) 7) (M (HB 0) 6) hb_0 er1) s_X9_232 (ltLaws hb_0) (obLaws_c (ca := ca) (h := h) hb_0 _) rfl rfl rfl ⟨by decide, by decide⟩ (Nat.le_of_ble_eq_true rfl) _ rfl dX9_fine_29 ?_
  show Go x D (tysOf ca) h (LaC ca h nl) 1 M2 32 [some (.ref (h 0))] [.int r1]
  exact e_iret K hf hR dX9_fine_32
def f_X9_feed (M : Mem) (a1 : Int32) (a2 : Int32) (a3 : Int32) : Option (Int32 × Mem) := if ((M 54 1) + 12) ≤ 96 then (bd (f_X4_putBytes M a1) fun M3 => bd (f_X4_putBytes M3 a2) fun M5 => bd (f_X4_putBytes M5 a3) fun M7 => some (M7 54 1, M7)) else some (((-1000000003) : Int32), M)
set_option maxHeartbeats 4000000 in
set_option maxRecDepth 100000 in
theorem k_X9_feed (l : Launch) (E : Amd) (D : va_G) (ca : Nat → ClassId) (h : Nat → Nat) (nl : Nat) (M : Mem) (a1 : Int32) (a2 : Int32) (a3 : Int32) {r0 : Int32} {Mo : Mem} (hf : f_X9_feed M a1 a2 a3 = some (r0, Mo)) : Ct l E D (tysOf ca) h (LaC ca h nl) yX9_feed cX9_feed 4 (some .int) 1 22 [.ref (h 0), .int a1, .int a2, .int a3] M (some (.int r0)) Mo := by
  refine Ct.mk [some (.ref (h 0)), some (.int a1), some (.int a2), some (.int a3)] (by decide) (Nat.le_of_ble_eq_true rfl) (argsV [.ref (h 0), .int a1, .int a2, .int a3] 0 rfl rfl) ?_
  intro x hx0 K hR
  have K : Kx x E D (tysOf ca) h (LaC ca h nl) RX9 cX9_feed 4 1 22 := K
  rw [f_X9_feed] at hf
  refine o_aload_n K 0 dX9_feed_0 rfl rfl ?_
  refine gC_X9_29 K dX9_feed_1 ?_
  refine gC_X9_235 K dX9_feed_4 ?_
  refine o_bipush K 12 dX9_feed_7 (by decide) ?_
  refine o_iadd K dX9_feed_9 ?_
  refine o_bipush K 96 dX9_feed_10 (by decide) ?_
  refine o_icmp_le K 18 dX9_feed_12 (by decide) (fun c1 => ?_) (fun c1 => ?_)
  · have hf := ip c1 hf
    refine o_aload_n K 0 dX9_feed_18 rfl rfl ?_
    refine gC_X9_29 K dX9_feed_19 ?_
    refine o_iload_n K 1 dX9_feed_22 rfl rfl ?_
    obtain ⟨M3, er2, hf⟩ := bd_e hf
    refine o_callV K [.int a1] (k_X4_putBytes x.2.1 E D ca h nl M a1 er2) s_X9_238 (ltReader) (obReader_c (ca := ca) (h := h) _) rfl rfl rfl ⟨by decide, by decide⟩ (Nat.le_of_ble_eq_true rfl) _ rfl dX9_feed_23 ?_
    show Go x D (tysOf ca) h (LaC ca h nl) 4 M3 26 [some (.ref (h 0)), some (.int a1), some (.int a2), some (.int a3)] []
    refine o_aload_n K 0 dX9_feed_26 rfl rfl ?_
    refine gC_X9_29 K dX9_feed_27 ?_
    refine o_iload_n K 2 dX9_feed_30 rfl rfl ?_
    obtain ⟨M5, er4, hf⟩ := bd_e hf
    refine o_callV K [.int a2] (k_X4_putBytes x.2.1 E D ca h nl M3 a2 er4) s_X9_238 (ltReader) (obReader_c (ca := ca) (h := h) _) rfl rfl rfl ⟨by decide, by decide⟩ (Nat.le_of_ble_eq_true rfl) _ rfl dX9_feed_31 ?_
    show Go x D (tysOf ca) h (LaC ca h nl) 4 M5 34 [some (.ref (h 0)), some (.int a1), some (.int a2), some (.int a3)] []
    refine o_aload_n K 0 dX9_feed_34 rfl rfl ?_
    refine gC_X9_29 K dX9_feed_35 ?_
    refine o_iload_n K 3 dX9_feed_38 rfl rfl ?_
    obtain ⟨M7, er6, hf⟩ := bd_e hf
    refine o_callV K [.int a3] (k_X4_putBytes x.2.1 E D ca h nl M5 a3 er6) s_X9_238 (ltReader) (obReader_c (ca := ca) (h := h) _) rfl rfl rfl ⟨by decide, by decide⟩ (Nat.le_of_ble_eq_true rfl) _ rfl dX9_feed_39 ?_
    show Go x D (tysOf ca) h (LaC ca h nl) 4 M7 42 [some (.ref (h 0)), some (.int a1), some (.int a2), some (.int a3)] []
    refine o_aload_n K 0 dX9_feed_42 rfl rfl ?_
    refine gC_X9_29 K dX9_feed_43 ?_
    refine gC_X9_235 K dX9_feed_46 ?_
    exact e_iret K hf hR dX9_feed_49
  · have hf := im c1 hf
    refine o_ldc K q331 dX9_feed_15 ?_
    exact e_iret K hf hR dX9_feed_17
def f_X9_trim (M : Mem) (a1 : Int32) : Option (Int32 × Mem) := bd (f_X9_isWithin a1 (0 : Int32) (M 54 1)) fun r1 => if r1 = 0 then (some (((-1000000001) : Int32), M)) else nm (sto M 54 1 a1) fun M3 => some (a1, M3)
set_option maxHeartbeats 4000000 in
set_option maxRecDepth 100000 in
theorem k_X9_trim (l : Launch) (E : Amd) (D : va_G) (ca : Nat → ClassId) (h : Nat → Nat) (nl : Nat) (M : Mem) (a1 : Int32) {r0 : Int32} {Mo : Mem} (hf : f_X9_trim M a1 = some (r0, Mo)) : Ct l E D (tysOf ca) h (LaC ca h nl) yX9_trim cX9_trim 2 (some .int) 1 22 [.ref (h 0), .int a1] M (some (.int r0)) Mo := by
  refine Ct.mk [some (.ref (h 0)), some (.int a1)] (by decide) (Nat.le_of_ble_eq_true rfl) (argsV [.ref (h 0), .int a1] 0 rfl rfl) ?_
  intro x hx0 K hR
  have K : Kx x E D (tysOf ca) h (LaC ca h nl) RX9 cX9_trim 2 1 22 := K
  rw [f_X9_trim] at hf
  refine o_iload_n K 1 dX9_trim_0 rfl rfl ?_
  refine o_iconst K 0 dX9_trim_1 (by decide) ?_
  refine o_aload_n K 0 dX9_trim_2 rfl rfl ?_
  refine gC_X9_29 K dX9_trim_3 ?_
  refine gC_X9_235 K dX9_trim_6 ?_
  obtain ⟨r1, er1, hf⟩ := bd_e hf
  refine o_callS K [.int a1, .int 0, .int (M 54 1)] (k_X9_isWithin x.2.1 E D ca h nl M a1 (0 : Int32) (M 54 1) er1) s_X9_60 rfl ⟨by decide, by decide⟩ (Nat.le_of_ble_eq_true rfl) _ rfl dX9_trim_9 ?_
  show Go x D (tysOf ca) h (LaC ca h nl) 2 M 12 [some (.ref (h 0)), some (.int a1)] [.int r1]
  refine o_if_ne K 18 dX9_trim_12 (by decide) (fun c2 => ?_) (fun c2 => ?_)
  · have hf := im c2 hf
    refine o_aload_n K 0 dX9_trim_18 rfl rfl ?_
    refine gC_X9_29 K dX9_trim_19 ?_
    refine o_iload_n K 1 dX9_trim_22 rfl rfl ?_
    obtain ⟨M3, eM3, hf⟩ := nm_o hf
    refine pC_X9_235 K dX9_trim_23 ?_
    refine o_nmM eM3 ?_
    refine o_iload_n K 1 dX9_trim_26 rfl rfl ?_
    exact e_iret K hf hR dX9_trim_27
  · have hf := ip c2 hf
    refine o_ldc K q330 dX9_trim_15 ?_
    exact e_iret K hf hR dX9_trim_17
def f_X9_textTold (nl : Nat) (M : Mem) (a1 : Int32) (a2 : Int32) : Option Int32 := bd (f_X5_lawAt nl 0 M a1) fun r1 => if r1 = 0 then (some (((-1000000001) : Int32))) else gd (lok nl r1) <| nm (ix r1) fun c4 => bd (f_X9_isWithin a2 (0 : Int32) (1 : Int32)) fun r5 => if r5 = 0 then (some (((-1000000001) : Int32))) else if a2 = 0 then (some (M (80 + 2 * c4) 0)) else some (M (80 + 2 * c4) 1)
set_option maxHeartbeats 4000000 in
set_option maxRecDepth 100000 in
theorem k_X9_textTold (l : Launch) (E : Amd) (D : va_G) (ca : Nat → ClassId) (h : Nat → Nat) (nl : Nat) (M : Mem) (a1 : Int32) (a2 : Int32) {r0 : Int32} (hf : f_X9_textTold nl M a1 a2 = some r0) : Ct l E D (tysOf ca) h (LaC ca h nl) yX9_textTold cX9_textTold 4 (some .int) 2 43 [.ref (h 0), .int a1, .int a2] M (some (.int r0)) M := by
  refine Ct.mk [some (.ref (h 0)), some (.int a1), some (.int a2), none] (by decide) (Nat.le_of_ble_eq_true rfl) (argsV [.ref (h 0), .int a1, .int a2] 1 rfl rfl) ?_
  intro x hx0 K hR
  have K : Kx x E D (tysOf ca) h (LaC ca h nl) RX9 cX9_textTold 4 2 43 := K
  rw [f_X9_textTold] at hf
  refine o_aload_n K 0 dX9_textTold_0 rfl rfl ?_
  refine gC_X9_10 K dX9_textTold_1 ?_
  refine gC_X9_223 hb_0 K dX9_textTold_4 ?_
  refine o_iload_n K 1 dX9_textTold_7 rfl rfl ?_
  obtain ⟨r1, er1, hf⟩ := bd_e hf
  refine o_callV K [.int a1] (k_X5_lawAt x.2.1 E D ca h nl M 0 a1 hb_0 er1) s_X9_252 (ltLaws hb_0) (obLaws_c (ca := ca) (h := h) hb_0 _) rfl rfl rfl ⟨by decide, by decide⟩ (Nat.le_of_ble_eq_true rfl) _ rfl dX9_textTold_8 ?_
  show Go x D (tysOf ca) h (LaC ca h nl) 4 M 11 [some (.ref (h 0)), some (.int a1), some (.int a2), none] [va_rf (lawAd h r1)]
  by_cases c2 : r1 = 0
  · have hf := ip c2 hf
    refine o_unull c2 ?_
    refine o_astore_nN K 3 [some (.ref (h 0)), some (.int a1), some (.int a2), some (.null)] dX9_textTold_11 rfl (by decide) rfl rfl ?_
    refine o_aload_nN K 3 dX9_textTold_12 rfl rfl ?_
    refine o_ifnullN K 25 dX9_textTold_13 (by decide) ?_
    refine o_ldc K q330 dX9_textTold_25 ?_
    exact r_iret K hf hR dX9_textTold_27
  have hf := im c2 hf
  obtain ⟨g3, hf⟩ := gd_e hf
  obtain ⟨c4, ec4, hf⟩ := nm_o hf
  have hc4 := lok_e g3 ec4
  refine o_uref c2 ec4 ?_
  refine o_astore_n K 3 [some (.ref (h 0)), some (.int a1), some (.int a2), some (.ref (h (80 + 2 * c4)))] dX9_textTold_11 rfl (by decide) rfl rfl ?_
  refine o_aload_n K 3 dX9_textTold_12 rfl rfl ?_
  refine o_ifnull K dX9_textTold_13 ?_
  refine o_iload_n K 2 dX9_textTold_16 rfl rfl ?_
  refine o_iconst K 0 dX9_textTold_17 (by decide) ?_
  refine o_iconst K 1 dX9_textTold_18 (by decide) ?_
  obtain ⟨r5, er5, hf⟩ := bd_e hf
  refine o_callS K [.int a2, .int 0, .int 1] (k_X9_isWithin x.2.1 E D ca h nl M a2 (0 : Int32) (1 : Int32) er5) s_X9_60 rfl ⟨by decide, by decide⟩ (Nat.le_of_ble_eq_true rfl) _ rfl dX9_textTold_19 ?_
  show Go x D (tysOf ca) h (LaC ca h nl) 4 M 22 [some (.ref (h 0)), some (.int a1), some (.int a2), some (.ref (h (80 + 2 * c4)))] [.int r5]
  refine o_if_ne K 28 dX9_textTold_22 (by decide) (fun c6 => ?_) (fun c6 => ?_)
  · have hf := im c6 hf
    refine o_iload_n K 2 dX9_textTold_28 rfl rfl ?_
    refine o_if_ne K 39 dX9_textTold_29 (by decide) (fun c7 => ?_) (fun c7 => ?_)
    · have hf := im c7 hf
      refine o_aload_n K 3 dX9_textTold_39 rfl rfl ?_
      refine gC_X9_261 hc4 K dX9_textTold_40 ?_
      exact r_iret K hf hR dX9_textTold_43
    · have hf := ip c7 hf
      refine o_aload_n K 3 dX9_textTold_32 rfl rfl ?_
      refine gC_X9_256 hc4 K dX9_textTold_33 ?_
      refine o_goto K 43 dX9_textTold_36 (by decide) ?_
      exact r_iret K hf hR dX9_textTold_43
  · have hf := ip c6 hf
    refine o_ldc K q330 dX9_textTold_25 ?_
    exact r_iret K hf hR dX9_textTold_27
def f_X9_why (M : Mem) (a1 : Int32) : Option Int32 := bd (f_X9_isWithin a1 (0 : Int32) (2 : Int32)) fun r1 => if r1 = 0 then (some (((-1000000001) : Int32))) else rd M (HB 0 + 7) 3 a1 fun x3 => some (x3)
set_option maxHeartbeats 4000000 in
set_option maxRecDepth 100000 in
theorem k_X9_why (l : Launch) (E : Amd) (D : va_G) (ca : Nat → ClassId) (h : Nat → Nat) (nl : Nat) (M : Mem) (a1 : Int32) {r0 : Int32} (hf : f_X9_why M a1 = some r0) : Ct l E D (tysOf ca) h (LaC ca h nl) yX9_why cX9_why 2 (some .int) 1 22 [.ref (h 0), .int a1] M (some (.int r0)) M := by
  refine Ct.mk [some (.ref (h 0)), some (.int a1)] (by decide) (Nat.le_of_ble_eq_true rfl) (argsV [.ref (h 0), .int a1] 0 rfl rfl) ?_
  intro x hx0 K hR
  have K : Kx x E D (tysOf ca) h (LaC ca h nl) RX9 cX9_why 2 1 22 := K
  rw [f_X9_why] at hf
  refine o_iload_n K 1 dX9_why_0 rfl rfl ?_
  refine o_iconst K 0 dX9_why_1 (by decide) ?_
  refine o_iconst K 2 dX9_why_2 (by decide) ?_
  obtain ⟨r1, er1, hf⟩ := bd_e hf
  refine o_callS K [.int a1, .int 0, .int 2] (k_X9_isWithin x.2.1 E D ca h nl M a1 (0 : Int32) (2 : Int32) er1) s_X9_60 rfl ⟨by decide, by decide⟩ (Nat.le_of_ble_eq_true rfl) _ rfl dX9_why_3 ?_
  show Go x D (tysOf ca) h (LaC ca h nl) 2 M 6 [some (.ref (h 0)), some (.int a1)] [.int r1]
  refine o_if_ne K 12 dX9_why_6 (by decide) (fun c2 => ?_) (fun c2 => ?_)
  · have hf := im c2 hf
    refine o_aload_n K 0 dX9_why_12 rfl rfl ?_
    refine gC_X9_10 K dX9_why_13 ?_
    refine gC_X9_223 hb_0 K dX9_why_16 ?_
    refine gC_X9_264 hb_0 K dX9_why_19 ?_
    refine o_iload_n K 1 dX9_why_22 rfl rfl ?_
    obtain ⟨g4, x3, ex3, hf⟩ := rd_e hf
    refine lCh hb_0 7 3 (by decide) (fun _ => rfl) K g4 dX9_why_23 ?_
    refine o_nmi ex3 ?_
    exact r_iret K hf hR dX9_why_24
  · have hf := ip c2 hf
    refine o_ldc K q330 dX9_why_9 ?_
    exact r_iret K hf hR dX9_why_11
def f_X9_sheet (M : Mem) (a1 : Int32) (a2 : Int32) (a3 : Int32) : Option (Int32 × Mem) := bd (f_X9_isSheet a1) fun r1 => if r1 = 0 then (some (((-1000000001) : Int32), M)) else bd (f_X9_isWithin a2 ((-1) : Int32) (1 : Int32)) fun r3 => if r3 = 0 then (some (((-1000000001) : Int32), M)) else if a2 = (-1) then (gd (ib a1 4) <| nm (57 + 2 * ix a1) fun s13 => bd (f_X6_become s13 M ((-1) : Int32) (0 : Int32)) fun M15 => some ((0 : Int32), M15)) else if a3 ≤ 24 then (if 0 ≤ a3 then (gd (ib a1 4) <| nm (57 + 2 * ix a1) fun s9 => bd (f_X6_become s9 M a2 a3) fun M11 => some (a3, M11)) else some (((-1000000014) : Int32), M)) else some (((-1000000001) : Int32), M)
set_option maxHeartbeats 4000000 in
set_option maxRecDepth 100000 in
theorem k_X9_sheet (l : Launch) (E : Amd) (D : va_G) (ca : Nat → ClassId) (h : Nat → Nat) (nl : Nat) (M : Mem) (a1 : Int32) (a2 : Int32) (a3 : Int32) {r0 : Int32} {Mo : Mem} (hf : f_X9_sheet M a1 a2 a3 = some (r0, Mo)) : Ct l E D (tysOf ca) h (LaC ca h nl) yX9_sheet cX9_sheet 4 (some .int) 2 45 [.ref (h 0), .int a1, .int a2, .int a3] M (some (.int r0)) Mo := by
  refine Ct.mk [some (.ref (h 0)), some (.int a1), some (.int a2), some (.int a3)] (by decide) (Nat.le_of_ble_eq_true rfl) (argsV [.ref (h 0), .int a1, .int a2, .int a3] 0 rfl rfl) ?_
  intro x hx0 K hR
  have K : Kx x E D (tysOf ca) h (LaC ca h nl) RX9 cX9_sheet 4 2 45 := K
  rw [f_X9_sheet] at hf
  refine o_iload_n K 1 dX9_sheet_0 rfl rfl ?_
  obtain ⟨r1, er1, hf⟩ := bd_e hf
  refine o_callS K [.int a1] (k_X9_isSheet x.2.1 E D ca h nl M a1 er1) s_X9_207 rfl ⟨by decide, by decide⟩ (Nat.le_of_ble_eq_true rfl) _ rfl dX9_sheet_1 ?_
  show Go x D (tysOf ca) h (LaC ca h nl) 4 M 4 [some (.ref (h 0)), some (.int a1), some (.int a2), some (.int a3)] [.int r1]
  refine o_if_eq K 16 dX9_sheet_4 (by decide) (fun c2 => ?_) (fun c2 => ?_)
  · have hf := ip c2 hf
    refine o_ldc K q330 dX9_sheet_16 ?_
    exact e_iret K hf hR dX9_sheet_18
  · have hf := im c2 hf
    refine o_iload_n K 2 dX9_sheet_7 rfl rfl ?_
    refine o_iconst K (-1) dX9_sheet_8 (by decide) ?_
    refine o_iconst K 1 dX9_sheet_9 (by decide) ?_
    obtain ⟨r3, er3, hf⟩ := bd_e hf
    refine o_callS K [.int a2, .int (-1), .int 1] (k_X9_isWithin x.2.1 E D ca h nl M a2 ((-1) : Int32) (1 : Int32) er3) s_X9_60 rfl ⟨by decide, by decide⟩ (Nat.le_of_ble_eq_true rfl) _ rfl dX9_sheet_10 ?_
    show Go x D (tysOf ca) h (LaC ca h nl) 4 M 13 [some (.ref (h 0)), some (.int a1), some (.int a2), some (.int a3)] [.int r3]
    refine o_if_ne K 19 dX9_sheet_13 (by decide) (fun c4 => ?_) (fun c4 => ?_)
    · have hf := im c4 hf
      refine o_iload_n K 2 dX9_sheet_19 rfl rfl ?_
      refine o_iconst K (-1) dX9_sheet_20 (by decide) ?_
      refine o_icmp_ne K 37 dX9_sheet_21 (by decide) (fun c5 => ?_) (fun c5 => ?_)
      · have hf := im c5 hf
        refine o_iload_n K 3 dX9_sheet_37 rfl rfl ?_
        refine o_bipush K 24 dX9_sheet_38 (by decide) ?_
        refine o_icmp_le K 46 dX9_sheet_40 (by decide) (fun c6 => ?_) (fun c6 => ?_)
        · have hf := ip c6 hf
          refine o_iload_n K 3 dX9_sheet_46 rfl rfl ?_
          refine o_if_ge K 54 dX9_sheet_47 (by decide) (fun c7 => ?_) (fun c7 => ?_)
          · have hf := ip c7 hf
            refine o_aload_n K 0 dX9_sheet_54 rfl rfl ?_
            refine gC_X9_35 K dX9_sheet_55 ?_
            refine o_iload_n K 1 dX9_sheet_58 rfl rfl ?_
            obtain ⟨g8, hf⟩ := gd_e hf
            obtain ⟨s9, es9, hf⟩ := nm_o hf
            have hs9 : ShOK ca h s9 := shA g8 es9
            refine aSheets K g8 es9 dX9_sheet_59 ?_
            refine o_iload_n K 2 dX9_sheet_60 rfl rfl ?_
            refine o_iload_n K 3 dX9_sheet_61 rfl rfl ?_
            obtain ⟨M11, er10, hf⟩ := bd_e hf
            refine o_callV K [.int a2, .int a3] (k_X6_become x.2.1 E D ca h nl M s9 a2 a3 hs9 er10) s_X9_267 (ltSheet hs9) (obSheet_c (ca := ca) (h := h) hs9 _) rfl rfl rfl ⟨by decide, by decide⟩ (Nat.le_of_ble_eq_true rfl) _ rfl dX9_sheet_62 ?_
            show Go x D (tysOf ca) h (LaC ca h nl) 4 M11 65 [some (.ref (h 0)), some (.int a1), some (.int a2), some (.int a3)] []
            refine o_iload_n K 3 dX9_sheet_65 rfl rfl ?_
            exact e_iret K hf hR dX9_sheet_66
          · have hf := im c7 hf
            refine o_ldcw K q887 dX9_sheet_50 ?_
            exact e_iret K hf hR dX9_sheet_53
        · have hf := im c6 hf
          refine o_ldc K q330 dX9_sheet_43 ?_
          exact e_iret K hf hR dX9_sheet_45
      · have hf := ip c5 hf
        refine o_aload_n K 0 dX9_sheet_24 rfl rfl ?_
        refine gC_X9_35 K dX9_sheet_25 ?_
        refine o_iload_n K 1 dX9_sheet_28 rfl rfl ?_
        obtain ⟨g12, hf⟩ := gd_e hf
        obtain ⟨s13, es13, hf⟩ := nm_o hf
        have hs13 : ShOK ca h s13 := shA g12 es13
        refine aSheets K g12 es13 dX9_sheet_29 ?_
        refine o_iconst K (-1) dX9_sheet_30 (by decide) ?_
        refine o_iconst K 0 dX9_sheet_31 (by decide) ?_
        obtain ⟨M15, er14, hf⟩ := bd_e hf
        refine o_callV K [.int (-1), .int 0] (k_X6_become x.2.1 E D ca h nl M s13 ((-1) : Int32) (0 : Int32) hs13 er14) s_X9_267 (ltSheet hs13) (obSheet_c (ca := ca) (h := h) hs13 _) rfl rfl rfl ⟨by decide, by decide⟩ (Nat.le_of_ble_eq_true rfl) _ rfl dX9_sheet_32 ?_
        show Go x D (tysOf ca) h (LaC ca h nl) 4 M15 35 [some (.ref (h 0)), some (.int a1), some (.int a2), some (.int a3)] []
        refine o_iconst K 0 dX9_sheet_35 (by decide) ?_
        exact e_iret K hf hR dX9_sheet_36
    · have hf := ip c4 hf
      refine o_ldc K q330 dX9_sheet_16 ?_
      exact e_iret K hf hR dX9_sheet_18
def f_X9_mark_j92 (a0 : Int32) (a1 : Int32) (a2 : Nat) (M : Mem) : Option (Int32 × Mem) := if a1 = (-1000000005) then (wr M (a2 + 1) 24 a0 (-1000000005) fun M20 => some ((1 : Int32), M20)) else wr M (a2 + 1) 24 a0 a1 fun M18 => some ((1 : Int32), M18)
set_option maxHeartbeats 4000000 in
set_option maxRecDepth 100000 in
theorem t_X9_mark_j92 {x : En} {E : Amd} {D : va_G} {ca : Nat → ClassId} {h : Nat → Nat} {nl : Nat} (K : Kx x E D (tysOf ca) h (LaC ca h nl) RX9 cX9_mark 5 2 43) {r0 : Int32} {Mo : Mem} (hR : Rt x D h (LaC ca h nl) (some .int) (some (.int r0)) Mo) (a0 : Int32) (a1 : Int32) (a2 : Nat) (M : Mem) (ha2 : ShOK ca h a2) (hf : f_X9_mark_j92 a0 a1 a2 M = some (r0, Mo)) : Go x D (tysOf ca) h (LaC ca h nl) 5 M 92 [none, none, some (.int a0), some (.int a1), some (.ref (h a2))] [] := by
  rw [f_X9_mark_j92] at hf
  refine o_aload K 4 dX9_mark_92 rfl ?_
  refine gC_X9_277 ha2 K dX9_mark_94 ?_
  refine o_iload_n K 2 dX9_mark_97 rfl rfl ?_
  refine o_iload_n K 3 dX9_mark_98 rfl rfl ?_
  refine o_ldc K q595 dX9_mark_99 ?_
  refine o_icmp_ne K 109 dX9_mark_101 (by decide) (fun c16 => ?_) (fun c16 => ?_)
  · have hf := im c16 hf
    refine o_iload_n K 3 dX9_mark_109 rfl rfl ?_
    obtain ⟨g17, M18, eM18, hf⟩ := wr_e hf
    refine sCs ha2 K g17 dX9_mark_110 ?_
    refine o_nmM eM18 ?_
    refine o_iconst K 1 dX9_mark_111 (by decide) ?_
    exact e_iret K hf hR dX9_mark_112
  · have hf := ip c16 hf
    refine o_ldc K q595 dX9_mark_104 ?_
    refine o_goto K 110 dX9_mark_106 (by decide) ?_
    obtain ⟨g19, M20, eM20, hf⟩ := wr_e hf
    refine sCs ha2 K g19 dX9_mark_110 ?_
    refine o_nmM eM20 ?_
    refine o_iconst K 1 dX9_mark_111 (by decide) ?_
    exact e_iret K hf hR dX9_mark_112
def f_X9_mark (M : Mem) (a1 : Int32) (a2 : Int32) (a3 : Int32) : Option (Int32 × Mem) := bd (f_X9_isSheet a1) fun r1 => if r1 = 0 then (some (((-1000000001) : Int32), M)) else gd (ib a1 4) <| nm (57 + 2 * ix a1) fun s4 => bd (f_X6_isMissing s4 M) fun r5 => if r5 = 0 then (bd (f_X6_has s4 M a2) fun r7 => if r7 = 0 then (some (((-1000000013) : Int32), M)) else if (M s4 0) = 0 then (if a3 = (-1000000005) then (some (((-1000000012) : Int32), M)) else wr M (s4 + 1) 24 a2 (a3.toInt16.toInt32) fun M15 => some ((1 : Int32), M15)) else if a3 = (-1000000005) then (f_X9_mark_j92 a2 a3 s4 M) else bd (f_X9_isWithin a3 ((-99999) : Int32) (99999 : Int32)) fun r11 => if r11 = 0 then (some (((-1000000001) : Int32), M)) else f_X9_mark_j92 a2 a3 s4 M) else some (((-1000000011) : Int32), M)
set_option maxHeartbeats 4000000 in
set_option maxRecDepth 100000 in
theorem k_X9_mark (l : Launch) (E : Amd) (D : va_G) (ca : Nat → ClassId) (h : Nat → Nat) (nl : Nat) (M : Mem) (a1 : Int32) (a2 : Int32) (a3 : Int32) {r0 : Int32} {Mo : Mem} (hf : f_X9_mark M a1 a2 a3 = some (r0, Mo)) : Ct l E D (tysOf ca) h (LaC ca h nl) yX9_mark cX9_mark 5 (some .int) 2 43 [.ref (h 0), .int a1, .int a2, .int a3] M (some (.int r0)) Mo := by
  refine Ct.mk [some (.ref (h 0)), some (.int a1), some (.int a2), some (.int a3), none] (by decide) (Nat.le_of_ble_eq_true rfl) (argsV [.ref (h 0), .int a1, .int a2, .int a3] 1 rfl rfl) ?_
  intro x hx0 K hR
  have K : Kx x E D (tysOf ca) h (LaC ca h nl) RX9 cX9_mark 5 2 43 := K
  rw [f_X9_mark] at hf
  refine o_iload_n K 1 dX9_mark_0 rfl rfl ?_
  obtain ⟨r1, er1, hf⟩ := bd_e hf
  refine o_callS K [.int a1] (k_X9_isSheet x.2.1 E D ca h nl M a1 er1) s_X9_207 rfl ⟨by decide, by decide⟩ (Nat.le_of_ble_eq_true rfl) _ rfl dX9_mark_1 ?_
  show Go x D (tysOf ca) h (LaC ca h nl) 5 M 4 [some (.ref (h 0)), some (.int a1), some (.int a2), some (.int a3), none] [.int r1]
  refine o_if_ne K 10 dX9_mark_4 (by decide) (fun c2 => ?_) (fun c2 => ?_)
  · have hf := im c2 hf
    refine o_aload_n K 0 dX9_mark_10 rfl rfl ?_
    refine gC_X9_35 K dX9_mark_11 ?_
    refine o_iload_n K 1 dX9_mark_14 rfl rfl ?_
    obtain ⟨g3, hf⟩ := gd_e hf
    obtain ⟨s4, es4, hf⟩ := nm_o hf
    have hs4 : ShOK ca h s4 := shA g3 es4
    refine aSheets K g3 es4 dX9_mark_15 ?_
    refine o_astore K 4 [some (.ref (h 0)), some (.int a1), some (.int a2), some (.int a3), some (.ref (h s4))] dX9_mark_16 (by decide) rfl rfl ?_
    refine o_aload K 4 dX9_mark_18 rfl ?_
    obtain ⟨r5, er5, hf⟩ := bd_e hf
    refine o_callV K [] (k_X6_isMissing x.2.1 E D ca h nl M s4 hs4 er5) s_X9_210 (ltSheet hs4) (obSheet_c (ca := ca) (h := h) hs4 _) rfl rfl rfl ⟨by decide, by decide⟩ (Nat.le_of_ble_eq_true rfl) _ rfl dX9_mark_20 ?_
    show Go x D (tysOf ca) h (LaC ca h nl) 5 M 23 [some (.ref (h 0)), some (.int a1), some (.int a2), some (.int a3), some (.ref (h s4))] [.int r5]
    refine o_if_eq K 29 dX9_mark_23 (by decide) (fun c6 => ?_) (fun c6 => ?_)
    · have hf := ip c6 hf
      refine o_aload K 4 dX9_mark_29 rfl ?_
      refine o_iload_n K 2 dX9_mark_31 rfl rfl ?_
      obtain ⟨r7, er7, hf⟩ := bd_e hf
      refine o_callV K [.int a2] (k_X6_has x.2.1 E D ca h nl M s4 a2 hs4 er7) s_X9_272 (ltSheet hs4) (obSheet_c (ca := ca) (h := h) hs4 _) rfl rfl rfl ⟨by decide, by decide⟩ (Nat.le_of_ble_eq_true rfl) _ rfl dX9_mark_32 ?_
      show Go x D (tysOf ca) h (LaC ca h nl) 5 M 35 [some (.ref (h 0)), some (.int a1), some (.int a2), some (.int a3), some (.ref (h s4))] [.int r7]
      refine o_if_ne K 42 dX9_mark_35 (by decide) (fun c8 => ?_) (fun c8 => ?_)
      · have hf := im c8 hf
        refine o_aload K 4 dX9_mark_42 rfl ?_
        refine gC_X9_274 hs4 K dX9_mark_44 ?_
        refine o_if_ne K 70 dX9_mark_47 (by decide) (fun c9 => ?_) (fun c9 => ?_)
        · have hf := im c9 hf
          refine o_iload_n K 3 dX9_mark_70 rfl rfl ?_
          refine o_ldc K q595 dX9_mark_71 ?_
          refine o_icmp_eq K 92 dX9_mark_73 (by decide) (fun c10 => ?_) (fun c10 => ?_)
          · have hf := ip c10 hf
            refine o_drop [false, false, true, true, true] (V2 := [none, none, some (.int a2), some (.int a3), some (.ref (h s4))]) rfl ?_
            exact t_X9_mark_j92 K hR a2 a3 s4 M hs4 hf
          · have hf := im c10 hf
            refine o_iload_n K 3 dX9_mark_76 rfl rfl ?_
            refine o_ldcw K q894 dX9_mark_77 ?_
            refine o_ldcw K q895 dX9_mark_80 ?_
            obtain ⟨r11, er11, hf⟩ := bd_e hf
            refine o_callS K [.int a3, .int (-99999), .int 99999] (k_X9_isWithin x.2.1 E D ca h nl M a3 ((-99999) : Int32) (99999 : Int32) er11) s_X9_60 rfl ⟨by decide, by decide⟩ (Nat.le_of_ble_eq_true rfl) _ rfl dX9_mark_83 ?_
            show Go x D (tysOf ca) h (LaC ca h nl) 5 M 86 [some (.ref (h 0)), some (.int a1), some (.int a2), some (.int a3), some (.ref (h s4))] [.int r11]
            refine o_if_ne K 92 dX9_mark_86 (by decide) (fun c12 => ?_) (fun c12 => ?_)
            · have hf := im c12 hf
              refine o_drop [false, false, true, true, true] (V2 := [none, none, some (.int a2), some (.int a3), some (.ref (h s4))]) rfl ?_
              exact t_X9_mark_j92 K hR a2 a3 s4 M hs4 hf
            · have hf := ip c12 hf
              refine o_ldc K q330 dX9_mark_89 ?_
              exact e_iret K hf hR dX9_mark_91
        · have hf := ip c9 hf
          refine o_iload_n K 3 dX9_mark_50 rfl rfl ?_
          refine o_ldc K q595 dX9_mark_51 ?_
          refine o_icmp_ne K 59 dX9_mark_53 (by decide) (fun c13 => ?_) (fun c13 => ?_)
          · have hf := im c13 hf
            refine o_aload K 4 dX9_mark_59 rfl ?_
            refine gC_X9_277 hs4 K dX9_mark_61 ?_
            refine o_iload_n K 2 dX9_mark_64 rfl rfl ?_
            refine o_iload_n K 3 dX9_mark_65 rfl rfl ?_
            refine o_i2s K dX9_mark_66 ?_
            obtain ⟨g14, M15, eM15, hf⟩ := wr_e hf
            refine sCs hs4 K g14 dX9_mark_67 ?_
            refine o_nmM eM15 ?_
            refine o_iconst K 1 dX9_mark_68 (by decide) ?_
            exact e_iret K hf hR dX9_mark_69
          · have hf := ip c13 hf
            refine o_ldc K q374 dX9_mark_56 ?_
            exact e_iret K hf hR dX9_mark_58
      · have hf := ip c8 hf
        refine o_ldcw K q893 dX9_mark_38 ?_
        exact e_iret K hf hR dX9_mark_41
    · have hf := im c6 hf
      refine o_ldc K q607 dX9_mark_26 ?_
      exact e_iret K hf hR dX9_mark_28
  · have hf := ip c2 hf
    refine o_ldc K q330 dX9_mark_7 ?_
    exact e_iret K hf hR dX9_mark_9
def f_X9_pour_j99 (rec32 : Nat → Int32 → Int32 → Mem → Option (Int32 × Mem)) (a0 : Nat) (a1 : Int32) (a2 : Int32) (M : Mem) : Option (Int32 × Mem) := nm (a2 + 1 : Int32) fun x16 => rec32 a0 a1 x16 M
set_option maxHeartbeats 4000000 in
set_option maxRecDepth 100000 in
theorem t_X9_pour_j99 {x : En} {E : Amd} {D : va_G} {ca : Nat → ClassId} {h : Nat → Nat} {nl : Nat} (K : Kx x E D (tysOf ca) h (LaC ca h nl) RX9 cX9_pour 6 3 64) {r0 : Int32} {Mo : Mem} (hR : Rt x D h (LaC ca h nl) (some .int) (some (.int r0)) Mo) {rec32 : Nat → Int32 → Int32 → Mem → Option (Int32 × Mem)} (ih32 : ∀ (w0 : Nat) (w1 : Int32) (w2 : Int32) (M : Mem), ShOK ca h w0 → rec32 w0 w1 w2 M = some (r0, Mo) → Go x D (tysOf ca) h (LaC ca h nl) 6 M 32 [some (.ref (h 0)), none, some (.ref (h w0)), some (.int w1), some (.int w2), none] []) (a0 : Nat) (a1 : Int32) (a2 : Int32) (M : Mem) (ha0 : ShOK ca h a0) (hf : f_X9_pour_j99 rec32 a0 a1 a2 M = some (r0, Mo)) : Go x D (tysOf ca) h (LaC ca h nl) 6 M 99 [some (.ref (h 0)), none, some (.ref (h a0)), some (.int a1), some (.int a2), none] [] := by
  rw [f_X9_pour_j99] at hf
  obtain ⟨x16, ex16, hf⟩ := nm_o hf
  refine o_iinc K 4 x16 [some (.ref (h 0)), none, some (.ref (h a0)), some (.int a1), some (.int x16), none] dX9_pour_99 rfl (inc_e (by decide) ex16) (by decide) rfl rfl ?_
  refine o_goto K 32 dX9_pour_102 (by decide) ?_
  exact ih32 a0 a1 x16 M ha0 hf
def f_X9_pour_j85 (rec32 : Nat → Int32 → Int32 → Mem → Option (Int32 × Mem)) (a0 : Nat) (a1 : Int32) (a2 : Int32) (a3 : Int32) (a4 : Int32) (M : Mem) : Option (Int32 × Mem) := nm (a4 + a3 : Int32) fun x17 => wr M (HB 0 + 13) 8 a1 a2 fun M19 => f_X9_pour_j99 rec32 a0 x17 a1 M19
set_option maxHeartbeats 4000000 in
set_option maxRecDepth 100000 in
theorem t_X9_pour_j85 {x : En} {E : Amd} {D : va_G} {ca : Nat → ClassId} {h : Nat → Nat} {nl : Nat} (K : Kx x E D (tysOf ca) h (LaC ca h nl) RX9 cX9_pour 6 3 64) {r0 : Int32} {Mo : Mem} (hR : Rt x D h (LaC ca h nl) (some .int) (some (.int r0)) Mo) {rec32 : Nat → Int32 → Int32 → Mem → Option (Int32 × Mem)} (ih32 : ∀ (w0 : Nat) (w1 : Int32) (w2 : Int32) (M : Mem), ShOK ca h w0 → rec32 w0 w1 w2 M = some (r0, Mo) → Go x D (tysOf ca) h (LaC ca h nl) 6 M 32 [some (.ref (h 0)), none, some (.ref (h w0)), some (.int w1), some (.int w2), none] []) (a0 : Nat) (a1 : Int32) (a2 : Int32) (a3 : Int32) (a4 : Int32) (M : Mem) (ha0 : ShOK ca h a0) (hf : f_X9_pour_j85 rec32 a0 a1 a2 a3 a4 M = some (r0, Mo)) : Go x D (tysOf ca) h (LaC ca h nl) 6 M 85 [some (.ref (h 0)), none, some (.ref (h a0)), none, some (.int a1), some (.int a2)] [.int a3, .int a4] := by
  rw [f_X9_pour_j85] at hf
  refine o_iadd K dX9_pour_85 ?_
  obtain ⟨x17, ex17, hf⟩ := nm_o hf
  refine o_nmi ex17 ?_
  refine o_istore_n K 3 [some (.ref (h 0)), none, some (.ref (h a0)), some (.int x17), some (.int a1), some (.int a2)] dX9_pour_86 rfl (by decide) rfl rfl ?_
  refine o_aload_n K 0 dX9_pour_87 rfl rfl ?_
  refine gC_X9_10 K dX9_pour_88 ?_
  refine gC_X9_124 hb_0 K dX9_pour_91 ?_
  refine o_iload K 4 dX9_pour_94 rfl ?_
  refine o_iload K 5 dX9_pour_96 rfl ?_
  obtain ⟨g18, M19, eM19, hf⟩ := wr_e hf
  refine sCh hb_0 13 8 (by decide) (fun _ => rfl) K g18 dX9_pour_98 ?_
  refine o_nmM eM19 ?_
  refine o_drop [true, false, true, true, true, false] (V2 := [some (.ref (h 0)), none, some (.ref (h a0)), some (.int x17), some (.int a1), none]) rfl ?_
  exact t_X9_pour_j99 K hR ih32 a0 x17 a1 M19 ha0 hf
def f_X9_pour_l32 : Nat → Nat → Int32 → Int32 → Mem → Option (Int32 × Mem)
  | 0, _, _, _, _ => none
  | n + 1, a0, a1, a2, M => if 8 ≤ a2 then (some (a1, M)) else bd (f_X6_hasNumber a0 M a2) fun r8 => if r8 = 0 then (f_X9_pour_j99 (f_X9_pour_l32 n) a0 a1 a2 M) else rd M (a0 + 1) 24 a2 fun x10 => bd (f_X9_heldWithin x10 (0 : Int32) (9999 : Int32)) fun r12 => rd M (HB 0 + 13) 8 a2 fun x13 => if r12 = x13 then (f_X9_pour_j85 (f_X9_pour_l32 n) a0 a2 r12 (0 : Int32) a1 M) else f_X9_pour_j85 (f_X9_pour_l32 n) a0 a2 r12 (1 : Int32) a1 M
set_option maxHeartbeats 4000000 in
set_option maxRecDepth 100000 in
theorem t_X9_pour_l32 {x : En} {E : Amd} {D : va_G} {ca : Nat → ClassId} {h : Nat → Nat} {nl : Nat} (K : Kx x E D (tysOf ca) h (LaC ca h nl) RX9 cX9_pour 6 3 64) {r0 : Int32} {Mo : Mem} (hR : Rt x D h (LaC ca h nl) (some .int) (some (.int r0)) Mo) : ∀ (n : Nat) (a0 : Nat) (a1 : Int32) (a2 : Int32) (M : Mem), ShOK ca h a0 → f_X9_pour_l32 n a0 a1 a2 M = some (r0, Mo) → Go x D (tysOf ca) h (LaC ca h nl) 6 M 32 [some (.ref (h 0)), none, some (.ref (h a0)), some (.int a1), some (.int a2), none] [] := by
  intro n
  induction n with
  | zero =>
    intro a0 a1 a2 M ha0 hf
    cases hf
  | succ n ih =>
    intro a0 a1 a2 M ha0 hf
    rw [f_X9_pour_l32] at hf
    refine o_iload K 4 dX9_pour_32 rfl ?_
    refine o_bipush K 8 dX9_pour_34 (by decide) ?_
    refine o_icmp_ge K 105 dX9_pour_36 (by decide) (fun c7 => ?_) (fun c7 => ?_)
    · have hf := ip c7 hf
      refine o_iload_n K 3 dX9_pour_105 rfl rfl ?_
      exact e_iret K hf hR dX9_pour_106
    · have hf := im c7 hf
      refine o_aload_n K 2 dX9_pour_39 rfl rfl ?_
      refine o_iload K 4 dX9_pour_40 rfl ?_
      obtain ⟨r8, er8, hf⟩ := bd_e hf
      refine o_callV K [.int a2] (k_X6_hasNumber x.2.1 E D ca h nl M a0 a2 ha0 er8) s_X9_282 (ltSheet ha0) (obSheet_c (ca := ca) (h := h) ha0 _) rfl rfl rfl ⟨by decide, by decide⟩ (Nat.le_of_ble_eq_true rfl) _ rfl dX9_pour_42 ?_
      show Go x D (tysOf ca) h (LaC ca h nl) 6 M 45 [some (.ref (h 0)), none, some (.ref (h a0)), some (.int a1), some (.int a2), none] [.int r8]
      refine o_if_eq K 99 dX9_pour_45 (by decide) (fun c9 => ?_) (fun c9 => ?_)
      · have hf := ip c9 hf
        exact t_X9_pour_j99 K hR ih a0 a1 a2 M ha0 hf
      · have hf := im c9 hf
        refine o_aload_n K 2 dX9_pour_48 rfl rfl ?_
        refine gC_X9_277 ha0 K dX9_pour_49 ?_
        refine o_iload K 4 dX9_pour_52 rfl ?_
        obtain ⟨g11, x10, ex10, hf⟩ := rd_e hf
        refine lCs ha0 K g11 dX9_pour_54 ?_
        refine o_nmi ex10 ?_
        refine o_iconst K 0 dX9_pour_55 (by decide) ?_
        refine o_sipush K 9999 dX9_pour_56 (by decide) ?_
        obtain ⟨r12, er12, hf⟩ := bd_e hf
        refine o_callS K [.int x10, .int 0, .int 9999] (k_X9_heldWithin x.2.1 E D ca h nl M x10 (0 : Int32) (9999 : Int32) er12) s_X9_285 rfl ⟨by decide, by decide⟩ (Nat.le_of_ble_eq_true rfl) _ rfl dX9_pour_59 ?_
        show Go x D (tysOf ca) h (LaC ca h nl) 6 M 62 [some (.ref (h 0)), none, some (.ref (h a0)), some (.int a1), some (.int a2), none] [.int r12]
        refine o_istore K 5 [some (.ref (h 0)), none, some (.ref (h a0)), some (.int a1), some (.int a2), some (.int r12)] dX9_pour_62 (by decide) rfl rfl ?_
        refine o_iload_n K 3 dX9_pour_64 rfl rfl ?_
        refine o_iload K 5 dX9_pour_65 rfl ?_
        refine o_aload_n K 0 dX9_pour_67 rfl rfl ?_
        refine gC_X9_10 K dX9_pour_68 ?_
        refine gC_X9_124 hb_0 K dX9_pour_71 ?_
        refine o_iload K 4 dX9_pour_74 rfl ?_
        obtain ⟨g14, x13, ex13, hf⟩ := rd_e hf
        refine lCh hb_0 13 8 (by decide) (fun _ => rfl) K g14 dX9_pour_76 ?_
        refine o_nmi ex13 ?_
        refine o_icmp_ne K 84 dX9_pour_77 (by decide) (fun c15 => ?_) (fun c15 => ?_)
        · have hf := im c15 hf
          refine o_iconst K 1 dX9_pour_84 (by decide) ?_
          refine o_drop [true, false, true, false, true, true] (V2 := [some (.ref (h 0)), none, some (.ref (h a0)), none, some (.int a2), some (.int r12)]) rfl ?_
          exact t_X9_pour_j85 K hR ih a0 a2 r12 (1 : Int32) a1 M ha0 hf
        · have hf := ip c15 hf
          refine o_iconst K 0 dX9_pour_80 (by decide) ?_
          refine o_goto K 85 dX9_pour_81 (by decide) ?_
          refine o_drop [true, false, true, false, true, true] (V2 := [some (.ref (h 0)), none, some (.ref (h a0)), none, some (.int a2), some (.int r12)]) rfl ?_
          exact t_X9_pour_j85 K hR ih a0 a2 r12 (0 : Int32) a1 M ha0 hf
def f_X9_pour (M : Mem) (a1 : Int32) : Option (Int32 × Mem) := bd (f_X9_isSheet a1) fun r1 => if r1 = 0 then (some (((-1000000001) : Int32), M)) else gd (ib a1 4) <| nm (57 + 2 * ix a1) fun s4 => bd (f_X6_isMissing s4 M) fun r5 => if r5 = 0 then (f_X9_pour_l32 FU s4 (0 : Int32) (0 : Int32) M) else some (((-1000000011) : Int32), M)
set_option maxHeartbeats 4000000 in
set_option maxRecDepth 100000 in
theorem k_X9_pour (l : Launch) (E : Amd) (D : va_G) (ca : Nat → ClassId) (h : Nat → Nat) (nl : Nat) (M : Mem) (a1 : Int32) {r0 : Int32} {Mo : Mem} (hf : f_X9_pour M a1 = some (r0, Mo)) : Ct l E D (tysOf ca) h (LaC ca h nl) yX9_pour cX9_pour 6 (some .int) 3 64 [.ref (h 0), .int a1] M (some (.int r0)) Mo := by
  refine Ct.mk [some (.ref (h 0)), some (.int a1), none, none, none, none] (by decide) (Nat.le_of_ble_eq_true rfl) (argsV [.ref (h 0), .int a1] 4 rfl rfl) ?_
  intro x hx0 K hR
  have K : Kx x E D (tysOf ca) h (LaC ca h nl) RX9 cX9_pour 6 3 64 := K
  rw [f_X9_pour] at hf
  refine o_iload_n K 1 dX9_pour_0 rfl rfl ?_
  obtain ⟨r1, er1, hf⟩ := bd_e hf
  refine o_callS K [.int a1] (k_X9_isSheet x.2.1 E D ca h nl M a1 er1) s_X9_207 rfl ⟨by decide, by decide⟩ (Nat.le_of_ble_eq_true rfl) _ rfl dX9_pour_1 ?_
  show Go x D (tysOf ca) h (LaC ca h nl) 6 M 4 [some (.ref (h 0)), some (.int a1), none, none, none, none] [.int r1]
  refine o_if_ne K 10 dX9_pour_4 (by decide) (fun c2 => ?_) (fun c2 => ?_)
  · have hf := im c2 hf
    refine o_aload_n K 0 dX9_pour_10 rfl rfl ?_
    refine gC_X9_35 K dX9_pour_11 ?_
    refine o_iload_n K 1 dX9_pour_14 rfl rfl ?_
    obtain ⟨g3, hf⟩ := gd_e hf
    obtain ⟨s4, es4, hf⟩ := nm_o hf
    have hs4 : ShOK ca h s4 := shA g3 es4
    refine aSheets K g3 es4 dX9_pour_15 ?_
    refine o_astore_n K 2 [some (.ref (h 0)), some (.int a1), some (.ref (h s4)), none, none, none] dX9_pour_16 rfl (by decide) rfl rfl ?_
    refine o_aload_n K 2 dX9_pour_17 rfl rfl ?_
    obtain ⟨r5, er5, hf⟩ := bd_e hf
    refine o_callV K [] (k_X6_isMissing x.2.1 E D ca h nl M s4 hs4 er5) s_X9_210 (ltSheet hs4) (obSheet_c (ca := ca) (h := h) hs4 _) rfl rfl rfl ⟨by decide, by decide⟩ (Nat.le_of_ble_eq_true rfl) _ rfl dX9_pour_18 ?_
    show Go x D (tysOf ca) h (LaC ca h nl) 6 M 21 [some (.ref (h 0)), some (.int a1), some (.ref (h s4)), none, none, none] [.int r5]
    refine o_if_eq K 27 dX9_pour_21 (by decide) (fun c6 => ?_) (fun c6 => ?_)
    · have hf := ip c6 hf
      refine o_iconst K 0 dX9_pour_27 (by decide) ?_
      refine o_istore_n K 3 [some (.ref (h 0)), some (.int a1), some (.ref (h s4)), some (.int 0), none, none] dX9_pour_28 rfl (by decide) rfl rfl ?_
      refine o_iconst K 0 dX9_pour_29 (by decide) ?_
      refine o_istore K 4 [some (.ref (h 0)), some (.int a1), some (.ref (h s4)), some (.int 0), some (.int 0), none] dX9_pour_30 (by decide) rfl rfl ?_
      refine o_drop [true, false, true, true, true, false] (V2 := [some (.ref (h 0)), none, some (.ref (h s4)), some (.int 0), some (.int 0), none]) rfl ?_
      exact t_X9_pour_l32 K hR FU s4 (0 : Int32) (0 : Int32) M hs4 hf
    · have hf := im c6 hf
      refine o_ldc K q607 dX9_pour_24 ?_
      exact e_iret K hf hR dX9_pour_26
  · have hf := ip c2 hf
    refine o_ldc K q330 dX9_pour_7 ?_
    exact e_iret K hf hR dX9_pour_9
def f_X9_reads_j72 (rec29 : Nat → Int32 → Mem → Option Int32) (a0 : Nat) (a1 : Int32) (M : Mem) : Option Int32 := nm (a1 + 1 : Int32) fun x17 => rec29 a0 x17 M
set_option maxHeartbeats 4000000 in
set_option maxRecDepth 100000 in
theorem t_X9_reads_j72 {x : En} {E : Amd} {D : va_G} {ca : Nat → ClassId} {h : Nat → Nat} {nl : Nat} {M : Mem} (K : Kx x E D (tysOf ca) h (LaC ca h nl) RX9 cX9_reads 4 3 64) {r0 : Int32} (hR : Rt x D h (LaC ca h nl) (some .int) (some (.int r0)) M) {rec29 : Nat → Int32 → Mem → Option Int32} (ih29 : ∀ (w0 : Nat) (w1 : Int32), ShOK ca h w0 → rec29 w0 w1 M = some r0 → Go x D (tysOf ca) h (LaC ca h nl) 4 M 29 [some (.ref (h 0)), none, some (.ref (h w0)), some (.int w1)] []) (a0 : Nat) (a1 : Int32) (ha0 : ShOK ca h a0) (hf : f_X9_reads_j72 rec29 a0 a1 M = some r0) : Go x D (tysOf ca) h (LaC ca h nl) 4 M 72 [some (.ref (h 0)), none, some (.ref (h a0)), some (.int a1)] [] := by
  rw [f_X9_reads_j72] at hf
  obtain ⟨x17, ex17, hf⟩ := nm_o hf
  refine o_iinc K 3 x17 [some (.ref (h 0)), none, some (.ref (h a0)), some (.int x17)] dX9_reads_72 rfl (inc_e (by decide) ex17) (by decide) rfl rfl ?_
  refine o_goto K 29 dX9_reads_75 (by decide) ?_
  exact ih29 a0 x17 ha0 hf
def f_X9_reads_l29 : Nat → Nat → Int32 → Mem → Option Int32
  | 0, _, _, _ => none
  | n + 1, a0, a1, M => if (M a0 1) ≤ a1 then (some (((-1000000005) : Int32))) else bd (f_X6_hasNumber a0 M a1) fun r8 => if r8 = 0 then (f_X9_reads_j72 (f_X9_reads_l29 n) a0 a1 M) else bd (f_X9_isRoom a1) fun r10 => if r10 = 0 then (some (a1)) else rd M (a0 + 1) 24 a1 fun x12 => rd M (HB 0 + 11) 9 a1 fun x14 => if x12 = x14 then (f_X9_reads_j72 (f_X9_reads_l29 n) a0 a1 M) else some (a1)
set_option maxHeartbeats 4000000 in
set_option maxRecDepth 100000 in
theorem t_X9_reads_l29 {x : En} {E : Amd} {D : va_G} {ca : Nat → ClassId} {h : Nat → Nat} {nl : Nat} {M : Mem} (K : Kx x E D (tysOf ca) h (LaC ca h nl) RX9 cX9_reads 4 3 64) {r0 : Int32} (hR : Rt x D h (LaC ca h nl) (some .int) (some (.int r0)) M) : ∀ (n : Nat) (a0 : Nat) (a1 : Int32), ShOK ca h a0 → f_X9_reads_l29 n a0 a1 M = some r0 → Go x D (tysOf ca) h (LaC ca h nl) 4 M 29 [some (.ref (h 0)), none, some (.ref (h a0)), some (.int a1)] [] := by
  intro n
  induction n with
  | zero =>
    intro a0 a1 ha0 hf
    cases hf
  | succ n ih =>
    intro a0 a1 ha0 hf
    rw [f_X9_reads_l29] at hf
    refine o_iload_n K 3 dX9_reads_29 rfl rfl ?_
    refine o_aload_n K 2 dX9_reads_30 rfl rfl ?_
    refine gC_X9_289 ha0 K dX9_reads_31 ?_
    refine o_icmp_ge K 78 dX9_reads_34 (by decide) (fun c7 => ?_) (fun c7 => ?_)
    · have hf := ip c7 hf
      refine o_ldc K q595 dX9_reads_78 ?_
      exact r_iret K hf hR dX9_reads_80
    · have hf := im c7 hf
      refine o_aload_n K 2 dX9_reads_37 rfl rfl ?_
      refine o_iload_n K 3 dX9_reads_38 rfl rfl ?_
      obtain ⟨r8, er8, hf⟩ := bd_e hf
      refine o_callV K [.int a1] (k_X6_hasNumber x.2.1 E D ca h nl M a0 a1 ha0 er8) s_X9_282 (ltSheet ha0) (obSheet_c (ca := ca) (h := h) ha0 _) rfl rfl rfl ⟨by decide, by decide⟩ (Nat.le_of_ble_eq_true rfl) _ rfl dX9_reads_39 ?_
      show Go x D (tysOf ca) h (LaC ca h nl) 4 M 42 [some (.ref (h 0)), none, some (.ref (h a0)), some (.int a1)] [.int r8]
      refine o_if_eq K 72 dX9_reads_42 (by decide) (fun c9 => ?_) (fun c9 => ?_)
      · have hf := ip c9 hf
        exact t_X9_reads_j72 K hR ih a0 a1 ha0 hf
      · have hf := im c9 hf
        refine o_iload_n K 3 dX9_reads_45 rfl rfl ?_
        obtain ⟨r10, er10, hf⟩ := bd_e hf
        refine o_callS K [.int a1] (k_X9_isRoom x.2.1 E D ca h nl M a1 er10) s_X9_57 rfl ⟨by decide, by decide⟩ (Nat.le_of_ble_eq_true rfl) _ rfl dX9_reads_46 ?_
        show Go x D (tysOf ca) h (LaC ca h nl) 4 M 49 [some (.ref (h 0)), none, some (.ref (h a0)), some (.int a1)] [.int r10]
        refine o_if_eq K 70 dX9_reads_49 (by decide) (fun c11 => ?_) (fun c11 => ?_)
        · have hf := ip c11 hf
          refine o_iload_n K 3 dX9_reads_70 rfl rfl ?_
          exact r_iret K hf hR dX9_reads_71
        · have hf := im c11 hf
          refine o_aload_n K 2 dX9_reads_52 rfl rfl ?_
          refine gC_X9_277 ha0 K dX9_reads_53 ?_
          refine o_iload_n K 3 dX9_reads_56 rfl rfl ?_
          obtain ⟨g13, x12, ex12, hf⟩ := rd_e hf
          refine lCs ha0 K g13 dX9_reads_57 ?_
          refine o_nmi ex12 ?_
          refine o_aload_n K 0 dX9_reads_58 rfl rfl ?_
          refine gC_X9_10 K dX9_reads_59 ?_
          refine gC_X9_118 hb_0 K dX9_reads_62 ?_
          refine o_iload_n K 3 dX9_reads_65 rfl rfl ?_
          obtain ⟨g15, x14, ex14, hf⟩ := rd_e hf
          refine lCh hb_0 11 9 (by decide) (fun _ => rfl) K g15 dX9_reads_66 ?_
          refine o_nmi ex14 ?_
          refine o_icmp_eq K 72 dX9_reads_67 (by decide) (fun c16 => ?_) (fun c16 => ?_)
          · have hf := ip c16 hf
            exact t_X9_reads_j72 K hR ih a0 a1 ha0 hf
          · have hf := im c16 hf
            refine o_iload_n K 3 dX9_reads_70 rfl rfl ?_
            exact r_iret K hf hR dX9_reads_71
def f_X9_reads (M : Mem) (a1 : Int32) : Option Int32 := bd (f_X9_isSheet a1) fun r1 => if r1 = 0 then (some (((-1000000001) : Int32))) else gd (ib a1 4) <| nm (57 + 2 * ix a1) fun s4 => bd (f_X6_isMissing s4 M) fun r5 => if r5 = 0 then (f_X9_reads_l29 FU s4 (0 : Int32) M) else some (((-1000000011) : Int32))
set_option maxHeartbeats 4000000 in
set_option maxRecDepth 100000 in
theorem k_X9_reads (l : Launch) (E : Amd) (D : va_G) (ca : Nat → ClassId) (h : Nat → Nat) (nl : Nat) (M : Mem) (a1 : Int32) {r0 : Int32} (hf : f_X9_reads M a1 = some r0) : Ct l E D (tysOf ca) h (LaC ca h nl) yX9_reads cX9_reads 4 (some .int) 3 64 [.ref (h 0), .int a1] M (some (.int r0)) M := by
  refine Ct.mk [some (.ref (h 0)), some (.int a1), none, none] (by decide) (Nat.le_of_ble_eq_true rfl) (argsV [.ref (h 0), .int a1] 2 rfl rfl) ?_
  intro x hx0 K hR
  have K : Kx x E D (tysOf ca) h (LaC ca h nl) RX9 cX9_reads 4 3 64 := K
  rw [f_X9_reads] at hf
  refine o_iload_n K 1 dX9_reads_0 rfl rfl ?_
  obtain ⟨r1, er1, hf⟩ := bd_e hf
  refine o_callS K [.int a1] (k_X9_isSheet x.2.1 E D ca h nl M a1 er1) s_X9_207 rfl ⟨by decide, by decide⟩ (Nat.le_of_ble_eq_true rfl) _ rfl dX9_reads_1 ?_
  show Go x D (tysOf ca) h (LaC ca h nl) 4 M 4 [some (.ref (h 0)), some (.int a1), none, none] [.int r1]
  refine o_if_ne K 10 dX9_reads_4 (by decide) (fun c2 => ?_) (fun c2 => ?_)
  · have hf := im c2 hf
    refine o_aload_n K 0 dX9_reads_10 rfl rfl ?_
    refine gC_X9_35 K dX9_reads_11 ?_
    refine o_iload_n K 1 dX9_reads_14 rfl rfl ?_
    obtain ⟨g3, hf⟩ := gd_e hf
    obtain ⟨s4, es4, hf⟩ := nm_o hf
    have hs4 : ShOK ca h s4 := shA g3 es4
    refine aSheets K g3 es4 dX9_reads_15 ?_
    refine o_astore_n K 2 [some (.ref (h 0)), some (.int a1), some (.ref (h s4)), none] dX9_reads_16 rfl (by decide) rfl rfl ?_
    refine o_aload_n K 2 dX9_reads_17 rfl rfl ?_
    obtain ⟨r5, er5, hf⟩ := bd_e hf
    refine o_callV K [] (k_X6_isMissing x.2.1 E D ca h nl M s4 hs4 er5) s_X9_210 (ltSheet hs4) (obSheet_c (ca := ca) (h := h) hs4 _) rfl rfl rfl ⟨by decide, by decide⟩ (Nat.le_of_ble_eq_true rfl) _ rfl dX9_reads_18 ?_
    show Go x D (tysOf ca) h (LaC ca h nl) 4 M 21 [some (.ref (h 0)), some (.int a1), some (.ref (h s4)), none] [.int r5]
    refine o_if_eq K 27 dX9_reads_21 (by decide) (fun c6 => ?_) (fun c6 => ?_)
    · have hf := ip c6 hf
      refine o_iconst K 0 dX9_reads_27 (by decide) ?_
      refine o_istore_n K 3 [some (.ref (h 0)), some (.int a1), some (.ref (h s4)), some (.int 0)] dX9_reads_28 rfl (by decide) rfl rfl ?_
      refine o_drop [true, false, true, true] (V2 := [some (.ref (h 0)), none, some (.ref (h s4)), some (.int 0)]) rfl ?_
      exact t_X9_reads_l29 K hR FU s4 (0 : Int32) hs4 hf
    · have hf := im c6 hf
      refine o_ldc K q607 dX9_reads_24 ?_
      exact r_iret K hf hR dX9_reads_26
  · have hf := ip c2 hf
    refine o_ldc K q330 dX9_reads_7 ?_
    exact r_iret K hf hR dX9_reads_9
def f_X9_copy (M : Mem) (a1 : Int32) (a2 : Int32) (a3 : Int32) (a4 : Int32) (a5 : Int32) : Option (Int32 × Mem) := bd (f_X9_isSheet a1) fun r1 => if r1 = 0 then (some (((-1000000001) : Int32), M)) else bd (f_X9_isSheet a3) fun r3 => if r3 = 0 then (some (((-1000000001) : Int32), M)) else gd (ib a1 4) <| nm (57 + 2 * ix a1) fun s6 => gd (ib a3 4) <| nm (57 + 2 * ix a3) fun s8 => bd (f_X6_isMissing s6 M) fun r9 => if r9 = 0 then (bd (f_X6_isMissing s8 M) fun r11 => if r11 = 0 then (if (M s6 0) = (M s8 0) then (bd (f_X6_hasRange s6 M a2 a5) fun r14 => if r14 = 0 then (some (((-1000000013) : Int32), M)) else bd (f_X6_hasRange s8 M a4 a5) fun r16 => if r16 = 0 then (some (((-1000000013) : Int32), M)) else cp M (s6 + 1) 24 a2 (s8 + 1) 24 a4 a5 fun M18 => some (a5, M18)) else some (((-1000000012) : Int32), M)) else some (((-1000000011) : Int32), M)) else some (((-1000000011) : Int32), M)
set_option maxHeartbeats 4000000 in
set_option maxRecDepth 100000 in
theorem k_X9_copy (l : Launch) (E : Amd) (D : va_G) (ca : Nat → ClassId) (h : Nat → Nat) (nl : Nat) (M : Mem) (a1 : Int32) (a2 : Int32) (a3 : Int32) (a4 : Int32) (a5 : Int32) {r0 : Int32} {Mo : Mem} (hf : f_X9_copy M a1 a2 a3 a4 a5 = some (r0, Mo)) : Ct l E D (tysOf ca) h (LaC ca h nl) yX9_copy cX9_copy 8 (some .int) 2 42 [.ref (h 0), .int a1, .int a2, .int a3, .int a4, .int a5] M (some (.int r0)) Mo := by
  refine Ct.mk [some (.ref (h 0)), some (.int a1), some (.int a2), some (.int a3), some (.int a4), some (.int a5), none, none] (by decide) (Nat.le_of_ble_eq_true rfl) (argsV [.ref (h 0), .int a1, .int a2, .int a3, .int a4, .int a5] 2 rfl rfl) ?_
  intro x hx0 K hR
  have K : Kx x E D (tysOf ca) h (LaC ca h nl) RX9 cX9_copy 8 2 42 := K
  rw [f_X9_copy] at hf
  refine o_iload_n K 1 dX9_copy_0 rfl rfl ?_
  obtain ⟨r1, er1, hf⟩ := bd_e hf
  refine o_callS K [.int a1] (k_X9_isSheet x.2.1 E D ca h nl M a1 er1) s_X9_207 rfl ⟨by decide, by decide⟩ (Nat.le_of_ble_eq_true rfl) _ rfl dX9_copy_1 ?_
  show Go x D (tysOf ca) h (LaC ca h nl) 8 M 4 [some (.ref (h 0)), some (.int a1), some (.int a2), some (.int a3), some (.int a4), some (.int a5), none, none] [.int r1]
  refine o_if_eq K 14 dX9_copy_4 (by decide) (fun c2 => ?_) (fun c2 => ?_)
  · have hf := ip c2 hf
    refine o_ldc K q330 dX9_copy_14 ?_
    exact e_iret K hf hR dX9_copy_16
  · have hf := im c2 hf
    refine o_iload_n K 3 dX9_copy_7 rfl rfl ?_
    obtain ⟨r3, er3, hf⟩ := bd_e hf
    refine o_callS K [.int a3] (k_X9_isSheet x.2.1 E D ca h nl M a3 er3) s_X9_207 rfl ⟨by decide, by decide⟩ (Nat.le_of_ble_eq_true rfl) _ rfl dX9_copy_8 ?_
    show Go x D (tysOf ca) h (LaC ca h nl) 8 M 11 [some (.ref (h 0)), some (.int a1), some (.int a2), some (.int a3), some (.int a4), some (.int a5), none, none] [.int r3]
    refine o_if_ne K 17 dX9_copy_11 (by decide) (fun c4 => ?_) (fun c4 => ?_)
    · have hf := im c4 hf
      refine o_aload_n K 0 dX9_copy_17 rfl rfl ?_
      refine gC_X9_35 K dX9_copy_18 ?_
      refine o_iload_n K 1 dX9_copy_21 rfl rfl ?_
      obtain ⟨g5, hf⟩ := gd_e hf
      obtain ⟨s6, es6, hf⟩ := nm_o hf
      have hs6 : ShOK ca h s6 := shA g5 es6
      refine aSheets K g5 es6 dX9_copy_22 ?_
      refine o_astore K 6 [some (.ref (h 0)), some (.int a1), some (.int a2), some (.int a3), some (.int a4), some (.int a5), some (.ref (h s6)), none] dX9_copy_23 (by decide) rfl rfl ?_
      refine o_aload_n K 0 dX9_copy_25 rfl rfl ?_
      refine gC_X9_35 K dX9_copy_26 ?_
      refine o_iload_n K 3 dX9_copy_29 rfl rfl ?_
      obtain ⟨g7, hf⟩ := gd_e hf
      obtain ⟨s8, es8, hf⟩ := nm_o hf
      have hs8 : ShOK ca h s8 := shA g7 es8
      refine aSheets K g7 es8 dX9_copy_30 ?_
      refine o_astore K 7 [some (.ref (h 0)), some (.int a1), some (.int a2), some (.int a3), some (.int a4), some (.int a5), some (.ref (h s6)), some (.ref (h s8))] dX9_copy_31 (by decide) rfl rfl ?_
      refine o_aload K 6 dX9_copy_33 rfl ?_
      obtain ⟨r9, er9, hf⟩ := bd_e hf
      refine o_callV K [] (k_X6_isMissing x.2.1 E D ca h nl M s6 hs6 er9) s_X9_210 (ltSheet hs6) (obSheet_c (ca := ca) (h := h) hs6 _) rfl rfl rfl ⟨by decide, by decide⟩ (Nat.le_of_ble_eq_true rfl) _ rfl dX9_copy_35 ?_
      show Go x D (tysOf ca) h (LaC ca h nl) 8 M 38 [some (.ref (h 0)), some (.int a1), some (.int a2), some (.int a3), some (.int a4), some (.int a5), some (.ref (h s6)), some (.ref (h s8))] [.int r9]
      refine o_if_ne K 49 dX9_copy_38 (by decide) (fun c10 => ?_) (fun c10 => ?_)
      · have hf := im c10 hf
        refine o_ldc K q607 dX9_copy_49 ?_
        exact e_iret K hf hR dX9_copy_51
      · have hf := ip c10 hf
        refine o_aload K 7 dX9_copy_41 rfl ?_
        obtain ⟨r11, er11, hf⟩ := bd_e hf
        refine o_callV K [] (k_X6_isMissing x.2.1 E D ca h nl M s8 hs8 er11) s_X9_210 (ltSheet hs8) (obSheet_c (ca := ca) (h := h) hs8 _) rfl rfl rfl ⟨by decide, by decide⟩ (Nat.le_of_ble_eq_true rfl) _ rfl dX9_copy_43 ?_
        show Go x D (tysOf ca) h (LaC ca h nl) 8 M 46 [some (.ref (h 0)), some (.int a1), some (.int a2), some (.int a3), some (.int a4), some (.int a5), some (.ref (h s6)), some (.ref (h s8))] [.int r11]
        refine o_if_eq K 52 dX9_copy_46 (by decide) (fun c12 => ?_) (fun c12 => ?_)
        · have hf := ip c12 hf
          refine o_aload K 6 dX9_copy_52 rfl ?_
          refine gC_X9_274 hs6 K dX9_copy_54 ?_
          refine o_aload K 7 dX9_copy_57 rfl ?_
          refine gC_X9_274 hs8 K dX9_copy_59 ?_
          refine o_icmp_eq K 68 dX9_copy_62 (by decide) (fun c13 => ?_) (fun c13 => ?_)
          · have hf := ip c13 hf
            refine o_aload K 6 dX9_copy_68 rfl ?_
            refine o_iload_n K 2 dX9_copy_70 rfl rfl ?_
            refine o_iload K 5 dX9_copy_71 rfl ?_
            obtain ⟨r14, er14, hf⟩ := bd_e hf
            refine o_callV K [.int a2, .int a5] (k_X6_hasRange x.2.1 E D ca h nl M s6 a2 a5 hs6 er14) s_X9_290 (ltSheet hs6) (obSheet_c (ca := ca) (h := h) hs6 _) rfl rfl rfl ⟨by decide, by decide⟩ (Nat.le_of_ble_eq_true rfl) _ rfl dX9_copy_73 ?_
            show Go x D (tysOf ca) h (LaC ca h nl) 8 M 76 [some (.ref (h 0)), some (.int a1), some (.int a2), some (.int a3), some (.int a4), some (.int a5), some (.ref (h s6)), some (.ref (h s8))] [.int r14]
            refine o_if_eq K 91 dX9_copy_76 (by decide) (fun c15 => ?_) (fun c15 => ?_)
            · have hf := ip c15 hf
              refine o_ldcw K q893 dX9_copy_91 ?_
              exact e_iret K hf hR dX9_copy_94
            · have hf := im c15 hf
              refine o_aload K 7 dX9_copy_79 rfl ?_
              refine o_iload K 4 dX9_copy_81 rfl ?_
              refine o_iload K 5 dX9_copy_83 rfl ?_
              obtain ⟨r16, er16, hf⟩ := bd_e hf
              refine o_callV K [.int a4, .int a5] (k_X6_hasRange x.2.1 E D ca h nl M s8 a4 a5 hs8 er16) s_X9_290 (ltSheet hs8) (obSheet_c (ca := ca) (h := h) hs8 _) rfl rfl rfl ⟨by decide, by decide⟩ (Nat.le_of_ble_eq_true rfl) _ rfl dX9_copy_85 ?_
              show Go x D (tysOf ca) h (LaC ca h nl) 8 M 88 [some (.ref (h 0)), some (.int a1), some (.int a2), some (.int a3), some (.int a4), some (.int a5), some (.ref (h s6)), some (.ref (h s8))] [.int r16]
              refine o_if_ne K 95 dX9_copy_88 (by decide) (fun c17 => ?_) (fun c17 => ?_)
              · have hf := im c17 hf
                refine o_aload K 6 dX9_copy_95 rfl ?_
                refine gC_X9_277 hs6 K dX9_copy_97 ?_
                refine o_iload_n K 2 dX9_copy_100 rfl rfl ?_
                refine o_aload K 7 dX9_copy_101 rfl ?_
                refine gC_X9_277 hs8 K dX9_copy_103 ?_
                refine o_iload K 4 dX9_copy_106 rfl ?_
                refine o_iload K 5 dX9_copy_108 rfl ?_
                obtain ⟨g19, M18, eM18, hf⟩ := cp_e hf
                refine o_copy K 0 0 (ltC hs6.1) (hs6.2.2 _) (ltC hs8.1) hs8.2.2 rfl rfl q914 q470 q469 q15 g19 ⟨by decide, by decide⟩ (Nat.le_of_ble_eq_true rfl) dX9_copy_110 ?_
                refine o_nmM eM18 ?_
                refine o_iload K 5 dX9_copy_113 rfl ?_
                exact e_iret K hf hR dX9_copy_115
              · have hf := ip c17 hf
                refine o_ldcw K q893 dX9_copy_91 ?_
                exact e_iret K hf hR dX9_copy_94
          · have hf := im c13 hf
            refine o_ldc K q374 dX9_copy_65 ?_
            exact e_iret K hf hR dX9_copy_67
        · have hf := im c12 hf
          refine o_ldc K q607 dX9_copy_49 ?_
          exact e_iret K hf hR dX9_copy_51
    · have hf := ip c4 hf
      refine o_ldc K q330 dX9_copy_14 ?_
      exact e_iret K hf hR dX9_copy_16
def f_X9_isSlot (a1 : Int32) : Option Int32 := bd (f_X9_isWithin a1 (0 : Int32) (4 : Int32)) fun r1 => gd (bz r1) <| some (r1)
set_option maxHeartbeats 4000000 in
set_option maxRecDepth 100000 in
theorem k_X9_isSlot (l : Launch) (E : Amd) (D : va_G) (ca : Nat → ClassId) (h : Nat → Nat) (nl : Nat) (M : Mem) (a1 : Int32) {r0 : Int32} (hf : f_X9_isSlot a1 = some r0) : Ct l E D (tysOf ca) h (LaC ca h nl) yX9_isSlot cX9_isSlot 1 (some .boolean) 1 22 [.int a1] M (some (.int r0)) M := by
  refine Ct.mk [some (.int a1)] (by decide) (Nat.le_of_ble_eq_true rfl) (argsV [.int a1] 0 rfl rfl) ?_
  intro x hx0 K hR
  have K : Kx x E D (tysOf ca) h (LaC ca h nl) RX9 cX9_isSlot 1 1 22 := K
  rw [f_X9_isSlot] at hf
  refine o_iload_n K 0 dX9_isSlot_0 rfl rfl ?_
  refine o_iconst K 0 dX9_isSlot_1 (by decide) ?_
  refine o_iconst K 4 dX9_isSlot_2 (by decide) ?_
  obtain ⟨r1, er1, hf⟩ := bd_e hf
  refine o_callS K [.int a1, .int 0, .int 4] (k_X9_isWithin x.2.1 E D ca h nl M a1 (0 : Int32) (4 : Int32) er1) s_X9_60 rfl ⟨by decide, by decide⟩ (Nat.le_of_ble_eq_true rfl) _ rfl dX9_isSlot_3 ?_
  show Go x D (tysOf ca) h (LaC ca h nl) 1 M 6 [some (.int a1)] [.int r1]
  obtain ⟨g2, hf⟩ := gd_e hf
  exact r_zret K hf hR g2 dX9_isSlot_6
def f_X9_canLay (M : Mem) (a1 : Int32) (a2 : Int32) : Option Int32 := if a1 = 0 then (some ((1 : Int32))) else if a1 = 1 then (bd (f_X0_has 0 M a2) fun r3 => gd (bz r3) <| some (r3)) else if a1 = 2 then (bd (f_X9_isSheet a2) fun r6 => gd (bz r6) <| some (r6)) else if a1 = 3 then (some ((1 : Int32))) else some ((0 : Int32))
set_option maxHeartbeats 4000000 in
set_option maxRecDepth 100000 in
theorem k_X9_canLay (l : Launch) (E : Amd) (D : va_G) (ca : Nat → ClassId) (h : Nat → Nat) (nl : Nat) (M : Mem) (a1 : Int32) (a2 : Int32) {r0 : Int32} (hf : f_X9_canLay M a1 a2 = some r0) : Ct l E D (tysOf ca) h (LaC ca h nl) yX9_canLay cX9_canLay 3 (some .boolean) 2 43 [.ref (h 0), .int a1, .int a2] M (some (.int r0)) M := by
  refine Ct.mk [some (.ref (h 0)), some (.int a1), some (.int a2)] (by decide) (Nat.le_of_ble_eq_true rfl) (argsV [.ref (h 0), .int a1, .int a2] 0 rfl rfl) ?_
  intro x hx0 K hR
  have K : Kx x E D (tysOf ca) h (LaC ca h nl) RX9 cX9_canLay 3 2 43 := K
  rw [f_X9_canLay] at hf
  refine o_iload_n K 1 dX9_canLay_0 rfl rfl ?_
  by_cases c1 : a1 = 0
  · have hf := ip c1 hf
    refine o_table K 32 dX9_canLay_1 (by decide) (by rw [c1]; try decide) (by decide) ?_
    refine o_iconst K 1 dX9_canLay_32 (by decide) ?_
    exact r_zret K hf hR (by decide) dX9_canLay_33
  have hf := im c1 hf
  by_cases c2 : a1 = 1
  · have hf := ip c2 hf
    refine o_table K 34 dX9_canLay_1 (by decide) (by rw [c2]; try decide) (by decide) ?_
    refine o_aload_n K 0 dX9_canLay_34 rfl rfl ?_
    refine gC_X9_10 K dX9_canLay_35 ?_
    refine gC_X9_67 hb_0 K dX9_canLay_38 ?_
    refine o_iload_n K 2 dX9_canLay_41 rfl rfl ?_
    obtain ⟨r3, er3, hf⟩ := bd_e hf
    refine o_callV K [.int a2] (k_X0_has x.2.1 E D ca h nl M 0 a2 hb_0 er3) s_X9_80 (ltDoors hb_0) (obDoors_c (ca := ca) (h := h) hb_0 _) rfl rfl rfl ⟨by decide, by decide⟩ (Nat.le_of_ble_eq_true rfl) _ rfl dX9_canLay_42 ?_
    show Go x D (tysOf ca) h (LaC ca h nl) 3 M 45 [some (.ref (h 0)), some (.int a1), some (.int a2)] [.int r3]
    obtain ⟨g4, hf⟩ := gd_e hf
    exact r_zret K hf hR g4 dX9_canLay_45
  have hf := im c2 hf
  by_cases c5 : a1 = 2
  · have hf := ip c5 hf
    refine o_table K 46 dX9_canLay_1 (by decide) (by rw [c5]; try decide) (by decide) ?_
    refine o_iload_n K 2 dX9_canLay_46 rfl rfl ?_
    obtain ⟨r6, er6, hf⟩ := bd_e hf
    refine o_callS K [.int a2] (k_X9_isSheet x.2.1 E D ca h nl M a2 er6) s_X9_207 rfl ⟨by decide, by decide⟩ (Nat.le_of_ble_eq_true rfl) _ rfl dX9_canLay_47 ?_
    show Go x D (tysOf ca) h (LaC ca h nl) 3 M 50 [some (.ref (h 0)), some (.int a1), some (.int a2)] [.int r6]
    obtain ⟨g7, hf⟩ := gd_e hf
    exact r_zret K hf hR g7 dX9_canLay_50
  have hf := im c5 hf
  by_cases c8 : a1 = 3
  · have hf := ip c8 hf
    refine o_table K 32 dX9_canLay_1 (by decide) (by rw [c8]; try decide) (by decide) ?_
    refine o_iconst K 1 dX9_canLay_32 (by decide) ?_
    exact r_zret K hf hR (by decide) dX9_canLay_33
  have hf := im c8 hf
  refine o_table K 51 dX9_canLay_1 (by decide) (tsel_d [0, 1, 2, 3] (List.forall_mem_cons.mpr ⟨lv_neT c1 rfl, (List.forall_mem_cons.mpr ⟨lv_neT c2 rfl, (List.forall_mem_cons.mpr ⟨lv_neT c5 rfl, (List.forall_mem_cons.mpr ⟨lv_neT c8 rfl, (List.forall_mem_nil _)⟩)⟩)⟩)⟩) (by decide)) (by decide) ?_
  refine o_iconst K 0 dX9_canLay_51 (by decide) ?_
  exact r_zret K hf hR (by decide) dX9_canLay_52
def f_X9_lay_j39 (a0 : Int32) (a1 : Int32) (a2 : Int32) (M : Mem) : Option (Int32 × Mem) := gd (ib a0 5) <| nm (ix a0) fun i11 => nm (M (66 + 3 * i11) 0 : Int32) fun x12 => nm (sto M (66 + 3 * i11) 0 a1) fun M13 => if a1 = 1 then (rd M13 (HB 0 + 2) 10 a2 fun x21 => nm (sto M13 (66 + 3 * i11) 1 x21) fun M23 => rd M23 (HB 0 + 5) 10 a2 fun x24 => nm (sto M23 (66 + 3 * i11) 2 x24) fun M26 => some (x12, M26)) else if a1 = 2 then (gd (ib a2 4) <| nm (57 + 2 * ix a2) fun s18 => bd (f_X6_takeFrom (67 + 3 * i11) s18 M13) fun M20 => some (x12, M20)) else nm (sto M13 (66 + 3 * i11) 3 a2) fun M16 => some (x12, M16)
set_option maxHeartbeats 4000000 in
set_option maxRecDepth 100000 in
theorem t_X9_lay_j39 {x : En} {E : Amd} {D : va_G} {ca : Nat → ClassId} {h : Nat → Nat} {nl : Nat} (K : Kx x E D (tysOf ca) h (LaC ca h nl) RX9 cX9_lay 6 3 65) {r0 : Int32} {Mo : Mem} (hR : Rt x D h (LaC ca h nl) (some .int) (some (.int r0)) Mo) (a0 : Int32) (a1 : Int32) (a2 : Int32) (M : Mem) (hf : f_X9_lay_j39 a0 a1 a2 M = some (r0, Mo)) : Go x D (tysOf ca) h (LaC ca h nl) 6 M 39 [some (.ref (h 0)), some (.int a0), some (.int a1), some (.int a2), none, none] [] := by
  rw [f_X9_lay_j39] at hf
  refine o_aload_n K 0 dX9_lay_39 rfl rfl ?_
  refine gC_X9_41 K dX9_lay_40 ?_
  refine o_iload_n K 1 dX9_lay_43 rfl rfl ?_
  obtain ⟨g10, hf⟩ := gd_e hf
  obtain ⟨i11, ei11, hf⟩ := nm_o hf
  have hi11 : i11 < 5 := slA g10 ei11
  refine aSlots K g10 ei11 dX9_lay_44 ?_
  refine o_astore K 4 [some (.ref (h 0)), some (.int a0), some (.int a1), some (.int a2), some (.ref (h (66 + 3 * i11))), none] dX9_lay_45 (by decide) rfl rfl ?_
  refine o_aload K 4 dX9_lay_47 rfl ?_
  refine gC_X9_305 hi11 K dX9_lay_49 ?_
  obtain ⟨x12, ex12, hf⟩ := nm_o hf
  refine o_nmi ex12 ?_
  refine o_istore K 5 [some (.ref (h 0)), some (.int a0), some (.int a1), some (.int a2), some (.ref (h (66 + 3 * i11))), some (.int x12)] dX9_lay_52 (by decide) rfl rfl ?_
  refine o_aload K 4 dX9_lay_54 rfl ?_
  refine o_iload_n K 2 dX9_lay_56 rfl rfl ?_
  obtain ⟨M13, eM13, hf⟩ := nm_o hf
  refine pC_X9_305 hi11 K dX9_lay_57 ?_
  refine o_nmM eM13 ?_
  refine o_iload_n K 2 dX9_lay_60 rfl rfl ?_
  refine o_iconst K 1 dX9_lay_61 (by decide) ?_
  refine o_icmp_ne K 102 dX9_lay_62 (by decide) (fun c14 => ?_) (fun c14 => ?_)
  · have hf := im c14 hf
    refine o_iload_n K 2 dX9_lay_102 rfl rfl ?_
    refine o_iconst K 2 dX9_lay_103 (by decide) ?_
    refine o_icmp_ne K 124 dX9_lay_104 (by decide) (fun c15 => ?_) (fun c15 => ?_)
    · have hf := im c15 hf
      refine o_aload K 4 dX9_lay_124 rfl ?_
      refine o_iload_n K 3 dX9_lay_126 rfl rfl ?_
      obtain ⟨M16, eM16, hf⟩ := nm_o hf
      refine pC_X9_320 hi11 K dX9_lay_127 ?_
      refine o_nmM eM16 ?_
      refine o_iload K 5 dX9_lay_130 rfl ?_
      exact e_iret K hf hR dX9_lay_132
    · have hf := ip c15 hf
      refine o_aload K 4 dX9_lay_107 rfl ?_
      refine gC_X9_312 hi11 K dX9_lay_109 ?_
      refine o_aload_n K 0 dX9_lay_112 rfl rfl ?_
      refine gC_X9_35 K dX9_lay_113 ?_
      refine o_iload_n K 3 dX9_lay_116 rfl rfl ?_
      obtain ⟨g17, hf⟩ := gd_e hf
      obtain ⟨s18, es18, hf⟩ := nm_o hf
      have hs18 : ShOK ca h s18 := shA g17 es18
      refine aSheets K g17 es18 dX9_lay_117 ?_
      obtain ⟨M20, er19, hf⟩ := bd_e hf
      refine o_callV K [.ref (h s18)] (k_X6_takeFrom x.2.1 E D ca h nl M13 (67 + 3 * i11) s18 (shT hi11) hs18 er19) s_X9_316 (ltSheet (shT hi11)) (obSheet_c (ca := ca) (h := h) (shT hi11) _) rfl rfl rfl ⟨by decide, by decide⟩ (Nat.le_of_ble_eq_true rfl) _ rfl dX9_lay_118 ?_
      show Go x D (tysOf ca) h (LaC ca h nl) 6 M20 121 [some (.ref (h 0)), some (.int a0), some (.int a1), some (.int a2), some (.ref (h (66 + 3 * i11))), some (.int x12)] []
      refine o_goto K 130 dX9_lay_121 (by decide) ?_
      refine o_iload K 5 dX9_lay_130 rfl ?_
      exact e_iret K hf hR dX9_lay_132
  · have hf := ip c14 hf
    refine o_aload K 4 dX9_lay_65 rfl ?_
    refine o_aload_n K 0 dX9_lay_67 rfl rfl ?_
    refine gC_X9_10 K dX9_lay_68 ?_
    refine gC_X9_67 hb_0 K dX9_lay_71 ?_
    refine gC_X9_83 hb_0 K dX9_lay_74 ?_
    refine o_iload_n K 3 dX9_lay_77 rfl rfl ?_
    obtain ⟨g22, x21, ex21, hf⟩ := rd_e hf
    refine lCh hb_0 2 10 (by decide) (fun _ => rfl) K g22 dX9_lay_78 ?_
    refine o_nmi ex21 ?_
    obtain ⟨M23, eM23, hf⟩ := nm_o hf
    refine pC_X9_308 hi11 K dX9_lay_79 ?_
    refine o_nmM eM23 ?_
    refine o_aload K 4 dX9_lay_82 rfl ?_
    refine o_aload_n K 0 dX9_lay_84 rfl rfl ?_
    refine gC_X9_10 K dX9_lay_85 ?_
    refine gC_X9_67 hb_0 K dX9_lay_88 ?_
    refine gC_X9_92 hb_0 K dX9_lay_91 ?_
    refine o_iload_n K 3 dX9_lay_94 rfl rfl ?_
    obtain ⟨g25, x24, ex24, hf⟩ := rd_e hf
    refine lCh hb_0 5 10 (by decide) (fun _ => rfl) K g25 dX9_lay_95 ?_
    refine o_nmi ex24 ?_
    obtain ⟨M26, eM26, hf⟩ := nm_o hf
    refine pC_X9_310 hi11 K dX9_lay_96 ?_
    refine o_nmM eM26 ?_
    refine o_goto K 130 dX9_lay_99 (by decide) ?_
    refine o_iload K 5 dX9_lay_130 rfl ?_
    exact e_iret K hf hR dX9_lay_132
def f_X9_lay (M : Mem) (a1 : Int32) (a2 : Int32) (a3 : Int32) : Option (Int32 × Mem) := bd (f_X9_isSlot a1) fun r1 => if r1 = 0 then (some (((-1000000001) : Int32), M)) else bd (f_X9_canLay M a2 a3) fun r3 => if r3 = 0 then (some (((-1000000001) : Int32), M)) else if a2 = 2 then (gd (ib a3 4) <| nm (57 + 2 * ix a3) fun s7 => bd (f_X6_isMissing s7 M) fun r8 => if r8 = 0 then (f_X9_lay_j39 a1 a2 a3 M) else some (((-1000000011) : Int32), M)) else f_X9_lay_j39 a1 a2 a3 M
set_option maxHeartbeats 4000000 in
set_option maxRecDepth 100000 in
theorem k_X9_lay (l : Launch) (E : Amd) (D : va_G) (ca : Nat → ClassId) (h : Nat → Nat) (nl : Nat) (M : Mem) (a1 : Int32) (a2 : Int32) (a3 : Int32) {r0 : Int32} {Mo : Mem} (hf : f_X9_lay M a1 a2 a3 = some (r0, Mo)) : Ct l E D (tysOf ca) h (LaC ca h nl) yX9_lay cX9_lay 6 (some .int) 3 65 [.ref (h 0), .int a1, .int a2, .int a3] M (some (.int r0)) Mo := by
  refine Ct.mk [some (.ref (h 0)), some (.int a1), some (.int a2), some (.int a3), none, none] (by decide) (Nat.le_of_ble_eq_true rfl) (argsV [.ref (h 0), .int a1, .int a2, .int a3] 2 rfl rfl) ?_
  intro x hx0 K hR
  have K : Kx x E D (tysOf ca) h (LaC ca h nl) RX9 cX9_lay 6 3 65 := K
  rw [f_X9_lay] at hf
  refine o_iload_n K 1 dX9_lay_0 rfl rfl ?_
  obtain ⟨r1, er1, hf⟩ := bd_e hf
  refine o_callS K [.int a1] (k_X9_isSlot x.2.1 E D ca h nl M a1 er1) s_X9_299 rfl ⟨by decide, by decide⟩ (Nat.le_of_ble_eq_true rfl) _ rfl dX9_lay_1 ?_
  show Go x D (tysOf ca) h (LaC ca h nl) 6 M 4 [some (.ref (h 0)), some (.int a1), some (.int a2), some (.int a3), none, none] [.int r1]
  refine o_if_eq K 16 dX9_lay_4 (by decide) (fun c2 => ?_) (fun c2 => ?_)
  · have hf := ip c2 hf
    refine o_ldc K q330 dX9_lay_16 ?_
    exact e_iret K hf hR dX9_lay_18
  · have hf := im c2 hf
    refine o_aload_n K 0 dX9_lay_7 rfl rfl ?_
    refine o_iload_n K 2 dX9_lay_8 rfl rfl ?_
    refine o_iload_n K 3 dX9_lay_9 rfl rfl ?_
    obtain ⟨r3, er3, hf⟩ := bd_e hf
    refine o_callV K [.int a2, .int a3] (k_X9_canLay x.2.1 E D ca h nl M a2 a3 er3) s_X9_302 (ltOne) (obOne_c (ca := ca) (h := h) _) rfl rfl rfl ⟨by decide, by decide⟩ (Nat.le_of_ble_eq_true rfl) _ rfl dX9_lay_10 ?_
    show Go x D (tysOf ca) h (LaC ca h nl) 6 M 13 [some (.ref (h 0)), some (.int a1), some (.int a2), some (.int a3), none, none] [.int r3]
    refine o_if_ne K 19 dX9_lay_13 (by decide) (fun c4 => ?_) (fun c4 => ?_)
    · have hf := im c4 hf
      refine o_iload_n K 2 dX9_lay_19 rfl rfl ?_
      refine o_iconst K 2 dX9_lay_20 (by decide) ?_
      refine o_icmp_ne K 39 dX9_lay_21 (by decide) (fun c5 => ?_) (fun c5 => ?_)
      · have hf := im c5 hf
        exact t_X9_lay_j39 K hR a1 a2 a3 M hf
      · have hf := ip c5 hf
        refine o_aload_n K 0 dX9_lay_24 rfl rfl ?_
        refine gC_X9_35 K dX9_lay_25 ?_
        refine o_iload_n K 3 dX9_lay_28 rfl rfl ?_
        obtain ⟨g6, hf⟩ := gd_e hf
        obtain ⟨s7, es7, hf⟩ := nm_o hf
        have hs7 : ShOK ca h s7 := shA g6 es7
        refine aSheets K g6 es7 dX9_lay_29 ?_
        obtain ⟨r8, er8, hf⟩ := bd_e hf
        refine o_callV K [] (k_X6_isMissing x.2.1 E D ca h nl M s7 hs7 er8) s_X9_210 (ltSheet hs7) (obSheet_c (ca := ca) (h := h) hs7 _) rfl rfl rfl ⟨by decide, by decide⟩ (Nat.le_of_ble_eq_true rfl) _ rfl dX9_lay_30 ?_
        show Go x D (tysOf ca) h (LaC ca h nl) 6 M 33 [some (.ref (h 0)), some (.int a1), some (.int a2), some (.int a3), none, none] [.int r8]
        refine o_if_eq K 39 dX9_lay_33 (by decide) (fun c9 => ?_) (fun c9 => ?_)
        · have hf := ip c9 hf
          exact t_X9_lay_j39 K hR a1 a2 a3 M hf
        · have hf := im c9 hf
          refine o_ldc K q607 dX9_lay_36 ?_
          exact e_iret K hf hR dX9_lay_38
    · have hf := ip c4 hf
      refine o_ldc K q330 dX9_lay_16 ?_
      exact e_iret K hf hR dX9_lay_18
def f_X9_ask (M : Mem) (a1 : Int32) (a2 : Int32) : Option Int32 := bd (f_X9_isSlot a1) fun r1 => if r1 = 0 then (some (((-1000000001) : Int32))) else bd (f_X2_isKind a2) fun r3 => if r3 = 0 then (some (((-1000000001) : Int32))) else gd (ib a1 5) <| nm (ix a1) fun i6 => if (M (66 + 3 * i6) 0) = 0 then (some (((-1000000011) : Int32))) else if (M (66 + 3 * i6) 0) = 1 then (bd (f_X2_isOf M (M (66 + 3 * i6) 1) a2) fun r9 => if r9 = 0 then (some (((-1000000012) : Int32))) else bd (f_X2_worthOf (M (66 + 3 * i6) 1) (M (66 + 3 * i6) 2)) fun r11 => some (r11)) else some (((-1000000012) : Int32))
set_option maxHeartbeats 4000000 in
set_option maxRecDepth 100000 in
theorem k_X9_ask (l : Launch) (E : Amd) (D : va_G) (ca : Nat → ClassId) (h : Nat → Nat) (nl : Nat) (M : Mem) (a1 : Int32) (a2 : Int32) {r0 : Int32} (hf : f_X9_ask M a1 a2 = some r0) : Ct l E D (tysOf ca) h (LaC ca h nl) yX9_ask cX9_ask 4 (some .int) 2 42 [.ref (h 0), .int a1, .int a2] M (some (.int r0)) M := by
  refine Ct.mk [some (.ref (h 0)), some (.int a1), some (.int a2), none] (by decide) (Nat.le_of_ble_eq_true rfl) (argsV [.ref (h 0), .int a1, .int a2] 1 rfl rfl) ?_
  intro x hx0 K hR
  have K : Kx x E D (tysOf ca) h (LaC ca h nl) RX9 cX9_ask 4 2 42 := K
  rw [f_X9_ask] at hf
  refine o_iload_n K 1 dX9_ask_0 rfl rfl ?_
  obtain ⟨r1, er1, hf⟩ := bd_e hf
  refine o_callS K [.int a1] (k_X9_isSlot x.2.1 E D ca h nl M a1 er1) s_X9_299 rfl ⟨by decide, by decide⟩ (Nat.le_of_ble_eq_true rfl) _ rfl dX9_ask_1 ?_
  show Go x D (tysOf ca) h (LaC ca h nl) 4 M 4 [some (.ref (h 0)), some (.int a1), some (.int a2), none] [.int r1]
  refine o_if_eq K 14 dX9_ask_4 (by decide) (fun c2 => ?_) (fun c2 => ?_)
  · have hf := ip c2 hf
    refine o_ldc K q330 dX9_ask_14 ?_
    exact r_iret K hf hR dX9_ask_16
  · have hf := im c2 hf
    refine o_iload_n K 2 dX9_ask_7 rfl rfl ?_
    obtain ⟨r3, er3, hf⟩ := bd_e hf
    refine o_callS K [.int a2] (k_X2_isKind x.2.1 E D ca h nl M a2 er3) s_X9_51 rfl ⟨by decide, by decide⟩ (Nat.le_of_ble_eq_true rfl) _ rfl dX9_ask_8 ?_
    show Go x D (tysOf ca) h (LaC ca h nl) 4 M 11 [some (.ref (h 0)), some (.int a1), some (.int a2), none] [.int r3]
    refine o_if_ne K 17 dX9_ask_11 (by decide) (fun c4 => ?_) (fun c4 => ?_)
    · have hf := im c4 hf
      refine o_aload_n K 0 dX9_ask_17 rfl rfl ?_
      refine gC_X9_41 K dX9_ask_18 ?_
      refine o_iload_n K 1 dX9_ask_21 rfl rfl ?_
      obtain ⟨g5, hf⟩ := gd_e hf
      obtain ⟨i6, ei6, hf⟩ := nm_o hf
      have hi6 : i6 < 5 := slA g5 ei6
      refine aSlots K g5 ei6 dX9_ask_22 ?_
      refine o_astore_n K 3 [some (.ref (h 0)), some (.int a1), some (.int a2), some (.ref (h (66 + 3 * i6)))] dX9_ask_23 rfl (by decide) rfl rfl ?_
      refine o_aload_n K 3 dX9_ask_24 rfl rfl ?_
      refine gC_X9_305 hi6 K dX9_ask_25 ?_
      refine o_if_ne K 34 dX9_ask_28 (by decide) (fun c7 => ?_) (fun c7 => ?_)
      · have hf := im c7 hf
        refine o_aload_n K 3 dX9_ask_34 rfl rfl ?_
        refine gC_X9_305 hi6 K dX9_ask_35 ?_
        refine o_iconst K 1 dX9_ask_38 (by decide) ?_
        refine o_icmp_ne K 53 dX9_ask_39 (by decide) (fun c8 => ?_) (fun c8 => ?_)
        · have hf := im c8 hf
          refine o_ldc K q374 dX9_ask_53 ?_
          exact r_iret K hf hR dX9_ask_55
        · have hf := ip c8 hf
          refine o_aload_n K 3 dX9_ask_42 rfl rfl ?_
          refine gC_X9_308 hi6 K dX9_ask_43 ?_
          refine o_iload_n K 2 dX9_ask_46 rfl rfl ?_
          obtain ⟨r9, er9, hf⟩ := bd_e hf
          refine o_callS K [.int (M (66 + 3 * i6) 1), .int a2] (k_X2_isOf x.2.1 E D ca h nl M (M (66 + 3 * i6) 1) a2 er9) s_X9_109 rfl ⟨by decide, by decide⟩ (Nat.le_of_ble_eq_true rfl) _ rfl dX9_ask_47 ?_
          show Go x D (tysOf ca) h (LaC ca h nl) 4 M 50 [some (.ref (h 0)), some (.int a1), some (.int a2), some (.ref (h (66 + 3 * i6)))] [.int r9]
          refine o_if_ne K 56 dX9_ask_50 (by decide) (fun c10 => ?_) (fun c10 => ?_)
          · have hf := im c10 hf
            refine o_aload_n K 3 dX9_ask_56 rfl rfl ?_
            refine gC_X9_308 hi6 K dX9_ask_57 ?_
            refine o_aload_n K 3 dX9_ask_60 rfl rfl ?_
            refine gC_X9_310 hi6 K dX9_ask_61 ?_
            obtain ⟨r11, er11, hf⟩ := bd_e hf
            refine o_callS K [.int (M (66 + 3 * i6) 1), .int (M (66 + 3 * i6) 2)] (k_X2_worthOf x.2.1 E D ca h nl M (M (66 + 3 * i6) 1) (M (66 + 3 * i6) 2) er11) s_X9_105 rfl ⟨by decide, by decide⟩ (Nat.le_of_ble_eq_true rfl) _ rfl dX9_ask_64 ?_
            show Go x D (tysOf ca) h (LaC ca h nl) 4 M 67 [some (.ref (h 0)), some (.int a1), some (.int a2), some (.ref (h (66 + 3 * i6)))] [.int r11]
            exact r_iret K hf hR dX9_ask_67
          · have hf := ip c10 hf
            refine o_ldc K q374 dX9_ask_53 ?_
            exact r_iret K hf hR dX9_ask_55
      · have hf := ip c7 hf
        refine o_ldc K q607 dX9_ask_31 ?_
        exact r_iret K hf hR dX9_ask_33
    · have hf := ip c4 hf
      refine o_ldc K q330 dX9_ask_14 ?_
      exact r_iret K hf hR dX9_ask_16
def f_X9_item (M : Mem) (a1 : Int32) (a2 : Int32) : Option Int32 := bd (f_X9_isSlot a1) fun r1 => if r1 = 0 then (some (((-1000000001) : Int32))) else gd (ib a1 5) <| nm (ix a1) fun i4 => if (M (66 + 3 * i4) 0) = 0 then (some (((-1000000011) : Int32))) else if (M (66 + 3 * i4) 0) = 2 then (bd (f_X6_has (67 + 3 * i4) M a2) fun r7 => if r7 = 0 then (some (((-1000000013) : Int32))) else bd (f_X6_hasNumber (67 + 3 * i4) M a2) fun r9 => if r9 = 0 then (some (((-1000000012) : Int32))) else rd M ((67 + 3 * i4) + 1) 24 a2 fun x11 => some (x11)) else some (((-1000000012) : Int32))
set_option maxHeartbeats 4000000 in
set_option maxRecDepth 100000 in
theorem k_X9_item (l : Launch) (E : Amd) (D : va_G) (ca : Nat → ClassId) (h : Nat → Nat) (nl : Nat) (M : Mem) (a1 : Int32) (a2 : Int32) {r0 : Int32} (hf : f_X9_item M a1 a2 = some r0) : Ct l E D (tysOf ca) h (LaC ca h nl) yX9_item cX9_item 4 (some .int) 3 64 [.ref (h 0), .int a1, .int a2] M (some (.int r0)) M := by
  refine Ct.mk [some (.ref (h 0)), some (.int a1), some (.int a2), none] (by decide) (Nat.le_of_ble_eq_true rfl) (argsV [.ref (h 0), .int a1, .int a2] 1 rfl rfl) ?_
  intro x hx0 K hR
  have K : Kx x E D (tysOf ca) h (LaC ca h nl) RX9 cX9_item 4 3 64 := K
  rw [f_X9_item] at hf
  refine o_iload_n K 1 dX9_item_0 rfl rfl ?_
  obtain ⟨r1, er1, hf⟩ := bd_e hf
  refine o_callS K [.int a1] (k_X9_isSlot x.2.1 E D ca h nl M a1 er1) s_X9_299 rfl ⟨by decide, by decide⟩ (Nat.le_of_ble_eq_true rfl) _ rfl dX9_item_1 ?_
  show Go x D (tysOf ca) h (LaC ca h nl) 4 M 4 [some (.ref (h 0)), some (.int a1), some (.int a2), none] [.int r1]
  refine o_if_ne K 10 dX9_item_4 (by decide) (fun c2 => ?_) (fun c2 => ?_)
  · have hf := im c2 hf
    refine o_aload_n K 0 dX9_item_10 rfl rfl ?_
    refine gC_X9_41 K dX9_item_11 ?_
    refine o_iload_n K 1 dX9_item_14 rfl rfl ?_
    obtain ⟨g3, hf⟩ := gd_e hf
    obtain ⟨i4, ei4, hf⟩ := nm_o hf
    have hi4 : i4 < 5 := slA g3 ei4
    refine aSlots K g3 ei4 dX9_item_15 ?_
    refine o_astore_n K 3 [some (.ref (h 0)), some (.int a1), some (.int a2), some (.ref (h (66 + 3 * i4)))] dX9_item_16 rfl (by decide) rfl rfl ?_
    refine o_aload_n K 3 dX9_item_17 rfl rfl ?_
    refine gC_X9_305 hi4 K dX9_item_18 ?_
    refine o_if_ne K 27 dX9_item_21 (by decide) (fun c5 => ?_) (fun c5 => ?_)
    · have hf := im c5 hf
      refine o_aload_n K 3 dX9_item_27 rfl rfl ?_
      refine gC_X9_305 hi4 K dX9_item_28 ?_
      refine o_iconst K 2 dX9_item_31 (by decide) ?_
      refine o_icmp_eq K 38 dX9_item_32 (by decide) (fun c6 => ?_) (fun c6 => ?_)
      · have hf := ip c6 hf
        refine o_aload_n K 3 dX9_item_38 rfl rfl ?_
        refine gC_X9_312 hi4 K dX9_item_39 ?_
        refine o_iload_n K 2 dX9_item_42 rfl rfl ?_
        obtain ⟨r7, er7, hf⟩ := bd_e hf
        refine o_callV K [.int a2] (k_X6_has x.2.1 E D ca h nl M (67 + 3 * i4) a2 (shT hi4) er7) s_X9_272 (ltSheet (shT hi4)) (obSheet_c (ca := ca) (h := h) (shT hi4) _) rfl rfl rfl ⟨by decide, by decide⟩ (Nat.le_of_ble_eq_true rfl) _ rfl dX9_item_43 ?_
        show Go x D (tysOf ca) h (LaC ca h nl) 4 M 46 [some (.ref (h 0)), some (.int a1), some (.int a2), some (.ref (h (66 + 3 * i4)))] [.int r7]
        refine o_if_ne K 53 dX9_item_46 (by decide) (fun c8 => ?_) (fun c8 => ?_)
        · have hf := im c8 hf
          refine o_aload_n K 3 dX9_item_53 rfl rfl ?_
          refine gC_X9_312 hi4 K dX9_item_54 ?_
          refine o_iload_n K 2 dX9_item_57 rfl rfl ?_
          obtain ⟨r9, er9, hf⟩ := bd_e hf
          refine o_callV K [.int a2] (k_X6_hasNumber x.2.1 E D ca h nl M (67 + 3 * i4) a2 (shT hi4) er9) s_X9_282 (ltSheet (shT hi4)) (obSheet_c (ca := ca) (h := h) (shT hi4) _) rfl rfl rfl ⟨by decide, by decide⟩ (Nat.le_of_ble_eq_true rfl) _ rfl dX9_item_58 ?_
          show Go x D (tysOf ca) h (LaC ca h nl) 4 M 61 [some (.ref (h 0)), some (.int a1), some (.int a2), some (.ref (h (66 + 3 * i4)))] [.int r9]
          refine o_if_eq K 76 dX9_item_61 (by decide) (fun c10 => ?_) (fun c10 => ?_)
          · have hf := ip c10 hf
            refine o_ldc K q374 dX9_item_76 ?_
            exact r_iret K hf hR dX9_item_78
          · have hf := im c10 hf
            refine o_aload_n K 3 dX9_item_64 rfl rfl ?_
            refine gC_X9_312 hi4 K dX9_item_65 ?_
            refine gC_X9_277 (shT hi4) K dX9_item_68 ?_
            refine o_iload_n K 2 dX9_item_71 rfl rfl ?_
            obtain ⟨g12, x11, ex11, hf⟩ := rd_e hf
            refine lCs (shT hi4) K g12 dX9_item_72 ?_
            refine o_nmi ex11 ?_
            refine o_goto K 78 dX9_item_73 (by decide) ?_
            exact r_iret K hf hR dX9_item_78
        · have hf := ip c8 hf
          refine o_ldcw K q893 dX9_item_49 ?_
          exact r_iret K hf hR dX9_item_52
      · have hf := im c6 hf
        refine o_ldc K q374 dX9_item_35 ?_
        exact r_iret K hf hR dX9_item_37
    · have hf := ip c5 hf
      refine o_ldc K q607 dX9_item_24 ?_
      exact r_iret K hf hR dX9_item_26
  · have hf := ip c2 hf
    refine o_ldc K q330 dX9_item_7 ?_
    exact r_iret K hf hR dX9_item_9
def f_X9_rest (M : Mem) (a1 : Int32) (a2 : Int32) : Option Int32 := bd (f_X9_isSlot a1) fun r1 => if r1 = 0 then (some (((-1000000001) : Int32))) else gd (ib a1 5) <| nm (ix a1) fun i4 => if (M (66 + 3 * i4) 0) = 0 then (some (((-1000000011) : Int32))) else if (M (66 + 3 * i4) 0) = 3 then (if a2 = 0 then (some (((-1000000002) : Int32))) else gd (decide (¬ a2 = (0 : Int32))) <| some ((M (66 + 3 * i4) 3) - (M (66 + 3 * i4) 3) / a2 * a2)) else some (((-1000000012) : Int32))
set_option maxHeartbeats 4000000 in
set_option maxRecDepth 100000 in
theorem k_X9_rest (l : Launch) (E : Amd) (D : va_G) (ca : Nat → ClassId) (h : Nat → Nat) (nl : Nat) (M : Mem) (a1 : Int32) (a2 : Int32) {r0 : Int32} (hf : f_X9_rest M a1 a2 = some r0) : Ct l E D (tysOf ca) h (LaC ca h nl) yX9_rest cX9_rest 4 (some .int) 2 42 [.ref (h 0), .int a1, .int a2] M (some (.int r0)) M := by
  refine Ct.mk [some (.ref (h 0)), some (.int a1), some (.int a2), none] (by decide) (Nat.le_of_ble_eq_true rfl) (argsV [.ref (h 0), .int a1, .int a2] 1 rfl rfl) ?_
  intro x hx0 K hR
  have K : Kx x E D (tysOf ca) h (LaC ca h nl) RX9 cX9_rest 4 2 42 := K
  rw [f_X9_rest] at hf
  refine o_iload_n K 1 dX9_rest_0 rfl rfl ?_
  obtain ⟨r1, er1, hf⟩ := bd_e hf
  refine o_callS K [.int a1] (k_X9_isSlot x.2.1 E D ca h nl M a1 er1) s_X9_299 rfl ⟨by decide, by decide⟩ (Nat.le_of_ble_eq_true rfl) _ rfl dX9_rest_1 ?_
  show Go x D (tysOf ca) h (LaC ca h nl) 4 M 4 [some (.ref (h 0)), some (.int a1), some (.int a2), none] [.int r1]
  refine o_if_ne K 10 dX9_rest_4 (by decide) (fun c2 => ?_) (fun c2 => ?_)
  · have hf := im c2 hf
    refine o_aload_n K 0 dX9_rest_10 rfl rfl ?_
    refine gC_X9_41 K dX9_rest_11 ?_
    refine o_iload_n K 1 dX9_rest_14 rfl rfl ?_
    obtain ⟨g3, hf⟩ := gd_e hf
    obtain ⟨i4, ei4, hf⟩ := nm_o hf
    have hi4 : i4 < 5 := slA g3 ei4
    refine aSlots K g3 ei4 dX9_rest_15 ?_
    refine o_astore_n K 3 [some (.ref (h 0)), some (.int a1), some (.int a2), some (.ref (h (66 + 3 * i4)))] dX9_rest_16 rfl (by decide) rfl rfl ?_
    refine o_aload_n K 3 dX9_rest_17 rfl rfl ?_
    refine gC_X9_305 hi4 K dX9_rest_18 ?_
    refine o_if_ne K 27 dX9_rest_21 (by decide) (fun c5 => ?_) (fun c5 => ?_)
    · have hf := im c5 hf
      refine o_aload_n K 3 dX9_rest_27 rfl rfl ?_
      refine gC_X9_305 hi4 K dX9_rest_28 ?_
      refine o_iconst K 3 dX9_rest_31 (by decide) ?_
      refine o_icmp_eq K 38 dX9_rest_32 (by decide) (fun c6 => ?_) (fun c6 => ?_)
      · have hf := ip c6 hf
        refine o_iload_n K 2 dX9_rest_38 rfl rfl ?_
        refine o_if_ne K 48 dX9_rest_39 (by decide) (fun c7 => ?_) (fun c7 => ?_)
        · have hf := im c7 hf
          refine o_aload_n K 3 dX9_rest_48 rfl rfl ?_
          refine gC_X9_320 hi4 K dX9_rest_49 ?_
          refine o_iload_n K 2 dX9_rest_52 rfl rfl ?_
          obtain ⟨g8, hf⟩ := gd_e hf
          refine o_irem K dX9_rest_53 (of_decide_eq_true g8) ?_
          exact r_iret K hf hR dX9_rest_54
        · have hf := ip c7 hf
          refine o_ldcw K q943 dX9_rest_42 ?_
          refine o_goto K 54 dX9_rest_45 (by decide) ?_
          exact r_iret K hf hR dX9_rest_54
      · have hf := im c6 hf
        refine o_ldc K q374 dX9_rest_35 ?_
        exact r_iret K hf hR dX9_rest_37
    · have hf := ip c5 hf
      refine o_ldc K q607 dX9_rest_24 ?_
      exact r_iret K hf hR dX9_rest_26
  · have hf := ip c2 hf
    refine o_ldc K q330 dX9_rest_7 ?_
    exact r_iret K hf hR dX9_rest_9
def f_X9_tell (M : Mem) (a1 : Int32) : Option (Int32 × Mem) := if (M 0 10) < 60 then (wr M 81 60 (M 0 10) a1 fun M3 => nm (sto M3 0 10 ((M3 0 10) + 1)) fun M4 => some (M4 0 10, M4)) else some (((-1000000003) : Int32), M)
set_option maxHeartbeats 4000000 in
set_option maxRecDepth 100000 in
theorem k_X9_tell (l : Launch) (E : Amd) (D : va_G) (ca : Nat → ClassId) (h : Nat → Nat) (nl : Nat) (M : Mem) (a1 : Int32) {r0 : Int32} {Mo : Mem} (hf : f_X9_tell M a1 = some (r0, Mo)) : Ct l E D (tysOf ca) h (LaC ca h nl) yX9_tell cX9_tell 2 (some .int) 0 0 [.ref (h 0), .int a1] M (some (.int r0)) Mo := by
  refine Ct.mk [some (.ref (h 0)), some (.int a1)] (by decide) (Nat.le_of_ble_eq_true rfl) (argsV [.ref (h 0), .int a1] 0 rfl rfl) ?_
  intro x hx0 K hR
  have K : Kx x E D (tysOf ca) h (LaC ca h nl) RX9 cX9_tell 2 0 0 := K
  rw [f_X9_tell] at hf
  refine o_aload_n K 0 dX9_tell_0 rfl rfl ?_
  refine gC_X9_324 K dX9_tell_1 ?_
  refine o_bipush K 60 dX9_tell_4 (by decide) ?_
  refine o_icmp_lt K 12 dX9_tell_6 (by decide) (fun c1 => ?_) (fun c1 => ?_)
  · have hf := ip c1 hf
    refine o_aload_n K 0 dX9_tell_12 rfl rfl ?_
    refine gC_X9_45 K dX9_tell_13 ?_
    refine o_aload_n K 0 dX9_tell_16 rfl rfl ?_
    refine gC_X9_324 K dX9_tell_17 ?_
    refine o_iload_n K 1 dX9_tell_20 rfl rfl ?_
    obtain ⟨g2, M3, eM3, hf⟩ := wr_e hf
    refine sCk 81 60 (by decide) (fun _ => rfl) K g2 dX9_tell_21 ?_
    refine o_nmM eM3 ?_
    refine o_aload_n K 0 dX9_tell_22 rfl rfl ?_
    refine o_dup K dX9_tell_23 rfl ?_
    refine gC_X9_324 K dX9_tell_24 ?_
    refine o_iconst K 1 dX9_tell_27 (by decide) ?_
    refine o_iadd K dX9_tell_28 ?_
    obtain ⟨M4, eM4, hf⟩ := nm_o hf
    refine pC_X9_324 K dX9_tell_29 ?_
    refine o_nmM eM4 ?_
    refine o_aload_n K 0 dX9_tell_32 rfl rfl ?_
    refine gC_X9_324 K dX9_tell_33 ?_
    exact e_iret K hf hR dX9_tell_36
  · have hf := im c1 hf
    refine o_ldc K q331 dX9_tell_9 ?_
    exact e_iret K hf hR dX9_tell_11
def f_X9_check (nl : Nat) (M : Mem) (a1 : Int32) : Option (Int32 × Mem) := nm (M 0 10 : Int32) fun x1 => nm (sto M 0 10 0) fun M2 => bd (f_X9_isWithin a1 (1 : Int32) (30 : Int32)) fun r3 => if r3 = 0 then (some (((-1000000001) : Int32), M2)) else if (M2 0 2) = 0 then (some (((-1000000002) : Int32), M2)) else bd2 (f_X8_rightOnes nl 1 M2 x1 a1) fun r6 M7 => bd (f_X1_minutesLeft 1 M7) fun r8 => nm ((2 : Int32) * (if r8 < a1 then r8 else a1) : Int32) fun x9 => if r6 = x9 then (if x1 = x9 then (some ((0 : Int32), M7)) else some ((1 : Int32) + r6, M7)) else some ((1 : Int32) + r6, M7)
set_option maxHeartbeats 4000000 in
set_option maxRecDepth 100000 in
theorem k_X9_check (l : Launch) (E : Amd) (D : va_G) (ca : Nat → ClassId) (h : Nat → Nat) (nl : Nat) (M : Mem) (a1 : Int32) {r0 : Int32} {Mo : Mem} (hf : f_X9_check nl M a1 = some (r0, Mo)) : Ct l E D (tysOf ca) h (LaC ca h nl) yX9_check cX9_check 5 (some .int) 6 142 [.ref (h 0), .int a1] M (some (.int r0)) Mo := by
  refine Ct.mk [some (.ref (h 0)), some (.int a1), none, none, none] (by decide) (Nat.le_of_ble_eq_true rfl) (argsV [.ref (h 0), .int a1] 3 rfl rfl) ?_
  intro x hx0 K hR
  have K : Kx x E D (tysOf ca) h (LaC ca h nl) RX9 cX9_check 5 6 142 := K
  rw [f_X9_check] at hf
  refine o_aload_n K 0 dX9_check_0 rfl rfl ?_
  refine gC_X9_324 K dX9_check_1 ?_
  obtain ⟨x1, ex1, hf⟩ := nm_o hf
  refine o_nmi ex1 ?_
  refine o_istore_n K 2 [some (.ref (h 0)), some (.int a1), some (.int x1), none, none] dX9_check_4 rfl (by decide) rfl rfl ?_
  refine o_aload_n K 0 dX9_check_5 rfl rfl ?_
  refine o_iconst K 0 dX9_check_6 (by decide) ?_
  obtain ⟨M2, eM2, hf⟩ := nm_o hf
  refine pC_X9_324 K dX9_check_7 ?_
  refine o_nmM eM2 ?_
  refine o_iload_n K 1 dX9_check_10 rfl rfl ?_
  refine o_iconst K 1 dX9_check_11 (by decide) ?_
  refine o_bipush K 30 dX9_check_12 (by decide) ?_
  obtain ⟨r3, er3, hf⟩ := bd_e hf
  refine o_callS K [.int a1, .int 1, .int 30] (k_X9_isWithin x.2.1 E D ca h nl M2 a1 (1 : Int32) (30 : Int32) er3) s_X9_60 rfl ⟨by decide, by decide⟩ (Nat.le_of_ble_eq_true rfl) _ rfl dX9_check_14 ?_
  show Go x D (tysOf ca) h (LaC ca h nl) 5 M2 17 [some (.ref (h 0)), some (.int a1), some (.int x1), none, none] [.int r3]
  refine o_if_ne K 23 dX9_check_17 (by decide) (fun c4 => ?_) (fun c4 => ?_)
  · have hf := im c4 hf
    refine o_aload_n K 0 dX9_check_23 rfl rfl ?_
    refine gC_X9_327 K dX9_check_24 ?_
    refine o_if_ne K 34 dX9_check_27 (by decide) (fun c5 => ?_) (fun c5 => ?_)
    · have hf := im c5 hf
      refine o_aload_n K 0 dX9_check_34 rfl rfl ?_
      refine gC_X9_22 K dX9_check_35 ?_
      refine o_aload_n K 0 dX9_check_38 rfl rfl ?_
      refine gC_X9_16 K dX9_check_39 ?_
      refine o_aload_n K 0 dX9_check_42 rfl rfl ?_
      refine gC_X9_45 K dX9_check_43 ?_
      refine o_iload_n K 2 dX9_check_46 rfl rfl ?_
      refine o_iload_n K 1 dX9_check_47 rfl rfl ?_
      obtain ⟨r6, M7, er6, hf⟩ := bd2_e hf
      refine o_callV K [.ref (h (HB 1)), .ref (h 81), .int x1, .int a1] (k_X8_rightOnes x.2.1 E D ca h nl M2 1 x1 a1 hb_1 er6) s_X9_331 (ltThought) (obThought_c (ca := ca) (h := h) (fun _ => 0)) rfl rfl rfl ⟨by decide, by decide⟩ (Nat.le_of_ble_eq_true rfl) _ rfl dX9_check_48 ?_
      show Go x D (tysOf ca) h (LaC ca h nl) 5 M7 51 [some (.ref (h 0)), some (.int a1), some (.int x1), none, none] [.int r6]
      refine o_istore_n K 3 [some (.ref (h 0)), some (.int a1), some (.int x1), some (.int r6), none] dX9_check_51 rfl (by decide) rfl rfl ?_
      refine o_iconst K 2 dX9_check_52 (by decide) ?_
      refine o_iload_n K 1 dX9_check_53 rfl rfl ?_
      refine o_aload_n K 0 dX9_check_54 rfl rfl ?_
      refine gC_X9_16 K dX9_check_55 ?_
      obtain ⟨r8, er8, hf⟩ := bd_e hf
      refine o_callV K [] (k_X1_minutesLeft x.2.1 E D ca h nl M7 1 hb_1 er8) s_X9_154 (ltHall hb_1) (obHall_c (ca := ca) (h := h) hb_1 _) rfl rfl rfl ⟨by decide, by decide⟩ (Nat.le_of_ble_eq_true rfl) _ rfl dX9_check_58 ?_
      show Go x D (tysOf ca) h (LaC ca h nl) 5 M7 61 [some (.ref (h 0)), some (.int a1), some (.int x1), some (.int r6), none] [.int r8, .int a1, .int 2]
      refine o_mmin K q109 q110 q6 q111 ⟨by decide, by decide⟩ (Nat.le_of_ble_eq_true rfl) dX9_check_61 ?_
      refine o_imul K dX9_check_64 ?_
      obtain ⟨x9, ex9, hf⟩ := nm_o hf
      refine o_nmi ex9 ?_
      refine o_istore K 4 [some (.ref (h 0)), some (.int a1), some (.int x1), some (.int r6), some (.int x9)] dX9_check_65 (by decide) rfl rfl ?_
      refine o_iload_n K 3 dX9_check_67 rfl rfl ?_
      refine o_iload K 4 dX9_check_68 rfl ?_
      refine o_icmp_ne K 83 dX9_check_70 (by decide) (fun c10 => ?_) (fun c10 => ?_)
      · have hf := im c10 hf
        refine o_iconst K 1 dX9_check_83 (by decide) ?_
        refine o_iload_n K 3 dX9_check_84 rfl rfl ?_
        refine o_iadd K dX9_check_85 ?_
        exact e_iret K hf hR dX9_check_86
      · have hf := ip c10 hf
        refine o_iload_n K 2 dX9_check_73 rfl rfl ?_
        refine o_iload K 4 dX9_check_74 rfl ?_
        refine o_icmp_ne K 83 dX9_check_76 (by decide) (fun c11 => ?_) (fun c11 => ?_)
        · have hf := im c11 hf
          refine o_iconst K 1 dX9_check_83 (by decide) ?_
          refine o_iload_n K 3 dX9_check_84 rfl rfl ?_
          refine o_iadd K dX9_check_85 ?_
          exact e_iret K hf hR dX9_check_86
        · have hf := ip c11 hf
          refine o_iconst K 0 dX9_check_79 (by decide) ?_
          refine o_goto K 86 dX9_check_80 (by decide) ?_
          exact e_iret K hf hR dX9_check_86
    · have hf := ip c5 hf
      refine o_ldcw K q943 dX9_check_30 ?_
      exact e_iret K hf hR dX9_check_33
  · have hf := ip c4 hf
    refine o_ldc K q330 dX9_check_20 ?_
    exact e_iret K hf hR dX9_check_22
def f_X9_keep (nl : Nat) (M : Mem) : Option (Int32 × Mem) := bd (f_X1_takeFrom nl 1 0 M) fun M2 => nm (sto M2 0 2 1) fun M3 => some (M3 (HB 1 + 1) 0, M3)
set_option maxHeartbeats 4000000 in
set_option maxRecDepth 100000 in
theorem k_X9_keep (l : Launch) (E : Amd) (D : va_G) (ca : Nat → ClassId) (h : Nat → Nat) (nl : Nat) (M : Mem) {r0 : Int32} {Mo : Mem} (hf : f_X9_keep nl M = some (r0, Mo)) : Ct l E D (tysOf ca) h (LaC ca h nl) yX9_keep cX9_keep 1 (some .int) 3 70 [.ref (h 0)] M (some (.int r0)) Mo := by
  refine Ct.mk [some (.ref (h 0))] (by decide) (Nat.le_of_ble_eq_true rfl) (argsV [.ref (h 0)] 0 rfl rfl) ?_
  intro x hx0 K hR
  have K : Kx x E D (tysOf ca) h (LaC ca h nl) RX9 cX9_keep 1 3 70 := K
  rw [f_X9_keep] at hf
  refine o_aload_n K 0 dX9_keep_0 rfl rfl ?_
  refine gC_X9_16 K dX9_keep_1 ?_
  refine o_aload_n K 0 dX9_keep_4 rfl rfl ?_
  refine gC_X9_10 K dX9_keep_5 ?_
  obtain ⟨M2, er1, hf⟩ := bd_e hf
  refine o_callV K [.ref (h (HB 0))] (k_X1_takeFrom x.2.1 E D ca h nl M 1 0 hb_1 hb_0 er1) s_X9_335 (ltHall hb_1) (obHall_c (ca := ca) (h := h) hb_1 _) rfl rfl rfl ⟨by decide, by decide⟩ (Nat.le_of_ble_eq_true rfl) _ rfl dX9_keep_8 ?_
  show Go x D (tysOf ca) h (LaC ca h nl) 1 M2 11 [some (.ref (h 0))] []
  refine o_aload_n K 0 dX9_keep_11 rfl rfl ?_
  refine o_iconst K 1 dX9_keep_12 (by decide) ?_
  obtain ⟨M3, eM3, hf⟩ := nm_o hf
  refine pC_X9_327 K rfl rfl dX9_keep_13 ?_
  refine o_nmM eM3 ?_
  refine o_aload_n K 0 dX9_keep_16 rfl rfl ?_
  refine gC_X9_16 K dX9_keep_17 ?_
  refine gC_X9_67 hb_1 K dX9_keep_20 ?_
  refine gC_X9_71 hb_1 K dX9_keep_23 ?_
  exact e_iret K hf hR dX9_keep_26
