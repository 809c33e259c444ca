/-! THE LAW, 3 (written by wip/gen/wlaw2.py): its loop and its beginning -/
theorem dfX9 : ∀ j, j < 9 → defaultValue (tyX9 j) = vp_V [.null, .null, .int 0, .null, .null, .null, .null, .null, .int 0] j := fun j hj => match j, hj with
  | 0, _ => rfl
  | 1, _ => rfl
  | 2, _ => rfl
  | 3, _ => rfl
  | 4, _ => rfl
  | 5, _ => rfl
  | 6, _ => rfl
  | 7, _ => rfl
  | 8, _ => rfl
  | n + 9, h => absurd h (by omega)
theorem hyX9 : yX9_init.cls ≠ "java/lang/invoke/MethodHandle" ∧ yX9_init.cls ≠ "java/lang/invoke/VarHandle" ∧ (parseMethodDescriptor yX9_init.desc).map (fun d => d.parameters.length) = some 0 := ⟨by decide +kernel, by decide +kernel, by decide +kernel⟩
theorem dfX10 : ∀ j, j < 37 → defaultValue (tyX10 j) = vp_V [.null, .null, .null, .int 0, .null, .null, .null, .null, .null, .null, .int 0, .int 0, .int 0, .int 0, .int 0, .int 0, .int 0, .null, .null, .null, .int 0, .int 0, .null, .int 0, .null, .null, .null, .null, .null, .null, .null, .null, .null, .null, .null, .null, .int 0] j := fun j hj => match j, hj with
  | 0, _ => rfl
  | 1, _ => rfl
  | 2, _ => rfl
  | 3, _ => rfl
  | 4, _ => rfl
  | 5, _ => rfl
  | 6, _ => rfl
  | 7, _ => rfl
  | 8, _ => rfl
  | 9, _ => rfl
  | 10, _ => rfl
  | 11, _ => rfl
  | 12, _ => rfl
  | 13, _ => rfl
  | 14, _ => rfl
  | 15, _ => rfl
  | 16, _ => rfl
  | 17, _ => rfl
  | 18, _ => rfl
  | 19, _ => rfl
  | 20, _ => rfl
  | 21, _ => rfl
  | 22, _ => rfl
  | 23, _ => rfl
  | 24, _ => rfl
  | 25, _ => rfl
  | 26, _ => rfl
  | 27, _ => rfl
  | 28, _ => rfl
  | 29, _ => rfl
  | 30, _ => rfl
  | 31, _ => rfl
  | 32, _ => rfl
  | 33, _ => rfl
  | 34, _ => rfl
  | 35, _ => rfl
  | 36, _ => rfl
  | n + 37, h => absurd h (by omega)
theorem hyX10 : yX10_init.cls ≠ "java/lang/invoke/MethodHandle" ∧ yX10_init.cls ≠ "java/lang/invoke/VarHandle" ∧ (parseMethodDescriptor yX10_init.desc).map (fun d => d.parameters.length) = some 0 := ⟨by decide +kernel, by decide +kernel, by decide +kernel⟩
theorem zl_clX9 : Cond.classLink RL 7 RX9 ∈ TB := TB_t 21 (by decide +kernel) (by decide +kernel)
theorem zl_inX9 : Cond.instantiable RX9 9 ∈ TB := TB_t 22 (by decide +kernel) (by decide +kernel)
theorem zl_iiX9 : Cond.initialized RX9 ∈ TB := TB_t 1 (by decide +kernel) (by decide +kernel)
theorem zl_coX9 : Cond.code yX9_init cX9_init 2 none ∈ TB := TB_t 25 (by decide +kernel) (by decide +kernel)
theorem zl_meX9 : Cond.methodLink RL 9 yX9_init ∈ TB := TB_t 23 (by decide +kernel) (by decide +kernel)
theorem zl_imX9 : Cond.instanceMethod yX9_init ∈ TB := TB_t 24 (by decide +kernel) (by decide +kernel)
theorem zl_clX10 : Cond.classLink RL 10 RX10 ∈ TB := TB_t 972 (by decide +kernel) (by decide +kernel)
theorem zl_inX10 : Cond.instantiable RX10 37 ∈ TB := TB_t 973 (by decide +kernel) (by decide +kernel)
theorem zl_iiX10 : Cond.initialized RX10 ∈ TB := TB_t 13 (by decide +kernel) (by decide +kernel)
theorem zl_coX10 : Cond.code yX10_init cX10_init 2 none ∈ TB := TB_t 976 (by decide +kernel) (by decide +kernel)
theorem zl_meX10 : Cond.methodLink RL 12 yX10_init ∈ TB := TB_t 974 (by decide +kernel) (by decide +kernel)
theorem zl_imX10 : Cond.instanceMethod yX10_init ∈ TB := TB_t 975 (by decide +kernel) (by decide +kernel)
theorem len_6 {L t : Nat} (hL : L ≤ 3072) (ht : t ≤ 512) (h : ¬ (Int32.ofNat L - 6 < nI (6 * t))) : 6 * t + 6 ≤ L := by
  refine Nat.not_lt.mp (fun q => h (Int32.lt_iff_toInt_lt.mpr ?_))
  have h1 : (Int32.ofNat L).toInt = (L : Int) := nI_toInt (n := L) (by omega)
  have h2 : (6 : Int32).toInt = 6 := by decide
  rw [nI_toInt (by omega), Int32.toInt_sub, h1, h2]
  have h3 : ((L : Int) - 6).bmod (2 ^ 32) = (L : Int) - 6 := by
    rw [Int.bmod_def]
    omega
  rw [h3]
  omega
theorem lw_loop {x : En} {E : Amd} {D : va_G} {ca : Nat → ClassId} {b L : Nat} {xs : Nat → Int32} {hm : Nat → Nat} (K : Kn x E D ca RL cL_law 4 2048 84000 600000 7302250) (hs : Sc x b L xs) (hL : L ≤ 3072) (hend : ∀ (ws : va_W) (nc ns : Nat) (V : List (Option Value)), nc ≤ 600000 → ns ≤ 7302250 → Gn x D 4 ws nc ns 1424 V []) : ∀ (n t nl : Nat) (hc : Nat → Nat) (C N : Mem), L < 6 * (t + n) + 6 → nl ≤ t → t ≤ 512 → Rel nl C N → Gn x D 4 (wsOf hm (LaM ca hm) N ++ wsOf hc (LaC ca hc nl) C) (108 + 2 * t) (6870 + 99 * t) 18 (VL b hc hm t) [] := by
  intro n
  induction n with
  | zero =>
    intro t nl hc C N h1 h2 h3 hr
    refine n_iload_n K 3 dL_law_18 rfl rfl ?_
    refine n_aload_n K 0 dL_law_19 rfl rfl ?_
    refine n_slen K hs dL_law_20 ?_
    refine n_bipush K 6 dL_law_21 (by decide) ?_
    refine n_isub K dL_law_23 ?_
    refine n_icmp_gt K 1424 dL_law_24 (by decide) (fun _ => ?_) (fun hq => ?_)
    · exact hend _ _ _ _ (by omega) (by omega)
    · have hb := len_6 hL h3 hq
      omega
  | succ n ih =>
    intro t nl hc C N h1 h2 h3 hr
    refine n_iload_n K 3 dL_law_18 rfl rfl ?_
    refine n_aload_n K 0 dL_law_19 rfl rfl ?_
    refine n_slen K hs dL_law_20 ?_
    refine n_bipush K 6 dL_law_21 (by decide) ?_
    refine n_isub K dL_law_23 ?_
    refine n_icmp_gt K 1424 dL_law_24 (by decide) (fun _ => ?_) (fun hq => ?_)
    · exact hend _ _ _ _ (by omega) (by omega)
    have hb := len_6 hL h3 hq
    have kk : ∀ (nl2 : Nat) (hc2 : Nat → Nat) (C2 N2 : Mem), Rel nl2 C2 N2 → nl2 ≤ nl + 1 → hc2 0 = hc 0 → Gn x D 4 (wsOf hm (LaM ca hm) N2 ++ wsOf hc2 (LaC ca hc2 nl2) C2) (108 + 2 * (t + 1)) (6870 + 99 * (t + 1)) 1418 (VL b hc hm t) [] := by
      intro nl2 hc2 C2 N2 hr2 hle hz
      refine n_iinc K 3 (nI (6 * (t + 1))) (VL b hc hm (t + 1)) dL_law_1418 rfl ?_ (by decide) rfl rfl ?_
      · rw [show Int32.ofInt 6 = nI 6 by decide +kernel, nI_add, show 6 * t + 6 = 6 * (t + 1) by omega]
      refine n_goto K 18 dL_law_1421 (by decide) ?_
      have key := ih (t + 1) nl2 hc2 C2 N2 (by omega) (by omega) (by omega) hr2
      have e : VL b hc2 hm (t + 1) = VL b hc hm (t + 1) := by simp only [VL, hz]
      rw [e] at key
      exact key
    refine n_aload_n K 0 dL_law_27 rfl rfl ?_
    refine n_iload_n K 3 dL_law_28 rfl rfl ?_
    refine n_sld K hs (nI_in (show 6 * t < L by omega) (by omega)) dL_law_29 ?_
    refine n_bipush K 63 dL_law_30 (by decide) ?_
    refine n_iand K dL_law_32 ?_
    generalize xs (ix (nI (6 * t))) &&& 63 = d
    rcases (show d.toInt = 0 ∨ d.toInt = 1 ∨ d.toInt = 2 ∨ d.toInt = 3 ∨ d.toInt = 4 ∨ d.toInt = 5 ∨ d.toInt = 6 ∨ d.toInt = 7 ∨ d.toInt = 8 ∨ d.toInt = 9 ∨ d.toInt = 10 ∨ d.toInt = 11 ∨ d.toInt = 12 ∨ d.toInt = 13 ∨ d.toInt = 14 ∨ d.toInt = 15 ∨ d.toInt = 16 ∨ d.toInt = 17 ∨ d.toInt = 18 ∨ d.toInt = 19 ∨ d.toInt = 20 ∨ d.toInt = 21 ∨ d.toInt = 22 ∨ d.toInt = 23 ∨ d.toInt = 24 ∨ d.toInt = 25 ∨ d.toInt = 26 ∨ d.toInt = 27 ∨ d.toInt = 28 ∨ d.toInt = 29 ∨ d.toInt = 30 ∨ d.toInt = 31 ∨ d.toInt = 32 ∨ d.toInt = 33 ∨ d.toInt = 34 ∨ d.toInt = 35 ∨ d.toInt = 36 ∨ d.toInt = 37 ∨ d.toInt = 38 ∨ d.toInt = 39 ∨ (d.toInt < 0 ∨ 39 < d.toInt) by omega) with hd | hd | hd | hd | hd | hd | hd | hd | hd | hd | hd | hd | hd | hd | hd | hd | hd | hd | hd | hd | hd | hd | hd | hd | hd | hd | hd | hd | hd | hd | hd | hd | hd | hd | hd | hd | hd | hd | hd | hd | hd
    · exact n_table (off := 175) K 208 dL_law_33 (by decide) (by rw [hd]; rfl) (by decide) (lw_c0 K hs hL hb h2 hr kk)
    · exact n_table (off := 228) K 261 dL_law_33 (by decide) (by rw [hd]; rfl) (by decide) (lw_c1 K hs hL hb h2 hr kk)
    · exact n_table (off := 261) K 294 dL_law_33 (by decide) (by rw [hd]; rfl) (by decide) (lw_c2 K hs hL hb h2 hr kk)
    · exact n_table (off := 294) K 327 dL_law_33 (by decide) (by rw [hd]; rfl) (by decide) (lw_c3 K hs hL hb h2 hr kk)
    · exact n_table (off := 327) K 360 dL_law_33 (by decide) (by rw [hd]; rfl) (by decide) (lw_c4 K hs hL hb h2 hr kk)
    · exact n_table (off := 360) K 393 dL_law_33 (by decide) (by rw [hd]; rfl) (by decide) (lw_c5 K hs hL hb h2 hr kk)
    · exact n_table (off := 393) K 426 dL_law_33 (by decide) (by rw [hd]; rfl) (by decide) (lw_c6 K hs hL hb h2 hr kk)
    · exact n_table (off := 436) K 469 dL_law_33 (by decide) (by rw [hd]; rfl) (by decide) (lw_c7 K hs hL hb h2 hr kk)
    · exact n_table (off := 459) K 492 dL_law_33 (by decide) (by rw [hd]; rfl) (by decide) (lw_c8 K hs hL hb h2 hr kk)
    · exact n_table (off := 482) K 515 dL_law_33 (by decide) (by rw [hd]; rfl) (by decide) (lw_c9 K hs hL hb h2 hr kk)
    · exact n_table (off := 505) K 538 dL_law_33 (by decide) (by rw [hd]; rfl) (by decide) (lw_c10 K hs hL hb h2 hr kk)
    · exact n_table (off := 528) K 561 dL_law_33 (by decide) (by rw [hd]; rfl) (by decide) (lw_c11 K hs hL hb h2 hr kk)
    · exact n_table (off := 551) K 584 dL_law_33 (by decide) (by rw [hd]; rfl) (by decide) (lw_c12 K hs hL hb h2 hr kk)
    · exact n_table (off := 574) K 607 dL_law_33 (by decide) (by rw [hd]; rfl) (by decide) (lw_c13 K hs hL hb h2 hr kk)
    · exact n_table (off := 617) K 650 dL_law_33 (by decide) (by rw [hd]; rfl) (by decide) (lw_c14 K hs hL hb h2 hr kk)
    · exact n_table (off := 630) K 663 dL_law_33 (by decide) (by rw [hd]; rfl) (by decide) (lw_c15 K hs hL hb h2 hr kk)
    · exact n_table (off := 673) K 706 dL_law_33 (by decide) (by rw [hd]; rfl) (by decide) (lw_c16 K hs hL hb h2 hr kk)
    · exact n_table (off := 706) K 739 dL_law_33 (by decide) (by rw [hd]; rfl) (by decide) (lw_c17 K hs hL hb h2 hr kk)
    · exact n_table (off := 739) K 772 dL_law_33 (by decide) (by rw [hd]; rfl) (by decide) (lw_c18 K hs hL hb h2 hr kk)
    · exact n_table (off := 762) K 795 dL_law_33 (by decide) (by rw [hd]; rfl) (by decide) (lw_c19 K hs hL hb h2 hr kk)
    · exact n_table (off := 805) K 838 dL_law_33 (by decide) (by rw [hd]; rfl) (by decide) (lw_c20 K hs hL hb h2 hr kk)
    · exact n_table (off := 818) K 851 dL_law_33 (by decide) (by rw [hd]; rfl) (by decide) (lw_c21 K hs hL hb h2 hr kk)
    · exact n_table (off := 861) K 894 dL_law_33 (by decide) (by rw [hd]; rfl) (by decide) (lw_c22 K hs hL hb h2 hr kk)
    · exact n_table (off := 884) K 917 dL_law_33 (by decide) (by rw [hd]; rfl) (by decide) (lw_c23 K hs hL hb h2 hr kk)
    · exact n_table (off := 897) K 930 dL_law_33 (by decide) (by rw [hd]; rfl) (by decide) (lw_c24 K hs hL hb h2 hr kk)
    · exact n_table (off := 930) K 963 dL_law_33 (by decide) (by rw [hd]; rfl) (by decide) (lw_c25 K hs hL hb h2 hr kk)
    · exact n_table (off := 953) K 986 dL_law_33 (by decide) (by rw [hd]; rfl) (by decide) (lw_c26 K hs hL hb h2 hr kk)
    · exact n_table (off := 996) K 1029 dL_law_33 (by decide) (by rw [hd]; rfl) (by decide) (lw_c27 K hs hL hb h2 hr kk)
    · exact n_table (off := 1039) K 1072 dL_law_33 (by decide) (by rw [hd]; rfl) (by decide) (lw_c28 K hs hL hb h2 hr kk)
    · exact n_table (off := 1062) K 1095 dL_law_33 (by decide) (by rw [hd]; rfl) (by decide) (lw_c29 K hs hL hb h2 hr kk)
    · exact n_table (off := 1085) K 1118 dL_law_33 (by decide) (by rw [hd]; rfl) (by decide) (lw_c30 K hs hL hb h2 hr kk)
    · exact n_table (off := 1148) K 1181 dL_law_33 (by decide) (by rw [hd]; rfl) (by decide) (lw_c31 K hs hL hb h2 hr kk)
    · exact n_table (off := 1191) K 1224 dL_law_33 (by decide) (by rw [hd]; rfl) (by decide) (lw_c32 K hs hL hb h2 hr kk)
    · exact n_table (off := 1224) K 1257 dL_law_33 (by decide) (by rw [hd]; rfl) (by decide) (lw_c33 K hs hL hb h2 hr kk)
    · exact n_table (off := 1257) K 1290 dL_law_33 (by decide) (by rw [hd]; rfl) (by decide) (lw_c34 K hs hL hb h2 hr kk)
    · exact n_table (off := 1290) K 1323 dL_law_33 (by decide) (by rw [hd]; rfl) (by decide) (lw_c35 K hs hL hb h2 hr kk)
    · exact n_table (off := 1313) K 1346 dL_law_33 (by decide) (by rw [hd]; rfl) (by decide) (lw_c36 K hs hL hb h2 hr kk)
    · exact n_table (off := 1336) K 1369 dL_law_33 (by decide) (by rw [hd]; rfl) (by decide) (lw_c37 K hs hL hb h2 hr kk)
    · exact n_table (off := 1349) K 1382 dL_law_33 (by decide) (by rw [hd]; rfl) (by decide) (lw_c38 K hs hL hb h2 hr kk)
    · exact n_table (off := 1362) K 1395 dL_law_33 (by decide) (by rw [hd]; rfl) (by decide) (lw_c39 K hs hL hb h2 hr kk)
    · refine n_table (off := 1385) K 1418 dL_law_33 (by decide) (by unfold tsel; rw [if_pos hd]) (by decide) ?_
      refine n_wid (108 + 2 * (t + 1)) (6870 + 99 * (t + 1)) (by omega) (by omega) ?_
      exact kk nl hc C N hr (by omega) rfl
theorem lw_begin {x : En} {E : Amd} {D : va_G} {ca : Nat → ClassId} {b L : Nat} {xs : Nat → Int32} (K : Kn x E D ca RL cL_law 4 2048 84000 600000 7302250) (hs : Sc x b L xs) (hL : L ≤ 3072) (hend : ∀ (ws : va_W) (nc ns : Nat) (V : List (Option Value)), nc ≤ 600000 → ns ≤ 7302250 → Gn x D 4 ws nc ns 1424 V []) : Gn x D 4 [] 0 0 0 [some (.ref b), none, none, none] [] := by
  refine n_new (ci := 8) tyX9 [.null, .null, .int 0, .null, .null, .null, .null, .null, .int 0] K rfl i_X9 tyX9_ok zl_clX9 zl_inX9 zl_iiX9 dfX9 (by decide) dL_law_0 (fun q => ?_)
  refine n_dup K dL_law_3 rfl ?_
  refine n_callI (nc := 1) (ns := 9) [] [(q, .inr (8, [.null, .null, .int 0, .null, .null, .null, .null, .null, .int 0]))] [] K (kn_X9 x.2.1 E D ca q) zl_coX9 zl_iiX9 zl_meX9 zl_imX9 rfl hyX9 rfl ⟨by decide, by decide⟩ ⟨by decide, by decide⟩ (rest := [.ref q]) (Nat.le_of_ble_eq_true rfl) _ rfl dL_law_4 (fun v w2 hB => ?_)
  obtain ⟨rfl, hc, C, hr, hz, rfl⟩ := hB
  subst hz
  rw [List.nil_append]
  refine n_astore_n K 1 [some (.ref b), some (.ref (hc 0)), none, none] dL_law_7 rfl (by decide) rfl rfl ?_
  refine n_new (ci := 9) tyX10 [.null, .null, .null, .int 0, .null, .null, .null, .null, .null, .null, .int 0, .int 0, .int 0, .int 0, .int 0, .int 0, .int 0, .null, .null, .null, .int 0, .int 0, .null, .int 0, .null, .null, .null, .null, .null, .null, .null, .null, .null, .null, .null, .null, .int 0] K rfl i_X10 tyX10_ok zl_clX10 zl_inX10 zl_iiX10 dfX10 (by decide) dL_law_8 (fun q => ?_)
  refine n_dup K dL_law_11 rfl ?_
  refine n_callI (nc := 83) (ns := 1630) (wsOf hc (LaC ca hc 0) C) [(q, .inr (9, [.null, .null, .null, .int 0, .null, .null, .null, .null, .null, .null, .int 0, .int 0, .int 0, .int 0, .int 0, .int 0, .int 0, .null, .null, .null, .int 0, .int 0, .null, .int 0, .null, .null, .null, .null, .null, .null, .null, .null, .null, .null, .null, .null, .int 0]))] [] K (kn_X10 x.2.1 E D ca q) zl_coX10 zl_iiX10 zl_meX10 zl_imX10 rfl hyX10 rfl ⟨by decide, by decide⟩ ⟨by decide, by decide⟩ (rest := [.ref q]) (Nat.le_of_ble_eq_true rfl) _ rfl dL_law_12 (fun v w2 hB => ?_)
  obtain ⟨rfl, hm, hz, rfl⟩ := hB
  subst hz
  refine n_astore_n K 2 [some (.ref b), some (.ref (hc 0)), some (.ref (hm 0)), none] dL_law_15 rfl (by decide) rfl rfl ?_
  refine n_iconst K (nI (6 * 0)) dL_law_16 (by decide +kernel) ?_
  refine n_istore_n K 3 (VL b hc hm 0) dL_law_17 rfl (by decide) rfl rfl ?_
  refine n_perm _ List.perm_append_comm ?_
  exact lw_loop K hs hL hend 600 0 0 hc C N0 (by omega) (by omega) (by omega) hr
