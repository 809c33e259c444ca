def f_X10_room (M : Mem) (a1 : Int32) (a2 : Int32) : Option (Int32 × Mem) := bd (f_X10_isRoom a1) fun r1 => if r1 = 0 then (some (((-1000000001) : Int32), M)) else bd (f_X10_in a2 (0 : Int32) (4 : Int32)) fun r3 => if r3 = 0 then (some (((-1000000001) : Int32), M)) else if 4 ≤ a2 then (bd (f_X10_findFlows M) fun M7 => rd M7 5 9 a1 fun x8 => some (x8, M7)) else bd (f_X10_at0 M a1 a2) fun r10 => some (r10, M)
set_option maxHeartbeats 4000000 in
set_option maxRecDepth 100000 in
theorem k_X10_room (l : Launch) (E : Amd) (D : va_G) (ca : Nat → ClassId) (h : Nat → Nat) (M : Mem) (a1 : Int32) (a2 : Int32) {r0 : Int32} {Mo : Mem} (hf : f_X10_room M a1 a2 = some (r0, Mo)) : Ct l E D (tysOf ca) h (LaM ca h) yX10_room cX10_room 3 (some .int) 5 114 [.ref (h 0), .int a1, .int a2] M (some (.int r0)) Mo := by
  refine Ct.mk [some (.ref (h 0)), some (.int a1), some (.int a2)] (by decide) (Nat.le_of_ble_eq_true rfl) (argsV [.ref (h 0), .int a1, .int a2] 0 rfl rfl) ?_
  intro x hx0 K hR
  have K : Kx x E D (tysOf ca) h (LaM ca h) RX10 cX10_room 3 5 114 := K
  rw [f_X10_room] at hf
  refine o_iload_n K 1 dX10_room_0 rfl rfl ?_
  obtain ⟨r1, er1, hf⟩ := bd_e hf
  refine o_callS K [.int a1] (k_X10_isRoom x.2.1 E D ca h M a1 er1) s_X10_91 rfl ⟨by decide, by decide⟩ (Nat.le_of_ble_eq_true rfl) _ rfl dX10_room_1 ?_
  show Go x D (tysOf ca) h (LaM ca h) 3 M 4 [some (.ref (h 0)), some (.int a1), some (.int a2)] [.int r1]
  refine o_if_eq K 16 dX10_room_4 (by decide) (fun c2 => ?_) (fun c2 => ?_)
  · have hf := ip c2 hf
    refine o_ldc K q1102 dX10_room_16 ?_
    exact e_iret K hf hR dX10_room_18
  · have hf := im c2 hf
    refine o_iload_n K 2 dX10_room_7 rfl rfl ?_
    refine o_iconst K 0 dX10_room_8 (by decide) ?_
    refine o_iconst K 4 dX10_room_9 (by decide) ?_
    obtain ⟨r3, er3, hf⟩ := bd_e hf
    refine o_callS K [.int a2, .int 0, .int 4] (k_X10_in x.2.1 E D ca h M a2 (0 : Int32) (4 : Int32) er3) s_X10_87 rfl ⟨by decide, by decide⟩ (Nat.le_of_ble_eq_true rfl) _ rfl dX10_room_10 ?_
    show Go x D (tysOf ca) h (LaM ca h) 3 M 13 [some (.ref (h 0)), some (.int a1), some (.int a2)] [.int r3]
    refine o_if_ne K 19 dX10_room_13 (by decide) (fun c4 => ?_) (fun c4 => ?_)
    · have hf := im c4 hf
      refine o_iload_n K 2 dX10_room_19 rfl rfl ?_
      refine o_iconst K 4 dX10_room_20 (by decide) ?_
      refine o_icmp_ge K 31 dX10_room_21 (by decide) (fun c5 => ?_) (fun c5 => ?_)
      · have hf := ip c5 hf
        refine o_aload_n K 0 dX10_room_31 rfl rfl ?_
        obtain ⟨M7, er6, hf⟩ := bd_e hf
        refine o_callV K [] (k_X10_findFlows x.2.1 E D ca h M er6) s_X10_144 (ltM (by decide)) rfl rfl rfl rfl ⟨by decide, by decide⟩ (Nat.le_of_ble_eq_true rfl) _ rfl dX10_room_32 ?_
        show Go x D (tysOf ca) h (LaM ca h) 3 M7 35 [some (.ref (h 0)), some (.int a1), some (.int a2)] []
        refine o_aload_n K 0 dX10_room_35 rfl rfl ?_
        refine gM_22 K dX10_room_36 ?_
        refine o_iload_n K 1 dX10_room_39 rfl rfl ?_
        obtain ⟨g9, x8, ex8, hf⟩ := rd_e hf
        refine lM_5 K g9 dX10_room_40 ?_
        refine o_nmi ex8 ?_
        exact e_iret K hf hR dX10_room_41
      · have hf := im c5 hf
        refine o_aload_n K 0 dX10_room_24 rfl rfl ?_
        refine o_iload_n K 1 dX10_room_25 rfl rfl ?_
        refine o_iload_n K 2 dX10_room_26 rfl rfl ?_
        obtain ⟨r10, er10, hf⟩ := bd_e hf
        refine o_callV K [.int a1, .int a2] (k_X10_at0 x.2.1 E D ca h M a1 a2 er10) s_X10_116 (ltM (by decide)) rfl rfl rfl rfl ⟨by decide, by decide⟩ (Nat.le_of_ble_eq_true rfl) _ rfl dX10_room_27 ?_
        show Go x D (tysOf ca) h (LaM ca h) 3 M 30 [some (.ref (h 0)), some (.int a1), some (.int a2)] [.int r10]
        exact e_iret K hf hR dX10_room_30
    · have hf := ip c4 hf
      refine o_ldc K q1102 dX10_room_16 ?_
      exact e_iret K hf hR dX10_room_18
def f_X10_set_j40 (a0 : Int32) (a1 : Int32) (a2 : Int32) (a3 : Int32) (a4 : Int32) (a5 : Int32) (M : Mem) : Option (Int32 × Mem) := bd (f_X10_in a5 a4 a3) fun r7 => if r7 = 0 then (some (((-1000000001) : Int32), M)) else bd2 (f_X10_becomes M (((6 : Int32) + ((4 : Int32) * a0)) + a1) a2) fun r9 M10 => some (r9, M10)
set_option maxHeartbeats 4000000 in
set_option maxRecDepth 100000 in
theorem t_X10_set_j40 {x : En} {E : Amd} {D : va_G} {ca : Nat → ClassId} {h : Nat → Nat} (K : Kx x E D (tysOf ca) h (LaM ca h) RX10 cX10_set 4 2 42) {r0 : Int32} {Mo : Mem} (hR : Rt x D h (LaM ca h) (some .int) (some (.int r0)) Mo) (a0 : Int32) (a1 : Int32) (a2 : Int32) (a3 : Int32) (a4 : Int32) (a5 : Int32) (M : Mem) (hf : f_X10_set_j40 a0 a1 a2 a3 a4 a5 M = some (r0, Mo)) : Go x D (tysOf ca) h (LaM ca h) 4 M 40 [some (.ref (h 0)), some (.int a0), some (.int a1), some (.int a2)] [.int a3, .int a4, .int a5] := by
  rw [f_X10_set_j40] at hf
  obtain ⟨r7, er7, hf⟩ := bd_e hf
  refine o_callS K [.int a5, .int a4, .int a3] (k_X10_in x.2.1 E D ca h M a5 a4 a3 er7) s_X10_87 rfl ⟨by decide, by decide⟩ (Nat.le_of_ble_eq_true rfl) _ rfl dX10_set_40 ?_
  show Go x D (tysOf ca) h (LaM ca h) 4 M 43 [some (.ref (h 0)), some (.int a0), some (.int a1), some (.int a2)] [.int r7]
  refine o_if_ne K 49 dX10_set_43 (by decide) (fun c8 => ?_) (fun c8 => ?_)
  · have hf := im c8 hf
    refine o_aload_n K 0 dX10_set_49 rfl rfl ?_
    refine o_bipush K 6 dX10_set_50 (by decide) ?_
    refine o_iconst K 4 dX10_set_52 (by decide) ?_
    refine o_iload_n K 1 dX10_set_53 rfl rfl ?_
    refine o_imul K dX10_set_54 ?_
    refine o_iadd K dX10_set_55 ?_
    refine o_iload_n K 2 dX10_set_56 rfl rfl ?_
    refine o_iadd K dX10_set_57 ?_
    refine o_iload_n K 3 dX10_set_58 rfl rfl ?_
    obtain ⟨r9, M10, er9, hf⟩ := bd2_e hf
    refine o_callV K [.int (((6 : Int32) + ((4 : Int32) * a0)) + a1), .int a2] (k_X10_becomes x.2.1 E D ca h M (((6 : Int32) + ((4 : Int32) * a0)) + a1) a2 er9) s_X10_141 (ltM (by decide)) rfl rfl rfl rfl ⟨by decide, by decide⟩ (Nat.le_of_ble_eq_true rfl) _ rfl dX10_set_59 ?_
    show Go x D (tysOf ca) h (LaM ca h) 4 M10 62 [some (.ref (h 0)), some (.int a0), some (.int a1), some (.int a2)] [.int r9]
    exact e_iret K hf hR dX10_set_62
  · have hf := ip c8 hf
    refine o_ldc K q1102 dX10_set_46 ?_
    exact e_iret K hf hR dX10_set_48
def f_X10_set (M : Mem) (a1 : Int32) (a2 : Int32) (a3 : Int32) : Option (Int32 × Mem) := bd (f_X10_isRoom a1) fun r1 => if r1 = 0 then (some (((-1000000001) : Int32), M)) else bd (f_X10_in a2 (0 : Int32) (3 : Int32)) fun r3 => if r3 = 0 then (some (((-1000000001) : Int32), M)) else if a2 = 1 then (f_X10_set_j40 a1 a2 a3 (9 : Int32) (0 : Int32) a3 M) else if a2 = 3 then (f_X10_set_j40 a1 a2 a3 (1 : Int32) (0 : Int32) a3 M) else f_X10_set_j40 a1 a2 a3 (9999 : Int32) (0 : Int32) a3 M
set_option maxHeartbeats 4000000 in
set_option maxRecDepth 100000 in
theorem k_X10_set (l : Launch) (E : Amd) (D : va_G) (ca : Nat → ClassId) (h : Nat → Nat) (M : Mem) (a1 : Int32) (a2 : Int32) (a3 : Int32) {r0 : Int32} {Mo : Mem} (hf : f_X10_set M a1 a2 a3 = some (r0, Mo)) : Ct l E D (tysOf ca) h (LaM ca h) yX10_set cX10_set 4 (some .int) 2 42 [.ref (h 0), .int a1, .int a2, .int a3] M (some (.int r0)) Mo := by
  refine Ct.mk [some (.ref (h 0)), some (.int a1), some (.int a2), some (.int a3)] (by decide) (Nat.le_of_ble_eq_true rfl) (argsV [.ref (h 0), .int a1, .int a2, .int a3] 0 rfl rfl) ?_
  intro x hx0 K hR
  have K : Kx x E D (tysOf ca) h (LaM ca h) RX10 cX10_set 4 2 42 := K
  rw [f_X10_set] at hf
  refine o_iload_n K 1 dX10_set_0 rfl rfl ?_
  obtain ⟨r1, er1, hf⟩ := bd_e hf
  refine o_callS K [.int a1] (k_X10_isRoom x.2.1 E D ca h M a1 er1) s_X10_91 rfl ⟨by decide, by decide⟩ (Nat.le_of_ble_eq_true rfl) _ rfl dX10_set_1 ?_
  show Go x D (tysOf ca) h (LaM ca h) 4 M 4 [some (.ref (h 0)), some (.int a1), some (.int a2), some (.int a3)] [.int r1]
  refine o_if_eq K 46 dX10_set_4 (by decide) (fun c2 => ?_) (fun c2 => ?_)
  · have hf := ip c2 hf
    refine o_ldc K q1102 dX10_set_46 ?_
    exact e_iret K hf hR dX10_set_48
  · have hf := im c2 hf
    refine o_iload_n K 2 dX10_set_7 rfl rfl ?_
    refine o_iconst K 0 dX10_set_8 (by decide) ?_
    refine o_iconst K 3 dX10_set_9 (by decide) ?_
    obtain ⟨r3, er3, hf⟩ := bd_e hf
    refine o_callS K [.int a2, .int 0, .int 3] (k_X10_in x.2.1 E D ca h M a2 (0 : Int32) (3 : Int32) er3) s_X10_87 rfl ⟨by decide, by decide⟩ (Nat.le_of_ble_eq_true rfl) _ rfl dX10_set_10 ?_
    show Go x D (tysOf ca) h (LaM ca h) 4 M 13 [some (.ref (h 0)), some (.int a1), some (.int a2), some (.int a3)] [.int r3]
    refine o_if_eq K 46 dX10_set_13 (by decide) (fun c4 => ?_) (fun c4 => ?_)
    · have hf := ip c4 hf
      refine o_ldc K q1102 dX10_set_46 ?_
      exact e_iret K hf hR dX10_set_48
    · have hf := im c4 hf
      refine o_iload_n K 3 dX10_set_16 rfl rfl ?_
      refine o_iconst K 0 dX10_set_17 (by decide) ?_
      refine o_iload_n K 2 dX10_set_18 rfl rfl ?_
      refine o_iconst K 1 dX10_set_19 (by decide) ?_
      refine o_icmp_ne K 28 dX10_set_20 (by decide) (fun c5 => ?_) (fun c5 => ?_)
      · have hf := im c5 hf
        refine o_iload_n K 2 dX10_set_28 rfl rfl ?_
        refine o_iconst K 3 dX10_set_29 (by decide) ?_
        refine o_icmp_ne K 37 dX10_set_30 (by decide) (fun c6 => ?_) (fun c6 => ?_)
        · have hf := im c6 hf
          refine o_sipush K 9999 dX10_set_37 (by decide) ?_
          exact t_X10_set_j40 K hR a1 a2 a3 (9999 : Int32) (0 : Int32) a3 M hf
        · have hf := ip c6 hf
          refine o_iconst K 1 dX10_set_33 (by decide) ?_
          refine o_goto K 40 dX10_set_34 (by decide) ?_
          exact t_X10_set_j40 K hR a1 a2 a3 (1 : Int32) (0 : Int32) a3 M hf
      · have hf := ip c5 hf
        refine o_bipush K 9 dX10_set_23 (by decide) ?_
        refine o_goto K 40 dX10_set_25 (by decide) ?_
        exact t_X10_set_j40 K hR a1 a2 a3 (9 : Int32) (0 : Int32) a3 M hf
def f_X10_wind (M : Mem) (a1 : Int32) : Option (Int32 × Mem) := bd (f_X10_in a1 (0 : Int32) (9999 : Int32)) fun r1 => if r1 = 0 then (some (((-1000000001) : Int32), M)) else bd2 (f_X10_becomes M (3 : Int32) a1) fun r3 M4 => some (r3, M4)
set_option maxHeartbeats 4000000 in
set_option maxRecDepth 100000 in
theorem k_X10_wind (l : Launch) (E : Amd) (D : va_G) (ca : Nat → ClassId) (h : Nat → Nat) (M : Mem) (a1 : Int32) {r0 : Int32} {Mo : Mem} (hf : f_X10_wind M a1 = some (r0, Mo)) : Ct l E D (tysOf ca) h (LaM ca h) yX10_wind cX10_wind 2 (some .int) 1 23 [.ref (h 0), .int a1] M (some (.int r0)) Mo := by
  refine Ct.mk [some (.ref (h 0)), some (.int a1)] (by decide) (Nat.le_of_ble_eq_true rfl) (argsV [.ref (h 0), .int a1] 0 rfl rfl) ?_
  intro x hx0 K hR
  have K : Kx x E D (tysOf ca) h (LaM ca h) RX10 cX10_wind 2 1 23 := K
  rw [f_X10_wind] at hf
  refine o_iload_n K 1 dX10_wind_0 rfl rfl ?_
  refine o_iconst K 0 dX10_wind_1 (by decide) ?_
  refine o_sipush K 9999 dX10_wind_2 (by decide) ?_
  obtain ⟨r1, er1, hf⟩ := bd_e hf
  refine o_callS K [.int a1, .int 0, .int 9999] (k_X10_in x.2.1 E D ca h M a1 (0 : Int32) (9999 : Int32) er1) s_X10_87 rfl ⟨by decide, by decide⟩ (Nat.le_of_ble_eq_true rfl) _ rfl dX10_wind_5 ?_
  show Go x D (tysOf ca) h (LaM ca h) 2 M 8 [some (.ref (h 0)), some (.int a1)] [.int r1]
  refine o_if_eq K 20 dX10_wind_8 (by decide) (fun c2 => ?_) (fun c2 => ?_)
  · have hf := ip c2 hf
    refine o_ldc K q1102 dX10_wind_20 ?_
    exact e_iret K hf hR dX10_wind_22
  · have hf := im c2 hf
    refine o_aload_n K 0 dX10_wind_11 rfl rfl ?_
    refine o_iconst K 3 dX10_wind_12 (by decide) ?_
    refine o_iload_n K 1 dX10_wind_13 rfl rfl ?_
    obtain ⟨r3, M4, er3, hf⟩ := bd2_e hf
    refine o_callV K [.int 3, .int a1] (k_X10_becomes x.2.1 E D ca h M (3 : Int32) a1 er3) s_X10_141 (ltM (by decide)) rfl rfl rfl rfl ⟨by decide, by decide⟩ (Nat.le_of_ble_eq_true rfl) _ rfl dX10_wind_14 ?_
    show Go x D (tysOf ca) h (LaM ca h) 2 M4 17 [some (.ref (h 0)), some (.int a1)] [.int r3]
    refine o_goto K 22 dX10_wind_17 (by decide) ?_
    exact e_iret K hf hR dX10_wind_22
def f_X10_draw (M : Mem) : Option (Int32 × Mem) := rd M 1 1460 0 fun x1 => wr M 1 1460 0 ((x1 * 1103515245) + 12345) fun M4 => rd M4 1 1460 0 fun x5 => some (((x5).toUInt32 >>> ((8 : Int32).toUInt32 &&& Int32.toUInt32 31)).toInt32, M4)
set_option maxHeartbeats 4000000 in
set_option maxRecDepth 100000 in
theorem k_X10_draw (l : Launch) (E : Amd) (D : va_G) (ca : Nat → ClassId) (h : Nat → Nat) (M : Mem) {r0 : Int32} {Mo : Mem} (hf : f_X10_draw M = some (r0, Mo)) : Ct l E D (tysOf ca) h (LaM ca h) yX10_draw cX10_draw 1 (some .int) 0 0 [.ref (h 0)] M (some (.int r0)) Mo := by
  refine Ct.mk [some (.ref (h 0))] (by decide) (Nat.le_of_ble_eq_true rfl) (argsV [.ref (h 0)] 0 rfl rfl) ?_
  intro x hx0 K hR
  have K : Kx x E D (tysOf ca) h (LaM ca h) RX10 cX10_draw 1 0 0 := K
  rw [f_X10_draw] at hf
  refine o_aload_n K 0 dX10_draw_0 rfl rfl ?_
  refine gM_9 K dX10_draw_1 ?_
  refine o_iconst K 0 dX10_draw_4 (by decide) ?_
  refine o_aload_n K 0 dX10_draw_5 rfl rfl ?_
  refine gM_9 K dX10_draw_6 ?_
  refine o_iconst K 0 dX10_draw_9 (by decide) ?_
  obtain ⟨g2, x1, ex1, hf⟩ := rd_e hf
  refine lM_1 K g2 dX10_draw_10 ?_
  refine o_nmi ex1 ?_
  refine o_ldc K q1199 dX10_draw_11 ?_
  refine o_imul K dX10_draw_13 ?_
  refine o_sipush K 12345 dX10_draw_14 (by decide) ?_
  refine o_iadd K dX10_draw_17 ?_
  obtain ⟨g3, M4, eM4, hf⟩ := wr_e hf
  refine sM_1 K g3 dX10_draw_18 ?_
  refine o_nmM eM4 ?_
  refine o_aload_n K 0 dX10_draw_19 rfl rfl ?_
  refine gM_9 K dX10_draw_20 ?_
  refine o_iconst K 0 dX10_draw_23 (by decide) ?_
  obtain ⟨g6, x5, ex5, hf⟩ := rd_e hf
  refine lM_1 K g6 dX10_draw_24 ?_
  refine o_nmi ex5 ?_
  refine o_bipush K 8 dX10_draw_25 (by decide) ?_
  refine o_iushr K dX10_draw_27 ?_
  exact e_iret K hf hR dX10_draw_28
def f_X10_deal_l15 : Nat → Int32 → Int32 → Mem → Option (Int32 × Mem)
  | 0, _, _, _ => none
  | n + 1, a0, a1, M => if a0 ≤ a1 then (some (a1, M)) else rd M 1 1460 1 fun x4 => if 10 ≤ x4 then (some (a1, M)) else bd2 (f_X10_draw M) fun r7 M8 => nm (r7 - r7 / 6 * 6 : Int32) fun x9 => bd2 (f_X10_draw M8) fun r10 M11 => nm (r10 - r10 / 8 * 8 : Int32) fun x12 => bd2 (f_X10_draw M11) fun r13 M14 => nm (((x12 + 1) + (r13 - r13 / 8 * 8)) - ((x12 + 1) + (r13 - r13 / 8 * 8)) / 9 * 9 : Int32) fun x15 => bd2 (f_X10_draw M14) fun r16 M17 => bd2 (f_X10_comes M17 x9 x12 x15 ((1 : Int32) + (r16 - r16 / 9 * 9)) (1 : Int32)) fun r18 M19 => nm (a1 + 1 : Int32) fun x20 => f_X10_deal_l15 n a0 x20 M19
set_option maxHeartbeats 4000000 in
set_option maxRecDepth 100000 in
theorem t_X10_deal_l15 {x : En} {E : Amd} {D : va_G} {ca : Nat → ClassId} {h : Nat → Nat} (K : Kx x E D (tysOf ca) h (LaM ca h) RX10 cX10_deal 7 1 26) {r0 : Int32} {Mo : Mem} (hR : Rt x D h (LaM ca h) (some .int) (some (.int r0)) Mo) : ∀ (n : Nat) (a0 : Int32) (a1 : Int32) (M : Mem), f_X10_deal_l15 n a0 a1 M = some (r0, Mo) → Go x D (tysOf ca) h (LaM ca h) 7 M 15 [some (.ref (h 0)), some (.int a0), some (.int a1), none, none, none, none] [] := by
  intro n
  induction n with
  | zero =>
    intro a0 a1 M hf
    cases hf
  | succ n ih =>
    intro a0 a1 M hf
    rw [f_X10_deal_l15] at hf
    refine o_iload_n K 2 dX10_deal_15 rfl rfl ?_
    refine o_iload_n K 1 dX10_deal_16 rfl rfl ?_
    refine o_icmp_ge K 92 dX10_deal_17 (by decide) (fun c3 => ?_) (fun c3 => ?_)
    · have hf := ip c3 hf
      refine o_iload_n K 2 dX10_deal_92 rfl rfl ?_
      exact e_iret K hf hR dX10_deal_93
    · have hf := im c3 hf
      refine o_aload_n K 0 dX10_deal_20 rfl rfl ?_
      refine gM_9 K dX10_deal_21 ?_
      refine o_iconst K 1 dX10_deal_24 (by decide) ?_
      obtain ⟨g5, x4, ex4, hf⟩ := rd_e hf
      refine lM_1 K g5 dX10_deal_25 ?_
      refine o_nmi ex4 ?_
      refine o_bipush K 10 dX10_deal_26 (by decide) ?_
      refine o_icmp_ge K 92 dX10_deal_28 (by decide) (fun c6 => ?_) (fun c6 => ?_)
      · have hf := ip c6 hf
        refine o_iload_n K 2 dX10_deal_92 rfl rfl ?_
        exact e_iret K hf hR dX10_deal_93
      · have hf := im c6 hf
        refine o_aload_n K 0 dX10_deal_31 rfl rfl ?_
        obtain ⟨r7, M8, er7, hf⟩ := bd2_e hf
        refine o_callV K [] (k_X10_draw x.2.1 E D ca h M er7) s_X10_148 (ltM (by decide)) rfl rfl rfl rfl ⟨by decide, by decide⟩ (Nat.le_of_ble_eq_true rfl) _ rfl dX10_deal_32 ?_
        show Go x D (tysOf ca) h (LaM ca h) 7 M8 35 [some (.ref (h 0)), some (.int a0), some (.int a1), none, none, none, none] [.int r7]
        refine o_bipush K 6 dX10_deal_35 (by decide) ?_
        refine o_irem K dX10_deal_37 (by decide) ?_
        obtain ⟨x9, ex9, hf⟩ := nm_o hf
        refine o_nmi ex9 ?_
        refine o_istore_n K 3 [some (.ref (h 0)), some (.int a0), some (.int a1), some (.int x9), none, none, none] dX10_deal_38 rfl (by decide) rfl rfl ?_
        refine o_aload_n K 0 dX10_deal_39 rfl rfl ?_
        obtain ⟨r10, M11, er10, hf⟩ := bd2_e hf
        refine o_callV K [] (k_X10_draw x.2.1 E D ca h M8 er10) s_X10_148 (ltM (by decide)) rfl rfl rfl rfl ⟨by decide, by decide⟩ (Nat.le_of_ble_eq_true rfl) _ rfl dX10_deal_40 ?_
        show Go x D (tysOf ca) h (LaM ca h) 7 M11 43 [some (.ref (h 0)), some (.int a0), some (.int a1), some (.int x9), none, none, none] [.int r10]
        refine o_bipush K 8 dX10_deal_43 (by decide) ?_
        refine o_irem K dX10_deal_45 (by decide) ?_
        obtain ⟨x12, ex12, hf⟩ := nm_o hf
        refine o_nmi ex12 ?_
        refine o_istore K 4 [some (.ref (h 0)), some (.int a0), some (.int a1), some (.int x9), some (.int x12), none, none] dX10_deal_46 (by decide) rfl rfl ?_
        refine o_iload K 4 dX10_deal_48 rfl ?_
        refine o_iconst K 1 dX10_deal_50 (by decide) ?_
        refine o_iadd K dX10_deal_51 ?_
        refine o_aload_n K 0 dX10_deal_52 rfl rfl ?_
        obtain ⟨r13, M14, er13, hf⟩ := bd2_e hf
        refine o_callV K [] (k_X10_draw x.2.1 E D ca h M11 er13) s_X10_148 (ltM (by decide)) rfl rfl rfl rfl ⟨by decide, by decide⟩ (Nat.le_of_ble_eq_true rfl) _ rfl dX10_deal_53 ?_
        show Go x D (tysOf ca) h (LaM ca h) 7 M14 56 [some (.ref (h 0)), some (.int a0), some (.int a1), some (.int x9), some (.int x12), none, none] [.int r13, .int (x12 + 1)]
        refine o_bipush K 8 dX10_deal_56 (by decide) ?_
        refine o_irem K dX10_deal_58 (by decide) ?_
        refine o_iadd K dX10_deal_59 ?_
        refine o_bipush K 9 dX10_deal_60 (by decide) ?_
        refine o_irem K dX10_deal_62 (by decide) ?_
        obtain ⟨x15, ex15, hf⟩ := nm_o hf
        refine o_nmi ex15 ?_
        refine o_istore K 5 [some (.ref (h 0)), some (.int a0), some (.int a1), some (.int x9), some (.int x12), some (.int x15), none] dX10_deal_63 (by decide) rfl rfl ?_
        refine o_aload_n K 0 dX10_deal_65 rfl rfl ?_
        refine o_iload_n K 3 dX10_deal_66 rfl rfl ?_
        refine o_iload K 4 dX10_deal_67 rfl ?_
        refine o_iload K 5 dX10_deal_69 rfl ?_
        refine o_iconst K 1 dX10_deal_71 (by decide) ?_
        refine o_aload_n K 0 dX10_deal_72 rfl rfl ?_
        obtain ⟨r16, M17, er16, hf⟩ := bd2_e hf
        refine o_callV K [] (k_X10_draw x.2.1 E D ca h M14 er16) s_X10_148 (ltM (by decide)) rfl rfl rfl rfl ⟨by decide, by decide⟩ (Nat.le_of_ble_eq_true rfl) _ rfl dX10_deal_73 ?_
        show Go x D (tysOf ca) h (LaM ca h) 7 M17 76 [some (.ref (h 0)), some (.int a0), some (.int a1), some (.int x9), some (.int x12), some (.int x15), none] [.int r16, .int 1, .int x15, .int x12, .int x9, .ref (h 0)]
        refine o_bipush K 9 dX10_deal_76 (by decide) ?_
        refine o_irem K dX10_deal_78 (by decide) ?_
        refine o_iadd K dX10_deal_79 ?_
        refine o_iconst K 1 dX10_deal_80 (by decide) ?_
        obtain ⟨r18, M19, er18, hf⟩ := bd2_e hf
        refine o_callV K [.int x9, .int x12, .int x15, .int ((1 : Int32) + (r16 - r16 / 9 * 9)), .int 1] (k_X10_comes x.2.1 E D ca h M17 x9 x12 x15 ((1 : Int32) + (r16 - r16 / 9 * 9)) (1 : Int32) er18) s_X10_97 (ltM (by decide)) rfl rfl rfl rfl ⟨by decide, by decide⟩ (Nat.le_of_ble_eq_true rfl) _ rfl dX10_deal_81 ?_
        show Go x D (tysOf ca) h (LaM ca h) 7 M19 84 [some (.ref (h 0)), some (.int a0), some (.int a1), some (.int x9), some (.int x12), some (.int x15), none] [.int r18]
        refine o_istore K 6 [some (.ref (h 0)), some (.int a0), some (.int a1), some (.int x9), some (.int x12), some (.int x15), some (.int r18)] dX10_deal_84 (by decide) rfl rfl ?_
        obtain ⟨x20, ex20, hf⟩ := nm_o hf
        refine o_iinc K 2 x20 [some (.ref (h 0)), some (.int a0), some (.int x20), some (.int x9), some (.int x12), some (.int x15), some (.int r18)] dX10_deal_86 rfl (inc_e (by decide) ex20) (by decide) rfl rfl ?_
        refine o_goto K 15 dX10_deal_89 (by decide) ?_
        refine o_drop [true, true, true, false, false, false, false] (V2 := [some (.ref (h 0)), some (.int a0), some (.int x20), none, none, none, none]) rfl ?_
        exact ih a0 x20 M19 hf
def f_X10_deal (M : Mem) (a1 : Int32) : Option (Int32 × Mem) := bd (f_X10_in a1 (1 : Int32) (10 : Int32)) fun r1 => if r1 = 0 then (some (((-1000000001) : Int32), M)) else f_X10_deal_l15 FU a1 (0 : Int32) M
set_option maxHeartbeats 4000000 in
set_option maxRecDepth 100000 in
theorem k_X10_deal (l : Launch) (E : Amd) (D : va_G) (ca : Nat → ClassId) (h : Nat → Nat) (M : Mem) (a1 : Int32) {r0 : Int32} {Mo : Mem} (hf : f_X10_deal M a1 = some (r0, Mo)) : Ct l E D (tysOf ca) h (LaM ca h) yX10_deal cX10_deal 7 (some .int) 1 26 [.ref (h 0), .int a1] M (some (.int r0)) Mo := by
  refine Ct.mk [some (.ref (h 0)), some (.int a1), none, none, none, none, none] (by decide) (Nat.le_of_ble_eq_true rfl) (argsV [.ref (h 0), .int a1] 5 rfl rfl) ?_
  intro x hx0 K hR
  have K : Kx x E D (tysOf ca) h (LaM ca h) RX10 cX10_deal 7 1 26 := K
  rw [f_X10_deal] at hf
  refine o_iload_n K 1 dX10_deal_0 rfl rfl ?_
  refine o_iconst K 1 dX10_deal_1 (by decide) ?_
  refine o_bipush K 10 dX10_deal_2 (by decide) ?_
  obtain ⟨r1, er1, hf⟩ := bd_e hf
  refine o_callS K [.int a1, .int 1, .int 10] (k_X10_in x.2.1 E D ca h M a1 (1 : Int32) (10 : Int32) er1) s_X10_87 rfl ⟨by decide, by decide⟩ (Nat.le_of_ble_eq_true rfl) _ rfl dX10_deal_4 ?_
  show Go x D (tysOf ca) h (LaM ca h) 7 M 7 [some (.ref (h 0)), some (.int a1), none, none, none, none, none] [.int r1]
  refine o_if_ne K 13 dX10_deal_7 (by decide) (fun c2 => ?_) (fun c2 => ?_)
  · have hf := im c2 hf
    refine o_iconst K 0 dX10_deal_13 (by decide) ?_
    refine o_istore_n K 2 [some (.ref (h 0)), some (.int a1), some (.int 0), none, none, none, none] dX10_deal_14 rfl (by decide) rfl rfl ?_
    exact t_X10_deal_l15 K hR FU a1 (0 : Int32) M hf
  · have hf := ip c2 hf
    refine o_ldc K q1102 dX10_deal_10 ?_
    exact e_iret K hf hR dX10_deal_12
def f_X10_seed (M : Mem) (a1 : Int32) : Option (Int32 × Mem) := bd2 (f_X10_becomes M (0 : Int32) a1) fun r1 M2 => some (r1, M2)
set_option maxHeartbeats 4000000 in
set_option maxRecDepth 100000 in
theorem k_X10_seed (l : Launch) (E : Amd) (D : va_G) (ca : Nat → ClassId) (h : Nat → Nat) (M : Mem) (a1 : Int32) {r0 : Int32} {Mo : Mem} (hf : f_X10_seed M a1 = some (r0, Mo)) : Ct l E D (tysOf ca) h (LaM ca h) yX10_seed cX10_seed 2 (some .int) 1 23 [.ref (h 0), .int a1] M (some (.int r0)) Mo := by
  refine Ct.mk [some (.ref (h 0)), some (.int a1)] (by decide) (Nat.le_of_ble_eq_true rfl) (argsV [.ref (h 0), .int a1] 0 rfl rfl) ?_
  intro x hx0 K hR
  have K : Kx x E D (tysOf ca) h (LaM ca h) RX10 cX10_seed 2 1 23 := K
  rw [f_X10_seed] at hf
  refine o_aload_n K 0 dX10_seed_0 rfl rfl ?_
  refine o_iconst K 0 dX10_seed_1 (by decide) ?_
  refine o_iload_n K 1 dX10_seed_2 rfl rfl ?_
  obtain ⟨r1, M2, er1, hf⟩ := bd2_e hf
  refine o_callV K [.int 0, .int a1] (k_X10_becomes x.2.1 E D ca h M (0 : Int32) a1 er1) s_X10_141 (ltM (by decide)) rfl rfl rfl rfl ⟨by decide, by decide⟩ (Nat.le_of_ble_eq_true rfl) _ rfl dX10_seed_3 ?_
  show Go x D (tysOf ca) h (LaM ca h) 2 M2 6 [some (.ref (h 0)), some (.int a1)] [.int r1]
  exact e_iret K hf hR dX10_seed_6
def f_X10_carries_j212 (rec2 : Int32 → Mem → Option Mem) (a0 : Int32) (M : Mem) : Option Mem := nm (a0 + 1 : Int32) fun x25 => rec2 x25 M
set_option maxHeartbeats 4000000 in
set_option maxRecDepth 100000 in
theorem t_X10_carries_j212 {x : En} {E : Amd} {D : va_G} {ca : Nat → ClassId} {h : Nat → Nat} (K : Kx x E D (tysOf ca) h (LaM ca h) RX10 cX10_carries 10 1 22) {Mo : Mem} (hR : Rt x D h (LaM ca h) none none Mo) {rec2 : Int32 → Mem → Option Mem} (ih2 : ∀ (w0 : Int32) (M : Mem), rec2 w0 M = some Mo → Go x D (tysOf ca) h (LaM ca h) 10 M 2 [some (.ref (h 0)), some (.int w0), none, none, none, none, none, none, none, none] []) (a0 : Int32) (M : Mem) (hf : f_X10_carries_j212 rec2 a0 M = some Mo) : Go x D (tysOf ca) h (LaM ca h) 10 M 212 [some (.ref (h 0)), some (.int a0), none, none, none, none, none, none, none, none] [] := by
  rw [f_X10_carries_j212] at hf
  obtain ⟨x25, ex25, hf⟩ := nm_o hf
  refine o_iinc K 1 x25 [some (.ref (h 0)), some (.int x25), none, none, none, none, none, none, none, none] dX10_carries_212 rfl (inc_e (by decide) ex25) (by decide) rfl rfl ?_
  refine o_goto K 2 dX10_carries_215 (by decide) ?_
  exact ih2 x25 M hf
def f_X10_carries_j168 (rec2 : Int32 → Mem → Option Mem) (a0 : Int32) (a1 : Int32) (a2 : Int32) (a3 : Int32) (M : Mem) : Option Mem := rd M 1 1460 (((6 : Int32) + ((4 : Int32) * a1)) + 2) fun x37 => wr M 1 1460 (((6 : Int32) + ((4 : Int32) * a1)) + 2) (x37 - a3) fun M40 => if 8 ≤ a2 then (f_X10_carries_j212 rec2 a0 M40) else rd M40 1 1460 (((6 : Int32) + ((4 : Int32) * a2)) + 2) fun x42 => wr M40 1 1460 (((6 : Int32) + ((4 : Int32) * a2)) + 2) (x42 + a3) fun M45 => f_X10_carries_j212 rec2 a0 M45
set_option maxHeartbeats 4000000 in
set_option maxRecDepth 100000 in
theorem t_X10_carries_j168 {x : En} {E : Amd} {D : va_G} {ca : Nat → ClassId} {h : Nat → Nat} (K : Kx x E D (tysOf ca) h (LaM ca h) RX10 cX10_carries 10 1 22) {Mo : Mem} (hR : Rt x D h (LaM ca h) none none Mo) {rec2 : Int32 → Mem → Option Mem} (ih2 : ∀ (w0 : Int32) (M : Mem), rec2 w0 M = some Mo → Go x D (tysOf ca) h (LaM ca h) 10 M 2 [some (.ref (h 0)), some (.int w0), none, none, none, none, none, none, none, none] []) (a0 : Int32) (a1 : Int32) (a2 : Int32) (a3 : Int32) (M : Mem) (hf : f_X10_carries_j168 rec2 a0 a1 a2 a3 M = some Mo) : Go x D (tysOf ca) h (LaM ca h) 10 M 168 [some (.ref (h 0)), some (.int a0), some (.int a1), some (.int a2), none, none, none, none, none, none] [.int a3] := by
  rw [f_X10_carries_j168] at hf
  refine o_istore K 9 [some (.ref (h 0)), some (.int a0), some (.int a1), some (.int a2), none, none, none, none, none, some (.int a3)] dX10_carries_168 (by decide) rfl rfl ?_
  refine o_aload_n K 0 dX10_carries_170 rfl rfl ?_
  refine gM_9 K dX10_carries_171 ?_
  refine o_bipush K 6 dX10_carries_174 (by decide) ?_
  refine o_iconst K 4 dX10_carries_176 (by decide) ?_
  refine o_iload_n K 2 dX10_carries_177 rfl rfl ?_
  refine o_imul K dX10_carries_178 ?_
  refine o_iadd K dX10_carries_179 ?_
  refine o_iconst K 2 dX10_carries_180 (by decide) ?_
  refine o_iadd K dX10_carries_181 ?_
  refine o_dup2 K dX10_carries_182 rfl rfl ?_
  obtain ⟨g38, x37, ex37, hf⟩ := rd_e hf
  refine lM_1 K g38 dX10_carries_183 ?_
  refine o_nmi ex37 ?_
  refine o_iload K 9 dX10_carries_184 rfl ?_
  refine o_isub K dX10_carries_186 ?_
  obtain ⟨g39, M40, eM40, hf⟩ := wr_e hf
  refine sM_1 K g39 dX10_carries_187 ?_
  refine o_nmM eM40 ?_
  refine o_iload_n K 3 dX10_carries_188 rfl rfl ?_
  refine o_bipush K 8 dX10_carries_189 (by decide) ?_
  refine o_icmp_ge K 212 dX10_carries_191 (by decide) (fun c41 => ?_) (fun c41 => ?_)
  · have hf := ip c41 hf
    refine o_drop [true, true, false, false, false, false, false, false, false, false] (V2 := [some (.ref (h 0)), some (.int a0), none, none, none, none, none, none, none, none]) rfl ?_
    exact t_X10_carries_j212 K hR ih2 a0 M40 hf
  · have hf := im c41 hf
    refine o_aload_n K 0 dX10_carries_194 rfl rfl ?_
    refine gM_9 K dX10_carries_195 ?_
    refine o_bipush K 6 dX10_carries_198 (by decide) ?_
    refine o_iconst K 4 dX10_carries_200 (by decide) ?_
    refine o_iload_n K 3 dX10_carries_201 rfl rfl ?_
    refine o_imul K dX10_carries_202 ?_
    refine o_iadd K dX10_carries_203 ?_
    refine o_iconst K 2 dX10_carries_204 (by decide) ?_
    refine o_iadd K dX10_carries_205 ?_
    refine o_dup2 K dX10_carries_206 rfl rfl ?_
    obtain ⟨g43, x42, ex42, hf⟩ := rd_e hf
    refine lM_1 K g43 dX10_carries_207 ?_
    refine o_nmi ex42 ?_
    refine o_iload K 9 dX10_carries_208 rfl ?_
    refine o_iadd K dX10_carries_210 ?_
    obtain ⟨g44, M45, eM45, hf⟩ := wr_e hf
    refine sM_1 K g44 dX10_carries_211 ?_
    refine o_nmM eM45 ?_
    refine o_drop [true, true, false, false, false, false, false, false, false, false] (V2 := [some (.ref (h 0)), some (.int a0), none, none, none, none, none, none, none, none]) rfl ?_
    exact t_X10_carries_j212 K hR ih2 a0 M45 hf
def f_X10_carries_j139 (rec2 : Int32 → Mem → Option Mem) (a0 : Int32) (a1 : Int32) (a2 : Int32) (a3 : Int32) (a4 : Int64) (M : Mem) : Option Mem := gd (decide (¬ (a3.toInt64) = (0 : Int64))) <| nm (a4 / (a3.toInt64) : Int64) fun x34 => bd (f_X10_at0 M a1 (2 : Int32)) fun r35 => if (lg_cmp x34 (r35.toInt64)) ≤ 0 then (f_X10_carries_j168 rec2 a0 a1 a2 (x34.toInt32) M) else f_X10_carries_j168 rec2 a0 a1 a2 r35 M
set_option maxHeartbeats 4000000 in
set_option maxRecDepth 100000 in
theorem t_X10_carries_j139 {x : En} {E : Amd} {D : va_G} {ca : Nat → ClassId} {h : Nat → Nat} (K : Kx x E D (tysOf ca) h (LaM ca h) RX10 cX10_carries 10 1 22) {Mo : Mem} (hR : Rt x D h (LaM ca h) none none Mo) {rec2 : Int32 → Mem → Option Mem} (ih2 : ∀ (w0 : Int32) (M : Mem), rec2 w0 M = some Mo → Go x D (tysOf ca) h (LaM ca h) 10 M 2 [some (.ref (h 0)), some (.int w0), none, none, none, none, none, none, none, none] []) (a0 : Int32) (a1 : Int32) (a2 : Int32) (a3 : Int32) (a4 : Int64) (M : Mem) (hf : f_X10_carries_j139 rec2 a0 a1 a2 a3 a4 M = some Mo) : Go x D (tysOf ca) h (LaM ca h) 10 M 139 [some (.ref (h 0)), some (.int a0), some (.int a1), some (.int a2), none, none, none, none, none, none] [.int a3, .long a4] := by
  rw [f_X10_carries_j139] at hf
  refine o_i2l K dX10_carries_139 ?_
  obtain ⟨g33, hf⟩ := gd_e hf
  refine o_ldiv K dX10_carries_140 (of_decide_eq_true g33) ?_
  obtain ⟨x34, ex34, hf⟩ := nm_o hf
  refine o_nml ex34 ?_
  refine o_lstore K 6 [some (.ref (h 0)), some (.int a0), some (.int a1), some (.int a2), none, none, some (.long x34), none, none, none] dX10_carries_141 (by decide) rfl rfl ?_
  refine o_aload_n K 0 dX10_carries_143 rfl rfl ?_
  refine o_iload_n K 2 dX10_carries_144 rfl rfl ?_
  refine o_iconst K 2 dX10_carries_145 (by decide) ?_
  obtain ⟨r35, er35, hf⟩ := bd_e hf
  refine o_callV K [.int a1, .int 2] (k_X10_at0 x.2.1 E D ca h M a1 (2 : Int32) er35) s_X10_116 (ltM (by decide)) rfl rfl rfl rfl ⟨by decide, by decide⟩ (Nat.le_of_ble_eq_true rfl) _ rfl dX10_carries_146 ?_
  show Go x D (tysOf ca) h (LaM ca h) 10 M 149 [some (.ref (h 0)), some (.int a0), some (.int a1), some (.int a2), none, none, some (.long x34), none, none, none] [.int r35]
  refine o_istore K 8 [some (.ref (h 0)), some (.int a0), some (.int a1), some (.int a2), none, none, some (.long x34), none, some (.int r35), none] dX10_carries_149 (by decide) rfl rfl ?_
  refine o_lload K 6 dX10_carries_151 rfl ?_
  refine o_iload K 8 dX10_carries_153 rfl ?_
  refine o_i2l K dX10_carries_155 ?_
  refine o_lcmp K dX10_carries_156 ?_
  refine o_if_le K 165 dX10_carries_157 (by decide) (fun c36 => ?_) (fun c36 => ?_)
  · have hf := ip c36 hf
    refine o_lload K 6 dX10_carries_165 rfl ?_
    refine o_l2i K dX10_carries_167 ?_
    refine o_drop [true, true, true, true, false, false, false, false, false, false] (V2 := [some (.ref (h 0)), some (.int a0), some (.int a1), some (.int a2), none, none, none, none, none, none]) rfl ?_
    exact t_X10_carries_j168 K hR ih2 a0 a1 a2 (x34.toInt32) M hf
  · have hf := im c36 hf
    refine o_iload K 8 dX10_carries_160 rfl ?_
    refine o_goto K 168 dX10_carries_162 (by decide) ?_
    refine o_drop [true, true, true, true, false, false, false, false, false, false] (V2 := [some (.ref (h 0)), some (.int a0), some (.int a1), some (.int a2), none, none, none, none, none, none]) rfl ?_
    exact t_X10_carries_j168 K hR ih2 a0 a1 a2 r35 M hf
def f_X10_carries_j107 (rec2 : Int32 → Mem → Option Mem) (a0 : Int32) (a1 : Int32) (a2 : Int32) (a3 : Int64) (M : Mem) : Option Mem := rd M 6 8 a1 fun x26 => rd M 7 8 a1 fun x28 => if 1 ≤ x28 then (rd M 7 8 a1 fun x31 => f_X10_carries_j139 rec2 a0 a1 a2 x31 ((x26.toInt64) * a3) M) else f_X10_carries_j139 rec2 a0 a1 a2 (1 : Int32) ((x26.toInt64) * a3) M
set_option maxHeartbeats 4000000 in
set_option maxRecDepth 100000 in
theorem t_X10_carries_j107 {x : En} {E : Amd} {D : va_G} {ca : Nat → ClassId} {h : Nat → Nat} (K : Kx x E D (tysOf ca) h (LaM ca h) RX10 cX10_carries 10 1 22) {Mo : Mem} (hR : Rt x D h (LaM ca h) none none Mo) {rec2 : Int32 → Mem → Option Mem} (ih2 : ∀ (w0 : Int32) (M : Mem), rec2 w0 M = some Mo → Go x D (tysOf ca) h (LaM ca h) 10 M 2 [some (.ref (h 0)), some (.int w0), none, none, none, none, none, none, none, none] []) (a0 : Int32) (a1 : Int32) (a2 : Int32) (a3 : Int64) (M : Mem) (hf : f_X10_carries_j107 rec2 a0 a1 a2 a3 M = some Mo) : Go x D (tysOf ca) h (LaM ca h) 10 M 107 [some (.ref (h 0)), some (.int a0), some (.int a1), some (.int a2), none, none, none, none, none, none] [.long a3] := by
  rw [f_X10_carries_j107] at hf
  refine o_lstore K 4 [some (.ref (h 0)), some (.int a0), some (.int a1), some (.int a2), some (.long a3), none, none, none, none, none] dX10_carries_107 (by decide) rfl rfl ?_
  refine o_aload_n K 0 dX10_carries_109 rfl rfl ?_
  refine gM_25 K dX10_carries_110 ?_
  refine o_iload_n K 2 dX10_carries_113 rfl rfl ?_
  obtain ⟨g27, x26, ex26, hf⟩ := rd_e hf
  refine lM_6 K g27 dX10_carries_114 ?_
  refine o_nmi ex26 ?_
  refine o_i2l K dX10_carries_115 ?_
  refine o_lload K 4 dX10_carries_116 rfl ?_
  refine o_lmul K dX10_carries_118 ?_
  refine o_aload_n K 0 dX10_carries_119 rfl rfl ?_
  refine gM_28 K dX10_carries_120 ?_
  refine o_iload_n K 2 dX10_carries_123 rfl rfl ?_
  obtain ⟨g29, x28, ex28, hf⟩ := rd_e hf
  refine lM_7 K g29 dX10_carries_124 ?_
  refine o_nmi ex28 ?_
  refine o_iconst K 1 dX10_carries_125 (by decide) ?_
  refine o_icmp_ge K 133 dX10_carries_126 (by decide) (fun c30 => ?_) (fun c30 => ?_)
  · have hf := ip c30 hf
    refine o_aload_n K 0 dX10_carries_133 rfl rfl ?_
    refine gM_28 K dX10_carries_134 ?_
    refine o_iload_n K 2 dX10_carries_137 rfl rfl ?_
    obtain ⟨g32, x31, ex31, hf⟩ := rd_e hf
    refine lM_7 K g32 dX10_carries_138 ?_
    refine o_nmi ex31 ?_
    refine o_drop [true, true, true, true, false, false, false, false, false, false] (V2 := [some (.ref (h 0)), some (.int a0), some (.int a1), some (.int a2), none, none, none, none, none, none]) rfl ?_
    exact t_X10_carries_j139 K hR ih2 a0 a1 a2 x31 ((x26.toInt64) * a3) M hf
  · have hf := im c30 hf
    refine o_iconst K 1 dX10_carries_129 (by decide) ?_
    refine o_goto K 139 dX10_carries_130 (by decide) ?_
    refine o_drop [true, true, true, true, false, false, false, false, false, false] (V2 := [some (.ref (h 0)), some (.int a0), some (.int a1), some (.int a2), none, none, none, none, none, none]) rfl ?_
    exact t_X10_carries_j139 K hR ih2 a0 a1 a2 (1 : Int32) ((x26.toInt64) * a3) M hf
def f_X10_carries_j61 (rec2 : Int32 → Mem → Option Mem) (a0 : Int32) (a1 : Int32) (a2 : Int32) (M : Mem) : Option Mem := rd M 4 10 a0 fun x14 => if x14 = 0 then (f_X10_carries_j212 rec2 a0 M) else if a1 = 8 then (f_X10_carries_j212 rec2 a0 M) else rd M 4 10 a0 fun x18 => if 0 ≤ x18 then (rd M 4 10 a0 fun x21 => f_X10_carries_j107 rec2 a0 a1 a2 (x21.toInt64) M) else rd M 4 10 a0 fun x23 => f_X10_carries_j107 rec2 a0 a1 a2 ((-x23).toInt64) M
set_option maxHeartbeats 4000000 in
set_option maxRecDepth 100000 in
theorem t_X10_carries_j61 {x : En} {E : Amd} {D : va_G} {ca : Nat → ClassId} {h : Nat → Nat} (K : Kx x E D (tysOf ca) h (LaM ca h) RX10 cX10_carries 10 1 22) {Mo : Mem} (hR : Rt x D h (LaM ca h) none none Mo) {rec2 : Int32 → Mem → Option Mem} (ih2 : ∀ (w0 : Int32) (M : Mem), rec2 w0 M = some Mo → Go x D (tysOf ca) h (LaM ca h) 10 M 2 [some (.ref (h 0)), some (.int w0), none, none, none, none, none, none, none, none] []) (a0 : Int32) (a1 : Int32) (a2 : Int32) (M : Mem) (hf : f_X10_carries_j61 rec2 a0 a1 a2 M = some Mo) : Go x D (tysOf ca) h (LaM ca h) 10 M 61 [some (.ref (h 0)), some (.int a0), some (.int a1), none, none, none, none, none, none, none] [.int a2] := by
  rw [f_X10_carries_j61] at hf
  refine o_istore_n K 3 [some (.ref (h 0)), some (.int a0), some (.int a1), some (.int a2), none, none, none, none, none, none] dX10_carries_61 rfl (by decide) rfl rfl ?_
  refine o_aload_n K 0 dX10_carries_62 rfl rfl ?_
  refine gM_19 K dX10_carries_63 ?_
  refine o_iload_n K 1 dX10_carries_66 rfl rfl ?_
  obtain ⟨g15, x14, ex14, hf⟩ := rd_e hf
  refine lM_4 K g15 dX10_carries_67 ?_
  refine o_nmi ex14 ?_
  refine o_if_eq K 212 dX10_carries_68 (by decide) (fun c16 => ?_) (fun c16 => ?_)
  · have hf := ip c16 hf
    refine o_drop [true, true, false, false, false, false, false, false, false, false] (V2 := [some (.ref (h 0)), some (.int a0), none, none, none, none, none, none, none, none]) rfl ?_
    exact t_X10_carries_j212 K hR ih2 a0 M hf
  · have hf := im c16 hf
    refine o_iload_n K 2 dX10_carries_71 rfl rfl ?_
    refine o_bipush K 8 dX10_carries_72 (by decide) ?_
    refine o_icmp_ne K 80 dX10_carries_74 (by decide) (fun c17 => ?_) (fun c17 => ?_)
    · have hf := im c17 hf
      refine o_aload_n K 0 dX10_carries_80 rfl rfl ?_
      refine gM_19 K dX10_carries_81 ?_
      refine o_iload_n K 1 dX10_carries_84 rfl rfl ?_
      obtain ⟨g19, x18, ex18, hf⟩ := rd_e hf
      refine lM_4 K g19 dX10_carries_85 ?_
      refine o_nmi ex18 ?_
      refine o_if_ge K 100 dX10_carries_86 (by decide) (fun c20 => ?_) (fun c20 => ?_)
      · have hf := ip c20 hf
        refine o_aload_n K 0 dX10_carries_100 rfl rfl ?_
        refine gM_19 K dX10_carries_101 ?_
        refine o_iload_n K 1 dX10_carries_104 rfl rfl ?_
        obtain ⟨g22, x21, ex21, hf⟩ := rd_e hf
        refine lM_4 K g22 dX10_carries_105 ?_
        refine o_nmi ex21 ?_
        refine o_i2l K dX10_carries_106 ?_
        exact t_X10_carries_j107 K hR ih2 a0 a1 a2 (x21.toInt64) M hf
      · have hf := im c20 hf
        refine o_aload_n K 0 dX10_carries_89 rfl rfl ?_
        refine gM_19 K dX10_carries_90 ?_
        refine o_iload_n K 1 dX10_carries_93 rfl rfl ?_
        obtain ⟨g24, x23, ex23, hf⟩ := rd_e hf
        refine lM_4 K g24 dX10_carries_94 ?_
        refine o_nmi ex23 ?_
        refine o_ineg K dX10_carries_95 ?_
        refine o_i2l K dX10_carries_96 ?_
        refine o_goto K 107 dX10_carries_97 (by decide) ?_
        exact t_X10_carries_j107 K hR ih2 a0 a1 a2 ((-x23).toInt64) M hf
    · have hf := ip c17 hf
      refine o_goto K 212 dX10_carries_77 (by decide) ?_
      refine o_drop [true, true, false, false, false, false, false, false, false, false] (V2 := [some (.ref (h 0)), some (.int a0), none, none, none, none, none, none, none, none]) rfl ?_
      exact t_X10_carries_j212 K hR ih2 a0 M hf
def f_X10_carries_j36 (rec2 : Int32 → Mem → Option Mem) (a0 : Int32) (a1 : Int32) (M : Mem) : Option Mem := rd M 4 10 a0 fun x9 => if x9 ≤ 0 then (bd (f_X10_of M a0 (1 : Int32)) fun r12 => f_X10_carries_j61 rec2 a0 a1 r12 M) else bd (f_X10_of M a0 (2 : Int32)) fun r13 => f_X10_carries_j61 rec2 a0 a1 r13 M
set_option maxHeartbeats 4000000 in
set_option maxRecDepth 100000 in
theorem t_X10_carries_j36 {x : En} {E : Amd} {D : va_G} {ca : Nat → ClassId} {h : Nat → Nat} (K : Kx x E D (tysOf ca) h (LaM ca h) RX10 cX10_carries 10 1 22) {Mo : Mem} (hR : Rt x D h (LaM ca h) none none Mo) {rec2 : Int32 → Mem → Option Mem} (ih2 : ∀ (w0 : Int32) (M : Mem), rec2 w0 M = some Mo → Go x D (tysOf ca) h (LaM ca h) 10 M 2 [some (.ref (h 0)), some (.int w0), none, none, none, none, none, none, none, none] []) (a0 : Int32) (a1 : Int32) (M : Mem) (hf : f_X10_carries_j36 rec2 a0 a1 M = some Mo) : Go x D (tysOf ca) h (LaM ca h) 10 M 36 [some (.ref (h 0)), some (.int a0), none, none, none, none, none, none, none, none] [.int a1] := by
  rw [f_X10_carries_j36] at hf
  refine o_istore_n K 2 [some (.ref (h 0)), some (.int a0), some (.int a1), none, none, none, none, none, none, none] dX10_carries_36 rfl (by decide) rfl rfl ?_
  refine o_aload_n K 0 dX10_carries_37 rfl rfl ?_
  refine gM_19 K dX10_carries_38 ?_
  refine o_iload_n K 1 dX10_carries_41 rfl rfl ?_
  obtain ⟨g10, x9, ex9, hf⟩ := rd_e hf
  refine lM_4 K g10 dX10_carries_42 ?_
  refine o_nmi ex9 ?_
  refine o_if_le K 55 dX10_carries_43 (by decide) (fun c11 => ?_) (fun c11 => ?_)
  · have hf := ip c11 hf
    refine o_aload_n K 0 dX10_carries_55 rfl rfl ?_
    refine o_iload_n K 1 dX10_carries_56 rfl rfl ?_
    refine o_iconst K 1 dX10_carries_57 (by decide) ?_
    obtain ⟨r12, er12, hf⟩ := bd_e hf
    refine o_callV K [.int a0, .int 1] (k_X10_of x.2.1 E D ca h M a0 (1 : Int32) er12) s_X10_101 (ltM (by decide)) rfl rfl rfl rfl ⟨by decide, by decide⟩ (Nat.le_of_ble_eq_true rfl) _ rfl dX10_carries_58 ?_
    show Go x D (tysOf ca) h (LaM ca h) 10 M 61 [some (.ref (h 0)), some (.int a0), some (.int a1), none, none, none, none, none, none, none] [.int r12]
    exact t_X10_carries_j61 K hR ih2 a0 a1 r12 M hf
  · have hf := im c11 hf
    refine o_aload_n K 0 dX10_carries_46 rfl rfl ?_
    refine o_iload_n K 1 dX10_carries_47 rfl rfl ?_
    refine o_iconst K 2 dX10_carries_48 (by decide) ?_
    obtain ⟨r13, er13, hf⟩ := bd_e hf
    refine o_callV K [.int a0, .int 2] (k_X10_of x.2.1 E D ca h M a0 (2 : Int32) er13) s_X10_101 (ltM (by decide)) rfl rfl rfl rfl ⟨by decide, by decide⟩ (Nat.le_of_ble_eq_true rfl) _ rfl dX10_carries_49 ?_
    show Go x D (tysOf ca) h (LaM ca h) 10 M 52 [some (.ref (h 0)), some (.int a0), some (.int a1), none, none, none, none, none, none, none] [.int r13]
    refine o_goto K 61 dX10_carries_52 (by decide) ?_
    exact t_X10_carries_j61 K hR ih2 a0 a1 r13 M hf
def f_X10_carries_l2 : Nat → Int32 → Mem → Option Mem
  | 0, _, _ => none
  | n + 1, a0, M => rd M 1 1460 1 fun x1 => if x1 ≤ a0 then (some M) else rd M 4 10 a0 fun x4 => if x4 ≤ 0 then (bd (f_X10_of M a0 (2 : Int32)) fun r7 => f_X10_carries_j36 (f_X10_carries_l2 n) a0 r7 M) else bd (f_X10_of M a0 (1 : Int32)) fun r8 => f_X10_carries_j36 (f_X10_carries_l2 n) a0 r8 M
set_option maxHeartbeats 4000000 in
set_option maxRecDepth 100000 in
theorem t_X10_carries_l2 {x : En} {E : Amd} {D : va_G} {ca : Nat → ClassId} {h : Nat → Nat} (K : Kx x E D (tysOf ca) h (LaM ca h) RX10 cX10_carries 10 1 22) {Mo : Mem} (hR : Rt x D h (LaM ca h) none none Mo) : ∀ (n : Nat) (a0 : Int32) (M : Mem), f_X10_carries_l2 n a0 M = some Mo → Go x D (tysOf ca) h (LaM ca h) 10 M 2 [some (.ref (h 0)), some (.int a0), none, none, none, none, none, none, none, none] [] := by
  intro n
  induction n with
  | zero =>
    intro a0 M hf
    cases hf
  | succ n ih =>
    intro a0 M hf
    rw [f_X10_carries_l2] at hf
    refine o_iload_n K 1 dX10_carries_2 rfl rfl ?_
    refine o_aload_n K 0 dX10_carries_3 rfl rfl ?_
    refine gM_9 K dX10_carries_4 ?_
    refine o_iconst K 1 dX10_carries_7 (by decide) ?_
    obtain ⟨g2, x1, ex1, hf⟩ := rd_e hf
    refine lM_1 K g2 dX10_carries_8 ?_
    refine o_nmi ex1 ?_
    refine o_icmp_ge K 218 dX10_carries_9 (by decide) (fun c3 => ?_) (fun c3 => ?_)
    · have hf := ip c3 hf
      exact e_vret K hf hR dX10_carries_218
    · have hf := im c3 hf
      refine o_aload_n K 0 dX10_carries_12 rfl rfl ?_
      refine gM_19 K dX10_carries_13 ?_
      refine o_iload_n K 1 dX10_carries_16 rfl rfl ?_
      obtain ⟨g5, x4, ex4, hf⟩ := rd_e hf
      refine lM_4 K g5 dX10_carries_17 ?_
      refine o_nmi ex4 ?_
      refine o_if_le K 30 dX10_carries_18 (by decide) (fun c6 => ?_) (fun c6 => ?_)
      · have hf := ip c6 hf
        refine o_aload_n K 0 dX10_carries_30 rfl rfl ?_
        refine o_iload_n K 1 dX10_carries_31 rfl rfl ?_
        refine o_iconst K 2 dX10_carries_32 (by decide) ?_
        obtain ⟨r7, er7, hf⟩ := bd_e hf
        refine o_callV K [.int a0, .int 2] (k_X10_of x.2.1 E D ca h M a0 (2 : Int32) er7) s_X10_101 (ltM (by decide)) rfl rfl rfl rfl ⟨by decide, by decide⟩ (Nat.le_of_ble_eq_true rfl) _ rfl dX10_carries_33 ?_
        show Go x D (tysOf ca) h (LaM ca h) 10 M 36 [some (.ref (h 0)), some (.int a0), none, none, none, none, none, none, none, none] [.int r7]
        exact t_X10_carries_j36 K hR ih a0 r7 M hf
      · have hf := im c6 hf
        refine o_aload_n K 0 dX10_carries_21 rfl rfl ?_
        refine o_iload_n K 1 dX10_carries_22 rfl rfl ?_
        refine o_iconst K 1 dX10_carries_23 (by decide) ?_
        obtain ⟨r8, er8, hf⟩ := bd_e hf
        refine o_callV K [.int a0, .int 1] (k_X10_of x.2.1 E D ca h M a0 (1 : Int32) er8) s_X10_101 (ltM (by decide)) rfl rfl rfl rfl ⟨by decide, by decide⟩ (Nat.le_of_ble_eq_true rfl) _ rfl dX10_carries_24 ?_
        show Go x D (tysOf ca) h (LaM ca h) 10 M 27 [some (.ref (h 0)), some (.int a0), none, none, none, none, none, none, none, none] [.int r8]
        refine o_goto K 36 dX10_carries_27 (by decide) ?_
        exact t_X10_carries_j36 K hR ih a0 r8 M hf
def f_X10_carries (M : Mem) : Option Mem := f_X10_carries_l2 FU (0 : Int32) M
set_option maxHeartbeats 4000000 in
set_option maxRecDepth 100000 in
theorem k_X10_carries (l : Launch) (E : Amd) (D : va_G) (ca : Nat → ClassId) (h : Nat → Nat) (M : Mem) {Mo : Mem} (hf : f_X10_carries M = some Mo) : Ct l E D (tysOf ca) h (LaM ca h) yX10_carries cX10_carries 10 none 1 22 [.ref (h 0)] M none Mo := by
  refine Ct.mk [some (.ref (h 0)), none, none, none, none, none, none, none, none, none] (by decide) (Nat.le_of_ble_eq_true rfl) (argsV [.ref (h 0)] 9 rfl rfl) ?_
  intro x hx0 K hR
  have K : Kx x E D (tysOf ca) h (LaM ca h) RX10 cX10_carries 10 1 22 := K
  rw [f_X10_carries] at hf
  refine o_iconst K 0 dX10_carries_0 (by decide) ?_
  refine o_istore_n K 1 [some (.ref (h 0)), some (.int 0), none, none, none, none, none, none, none, none] dX10_carries_1 rfl (by decide) rfl rfl ?_
  exact t_X10_carries_l2 K hR FU (0 : Int32) M hf
def f_X10_blows_j91 (rec2 : Int32 → Mem → Option Mem) (a0 : Int32) (M : Mem) : Option Mem := nm (a0 + 1 : Int32) fun x31 => rec2 x31 M
set_option maxHeartbeats 4000000 in
set_option maxRecDepth 100000 in
theorem t_X10_blows_j91 {x : En} {E : Amd} {D : va_G} {ca : Nat → ClassId} {h : Nat → Nat} (K : Kx x E D (tysOf ca) h (LaM ca h) RX10 cX10_blows 3 1 22) {Mo : Mem} (hR : Rt x D h (LaM ca h) none none Mo) {rec2 : Int32 → Mem → Option Mem} (ih2 : ∀ (w0 : Int32) (M : Mem), rec2 w0 M = some Mo → Go x D (tysOf ca) h (LaM ca h) 3 M 2 [some (.ref (h 0)), some (.int w0), none] []) (a0 : Int32) (M : Mem) (hf : f_X10_blows_j91 rec2 a0 M = some Mo) : Go x D (tysOf ca) h (LaM ca h) 3 M 91 [some (.ref (h 0)), some (.int a0), none] [] := by
  rw [f_X10_blows_j91] at hf
  obtain ⟨x31, ex31, hf⟩ := nm_o hf
  refine o_iinc K 1 x31 [some (.ref (h 0)), some (.int x31), none] dX10_blows_91 rfl (inc_e (by decide) ex31) (by decide) rfl rfl ?_
  refine o_goto K 2 dX10_blows_94 (by decide) ?_
  exact ih2 x31 M hf
def f_X10_blows_j138 (rec99 : Int32 → Mem → Option Mem) (a0 : Int32) (a1 : Int32) (a2 : Int32) (M : Mem) : Option Mem := wr M 1 1460 a2 a1 fun M33 => nm (a0 + 1 : Int32) fun x34 => rec99 x34 M33
set_option maxHeartbeats 4000000 in
set_option maxRecDepth 100000 in
theorem t_X10_blows_j138 {x : En} {E : Amd} {D : va_G} {ca : Nat → ClassId} {h : Nat → Nat} (K : Kx x E D (tysOf ca) h (LaM ca h) RX10 cX10_blows 3 1 22) {Mo : Mem} (hR : Rt x D h (LaM ca h) none none Mo) {rec99 : Int32 → Mem → Option Mem} (ih99 : ∀ (w0 : Int32) (M : Mem), rec99 w0 M = some Mo → Go x D (tysOf ca) h (LaM ca h) 3 M 99 [some (.ref (h 0)), some (.int w0), none] []) (a0 : Int32) (a1 : Int32) (a2 : Int32) (M : Mem) (hf : f_X10_blows_j138 rec99 a0 a1 a2 M = some Mo) : Go x D (tysOf ca) h (LaM ca h) 3 M 138 [some (.ref (h 0)), some (.int a0), none] [.int a1, .int a2, .ref (h 1)] := by
  rw [f_X10_blows_j138] at hf
  obtain ⟨g32, M33, eM33, hf⟩ := wr_e hf
  refine sM_1 K g32 dX10_blows_138 ?_
  refine o_nmM eM33 ?_
  obtain ⟨x34, ex34, hf⟩ := nm_o hf
  refine o_iinc K 1 x34 [some (.ref (h 0)), some (.int x34), none] dX10_blows_139 rfl (inc_e (by decide) ex34) (by decide) rfl rfl ?_
  refine o_goto K 99 dX10_blows_142 (by decide) ?_
  exact ih99 x34 M33 hf
def f_X10_blows_l99 : Nat → Int32 → Mem → Option Mem
  | 0, _, _ => none
  | n + 1, a0, M => if 8 ≤ a0 then (some M) else bd (f_X10_at0 M a0 (0 : Int32)) fun r27 => bd (f_X10_at0 M a0 (1 : Int32)) fun r28 => nm (r27 - r28 : Int32) fun x29 => if 0 ≤ x29 then (f_X10_blows_j138 (f_X10_blows_l99 n) a0 x29 ((6 : Int32) + ((4 : Int32) * a0)) M) else f_X10_blows_j138 (f_X10_blows_l99 n) a0 (0 : Int32) ((6 : Int32) + ((4 : Int32) * a0)) M
set_option maxHeartbeats 4000000 in
set_option maxRecDepth 100000 in
theorem t_X10_blows_l99 {x : En} {E : Amd} {D : va_G} {ca : Nat → ClassId} {h : Nat → Nat} (K : Kx x E D (tysOf ca) h (LaM ca h) RX10 cX10_blows 3 1 22) {Mo : Mem} (hR : Rt x D h (LaM ca h) none none Mo) : ∀ (n : Nat) (a0 : Int32) (M : Mem), f_X10_blows_l99 n a0 M = some Mo → Go x D (tysOf ca) h (LaM ca h) 3 M 99 [some (.ref (h 0)), some (.int a0), none] [] := by
  intro n
  induction n with
  | zero =>
    intro a0 M hf
    cases hf
  | succ n ih =>
    intro a0 M hf
    rw [f_X10_blows_l99] at hf
    refine o_iload_n K 1 dX10_blows_99 rfl rfl ?_
    refine o_bipush K 8 dX10_blows_100 (by decide) ?_
    refine o_icmp_ge K 145 dX10_blows_102 (by decide) (fun c26 => ?_) (fun c26 => ?_)
    · have hf := ip c26 hf
      exact e_vret K hf hR dX10_blows_145
    · have hf := im c26 hf
      refine o_aload_n K 0 dX10_blows_105 rfl rfl ?_
      refine o_iload_n K 1 dX10_blows_106 rfl rfl ?_
      refine o_iconst K 0 dX10_blows_107 (by decide) ?_
      obtain ⟨r27, er27, hf⟩ := bd_e hf
      refine o_callV K [.int a0, .int 0] (k_X10_at0 x.2.1 E D ca h M a0 (0 : Int32) er27) s_X10_116 (ltM (by decide)) rfl rfl rfl rfl ⟨by decide, by decide⟩ (Nat.le_of_ble_eq_true rfl) _ rfl dX10_blows_108 ?_
      show Go x D (tysOf ca) h (LaM ca h) 3 M 111 [some (.ref (h 0)), some (.int a0), none] [.int r27]
      refine o_aload_n K 0 dX10_blows_111 rfl rfl ?_
      refine o_iload_n K 1 dX10_blows_112 rfl rfl ?_
      refine o_iconst K 1 dX10_blows_113 (by decide) ?_
      obtain ⟨r28, er28, hf⟩ := bd_e hf
      refine o_callV K [.int a0, .int 1] (k_X10_at0 x.2.1 E D ca h M a0 (1 : Int32) er28) s_X10_116 (ltM (by decide)) rfl rfl rfl rfl ⟨by decide, by decide⟩ (Nat.le_of_ble_eq_true rfl) _ rfl dX10_blows_114 ?_
      show Go x D (tysOf ca) h (LaM ca h) 3 M 117 [some (.ref (h 0)), some (.int a0), none] [.int r28, .int r27]
      refine o_isub K dX10_blows_117 ?_
      obtain ⟨x29, ex29, hf⟩ := nm_o hf
      refine o_nmi ex29 ?_
      refine o_istore_n K 2 [some (.ref (h 0)), some (.int a0), some (.int x29)] dX10_blows_118 rfl (by decide) rfl rfl ?_
      refine o_aload_n K 0 dX10_blows_119 rfl rfl ?_
      refine gM_9 K dX10_blows_120 ?_
      refine o_bipush K 6 dX10_blows_123 (by decide) ?_
      refine o_iconst K 4 dX10_blows_125 (by decide) ?_
      refine o_iload_n K 1 dX10_blows_126 rfl rfl ?_
      refine o_imul K dX10_blows_127 ?_
      refine o_iadd K dX10_blows_128 ?_
      refine o_iload_n K 2 dX10_blows_129 rfl rfl ?_
      refine o_if_ge K 137 dX10_blows_130 (by decide) (fun c30 => ?_) (fun c30 => ?_)
      · have hf := ip c30 hf
        refine o_iload_n K 2 dX10_blows_137 rfl rfl ?_
        refine o_drop [true, true, false] (V2 := [some (.ref (h 0)), some (.int a0), none]) rfl ?_
        exact t_X10_blows_j138 K hR ih a0 x29 ((6 : Int32) + ((4 : Int32) * a0)) M hf
      · have hf := im c30 hf
        refine o_iconst K 0 dX10_blows_133 (by decide) ?_
        refine o_goto K 138 dX10_blows_134 (by decide) ?_
        refine o_drop [true, true, false] (V2 := [some (.ref (h 0)), some (.int a0), none]) rfl ?_
        exact t_X10_blows_j138 K hR ih a0 (0 : Int32) ((6 : Int32) + ((4 : Int32) * a0)) M hf
def f_X10_blows_l2 : Nat → Int32 → Mem → Option Mem
  | 0, _, _ => none
  | n + 1, a0, M => rd M 1 1460 1 fun x1 => if x1 ≤ a0 then (f_X10_blows_l99 FU (0 : Int32) M) else bd (f_X10_of M a0 (1 : Int32)) fun r4 => rd M 1 1460 ((6 : Int32) + ((4 : Int32) * r4)) fun x5 => rd M 4 10 a0 fun x7 => wr M 1 1460 ((6 : Int32) + ((4 : Int32) * r4)) (x5 - x7) fun M10 => bd (f_X10_of M10 a0 (2 : Int32)) fun r11 => if 8 ≤ r11 then (rd M10 1 1460 4 fun x13 => rd M10 4 10 a0 fun x15 => wr M10 1 1460 4 (x13 + x15) fun M18 => f_X10_blows_j91 (f_X10_blows_l2 n) a0 M18) else bd (f_X10_of M10 a0 (2 : Int32)) fun r19 => rd M10 1 1460 ((6 : Int32) + ((4 : Int32) * r19)) fun x20 => rd M10 4 10 a0 fun x22 => wr M10 1 1460 ((6 : Int32) + ((4 : Int32) * r19)) (x20 + x22) fun M25 => f_X10_blows_j91 (f_X10_blows_l2 n) a0 M25
set_option maxHeartbeats 4000000 in
set_option maxRecDepth 100000 in
theorem t_X10_blows_l2 {x : En} {E : Amd} {D : va_G} {ca : Nat → ClassId} {h : Nat → Nat} (K : Kx x E D (tysOf ca) h (LaM ca h) RX10 cX10_blows 3 1 22) {Mo : Mem} (hR : Rt x D h (LaM ca h) none none Mo) : ∀ (n : Nat) (a0 : Int32) (M : Mem), f_X10_blows_l2 n a0 M = some Mo → Go x D (tysOf ca) h (LaM ca h) 3 M 2 [some (.ref (h 0)), some (.int a0), none] [] := by
  intro n
  induction n with
  | zero =>
    intro a0 M hf
    cases hf
  | succ n ih =>
    intro a0 M hf
    rw [f_X10_blows_l2] at hf
    refine o_iload_n K 1 dX10_blows_2 rfl rfl ?_
    refine o_aload_n K 0 dX10_blows_3 rfl rfl ?_
    refine gM_9 K dX10_blows_4 ?_
    refine o_iconst K 1 dX10_blows_7 (by decide) ?_
    obtain ⟨g2, x1, ex1, hf⟩ := rd_e hf
    refine lM_1 K g2 dX10_blows_8 ?_
    refine o_nmi ex1 ?_
    refine o_icmp_ge K 97 dX10_blows_9 (by decide) (fun c3 => ?_) (fun c3 => ?_)
    · have hf := ip c3 hf
      refine o_iconst K 0 dX10_blows_97 (by decide) ?_
      refine o_istore_n K 1 [some (.ref (h 0)), some (.int 0), none] dX10_blows_98 rfl (by decide) rfl rfl ?_
      exact t_X10_blows_l99 K hR FU (0 : Int32) M hf
    · have hf := im c3 hf
      refine o_aload_n K 0 dX10_blows_12 rfl rfl ?_
      refine gM_9 K dX10_blows_13 ?_
      refine o_bipush K 6 dX10_blows_16 (by decide) ?_
      refine o_iconst K 4 dX10_blows_18 (by decide) ?_
      refine o_aload_n K 0 dX10_blows_19 rfl rfl ?_
      refine o_iload_n K 1 dX10_blows_20 rfl rfl ?_
      refine o_iconst K 1 dX10_blows_21 (by decide) ?_
      obtain ⟨r4, er4, hf⟩ := bd_e hf
      refine o_callV K [.int a0, .int 1] (k_X10_of x.2.1 E D ca h M a0 (1 : Int32) er4) s_X10_101 (ltM (by decide)) rfl rfl rfl rfl ⟨by decide, by decide⟩ (Nat.le_of_ble_eq_true rfl) _ rfl dX10_blows_22 ?_
      show Go x D (tysOf ca) h (LaM ca h) 3 M 25 [some (.ref (h 0)), some (.int a0), none] [.int r4, .int 4, .int 6, .ref (h 1)]
      refine o_imul K dX10_blows_25 ?_
      refine o_iadd K dX10_blows_26 ?_
      refine o_dup2 K dX10_blows_27 rfl rfl ?_
      obtain ⟨g6, x5, ex5, hf⟩ := rd_e hf
      refine lM_1 K g6 dX10_blows_28 ?_
      refine o_nmi ex5 ?_
      refine o_aload_n K 0 dX10_blows_29 rfl rfl ?_
      refine gM_19 K dX10_blows_30 ?_
      refine o_iload_n K 1 dX10_blows_33 rfl rfl ?_
      obtain ⟨g8, x7, ex7, hf⟩ := rd_e hf
      refine lM_4 K g8 dX10_blows_34 ?_
      refine o_nmi ex7 ?_
      refine o_isub K dX10_blows_35 ?_
      obtain ⟨g9, M10, eM10, hf⟩ := wr_e hf
      refine sM_1 K g9 dX10_blows_36 ?_
      refine o_nmM eM10 ?_
      refine o_aload_n K 0 dX10_blows_37 rfl rfl ?_
      refine o_iload_n K 1 dX10_blows_38 rfl rfl ?_
      refine o_iconst K 2 dX10_blows_39 (by decide) ?_
      obtain ⟨r11, er11, hf⟩ := bd_e hf
      refine o_callV K [.int a0, .int 2] (k_X10_of x.2.1 E D ca h M10 a0 (2 : Int32) er11) s_X10_101 (ltM (by decide)) rfl rfl rfl rfl ⟨by decide, by decide⟩ (Nat.le_of_ble_eq_true rfl) _ rfl dX10_blows_40 ?_
      show Go x D (tysOf ca) h (LaM ca h) 3 M10 43 [some (.ref (h 0)), some (.int a0), none] [.int r11]
      refine o_bipush K 8 dX10_blows_43 (by decide) ?_
      refine o_icmp_ge K 76 dX10_blows_45 (by decide) (fun c12 => ?_) (fun c12 => ?_)
      · have hf := ip c12 hf
        refine o_aload_n K 0 dX10_blows_76 rfl rfl ?_
        refine gM_9 K dX10_blows_77 ?_
        refine o_iconst K 4 dX10_blows_80 (by decide) ?_
        refine o_dup2 K dX10_blows_81 rfl rfl ?_
        obtain ⟨g14, x13, ex13, hf⟩ := rd_e hf
        refine lM_1 K g14 dX10_blows_82 ?_
        refine o_nmi ex13 ?_
        refine o_aload_n K 0 dX10_blows_83 rfl rfl ?_
        refine gM_19 K dX10_blows_84 ?_
        refine o_iload_n K 1 dX10_blows_87 rfl rfl ?_
        obtain ⟨g16, x15, ex15, hf⟩ := rd_e hf
        refine lM_4 K g16 dX10_blows_88 ?_
        refine o_nmi ex15 ?_
        refine o_iadd K dX10_blows_89 ?_
        obtain ⟨g17, M18, eM18, hf⟩ := wr_e hf
        refine sM_1 K g17 dX10_blows_90 ?_
        refine o_nmM eM18 ?_
        exact t_X10_blows_j91 K hR ih a0 M18 hf
      · have hf := im c12 hf
        refine o_aload_n K 0 dX10_blows_48 rfl rfl ?_
        refine gM_9 K dX10_blows_49 ?_
        refine o_bipush K 6 dX10_blows_52 (by decide) ?_
        refine o_iconst K 4 dX10_blows_54 (by decide) ?_
        refine o_aload_n K 0 dX10_blows_55 rfl rfl ?_
        refine o_iload_n K 1 dX10_blows_56 rfl rfl ?_
        refine o_iconst K 2 dX10_blows_57 (by decide) ?_
        obtain ⟨r19, er19, hf⟩ := bd_e hf
        refine o_callV K [.int a0, .int 2] (k_X10_of x.2.1 E D ca h M10 a0 (2 : Int32) er19) s_X10_101 (ltM (by decide)) rfl rfl rfl rfl ⟨by decide, by decide⟩ (Nat.le_of_ble_eq_true rfl) _ rfl dX10_blows_58 ?_
        show Go x D (tysOf ca) h (LaM ca h) 3 M10 61 [some (.ref (h 0)), some (.int a0), none] [.int r19, .int 4, .int 6, .ref (h 1)]
        refine o_imul K dX10_blows_61 ?_
        refine o_iadd K dX10_blows_62 ?_
        refine o_dup2 K dX10_blows_63 rfl rfl ?_
        obtain ⟨g21, x20, ex20, hf⟩ := rd_e hf
        refine lM_1 K g21 dX10_blows_64 ?_
        refine o_nmi ex20 ?_
        refine o_aload_n K 0 dX10_blows_65 rfl rfl ?_
        refine gM_19 K dX10_blows_66 ?_
        refine o_iload_n K 1 dX10_blows_69 rfl rfl ?_
        obtain ⟨g23, x22, ex22, hf⟩ := rd_e hf
        refine lM_4 K g23 dX10_blows_70 ?_
        refine o_nmi ex22 ?_
        refine o_iadd K dX10_blows_71 ?_
        obtain ⟨g24, M25, eM25, hf⟩ := wr_e hf
        refine sM_1 K g24 dX10_blows_72 ?_
        refine o_nmM eM25 ?_
        refine o_goto K 91 dX10_blows_73 (by decide) ?_
        exact t_X10_blows_j91 K hR ih a0 M25 hf
def f_X10_blows (M : Mem) : Option Mem := f_X10_blows_l2 FU (0 : Int32) M
set_option maxHeartbeats 4000000 in
set_option maxRecDepth 100000 in
theorem k_X10_blows (l : Launch) (E : Amd) (D : va_G) (ca : Nat → ClassId) (h : Nat → Nat) (M : Mem) {Mo : Mem} (hf : f_X10_blows M = some Mo) : Ct l E D (tysOf ca) h (LaM ca h) yX10_blows cX10_blows 3 none 1 22 [.ref (h 0)] M none Mo := by
  refine Ct.mk [some (.ref (h 0)), none, none] (by decide) (Nat.le_of_ble_eq_true rfl) (argsV [.ref (h 0)] 2 rfl rfl) ?_
  intro x hx0 K hR
  have K : Kx x E D (tysOf ca) h (LaM ca h) RX10 cX10_blows 3 1 22 := K
  rw [f_X10_blows] at hf
  refine o_iconst K 0 dX10_blows_0 (by decide) ?_
  refine o_istore_n K 1 [some (.ref (h 0)), some (.int 0), none] dX10_blows_1 rfl (by decide) rfl rfl ?_
  exact t_X10_blows_l2 K hR FU (0 : Int32) M hf
def f_X10_gustOf (M : Mem) (a1 : Int32) : Option (Int32 × Mem) := bd (f_X10_counts M (1 : Int32)) fun r1 => bd (f_X10_at0 M a1 (1 : Int32)) fun r2 => wr M 16 4 0 r2 fun M4 => bd (f_X10_at0 M4 a1 (2 : Int32)) fun r5 => wr M4 16 4 1 r5 fun M7 => if 0 ≤ r1 then (bd2 (f_X10_worksOut M7 r1) fun r9 M10 => bd (f_X10_within r9 (0 : Int32) (999 : Int32)) fun r11 => some (r11, M10)) else some ((20 : Int32), M7)
set_option maxHeartbeats 4000000 in
set_option maxRecDepth 100000 in
theorem k_X10_gustOf (l : Launch) (E : Amd) (D : va_G) (ca : Nat → ClassId) (h : Nat → Nat) (M : Mem) (a1 : Int32) {r0 : Int32} {Mo : Mem} (hf : f_X10_gustOf M a1 = some (r0, Mo)) : Ct l E D (tysOf ca) h (LaM ca h) yX10_gustOf cX10_gustOf 3 (some .int) 2 47 [.ref (h 0), .int a1] M (some (.int r0)) Mo := by
  refine Ct.mk [some (.ref (h 0)), some (.int a1), none] (by decide) (Nat.le_of_ble_eq_true rfl) (argsV [.ref (h 0), .int a1] 1 rfl rfl) ?_
  intro x hx0 K hR
  have K : Kx x E D (tysOf ca) h (LaM ca h) RX10 cX10_gustOf 3 2 47 := K
  rw [f_X10_gustOf] at hf
  refine o_aload_n K 0 dX10_gustOf_0 rfl rfl ?_
  refine o_iconst K 1 dX10_gustOf_1 (by decide) ?_
  obtain ⟨r1, er1, hf⟩ := bd_e hf
  refine o_callV K [.int 1] (k_X10_counts x.2.1 E D ca h M (1 : Int32) er1) s_X10_105 (ltM (by decide)) rfl rfl rfl rfl ⟨by decide, by decide⟩ (Nat.le_of_ble_eq_true rfl) _ rfl dX10_gustOf_2 ?_
  show Go x D (tysOf ca) h (LaM ca h) 3 M 5 [some (.ref (h 0)), some (.int a1), none] [.int r1]
  refine o_istore_n K 2 [some (.ref (h 0)), some (.int a1), some (.int r1)] dX10_gustOf_5 rfl (by decide) rfl rfl ?_
  refine o_aload_n K 0 dX10_gustOf_6 rfl rfl ?_
  refine gM_57 K dX10_gustOf_7 ?_
  refine o_iconst K 0 dX10_gustOf_10 (by decide) ?_
  refine o_aload_n K 0 dX10_gustOf_11 rfl rfl ?_
  refine o_iload_n K 1 dX10_gustOf_12 rfl rfl ?_
  refine o_iconst K 1 dX10_gustOf_13 (by decide) ?_
  obtain ⟨r2, er2, hf⟩ := bd_e hf
  refine o_callV K [.int a1, .int 1] (k_X10_at0 x.2.1 E D ca h M a1 (1 : Int32) er2) s_X10_116 (ltM (by decide)) rfl rfl rfl rfl ⟨by decide, by decide⟩ (Nat.le_of_ble_eq_true rfl) _ rfl dX10_gustOf_14 ?_
  show Go x D (tysOf ca) h (LaM ca h) 3 M 17 [some (.ref (h 0)), some (.int a1), some (.int r1)] [.int r2, .int 0, .ref (h 16)]
  obtain ⟨g3, M4, eM4, hf⟩ := wr_e hf
  refine sM_16 K g3 dX10_gustOf_17 ?_
  refine o_nmM eM4 ?_
  refine o_aload_n K 0 dX10_gustOf_18 rfl rfl ?_
  refine gM_57 K dX10_gustOf_19 ?_
  refine o_iconst K 1 dX10_gustOf_22 (by decide) ?_
  refine o_aload_n K 0 dX10_gustOf_23 rfl rfl ?_
  refine o_iload_n K 1 dX10_gustOf_24 rfl rfl ?_
  refine o_iconst K 2 dX10_gustOf_25 (by decide) ?_
  obtain ⟨r5, er5, hf⟩ := bd_e hf
  refine o_callV K [.int a1, .int 2] (k_X10_at0 x.2.1 E D ca h M4 a1 (2 : Int32) er5) s_X10_116 (ltM (by decide)) rfl rfl rfl rfl ⟨by decide, by decide⟩ (Nat.le_of_ble_eq_true rfl) _ rfl dX10_gustOf_26 ?_
  show Go x D (tysOf ca) h (LaM ca h) 3 M4 29 [some (.ref (h 0)), some (.int a1), some (.int r1)] [.int r5, .int 1, .ref (h 16)]
  obtain ⟨g6, M7, eM7, hf⟩ := wr_e hf
  refine sM_16 K g6 dX10_gustOf_29 ?_
  refine o_nmM eM7 ?_
  refine o_iload_n K 2 dX10_gustOf_30 rfl rfl ?_
  refine o_if_ge K 39 dX10_gustOf_31 (by decide) (fun c8 => ?_) (fun c8 => ?_)
  · have hf := ip c8 hf
    refine o_aload_n K 0 dX10_gustOf_39 rfl rfl ?_
    refine o_iload_n K 2 dX10_gustOf_40 rfl rfl ?_
    obtain ⟨r9, M10, er9, hf⟩ := bd2_e hf
    refine o_callV K [.int r1] (k_X10_worksOut x.2.1 E D ca h M7 r1 er9) s_X10_109 (ltM (by decide)) rfl rfl rfl rfl ⟨by decide, by decide⟩ (Nat.le_of_ble_eq_true rfl) _ rfl dX10_gustOf_41 ?_
    show Go x D (tysOf ca) h (LaM ca h) 3 M10 44 [some (.ref (h 0)), some (.int a1), some (.int r1)] [.int r9]
    refine o_iconst K 0 dX10_gustOf_44 (by decide) ?_
    refine o_sipush K 999 dX10_gustOf_45 (by decide) ?_
    obtain ⟨r11, er11, hf⟩ := bd_e hf
    refine o_callS K [.int r9, .int 0, .int 999] (k_X10_within x.2.1 E D ca h M10 r9 (0 : Int32) (999 : Int32) er11) s_X10_112 rfl ⟨by decide, by decide⟩ (Nat.le_of_ble_eq_true rfl) _ rfl dX10_gustOf_48 ?_
    show Go x D (tysOf ca) h (LaM ca h) 3 M10 51 [some (.ref (h 0)), some (.int a1), some (.int r1)] [.int r11]
    exact e_iret K hf hR dX10_gustOf_51
  · have hf := im c8 hf
    refine o_bipush K 20 dX10_gustOf_34 (by decide) ?_
    refine o_goto K 51 dX10_gustOf_36 (by decide) ?_
    exact e_iret K hf hR dX10_gustOf_51
def f_X10_minute_j101 (rec54 : Int32 → Int32 → Mem → Option (Int32 × Mem)) (a0 : Int32) (a1 : Int32) (M : Mem) : Option (Int32 × Mem) := nm (a1 + 1 : Int32) fun x30 => rec54 a0 x30 M
set_option maxHeartbeats 4000000 in
set_option maxRecDepth 100000 in
theorem t_X10_minute_j101 {x : En} {E : Amd} {D : va_G} {ca : Nat → ClassId} {h : Nat → Nat} (K : Kx x E D (tysOf ca) h (LaM ca h) RX10 cX10_minute 3 5 114) {r0 : Int32} {Mo : Mem} (hR : Rt x D h (LaM ca h) (some .int) (some (.int r0)) Mo) {rec54 : Int32 → Int32 → Mem → Option (Int32 × Mem)} (ih54 : ∀ (w0 : Int32) (w1 : Int32) (M : Mem), rec54 w0 w1 M = some (r0, Mo) → Go x D (tysOf ca) h (LaM ca h) 3 M 54 [some (.ref (h 0)), some (.int w0), some (.int w1)] []) (a0 : Int32) (a1 : Int32) (M : Mem) (hf : f_X10_minute_j101 rec54 a0 a1 M = some (r0, Mo)) : Go x D (tysOf ca) h (LaM ca h) 3 M 101 [some (.ref (h 0)), some (.int a0), some (.int a1)] [] := by
  rw [f_X10_minute_j101] at hf
  obtain ⟨x30, ex30, hf⟩ := nm_o hf
  refine o_iinc K 2 x30 [some (.ref (h 0)), some (.int a0), some (.int x30)] dX10_minute_101 rfl (inc_e (by decide) ex30) (by decide) rfl rfl ?_
  refine o_goto K 54 dX10_minute_104 (by decide) ?_
  exact ih54 a0 x30 M hf
def f_X10_minute_l54 : Nat → Int32 → Int32 → Mem → Option (Int32 × Mem)
  | 0, _, _, _ => none
  | n + 1, a0, a1, M => if 8 ≤ a1 then (rd M 1 1460 2 fun x16 => wr M 1 1460 2 (x16 + 1) fun M19 => some (a0, M19)) else bd (f_X10_at0 M a1 (3 : Int32)) fun r20 => if r20 = 1 then (rd M 5 9 a1 fun x22 => bd2 (f_X10_gustOf M a1) fun r24 M25 => if x22 ≤ r24 then (f_X10_minute_j101 (f_X10_minute_l54 n) a0 a1 M25) else wr M25 1 1460 (((6 : Int32) + ((4 : Int32) * a1)) + 3) 0 fun M28 => nm (a0 + 1 : Int32) fun x29 => f_X10_minute_j101 (f_X10_minute_l54 n) x29 a1 M28) else f_X10_minute_j101 (f_X10_minute_l54 n) a0 a1 M
set_option maxHeartbeats 4000000 in
set_option maxRecDepth 100000 in
theorem t_X10_minute_l54 {x : En} {E : Amd} {D : va_G} {ca : Nat → ClassId} {h : Nat → Nat} (K : Kx x E D (tysOf ca) h (LaM ca h) RX10 cX10_minute 3 5 114) {r0 : Int32} {Mo : Mem} (hR : Rt x D h (LaM ca h) (some .int) (some (.int r0)) Mo) : ∀ (n : Nat) (a0 : Int32) (a1 : Int32) (M : Mem), f_X10_minute_l54 n a0 a1 M = some (r0, Mo) → Go x D (tysOf ca) h (LaM ca h) 3 M 54 [some (.ref (h 0)), some (.int a0), some (.int a1)] [] := by
  intro n
  induction n with
  | zero =>
    intro a0 a1 M hf
    cases hf
  | succ n ih =>
    intro a0 a1 M hf
    rw [f_X10_minute_l54] at hf
    refine o_iload_n K 2 dX10_minute_54 rfl rfl ?_
    refine o_bipush K 8 dX10_minute_55 (by decide) ?_
    refine o_icmp_ge K 107 dX10_minute_57 (by decide) (fun c15 => ?_) (fun c15 => ?_)
    · have hf := ip c15 hf
      refine o_aload_n K 0 dX10_minute_107 rfl rfl ?_
      refine gM_9 K dX10_minute_108 ?_
      refine o_iconst K 2 dX10_minute_111 (by decide) ?_
      refine o_dup2 K dX10_minute_112 rfl rfl ?_
      obtain ⟨g17, x16, ex16, hf⟩ := rd_e hf
      refine lM_1 K g17 dX10_minute_113 ?_
      refine o_nmi ex16 ?_
      refine o_iconst K 1 dX10_minute_114 (by decide) ?_
      refine o_iadd K dX10_minute_115 ?_
      obtain ⟨g18, M19, eM19, hf⟩ := wr_e hf
      refine sM_1 K g18 dX10_minute_116 ?_
      refine o_nmM eM19 ?_
      refine o_iload_n K 1 dX10_minute_117 rfl rfl ?_
      exact e_iret K hf hR dX10_minute_118
    · have hf := im c15 hf
      refine o_aload_n K 0 dX10_minute_60 rfl rfl ?_
      refine o_iload_n K 2 dX10_minute_61 rfl rfl ?_
      refine o_iconst K 3 dX10_minute_62 (by decide) ?_
      obtain ⟨r20, er20, hf⟩ := bd_e hf
      refine o_callV K [.int a1, .int 3] (k_X10_at0 x.2.1 E D ca h M a1 (3 : Int32) er20) s_X10_116 (ltM (by decide)) rfl rfl rfl rfl ⟨by decide, by decide⟩ (Nat.le_of_ble_eq_true rfl) _ rfl dX10_minute_63 ?_
      show Go x D (tysOf ca) h (LaM ca h) 3 M 66 [some (.ref (h 0)), some (.int a0), some (.int a1)] [.int r20]
      refine o_iconst K 1 dX10_minute_66 (by decide) ?_
      refine o_icmp_ne K 101 dX10_minute_67 (by decide) (fun c21 => ?_) (fun c21 => ?_)
      · have hf := im c21 hf
        exact t_X10_minute_j101 K hR ih a0 a1 M hf
      · have hf := ip c21 hf
        refine o_aload_n K 0 dX10_minute_70 rfl rfl ?_
        refine gM_22 K dX10_minute_71 ?_
        refine o_iload_n K 2 dX10_minute_74 rfl rfl ?_
        obtain ⟨g23, x22, ex22, hf⟩ := rd_e hf
        refine lM_5 K g23 dX10_minute_75 ?_
        refine o_nmi ex22 ?_
        refine o_aload_n K 0 dX10_minute_76 rfl rfl ?_
        refine o_iload_n K 2 dX10_minute_77 rfl rfl ?_
        obtain ⟨r24, M25, er24, hf⟩ := bd2_e hf
        refine o_callV K [.int a1] (k_X10_gustOf x.2.1 E D ca h M a1 er24) s_X10_158 (ltM (by decide)) rfl rfl rfl rfl ⟨by decide, by decide⟩ (Nat.le_of_ble_eq_true rfl) _ rfl dX10_minute_78 ?_
        show Go x D (tysOf ca) h (LaM ca h) 3 M25 81 [some (.ref (h 0)), some (.int a0), some (.int a1)] [.int r24, .int x22]
        refine o_icmp_le K 101 dX10_minute_81 (by decide) (fun c26 => ?_) (fun c26 => ?_)
        · have hf := ip c26 hf
          exact t_X10_minute_j101 K hR ih a0 a1 M25 hf
        · have hf := im c26 hf
          refine o_aload_n K 0 dX10_minute_84 rfl rfl ?_
          refine gM_9 K dX10_minute_85 ?_
          refine o_bipush K 6 dX10_minute_88 (by decide) ?_
          refine o_iconst K 4 dX10_minute_90 (by decide) ?_
          refine o_iload_n K 2 dX10_minute_91 rfl rfl ?_
          refine o_imul K dX10_minute_92 ?_
          refine o_iadd K dX10_minute_93 ?_
          refine o_iconst K 3 dX10_minute_94 (by decide) ?_
          refine o_iadd K dX10_minute_95 ?_
          refine o_iconst K 0 dX10_minute_96 (by decide) ?_
          obtain ⟨g27, M28, eM28, hf⟩ := wr_e hf
          refine sM_1 K g27 dX10_minute_97 ?_
          refine o_nmM eM28 ?_
          obtain ⟨x29, ex29, hf⟩ := nm_o hf
          refine o_iinc K 1 x29 [some (.ref (h 0)), some (.int x29), some (.int a1)] dX10_minute_98 rfl (inc_e (by decide) ex29) (by decide) rfl rfl ?_
          exact t_X10_minute_j101 K hR ih x29 a1 M28 hf
def f_X10_minute_l6 : Nat → Int32 → Mem → Option (Int32 × Mem)
  | 0, _, _ => none
  | n + 1, a0, M => if 8 ≤ a0 then (bd (f_X10_carries M) fun M5 => bd (f_X10_blows M5) fun M7 => f_X10_minute_l54 FU (0 : Int32) (0 : Int32) M7) else bd (f_X10_at0 M a0 (2 : Int32)) fun r8 => wr M 6 8 a0 r8 fun M10 => bd (f_X10_at0 M10 a0 (0 : Int32)) fun r11 => wr M10 7 8 a0 r11 fun M13 => nm (a0 + 1 : Int32) fun x14 => f_X10_minute_l6 n x14 M13
set_option maxHeartbeats 4000000 in
set_option maxRecDepth 100000 in
theorem t_X10_minute_l6 {x : En} {E : Amd} {D : va_G} {ca : Nat → ClassId} {h : Nat → Nat} (K : Kx x E D (tysOf ca) h (LaM ca h) RX10 cX10_minute 3 5 114) {r0 : Int32} {Mo : Mem} (hR : Rt x D h (LaM ca h) (some .int) (some (.int r0)) Mo) : ∀ (n : Nat) (a0 : Int32) (M : Mem), f_X10_minute_l6 n a0 M = some (r0, Mo) → Go x D (tysOf ca) h (LaM ca h) 3 M 6 [some (.ref (h 0)), some (.int a0), none] [] := by
  intro n
  induction n with
  | zero =>
    intro a0 M hf
    cases hf
  | succ n ih =>
    intro a0 M hf
    rw [f_X10_minute_l6] at hf
    refine o_iload_n K 1 dX10_minute_6 rfl rfl ?_
    refine o_bipush K 8 dX10_minute_7 (by decide) ?_
    refine o_icmp_ge K 42 dX10_minute_9 (by decide) (fun c3 => ?_) (fun c3 => ?_)
    · have hf := ip c3 hf
      refine o_aload_n K 0 dX10_minute_42 rfl rfl ?_
      obtain ⟨M5, er4, hf⟩ := bd_e hf
      refine o_callV K [] (k_X10_carries x.2.1 E D ca h M er4) s_X10_152 (ltM (by decide)) rfl rfl rfl rfl ⟨by decide, by decide⟩ (Nat.le_of_ble_eq_true rfl) _ rfl dX10_minute_43 ?_
      show Go x D (tysOf ca) h (LaM ca h) 3 M5 46 [some (.ref (h 0)), some (.int a0), none] []
      refine o_aload_n K 0 dX10_minute_46 rfl rfl ?_
      obtain ⟨M7, er6, hf⟩ := bd_e hf
      refine o_callV K [] (k_X10_blows x.2.1 E D ca h M5 er6) s_X10_155 (ltM (by decide)) rfl rfl rfl rfl ⟨by decide, by decide⟩ (Nat.le_of_ble_eq_true rfl) _ rfl dX10_minute_47 ?_
      show Go x D (tysOf ca) h (LaM ca h) 3 M7 50 [some (.ref (h 0)), some (.int a0), none] []
      refine o_iconst K 0 dX10_minute_50 (by decide) ?_
      refine o_istore_n K 1 [some (.ref (h 0)), some (.int 0), none] dX10_minute_51 rfl (by decide) rfl rfl ?_
      refine o_iconst K 0 dX10_minute_52 (by decide) ?_
      refine o_istore_n K 2 [some (.ref (h 0)), some (.int 0), some (.int 0)] dX10_minute_53 rfl (by decide) rfl rfl ?_
      exact t_X10_minute_l54 K hR FU (0 : Int32) (0 : Int32) M7 hf
    · have hf := im c3 hf
      refine o_aload_n K 0 dX10_minute_12 rfl rfl ?_
      refine gM_25 K dX10_minute_13 ?_
      refine o_iload_n K 1 dX10_minute_16 rfl rfl ?_
      refine o_aload_n K 0 dX10_minute_17 rfl rfl ?_
      refine o_iload_n K 1 dX10_minute_18 rfl rfl ?_
      refine o_iconst K 2 dX10_minute_19 (by decide) ?_
      obtain ⟨r8, er8, hf⟩ := bd_e hf
      refine o_callV K [.int a0, .int 2] (k_X10_at0 x.2.1 E D ca h M a0 (2 : Int32) er8) s_X10_116 (ltM (by decide)) rfl rfl rfl rfl ⟨by decide, by decide⟩ (Nat.le_of_ble_eq_true rfl) _ rfl dX10_minute_20 ?_
      show Go x D (tysOf ca) h (LaM ca h) 3 M 23 [some (.ref (h 0)), some (.int a0), none] [.int r8, .int a0, .ref (h 6)]
      obtain ⟨g9, M10, eM10, hf⟩ := wr_e hf
      refine sM_6 K g9 dX10_minute_23 ?_
      refine o_nmM eM10 ?_
      refine o_aload_n K 0 dX10_minute_24 rfl rfl ?_
      refine gM_28 K dX10_minute_25 ?_
      refine o_iload_n K 1 dX10_minute_28 rfl rfl ?_
      refine o_aload_n K 0 dX10_minute_29 rfl rfl ?_
      refine o_iload_n K 1 dX10_minute_30 rfl rfl ?_
      refine o_iconst K 0 dX10_minute_31 (by decide) ?_
      obtain ⟨r11, er11, hf⟩ := bd_e hf
      refine o_callV K [.int a0, .int 0] (k_X10_at0 x.2.1 E D ca h M10 a0 (0 : Int32) er11) s_X10_116 (ltM (by decide)) rfl rfl rfl rfl ⟨by decide, by decide⟩ (Nat.le_of_ble_eq_true rfl) _ rfl dX10_minute_32 ?_
      show Go x D (tysOf ca) h (LaM ca h) 3 M10 35 [some (.ref (h 0)), some (.int a0), none] [.int r11, .int a0, .ref (h 7)]
      obtain ⟨g12, M13, eM13, hf⟩ := wr_e hf
      refine sM_7 K g12 dX10_minute_35 ?_
      refine o_nmM eM13 ?_
      obtain ⟨x14, ex14, hf⟩ := nm_o hf
      refine o_iinc K 1 x14 [some (.ref (h 0)), some (.int x14), none] dX10_minute_36 rfl (inc_e (by decide) ex14) (by decide) rfl rfl ?_
      refine o_goto K 6 dX10_minute_39 (by decide) ?_
      exact ih x14 M13 hf
def f_X10_minute (M : Mem) : Option (Int32 × Mem) := bd (f_X10_findFlows M) fun M2 => f_X10_minute_l6 FU (0 : Int32) M2
set_option maxHeartbeats 4000000 in
set_option maxRecDepth 100000 in
theorem k_X10_minute (l : Launch) (E : Amd) (D : va_G) (ca : Nat → ClassId) (h : Nat → Nat) (M : Mem) {r0 : Int32} {Mo : Mem} (hf : f_X10_minute M = some (r0, Mo)) : Ct l E D (tysOf ca) h (LaM ca h) yX10_minute cX10_minute 3 (some .int) 5 114 [.ref (h 0)] M (some (.int r0)) Mo := by
  refine Ct.mk [some (.ref (h 0)), none, none] (by decide) (Nat.le_of_ble_eq_true rfl) (argsV [.ref (h 0)] 2 rfl rfl) ?_
  intro x hx0 K hR
  have K : Kx x E D (tysOf ca) h (LaM ca h) RX10 cX10_minute 3 5 114 := K
  rw [f_X10_minute] at hf
  refine o_aload_n K 0 dX10_minute_0 rfl rfl ?_
  obtain ⟨M2, er1, hf⟩ := bd_e hf
  refine o_callV K [] (k_X10_findFlows x.2.1 E D ca h M er1) s_X10_144 (ltM (by decide)) rfl rfl rfl rfl ⟨by decide, by decide⟩ (Nat.le_of_ble_eq_true rfl) _ rfl dX10_minute_1 ?_
  show Go x D (tysOf ca) h (LaM ca h) 3 M2 4 [some (.ref (h 0)), none, none] []
  refine o_iconst K 0 dX10_minute_4 (by decide) ?_
  refine o_istore_n K 1 [some (.ref (h 0)), some (.int 0), none] dX10_minute_5 rfl (by decide) rfl rfl ?_
  exact t_X10_minute_l6 K hR FU (0 : Int32) M2 hf
def f_X10_goesOn_l4 : Nat → Int32 → Int32 → Int32 → Mem → Option (Int32 × Mem)
  | 0, _, _, _, _ => none
  | n + 1, a0, a1, a2, M => if a0 ≤ a2 then (some (a1, M)) else bd2 (f_X10_minute M) fun r2 M3 => nm (a1 + r2 : Int32) fun x4 => nm (a2 + 1 : Int32) fun x5 => f_X10_goesOn_l4 n a0 x4 x5 M3
set_option maxHeartbeats 4000000 in
set_option maxRecDepth 100000 in
theorem t_X10_goesOn_l4 {x : En} {E : Amd} {D : va_G} {ca : Nat → ClassId} {h : Nat → Nat} (K : Kx x E D (tysOf ca) h (LaM ca h) RX10 cX10_goesOn 4 6 136) {r0 : Int32} {Mo : Mem} (hR : Rt x D h (LaM ca h) (some .int) (some (.int r0)) Mo) : ∀ (n : Nat) (a0 : Int32) (a1 : Int32) (a2 : Int32) (M : Mem), f_X10_goesOn_l4 n a0 a1 a2 M = some (r0, Mo) → Go x D (tysOf ca) h (LaM ca h) 4 M 4 [some (.ref (h 0)), some (.int a0), some (.int a1), some (.int a2)] [] := by
  intro n
  induction n with
  | zero =>
    intro a0 a1 a2 M hf
    cases hf
  | succ n ih =>
    intro a0 a1 a2 M hf
    rw [f_X10_goesOn_l4] at hf
    refine o_iload_n K 3 dX10_goesOn_4 rfl rfl ?_
    refine o_iload_n K 1 dX10_goesOn_5 rfl rfl ?_
    refine o_icmp_ge K 22 dX10_goesOn_6 (by decide) (fun c1 => ?_) (fun c1 => ?_)
    · have hf := ip c1 hf
      refine o_iload_n K 2 dX10_goesOn_22 rfl rfl ?_
      exact e_iret K hf hR dX10_goesOn_23
    · have hf := im c1 hf
      refine o_iload_n K 2 dX10_goesOn_9 rfl rfl ?_
      refine o_aload_n K 0 dX10_goesOn_10 rfl rfl ?_
      obtain ⟨r2, M3, er2, hf⟩ := bd2_e hf
      refine o_callV K [] (k_X10_minute x.2.1 E D ca h M er2) s_X10_161 (ltM (by decide)) rfl rfl rfl rfl ⟨by decide, by decide⟩ (Nat.le_of_ble_eq_true rfl) _ rfl dX10_goesOn_11 ?_
      show Go x D (tysOf ca) h (LaM ca h) 4 M3 14 [some (.ref (h 0)), some (.int a0), some (.int a1), some (.int a2)] [.int r2, .int a1]
      refine o_iadd K dX10_goesOn_14 ?_
      obtain ⟨x4, ex4, hf⟩ := nm_o hf
      refine o_nmi ex4 ?_
      refine o_istore_n K 2 [some (.ref (h 0)), some (.int a0), some (.int x4), some (.int a2)] dX10_goesOn_15 rfl (by decide) rfl rfl ?_
      obtain ⟨x5, ex5, hf⟩ := nm_o hf
      refine o_iinc K 3 x5 [some (.ref (h 0)), some (.int a0), some (.int x4), some (.int x5)] dX10_goesOn_16 rfl (inc_e (by decide) ex5) (by decide) rfl rfl ?_
      refine o_goto K 4 dX10_goesOn_19 (by decide) ?_
      exact ih a0 x4 x5 M3 hf
def f_X10_goesOn (M : Mem) (a1 : Int32) : Option (Int32 × Mem) := f_X10_goesOn_l4 FU a1 (0 : Int32) (0 : Int32) M
set_option maxHeartbeats 4000000 in
set_option maxRecDepth 100000 in
theorem k_X10_goesOn (l : Launch) (E : Amd) (D : va_G) (ca : Nat → ClassId) (h : Nat → Nat) (M : Mem) (a1 : Int32) {r0 : Int32} {Mo : Mem} (hf : f_X10_goesOn M a1 = some (r0, Mo)) : Ct l E D (tysOf ca) h (LaM ca h) yX10_goesOn cX10_goesOn 4 (some .int) 6 136 [.ref (h 0), .int a1] M (some (.int r0)) Mo := by
  refine Ct.mk [some (.ref (h 0)), some (.int a1), none, none] (by decide) (Nat.le_of_ble_eq_true rfl) (argsV [.ref (h 0), .int a1] 2 rfl rfl) ?_
  intro x hx0 K hR
  have K : Kx x E D (tysOf ca) h (LaM ca h) RX10 cX10_goesOn 4 6 136 := K
  rw [f_X10_goesOn] at hf
  refine o_iconst K 0 dX10_goesOn_0 (by decide) ?_
  refine o_istore_n K 2 [some (.ref (h 0)), some (.int a1), some (.int 0), none] dX10_goesOn_1 rfl (by decide) rfl rfl ?_
  refine o_iconst K 0 dX10_goesOn_2 (by decide) ?_
  refine o_istore_n K 3 [some (.ref (h 0)), some (.int a1), some (.int 0), some (.int 0)] dX10_goesOn_3 rfl (by decide) rfl rfl ?_
  exact t_X10_goesOn_l4 K hR FU a1 (0 : Int32) (0 : Int32) M hf
def f_X10_run (M : Mem) (a1 : Int32) : Option (Int32 × Mem) := bd (f_X10_in a1 (1 : Int32) (100 : Int32)) fun r1 => if r1 = 0 then (some (((-1000000001) : Int32), M)) else rd M 1 1460 2 fun x3 => bd (f_X10_within ((9999 : Int32) - x3) (0 : Int32) a1) fun r5 => bd2 (f_X10_goesOn M r5) fun r6 M7 => some (r6, M7)
set_option maxHeartbeats 4000000 in
set_option maxRecDepth 100000 in
theorem k_X10_run (l : Launch) (E : Amd) (D : va_G) (ca : Nat → ClassId) (h : Nat → Nat) (M : Mem) (a1 : Int32) {r0 : Int32} {Mo : Mem} (hf : f_X10_run M a1 = some (r0, Mo)) : Ct l E D (tysOf ca) h (LaM ca h) yX10_run cX10_run 2 (some .int) 7 159 [.ref (h 0), .int a1] M (some (.int r0)) Mo := by
  refine Ct.mk [some (.ref (h 0)), some (.int a1)] (by decide) (Nat.le_of_ble_eq_true rfl) (argsV [.ref (h 0), .int a1] 0 rfl rfl) ?_
  intro x hx0 K hR
  have K : Kx x E D (tysOf ca) h (LaM ca h) RX10 cX10_run 2 7 159 := K
  rw [f_X10_run] at hf
  refine o_iload_n K 1 dX10_run_0 rfl rfl ?_
  refine o_iconst K 1 dX10_run_1 (by decide) ?_
  refine o_bipush K 100 dX10_run_2 (by decide) ?_
  obtain ⟨r1, er1, hf⟩ := bd_e hf
  refine o_callS K [.int a1, .int 1, .int 100] (k_X10_in x.2.1 E D ca h M a1 (1 : Int32) (100 : Int32) er1) s_X10_87 rfl ⟨by decide, by decide⟩ (Nat.le_of_ble_eq_true rfl) _ rfl dX10_run_4 ?_
  show Go x D (tysOf ca) h (LaM ca h) 2 M 7 [some (.ref (h 0)), some (.int a1)] [.int r1]
  refine o_if_eq K 32 dX10_run_7 (by decide) (fun c2 => ?_) (fun c2 => ?_)
  · have hf := ip c2 hf
    refine o_ldc K q1102 dX10_run_32 ?_
    exact e_iret K hf hR dX10_run_34
  · have hf := im c2 hf
    refine o_aload_n K 0 dX10_run_10 rfl rfl ?_
    refine o_sipush K 9999 dX10_run_11 (by decide) ?_
    refine o_aload_n K 0 dX10_run_14 rfl rfl ?_
    refine gM_9 K dX10_run_15 ?_
    refine o_iconst K 2 dX10_run_18 (by decide) ?_
    obtain ⟨g4, x3, ex3, hf⟩ := rd_e hf
    refine lM_1 K g4 dX10_run_19 ?_
    refine o_nmi ex3 ?_
    refine o_isub K dX10_run_20 ?_
    refine o_iconst K 0 dX10_run_21 (by decide) ?_
    refine o_iload_n K 1 dX10_run_22 rfl rfl ?_
    obtain ⟨r5, er5, hf⟩ := bd_e hf
    refine o_callS K [.int ((9999 : Int32) - x3), .int 0, .int a1] (k_X10_within x.2.1 E D ca h M ((9999 : Int32) - x3) (0 : Int32) a1 er5) s_X10_112 rfl ⟨by decide, by decide⟩ (Nat.le_of_ble_eq_true rfl) _ rfl dX10_run_23 ?_
    show Go x D (tysOf ca) h (LaM ca h) 2 M 26 [some (.ref (h 0)), some (.int a1)] [.int r5, .ref (h 0)]
    obtain ⟨r6, M7, er6, hf⟩ := bd2_e hf
    refine o_callV K [.int r5] (k_X10_goesOn x.2.1 E D ca h M r5 er6) s_X10_164 (ltM (by decide)) rfl rfl rfl rfl ⟨by decide, by decide⟩ (Nat.le_of_ble_eq_true rfl) _ rfl dX10_run_26 ?_
    show Go x D (tysOf ca) h (LaM ca h) 2 M7 29 [some (.ref (h 0)), some (.int a1)] [.int r6]
    refine o_goto K 34 dX10_run_29 (by decide) ?_
    exact e_iret K hf hR dX10_run_34
def f_X10_footman_j61 (rec17 : Int32 → Int32 → Int32 → Mem → Option (Int32 × Mem)) (a0 : Int32) (a1 : Int32) (a2 : Int32) (M : Mem) : Option (Int32 × Mem) := nm (a2 + 1 : Int32) fun x13 => rec17 a0 a1 x13 M
set_option maxHeartbeats 4000000 in
set_option maxRecDepth 100000 in
theorem t_X10_footman_j61 {x : En} {E : Amd} {D : va_G} {ca : Nat → ClassId} {h : Nat → Nat} (K : Kx x E D (tysOf ca) h (LaM ca h) RX10 cX10_footman 4 1 22) {r0 : Int32} {Mo : Mem} (hR : Rt x D h (LaM ca h) (some .int) (some (.int r0)) Mo) {rec17 : Int32 → Int32 → Int32 → Mem → Option (Int32 × Mem)} (ih17 : ∀ (w0 : Int32) (w1 : Int32) (w2 : Int32) (M : Mem), rec17 w0 w1 w2 M = some (r0, Mo) → Go x D (tysOf ca) h (LaM ca h) 4 M 17 [some (.ref (h 0)), some (.int w0), some (.int w1), some (.int w2)] []) (a0 : Int32) (a1 : Int32) (a2 : Int32) (M : Mem) (hf : f_X10_footman_j61 rec17 a0 a1 a2 M = some (r0, Mo)) : Go x D (tysOf ca) h (LaM ca h) 4 M 61 [some (.ref (h 0)), some (.int a0), some (.int a1), some (.int a2)] [] := by
  rw [f_X10_footman_j61] at hf
  obtain ⟨x13, ex13, hf⟩ := nm_o hf
  refine o_iinc K 3 x13 [some (.ref (h 0)), some (.int a0), some (.int a1), some (.int x13)] dX10_footman_61 rfl (inc_e (by decide) ex13) (by decide) rfl rfl ?_
  refine o_goto K 17 dX10_footman_64 (by decide) ?_
  exact ih17 a0 a1 x13 M hf
def f_X10_footman_l17 : Nat → Int32 → Int32 → Int32 → Mem → Option (Int32 × Mem)
  | 0, _, _, _, _ => none
  | n + 1, a0, a1, a2, M => rd M 1 1460 1 fun x3 => if x3 ≤ a2 then (some (a1, M)) else bd2 (f_X10_draw M) fun r6 M7 => if a0 ≤ (r6 - r6 / 100 * 100) then (f_X10_footman_j61 (f_X10_footman_l17 n) a0 a1 a2 M7) else bd (f_X10_of M7 a2 (4 : Int32)) fun r9 => nm (a1 + r9 : Int32) fun x10 => wr M7 1 1460 (((38 : Int32) + ((5 : Int32) * a2)) + 4) 0 fun M12 => f_X10_footman_j61 (f_X10_footman_l17 n) a0 x10 a2 M12
set_option maxHeartbeats 4000000 in
set_option maxRecDepth 100000 in
theorem t_X10_footman_l17 {x : En} {E : Amd} {D : va_G} {ca : Nat → ClassId} {h : Nat → Nat} (K : Kx x E D (tysOf ca) h (LaM ca h) RX10 cX10_footman 4 1 22) {r0 : Int32} {Mo : Mem} (hR : Rt x D h (LaM ca h) (some .int) (some (.int r0)) Mo) : ∀ (n : Nat) (a0 : Int32) (a1 : Int32) (a2 : Int32) (M : Mem), f_X10_footman_l17 n a0 a1 a2 M = some (r0, Mo) → Go x D (tysOf ca) h (LaM ca h) 4 M 17 [some (.ref (h 0)), some (.int a0), some (.int a1), some (.int a2)] [] := by
  intro n
  induction n with
  | zero =>
    intro a0 a1 a2 M hf
    cases hf
  | succ n ih =>
    intro a0 a1 a2 M hf
    rw [f_X10_footman_l17] at hf
    refine o_iload_n K 3 dX10_footman_17 rfl rfl ?_
    refine o_aload_n K 0 dX10_footman_18 rfl rfl ?_
    refine gM_9 K dX10_footman_19 ?_
    refine o_iconst K 1 dX10_footman_22 (by decide) ?_
    obtain ⟨g4, x3, ex3, hf⟩ := rd_e hf
    refine lM_1 K g4 dX10_footman_23 ?_
    refine o_nmi ex3 ?_
    refine o_icmp_ge K 67 dX10_footman_24 (by decide) (fun c5 => ?_) (fun c5 => ?_)
    · have hf := ip c5 hf
      refine o_iload_n K 2 dX10_footman_67 rfl rfl ?_
      exact e_iret K hf hR dX10_footman_68
    · have hf := im c5 hf
      refine o_aload_n K 0 dX10_footman_27 rfl rfl ?_
      obtain ⟨r6, M7, er6, hf⟩ := bd2_e hf
      refine o_callV K [] (k_X10_draw x.2.1 E D ca h M er6) s_X10_148 (ltM (by decide)) rfl rfl rfl rfl ⟨by decide, by decide⟩ (Nat.le_of_ble_eq_true rfl) _ rfl dX10_footman_28 ?_
      show Go x D (tysOf ca) h (LaM ca h) 4 M7 31 [some (.ref (h 0)), some (.int a0), some (.int a1), some (.int a2)] [.int r6]
      refine o_bipush K 100 dX10_footman_31 (by decide) ?_
      refine o_irem K dX10_footman_33 (by decide) ?_
      refine o_iload_n K 1 dX10_footman_34 rfl rfl ?_
      refine o_icmp_ge K 61 dX10_footman_35 (by decide) (fun c8 => ?_) (fun c8 => ?_)
      · have hf := ip c8 hf
        exact t_X10_footman_j61 K hR ih a0 a1 a2 M7 hf
      · have hf := im c8 hf
        refine o_iload_n K 2 dX10_footman_38 rfl rfl ?_
        refine o_aload_n K 0 dX10_footman_39 rfl rfl ?_
        refine o_iload_n K 3 dX10_footman_40 rfl rfl ?_
        refine o_iconst K 4 dX10_footman_41 (by decide) ?_
        obtain ⟨r9, er9, hf⟩ := bd_e hf
        refine o_callV K [.int a2, .int 4] (k_X10_of x.2.1 E D ca h M7 a2 (4 : Int32) er9) s_X10_101 (ltM (by decide)) rfl rfl rfl rfl ⟨by decide, by decide⟩ (Nat.le_of_ble_eq_true rfl) _ rfl dX10_footman_42 ?_
        show Go x D (tysOf ca) h (LaM ca h) 4 M7 45 [some (.ref (h 0)), some (.int a0), some (.int a1), some (.int a2)] [.int r9, .int a1]
        refine o_iadd K dX10_footman_45 ?_
        obtain ⟨x10, ex10, hf⟩ := nm_o hf
        refine o_nmi ex10 ?_
        refine o_istore_n K 2 [some (.ref (h 0)), some (.int a0), some (.int x10), some (.int a2)] dX10_footman_46 rfl (by decide) rfl rfl ?_
        refine o_aload_n K 0 dX10_footman_47 rfl rfl ?_
        refine gM_9 K dX10_footman_48 ?_
        refine o_bipush K 38 dX10_footman_51 (by decide) ?_
        refine o_iconst K 5 dX10_footman_53 (by decide) ?_
        refine o_iload_n K 3 dX10_footman_54 rfl rfl ?_
        refine o_imul K dX10_footman_55 ?_
        refine o_iadd K dX10_footman_56 ?_
        refine o_iconst K 4 dX10_footman_57 (by decide) ?_
        refine o_iadd K dX10_footman_58 ?_
        refine o_iconst K 0 dX10_footman_59 (by decide) ?_
        obtain ⟨g11, M12, eM12, hf⟩ := wr_e hf
        refine sM_1 K g11 dX10_footman_60 ?_
        refine o_nmM eM12 ?_
        exact t_X10_footman_j61 K hR ih a0 x10 a2 M12 hf
def f_X10_footman (M : Mem) (a1 : Int32) : Option (Int32 × Mem) := bd (f_X10_in a1 (0 : Int32) (100 : Int32)) fun r1 => if r1 = 0 then (some (((-1000000001) : Int32), M)) else f_X10_footman_l17 FU a1 (0 : Int32) (0 : Int32) M
set_option maxHeartbeats 4000000 in
set_option maxRecDepth 100000 in
theorem k_X10_footman (l : Launch) (E : Amd) (D : va_G) (ca : Nat → ClassId) (h : Nat → Nat) (M : Mem) (a1 : Int32) {r0 : Int32} {Mo : Mem} (hf : f_X10_footman M a1 = some (r0, Mo)) : Ct l E D (tysOf ca) h (LaM ca h) yX10_footman cX10_footman 4 (some .int) 1 22 [.ref (h 0), .int a1] M (some (.int r0)) Mo := by
  refine Ct.mk [some (.ref (h 0)), some (.int a1), none, none] (by decide) (Nat.le_of_ble_eq_true rfl) (argsV [.ref (h 0), .int a1] 2 rfl rfl) ?_
  intro x hx0 K hR
  have K : Kx x E D (tysOf ca) h (LaM ca h) RX10 cX10_footman 4 1 22 := K
  rw [f_X10_footman] at hf
  refine o_iload_n K 1 dX10_footman_0 rfl rfl ?_
  refine o_iconst K 0 dX10_footman_1 (by decide) ?_
  refine o_bipush K 100 dX10_footman_2 (by decide) ?_
  obtain ⟨r1, er1, hf⟩ := bd_e hf
  refine o_callS K [.int a1, .int 0, .int 100] (k_X10_in x.2.1 E D ca h M a1 (0 : Int32) (100 : Int32) er1) s_X10_87 rfl ⟨by decide, by decide⟩ (Nat.le_of_ble_eq_true rfl) _ rfl dX10_footman_4 ?_
  show Go x D (tysOf ca) h (LaM ca h) 4 M 7 [some (.ref (h 0)), some (.int a1), none, none] [.int r1]
  refine o_if_ne K 13 dX10_footman_7 (by decide) (fun c2 => ?_) (fun c2 => ?_)
  · have hf := im c2 hf
    refine o_iconst K 0 dX10_footman_13 (by decide) ?_
    refine o_istore_n K 2 [some (.ref (h 0)), some (.int a1), some (.int 0), none] dX10_footman_14 rfl (by decide) rfl rfl ?_
    refine o_iconst K 0 dX10_footman_15 (by decide) ?_
    refine o_istore_n K 3 [some (.ref (h 0)), some (.int a1), some (.int 0), some (.int 0)] dX10_footman_16 rfl (by decide) rfl rfl ?_
    exact t_X10_footman_l17 K hR FU a1 (0 : Int32) (0 : Int32) M hf
  · have hf := ip c2 hf
    refine o_ldc K q1102 dX10_footman_10 ?_
    exact e_iret K hf hR dX10_footman_12
def f_X10_sumOf_l4 : Nat → Int32 → Int32 → Int32 → Mem → Option Int32
  | 0, _, _, _, _ => none
  | n + 1, a0, a1, a2, M => if 8 ≤ a2 then (some (a1)) else bd (f_X10_at0 M a2 a0) fun r2 => nm (a1 + r2 : Int32) fun x3 => nm (a2 + 1 : Int32) fun x4 => f_X10_sumOf_l4 n a0 x3 x4 M
set_option maxHeartbeats 4000000 in
set_option maxRecDepth 100000 in
theorem t_X10_sumOf_l4 {x : En} {E : Amd} {D : va_G} {ca : Nat → ClassId} {h : Nat → Nat} {M : Mem} (K : Kx x E D (tysOf ca) h (LaM ca h) RX10 cX10_sumOf 4 1 22) {r0 : Int32} (hR : Rt x D h (LaM ca h) (some .int) (some (.int r0)) M) : ∀ (n : Nat) (a0 : Int32) (a1 : Int32) (a2 : Int32), f_X10_sumOf_l4 n a0 a1 a2 M = some r0 → Go x D (tysOf ca) h (LaM ca h) 4 M 4 [some (.ref (h 0)), some (.int a0), some (.int a1), some (.int a2)] [] := by
  intro n
  induction n with
  | zero =>
    intro a0 a1 a2 hf
    cases hf
  | succ n ih =>
    intro a0 a1 a2 hf
    rw [f_X10_sumOf_l4] at hf
    refine o_iload_n K 3 dX10_sumOf_4 rfl rfl ?_
    refine o_bipush K 8 dX10_sumOf_5 (by decide) ?_
    refine o_icmp_ge K 25 dX10_sumOf_7 (by decide) (fun c1 => ?_) (fun c1 => ?_)
    · have hf := ip c1 hf
      refine o_iload_n K 2 dX10_sumOf_25 rfl rfl ?_
      exact r_iret K hf hR dX10_sumOf_26
    · have hf := im c1 hf
      refine o_iload_n K 2 dX10_sumOf_10 rfl rfl ?_
      refine o_aload_n K 0 dX10_sumOf_11 rfl rfl ?_
      refine o_iload_n K 3 dX10_sumOf_12 rfl rfl ?_
      refine o_iload_n K 1 dX10_sumOf_13 rfl rfl ?_
      obtain ⟨r2, er2, hf⟩ := bd_e hf
      refine o_callV K [.int a2, .int a0] (k_X10_at0 x.2.1 E D ca h M a2 a0 er2) s_X10_116 (ltM (by decide)) rfl rfl rfl rfl ⟨by decide, by decide⟩ (Nat.le_of_ble_eq_true rfl) _ rfl dX10_sumOf_14 ?_
      show Go x D (tysOf ca) h (LaM ca h) 4 M 17 [some (.ref (h 0)), some (.int a0), some (.int a1), some (.int a2)] [.int r2, .int a1]
      refine o_iadd K dX10_sumOf_17 ?_
      obtain ⟨x3, ex3, hf⟩ := nm_o hf
      refine o_nmi ex3 ?_
      refine o_istore_n K 2 [some (.ref (h 0)), some (.int a0), some (.int x3), some (.int a2)] dX10_sumOf_18 rfl (by decide) rfl rfl ?_
      obtain ⟨x4, ex4, hf⟩ := nm_o hf
      refine o_iinc K 3 x4 [some (.ref (h 0)), some (.int a0), some (.int x3), some (.int x4)] dX10_sumOf_19 rfl (inc_e (by decide) ex4) (by decide) rfl rfl ?_
      refine o_goto K 4 dX10_sumOf_22 (by decide) ?_
      exact ih a0 x3 x4 hf
def f_X10_sumOf (M : Mem) (a1 : Int32) : Option Int32 := f_X10_sumOf_l4 FU a1 (0 : Int32) (0 : Int32) M
set_option maxHeartbeats 4000000 in
set_option maxRecDepth 100000 in
theorem k_X10_sumOf (l : Launch) (E : Amd) (D : va_G) (ca : Nat → ClassId) (h : Nat → Nat) (M : Mem) (a1 : Int32) {r0 : Int32} (hf : f_X10_sumOf M a1 = some r0) : Ct l E D (tysOf ca) h (LaM ca h) yX10_sumOf cX10_sumOf 4 (some .int) 1 22 [.ref (h 0), .int a1] M (some (.int r0)) M := by
  refine Ct.mk [some (.ref (h 0)), some (.int a1), none, none] (by decide) (Nat.le_of_ble_eq_true rfl) (argsV [.ref (h 0), .int a1] 2 rfl rfl) ?_
  intro x hx0 K hR
  have K : Kx x E D (tysOf ca) h (LaM ca h) RX10 cX10_sumOf 4 1 22 := K
  rw [f_X10_sumOf] at hf
  refine o_iconst K 0 dX10_sumOf_0 (by decide) ?_
  refine o_istore_n K 2 [some (.ref (h 0)), some (.int a1), some (.int 0), none] dX10_sumOf_1 rfl (by decide) rfl rfl ?_
  refine o_iconst K 0 dX10_sumOf_2 (by decide) ?_
  refine o_istore_n K 3 [some (.ref (h 0)), some (.int a1), some (.int 0), some (.int 0)] dX10_sumOf_3 rfl (by decide) rfl rfl ?_
  exact t_X10_sumOf_l4 K hR FU a1 (0 : Int32) (0 : Int32) hf
def f_X10_litSet_l4 : Nat → Int32 → Int32 → Mem → Option Int32
  | 0, _, _, _ => none
  | n + 1, a0, a1, M => if 8 ≤ a1 then (some (a0)) else bd (f_X10_at0 M a1 (3 : Int32)) fun r2 => nm (a0 ||| (r2 <<< (a1 &&& 31)) : Int32) fun x3 => nm (a1 + 1 : Int32) fun x4 => f_X10_litSet_l4 n x3 x4 M
set_option maxHeartbeats 4000000 in
set_option maxRecDepth 100000 in
theorem t_X10_litSet_l4 {x : En} {E : Amd} {D : va_G} {ca : Nat → ClassId} {h : Nat → Nat} {M : Mem} (K : Kx x E D (tysOf ca) h (LaM ca h) RX10 cX10_litSet 3 1 22) {r0 : Int32} (hR : Rt x D h (LaM ca h) (some .int) (some (.int r0)) M) : ∀ (n : Nat) (a0 : Int32) (a1 : Int32), f_X10_litSet_l4 n a0 a1 M = some r0 → Go x D (tysOf ca) h (LaM ca h) 3 M 4 [some (.ref (h 0)), some (.int a0), some (.int a1)] [] := by
  intro n
  induction n with
  | zero =>
    intro a0 a1 hf
    cases hf
  | succ n ih =>
    intro a0 a1 hf
    rw [f_X10_litSet_l4] at hf
    refine o_iload_n K 2 dX10_litSet_4 rfl rfl ?_
    refine o_bipush K 8 dX10_litSet_5 (by decide) ?_
    refine o_icmp_ge K 27 dX10_litSet_7 (by decide) (fun c1 => ?_) (fun c1 => ?_)
    · have hf := ip c1 hf
      refine o_iload_n K 1 dX10_litSet_27 rfl rfl ?_
      exact r_iret K hf hR dX10_litSet_28
    · have hf := im c1 hf
      refine o_iload_n K 1 dX10_litSet_10 rfl rfl ?_
      refine o_aload_n K 0 dX10_litSet_11 rfl rfl ?_
      refine o_iload_n K 2 dX10_litSet_12 rfl rfl ?_
      refine o_iconst K 3 dX10_litSet_13 (by decide) ?_
      obtain ⟨r2, er2, hf⟩ := bd_e hf
      refine o_callV K [.int a1, .int 3] (k_X10_at0 x.2.1 E D ca h M a1 (3 : Int32) er2) s_X10_116 (ltM (by decide)) rfl rfl rfl rfl ⟨by decide, by decide⟩ (Nat.le_of_ble_eq_true rfl) _ rfl dX10_litSet_14 ?_
      show Go x D (tysOf ca) h (LaM ca h) 3 M 17 [some (.ref (h 0)), some (.int a0), some (.int a1)] [.int r2, .int a0]
      refine o_iload_n K 2 dX10_litSet_17 rfl rfl ?_
      refine o_ishl K dX10_litSet_18 ?_
      refine o_ior K dX10_litSet_19 ?_
      obtain ⟨x3, ex3, hf⟩ := nm_o hf
      refine o_nmi ex3 ?_
      refine o_istore_n K 1 [some (.ref (h 0)), some (.int x3), some (.int a1)] dX10_litSet_20 rfl (by decide) rfl rfl ?_
      obtain ⟨x4, ex4, hf⟩ := nm_o hf
      refine o_iinc K 2 x4 [some (.ref (h 0)), some (.int x3), some (.int x4)] dX10_litSet_21 rfl (inc_e (by decide) ex4) (by decide) rfl rfl ?_
      refine o_goto K 4 dX10_litSet_24 (by decide) ?_
      exact ih x3 x4 hf
def f_X10_litSet (M : Mem) : Option Int32 := f_X10_litSet_l4 FU (0 : Int32) (0 : Int32) M
set_option maxHeartbeats 4000000 in
set_option maxRecDepth 100000 in
theorem k_X10_litSet (l : Launch) (E : Amd) (D : va_G) (ca : Nat → ClassId) (h : Nat → Nat) (M : Mem) {r0 : Int32} (hf : f_X10_litSet M = some r0) : Ct l E D (tysOf ca) h (LaM ca h) yX10_litSet cX10_litSet 3 (some .int) 1 22 [.ref (h 0)] M (some (.int r0)) M := by
  refine Ct.mk [some (.ref (h 0)), none, none] (by decide) (Nat.le_of_ble_eq_true rfl) (argsV [.ref (h 0)] 2 rfl rfl) ?_
  intro x hx0 K hR
  have K : Kx x E D (tysOf ca) h (LaM ca h) RX10 cX10_litSet 3 1 22 := K
  rw [f_X10_litSet] at hf
  refine o_iconst K 0 dX10_litSet_0 (by decide) ?_
  refine o_istore_n K 1 [some (.ref (h 0)), some (.int 0), none] dX10_litSet_1 rfl (by decide) rfl rfl ?_
  refine o_iconst K 0 dX10_litSet_2 (by decide) ?_
  refine o_istore_n K 2 [some (.ref (h 0)), some (.int 0), some (.int 0)] dX10_litSet_3 rfl (by decide) rfl rfl ?_
  exact t_X10_litSet_l4 K hR FU (0 : Int32) (0 : Int32) hf
def f_X10_openSet_l4 : Nat → Int32 → Int32 → Mem → Option Int32
  | 0, _, _, _ => none
  | n + 1, a0, a1, M => rd M 1 1460 1 fun x1 => if x1 ≤ a1 then (some (a0)) else bd (f_X10_of M a1 (4 : Int32)) fun r4 => nm (a0 ||| (r4 <<< (a1 &&& 31)) : Int32) fun x5 => nm (a1 + 1 : Int32) fun x6 => f_X10_openSet_l4 n x5 x6 M
set_option maxHeartbeats 4000000 in
set_option maxRecDepth 100000 in
theorem t_X10_openSet_l4 {x : En} {E : Amd} {D : va_G} {ca : Nat → ClassId} {h : Nat → Nat} {M : Mem} (K : Kx x E D (tysOf ca) h (LaM ca h) RX10 cX10_openSet 3 1 22) {r0 : Int32} (hR : Rt x D h (LaM ca h) (some .int) (some (.int r0)) M) : ∀ (n : Nat) (a0 : Int32) (a1 : Int32), f_X10_openSet_l4 n a0 a1 M = some r0 → Go x D (tysOf ca) h (LaM ca h) 3 M 4 [some (.ref (h 0)), some (.int a0), some (.int a1)] [] := by
  intro n
  induction n with
  | zero =>
    intro a0 a1 hf
    cases hf
  | succ n ih =>
    intro a0 a1 hf
    rw [f_X10_openSet_l4] at hf
    refine o_iload_n K 2 dX10_openSet_4 rfl rfl ?_
    refine o_aload_n K 0 dX10_openSet_5 rfl rfl ?_
    refine gM_9 K dX10_openSet_6 ?_
    refine o_iconst K 1 dX10_openSet_9 (by decide) ?_
    obtain ⟨g2, x1, ex1, hf⟩ := rd_e hf
    refine lM_1 K g2 dX10_openSet_10 ?_
    refine o_nmi ex1 ?_
    refine o_icmp_ge K 31 dX10_openSet_11 (by decide) (fun c3 => ?_) (fun c3 => ?_)
    · have hf := ip c3 hf
      refine o_iload_n K 1 dX10_openSet_31 rfl rfl ?_
      exact r_iret K hf hR dX10_openSet_32
    · have hf := im c3 hf
      refine o_iload_n K 1 dX10_openSet_14 rfl rfl ?_
      refine o_aload_n K 0 dX10_openSet_15 rfl rfl ?_
      refine o_iload_n K 2 dX10_openSet_16 rfl rfl ?_
      refine o_iconst K 4 dX10_openSet_17 (by decide) ?_
      obtain ⟨r4, er4, hf⟩ := bd_e hf
      refine o_callV K [.int a1, .int 4] (k_X10_of x.2.1 E D ca h M a1 (4 : Int32) er4) s_X10_101 (ltM (by decide)) rfl rfl rfl rfl ⟨by decide, by decide⟩ (Nat.le_of_ble_eq_true rfl) _ rfl dX10_openSet_18 ?_
      show Go x D (tysOf ca) h (LaM ca h) 3 M 21 [some (.ref (h 0)), some (.int a0), some (.int a1)] [.int r4, .int a0]
      refine o_iload_n K 2 dX10_openSet_21 rfl rfl ?_
      refine o_ishl K dX10_openSet_22 ?_
      refine o_ior K dX10_openSet_23 ?_
      obtain ⟨x5, ex5, hf⟩ := nm_o hf
      refine o_nmi ex5 ?_
      refine o_istore_n K 1 [some (.ref (h 0)), some (.int x5), some (.int a1)] dX10_openSet_24 rfl (by decide) rfl rfl ?_
      obtain ⟨x6, ex6, hf⟩ := nm_o hf
      refine o_iinc K 2 x6 [some (.ref (h 0)), some (.int x5), some (.int x6)] dX10_openSet_25 rfl (inc_e (by decide) ex6) (by decide) rfl rfl ?_
      refine o_goto K 4 dX10_openSet_28 (by decide) ?_
      exact ih x5 x6 hf
def f_X10_openSet (M : Mem) : Option Int32 := f_X10_openSet_l4 FU (0 : Int32) (0 : Int32) M
set_option maxHeartbeats 4000000 in
set_option maxRecDepth 100000 in
theorem k_X10_openSet (l : Launch) (E : Amd) (D : va_G) (ca : Nat → ClassId) (h : Nat → Nat) (M : Mem) {r0 : Int32} (hf : f_X10_openSet M = some r0) : Ct l E D (tysOf ca) h (LaM ca h) yX10_openSet cX10_openSet 3 (some .int) 1 22 [.ref (h 0)] M (some (.int r0)) M := by
  refine Ct.mk [some (.ref (h 0)), none, none] (by decide) (Nat.le_of_ble_eq_true rfl) (argsV [.ref (h 0)] 2 rfl rfl) ?_
  intro x hx0 K hR
  have K : Kx x E D (tysOf ca) h (LaM ca h) RX10 cX10_openSet 3 1 22 := K
  rw [f_X10_openSet] at hf
  refine o_iconst K 0 dX10_openSet_0 (by decide) ?_
  refine o_istore_n K 1 [some (.ref (h 0)), some (.int 0), none] dX10_openSet_1 rfl (by decide) rfl rfl ?_
  refine o_iconst K 0 dX10_openSet_2 (by decide) ?_
  refine o_istore_n K 2 [some (.ref (h 0)), some (.int 0), some (.int 0)] dX10_openSet_3 rfl (by decide) rfl rfl ?_
  exact t_X10_openSet_l4 K hR FU (0 : Int32) (0 : Int32) hf
def f_X10_hall (M : Mem) (a1 : Int32) : Option Int32 := if a1 = 0 then (rd M 1 1460 4 fun x2 => some (x2)) else if a1 = 1 then (bd (f_X10_sumOf M (0 : Int32)) fun r5 => some (r5)) else if a1 = 2 then (bd (f_X10_sumOf M (2 : Int32)) fun r7 => some (r7)) else if a1 = 3 then (bd (f_X10_litSet M) fun r9 => some (r9)) else if a1 = 4 then (bd (f_X10_openSet M) fun r11 => some (r11)) else some (((-1000000001) : Int32))
set_option maxHeartbeats 4000000 in
set_option maxRecDepth 100000 in
theorem k_X10_hall (l : Launch) (E : Amd) (D : va_G) (ca : Nat → ClassId) (h : Nat → Nat) (M : Mem) (a1 : Int32) {r0 : Int32} (hf : f_X10_hall M a1 = some r0) : Ct l E D (tysOf ca) h (LaM ca h) yX10_hall cX10_hall 2 (some .int) 2 45 [.ref (h 0), .int a1] M (some (.int r0)) M := by
  refine Ct.mk [some (.ref (h 0)), some (.int a1)] (by decide) (Nat.le_of_ble_eq_true rfl) (argsV [.ref (h 0), .int a1] 0 rfl rfl) ?_
  intro x hx0 K hR
  have K : Kx x E D (tysOf ca) h (LaM ca h) RX10 cX10_hall 2 2 45 := K
  rw [f_X10_hall] at hf
  refine o_iload_n K 1 dX10_hall_0 rfl rfl ?_
  by_cases c1 : a1 = 0
  · have hf := ip c1 hf
    refine o_table K 36 dX10_hall_1 (by decide) (by rw [c1]; try decide) (by decide) ?_
    refine o_aload_n K 0 dX10_hall_36 rfl rfl ?_
    refine gM_9 K dX10_hall_37 ?_
    refine o_iconst K 4 dX10_hall_40 (by decide) ?_
    obtain ⟨g3, x2, ex2, hf⟩ := rd_e hf
    refine lM_1 K g3 dX10_hall_41 ?_
    refine o_nmi ex2 ?_
    exact r_iret K hf hR dX10_hall_42
  have hf := im c1 hf
  by_cases c4 : a1 = 1
  · have hf := ip c4 hf
    refine o_table K 43 dX10_hall_1 (by decide) (by rw [c4]; try decide) (by decide) ?_
    refine o_aload_n K 0 dX10_hall_43 rfl rfl ?_
    refine o_iconst K 0 dX10_hall_44 (by decide) ?_
    obtain ⟨r5, er5, hf⟩ := bd_e hf
    refine o_callV K [.int 0] (k_X10_sumOf x.2.1 E D ca h M (0 : Int32) er5) s_X10_167 (ltM (by decide)) rfl rfl rfl rfl ⟨by decide, by decide⟩ (Nat.le_of_ble_eq_true rfl) _ rfl dX10_hall_45 ?_
    show Go x D (tysOf ca) h (LaM ca h) 2 M 48 [some (.ref (h 0)), some (.int a1)] [.int r5]
    exact r_iret K hf hR dX10_hall_48
  have hf := im c4 hf
  by_cases c6 : a1 = 2
  · have hf := ip c6 hf
    refine o_table K 49 dX10_hall_1 (by decide) (by rw [c6]; try decide) (by decide) ?_
    refine o_aload_n K 0 dX10_hall_49 rfl rfl ?_
    refine o_iconst K 2 dX10_hall_50 (by decide) ?_
    obtain ⟨r7, er7, hf⟩ := bd_e hf
    refine o_callV K [.int 2] (k_X10_sumOf x.2.1 E D ca h M (2 : Int32) er7) s_X10_167 (ltM (by decide)) rfl rfl rfl rfl ⟨by decide, by decide⟩ (Nat.le_of_ble_eq_true rfl) _ rfl dX10_hall_51 ?_
    show Go x D (tysOf ca) h (LaM ca h) 2 M 54 [some (.ref (h 0)), some (.int a1)] [.int r7]
    exact r_iret K hf hR dX10_hall_54
  have hf := im c6 hf
  by_cases c8 : a1 = 3
  · have hf := ip c8 hf
    refine o_table K 55 dX10_hall_1 (by decide) (by rw [c8]; try decide) (by decide) ?_
    refine o_aload_n K 0 dX10_hall_55 rfl rfl ?_
    obtain ⟨r9, er9, hf⟩ := bd_e hf
    refine o_callV K [] (k_X10_litSet x.2.1 E D ca h M er9) s_X10_170 (ltM (by decide)) rfl rfl rfl rfl ⟨by decide, by decide⟩ (Nat.le_of_ble_eq_true rfl) _ rfl dX10_hall_56 ?_
    show Go x D (tysOf ca) h (LaM ca h) 2 M 59 [some (.ref (h 0)), some (.int a1)] [.int r9]
    exact r_iret K hf hR dX10_hall_59
  have hf := im c8 hf
  by_cases c10 : a1 = 4
  · have hf := ip c10 hf
    refine o_table K 60 dX10_hall_1 (by decide) (by rw [c10]; try decide) (by decide) ?_
    refine o_aload_n K 0 dX10_hall_60 rfl rfl ?_
    obtain ⟨r11, er11, hf⟩ := bd_e hf
    refine o_callV K [] (k_X10_openSet x.2.1 E D ca h M er11) s_X10_173 (ltM (by decide)) rfl rfl rfl rfl ⟨by decide, by decide⟩ (Nat.le_of_ble_eq_true rfl) _ rfl dX10_hall_61 ?_
    show Go x D (tysOf ca) h (LaM ca h) 2 M 64 [some (.ref (h 0)), some (.int a1)] [.int r11]
    exact r_iret K hf hR dX10_hall_64
  have hf := im c10 hf
  refine o_table K 65 dX10_hall_1 (by decide) (tsel_d [0, 1, 2, 3, 4] (List.forall_mem_cons.mpr ⟨lv_neT c1 rfl, (List.forall_mem_cons.mpr ⟨lv_neT c4 rfl, (List.forall_mem_cons.mpr ⟨lv_neT c6 rfl, (List.forall_mem_cons.mpr ⟨lv_neT c8 rfl, (List.forall_mem_cons.mpr ⟨lv_neT c10 rfl, (List.forall_mem_nil _)⟩)⟩)⟩)⟩)⟩) (by decide)) (by decide) ?_
  refine o_ldc K q1102 dX10_hall_65 ?_
  exact r_iret K hf hR dX10_hall_67
def f_X10_thinks_l2 : Nat → Int32 → Mem → Option Mem
  | 0, _, _ => none
  | n + 1, a0, M => if 88 ≤ a0 then (some M) else rd M 1 1460 a0 fun x2 => wr M 8 88 a0 x2 fun M5 => nm (a0 + 1 : Int32) fun x6 => f_X10_thinks_l2 n x6 M5
set_option maxHeartbeats 4000000 in
set_option maxRecDepth 100000 in
theorem t_X10_thinks_l2 {x : En} {E : Amd} {D : va_G} {ca : Nat → ClassId} {h : Nat → Nat} (K : Kx x E D (tysOf ca) h (LaM ca h) RX10 cX10_thinks 2 0 0) {Mo : Mem} (hR : Rt x D h (LaM ca h) none none Mo) : ∀ (n : Nat) (a0 : Int32) (M : Mem), f_X10_thinks_l2 n a0 M = some Mo → Go x D (tysOf ca) h (LaM ca h) 2 M 2 [some (.ref (h 0)), some (.int a0)] [] := by
  intro n
  induction n with
  | zero =>
    intro a0 M hf
    cases hf
  | succ n ih =>
    intro a0 M hf
    rw [f_X10_thinks_l2] at hf
    refine o_iload_n K 1 dX10_thinks_2 rfl rfl ?_
    refine o_bipush K 88 dX10_thinks_3 (by decide) ?_
    refine o_icmp_ge K 26 dX10_thinks_5 (by decide) (fun c1 => ?_) (fun c1 => ?_)
    · have hf := ip c1 hf
      exact e_vret K hf hR dX10_thinks_26
    · have hf := im c1 hf
      refine o_aload_n K 0 dX10_thinks_8 rfl rfl ?_
      refine gM_31 K dX10_thinks_9 ?_
      refine o_iload_n K 1 dX10_thinks_12 rfl rfl ?_
      refine o_aload_n K 0 dX10_thinks_13 rfl rfl ?_
      refine gM_9 K dX10_thinks_14 ?_
      refine o_iload_n K 1 dX10_thinks_17 rfl rfl ?_
      obtain ⟨g3, x2, ex2, hf⟩ := rd_e hf
      refine lM_1 K g3 dX10_thinks_18 ?_
      refine o_nmi ex2 ?_
      obtain ⟨g4, M5, eM5, hf⟩ := wr_e hf
      refine sM_8 K g4 dX10_thinks_19 ?_
      refine o_nmM eM5 ?_
      obtain ⟨x6, ex6, hf⟩ := nm_o hf
      refine o_iinc K 1 x6 [some (.ref (h 0)), some (.int x6)] dX10_thinks_20 rfl (inc_e (by decide) ex6) (by decide) rfl rfl ?_
      refine o_goto K 2 dX10_thinks_23 (by decide) ?_
      exact ih x6 M5 hf
def f_X10_thinks (M : Mem) : Option Mem := f_X10_thinks_l2 FU (0 : Int32) M
set_option maxHeartbeats 4000000 in
set_option maxRecDepth 100000 in
theorem k_X10_thinks (l : Launch) (E : Amd) (D : va_G) (ca : Nat → ClassId) (h : Nat → Nat) (M : Mem) {Mo : Mem} (hf : f_X10_thinks M = some Mo) : Ct l E D (tysOf ca) h (LaM ca h) yX10_thinks cX10_thinks 2 none 0 0 [.ref (h 0)] M none Mo := by
  refine Ct.mk [some (.ref (h 0)), none] (by decide) (Nat.le_of_ble_eq_true rfl) (argsV [.ref (h 0)] 1 rfl rfl) ?_
  intro x hx0 K hR
  have K : Kx x E D (tysOf ca) h (LaM ca h) RX10 cX10_thinks 2 0 0 := K
  rw [f_X10_thinks] at hf
  refine o_iconst K 0 dX10_thinks_0 (by decide) ?_
  refine o_istore_n K 1 [some (.ref (h 0)), some (.int 0)] dX10_thinks_1 rfl (by decide) rfl rfl ?_
  exact t_X10_thinks_l2 K hR FU (0 : Int32) M hf
