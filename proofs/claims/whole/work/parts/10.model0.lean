def f_X10_in (a1 : Int32) (a2 : Int32) (a3 : Int32) : Option Int32 := if a1 < a2 then (some ((0 : Int32))) else if a3 < a1 then (some ((0 : Int32))) else some ((1 : Int32))
set_option maxHeartbeats 4000000 in
set_option maxRecDepth 100000 in
theorem k_X10_in (l : Launch) (E : Amd) (D : va_G) (ca : Nat → ClassId) (h : Nat → Nat) (M : Mem) (a1 : Int32) (a2 : Int32) (a3 : Int32) {r0 : Int32} (hf : f_X10_in a1 a2 a3 = some r0) : Ct l E D (tysOf ca) h (LaM ca h) yX10_in cX10_in 3 (some .boolean) 0 0 [.int a1, .int a2, .int a3] M (some (.int r0)) M := by
  refine Ct.mk [some (.int a1), some (.int a2), some (.int a3)] (by decide) (Nat.le_of_ble_eq_true rfl) (argsV [.int a1, .int a2, .int a3] 0 rfl rfl) ?_
  intro x hx0 K hR
  have K : Kx x E D (tysOf ca) h (LaM ca h) RX10 cX10_in 3 0 0 := K
  rw [f_X10_in] at hf
  refine o_iload_n K 0 dX10_in_0 rfl rfl ?_
  refine o_iload_n K 1 dX10_in_1 rfl rfl ?_
  refine o_icmp_lt K 14 dX10_in_2 (by decide) (fun c1 => ?_) (fun c1 => ?_)
  · have hf := ip c1 hf
    refine o_iconst K 0 dX10_in_14 (by decide) ?_
    exact r_zret K hf hR (by decide) dX10_in_15
  · have hf := im c1 hf
    refine o_iload_n K 0 dX10_in_5 rfl rfl ?_
    refine o_iload_n K 2 dX10_in_6 rfl rfl ?_
    refine o_icmp_gt K 14 dX10_in_7 (by decide) (fun c2 => ?_) (fun c2 => ?_)
    · have hf := ip c2 hf
      refine o_iconst K 0 dX10_in_14 (by decide) ?_
      exact r_zret K hf hR (by decide) dX10_in_15
    · have hf := im c2 hf
      refine o_iconst K 1 dX10_in_10 (by decide) ?_
      refine o_goto K 15 dX10_in_11 (by decide) ?_
      exact r_zret K hf hR (by decide) dX10_in_15
def f_X10_within (a1 : Int32) (a2 : Int32) (a3 : Int32) : Option Int32 := if a2 ≤ a1 then (if a1 ≤ a3 then (some (a1)) else some (a3)) else some (a2)
set_option maxHeartbeats 4000000 in
set_option maxRecDepth 100000 in
theorem k_X10_within (l : Launch) (E : Amd) (D : va_G) (ca : Nat → ClassId) (h : Nat → Nat) (M : Mem) (a1 : Int32) (a2 : Int32) (a3 : Int32) {r0 : Int32} (hf : f_X10_within a1 a2 a3 = some r0) : Ct l E D (tysOf ca) h (LaM ca h) yX10_within cX10_within 3 (some .int) 0 0 [.int a1, .int a2, .int a3] M (some (.int r0)) M := by
  refine Ct.mk [some (.int a1), some (.int a2), some (.int a3)] (by decide) (Nat.le_of_ble_eq_true rfl) (argsV [.int a1, .int a2, .int a3] 0 rfl rfl) ?_
  intro x hx0 K hR
  have K : Kx x E D (tysOf ca) h (LaM ca h) RX10 cX10_within 3 0 0 := K
  rw [f_X10_within] at hf
  refine o_iload_n K 0 dX10_within_0 rfl rfl ?_
  refine o_iload_n K 1 dX10_within_1 rfl rfl ?_
  refine o_icmp_ge K 9 dX10_within_2 (by decide) (fun c1 => ?_) (fun c1 => ?_)
  · have hf := ip c1 hf
    refine o_iload_n K 0 dX10_within_9 rfl rfl ?_
    refine o_iload_n K 2 dX10_within_10 rfl rfl ?_
    refine o_icmp_le K 18 dX10_within_11 (by decide) (fun c2 => ?_) (fun c2 => ?_)
    · have hf := ip c2 hf
      refine o_iload_n K 0 dX10_within_18 rfl rfl ?_
      exact r_iret K hf hR dX10_within_19
    · have hf := im c2 hf
      refine o_iload_n K 2 dX10_within_14 rfl rfl ?_
      refine o_goto K 19 dX10_within_15 (by decide) ?_
      exact r_iret K hf hR dX10_within_19
  · have hf := im c1 hf
    refine o_iload_n K 1 dX10_within_5 rfl rfl ?_
    refine o_goto K 19 dX10_within_6 (by decide) ?_
    exact r_iret K hf hR dX10_within_19
def f_X10_copyAll_l2 (p1 : Nat) (p2 : Nat) : Nat → Int32 → Mem → Option Mem
  | 0, _, _ => none
  | n + 1, a0, M => if 1460 ≤ a0 then (some M) else rd M p1 1460 a0 fun x2 => wr M p2 1460 a0 x2 fun M5 => nm (a0 + 1 : Int32) fun x6 => f_X10_copyAll_l2 p1 p2 n x6 M5
set_option maxHeartbeats 4000000 in
set_option maxRecDepth 100000 in
theorem t_X10_copyAll_l2 {x : En} {E : Amd} {D : va_G} {ca : Nat → ClassId} {h : Nat → Nat} {p1 : Nat} {p2 : Nat} (K : Kx x E D (tysOf ca) h (LaM ca h) RX10 cX10_copyAll 3 0 0) {Mo : Mem} (hR : Rt x D h (LaM ca h) none none Mo) (hlp1 : p1 < 26) (hcp1 : ∀ row, celM ca h p1 row = .inl (ca 0, 1460, .inl row)) (hlp2 : p2 < 26) (hcp2 : ∀ row, celM ca h p2 row = .inl (ca 0, 1460, .inl row)) : ∀ (n : Nat) (a0 : Int32) (M : Mem), f_X10_copyAll_l2 p1 p2 n a0 M = some Mo → Go x D (tysOf ca) h (LaM ca h) 3 M 2 [some (.ref (h p1)), some (.ref (h p2)), some (.int a0)] [] := by
  intro n
  induction n with
  | zero =>
    intro a0 M hf
    cases hf
  | succ n ih =>
    intro a0 M hf
    rw [f_X10_copyAll_l2] at hf
    refine o_iload_n K 2 dX10_copyAll_2 rfl rfl ?_
    refine o_sipush K 1460 dX10_copyAll_3 (by decide) ?_
    refine o_icmp_ge K 21 dX10_copyAll_6 (by decide) (fun c1 => ?_) (fun c1 => ?_)
    · have hf := ip c1 hf
      exact e_vret K hf hR dX10_copyAll_21
    · have hf := im c1 hf
      refine o_aload_n K 1 dX10_copyAll_9 rfl rfl ?_
      refine o_iload_n K 2 dX10_copyAll_10 rfl rfl ?_
      refine o_aload_n K 0 dX10_copyAll_11 rfl rfl ?_
      refine o_iload_n K 2 dX10_copyAll_12 rfl rfl ?_
      obtain ⟨g3, x2, ex2, hf⟩ := rd_e hf
      refine o_intld K 0 hlp1 (hcp1 _) rfl g3 dX10_copyAll_13 ?_
      refine o_nmi ex2 ?_
      obtain ⟨g4, M5, eM5, hf⟩ := wr_e hf
      refine lS_any K hlp2 hcp2 g4 dX10_copyAll_14 ?_
      refine o_nmM eM5 ?_
      obtain ⟨x6, ex6, hf⟩ := nm_o hf
      refine o_iinc K 2 x6 [some (.ref (h p1)), some (.ref (h p2)), some (.int x6)] dX10_copyAll_15 rfl (inc_e (by decide) ex6) (by decide) rfl rfl ?_
      refine o_goto K 2 dX10_copyAll_18 (by decide) ?_
      exact ih x6 M5 hf
def f_X10_copyAll (M : Mem) (p1 : Nat) (p2 : Nat) : Option Mem := f_X10_copyAll_l2 p1 p2 FU (0 : Int32) M
set_option maxHeartbeats 4000000 in
set_option maxRecDepth 100000 in
theorem k_X10_copyAll (l : Launch) (E : Amd) (D : va_G) (ca : Nat → ClassId) (h : Nat → Nat) (M : Mem) (p1 : Nat) (p2 : Nat) {Mo : Mem} (hlp1 : p1 < 26) (hcp1 : ∀ row, celM ca h p1 row = .inl (ca 0, 1460, .inl row)) (hlp2 : p2 < 26) (hcp2 : ∀ row, celM ca h p2 row = .inl (ca 0, 1460, .inl row)) (hf : f_X10_copyAll M p1 p2 = some Mo) : Ct l E D (tysOf ca) h (LaM ca h) yX10_copyAll cX10_copyAll 3 none 0 0 [.ref (h p1), .ref (h p2)] M none Mo := by
  refine Ct.mk [some (.ref (h p1)), some (.ref (h p2)), none] (by decide) (Nat.le_of_ble_eq_true rfl) (argsV [.ref (h p1), .ref (h p2)] 1 rfl rfl) ?_
  intro x hx0 K hR
  have K : Kx x E D (tysOf ca) h (LaM ca h) RX10 cX10_copyAll 3 0 0 := K
  rw [f_X10_copyAll] at hf
  refine o_iconst K 0 dX10_copyAll_0 (by decide) ?_
  refine o_istore_n K 2 [some (.ref (h p1)), some (.ref (h p2)), some (.int 0)] dX10_copyAll_1 rfl (by decide) rfl rfl ?_
  exact t_X10_copyAll_l2 K hR hlp1 hcp1 hlp2 hcp2 FU (0 : Int32) M hf
def f_X10_isDoor (M : Mem) (a1 : Int32) : Option Int32 := rd M 1 1460 1 fun x1 => bd (f_X10_in a1 (0 : Int32) (x1 - 1)) fun r3 => gd (bz r3) <| some (r3)
set_option maxHeartbeats 4000000 in
set_option maxRecDepth 100000 in
theorem k_X10_isDoor (l : Launch) (E : Amd) (D : va_G) (ca : Nat → ClassId) (h : Nat → Nat) (M : Mem) (a1 : Int32) {r0 : Int32} (hf : f_X10_isDoor M a1 = some r0) : Ct l E D (tysOf ca) h (LaM ca h) yX10_isDoor cX10_isDoor 2 (some .boolean) 1 22 [.ref (h 0), .int a1] M (some (.int r0)) M := by
  refine Ct.mk [some (.ref (h 0)), some (.int a1)] (by decide) (Nat.le_of_ble_eq_true rfl) (argsV [.ref (h 0), .int a1] 0 rfl rfl) ?_
  intro x hx0 K hR
  have K : Kx x E D (tysOf ca) h (LaM ca h) RX10 cX10_isDoor 2 1 22 := K
  rw [f_X10_isDoor] at hf
  refine o_iload_n K 1 dX10_isDoor_0 rfl rfl ?_
  refine o_iconst K 0 dX10_isDoor_1 (by decide) ?_
  refine o_aload_n K 0 dX10_isDoor_2 rfl rfl ?_
  refine gM_9 K dX10_isDoor_3 ?_
  refine o_iconst K 1 dX10_isDoor_6 (by decide) ?_
  obtain ⟨g2, x1, ex1, hf⟩ := rd_e hf
  refine lM_1 K g2 dX10_isDoor_7 ?_
  refine o_nmi ex1 ?_
  refine o_iconst K 1 dX10_isDoor_8 (by decide) ?_
  refine o_isub K dX10_isDoor_9 ?_
  obtain ⟨r3, er3, hf⟩ := bd_e hf
  refine o_callS K [.int a1, .int 0, .int (x1 - 1)] (k_X10_in x.2.1 E D ca h M a1 (0 : Int32) (x1 - 1) er3) s_X10_87 rfl ⟨by decide, by decide⟩ (Nat.le_of_ble_eq_true rfl) _ rfl dX10_isDoor_10 ?_
  show Go x D (tysOf ca) h (LaM ca h) 2 M 13 [some (.ref (h 0)), some (.int a1)] [.int r3]
  obtain ⟨g4, hf⟩ := gd_e hf
  exact r_zret K hf hR g4 dX10_isDoor_13
def f_X10_isRoom (a1 : Int32) : Option Int32 := bd (f_X10_in a1 (0 : Int32) (7 : Int32)) fun r1 => gd (bz r1) <| some (r1)
set_option maxHeartbeats 4000000 in
set_option maxRecDepth 100000 in
theorem k_X10_isRoom (l : Launch) (E : Amd) (D : va_G) (ca : Nat → ClassId) (h : Nat → Nat) (M : Mem) (a1 : Int32) {r0 : Int32} (hf : f_X10_isRoom a1 = some r0) : Ct l E D (tysOf ca) h (LaM ca h) yX10_isRoom cX10_isRoom 1 (some .boolean) 1 22 [.int a1] M (some (.int r0)) M := by
  refine Ct.mk [some (.int a1)] (by decide) (Nat.le_of_ble_eq_true rfl) (argsV [.int a1] 0 rfl rfl) ?_
  intro x hx0 K hR
  have K : Kx x E D (tysOf ca) h (LaM ca h) RX10 cX10_isRoom 1 1 22 := K
  rw [f_X10_isRoom] at hf
  refine o_iload_n K 0 dX10_isRoom_0 rfl rfl ?_
  refine o_iconst K 0 dX10_isRoom_1 (by decide) ?_
  refine o_bipush K 7 dX10_isRoom_2 (by decide) ?_
  obtain ⟨r1, er1, hf⟩ := bd_e hf
  refine o_callS K [.int a1, .int 0, .int 7] (k_X10_in x.2.1 E D ca h M a1 (0 : Int32) (7 : Int32) er1) s_X10_87 rfl ⟨by decide, by decide⟩ (Nat.le_of_ble_eq_true rfl) _ rfl dX10_isRoom_4 ?_
  show Go x D (tysOf ca) h (LaM ca h) 1 M 7 [some (.int a1)] [.int r1]
  obtain ⟨g2, hf⟩ := gd_e hf
  exact r_zret K hf hR g2 dX10_isRoom_7
def f_X10_of (M : Mem) (a1 : Int32) (a2 : Int32) : Option Int32 := rd M 1 1460 (((38 : Int32) + ((5 : Int32) * a1)) + a2) fun x1 => some (x1)
set_option maxHeartbeats 4000000 in
set_option maxRecDepth 100000 in
theorem k_X10_of (l : Launch) (E : Amd) (D : va_G) (ca : Nat → ClassId) (h : Nat → Nat) (M : Mem) (a1 : Int32) (a2 : Int32) {r0 : Int32} (hf : f_X10_of M a1 a2 = some r0) : Ct l E D (tysOf ca) h (LaM ca h) yX10_of cX10_of 3 (some .int) 0 0 [.ref (h 0), .int a1, .int a2] M (some (.int r0)) M := by
  refine Ct.mk [some (.ref (h 0)), some (.int a1), some (.int a2)] (by decide) (Nat.le_of_ble_eq_true rfl) (argsV [.ref (h 0), .int a1, .int a2] 0 rfl rfl) ?_
  intro x hx0 K hR
  have K : Kx x E D (tysOf ca) h (LaM ca h) RX10 cX10_of 3 0 0 := K
  rw [f_X10_of] at hf
  refine o_aload_n K 0 dX10_of_0 rfl rfl ?_
  refine gM_9 K dX10_of_1 ?_
  refine o_bipush K 38 dX10_of_4 (by decide) ?_
  refine o_iconst K 5 dX10_of_6 (by decide) ?_
  refine o_iload_n K 1 dX10_of_7 rfl rfl ?_
  refine o_imul K dX10_of_8 ?_
  refine o_iadd K dX10_of_9 ?_
  refine o_iload_n K 2 dX10_of_10 rfl rfl ?_
  refine o_iadd K dX10_of_11 ?_
  obtain ⟨g2, x1, ex1, hf⟩ := rd_e hf
  refine lM_1 K g2 dX10_of_12 ?_
  refine o_nmi ex1 ?_
  exact r_iret K hf hR dX10_of_13
def f_X10_at0 (M : Mem) (a1 : Int32) (a2 : Int32) : Option Int32 := rd M 1 1460 (((6 : Int32) + ((4 : Int32) * a1)) + a2) fun x1 => some (x1)
set_option maxHeartbeats 4000000 in
set_option maxRecDepth 100000 in
theorem k_X10_at0 (l : Launch) (E : Amd) (D : va_G) (ca : Nat → ClassId) (h : Nat → Nat) (M : Mem) (a1 : Int32) (a2 : Int32) {r0 : Int32} (hf : f_X10_at0 M a1 a2 = some r0) : Ct l E D (tysOf ca) h (LaM ca h) yX10_at0 cX10_at0 3 (some .int) 0 0 [.ref (h 0), .int a1, .int a2] M (some (.int r0)) M := by
  refine Ct.mk [some (.ref (h 0)), some (.int a1), some (.int a2)] (by decide) (Nat.le_of_ble_eq_true rfl) (argsV [.ref (h 0), .int a1, .int a2] 0 rfl rfl) ?_
  intro x hx0 K hR
  have K : Kx x E D (tysOf ca) h (LaM ca h) RX10 cX10_at0 3 0 0 := K
  rw [f_X10_at0] at hf
  refine o_aload_n K 0 dX10_at0_0 rfl rfl ?_
  refine gM_9 K dX10_at0_1 ?_
  refine o_bipush K 6 dX10_at0_4 (by decide) ?_
  refine o_iconst K 4 dX10_at0_6 (by decide) ?_
  refine o_iload_n K 1 dX10_at0_7 rfl rfl ?_
  refine o_imul K dX10_at0_8 ?_
  refine o_iadd K dX10_at0_9 ?_
  refine o_iload_n K 2 dX10_at0_10 rfl rfl ?_
  refine o_iadd K dX10_at0_11 ?_
  obtain ⟨g2, x1, ex1, hf⟩ := rd_e hf
  refine lM_1 K g2 dX10_at0_12 ?_
  refine o_nmi ex1 ?_
  exact r_iret K hf hR dX10_at0_13
def f_X10_becomes (M : Mem) (a1 : Int32) (a2 : Int32) : Option (Int32 × Mem) := rd M 1 1460 a1 fun x1 => wr M 1 1460 a1 a2 fun M4 => some (x1, M4)
set_option maxHeartbeats 4000000 in
set_option maxRecDepth 100000 in
theorem k_X10_becomes (l : Launch) (E : Amd) (D : va_G) (ca : Nat → ClassId) (h : Nat → Nat) (M : Mem) (a1 : Int32) (a2 : Int32) {r0 : Int32} {Mo : Mem} (hf : f_X10_becomes M a1 a2 = some (r0, Mo)) : Ct l E D (tysOf ca) h (LaM ca h) yX10_becomes cX10_becomes 4 (some .int) 0 0 [.ref (h 0), .int a1, .int a2] M (some (.int r0)) Mo := by
  refine Ct.mk [some (.ref (h 0)), some (.int a1), some (.int a2), none] (by decide) (Nat.le_of_ble_eq_true rfl) (argsV [.ref (h 0), .int a1, .int a2] 1 rfl rfl) ?_
  intro x hx0 K hR
  have K : Kx x E D (tysOf ca) h (LaM ca h) RX10 cX10_becomes 4 0 0 := K
  rw [f_X10_becomes] at hf
  refine o_aload_n K 0 dX10_becomes_0 rfl rfl ?_
  refine gM_9 K dX10_becomes_1 ?_
  refine o_iload_n K 1 dX10_becomes_4 rfl rfl ?_
  obtain ⟨g2, x1, ex1, hf⟩ := rd_e hf
  refine lM_1 K g2 dX10_becomes_5 ?_
  refine o_nmi ex1 ?_
  refine o_istore_n K 3 [some (.ref (h 0)), some (.int a1), some (.int a2), some (.int x1)] dX10_becomes_6 rfl (by decide) rfl rfl ?_
  refine o_aload_n K 0 dX10_becomes_7 rfl rfl ?_
  refine gM_9 K dX10_becomes_8 ?_
  refine o_iload_n K 1 dX10_becomes_11 rfl rfl ?_
  refine o_iload_n K 2 dX10_becomes_12 rfl rfl ?_
  obtain ⟨g3, M4, eM4, hf⟩ := wr_e hf
  refine sM_1 K g3 dX10_becomes_13 ?_
  refine o_nmM eM4 ?_
  refine o_iload_n K 3 dX10_becomes_14 rfl rfl ?_
  exact e_iret K hf hR dX10_becomes_15
def f_X10_comes (M : Mem) (a1 : Int32) (a2 : Int32) (a3 : Int32) (a4 : Int32) (a5 : Int32) : Option (Int32 × Mem) := rd M 1 1460 1 fun x1 => nm ((38 : Int32) + ((5 : Int32) * x1) : Int32) fun x3 => wr M 1 1460 x3 a1 fun M5 => wr M5 1 1460 (x3 + 1) a2 fun M7 => wr M7 1 1460 (x3 + 2) a3 fun M9 => wr M9 1 1460 (x3 + 3) a4 fun M11 => wr M11 1 1460 (x3 + 4) a5 fun M13 => rd M13 1 1460 1 fun x14 => wr M13 1 1460 1 (x14 + 1) fun M17 => rd M17 1 1460 1 fun x18 => some (x18 - 1, M17)
set_option maxHeartbeats 4000000 in
set_option maxRecDepth 100000 in
theorem k_X10_comes (l : Launch) (E : Amd) (D : va_G) (ca : Nat → ClassId) (h : Nat → Nat) (M : Mem) (a1 : Int32) (a2 : Int32) (a3 : Int32) (a4 : Int32) (a5 : Int32) {r0 : Int32} {Mo : Mem} (hf : f_X10_comes M a1 a2 a3 a4 a5 = some (r0, Mo)) : Ct l E D (tysOf ca) h (LaM ca h) yX10_comes cX10_comes 7 (some .int) 0 0 [.ref (h 0), .int a1, .int a2, .int a3, .int a4, .int a5] M (some (.int r0)) Mo := by
  refine Ct.mk [some (.ref (h 0)), some (.int a1), some (.int a2), some (.int a3), some (.int a4), some (.int a5), none] (by decide) (Nat.le_of_ble_eq_true rfl) (argsV [.ref (h 0), .int a1, .int a2, .int a3, .int a4, .int a5] 1 rfl rfl) ?_
  intro x hx0 K hR
  have K : Kx x E D (tysOf ca) h (LaM ca h) RX10 cX10_comes 7 0 0 := K
  rw [f_X10_comes] at hf
  refine o_bipush K 38 dX10_comes_0 (by decide) ?_
  refine o_iconst K 5 dX10_comes_2 (by decide) ?_
  refine o_aload_n K 0 dX10_comes_3 rfl rfl ?_
  refine gM_9 K dX10_comes_4 ?_
  refine o_iconst K 1 dX10_comes_7 (by decide) ?_
  obtain ⟨g2, x1, ex1, hf⟩ := rd_e hf
  refine lM_1 K g2 dX10_comes_8 ?_
  refine o_nmi ex1 ?_
  refine o_imul K dX10_comes_9 ?_
  refine o_iadd K dX10_comes_10 ?_
  obtain ⟨x3, ex3, hf⟩ := nm_o hf
  refine o_nmi ex3 ?_
  refine o_istore K 6 [some (.ref (h 0)), some (.int a1), some (.int a2), some (.int a3), some (.int a4), some (.int a5), some (.int x3)] dX10_comes_11 (by decide) rfl rfl ?_
  refine o_aload_n K 0 dX10_comes_13 rfl rfl ?_
  refine gM_9 K dX10_comes_14 ?_
  refine o_iload K 6 dX10_comes_17 rfl ?_
  refine o_iload_n K 1 dX10_comes_19 rfl rfl ?_
  obtain ⟨g4, M5, eM5, hf⟩ := wr_e hf
  refine sM_1 K g4 dX10_comes_20 ?_
  refine o_nmM eM5 ?_
  refine o_aload_n K 0 dX10_comes_21 rfl rfl ?_
  refine gM_9 K dX10_comes_22 ?_
  refine o_iload K 6 dX10_comes_25 rfl ?_
  refine o_iconst K 1 dX10_comes_27 (by decide) ?_
  refine o_iadd K dX10_comes_28 ?_
  refine o_iload_n K 2 dX10_comes_29 rfl rfl ?_
  obtain ⟨g6, M7, eM7, hf⟩ := wr_e hf
  refine sM_1 K g6 dX10_comes_30 ?_
  refine o_nmM eM7 ?_
  refine o_aload_n K 0 dX10_comes_31 rfl rfl ?_
  refine gM_9 K dX10_comes_32 ?_
  refine o_iload K 6 dX10_comes_35 rfl ?_
  refine o_iconst K 2 dX10_comes_37 (by decide) ?_
  refine o_iadd K dX10_comes_38 ?_
  refine o_iload_n K 3 dX10_comes_39 rfl rfl ?_
  obtain ⟨g8, M9, eM9, hf⟩ := wr_e hf
  refine sM_1 K g8 dX10_comes_40 ?_
  refine o_nmM eM9 ?_
  refine o_aload_n K 0 dX10_comes_41 rfl rfl ?_
  refine gM_9 K dX10_comes_42 ?_
  refine o_iload K 6 dX10_comes_45 rfl ?_
  refine o_iconst K 3 dX10_comes_47 (by decide) ?_
  refine o_iadd K dX10_comes_48 ?_
  refine o_iload K 4 dX10_comes_49 rfl ?_
  obtain ⟨g10, M11, eM11, hf⟩ := wr_e hf
  refine sM_1 K g10 dX10_comes_51 ?_
  refine o_nmM eM11 ?_
  refine o_aload_n K 0 dX10_comes_52 rfl rfl ?_
  refine gM_9 K dX10_comes_53 ?_
  refine o_iload K 6 dX10_comes_56 rfl ?_
  refine o_iconst K 4 dX10_comes_58 (by decide) ?_
  refine o_iadd K dX10_comes_59 ?_
  refine o_iload K 5 dX10_comes_60 rfl ?_
  obtain ⟨g12, M13, eM13, hf⟩ := wr_e hf
  refine sM_1 K g12 dX10_comes_62 ?_
  refine o_nmM eM13 ?_
  refine o_aload_n K 0 dX10_comes_63 rfl rfl ?_
  refine gM_9 K dX10_comes_64 ?_
  refine o_iconst K 1 dX10_comes_67 (by decide) ?_
  refine o_dup2 K dX10_comes_68 rfl rfl ?_
  obtain ⟨g15, x14, ex14, hf⟩ := rd_e hf
  refine lM_1 K g15 dX10_comes_69 ?_
  refine o_nmi ex14 ?_
  refine o_iconst K 1 dX10_comes_70 (by decide) ?_
  refine o_iadd K dX10_comes_71 ?_
  obtain ⟨g16, M17, eM17, hf⟩ := wr_e hf
  refine sM_1 K g16 dX10_comes_72 ?_
  refine o_nmM eM17 ?_
  refine o_aload_n K 0 dX10_comes_73 rfl rfl ?_
  refine gM_9 K dX10_comes_74 ?_
  refine o_iconst K 1 dX10_comes_77 (by decide) ?_
  obtain ⟨g19, x18, ex18, hf⟩ := rd_e hf
  refine lM_1 K g19 dX10_comes_78 ?_
  refine o_nmi ex18 ?_
  refine o_iconst K 1 dX10_comes_79 (by decide) ?_
  refine o_isub K dX10_comes_80 ?_
  exact e_iret K hf hR dX10_comes_81
def f_X10_door (M : Mem) (a1 : Int32) (a2 : Int32) (a3 : Int32) (a4 : Int32) : Option (Int32 × Mem) := bd (f_X10_in a1 (0 : Int32) (5 : Int32)) fun r1 => if r1 = 0 then (some (((-1000000001) : Int32), M)) else bd (f_X10_isRoom a2) fun r3 => if r3 = 0 then (some (((-1000000001) : Int32), M)) else bd (f_X10_in a3 (0 : Int32) (8 : Int32)) fun r5 => if r5 = 0 then (some (((-1000000001) : Int32), M)) else if a2 = a3 then (some (((-1000000001) : Int32), M)) else bd (f_X10_in a4 (1 : Int32) (9 : Int32)) fun r8 => if r8 = 0 then (some (((-1000000001) : Int32), M)) else rd M 1 1460 1 fun x10 => if x10 = 10 then (some (((-1000000003) : Int32), M)) else bd2 (f_X10_comes M a1 a2 a3 a4 (0 : Int32)) fun r13 M14 => some (r13, M14)
set_option maxHeartbeats 4000000 in
set_option maxRecDepth 100000 in
theorem k_X10_door (l : Launch) (E : Amd) (D : va_G) (ca : Nat → ClassId) (h : Nat → Nat) (M : Mem) (a1 : Int32) (a2 : Int32) (a3 : Int32) (a4 : Int32) {r0 : Int32} {Mo : Mem} (hf : f_X10_door M a1 a2 a3 a4 = some (r0, Mo)) : Ct l E D (tysOf ca) h (LaM ca h) yX10_door cX10_door 5 (some .int) 2 42 [.ref (h 0), .int a1, .int a2, .int a3, .int a4] M (some (.int r0)) Mo := by
  refine Ct.mk [some (.ref (h 0)), some (.int a1), some (.int a2), some (.int a3), some (.int a4)] (by decide) (Nat.le_of_ble_eq_true rfl) (argsV [.ref (h 0), .int a1, .int a2, .int a3, .int a4] 0 rfl rfl) ?_
  intro x hx0 K hR
  have K : Kx x E D (tysOf ca) h (LaM ca h) RX10 cX10_door 5 2 42 := K
  rw [f_X10_door] at hf
  refine o_iload_n K 1 dX10_door_0 rfl rfl ?_
  refine o_iconst K 0 dX10_door_1 (by decide) ?_
  refine o_iconst K 5 dX10_door_2 (by decide) ?_
  obtain ⟨r1, er1, hf⟩ := bd_e hf
  refine o_callS K [.int a1, .int 0, .int 5] (k_X10_in x.2.1 E D ca h M a1 (0 : Int32) (5 : Int32) er1) s_X10_87 rfl ⟨by decide, by decide⟩ (Nat.le_of_ble_eq_true rfl) _ rfl dX10_door_3 ?_
  show Go x D (tysOf ca) h (LaM ca h) 5 M 6 [some (.ref (h 0)), some (.int a1), some (.int a2), some (.int a3), some (.int a4)] [.int r1]
  refine o_if_eq K 42 dX10_door_6 (by decide) (fun c2 => ?_) (fun c2 => ?_)
  · have hf := ip c2 hf
    refine o_ldc K q1102 dX10_door_42 ?_
    exact e_iret K hf hR dX10_door_44
  · have hf := im c2 hf
    refine o_iload_n K 2 dX10_door_9 rfl rfl ?_
    obtain ⟨r3, er3, hf⟩ := bd_e hf
    refine o_callS K [.int a2] (k_X10_isRoom x.2.1 E D ca h M a2 er3) s_X10_91 rfl ⟨by decide, by decide⟩ (Nat.le_of_ble_eq_true rfl) _ rfl dX10_door_10 ?_
    show Go x D (tysOf ca) h (LaM ca h) 5 M 13 [some (.ref (h 0)), some (.int a1), some (.int a2), some (.int a3), some (.int a4)] [.int r3]
    refine o_if_eq K 42 dX10_door_13 (by decide) (fun c4 => ?_) (fun c4 => ?_)
    · have hf := ip c4 hf
      refine o_ldc K q1102 dX10_door_42 ?_
      exact e_iret K hf hR dX10_door_44
    · have hf := im c4 hf
      refine o_iload_n K 3 dX10_door_16 rfl rfl ?_
      refine o_iconst K 0 dX10_door_17 (by decide) ?_
      refine o_bipush K 8 dX10_door_18 (by decide) ?_
      obtain ⟨r5, er5, hf⟩ := bd_e hf
      refine o_callS K [.int a3, .int 0, .int 8] (k_X10_in x.2.1 E D ca h M a3 (0 : Int32) (8 : Int32) er5) s_X10_87 rfl ⟨by decide, by decide⟩ (Nat.le_of_ble_eq_true rfl) _ rfl dX10_door_20 ?_
      show Go x D (tysOf ca) h (LaM ca h) 5 M 23 [some (.ref (h 0)), some (.int a1), some (.int a2), some (.int a3), some (.int a4)] [.int r5]
      refine o_if_eq K 42 dX10_door_23 (by decide) (fun c6 => ?_) (fun c6 => ?_)
      · have hf := ip c6 hf
        refine o_ldc K q1102 dX10_door_42 ?_
        exact e_iret K hf hR dX10_door_44
      · have hf := im c6 hf
        refine o_iload_n K 2 dX10_door_26 rfl rfl ?_
        refine o_iload_n K 3 dX10_door_27 rfl rfl ?_
        refine o_icmp_eq K 42 dX10_door_28 (by decide) (fun c7 => ?_) (fun c7 => ?_)
        · have hf := ip c7 hf
          refine o_ldc K q1102 dX10_door_42 ?_
          exact e_iret K hf hR dX10_door_44
        · have hf := im c7 hf
          refine o_iload K 4 dX10_door_31 rfl ?_
          refine o_iconst K 1 dX10_door_33 (by decide) ?_
          refine o_bipush K 9 dX10_door_34 (by decide) ?_
          obtain ⟨r8, er8, hf⟩ := bd_e hf
          refine o_callS K [.int a4, .int 1, .int 9] (k_X10_in x.2.1 E D ca h M a4 (1 : Int32) (9 : Int32) er8) s_X10_87 rfl ⟨by decide, by decide⟩ (Nat.le_of_ble_eq_true rfl) _ rfl dX10_door_36 ?_
          show Go x D (tysOf ca) h (LaM ca h) 5 M 39 [some (.ref (h 0)), some (.int a1), some (.int a2), some (.int a3), some (.int a4)] [.int r8]
          refine o_if_ne K 45 dX10_door_39 (by decide) (fun c9 => ?_) (fun c9 => ?_)
          · have hf := im c9 hf
            refine o_aload_n K 0 dX10_door_45 rfl rfl ?_
            refine gM_9 K dX10_door_46 ?_
            refine o_iconst K 1 dX10_door_49 (by decide) ?_
            obtain ⟨g11, x10, ex10, hf⟩ := rd_e hf
            refine lM_1 K g11 dX10_door_50 ?_
            refine o_nmi ex10 ?_
            refine o_bipush K 10 dX10_door_51 (by decide) ?_
            refine o_icmp_ne K 61 dX10_door_53 (by decide) (fun c12 => ?_) (fun c12 => ?_)
            · have hf := im c12 hf
              refine o_aload_n K 0 dX10_door_61 rfl rfl ?_
              refine o_iload_n K 1 dX10_door_62 rfl rfl ?_
              refine o_iload_n K 2 dX10_door_63 rfl rfl ?_
              refine o_iload_n K 3 dX10_door_64 rfl rfl ?_
              refine o_iload K 4 dX10_door_65 rfl ?_
              refine o_iconst K 0 dX10_door_67 (by decide) ?_
              obtain ⟨r13, M14, er13, hf⟩ := bd2_e hf
              refine o_callV K [.int a1, .int a2, .int a3, .int a4, .int 0] (k_X10_comes x.2.1 E D ca h M a1 a2 a3 a4 (0 : Int32) er13) s_X10_97 (ltM (by decide)) rfl rfl rfl rfl ⟨by decide, by decide⟩ (Nat.le_of_ble_eq_true rfl) _ rfl dX10_door_68 ?_
              show Go x D (tysOf ca) h (LaM ca h) 5 M14 71 [some (.ref (h 0)), some (.int a1), some (.int a2), some (.int a3), some (.int a4)] [.int r13]
              exact e_iret K hf hR dX10_door_71
            · have hf := ip c12 hf
              refine o_ldc K q1103 dX10_door_56 ?_
              refine o_goto K 71 dX10_door_58 (by decide) ?_
              exact e_iret K hf hR dX10_door_71
          · have hf := ip c9 hf
            refine o_ldc K q1102 dX10_door_42 ?_
            exact e_iret K hf hR dX10_door_44
def f_X10_counts_l9 : Nat → Int32 → Int32 → Mem → Option Int32
  | 0, _, _, _ => none
  | n + 1, a0, a1, M => if a1 < 0 then (some (((-1) : Int32))) else rd M 1 1460 ((88 : Int32) + ((2 : Int32) * a1)) fun x5 => if (x5 / 1000) = a0 then (some (a1)) else nm (a1 + (-1) : Int32) fun x8 => f_X10_counts_l9 n a0 x8 M
set_option maxHeartbeats 4000000 in
set_option maxRecDepth 100000 in
theorem t_X10_counts_l9 {x : En} {E : Amd} {D : va_G} {ca : Nat → ClassId} {h : Nat → Nat} {M : Mem} (K : Kx x E D (tysOf ca) h (LaM ca h) RX10 cX10_counts 3 0 0) {r0 : Int32} (hR : Rt x D h (LaM ca h) (some .int) (some (.int r0)) M) : ∀ (n : Nat) (a0 : Int32) (a1 : Int32), f_X10_counts_l9 n a0 a1 M = some r0 → Go x D (tysOf ca) h (LaM ca h) 3 M 9 [some (.ref (h 0)), some (.int a0), some (.int a1)] [] := by
  intro n
  induction n with
  | zero =>
    intro a0 a1 hf
    cases hf
  | succ n ih =>
    intro a0 a1 hf
    rw [f_X10_counts_l9] at hf
    refine o_iload_n K 2 dX10_counts_9 rfl rfl ?_
    refine o_if_lt K 40 dX10_counts_10 (by decide) (fun c4 => ?_) (fun c4 => ?_)
    · have hf := ip c4 hf
      refine o_iconst K (-1) dX10_counts_40 (by decide) ?_
      exact r_iret K hf hR dX10_counts_41
    · have hf := im c4 hf
      refine o_aload_n K 0 dX10_counts_13 rfl rfl ?_
      refine gM_9 K dX10_counts_14 ?_
      refine o_bipush K 88 dX10_counts_17 (by decide) ?_
      refine o_iconst K 2 dX10_counts_19 (by decide) ?_
      refine o_iload_n K 2 dX10_counts_20 rfl rfl ?_
      refine o_imul K dX10_counts_21 ?_
      refine o_iadd K dX10_counts_22 ?_
      obtain ⟨g6, x5, ex5, hf⟩ := rd_e hf
      refine lM_1 K g6 dX10_counts_23 ?_
      refine o_nmi ex5 ?_
      refine o_sipush K 1000 dX10_counts_24 (by decide) ?_
      refine o_idiv K dX10_counts_27 (by decide) ?_
      refine o_iload_n K 1 dX10_counts_28 rfl rfl ?_
      refine o_icmp_ne K 34 dX10_counts_29 (by decide) (fun c7 => ?_) (fun c7 => ?_)
      · have hf := im c7 hf
        obtain ⟨x8, ex8, hf⟩ := nm_o hf
        refine o_iinc K 2 x8 [some (.ref (h 0)), some (.int a0), some (.int x8)] dX10_counts_34 rfl (inc_e (by decide) ex8) (by decide) rfl rfl ?_
        refine o_goto K 9 dX10_counts_37 (by decide) ?_
        exact ih a0 x8 hf
      · have hf := ip c7 hf
        refine o_iload_n K 2 dX10_counts_32 rfl rfl ?_
        exact r_iret K hf hR dX10_counts_33
def f_X10_counts (M : Mem) (a1 : Int32) : Option Int32 := rd M 1 1460 5 fun x1 => nm (x1 - 1 : Int32) fun x3 => f_X10_counts_l9 FU a1 x3 M
set_option maxHeartbeats 4000000 in
set_option maxRecDepth 100000 in
theorem k_X10_counts (l : Launch) (E : Amd) (D : va_G) (ca : Nat → ClassId) (h : Nat → Nat) (M : Mem) (a1 : Int32) {r0 : Int32} (hf : f_X10_counts M a1 = some r0) : Ct l E D (tysOf ca) h (LaM ca h) yX10_counts cX10_counts 3 (some .int) 0 0 [.ref (h 0), .int a1] M (some (.int r0)) M := by
  refine Ct.mk [some (.ref (h 0)), some (.int a1), none] (by decide) (Nat.le_of_ble_eq_true rfl) (argsV [.ref (h 0), .int a1] 1 rfl rfl) ?_
  intro x hx0 K hR
  have K : Kx x E D (tysOf ca) h (LaM ca h) RX10 cX10_counts 3 0 0 := K
  rw [f_X10_counts] at hf
  refine o_aload_n K 0 dX10_counts_0 rfl rfl ?_
  refine gM_9 K dX10_counts_1 ?_
  refine o_iconst K 5 dX10_counts_4 (by decide) ?_
  obtain ⟨g2, x1, ex1, hf⟩ := rd_e hf
  refine lM_1 K g2 dX10_counts_5 ?_
  refine o_nmi ex1 ?_
  refine o_iconst K 1 dX10_counts_6 (by decide) ?_
  refine o_isub K dX10_counts_7 ?_
  obtain ⟨x3, ex3, hf⟩ := nm_o hf
  refine o_nmi ex3 ?_
  refine o_istore_n K 2 [some (.ref (h 0)), some (.int a1), some (.int x3)] dX10_counts_8 rfl (by decide) rfl rfl ?_
  exact t_X10_counts_l9 K hR FU a1 x3 hf
def f_X10_two (a1 : Int32) (a2 : Int32) (a3 : Int32) : Option Int32 := if a1 = (-8) then (some (a2 * a3)) else if a1 = (-7) then (some (a2 - a3)) else if a1 = (-6) then (some (a2 + a3)) else if a1 = (-5) then (if a2 ≤ a3 then (some ((0 : Int32))) else some ((1 : Int32))) else if a1 = (-4) then (if a2 = a3 then (some ((1 : Int32))) else some ((0 : Int32))) else if a1 = (-3) then (if a3 ≤ a2 then (some ((0 : Int32))) else some ((1 : Int32))) else if a1 = (-2) then (if a2 = 0 then (some ((0 : Int32))) else if a3 = 0 then (some ((0 : Int32))) else some ((1 : Int32))) else if a1 = (-1) then (if a2 = 0 then (if a3 = 0 then (some ((0 : Int32))) else some ((1 : Int32))) else some ((1 : Int32))) else if a3 = 0 then (some ((0 : Int32))) else gd (decide (¬ a3 = (0 : Int32))) <| some (a2 / a3)
set_option maxHeartbeats 4000000 in
set_option maxRecDepth 100000 in
theorem k_X10_two (l : Launch) (E : Amd) (D : va_G) (ca : Nat → ClassId) (h : Nat → Nat) (M : Mem) (a1 : Int32) (a2 : Int32) (a3 : Int32) {r0 : Int32} (hf : f_X10_two a1 a2 a3 = some r0) : Ct l E D (tysOf ca) h (LaM ca h) yX10_two cX10_two 3 (some .int) 0 0 [.int a1, .int a2, .int a3] M (some (.int r0)) M := by
  refine Ct.mk [some (.int a1), some (.int a2), some (.int a3)] (by decide) (Nat.le_of_ble_eq_true rfl) (argsV [.int a1, .int a2, .int a3] 0 rfl rfl) ?_
  intro x hx0 K hR
  have K : Kx x E D (tysOf ca) h (LaM ca h) RX10 cX10_two 3 0 0 := K
  rw [f_X10_two] at hf
  refine o_iload_n K 0 dX10_two_0 rfl rfl ?_
  by_cases c1 : a1 = (-8)
  · have hf := ip c1 hf
    refine o_table K 117 dX10_two_1 (by decide) (by rw [c1]; try decide) (by decide) ?_
    refine o_iload_n K 1 dX10_two_117 rfl rfl ?_
    refine o_iload_n K 2 dX10_two_118 rfl rfl ?_
    refine o_imul K dX10_two_119 ?_
    exact r_iret K hf hR dX10_two_120
  have hf := im c1 hf
  by_cases c2 : a1 = (-7)
  · have hf := ip c2 hf
    refine o_table K 113 dX10_two_1 (by decide) (by rw [c2]; try decide) (by decide) ?_
    refine o_iload_n K 1 dX10_two_113 rfl rfl ?_
    refine o_iload_n K 2 dX10_two_114 rfl rfl ?_
    refine o_isub K dX10_two_115 ?_
    exact r_iret K hf hR dX10_two_116
  have hf := im c2 hf
  by_cases c3 : a1 = (-6)
  · have hf := ip c3 hf
    refine o_table K 109 dX10_two_1 (by decide) (by rw [c3]; try decide) (by decide) ?_
    refine o_iload_n K 1 dX10_two_109 rfl rfl ?_
    refine o_iload_n K 2 dX10_two_110 rfl rfl ?_
    refine o_iadd K dX10_two_111 ?_
    exact r_iret K hf hR dX10_two_112
  have hf := im c3 hf
  by_cases c4 : a1 = (-5)
  · have hf := ip c4 hf
    refine o_table K 98 dX10_two_1 (by decide) (by rw [c4]; try decide) (by decide) ?_
    refine o_iload_n K 1 dX10_two_98 rfl rfl ?_
    refine o_iload_n K 2 dX10_two_99 rfl rfl ?_
    refine o_icmp_le K 107 dX10_two_100 (by decide) (fun c5 => ?_) (fun c5 => ?_)
    · have hf := ip c5 hf
      refine o_iconst K 0 dX10_two_107 (by decide) ?_
      exact r_iret K hf hR dX10_two_108
    · have hf := im c5 hf
      refine o_iconst K 1 dX10_two_103 (by decide) ?_
      refine o_goto K 108 dX10_two_104 (by decide) ?_
      exact r_iret K hf hR dX10_two_108
  have hf := im c4 hf
  by_cases c6 : a1 = (-4)
  · have hf := ip c6 hf
    refine o_table K 87 dX10_two_1 (by decide) (by rw [c6]; try decide) (by decide) ?_
    refine o_iload_n K 1 dX10_two_87 rfl rfl ?_
    refine o_iload_n K 2 dX10_two_88 rfl rfl ?_
    refine o_icmp_ne K 96 dX10_two_89 (by decide) (fun c7 => ?_) (fun c7 => ?_)
    · have hf := im c7 hf
      refine o_iconst K 0 dX10_two_96 (by decide) ?_
      exact r_iret K hf hR dX10_two_97
    · have hf := ip c7 hf
      refine o_iconst K 1 dX10_two_92 (by decide) ?_
      refine o_goto K 97 dX10_two_93 (by decide) ?_
      exact r_iret K hf hR dX10_two_97
  have hf := im c6 hf
  by_cases c8 : a1 = (-3)
  · have hf := ip c8 hf
    refine o_table K 76 dX10_two_1 (by decide) (by rw [c8]; try decide) (by decide) ?_
    refine o_iload_n K 1 dX10_two_76 rfl rfl ?_
    refine o_iload_n K 2 dX10_two_77 rfl rfl ?_
    refine o_icmp_ge K 85 dX10_two_78 (by decide) (fun c9 => ?_) (fun c9 => ?_)
    · have hf := ip c9 hf
      refine o_iconst K 0 dX10_two_85 (by decide) ?_
      exact r_iret K hf hR dX10_two_86
    · have hf := im c9 hf
      refine o_iconst K 1 dX10_two_81 (by decide) ?_
      refine o_goto K 86 dX10_two_82 (by decide) ?_
      exact r_iret K hf hR dX10_two_86
  have hf := im c8 hf
  by_cases c10 : a1 = (-2)
  · have hf := ip c10 hf
    refine o_table K 62 dX10_two_1 (by decide) (by rw [c10]; try decide) (by decide) ?_
    refine o_iload_n K 1 dX10_two_62 rfl rfl ?_
    refine o_if_eq K 74 dX10_two_63 (by decide) (fun c11 => ?_) (fun c11 => ?_)
    · have hf := ip c11 hf
      refine o_iconst K 0 dX10_two_74 (by decide) ?_
      exact r_iret K hf hR dX10_two_75
    · have hf := im c11 hf
      refine o_iload_n K 2 dX10_two_66 rfl rfl ?_
      refine o_if_eq K 74 dX10_two_67 (by decide) (fun c12 => ?_) (fun c12 => ?_)
      · have hf := ip c12 hf
        refine o_iconst K 0 dX10_two_74 (by decide) ?_
        exact r_iret K hf hR dX10_two_75
      · have hf := im c12 hf
        refine o_iconst K 1 dX10_two_70 (by decide) ?_
        refine o_goto K 75 dX10_two_71 (by decide) ?_
        exact r_iret K hf hR dX10_two_75
  have hf := im c10 hf
  by_cases c13 : a1 = (-1)
  · have hf := ip c13 hf
    refine o_table K 48 dX10_two_1 (by decide) (by rw [c13]; try decide) (by decide) ?_
    refine o_iload_n K 1 dX10_two_48 rfl rfl ?_
    refine o_if_ne K 56 dX10_two_49 (by decide) (fun c14 => ?_) (fun c14 => ?_)
    · have hf := im c14 hf
      refine o_iconst K 1 dX10_two_56 (by decide) ?_
      refine o_goto K 61 dX10_two_57 (by decide) ?_
      exact r_iret K hf hR dX10_two_61
    · have hf := ip c14 hf
      refine o_iload_n K 2 dX10_two_52 rfl rfl ?_
      refine o_if_eq K 60 dX10_two_53 (by decide) (fun c15 => ?_) (fun c15 => ?_)
      · have hf := ip c15 hf
        refine o_iconst K 0 dX10_two_60 (by decide) ?_
        exact r_iret K hf hR dX10_two_61
      · have hf := im c15 hf
        refine o_iconst K 1 dX10_two_56 (by decide) ?_
        refine o_goto K 61 dX10_two_57 (by decide) ?_
        exact r_iret K hf hR dX10_two_61
  have hf := im c13 hf
  refine o_table K 121 dX10_two_1 (by decide) (tsel_d [-8, -7, -6, -5, -4, -3, -2, -1] (List.forall_mem_cons.mpr ⟨lv_neT c1 rfl, (List.forall_mem_cons.mpr ⟨lv_neT c2 rfl, (List.forall_mem_cons.mpr ⟨lv_neT c3 rfl, (List.forall_mem_cons.mpr ⟨lv_neT c4 rfl, (List.forall_mem_cons.mpr ⟨lv_neT c6 rfl, (List.forall_mem_cons.mpr ⟨lv_neT c8 rfl, (List.forall_mem_cons.mpr ⟨lv_neT c10 rfl, (List.forall_mem_cons.mpr ⟨lv_neT c13 rfl, (List.forall_mem_nil _)⟩)⟩)⟩)⟩)⟩)⟩)⟩)⟩) (by decide)) (by decide) ?_
  refine o_iload_n K 2 dX10_two_121 rfl rfl ?_
  refine o_if_ne K 129 dX10_two_122 (by decide) (fun c16 => ?_) (fun c16 => ?_)
  · have hf := im c16 hf
    refine o_iload_n K 1 dX10_two_129 rfl rfl ?_
    refine o_iload_n K 2 dX10_two_130 rfl rfl ?_
    obtain ⟨g17, hf⟩ := gd_e hf
    refine o_idiv K dX10_two_131 (of_decide_eq_true g17) ?_
    exact r_iret K hf hR dX10_two_132
  · have hf := ip c16 hf
    refine o_iconst K 0 dX10_two_125 (by decide) ?_
    refine o_goto K 132 dX10_two_126 (by decide) ?_
    exact r_iret K hf hR dX10_two_132
def f_X10_worksOut_j149 (rec21 : Int32 → Int32 → Int32 → Int32 → Mem → Option (Int32 × Mem)) (a0 : Int32) (a1 : Int32) (a2 : Int32) (a3 : Int32) (M : Mem) : Option (Int32 × Mem) := nm (a3 + 1 : Int32) fun x25 => rec21 a0 a1 a2 x25 M
set_option maxHeartbeats 4000000 in
set_option maxRecDepth 100000 in
theorem t_X10_worksOut_j149 {x : En} {E : Amd} {D : va_G} {ca : Nat → ClassId} {h : Nat → Nat} (K : Kx x E D (tysOf ca) h (LaM ca h) RX10 cX10_worksOut 6 1 22) {r0 : Int32} {Mo : Mem} (hR : Rt x D h (LaM ca h) (some .int) (some (.int r0)) Mo) {rec21 : Int32 → Int32 → Int32 → Int32 → Mem → Option (Int32 × Mem)} (ih21 : ∀ (w0 : Int32) (w1 : Int32) (w2 : Int32) (w3 : Int32) (M : Mem), rec21 w0 w1 w2 w3 M = some (r0, Mo) → Go x D (tysOf ca) h (LaM ca h) 6 M 21 [some (.ref (h 0)), some (.int w0), some (.int w1), some (.int w2), some (.int w3), none] []) (a0 : Int32) (a1 : Int32) (a2 : Int32) (a3 : Int32) (M : Mem) (hf : f_X10_worksOut_j149 rec21 a0 a1 a2 a3 M = some (r0, Mo)) : Go x D (tysOf ca) h (LaM ca h) 6 M 149 [some (.ref (h 0)), some (.int a0), some (.int a1), some (.int a2), some (.int a3), none] [] := by
  rw [f_X10_worksOut_j149] at hf
  obtain ⟨x25, ex25, hf⟩ := nm_o hf
  refine o_iinc K 4 x25 [some (.ref (h 0)), some (.int a0), some (.int a1), some (.int a2), some (.int x25), none] dX10_worksOut_149 rfl (inc_e (by decide) ex25) (by decide) rfl rfl ?_
  refine o_goto K 21 dX10_worksOut_152 (by decide) ?_
  exact ih21 a0 a1 a2 x25 M hf
def f_X10_worksOut_j78 (rec21 : Int32 → Int32 → Int32 → Int32 → Mem → Option (Int32 × Mem)) (a0 : Int32) (a1 : Int32) (a2 : Int32) (a3 : Int32) (a4 : Int32) (a5 : Int32) (M : Mem) : Option (Int32 × Mem) := wr M 15 96 a5 a4 fun M29 => nm (a1 + 1 : Int32) fun x30 => f_X10_worksOut_j149 rec21 a0 x30 a2 a3 M29
set_option maxHeartbeats 4000000 in
set_option maxRecDepth 100000 in
theorem t_X10_worksOut_j78 {x : En} {E : Amd} {D : va_G} {ca : Nat → ClassId} {h : Nat → Nat} (K : Kx x E D (tysOf ca) h (LaM ca h) RX10 cX10_worksOut 6 1 22) {r0 : Int32} {Mo : Mem} (hR : Rt x D h (LaM ca h) (some .int) (some (.int r0)) Mo) {rec21 : Int32 → Int32 → Int32 → Int32 → Mem → Option (Int32 × Mem)} (ih21 : ∀ (w0 : Int32) (w1 : Int32) (w2 : Int32) (w3 : Int32) (M : Mem), rec21 w0 w1 w2 w3 M = some (r0, Mo) → Go x D (tysOf ca) h (LaM ca h) 6 M 21 [some (.ref (h 0)), some (.int w0), some (.int w1), some (.int w2), some (.int w3), none] []) (a0 : Int32) (a1 : Int32) (a2 : Int32) (a3 : Int32) (a4 : Int32) (a5 : Int32) (M : Mem) (hf : f_X10_worksOut_j78 rec21 a0 a1 a2 a3 a4 a5 M = some (r0, Mo)) : Go x D (tysOf ca) h (LaM ca h) 6 M 78 [some (.ref (h 0)), some (.int a0), some (.int a1), some (.int a2), some (.int a3), none] [.int a4, .int a5, .ref (h 15)] := by
  rw [f_X10_worksOut_j78] at hf
  obtain ⟨g28, M29, eM29, hf⟩ := wr_e hf
  refine sM_15 K g28 dX10_worksOut_78 ?_
  refine o_nmM eM29 ?_
  obtain ⟨x30, ex30, hf⟩ := nm_o hf
  refine o_iinc K 2 x30 [some (.ref (h 0)), some (.int a0), some (.int x30), some (.int a2), some (.int a3), none] dX10_worksOut_79 rfl (inc_e (by decide) ex30) (by decide) rfl rfl ?_
  refine o_goto K 149 dX10_worksOut_82 (by decide) ?_
  exact t_X10_worksOut_j149 K hR ih21 a0 x30 a2 a3 M29 hf
def f_X10_worksOut_j115 (rec21 : Int32 → Int32 → Int32 → Int32 → Mem → Option (Int32 × Mem)) (a0 : Int32) (a1 : Int32) (a2 : Int32) (a3 : Int32) (a4 : Int32) (a5 : Int32) (M : Mem) : Option (Int32 × Mem) := wr M 15 96 a5 a4 fun M27 => f_X10_worksOut_j149 rec21 a0 a1 a2 a3 M27
set_option maxHeartbeats 4000000 in
set_option maxRecDepth 100000 in
theorem t_X10_worksOut_j115 {x : En} {E : Amd} {D : va_G} {ca : Nat → ClassId} {h : Nat → Nat} (K : Kx x E D (tysOf ca) h (LaM ca h) RX10 cX10_worksOut 6 1 22) {r0 : Int32} {Mo : Mem} (hR : Rt x D h (LaM ca h) (some .int) (some (.int r0)) Mo) {rec21 : Int32 → Int32 → Int32 → Int32 → Mem → Option (Int32 × Mem)} (ih21 : ∀ (w0 : Int32) (w1 : Int32) (w2 : Int32) (w3 : Int32) (M : Mem), rec21 w0 w1 w2 w3 M = some (r0, Mo) → Go x D (tysOf ca) h (LaM ca h) 6 M 21 [some (.ref (h 0)), some (.int w0), some (.int w1), some (.int w2), some (.int w3), none] []) (a0 : Int32) (a1 : Int32) (a2 : Int32) (a3 : Int32) (a4 : Int32) (a5 : Int32) (M : Mem) (hf : f_X10_worksOut_j115 rec21 a0 a1 a2 a3 a4 a5 M = some (r0, Mo)) : Go x D (tysOf ca) h (LaM ca h) 6 M 115 [some (.ref (h 0)), some (.int a0), some (.int a1), some (.int a2), some (.int a3), none] [.int a4, .int a5, .ref (h 15)] := by
  rw [f_X10_worksOut_j115] at hf
  obtain ⟨g26, M27, eM27, hf⟩ := wr_e hf
  refine sM_15 K g26 dX10_worksOut_115 ?_
  refine o_nmM eM27 ?_
  refine o_goto K 149 dX10_worksOut_116 (by decide) ?_
  exact t_X10_worksOut_j149 K hR ih21 a0 a1 a2 a3 M27 hf
def f_X10_worksOut_l21 : Nat → Int32 → Int32 → Int32 → Int32 → Mem → Option (Int32 × Mem)
  | 0, _, _, _, _, _ => none
  | n + 1, a0, a1, a2, a3, M => if a2 ≤ a3 then (rd M 15 96 0 fun x5 => some (x5, M)) else rd M 1 1460 (((116 : Int32) + ((96 : Int32) * a0)) + a3) fun x7 => if x7 < 0 then (if x7 = (-10) then (rd M 15 96 (a1 - 1) fun x19 => if x19 = 0 then (f_X10_worksOut_j115 (f_X10_worksOut_l21 n) a0 a1 a2 a3 (1 : Int32) (a1 - 1) M) else f_X10_worksOut_j115 (f_X10_worksOut_l21 n) a0 a1 a2 a3 (0 : Int32) (a1 - 1) M) else nm (a1 + (-1) : Int32) fun x11 => rd M 15 96 (x11 - 1) fun x12 => rd M 15 96 x11 fun x14 => bd (f_X10_two x7 x12 x14) fun r16 => wr M 15 96 (x11 - 1) r16 fun M18 => f_X10_worksOut_j149 (f_X10_worksOut_l21 n) a0 x11 a2 a3 M18) else if 10000 ≤ x7 then (rd M 16 4 (x7 - 10000) fun x23 => f_X10_worksOut_j78 (f_X10_worksOut_l21 n) a0 a1 a2 a3 x23 a1 M) else f_X10_worksOut_j78 (f_X10_worksOut_l21 n) a0 a1 a2 a3 x7 a1 M
set_option maxHeartbeats 4000000 in
set_option maxRecDepth 100000 in
theorem t_X10_worksOut_l21 {x : En} {E : Amd} {D : va_G} {ca : Nat → ClassId} {h : Nat → Nat} (K : Kx x E D (tysOf ca) h (LaM ca h) RX10 cX10_worksOut 6 1 22) {r0 : Int32} {Mo : Mem} (hR : Rt x D h (LaM ca h) (some .int) (some (.int r0)) Mo) : ∀ (n : Nat) (a0 : Int32) (a1 : Int32) (a2 : Int32) (a3 : Int32) (M : Mem), f_X10_worksOut_l21 n a0 a1 a2 a3 M = some (r0, Mo) → Go x D (tysOf ca) h (LaM ca h) 6 M 21 [some (.ref (h 0)), some (.int a0), some (.int a1), some (.int a2), some (.int a3), none] [] := by
  intro n
  induction n with
  | zero =>
    intro a0 a1 a2 a3 M hf
    cases hf
  | succ n ih =>
    intro a0 a1 a2 a3 M hf
    rw [f_X10_worksOut_l21] at hf
    refine o_iload K 4 dX10_worksOut_21 rfl ?_
    refine o_iload_n K 3 dX10_worksOut_23 rfl rfl ?_
    refine o_icmp_ge K 155 dX10_worksOut_24 (by decide) (fun c4 => ?_) (fun c4 => ?_)
    · have hf := ip c4 hf
      refine o_aload_n K 0 dX10_worksOut_155 rfl rfl ?_
      refine gM_54 K dX10_worksOut_156 ?_
      refine o_iconst K 0 dX10_worksOut_159 (by decide) ?_
      obtain ⟨g6, x5, ex5, hf⟩ := rd_e hf
      refine lM_15 K g6 dX10_worksOut_160 ?_
      refine o_nmi ex5 ?_
      exact e_iret K hf hR dX10_worksOut_161
    · have hf := im c4 hf
      refine o_aload_n K 0 dX10_worksOut_27 rfl rfl ?_
      refine gM_9 K dX10_worksOut_28 ?_
      refine o_bipush K 116 dX10_worksOut_31 (by decide) ?_
      refine o_bipush K 96 dX10_worksOut_33 (by decide) ?_
      refine o_iload_n K 1 dX10_worksOut_35 rfl rfl ?_
      refine o_imul K dX10_worksOut_36 ?_
      refine o_iadd K dX10_worksOut_37 ?_
      refine o_iload K 4 dX10_worksOut_38 rfl ?_
      refine o_iadd K dX10_worksOut_40 ?_
      obtain ⟨g8, x7, ex7, hf⟩ := rd_e hf
      refine lM_1 K g8 dX10_worksOut_41 ?_
      refine o_nmi ex7 ?_
      refine o_istore K 5 [some (.ref (h 0)), some (.int a0), some (.int a1), some (.int a2), some (.int a3), some (.int x7)] dX10_worksOut_42 (by decide) rfl rfl ?_
      refine o_iload K 5 dX10_worksOut_44 rfl ?_
      refine o_if_lt K 85 dX10_worksOut_46 (by decide) (fun c9 => ?_) (fun c9 => ?_)
      · have hf := ip c9 hf
        refine o_iload K 5 dX10_worksOut_85 rfl ?_
        refine o_bipush K (-10) dX10_worksOut_87 (by decide) ?_
        refine o_icmp_ne K 119 dX10_worksOut_89 (by decide) (fun c10 => ?_) (fun c10 => ?_)
        · have hf := im c10 hf
          obtain ⟨x11, ex11, hf⟩ := nm_o hf
          refine o_iinc K 2 x11 [some (.ref (h 0)), some (.int a0), some (.int x11), some (.int a2), some (.int a3), some (.int x7)] dX10_worksOut_119 rfl (inc_e (by decide) ex11) (by decide) rfl rfl ?_
          refine o_aload_n K 0 dX10_worksOut_122 rfl rfl ?_
          refine gM_54 K dX10_worksOut_123 ?_
          refine o_iload_n K 2 dX10_worksOut_126 rfl rfl ?_
          refine o_iconst K 1 dX10_worksOut_127 (by decide) ?_
          refine o_isub K dX10_worksOut_128 ?_
          refine o_iload K 5 dX10_worksOut_129 rfl ?_
          refine o_aload_n K 0 dX10_worksOut_131 rfl rfl ?_
          refine gM_54 K dX10_worksOut_132 ?_
          refine o_iload_n K 2 dX10_worksOut_135 rfl rfl ?_
          refine o_iconst K 1 dX10_worksOut_136 (by decide) ?_
          refine o_isub K dX10_worksOut_137 ?_
          obtain ⟨g13, x12, ex12, hf⟩ := rd_e hf
          refine lM_15 K g13 dX10_worksOut_138 ?_
          refine o_nmi ex12 ?_
          refine o_aload_n K 0 dX10_worksOut_139 rfl rfl ?_
          refine gM_54 K dX10_worksOut_140 ?_
          refine o_iload_n K 2 dX10_worksOut_143 rfl rfl ?_
          obtain ⟨g15, x14, ex14, hf⟩ := rd_e hf
          refine lM_15 K g15 dX10_worksOut_144 ?_
          refine o_nmi ex14 ?_
          obtain ⟨r16, er16, hf⟩ := bd_e hf
          refine o_callS K [.int x7, .int x12, .int x14] (k_X10_two x.2.1 E D ca h M x7 x12 x14 er16) s_X10_270 rfl ⟨by decide, by decide⟩ (Nat.le_of_ble_eq_true rfl) _ rfl dX10_worksOut_145 ?_
          show Go x D (tysOf ca) h (LaM ca h) 6 M 148 [some (.ref (h 0)), some (.int a0), some (.int x11), some (.int a2), some (.int a3), some (.int x7)] [.int r16, .int (x11 - 1), .ref (h 15)]
          obtain ⟨g17, M18, eM18, hf⟩ := wr_e hf
          refine sM_15 K g17 dX10_worksOut_148 ?_
          refine o_nmM eM18 ?_
          refine o_drop [true, true, true, true, true, false] (V2 := [some (.ref (h 0)), some (.int a0), some (.int x11), some (.int a2), some (.int a3), none]) rfl ?_
          exact t_X10_worksOut_j149 K hR ih a0 x11 a2 a3 M18 hf
        · have hf := ip c10 hf
          refine o_aload_n K 0 dX10_worksOut_92 rfl rfl ?_
          refine gM_54 K dX10_worksOut_93 ?_
          refine o_iload_n K 2 dX10_worksOut_96 rfl rfl ?_
          refine o_iconst K 1 dX10_worksOut_97 (by decide) ?_
          refine o_isub K dX10_worksOut_98 ?_
          refine o_aload_n K 0 dX10_worksOut_99 rfl rfl ?_
          refine gM_54 K dX10_worksOut_100 ?_
          refine o_iload_n K 2 dX10_worksOut_103 rfl rfl ?_
          refine o_iconst K 1 dX10_worksOut_104 (by decide) ?_
          refine o_isub K dX10_worksOut_105 ?_
          obtain ⟨g20, x19, ex19, hf⟩ := rd_e hf
          refine lM_15 K g20 dX10_worksOut_106 ?_
          refine o_nmi ex19 ?_
          refine o_if_ne K 114 dX10_worksOut_107 (by decide) (fun c21 => ?_) (fun c21 => ?_)
          · have hf := im c21 hf
            refine o_iconst K 0 dX10_worksOut_114 (by decide) ?_
            refine o_drop [true, true, true, true, true, false] (V2 := [some (.ref (h 0)), some (.int a0), some (.int a1), some (.int a2), some (.int a3), none]) rfl ?_
            exact t_X10_worksOut_j115 K hR ih a0 a1 a2 a3 (0 : Int32) (a1 - 1) M hf
          · have hf := ip c21 hf
            refine o_iconst K 1 dX10_worksOut_110 (by decide) ?_
            refine o_goto K 115 dX10_worksOut_111 (by decide) ?_
            refine o_drop [true, true, true, true, true, false] (V2 := [some (.ref (h 0)), some (.int a0), some (.int a1), some (.int a2), some (.int a3), none]) rfl ?_
            exact t_X10_worksOut_j115 K hR ih a0 a1 a2 a3 (1 : Int32) (a1 - 1) M hf
      · have hf := im c9 hf
        refine o_aload_n K 0 dX10_worksOut_49 rfl rfl ?_
        refine gM_54 K dX10_worksOut_50 ?_
        refine o_iload_n K 2 dX10_worksOut_53 rfl rfl ?_
        refine o_iload K 5 dX10_worksOut_54 rfl ?_
        refine o_sipush K 10000 dX10_worksOut_56 (by decide) ?_
        refine o_icmp_ge K 67 dX10_worksOut_59 (by decide) (fun c22 => ?_) (fun c22 => ?_)
        · have hf := ip c22 hf
          refine o_aload_n K 0 dX10_worksOut_67 rfl rfl ?_
          refine gM_57 K dX10_worksOut_68 ?_
          refine o_iload K 5 dX10_worksOut_71 rfl ?_
          refine o_sipush K 10000 dX10_worksOut_73 (by decide) ?_
          refine o_isub K dX10_worksOut_76 ?_
          obtain ⟨g24, x23, ex23, hf⟩ := rd_e hf
          refine lM_16 K g24 dX10_worksOut_77 ?_
          refine o_nmi ex23 ?_
          refine o_drop [true, true, true, true, true, false] (V2 := [some (.ref (h 0)), some (.int a0), some (.int a1), some (.int a2), some (.int a3), none]) rfl ?_
          exact t_X10_worksOut_j78 K hR ih a0 a1 a2 a3 x23 a1 M hf
        · have hf := im c22 hf
          refine o_iload K 5 dX10_worksOut_62 rfl ?_
          refine o_goto K 78 dX10_worksOut_64 (by decide) ?_
          refine o_drop [true, true, true, true, true, false] (V2 := [some (.ref (h 0)), some (.int a0), some (.int a1), some (.int a2), some (.int a3), none]) rfl ?_
          exact t_X10_worksOut_j78 K hR ih a0 a1 a2 a3 x7 a1 M hf
def f_X10_worksOut (M : Mem) (a1 : Int32) : Option (Int32 × Mem) := rd M 1 1460 ((88 : Int32) + ((2 : Int32) * a1)) fun x1 => nm (x1 - x1 / 1000 * 1000 : Int32) fun x3 => f_X10_worksOut_l21 FU a1 (0 : Int32) x3 (0 : Int32) M
set_option maxHeartbeats 4000000 in
set_option maxRecDepth 100000 in
theorem k_X10_worksOut (l : Launch) (E : Amd) (D : va_G) (ca : Nat → ClassId) (h : Nat → Nat) (M : Mem) (a1 : Int32) {r0 : Int32} {Mo : Mem} (hf : f_X10_worksOut M a1 = some (r0, Mo)) : Ct l E D (tysOf ca) h (LaM ca h) yX10_worksOut cX10_worksOut 6 (some .int) 1 22 [.ref (h 0), .int a1] M (some (.int r0)) Mo := by
  refine Ct.mk [some (.ref (h 0)), some (.int a1), none, none, none, none] (by decide) (Nat.le_of_ble_eq_true rfl) (argsV [.ref (h 0), .int a1] 4 rfl rfl) ?_
  intro x hx0 K hR
  have K : Kx x E D (tysOf ca) h (LaM ca h) RX10 cX10_worksOut 6 1 22 := K
  rw [f_X10_worksOut] at hf
  refine o_iconst K 0 dX10_worksOut_0 (by decide) ?_
  refine o_istore_n K 2 [some (.ref (h 0)), some (.int a1), some (.int 0), none, none, none] dX10_worksOut_1 rfl (by decide) rfl rfl ?_
  refine o_aload_n K 0 dX10_worksOut_2 rfl rfl ?_
  refine gM_9 K dX10_worksOut_3 ?_
  refine o_bipush K 88 dX10_worksOut_6 (by decide) ?_
  refine o_iconst K 2 dX10_worksOut_8 (by decide) ?_
  refine o_iload_n K 1 dX10_worksOut_9 rfl rfl ?_
  refine o_imul K dX10_worksOut_10 ?_
  refine o_iadd K dX10_worksOut_11 ?_
  obtain ⟨g2, x1, ex1, hf⟩ := rd_e hf
  refine lM_1 K g2 dX10_worksOut_12 ?_
  refine o_nmi ex1 ?_
  refine o_sipush K 1000 dX10_worksOut_13 (by decide) ?_
  refine o_irem K dX10_worksOut_16 (by decide) ?_
  obtain ⟨x3, ex3, hf⟩ := nm_o hf
  refine o_nmi ex3 ?_
  refine o_istore_n K 3 [some (.ref (h 0)), some (.int a1), some (.int 0), some (.int x3), none, none] dX10_worksOut_17 rfl (by decide) rfl rfl ?_
  refine o_iconst K 0 dX10_worksOut_18 (by decide) ?_
  refine o_istore K 4 [some (.ref (h 0)), some (.int a1), some (.int 0), some (.int x3), some (.int 0), none] dX10_worksOut_19 (by decide) rfl rfl ?_
  exact t_X10_worksOut_l21 K hR FU a1 (0 : Int32) x3 (0 : Int32) M hf
def f_X10_letsOf_j81 (a0 : Int32) (a1 : Int32) (a2 : Int32) (M : Mem) : Option (Int32 × Mem) := bd (f_X10_of M a0 (0 : Int32)) fun r16 => if r16 = 1 then (some (a2 / 2, M)) else if r16 = 2 then (some (a2 + 3, M)) else if r16 = 3 then (if a1 = 0 then (some ((0 : Int32), M)) else some (a2 / 2, M)) else if r16 = 4 then (bd (f_X10_within (a2 + 3) (0 : Int32) (10 : Int32)) fun r22 => some (r22, M)) else if r16 = 5 then (bd (f_X10_of M a0 (3 : Int32)) fun r24 => some (r24, M)) else some (a2, M)
set_option maxHeartbeats 4000000 in
set_option maxRecDepth 100000 in
theorem t_X10_letsOf_j81 {x : En} {E : Amd} {D : va_G} {ca : Nat → ClassId} {h : Nat → Nat} (K : Kx x E D (tysOf ca) h (LaM ca h) RX10 cX10_letsOf 5 2 47) {r0 : Int32} {Mo : Mem} (hR : Rt x D h (LaM ca h) (some .int) (some (.int r0)) Mo) (a0 : Int32) (a1 : Int32) (a2 : Int32) (M : Mem) (hf : f_X10_letsOf_j81 a0 a1 a2 M = some (r0, Mo)) : Go x D (tysOf ca) h (LaM ca h) 5 M 81 [some (.ref (h 0)), some (.int a0), some (.int a1), none, none] [.int a2] := by
  rw [f_X10_letsOf_j81] at hf
  refine o_istore K 4 [some (.ref (h 0)), some (.int a0), some (.int a1), none, some (.int a2)] dX10_letsOf_81 (by decide) rfl rfl ?_
  refine o_aload_n K 0 dX10_letsOf_83 rfl rfl ?_
  refine o_iload_n K 1 dX10_letsOf_84 rfl rfl ?_
  refine o_iconst K 0 dX10_letsOf_85 (by decide) ?_
  obtain ⟨r16, er16, hf⟩ := bd_e hf
  refine o_callV K [.int a0, .int 0] (k_X10_of x.2.1 E D ca h M a0 (0 : Int32) er16) s_X10_101 (ltM (by decide)) rfl rfl rfl rfl ⟨by decide, by decide⟩ (Nat.le_of_ble_eq_true rfl) _ rfl dX10_letsOf_86 ?_
  show Go x D (tysOf ca) h (LaM ca h) 5 M 89 [some (.ref (h 0)), some (.int a0), some (.int a1), none, some (.int a2)] [.int r16]
  by_cases c17 : r16 = 1
  · have hf := ip c17 hf
    refine o_table K 124 dX10_letsOf_89 (by decide) (by rw [c17]; try decide) (by decide) ?_
    refine o_iload K 4 dX10_letsOf_124 rfl ?_
    refine o_iconst K 2 dX10_letsOf_126 (by decide) ?_
    refine o_idiv K dX10_letsOf_127 (by decide) ?_
    exact e_iret K hf hR dX10_letsOf_128
  have hf := im c17 hf
  by_cases c18 : r16 = 2
  · have hf := ip c18 hf
    refine o_table K 129 dX10_letsOf_89 (by decide) (by rw [c18]; try decide) (by decide) ?_
    refine o_iload K 4 dX10_letsOf_129 rfl ?_
    refine o_iconst K 3 dX10_letsOf_131 (by decide) ?_
    refine o_iadd K dX10_letsOf_132 ?_
    exact e_iret K hf hR dX10_letsOf_133
  have hf := im c18 hf
  by_cases c19 : r16 = 3
  · have hf := ip c19 hf
    refine o_table K 134 dX10_letsOf_89 (by decide) (by rw [c19]; try decide) (by decide) ?_
    refine o_iload_n K 2 dX10_letsOf_134 rfl rfl ?_
    refine o_if_eq K 145 dX10_letsOf_135 (by decide) (fun c20 => ?_) (fun c20 => ?_)
    · have hf := ip c20 hf
      refine o_iconst K 0 dX10_letsOf_145 (by decide) ?_
      exact e_iret K hf hR dX10_letsOf_146
    · have hf := im c20 hf
      refine o_iload K 4 dX10_letsOf_138 rfl ?_
      refine o_iconst K 2 dX10_letsOf_140 (by decide) ?_
      refine o_idiv K dX10_letsOf_141 (by decide) ?_
      refine o_goto K 146 dX10_letsOf_142 (by decide) ?_
      exact e_iret K hf hR dX10_letsOf_146
  have hf := im c19 hf
  by_cases c21 : r16 = 4
  · have hf := ip c21 hf
    refine o_table K 147 dX10_letsOf_89 (by decide) (by rw [c21]; try decide) (by decide) ?_
    refine o_iload K 4 dX10_letsOf_147 rfl ?_
    refine o_iconst K 3 dX10_letsOf_149 (by decide) ?_
    refine o_iadd K dX10_letsOf_150 ?_
    refine o_iconst K 0 dX10_letsOf_151 (by decide) ?_
    refine o_bipush K 10 dX10_letsOf_152 (by decide) ?_
    obtain ⟨r22, er22, hf⟩ := bd_e hf
    refine o_callS K [.int (a2 + 3), .int 0, .int 10] (k_X10_within x.2.1 E D ca h M (a2 + 3) (0 : Int32) (10 : Int32) er22) s_X10_112 rfl ⟨by decide, by decide⟩ (Nat.le_of_ble_eq_true rfl) _ rfl dX10_letsOf_154 ?_
    show Go x D (tysOf ca) h (LaM ca h) 5 M 157 [some (.ref (h 0)), some (.int a0), some (.int a1), none, some (.int a2)] [.int r22]
    exact e_iret K hf hR dX10_letsOf_157
  have hf := im c21 hf
  by_cases c23 : r16 = 5
  · have hf := ip c23 hf
    refine o_table K 158 dX10_letsOf_89 (by decide) (by rw [c23]; try decide) (by decide) ?_
    refine o_aload_n K 0 dX10_letsOf_158 rfl rfl ?_
    refine o_iload_n K 1 dX10_letsOf_159 rfl rfl ?_
    refine o_iconst K 3 dX10_letsOf_160 (by decide) ?_
    obtain ⟨r24, er24, hf⟩ := bd_e hf
    refine o_callV K [.int a0, .int 3] (k_X10_of x.2.1 E D ca h M a0 (3 : Int32) er24) s_X10_101 (ltM (by decide)) rfl rfl rfl rfl ⟨by decide, by decide⟩ (Nat.le_of_ble_eq_true rfl) _ rfl dX10_letsOf_161 ?_
    show Go x D (tysOf ca) h (LaM ca h) 5 M 164 [some (.ref (h 0)), some (.int a0), some (.int a1), none, some (.int a2)] [.int r24]
    exact e_iret K hf hR dX10_letsOf_164
  have hf := im c23 hf
  refine o_table K 165 dX10_letsOf_89 (by decide) (tsel_d [1, 2, 3, 4, 5] (List.forall_mem_cons.mpr ⟨lv_neT c17 rfl, (List.forall_mem_cons.mpr ⟨lv_neT c18 rfl, (List.forall_mem_cons.mpr ⟨lv_neT c19 rfl, (List.forall_mem_cons.mpr ⟨lv_neT c21 rfl, (List.forall_mem_cons.mpr ⟨lv_neT c23 rfl, (List.forall_mem_nil _)⟩)⟩)⟩)⟩)⟩) (by decide)) (by decide) ?_
  refine o_iload K 4 dX10_letsOf_165 rfl ?_
  exact e_iret K hf hR dX10_letsOf_167
def f_X10_letsOf_j15 (a0 : Int32) (a1 : Int32) (M : Mem) : Option (Int32 × Mem) := bd (f_X10_counts M (0 : Int32)) fun r3 => bd (f_X10_of M a0 (3 : Int32)) fun r4 => wr M 16 4 0 r4 fun M6 => bd (f_X10_of M6 a0 (4 : Int32)) fun r7 => wr M6 16 4 1 r7 fun M9 => if 0 ≤ r3 then (bd2 (f_X10_worksOut M9 r3) fun r11 M12 => bd (f_X10_within r11 (0 : Int32) (60 : Int32)) fun r13 => f_X10_letsOf_j81 a0 a1 r13 M12) else if a1 = 0 then (f_X10_letsOf_j81 a0 a1 (0 : Int32) M9) else bd (f_X10_of M9 a0 (3 : Int32)) fun r15 => f_X10_letsOf_j81 a0 a1 ((6 : Int32) * r15) M9
set_option maxHeartbeats 4000000 in
set_option maxRecDepth 100000 in
theorem t_X10_letsOf_j15 {x : En} {E : Amd} {D : va_G} {ca : Nat → ClassId} {h : Nat → Nat} (K : Kx x E D (tysOf ca) h (LaM ca h) RX10 cX10_letsOf 5 2 47) {r0 : Int32} {Mo : Mem} (hR : Rt x D h (LaM ca h) (some .int) (some (.int r0)) Mo) (a0 : Int32) (a1 : Int32) (M : Mem) (hf : f_X10_letsOf_j15 a0 a1 M = some (r0, Mo)) : Go x D (tysOf ca) h (LaM ca h) 5 M 15 [some (.ref (h 0)), some (.int a0), none, none, none] [.int a1] := by
  rw [f_X10_letsOf_j15] at hf
  refine o_istore_n K 2 [some (.ref (h 0)), some (.int a0), some (.int a1), none, none] dX10_letsOf_15 rfl (by decide) rfl rfl ?_
  refine o_aload_n K 0 dX10_letsOf_16 rfl rfl ?_
  refine o_iconst K 0 dX10_letsOf_17 (by decide) ?_
  obtain ⟨r3, er3, hf⟩ := bd_e hf
  refine o_callV K [.int 0] (k_X10_counts x.2.1 E D ca h M (0 : Int32) er3) s_X10_105 (ltM (by decide)) rfl rfl rfl rfl ⟨by decide, by decide⟩ (Nat.le_of_ble_eq_true rfl) _ rfl dX10_letsOf_18 ?_
  show Go x D (tysOf ca) h (LaM ca h) 5 M 21 [some (.ref (h 0)), some (.int a0), some (.int a1), none, none] [.int r3]
  refine o_istore_n K 3 [some (.ref (h 0)), some (.int a0), some (.int a1), some (.int r3), none] dX10_letsOf_21 rfl (by decide) rfl rfl ?_
  refine o_aload_n K 0 dX10_letsOf_22 rfl rfl ?_
  refine gM_57 K dX10_letsOf_23 ?_
  refine o_iconst K 0 dX10_letsOf_26 (by decide) ?_
  refine o_aload_n K 0 dX10_letsOf_27 rfl rfl ?_
  refine o_iload_n K 1 dX10_letsOf_28 rfl rfl ?_
  refine o_iconst K 3 dX10_letsOf_29 (by decide) ?_
  obtain ⟨r4, er4, hf⟩ := bd_e hf
  refine o_callV K [.int a0, .int 3] (k_X10_of x.2.1 E D ca h M a0 (3 : Int32) er4) s_X10_101 (ltM (by decide)) rfl rfl rfl rfl ⟨by decide, by decide⟩ (Nat.le_of_ble_eq_true rfl) _ rfl dX10_letsOf_30 ?_
  show Go x D (tysOf ca) h (LaM ca h) 5 M 33 [some (.ref (h 0)), some (.int a0), some (.int a1), some (.int r3), none] [.int r4, .int 0, .ref (h 16)]
  obtain ⟨g5, M6, eM6, hf⟩ := wr_e hf
  refine sM_16 K g5 dX10_letsOf_33 ?_
  refine o_nmM eM6 ?_
  refine o_aload_n K 0 dX10_letsOf_34 rfl rfl ?_
  refine gM_57 K dX10_letsOf_35 ?_
  refine o_iconst K 1 dX10_letsOf_38 (by decide) ?_
  refine o_aload_n K 0 dX10_letsOf_39 rfl rfl ?_
  refine o_iload_n K 1 dX10_letsOf_40 rfl rfl ?_
  refine o_iconst K 4 dX10_letsOf_41 (by decide) ?_
  obtain ⟨r7, er7, hf⟩ := bd_e hf
  refine o_callV K [.int a0, .int 4] (k_X10_of x.2.1 E D ca h M6 a0 (4 : Int32) er7) s_X10_101 (ltM (by decide)) rfl rfl rfl rfl ⟨by decide, by decide⟩ (Nat.le_of_ble_eq_true rfl) _ rfl dX10_letsOf_42 ?_
  show Go x D (tysOf ca) h (LaM ca h) 5 M6 45 [some (.ref (h 0)), some (.int a0), some (.int a1), some (.int r3), none] [.int r7, .int 1, .ref (h 16)]
  obtain ⟨g8, M9, eM9, hf⟩ := wr_e hf
  refine sM_16 K g8 dX10_letsOf_45 ?_
  refine o_nmM eM9 ?_
  refine o_iload_n K 3 dX10_letsOf_46 rfl rfl ?_
  refine o_if_ge K 70 dX10_letsOf_47 (by decide) (fun c10 => ?_) (fun c10 => ?_)
  · have hf := ip c10 hf
    refine o_aload_n K 0 dX10_letsOf_70 rfl rfl ?_
    refine o_iload_n K 3 dX10_letsOf_71 rfl rfl ?_
    obtain ⟨r11, M12, er11, hf⟩ := bd2_e hf
    refine o_callV K [.int r3] (k_X10_worksOut x.2.1 E D ca h M9 r3 er11) s_X10_109 (ltM (by decide)) rfl rfl rfl rfl ⟨by decide, by decide⟩ (Nat.le_of_ble_eq_true rfl) _ rfl dX10_letsOf_72 ?_
    show Go x D (tysOf ca) h (LaM ca h) 5 M12 75 [some (.ref (h 0)), some (.int a0), some (.int a1), some (.int r3), none] [.int r11]
    refine o_iconst K 0 dX10_letsOf_75 (by decide) ?_
    refine o_bipush K 60 dX10_letsOf_76 (by decide) ?_
    obtain ⟨r13, er13, hf⟩ := bd_e hf
    refine o_callS K [.int r11, .int 0, .int 60] (k_X10_within x.2.1 E D ca h M12 r11 (0 : Int32) (60 : Int32) er13) s_X10_112 rfl ⟨by decide, by decide⟩ (Nat.le_of_ble_eq_true rfl) _ rfl dX10_letsOf_78 ?_
    show Go x D (tysOf ca) h (LaM ca h) 5 M12 81 [some (.ref (h 0)), some (.int a0), some (.int a1), some (.int r3), none] [.int r13]
    refine o_drop [true, true, true, false, false] (V2 := [some (.ref (h 0)), some (.int a0), some (.int a1), none, none]) rfl ?_
    exact t_X10_letsOf_j81 K hR a0 a1 r13 M12 hf
  · have hf := im c10 hf
    refine o_iload_n K 2 dX10_letsOf_50 rfl rfl ?_
    refine o_if_eq K 66 dX10_letsOf_51 (by decide) (fun c14 => ?_) (fun c14 => ?_)
    · have hf := ip c14 hf
      refine o_iconst K 0 dX10_letsOf_66 (by decide) ?_
      refine o_goto K 81 dX10_letsOf_67 (by decide) ?_
      refine o_drop [true, true, true, false, false] (V2 := [some (.ref (h 0)), some (.int a0), some (.int a1), none, none]) rfl ?_
      exact t_X10_letsOf_j81 K hR a0 a1 (0 : Int32) M9 hf
    · have hf := im c14 hf
      refine o_bipush K 6 dX10_letsOf_54 (by decide) ?_
      refine o_aload_n K 0 dX10_letsOf_56 rfl rfl ?_
      refine o_iload_n K 1 dX10_letsOf_57 rfl rfl ?_
      refine o_iconst K 3 dX10_letsOf_58 (by decide) ?_
      obtain ⟨r15, er15, hf⟩ := bd_e hf
      refine o_callV K [.int a0, .int 3] (k_X10_of x.2.1 E D ca h M9 a0 (3 : Int32) er15) s_X10_101 (ltM (by decide)) rfl rfl rfl rfl ⟨by decide, by decide⟩ (Nat.le_of_ble_eq_true rfl) _ rfl dX10_letsOf_59 ?_
      show Go x D (tysOf ca) h (LaM ca h) 5 M9 62 [some (.ref (h 0)), some (.int a0), some (.int a1), some (.int r3), none] [.int r15, .int 6]
      refine o_imul K dX10_letsOf_62 ?_
      refine o_goto K 81 dX10_letsOf_63 (by decide) ?_
      refine o_drop [true, true, true, false, false] (V2 := [some (.ref (h 0)), some (.int a0), some (.int a1), none, none]) rfl ?_
      exact t_X10_letsOf_j81 K hR a0 a1 ((6 : Int32) * r15) M9 hf
def f_X10_letsOf (M : Mem) (a1 : Int32) : Option (Int32 × Mem) := bd (f_X10_of M a1 (4 : Int32)) fun r1 => if r1 = 1 then (f_X10_letsOf_j15 a1 (1 : Int32) M) else f_X10_letsOf_j15 a1 (0 : Int32) M
set_option maxHeartbeats 4000000 in
set_option maxRecDepth 100000 in
theorem k_X10_letsOf (l : Launch) (E : Amd) (D : va_G) (ca : Nat → ClassId) (h : Nat → Nat) (M : Mem) (a1 : Int32) {r0 : Int32} {Mo : Mem} (hf : f_X10_letsOf M a1 = some (r0, Mo)) : Ct l E D (tysOf ca) h (LaM ca h) yX10_letsOf cX10_letsOf 5 (some .int) 2 47 [.ref (h 0), .int a1] M (some (.int r0)) Mo := by
  refine Ct.mk [some (.ref (h 0)), some (.int a1), none, none, none] (by decide) (Nat.le_of_ble_eq_true rfl) (argsV [.ref (h 0), .int a1] 3 rfl rfl) ?_
  intro x hx0 K hR
  have K : Kx x E D (tysOf ca) h (LaM ca h) RX10 cX10_letsOf 5 2 47 := K
  rw [f_X10_letsOf] at hf
  refine o_aload_n K 0 dX10_letsOf_0 rfl rfl ?_
  refine o_iload_n K 1 dX10_letsOf_1 rfl rfl ?_
  refine o_iconst K 4 dX10_letsOf_2 (by decide) ?_
  obtain ⟨r1, er1, hf⟩ := bd_e hf
  refine o_callV K [.int a1, .int 4] (k_X10_of x.2.1 E D ca h M a1 (4 : Int32) er1) s_X10_101 (ltM (by decide)) rfl rfl rfl rfl ⟨by decide, by decide⟩ (Nat.le_of_ble_eq_true rfl) _ rfl dX10_letsOf_3 ?_
  show Go x D (tysOf ca) h (LaM ca h) 5 M 6 [some (.ref (h 0)), some (.int a1), none, none, none] [.int r1]
  refine o_iconst K 1 dX10_letsOf_6 (by decide) ?_
  refine o_icmp_ne K 14 dX10_letsOf_7 (by decide) (fun c2 => ?_) (fun c2 => ?_)
  · have hf := im c2 hf
    refine o_iconst K 0 dX10_letsOf_14 (by decide) ?_
    exact t_X10_letsOf_j15 K hR a1 (0 : Int32) M hf
  · have hf := ip c2 hf
    refine o_iconst K 1 dX10_letsOf_10 (by decide) ?_
    refine o_goto K 15 dX10_letsOf_11 (by decide) ?_
    exact t_X10_letsOf_j15 K hR a1 (1 : Int32) M hf
def f_X10_airOf (M : Mem) (a1 : Int32) : Option Int32 := if a1 = 8 then (rd M 1 1460 3 fun x3 => some (x3)) else bd (f_X10_at0 M a1 (0 : Int32)) fun r2 => some (r2)
set_option maxHeartbeats 4000000 in
set_option maxRecDepth 100000 in
theorem k_X10_airOf (l : Launch) (E : Amd) (D : va_G) (ca : Nat → ClassId) (h : Nat → Nat) (M : Mem) (a1 : Int32) {r0 : Int32} (hf : f_X10_airOf M a1 = some r0) : Ct l E D (tysOf ca) h (LaM ca h) yX10_airOf cX10_airOf 2 (some .int) 1 22 [.ref (h 0), .int a1] M (some (.int r0)) M := by
  refine Ct.mk [some (.ref (h 0)), some (.int a1)] (by decide) (Nat.le_of_ble_eq_true rfl) (argsV [.ref (h 0), .int a1] 0 rfl rfl) ?_
  intro x hx0 K hR
  have K : Kx x E D (tysOf ca) h (LaM ca h) RX10 cX10_airOf 2 1 22 := K
  rw [f_X10_airOf] at hf
  refine o_iload_n K 1 dX10_airOf_0 rfl rfl ?_
  refine o_bipush K 8 dX10_airOf_1 (by decide) ?_
  refine o_icmp_ne K 15 dX10_airOf_3 (by decide) (fun c1 => ?_) (fun c1 => ?_)
  · have hf := im c1 hf
    refine o_aload_n K 0 dX10_airOf_15 rfl rfl ?_
    refine o_iload_n K 1 dX10_airOf_16 rfl rfl ?_
    refine o_iconst K 0 dX10_airOf_17 (by decide) ?_
    obtain ⟨r2, er2, hf⟩ := bd_e hf
    refine o_callV K [.int a1, .int 0] (k_X10_at0 x.2.1 E D ca h M a1 (0 : Int32) er2) s_X10_116 (ltM (by decide)) rfl rfl rfl rfl ⟨by decide, by decide⟩ (Nat.le_of_ble_eq_true rfl) _ rfl dX10_airOf_18 ?_
    show Go x D (tysOf ca) h (LaM ca h) 2 M 21 [some (.ref (h 0)), some (.int a1)] [.int r2]
    exact r_iret K hf hR dX10_airOf_21
  · have hf := ip c1 hf
    refine o_aload_n K 0 dX10_airOf_6 rfl rfl ?_
    refine gM_9 K dX10_airOf_7 ?_
    refine o_iconst K 3 dX10_airOf_10 (by decide) ?_
    obtain ⟨g4, x3, ex3, hf⟩ := rd_e hf
    refine lM_1 K g4 dX10_airOf_11 ?_
    refine o_nmi ex3 ?_
    refine o_goto K 21 dX10_airOf_12 (by decide) ?_
    exact r_iret K hf hR dX10_airOf_21
def f_X10_flowOf (M : Mem) (a1 : Int32) : Option (Int32 × Mem) := bd (f_X10_of M a1 (1 : Int32)) fun r1 => bd (f_X10_airOf M r1) fun r2 => bd (f_X10_of M a1 (2 : Int32)) fun r3 => bd (f_X10_airOf M r3) fun r4 => bd2 (f_X10_letsOf M a1) fun r5 M6 => some (((((r2 - r4).toInt64) * (r5.toInt64)) / 1000).toInt32, M6)
set_option maxHeartbeats 4000000 in
set_option maxRecDepth 100000 in
theorem k_X10_flowOf (l : Launch) (E : Amd) (D : va_G) (ca : Nat → ClassId) (h : Nat → Nat) (M : Mem) (a1 : Int32) {r0 : Int32} {Mo : Mem} (hf : f_X10_flowOf M a1 = some (r0, Mo)) : Ct l E D (tysOf ca) h (LaM ca h) yX10_flowOf cX10_flowOf 2 (some .int) 3 71 [.ref (h 0), .int a1] M (some (.int r0)) Mo := by
  refine Ct.mk [some (.ref (h 0)), some (.int a1)] (by decide) (Nat.le_of_ble_eq_true rfl) (argsV [.ref (h 0), .int a1] 0 rfl rfl) ?_
  intro x hx0 K hR
  have K : Kx x E D (tysOf ca) h (LaM ca h) RX10 cX10_flowOf 2 3 71 := K
  rw [f_X10_flowOf] at hf
  refine o_aload_n K 0 dX10_flowOf_0 rfl rfl ?_
  refine o_aload_n K 0 dX10_flowOf_1 rfl rfl ?_
  refine o_iload_n K 1 dX10_flowOf_2 rfl rfl ?_
  refine o_iconst K 1 dX10_flowOf_3 (by decide) ?_
  obtain ⟨r1, er1, hf⟩ := bd_e hf
  refine o_callV K [.int a1, .int 1] (k_X10_of x.2.1 E D ca h M a1 (1 : Int32) er1) s_X10_101 (ltM (by decide)) rfl rfl rfl rfl ⟨by decide, by decide⟩ (Nat.le_of_ble_eq_true rfl) _ rfl dX10_flowOf_4 ?_
  show Go x D (tysOf ca) h (LaM ca h) 2 M 7 [some (.ref (h 0)), some (.int a1)] [.int r1, .ref (h 0)]
  obtain ⟨r2, er2, hf⟩ := bd_e hf
  refine o_callV K [.int r1] (k_X10_airOf x.2.1 E D ca h M r1 er2) s_X10_119 (ltM (by decide)) rfl rfl rfl rfl ⟨by decide, by decide⟩ (Nat.le_of_ble_eq_true rfl) _ rfl dX10_flowOf_7 ?_
  show Go x D (tysOf ca) h (LaM ca h) 2 M 10 [some (.ref (h 0)), some (.int a1)] [.int r2]
  refine o_aload_n K 0 dX10_flowOf_10 rfl rfl ?_
  refine o_aload_n K 0 dX10_flowOf_11 rfl rfl ?_
  refine o_iload_n K 1 dX10_flowOf_12 rfl rfl ?_
  refine o_iconst K 2 dX10_flowOf_13 (by decide) ?_
  obtain ⟨r3, er3, hf⟩ := bd_e hf
  refine o_callV K [.int a1, .int 2] (k_X10_of x.2.1 E D ca h M a1 (2 : Int32) er3) s_X10_101 (ltM (by decide)) rfl rfl rfl rfl ⟨by decide, by decide⟩ (Nat.le_of_ble_eq_true rfl) _ rfl dX10_flowOf_14 ?_
  show Go x D (tysOf ca) h (LaM ca h) 2 M 17 [some (.ref (h 0)), some (.int a1)] [.int r3, .ref (h 0), .int r2]
  obtain ⟨r4, er4, hf⟩ := bd_e hf
  refine o_callV K [.int r3] (k_X10_airOf x.2.1 E D ca h M r3 er4) s_X10_119 (ltM (by decide)) rfl rfl rfl rfl ⟨by decide, by decide⟩ (Nat.le_of_ble_eq_true rfl) _ rfl dX10_flowOf_17 ?_
  show Go x D (tysOf ca) h (LaM ca h) 2 M 20 [some (.ref (h 0)), some (.int a1)] [.int r4, .int r2]
  refine o_isub K dX10_flowOf_20 ?_
  refine o_i2l K dX10_flowOf_21 ?_
  refine o_aload_n K 0 dX10_flowOf_22 rfl rfl ?_
  refine o_iload_n K 1 dX10_flowOf_23 rfl rfl ?_
  obtain ⟨r5, M6, er5, hf⟩ := bd2_e hf
  refine o_callV K [.int a1] (k_X10_letsOf x.2.1 E D ca h M a1 er5) s_X10_122 (ltM (by decide)) rfl rfl rfl rfl ⟨by decide, by decide⟩ (Nat.le_of_ble_eq_true rfl) _ rfl dX10_flowOf_24 ?_
  show Go x D (tysOf ca) h (LaM ca h) 2 M6 27 [some (.ref (h 0)), some (.int a1)] [.int r5, .long ((r2 - r4).toInt64)]
  refine o_i2l K dX10_flowOf_27 ?_
  refine o_lmul K dX10_flowOf_28 ?_
  refine o_ldc2 K q1150 dX10_flowOf_29 ?_
  refine o_ldiv K dX10_flowOf_32 (by decide) ?_
  refine o_l2i K dX10_flowOf_33 ?_
  exact e_iret K hf hR dX10_flowOf_34
def f_X10_worthOf (M : Mem) (a1 : Int32) : Option Int32 := bd (f_X10_of M a1 (3 : Int32)) fun r1 => bd (f_X10_of M a1 (0 : Int32)) fun r2 => if r2 = 1 then (some (r1 + 20)) else if r2 = 2 then (some ((30 : Int32) - r1)) else if r2 = 3 then (some ((2 : Int32) * (r1 + 20))) else if r2 = 4 then (some ((25 : Int32) - r1)) else if r2 = 5 then (some ((2 : Int32))) else some (r1)
set_option maxHeartbeats 4000000 in
set_option maxRecDepth 100000 in
theorem k_X10_worthOf (l : Launch) (E : Amd) (D : va_G) (ca : Nat → ClassId) (h : Nat → Nat) (M : Mem) (a1 : Int32) {r0 : Int32} (hf : f_X10_worthOf M a1 = some r0) : Ct l E D (tysOf ca) h (LaM ca h) yX10_worthOf cX10_worthOf 3 (some .int) 1 22 [.ref (h 0), .int a1] M (some (.int r0)) M := by
  refine Ct.mk [some (.ref (h 0)), some (.int a1), none] (by decide) (Nat.le_of_ble_eq_true rfl) (argsV [.ref (h 0), .int a1] 1 rfl rfl) ?_
  intro x hx0 K hR
  have K : Kx x E D (tysOf ca) h (LaM ca h) RX10 cX10_worthOf 3 1 22 := K
  rw [f_X10_worthOf] at hf
  refine o_aload_n K 0 dX10_worthOf_0 rfl rfl ?_
  refine o_iload_n K 1 dX10_worthOf_1 rfl rfl ?_
  refine o_iconst K 3 dX10_worthOf_2 (by decide) ?_
  obtain ⟨r1, er1, hf⟩ := bd_e hf
  refine o_callV K [.int a1, .int 3] (k_X10_of x.2.1 E D ca h M a1 (3 : Int32) er1) s_X10_101 (ltM (by decide)) rfl rfl rfl rfl ⟨by decide, by decide⟩ (Nat.le_of_ble_eq_true rfl) _ rfl dX10_worthOf_3 ?_
  show Go x D (tysOf ca) h (LaM ca h) 3 M 6 [some (.ref (h 0)), some (.int a1), none] [.int r1]
  refine o_istore_n K 2 [some (.ref (h 0)), some (.int a1), some (.int r1)] dX10_worthOf_6 rfl (by decide) rfl rfl ?_
  refine o_aload_n K 0 dX10_worthOf_7 rfl rfl ?_
  refine o_iload_n K 1 dX10_worthOf_8 rfl rfl ?_
  refine o_iconst K 0 dX10_worthOf_9 (by decide) ?_
  obtain ⟨r2, er2, hf⟩ := bd_e hf
  refine o_callV K [.int a1, .int 0] (k_X10_of x.2.1 E D ca h M a1 (0 : Int32) er2) s_X10_101 (ltM (by decide)) rfl rfl rfl rfl ⟨by decide, by decide⟩ (Nat.le_of_ble_eq_true rfl) _ rfl dX10_worthOf_10 ?_
  show Go x D (tysOf ca) h (LaM ca h) 3 M 13 [some (.ref (h 0)), some (.int a1), some (.int r1)] [.int r2]
  by_cases c3 : r2 = 1
  · have hf := ip c3 hf
    refine o_table K 48 dX10_worthOf_13 (by decide) (by rw [c3]; try decide) (by decide) ?_
    refine o_iload_n K 2 dX10_worthOf_48 rfl rfl ?_
    refine o_bipush K 20 dX10_worthOf_49 (by decide) ?_
    refine o_iadd K dX10_worthOf_51 ?_
    exact r_iret K hf hR dX10_worthOf_52
  have hf := im c3 hf
  by_cases c4 : r2 = 2
  · have hf := ip c4 hf
    refine o_table K 53 dX10_worthOf_13 (by decide) (by rw [c4]; try decide) (by decide) ?_
    refine o_bipush K 30 dX10_worthOf_53 (by decide) ?_
    refine o_iload_n K 2 dX10_worthOf_55 rfl rfl ?_
    refine o_isub K dX10_worthOf_56 ?_
    exact r_iret K hf hR dX10_worthOf_57
  have hf := im c4 hf
  by_cases c5 : r2 = 3
  · have hf := ip c5 hf
    refine o_table K 58 dX10_worthOf_13 (by decide) (by rw [c5]; try decide) (by decide) ?_
    refine o_iconst K 2 dX10_worthOf_58 (by decide) ?_
    refine o_iload_n K 2 dX10_worthOf_59 rfl rfl ?_
    refine o_bipush K 20 dX10_worthOf_60 (by decide) ?_
    refine o_iadd K dX10_worthOf_62 ?_
    refine o_imul K dX10_worthOf_63 ?_
    exact r_iret K hf hR dX10_worthOf_64
  have hf := im c5 hf
  by_cases c6 : r2 = 4
  · have hf := ip c6 hf
    refine o_table K 65 dX10_worthOf_13 (by decide) (by rw [c6]; try decide) (by decide) ?_
    refine o_bipush K 25 dX10_worthOf_65 (by decide) ?_
    refine o_iload_n K 2 dX10_worthOf_67 rfl rfl ?_
    refine o_isub K dX10_worthOf_68 ?_
    exact r_iret K hf hR dX10_worthOf_69
  have hf := im c6 hf
  by_cases c7 : r2 = 5
  · have hf := ip c7 hf
    refine o_table K 70 dX10_worthOf_13 (by decide) (by rw [c7]; try decide) (by decide) ?_
    refine o_iconst K 2 dX10_worthOf_70 (by decide) ?_
    exact r_iret K hf hR dX10_worthOf_71
  have hf := im c7 hf
  refine o_table K 72 dX10_worthOf_13 (by decide) (tsel_d [1, 2, 3, 4, 5] (List.forall_mem_cons.mpr ⟨lv_neT c3 rfl, (List.forall_mem_cons.mpr ⟨lv_neT c4 rfl, (List.forall_mem_cons.mpr ⟨lv_neT c5 rfl, (List.forall_mem_cons.mpr ⟨lv_neT c6 rfl, (List.forall_mem_cons.mpr ⟨lv_neT c7 rfl, (List.forall_mem_nil _)⟩)⟩)⟩)⟩)⟩) (by decide)) (by decide) ?_
  refine o_iload_n K 2 dX10_worthOf_72 rfl rfl ?_
  exact r_iret K hf hR dX10_worthOf_73
def f_X10_told (M : Mem) (a1 : Int32) (a2 : Int32) : Option (Int32 × Mem) := bd (f_X10_isDoor M a1) fun r1 => if r1 = 0 then (some (((-1000000001) : Int32), M)) else if a2 = 0 then (bd (f_X10_of M a1 a2) fun r4 => some (r4, M)) else if a2 = 1 then (bd (f_X10_of M a1 a2) fun r6 => some (r6, M)) else if a2 = 2 then (bd (f_X10_of M a1 a2) fun r8 => some (r8, M)) else if a2 = 3 then (bd (f_X10_of M a1 a2) fun r10 => some (r10, M)) else if a2 = 4 then (bd (f_X10_of M a1 a2) fun r12 => some (r12, M)) else if a2 = 5 then (bd2 (f_X10_letsOf M a1) fun r14 M15 => some (r14, M15)) else if a2 = 6 then (bd2 (f_X10_flowOf M a1) fun r17 M18 => some (r17, M18)) else if a2 = 7 then (bd (f_X10_worthOf M a1) fun r20 => some (r20, M)) else some (((-1000000001) : Int32), M)
set_option maxHeartbeats 4000000 in
set_option maxRecDepth 100000 in
theorem k_X10_told (l : Launch) (E : Amd) (D : va_G) (ca : Nat → ClassId) (h : Nat → Nat) (M : Mem) (a1 : Int32) (a2 : Int32) {r0 : Int32} {Mo : Mem} (hf : f_X10_told M a1 a2 = some (r0, Mo)) : Ct l E D (tysOf ca) h (LaM ca h) yX10_told cX10_told 3 (some .int) 4 92 [.ref (h 0), .int a1, .int a2] M (some (.int r0)) Mo := by
  refine Ct.mk [some (.ref (h 0)), some (.int a1), some (.int a2)] (by decide) (Nat.le_of_ble_eq_true rfl) (argsV [.ref (h 0), .int a1, .int a2] 0 rfl rfl) ?_
  intro x hx0 K hR
  have K : Kx x E D (tysOf ca) h (LaM ca h) RX10 cX10_told 3 4 92 := K
  rw [f_X10_told] at hf
  refine o_aload_n K 0 dX10_told_0 rfl rfl ?_
  refine o_iload_n K 1 dX10_told_1 rfl rfl ?_
  obtain ⟨r1, er1, hf⟩ := bd_e hf
  refine o_callV K [.int a1] (k_X10_isDoor x.2.1 E D ca h M a1 er1) s_X10_127 (ltM (by decide)) rfl rfl rfl rfl ⟨by decide, by decide⟩ (Nat.le_of_ble_eq_true rfl) _ rfl dX10_told_2 ?_
  show Go x D (tysOf ca) h (LaM ca h) 3 M 5 [some (.ref (h 0)), some (.int a1), some (.int a2)] [.int r1]
  refine o_if_ne K 11 dX10_told_5 (by decide) (fun c2 => ?_) (fun c2 => ?_)
  · have hf := im c2 hf
    refine o_iload_n K 2 dX10_told_11 rfl rfl ?_
    by_cases c3 : a2 = 0
    · have hf := ip c3 hf
      refine o_table K 60 dX10_told_12 (by decide) (by rw [c3]; try decide) (by decide) ?_
      refine o_aload_n K 0 dX10_told_60 rfl rfl ?_
      refine o_iload_n K 1 dX10_told_61 rfl rfl ?_
      refine o_iload_n K 2 dX10_told_62 rfl rfl ?_
      obtain ⟨r4, er4, hf⟩ := bd_e hf
      refine o_callV K [.int a1, .int a2] (k_X10_of x.2.1 E D ca h M a1 a2 er4) s_X10_101 (ltM (by decide)) rfl rfl rfl rfl ⟨by decide, by decide⟩ (Nat.le_of_ble_eq_true rfl) _ rfl dX10_told_63 ?_
      show Go x D (tysOf ca) h (LaM ca h) 3 M 66 [some (.ref (h 0)), some (.int a1), some (.int a2)] [.int r4]
      exact e_iret K hf hR dX10_told_66
    have hf := im c3 hf
    by_cases c5 : a2 = 1
    · have hf := ip c5 hf
      refine o_table K 60 dX10_told_12 (by decide) (by rw [c5]; try decide) (by decide) ?_
      refine o_aload_n K 0 dX10_told_60 rfl rfl ?_
      refine o_iload_n K 1 dX10_told_61 rfl rfl ?_
      refine o_iload_n K 2 dX10_told_62 rfl rfl ?_
      obtain ⟨r6, er6, hf⟩ := bd_e hf
      refine o_callV K [.int a1, .int a2] (k_X10_of x.2.1 E D ca h M a1 a2 er6) s_X10_101 (ltM (by decide)) rfl rfl rfl rfl ⟨by decide, by decide⟩ (Nat.le_of_ble_eq_true rfl) _ rfl dX10_told_63 ?_
      show Go x D (tysOf ca) h (LaM ca h) 3 M 66 [some (.ref (h 0)), some (.int a1), some (.int a2)] [.int r6]
      exact e_iret K hf hR dX10_told_66
    have hf := im c5 hf
    by_cases c7 : a2 = 2
    · have hf := ip c7 hf
      refine o_table K 60 dX10_told_12 (by decide) (by rw [c7]; try decide) (by decide) ?_
      refine o_aload_n K 0 dX10_told_60 rfl rfl ?_
      refine o_iload_n K 1 dX10_told_61 rfl rfl ?_
      refine o_iload_n K 2 dX10_told_62 rfl rfl ?_
      obtain ⟨r8, er8, hf⟩ := bd_e hf
      refine o_callV K [.int a1, .int a2] (k_X10_of x.2.1 E D ca h M a1 a2 er8) s_X10_101 (ltM (by decide)) rfl rfl rfl rfl ⟨by decide, by decide⟩ (Nat.le_of_ble_eq_true rfl) _ rfl dX10_told_63 ?_
      show Go x D (tysOf ca) h (LaM ca h) 3 M 66 [some (.ref (h 0)), some (.int a1), some (.int a2)] [.int r8]
      exact e_iret K hf hR dX10_told_66
    have hf := im c7 hf
    by_cases c9 : a2 = 3
    · have hf := ip c9 hf
      refine o_table K 60 dX10_told_12 (by decide) (by rw [c9]; try decide) (by decide) ?_
      refine o_aload_n K 0 dX10_told_60 rfl rfl ?_
      refine o_iload_n K 1 dX10_told_61 rfl rfl ?_
      refine o_iload_n K 2 dX10_told_62 rfl rfl ?_
      obtain ⟨r10, er10, hf⟩ := bd_e hf
      refine o_callV K [.int a1, .int a2] (k_X10_of x.2.1 E D ca h M a1 a2 er10) s_X10_101 (ltM (by decide)) rfl rfl rfl rfl ⟨by decide, by decide⟩ (Nat.le_of_ble_eq_true rfl) _ rfl dX10_told_63 ?_
      show Go x D (tysOf ca) h (LaM ca h) 3 M 66 [some (.ref (h 0)), some (.int a1), some (.int a2)] [.int r10]
      exact e_iret K hf hR dX10_told_66
    have hf := im c9 hf
    by_cases c11 : a2 = 4
    · have hf := ip c11 hf
      refine o_table K 60 dX10_told_12 (by decide) (by rw [c11]; try decide) (by decide) ?_
      refine o_aload_n K 0 dX10_told_60 rfl rfl ?_
      refine o_iload_n K 1 dX10_told_61 rfl rfl ?_
      refine o_iload_n K 2 dX10_told_62 rfl rfl ?_
      obtain ⟨r12, er12, hf⟩ := bd_e hf
      refine o_callV K [.int a1, .int a2] (k_X10_of x.2.1 E D ca h M a1 a2 er12) s_X10_101 (ltM (by decide)) rfl rfl rfl rfl ⟨by decide, by decide⟩ (Nat.le_of_ble_eq_true rfl) _ rfl dX10_told_63 ?_
      show Go x D (tysOf ca) h (LaM ca h) 3 M 66 [some (.ref (h 0)), some (.int a1), some (.int a2)] [.int r12]
      exact e_iret K hf hR dX10_told_66
    have hf := im c11 hf
    by_cases c13 : a2 = 5
    · have hf := ip c13 hf
      refine o_table K 67 dX10_told_12 (by decide) (by rw [c13]; try decide) (by decide) ?_
      refine o_aload_n K 0 dX10_told_67 rfl rfl ?_
      refine o_iload_n K 1 dX10_told_68 rfl rfl ?_
      obtain ⟨r14, M15, er14, hf⟩ := bd2_e hf
      refine o_callV K [.int a1] (k_X10_letsOf x.2.1 E D ca h M a1 er14) s_X10_122 (ltM (by decide)) rfl rfl rfl rfl ⟨by decide, by decide⟩ (Nat.le_of_ble_eq_true rfl) _ rfl dX10_told_69 ?_
      show Go x D (tysOf ca) h (LaM ca h) 3 M15 72 [some (.ref (h 0)), some (.int a1), some (.int a2)] [.int r14]
      exact e_iret K hf hR dX10_told_72
    have hf := im c13 hf
    by_cases c16 : a2 = 6
    · have hf := ip c16 hf
      refine o_table K 73 dX10_told_12 (by decide) (by rw [c16]; try decide) (by decide) ?_
      refine o_aload_n K 0 dX10_told_73 rfl rfl ?_
      refine o_iload_n K 1 dX10_told_74 rfl rfl ?_
      obtain ⟨r17, M18, er17, hf⟩ := bd2_e hf
      refine o_callV K [.int a1] (k_X10_flowOf x.2.1 E D ca h M a1 er17) s_X10_130 (ltM (by decide)) rfl rfl rfl rfl ⟨by decide, by decide⟩ (Nat.le_of_ble_eq_true rfl) _ rfl dX10_told_75 ?_
      show Go x D (tysOf ca) h (LaM ca h) 3 M18 78 [some (.ref (h 0)), some (.int a1), some (.int a2)] [.int r17]
      exact e_iret K hf hR dX10_told_78
    have hf := im c16 hf
    by_cases c19 : a2 = 7
    · have hf := ip c19 hf
      refine o_table K 79 dX10_told_12 (by decide) (by rw [c19]; try decide) (by decide) ?_
      refine o_aload_n K 0 dX10_told_79 rfl rfl ?_
      refine o_iload_n K 1 dX10_told_80 rfl rfl ?_
      obtain ⟨r20, er20, hf⟩ := bd_e hf
      refine o_callV K [.int a1] (k_X10_worthOf x.2.1 E D ca h M a1 er20) s_X10_133 (ltM (by decide)) rfl rfl rfl rfl ⟨by decide, by decide⟩ (Nat.le_of_ble_eq_true rfl) _ rfl dX10_told_81 ?_
      show Go x D (tysOf ca) h (LaM ca h) 3 M 84 [some (.ref (h 0)), some (.int a1), some (.int a2)] [.int r20]
      exact e_iret K hf hR dX10_told_84
    have hf := im c19 hf
    refine o_table K 85 dX10_told_12 (by decide) (tsel_d [0, 1, 2, 3, 4, 5, 6, 7] (List.forall_mem_cons.mpr ⟨lv_neT c3 rfl, (List.forall_mem_cons.mpr ⟨lv_neT c5 rfl, (List.forall_mem_cons.mpr ⟨lv_neT c7 rfl, (List.forall_mem_cons.mpr ⟨lv_neT c9 rfl, (List.forall_mem_cons.mpr ⟨lv_neT c11 rfl, (List.forall_mem_cons.mpr ⟨lv_neT c13 rfl, (List.forall_mem_cons.mpr ⟨lv_neT c16 rfl, (List.forall_mem_cons.mpr ⟨lv_neT c19 rfl, (List.forall_mem_nil _)⟩)⟩)⟩)⟩)⟩)⟩)⟩)⟩) (by decide)) (by decide) ?_
    refine o_ldc K q1102 dX10_told_85 ?_
    exact e_iret K hf hR dX10_told_87
  · have hf := ip c2 hf
    refine o_ldc K q1102 dX10_told_8 ?_
    exact e_iret K hf hR dX10_told_10
def f_X10_isUnder_j19 (a0 : Int32) (a1 : Int32) : Option Int32 := if a1 = 2 then (if a0 = 4 then (some ((1 : Int32))) else some ((0 : Int32))) else some ((0 : Int32))
set_option maxHeartbeats 4000000 in
set_option maxRecDepth 100000 in
theorem t_X10_isUnder_j19 {x : En} {E : Amd} {D : va_G} {ca : Nat → ClassId} {h : Nat → Nat} {M : Mem} (K : Kx x E D (tysOf ca) h (LaM ca h) RX10 cX10_isUnder 2 0 0) {r0 : Int32} (hR : Rt x D h (LaM ca h) (some .boolean) (some (.int r0)) M) (a0 : Int32) (a1 : Int32) (hf : f_X10_isUnder_j19 a0 a1 = some r0) : Go x D (tysOf ca) h (LaM ca h) 2 M 19 [some (.int a0), some (.int a1)] [] := by
  rw [f_X10_isUnder_j19] at hf
  refine o_iload_n K 1 dX10_isUnder_19 rfl rfl ?_
  refine o_iconst K 2 dX10_isUnder_20 (by decide) ?_
  refine o_icmp_ne K 33 dX10_isUnder_21 (by decide) (fun c5 => ?_) (fun c5 => ?_)
  · have hf := im c5 hf
    refine o_iconst K 0 dX10_isUnder_33 (by decide) ?_
    exact r_zret K hf hR (by decide) dX10_isUnder_34
  · have hf := ip c5 hf
    refine o_iload_n K 0 dX10_isUnder_24 rfl rfl ?_
    refine o_iconst K 4 dX10_isUnder_25 (by decide) ?_
    refine o_icmp_ne K 33 dX10_isUnder_26 (by decide) (fun c6 => ?_) (fun c6 => ?_)
    · have hf := im c6 hf
      refine o_iconst K 0 dX10_isUnder_33 (by decide) ?_
      exact r_zret K hf hR (by decide) dX10_isUnder_34
    · have hf := ip c6 hf
      refine o_iconst K 1 dX10_isUnder_29 (by decide) ?_
      refine o_goto K 34 dX10_isUnder_30 (by decide) ?_
      exact r_zret K hf hR (by decide) dX10_isUnder_34
def f_X10_isUnder (a1 : Int32) (a2 : Int32) : Option Int32 := if a2 = 0 then (some ((1 : Int32))) else if a1 = a2 then (some ((1 : Int32))) else if a2 = 1 then (if a1 = 3 then (some ((1 : Int32))) else f_X10_isUnder_j19 a1 a2) else f_X10_isUnder_j19 a1 a2
set_option maxHeartbeats 4000000 in
set_option maxRecDepth 100000 in
theorem k_X10_isUnder (l : Launch) (E : Amd) (D : va_G) (ca : Nat → ClassId) (h : Nat → Nat) (M : Mem) (a1 : Int32) (a2 : Int32) {r0 : Int32} (hf : f_X10_isUnder a1 a2 = some r0) : Ct l E D (tysOf ca) h (LaM ca h) yX10_isUnder cX10_isUnder 2 (some .boolean) 0 0 [.int a1, .int a2] M (some (.int r0)) M := by
  refine Ct.mk [some (.int a1), some (.int a2)] (by decide) (Nat.le_of_ble_eq_true rfl) (argsV [.int a1, .int a2] 0 rfl rfl) ?_
  intro x hx0 K hR
  have K : Kx x E D (tysOf ca) h (LaM ca h) RX10 cX10_isUnder 2 0 0 := K
  rw [f_X10_isUnder] at hf
  refine o_iload_n K 1 dX10_isUnder_0 rfl rfl ?_
  refine o_if_eq K 29 dX10_isUnder_1 (by decide) (fun c1 => ?_) (fun c1 => ?_)
  · have hf := ip c1 hf
    refine o_iconst K 1 dX10_isUnder_29 (by decide) ?_
    refine o_goto K 34 dX10_isUnder_30 (by decide) ?_
    exact r_zret K hf hR (by decide) dX10_isUnder_34
  · have hf := im c1 hf
    refine o_iload_n K 0 dX10_isUnder_4 rfl rfl ?_
    refine o_iload_n K 1 dX10_isUnder_5 rfl rfl ?_
    refine o_icmp_eq K 29 dX10_isUnder_6 (by decide) (fun c2 => ?_) (fun c2 => ?_)
    · have hf := ip c2 hf
      refine o_iconst K 1 dX10_isUnder_29 (by decide) ?_
      refine o_goto K 34 dX10_isUnder_30 (by decide) ?_
      exact r_zret K hf hR (by decide) dX10_isUnder_34
    · have hf := im c2 hf
      refine o_iload_n K 1 dX10_isUnder_9 rfl rfl ?_
      refine o_iconst K 1 dX10_isUnder_10 (by decide) ?_
      refine o_icmp_ne K 19 dX10_isUnder_11 (by decide) (fun c3 => ?_) (fun c3 => ?_)
      · have hf := im c3 hf
        exact t_X10_isUnder_j19 K hR a1 a2 hf
      · have hf := ip c3 hf
        refine o_iload_n K 0 dX10_isUnder_14 rfl rfl ?_
        refine o_iconst K 3 dX10_isUnder_15 (by decide) ?_
        refine o_icmp_eq K 29 dX10_isUnder_16 (by decide) (fun c4 => ?_) (fun c4 => ?_)
        · have hf := ip c4 hf
          refine o_iconst K 1 dX10_isUnder_29 (by decide) ?_
          refine o_goto K 34 dX10_isUnder_30 (by decide) ?_
          exact r_zret K hf hR (by decide) dX10_isUnder_34
        · have hf := im c4 hf
          exact t_X10_isUnder_j19 K hR a1 a2 hf
def f_X10_as (M : Mem) (a1 : Int32) (a2 : Int32) : Option Int32 := bd (f_X10_isDoor M a1) fun r1 => if r1 = 0 then (some (((-1000000001) : Int32))) else bd (f_X10_in a2 (0 : Int32) (5 : Int32)) fun r3 => if r3 = 0 then (some (((-1000000001) : Int32))) else bd (f_X10_of M a1 (0 : Int32)) fun r5 => bd (f_X10_isUnder r5 a2) fun r6 => if r6 = 0 then (some (((-1000000012) : Int32))) else bd (f_X10_of M a1 (3 : Int32)) fun r8 => some (r8)
set_option maxHeartbeats 4000000 in
set_option maxRecDepth 100000 in
theorem k_X10_as (l : Launch) (E : Amd) (D : va_G) (ca : Nat → ClassId) (h : Nat → Nat) (M : Mem) (a1 : Int32) (a2 : Int32) {r0 : Int32} (hf : f_X10_as M a1 a2 = some r0) : Ct l E D (tysOf ca) h (LaM ca h) yX10_as cX10_as 3 (some .int) 2 43 [.ref (h 0), .int a1, .int a2] M (some (.int r0)) M := by
  refine Ct.mk [some (.ref (h 0)), some (.int a1), some (.int a2)] (by decide) (Nat.le_of_ble_eq_true rfl) (argsV [.ref (h 0), .int a1, .int a2] 0 rfl rfl) ?_
  intro x hx0 K hR
  have K : Kx x E D (tysOf ca) h (LaM ca h) RX10 cX10_as 3 2 43 := K
  rw [f_X10_as] at hf
  refine o_aload_n K 0 dX10_as_0 rfl rfl ?_
  refine o_iload_n K 1 dX10_as_1 rfl rfl ?_
  obtain ⟨r1, er1, hf⟩ := bd_e hf
  refine o_callV K [.int a1] (k_X10_isDoor x.2.1 E D ca h M a1 er1) s_X10_127 (ltM (by decide)) rfl rfl rfl rfl ⟨by decide, by decide⟩ (Nat.le_of_ble_eq_true rfl) _ rfl dX10_as_2 ?_
  show Go x D (tysOf ca) h (LaM ca h) 3 M 5 [some (.ref (h 0)), some (.int a1), some (.int a2)] [.int r1]
  refine o_if_eq K 17 dX10_as_5 (by decide) (fun c2 => ?_) (fun c2 => ?_)
  · have hf := ip c2 hf
    refine o_ldc K q1102 dX10_as_17 ?_
    exact r_iret K hf hR dX10_as_19
  · have hf := im c2 hf
    refine o_iload_n K 2 dX10_as_8 rfl rfl ?_
    refine o_iconst K 0 dX10_as_9 (by decide) ?_
    refine o_iconst K 5 dX10_as_10 (by decide) ?_
    obtain ⟨r3, er3, hf⟩ := bd_e hf
    refine o_callS K [.int a2, .int 0, .int 5] (k_X10_in x.2.1 E D ca h M a2 (0 : Int32) (5 : Int32) er3) s_X10_87 rfl ⟨by decide, by decide⟩ (Nat.le_of_ble_eq_true rfl) _ rfl dX10_as_11 ?_
    show Go x D (tysOf ca) h (LaM ca h) 3 M 14 [some (.ref (h 0)), some (.int a1), some (.int a2)] [.int r3]
    refine o_if_ne K 20 dX10_as_14 (by decide) (fun c4 => ?_) (fun c4 => ?_)
    · have hf := im c4 hf
      refine o_aload_n K 0 dX10_as_20 rfl rfl ?_
      refine o_iload_n K 1 dX10_as_21 rfl rfl ?_
      refine o_iconst K 0 dX10_as_22 (by decide) ?_
      obtain ⟨r5, er5, hf⟩ := bd_e hf
      refine o_callV K [.int a1, .int 0] (k_X10_of x.2.1 E D ca h M a1 (0 : Int32) er5) s_X10_101 (ltM (by decide)) rfl rfl rfl rfl ⟨by decide, by decide⟩ (Nat.le_of_ble_eq_true rfl) _ rfl dX10_as_23 ?_
      show Go x D (tysOf ca) h (LaM ca h) 3 M 26 [some (.ref (h 0)), some (.int a1), some (.int a2)] [.int r5]
      refine o_iload_n K 2 dX10_as_26 rfl rfl ?_
      obtain ⟨r6, er6, hf⟩ := bd_e hf
      refine o_callS K [.int r5, .int a2] (k_X10_isUnder x.2.1 E D ca h M r5 a2 er6) s_X10_136 rfl ⟨by decide, by decide⟩ (Nat.le_of_ble_eq_true rfl) _ rfl dX10_as_27 ?_
      show Go x D (tysOf ca) h (LaM ca h) 3 M 30 [some (.ref (h 0)), some (.int a1), some (.int a2)] [.int r6]
      refine o_if_eq K 42 dX10_as_30 (by decide) (fun c7 => ?_) (fun c7 => ?_)
      · have hf := ip c7 hf
        refine o_ldc K q1162 dX10_as_42 ?_
        exact r_iret K hf hR dX10_as_44
      · have hf := im c7 hf
        refine o_aload_n K 0 dX10_as_33 rfl rfl ?_
        refine o_iload_n K 1 dX10_as_34 rfl rfl ?_
        refine o_iconst K 3 dX10_as_35 (by decide) ?_
        obtain ⟨r8, er8, hf⟩ := bd_e hf
        refine o_callV K [.int a1, .int 3] (k_X10_of x.2.1 E D ca h M a1 (3 : Int32) er8) s_X10_101 (ltM (by decide)) rfl rfl rfl rfl ⟨by decide, by decide⟩ (Nat.le_of_ble_eq_true rfl) _ rfl dX10_as_36 ?_
        show Go x D (tysOf ca) h (LaM ca h) 3 M 39 [some (.ref (h 0)), some (.int a1), some (.int a2)] [.int r8]
        refine o_goto K 44 dX10_as_39 (by decide) ?_
        exact r_iret K hf hR dX10_as_44
    · have hf := ip c4 hf
      refine o_ldc K q1102 dX10_as_17 ?_
      exact r_iret K hf hR dX10_as_19
def f_X10_turns (M : Mem) (a1 : Int32) (a2 : Int32) : Option (Int32 × Mem) := bd (f_X10_isDoor M a1) fun r1 => if r1 = 0 then (some (((-1000000001) : Int32), M)) else bd (f_X10_in a2 (0 : Int32) (5 : Int32)) fun r3 => if r3 = 0 then (some (((-1000000001) : Int32), M)) else bd2 (f_X10_becomes M ((38 : Int32) + ((5 : Int32) * a1)) a2) fun r5 M6 => some (r5, M6)
set_option maxHeartbeats 4000000 in
set_option maxRecDepth 100000 in
theorem k_X10_turns (l : Launch) (E : Amd) (D : va_G) (ca : Nat → ClassId) (h : Nat → Nat) (M : Mem) (a1 : Int32) (a2 : Int32) {r0 : Int32} {Mo : Mem} (hf : f_X10_turns M a1 a2 = some (r0, Mo)) : Ct l E D (tysOf ca) h (LaM ca h) yX10_turns cX10_turns 3 (some .int) 2 43 [.ref (h 0), .int a1, .int a2] M (some (.int r0)) Mo := by
  refine Ct.mk [some (.ref (h 0)), some (.int a1), some (.int a2)] (by decide) (Nat.le_of_ble_eq_true rfl) (argsV [.ref (h 0), .int a1, .int a2] 0 rfl rfl) ?_
  intro x hx0 K hR
  have K : Kx x E D (tysOf ca) h (LaM ca h) RX10 cX10_turns 3 2 43 := K
  rw [f_X10_turns] at hf
  refine o_aload_n K 0 dX10_turns_0 rfl rfl ?_
  refine o_iload_n K 1 dX10_turns_1 rfl rfl ?_
  obtain ⟨r1, er1, hf⟩ := bd_e hf
  refine o_callV K [.int a1] (k_X10_isDoor x.2.1 E D ca h M a1 er1) s_X10_127 (ltM (by decide)) rfl rfl rfl rfl ⟨by decide, by decide⟩ (Nat.le_of_ble_eq_true rfl) _ rfl dX10_turns_2 ?_
  show Go x D (tysOf ca) h (LaM ca h) 3 M 5 [some (.ref (h 0)), some (.int a1), some (.int a2)] [.int r1]
  refine o_if_eq K 31 dX10_turns_5 (by decide) (fun c2 => ?_) (fun c2 => ?_)
  · have hf := ip c2 hf
    refine o_ldc K q1102 dX10_turns_31 ?_
    exact e_iret K hf hR dX10_turns_33
  · have hf := im c2 hf
    refine o_iload_n K 2 dX10_turns_8 rfl rfl ?_
    refine o_iconst K 0 dX10_turns_9 (by decide) ?_
    refine o_iconst K 5 dX10_turns_10 (by decide) ?_
    obtain ⟨r3, er3, hf⟩ := bd_e hf
    refine o_callS K [.int a2, .int 0, .int 5] (k_X10_in x.2.1 E D ca h M a2 (0 : Int32) (5 : Int32) er3) s_X10_87 rfl ⟨by decide, by decide⟩ (Nat.le_of_ble_eq_true rfl) _ rfl dX10_turns_11 ?_
    show Go x D (tysOf ca) h (LaM ca h) 3 M 14 [some (.ref (h 0)), some (.int a1), some (.int a2)] [.int r3]
    refine o_if_eq K 31 dX10_turns_14 (by decide) (fun c4 => ?_) (fun c4 => ?_)
    · have hf := ip c4 hf
      refine o_ldc K q1102 dX10_turns_31 ?_
      exact e_iret K hf hR dX10_turns_33
    · have hf := im c4 hf
      refine o_aload_n K 0 dX10_turns_17 rfl rfl ?_
      refine o_bipush K 38 dX10_turns_18 (by decide) ?_
      refine o_iconst K 5 dX10_turns_20 (by decide) ?_
      refine o_iload_n K 1 dX10_turns_21 rfl rfl ?_
      refine o_imul K dX10_turns_22 ?_
      refine o_iadd K dX10_turns_23 ?_
      refine o_iload_n K 2 dX10_turns_24 rfl rfl ?_
      obtain ⟨r5, M6, er5, hf⟩ := bd2_e hf
      refine o_callV K [.int ((38 : Int32) + ((5 : Int32) * a1)), .int a2] (k_X10_becomes x.2.1 E D ca h M ((38 : Int32) + ((5 : Int32) * a1)) a2 er5) s_X10_141 (ltM (by decide)) rfl rfl rfl rfl ⟨by decide, by decide⟩ (Nat.le_of_ble_eq_true rfl) _ rfl dX10_turns_25 ?_
      show Go x D (tysOf ca) h (LaM ca h) 3 M6 28 [some (.ref (h 0)), some (.int a1), some (.int a2)] [.int r5]
      refine o_goto K 33 dX10_turns_28 (by decide) ?_
      exact e_iret K hf hR dX10_turns_33
def f_X10_open (M : Mem) (a1 : Int32) (a2 : Int32) : Option (Int32 × Mem) := bd (f_X10_isDoor M a1) fun r1 => if r1 = 0 then (some (((-1000000001) : Int32), M)) else bd (f_X10_in a2 (0 : Int32) (1 : Int32)) fun r3 => if r3 = 0 then (some (((-1000000001) : Int32), M)) else bd2 (f_X10_becomes M (((38 : Int32) + ((5 : Int32) * a1)) + 4) a2) fun r5 M6 => some (r5, M6)
set_option maxHeartbeats 4000000 in
set_option maxRecDepth 100000 in
theorem k_X10_open (l : Launch) (E : Amd) (D : va_G) (ca : Nat → ClassId) (h : Nat → Nat) (M : Mem) (a1 : Int32) (a2 : Int32) {r0 : Int32} {Mo : Mem} (hf : f_X10_open M a1 a2 = some (r0, Mo)) : Ct l E D (tysOf ca) h (LaM ca h) yX10_open cX10_open 3 (some .int) 2 43 [.ref (h 0), .int a1, .int a2] M (some (.int r0)) Mo := by
  refine Ct.mk [some (.ref (h 0)), some (.int a1), some (.int a2)] (by decide) (Nat.le_of_ble_eq_true rfl) (argsV [.ref (h 0), .int a1, .int a2] 0 rfl rfl) ?_
  intro x hx0 K hR
  have K : Kx x E D (tysOf ca) h (LaM ca h) RX10 cX10_open 3 2 43 := K
  rw [f_X10_open] at hf
  refine o_aload_n K 0 dX10_open_0 rfl rfl ?_
  refine o_iload_n K 1 dX10_open_1 rfl rfl ?_
  obtain ⟨r1, er1, hf⟩ := bd_e hf
  refine o_callV K [.int a1] (k_X10_isDoor x.2.1 E D ca h M a1 er1) s_X10_127 (ltM (by decide)) rfl rfl rfl rfl ⟨by decide, by decide⟩ (Nat.le_of_ble_eq_true rfl) _ rfl dX10_open_2 ?_
  show Go x D (tysOf ca) h (LaM ca h) 3 M 5 [some (.ref (h 0)), some (.int a1), some (.int a2)] [.int r1]
  refine o_if_eq K 33 dX10_open_5 (by decide) (fun c2 => ?_) (fun c2 => ?_)
  · have hf := ip c2 hf
    refine o_ldc K q1102 dX10_open_33 ?_
    exact e_iret K hf hR dX10_open_35
  · have hf := im c2 hf
    refine o_iload_n K 2 dX10_open_8 rfl rfl ?_
    refine o_iconst K 0 dX10_open_9 (by decide) ?_
    refine o_iconst K 1 dX10_open_10 (by decide) ?_
    obtain ⟨r3, er3, hf⟩ := bd_e hf
    refine o_callS K [.int a2, .int 0, .int 1] (k_X10_in x.2.1 E D ca h M a2 (0 : Int32) (1 : Int32) er3) s_X10_87 rfl ⟨by decide, by decide⟩ (Nat.le_of_ble_eq_true rfl) _ rfl dX10_open_11 ?_
    show Go x D (tysOf ca) h (LaM ca h) 3 M 14 [some (.ref (h 0)), some (.int a1), some (.int a2)] [.int r3]
    refine o_if_eq K 33 dX10_open_14 (by decide) (fun c4 => ?_) (fun c4 => ?_)
    · have hf := ip c4 hf
      refine o_ldc K q1102 dX10_open_33 ?_
      exact e_iret K hf hR dX10_open_35
    · have hf := im c4 hf
      refine o_aload_n K 0 dX10_open_17 rfl rfl ?_
      refine o_bipush K 38 dX10_open_18 (by decide) ?_
      refine o_iconst K 5 dX10_open_20 (by decide) ?_
      refine o_iload_n K 1 dX10_open_21 rfl rfl ?_
      refine o_imul K dX10_open_22 ?_
      refine o_iadd K dX10_open_23 ?_
      refine o_iconst K 4 dX10_open_24 (by decide) ?_
      refine o_iadd K dX10_open_25 ?_
      refine o_iload_n K 2 dX10_open_26 rfl rfl ?_
      obtain ⟨r5, M6, er5, hf⟩ := bd2_e hf
      refine o_callV K [.int (((38 : Int32) + ((5 : Int32) * a1)) + 4), .int a2] (k_X10_becomes x.2.1 E D ca h M (((38 : Int32) + ((5 : Int32) * a1)) + 4) a2 er5) s_X10_141 (ltM (by decide)) rfl rfl rfl rfl ⟨by decide, by decide⟩ (Nat.le_of_ble_eq_true rfl) _ rfl dX10_open_27 ?_
      show Go x D (tysOf ca) h (LaM ca h) 3 M6 30 [some (.ref (h 0)), some (.int a1), some (.int a2)] [.int r5]
      refine o_goto K 35 dX10_open_30 (by decide) ?_
      exact e_iret K hf hR dX10_open_35
def f_X10_findFlows_j69 (rec23 : Int32 → Mem → Option Mem) (a0 : Int32) (a1 : Int32) (M : Mem) : Option Mem := bd (f_X10_of M a0 (1 : Int32)) fun r19 => rd M 5 9 r19 fun x20 => wr M 5 9 r19 (x20 + a1) fun M23 => bd (f_X10_of M23 a0 (2 : Int32)) fun r24 => rd M23 5 9 r24 fun x25 => wr M23 5 9 r24 (x25 + a1) fun M28 => nm (a0 + 1 : Int32) fun x29 => rec23 x29 M28
set_option maxHeartbeats 4000000 in
set_option maxRecDepth 100000 in
theorem t_X10_findFlows_j69 {x : En} {E : Amd} {D : va_G} {ca : Nat → ClassId} {h : Nat → Nat} (K : Kx x E D (tysOf ca) h (LaM ca h) RX10 cX10_findFlows 3 4 92) {Mo : Mem} (hR : Rt x D h (LaM ca h) none none Mo) {rec23 : Int32 → Mem → Option Mem} (ih23 : ∀ (w0 : Int32) (M : Mem), rec23 w0 M = some Mo → Go x D (tysOf ca) h (LaM ca h) 3 M 23 [some (.ref (h 0)), some (.int w0), none] []) (a0 : Int32) (a1 : Int32) (M : Mem) (hf : f_X10_findFlows_j69 rec23 a0 a1 M = some Mo) : Go x D (tysOf ca) h (LaM ca h) 3 M 69 [some (.ref (h 0)), some (.int a0), none] [.int a1] := by
  rw [f_X10_findFlows_j69] at hf
  refine o_istore_n K 2 [some (.ref (h 0)), some (.int a0), some (.int a1)] dX10_findFlows_69 rfl (by decide) rfl rfl ?_
  refine o_aload_n K 0 dX10_findFlows_70 rfl rfl ?_
  refine gM_22 K dX10_findFlows_71 ?_
  refine o_aload_n K 0 dX10_findFlows_74 rfl rfl ?_
  refine o_iload_n K 1 dX10_findFlows_75 rfl rfl ?_
  refine o_iconst K 1 dX10_findFlows_76 (by decide) ?_
  obtain ⟨r19, er19, hf⟩ := bd_e hf
  refine o_callV K [.int a0, .int 1] (k_X10_of x.2.1 E D ca h M a0 (1 : Int32) er19) s_X10_101 (ltM (by decide)) rfl rfl rfl rfl ⟨by decide, by decide⟩ (Nat.le_of_ble_eq_true rfl) _ rfl dX10_findFlows_77 ?_
  show Go x D (tysOf ca) h (LaM ca h) 3 M 80 [some (.ref (h 0)), some (.int a0), some (.int a1)] [.int r19, .ref (h 5)]
  refine o_dup2 K dX10_findFlows_80 rfl rfl ?_
  obtain ⟨g21, x20, ex20, hf⟩ := rd_e hf
  refine lM_5 K g21 dX10_findFlows_81 ?_
  refine o_nmi ex20 ?_
  refine o_iload_n K 2 dX10_findFlows_82 rfl rfl ?_
  refine o_iadd K dX10_findFlows_83 ?_
  obtain ⟨g22, M23, eM23, hf⟩ := wr_e hf
  refine sM_5 K g22 dX10_findFlows_84 ?_
  refine o_nmM eM23 ?_
  refine o_aload_n K 0 dX10_findFlows_85 rfl rfl ?_
  refine gM_22 K dX10_findFlows_86 ?_
  refine o_aload_n K 0 dX10_findFlows_89 rfl rfl ?_
  refine o_iload_n K 1 dX10_findFlows_90 rfl rfl ?_
  refine o_iconst K 2 dX10_findFlows_91 (by decide) ?_
  obtain ⟨r24, er24, hf⟩ := bd_e hf
  refine o_callV K [.int a0, .int 2] (k_X10_of x.2.1 E D ca h M23 a0 (2 : Int32) er24) s_X10_101 (ltM (by decide)) rfl rfl rfl rfl ⟨by decide, by decide⟩ (Nat.le_of_ble_eq_true rfl) _ rfl dX10_findFlows_92 ?_
  show Go x D (tysOf ca) h (LaM ca h) 3 M23 95 [some (.ref (h 0)), some (.int a0), some (.int a1)] [.int r24, .ref (h 5)]
  refine o_dup2 K dX10_findFlows_95 rfl rfl ?_
  obtain ⟨g26, x25, ex25, hf⟩ := rd_e hf
  refine lM_5 K g26 dX10_findFlows_96 ?_
  refine o_nmi ex25 ?_
  refine o_iload_n K 2 dX10_findFlows_97 rfl rfl ?_
  refine o_iadd K dX10_findFlows_98 ?_
  obtain ⟨g27, M28, eM28, hf⟩ := wr_e hf
  refine sM_5 K g27 dX10_findFlows_99 ?_
  refine o_nmM eM28 ?_
  obtain ⟨x29, ex29, hf⟩ := nm_o hf
  refine o_iinc K 1 x29 [some (.ref (h 0)), some (.int x29), some (.int a1)] dX10_findFlows_100 rfl (inc_e (by decide) ex29) (by decide) rfl rfl ?_
  refine o_goto K 23 dX10_findFlows_103 (by decide) ?_
  refine o_drop [true, true, false] (V2 := [some (.ref (h 0)), some (.int x29), none]) rfl ?_
  exact ih23 x29 M28 hf
def f_X10_findFlows_l23 : Nat → Int32 → Mem → Option Mem
  | 0, _, _ => none
  | n + 1, a0, M => rd M 1 1460 1 fun x5 => if x5 ≤ a0 then (some M) else bd2 (f_X10_flowOf M a0) fun r8 M9 => wr M9 4 10 a0 r8 fun M11 => rd M11 4 10 a0 fun x12 => if 0 ≤ x12 then (rd M11 4 10 a0 fun x15 => f_X10_findFlows_j69 (f_X10_findFlows_l23 n) a0 x15 M11) else rd M11 4 10 a0 fun x17 => f_X10_findFlows_j69 (f_X10_findFlows_l23 n) a0 (-x17) M11
set_option maxHeartbeats 4000000 in
set_option maxRecDepth 100000 in
theorem t_X10_findFlows_l23 {x : En} {E : Amd} {D : va_G} {ca : Nat → ClassId} {h : Nat → Nat} (K : Kx x E D (tysOf ca) h (LaM ca h) RX10 cX10_findFlows 3 4 92) {Mo : Mem} (hR : Rt x D h (LaM ca h) none none Mo) : ∀ (n : Nat) (a0 : Int32) (M : Mem), f_X10_findFlows_l23 n a0 M = some Mo → Go x D (tysOf ca) h (LaM ca h) 3 M 23 [some (.ref (h 0)), some (.int a0), none] [] := by
  intro n
  induction n with
  | zero =>
    intro a0 M hf
    cases hf
  | succ n ih =>
    intro a0 M hf
    rw [f_X10_findFlows_l23] at hf
    refine o_iload_n K 1 dX10_findFlows_23 rfl rfl ?_
    refine o_aload_n K 0 dX10_findFlows_24 rfl rfl ?_
    refine gM_9 K dX10_findFlows_25 ?_
    refine o_iconst K 1 dX10_findFlows_28 (by decide) ?_
    obtain ⟨g6, x5, ex5, hf⟩ := rd_e hf
    refine lM_1 K g6 dX10_findFlows_29 ?_
    refine o_nmi ex5 ?_
    refine o_icmp_ge K 106 dX10_findFlows_30 (by decide) (fun c7 => ?_) (fun c7 => ?_)
    · have hf := ip c7 hf
      exact e_vret K hf hR dX10_findFlows_106
    · have hf := im c7 hf
      refine o_aload_n K 0 dX10_findFlows_33 rfl rfl ?_
      refine gM_19 K dX10_findFlows_34 ?_
      refine o_iload_n K 1 dX10_findFlows_37 rfl rfl ?_
      refine o_aload_n K 0 dX10_findFlows_38 rfl rfl ?_
      refine o_iload_n K 1 dX10_findFlows_39 rfl rfl ?_
      obtain ⟨r8, M9, er8, hf⟩ := bd2_e hf
      refine o_callV K [.int a0] (k_X10_flowOf x.2.1 E D ca h M a0 er8) s_X10_130 (ltM (by decide)) rfl rfl rfl rfl ⟨by decide, by decide⟩ (Nat.le_of_ble_eq_true rfl) _ rfl dX10_findFlows_40 ?_
      show Go x D (tysOf ca) h (LaM ca h) 3 M9 43 [some (.ref (h 0)), some (.int a0), none] [.int r8, .int a0, .ref (h 4)]
      obtain ⟨g10, M11, eM11, hf⟩ := wr_e hf
      refine sM_4 K g10 dX10_findFlows_43 ?_
      refine o_nmM eM11 ?_
      refine o_aload_n K 0 dX10_findFlows_44 rfl rfl ?_
      refine gM_19 K dX10_findFlows_45 ?_
      refine o_iload_n K 1 dX10_findFlows_48 rfl rfl ?_
      obtain ⟨g13, x12, ex12, hf⟩ := rd_e hf
      refine lM_4 K g13 dX10_findFlows_49 ?_
      refine o_nmi ex12 ?_
      refine o_if_ge K 63 dX10_findFlows_50 (by decide) (fun c14 => ?_) (fun c14 => ?_)
      · have hf := ip c14 hf
        refine o_aload_n K 0 dX10_findFlows_63 rfl rfl ?_
        refine gM_19 K dX10_findFlows_64 ?_
        refine o_iload_n K 1 dX10_findFlows_67 rfl rfl ?_
        obtain ⟨g16, x15, ex15, hf⟩ := rd_e hf
        refine lM_4 K g16 dX10_findFlows_68 ?_
        refine o_nmi ex15 ?_
        exact t_X10_findFlows_j69 K hR ih a0 x15 M11 hf
      · have hf := im c14 hf
        refine o_aload_n K 0 dX10_findFlows_53 rfl rfl ?_
        refine gM_19 K dX10_findFlows_54 ?_
        refine o_iload_n K 1 dX10_findFlows_57 rfl rfl ?_
        obtain ⟨g18, x17, ex17, hf⟩ := rd_e hf
        refine lM_4 K g18 dX10_findFlows_58 ?_
        refine o_nmi ex17 ?_
        refine o_ineg K dX10_findFlows_59 ?_
        refine o_goto K 69 dX10_findFlows_60 (by decide) ?_
        exact t_X10_findFlows_j69 K hR ih a0 (-x17) M11 hf
def f_X10_findFlows_l2 : Nat → Int32 → Mem → Option Mem
  | 0, _, _ => none
  | n + 1, a0, M => if 9 ≤ a0 then (f_X10_findFlows_l23 FU (0 : Int32) M) else wr M 5 9 a0 0 fun M3 => nm (a0 + 1 : Int32) fun x4 => f_X10_findFlows_l2 n x4 M3
set_option maxHeartbeats 4000000 in
set_option maxRecDepth 100000 in
theorem t_X10_findFlows_l2 {x : En} {E : Amd} {D : va_G} {ca : Nat → ClassId} {h : Nat → Nat} (K : Kx x E D (tysOf ca) h (LaM ca h) RX10 cX10_findFlows 3 4 92) {Mo : Mem} (hR : Rt x D h (LaM ca h) none none Mo) : ∀ (n : Nat) (a0 : Int32) (M : Mem), f_X10_findFlows_l2 n a0 M = some Mo → Go x D (tysOf ca) h (LaM ca h) 3 M 2 [some (.ref (h 0)), some (.int a0), none] [] := by
  intro n
  induction n with
  | zero =>
    intro a0 M hf
    cases hf
  | succ n ih =>
    intro a0 M hf
    rw [f_X10_findFlows_l2] at hf
    refine o_iload_n K 1 dX10_findFlows_2 rfl rfl ?_
    refine o_bipush K 9 dX10_findFlows_3 (by decide) ?_
    refine o_icmp_ge K 21 dX10_findFlows_5 (by decide) (fun c1 => ?_) (fun c1 => ?_)
    · have hf := ip c1 hf
      refine o_iconst K 0 dX10_findFlows_21 (by decide) ?_
      refine o_istore_n K 1 [some (.ref (h 0)), some (.int 0), none] dX10_findFlows_22 rfl (by decide) rfl rfl ?_
      exact t_X10_findFlows_l23 K hR FU (0 : Int32) M hf
    · have hf := im c1 hf
      refine o_aload_n K 0 dX10_findFlows_8 rfl rfl ?_
      refine gM_22 K dX10_findFlows_9 ?_
      refine o_iload_n K 1 dX10_findFlows_12 rfl rfl ?_
      refine o_iconst K 0 dX10_findFlows_13 (by decide) ?_
      obtain ⟨g2, M3, eM3, hf⟩ := wr_e hf
      refine sM_5 K g2 dX10_findFlows_14 ?_
      refine o_nmM eM3 ?_
      obtain ⟨x4, ex4, hf⟩ := nm_o hf
      refine o_iinc K 1 x4 [some (.ref (h 0)), some (.int x4), none] dX10_findFlows_15 rfl (inc_e (by decide) ex4) (by decide) rfl rfl ?_
      refine o_goto K 2 dX10_findFlows_18 (by decide) ?_
      exact ih x4 M3 hf
def f_X10_findFlows (M : Mem) : Option Mem := f_X10_findFlows_l2 FU (0 : Int32) M
set_option maxHeartbeats 4000000 in
set_option maxRecDepth 100000 in
theorem k_X10_findFlows (l : Launch) (E : Amd) (D : va_G) (ca : Nat → ClassId) (h : Nat → Nat) (M : Mem) {Mo : Mem} (hf : f_X10_findFlows M = some Mo) : Ct l E D (tysOf ca) h (LaM ca h) yX10_findFlows cX10_findFlows 3 none 4 92 [.ref (h 0)] M none Mo := by
  refine Ct.mk [some (.ref (h 0)), none, none] (by decide) (Nat.le_of_ble_eq_true rfl) (argsV [.ref (h 0)] 2 rfl rfl) ?_
  intro x hx0 K hR
  have K : Kx x E D (tysOf ca) h (LaM ca h) RX10 cX10_findFlows 3 4 92 := K
  rw [f_X10_findFlows] at hf
  refine o_iconst K 0 dX10_findFlows_0 (by decide) ?_
  refine o_istore_n K 1 [some (.ref (h 0)), some (.int 0), none] dX10_findFlows_1 rfl (by decide) rfl rfl ?_
  exact t_X10_findFlows_l2 K hR FU (0 : Int32) M hf
