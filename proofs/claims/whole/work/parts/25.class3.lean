def f_X8_likeliestDoor_j55 (nl : Nat) (b1 : Nat) (s2 : Nat) (rec10 : Int32 → Int32 → Int32 → Int32 → Mem → Option (Int32 × Mem)) (a0 : Int32) (a1 : Int32) (a2 : Int32) (a3 : Int32) (M : Mem) : Option (Int32 × Mem) := nm (a3 + 1 : Int32) fun x6 => rec10 a0 a1 a2 x6 M
set_option maxHeartbeats 4000000 in
set_option maxRecDepth 100000 in
theorem t_X8_likeliestDoor_j55 {x : En} {E : Amd} {D : va_G} {ca : Nat → ClassId} {h : Nat → Nat} {nl : Nat} {b1 : Nat} {s2 : Nat} (K : Kx x E D (tysOf ca) h (LaC ca h nl) RX8 cX8_likeliestDoor 8 5 113) {r0 : Int32} {Mo : Mem} (hR : Rt x D h (LaC ca h nl) (some .int) (some (.int r0)) Mo) (hb1 : b1 < 3) (hs2 : ShOK ca h s2) {rec10 : Int32 → Int32 → Int32 → Int32 → Mem → Option (Int32 × Mem)} (ih10 : ∀ (w0 : Int32) (w1 : Int32) (w2 : Int32) (w3 : Int32) (M : Mem), rec10 w0 w1 w2 w3 M = some (r0, Mo) → Go x D (tysOf ca) h (LaC ca h nl) 8 M 10 [some (.ref (h 52)), some (.ref (h (HB b1))), some (.ref (h s2)), some (.int w0), some (.int w1), some (.int w2), some (.int w3), none] []) (a0 : Int32) (a1 : Int32) (a2 : Int32) (a3 : Int32) (M : Mem) (hf : f_X8_likeliestDoor_j55 nl b1 s2 rec10 a0 a1 a2 a3 M = some (r0, Mo)) : Go x D (tysOf ca) h (LaC ca h nl) 8 M 55 [some (.ref (h 52)), some (.ref (h (HB b1))), some (.ref (h s2)), some (.int a0), some (.int a1), some (.int a2), some (.int a3), none] [] := by
  rw [f_X8_likeliestDoor_j55] at hf
  obtain ⟨x6, ex6, hf⟩ := nm_o hf
  refine o_iinc K 6 x6 [some (.ref (h 52)), some (.ref (h (HB b1))), some (.ref (h s2)), some (.int a0), some (.int a1), some (.int a2), some (.int x6), none] dX8_likeliestDoor_55 rfl (inc_e (by decide) ex6) (by decide) rfl rfl ?_
  refine o_goto K 10 dX8_likeliestDoor_58 (by decide) ?_
  exact ih10 a0 a1 a2 x6 M hf
def f_X8_likeliestDoor_j47 (nl : Nat) (b1 : Nat) (s2 : Nat) (rec10 : Int32 → Int32 → Int32 → Int32 → Mem → Option (Int32 × Mem)) (a0 : Int32) (a1 : Int32) (a2 : Int32) (M : Mem) : Option (Int32 × Mem) := f_X8_likeliestDoor_j55 nl b1 s2 rec10 a0 a1 a2 a1 M
set_option maxHeartbeats 4000000 in
set_option maxRecDepth 100000 in
theorem t_X8_likeliestDoor_j47 {x : En} {E : Amd} {D : va_G} {ca : Nat → ClassId} {h : Nat → Nat} {nl : Nat} {b1 : Nat} {s2 : Nat} (K : Kx x E D (tysOf ca) h (LaC ca h nl) RX8 cX8_likeliestDoor 8 5 113) {r0 : Int32} {Mo : Mem} (hR : Rt x D h (LaC ca h nl) (some .int) (some (.int r0)) Mo) (hb1 : b1 < 3) (hs2 : ShOK ca h s2) {rec10 : Int32 → Int32 → Int32 → Int32 → Mem → Option (Int32 × Mem)} (ih10 : ∀ (w0 : Int32) (w1 : Int32) (w2 : Int32) (w3 : Int32) (M : Mem), rec10 w0 w1 w2 w3 M = some (r0, Mo) → Go x D (tysOf ca) h (LaC ca h nl) 8 M 10 [some (.ref (h 52)), some (.ref (h (HB b1))), some (.ref (h s2)), some (.int w0), some (.int w1), some (.int w2), some (.int w3), none] []) (a0 : Int32) (a1 : Int32) (a2 : Int32) (M : Mem) (hf : f_X8_likeliestDoor_j47 nl b1 s2 rec10 a0 a1 a2 M = some (r0, Mo)) : Go x D (tysOf ca) h (LaC ca h nl) 8 M 47 [some (.ref (h 52)), some (.ref (h (HB b1))), some (.ref (h s2)), some (.int a0), none, none, some (.int a1), some (.int a2)] [] := by
  rw [f_X8_likeliestDoor_j47] at hf
  refine o_iload K 6 dX8_likeliestDoor_47 rfl ?_
  refine o_istore K 4 [some (.ref (h 52)), some (.ref (h (HB b1))), some (.ref (h s2)), some (.int a0), some (.int a1), none, some (.int a1), some (.int a2)] dX8_likeliestDoor_49 (by decide) rfl rfl ?_
  refine o_iload K 7 dX8_likeliestDoor_51 rfl ?_
  refine o_istore K 5 [some (.ref (h 52)), some (.ref (h (HB b1))), some (.ref (h s2)), some (.int a0), some (.int a1), some (.int a2), some (.int a1), some (.int a2)] dX8_likeliestDoor_53 (by decide) rfl rfl ?_
  refine o_drop [true, true, true, true, true, true, true, false] (V2 := [some (.ref (h 52)), some (.ref (h (HB b1))), some (.ref (h s2)), some (.int a0), some (.int a1), some (.int a2), some (.int a1), none]) rfl ?_
  exact t_X8_likeliestDoor_j55 K hR hb1 hs2 ih10 a0 a1 a2 a1 M hf
def f_X8_likeliestDoor_l10 (nl : Nat) (b1 : Nat) (s2 : Nat) : Nat → Int32 → Int32 → Int32 → Int32 → Mem → Option (Int32 × Mem)
  | 0, _, _, _, _, _ => none
  | n + 1, a0, a1, a2, a3, M => if (M (HB b1 + 1) 0) ≤ a3 then (some (a1, M)) else bd2 (f_X8_differenceWith nl b1 s2 M a3 a0) fun r2 M3 => if a1 = (-1000000005) then (f_X8_likeliestDoor_j47 nl b1 s2 (f_X8_likeliestDoor_l10 nl b1 s2 n) a0 a3 r2 M3) else if a2 ≤ r2 then (f_X8_likeliestDoor_j55 nl b1 s2 (f_X8_likeliestDoor_l10 nl b1 s2 n) a0 a1 a2 a3 M3) else f_X8_likeliestDoor_j47 nl b1 s2 (f_X8_likeliestDoor_l10 nl b1 s2 n) a0 a3 r2 M3
set_option maxHeartbeats 4000000 in
set_option maxRecDepth 100000 in
theorem t_X8_likeliestDoor_l10 {x : En} {E : Amd} {D : va_G} {ca : Nat → ClassId} {h : Nat → Nat} {nl : Nat} {b1 : Nat} {s2 : Nat} (K : Kx x E D (tysOf ca) h (LaC ca h nl) RX8 cX8_likeliestDoor 8 5 113) {r0 : Int32} {Mo : Mem} (hR : Rt x D h (LaC ca h nl) (some .int) (some (.int r0)) Mo) (hb1 : b1 < 3) (hs2 : ShOK ca h s2) : ∀ (n : Nat) (a0 : Int32) (a1 : Int32) (a2 : Int32) (a3 : Int32) (M : Mem), f_X8_likeliestDoor_l10 nl b1 s2 n a0 a1 a2 a3 M = some (r0, Mo) → Go x D (tysOf ca) h (LaC ca h nl) 8 M 10 [some (.ref (h 52)), some (.ref (h (HB b1))), some (.ref (h s2)), some (.int a0), some (.int a1), some (.int a2), some (.int a3), none] [] := by
  intro n
  induction n with
  | zero =>
    intro a0 a1 a2 a3 M hf
    cases hf
  | succ n ih =>
    intro a0 a1 a2 a3 M hf
    rw [f_X8_likeliestDoor_l10] at hf
    refine o_iload K 6 dX8_likeliestDoor_10 rfl ?_
    refine o_aload_n K 1 dX8_likeliestDoor_12 rfl rfl ?_
    refine gC_X8_36 hb1 K dX8_likeliestDoor_13 ?_
    refine gC_X8_89 hb1 K dX8_likeliestDoor_16 ?_
    refine o_icmp_ge K 61 dX8_likeliestDoor_19 (by decide) (fun c1 => ?_) (fun c1 => ?_)
    · have hf := ip c1 hf
      refine o_iload K 4 dX8_likeliestDoor_61 rfl ?_
      exact e_iret K hf hR dX8_likeliestDoor_63
    · have hf := im c1 hf
      refine o_aload_n K 0 dX8_likeliestDoor_22 rfl rfl ?_
      refine o_aload_n K 1 dX8_likeliestDoor_23 rfl rfl ?_
      refine o_aload_n K 2 dX8_likeliestDoor_24 rfl rfl ?_
      refine o_iload K 6 dX8_likeliestDoor_25 rfl ?_
      refine o_iload_n K 3 dX8_likeliestDoor_27 rfl rfl ?_
      obtain ⟨r2, M3, er2, hf⟩ := bd2_e hf
      refine o_callV K [.ref (h (HB b1)), .ref (h s2), .int a3, .int a0] (k_X8_differenceWith x.2.1 E D ca h nl M b1 s2 a3 a0 hb1 hs2 er2) s_X8_92 (ltThought) (obThought_c (ca := ca) (h := h) (fun _ => 0)) rfl rfl rfl ⟨by decide, by decide⟩ (Nat.le_of_ble_eq_true rfl) _ rfl dX8_likeliestDoor_28 ?_
      show Go x D (tysOf ca) h (LaC ca h nl) 8 M3 31 [some (.ref (h 52)), some (.ref (h (HB b1))), some (.ref (h s2)), some (.int a0), some (.int a1), some (.int a2), some (.int a3), none] [.int r2]
      refine o_istore K 7 [some (.ref (h 52)), some (.ref (h (HB b1))), some (.ref (h s2)), some (.int a0), some (.int a1), some (.int a2), some (.int a3), some (.int r2)] dX8_likeliestDoor_31 (by decide) rfl rfl ?_
      refine o_iload K 4 dX8_likeliestDoor_33 rfl ?_
      refine o_ldc K q552 dX8_likeliestDoor_35 ?_
      refine o_icmp_eq K 47 dX8_likeliestDoor_37 (by decide) (fun c4 => ?_) (fun c4 => ?_)
      · have hf := ip c4 hf
        refine o_drop [true, true, true, true, false, false, true, true] (V2 := [some (.ref (h 52)), some (.ref (h (HB b1))), some (.ref (h s2)), some (.int a0), none, none, some (.int a3), some (.int r2)]) rfl ?_
        exact t_X8_likeliestDoor_j47 K hR hb1 hs2 ih a0 a3 r2 M3 hf
      · have hf := im c4 hf
        refine o_iload K 7 dX8_likeliestDoor_40 rfl ?_
        refine o_iload K 5 dX8_likeliestDoor_42 rfl ?_
        refine o_icmp_ge K 55 dX8_likeliestDoor_44 (by decide) (fun c5 => ?_) (fun c5 => ?_)
        · have hf := ip c5 hf
          refine o_drop [true, true, true, true, true, true, true, false] (V2 := [some (.ref (h 52)), some (.ref (h (HB b1))), some (.ref (h s2)), some (.int a0), some (.int a1), some (.int a2), some (.int a3), none]) rfl ?_
          exact t_X8_likeliestDoor_j55 K hR hb1 hs2 ih a0 a1 a2 a3 M3 hf
        · have hf := im c5 hf
          refine o_drop [true, true, true, true, false, false, true, true] (V2 := [some (.ref (h 52)), some (.ref (h (HB b1))), some (.ref (h s2)), some (.int a0), none, none, some (.int a3), some (.int r2)]) rfl ?_
          exact t_X8_likeliestDoor_j47 K hR hb1 hs2 ih a0 a3 r2 M3 hf
def f_X8_likeliestDoor (nl : Nat) (b1 : Nat) (s2 : Nat) (M : Mem) (a3 : Int32) : Option (Int32 × Mem) := f_X8_likeliestDoor_l10 nl b1 s2 FU a3 ((-1000000005) : Int32) (0 : Int32) (0 : Int32) M
set_option maxHeartbeats 4000000 in
set_option maxRecDepth 100000 in
theorem k_X8_likeliestDoor (l : Launch) (E : Amd) (D : va_G) (ca : Nat → ClassId) (h : Nat → Nat) (nl : Nat) (M : Mem) (b1 : Nat) (s2 : Nat) (a3 : Int32) {r0 : Int32} {Mo : Mem} (hb1 : b1 < 3) (hs2 : ShOK ca h s2) (hf : f_X8_likeliestDoor nl b1 s2 M a3 = some (r0, Mo)) : Ct l E D (tysOf ca) h (LaC ca h nl) yX8_likeliestDoor cX8_likeliestDoor 8 (some .int) 5 113 [.ref (h 52), .ref (h (HB b1)), .ref (h s2), .int a3] M (some (.int r0)) Mo := by
  refine Ct.mk [some (.ref (h 52)), some (.ref (h (HB b1))), some (.ref (h s2)), some (.int a3), none, none, none, none] (by decide) (Nat.le_of_ble_eq_true rfl) (argsV [.ref (h 52), .ref (h (HB b1)), .ref (h s2), .int a3] 4 rfl rfl) ?_
  intro x hx0 K hR
  have K : Kx x E D (tysOf ca) h (LaC ca h nl) RX8 cX8_likeliestDoor 8 5 113 := K
  rw [f_X8_likeliestDoor] at hf
  refine o_ldc K q552 dX8_likeliestDoor_0 ?_
  refine o_istore K 4 [some (.ref (h 52)), some (.ref (h (HB b1))), some (.ref (h s2)), some (.int a3), some (.int (-1000000005)), none, none, none] dX8_likeliestDoor_2 (by decide) rfl rfl ?_
  refine o_iconst K 0 dX8_likeliestDoor_4 (by decide) ?_
  refine o_istore K 5 [some (.ref (h 52)), some (.ref (h (HB b1))), some (.ref (h s2)), some (.int a3), some (.int (-1000000005)), some (.int 0), none, none] dX8_likeliestDoor_5 (by decide) rfl rfl ?_
  refine o_iconst K 0 dX8_likeliestDoor_7 (by decide) ?_
  refine o_istore K 6 [some (.ref (h 52)), some (.ref (h (HB b1))), some (.ref (h s2)), some (.int a3), some (.int (-1000000005)), some (.int 0), some (.int 0), none] dX8_likeliestDoor_8 (by decide) rfl rfl ?_
  exact t_X8_likeliestDoor_l10 K hR hb1 hs2 FU a3 ((-1000000005) : Int32) (0 : Int32) (0 : Int32) M hf
def f_X8_rightOnes_l25 (nl : Nat) (b1 : Nat) : Nat → Int32 → Int32 → Int32 → Int32 → Mem → Option (Int32 × Mem)
  | 0, _, _, _, _, _ => none
  | n + 1, a0, a1, a2, a3, M => if a1 ≤ a3 then (some (a2, M)) else bd (f_X1_passMinute nl 2 M) fun M7 => if a0 ≤ a2 then (some (a2, M7)) else rd M7 81 60 a2 fun x9 => bd (f_X1_airOfAll 2 M7) fun r11 => if x9 = r11 then (nm (a2 + 1 : Int32) fun x13 => if a0 ≤ x13 then (some (x13, M7)) else rd M7 81 60 x13 fun x15 => if x15 = (M7 (HB 2) 5) then (nm (x13 + 1 : Int32) fun x18 => nm (a3 + 1 : Int32) fun x19 => f_X8_rightOnes_l25 nl b1 n a0 a1 x18 x19 M7) else some (x13, M7)) else some (a2, M7)
set_option maxHeartbeats 4000000 in
set_option maxRecDepth 100000 in
theorem t_X8_rightOnes_l25 {x : En} {E : Amd} {D : va_G} {ca : Nat → ClassId} {h : Nat → Nat} {nl : Nat} {b1 : Nat} (K : Kx x E D (tysOf ca) h (LaC ca h nl) RX8 cX8_rightOnes 8 5 115) {r0 : Int32} {Mo : Mem} (hR : Rt x D h (LaC ca h nl) (some .int) (some (.int r0)) Mo) (hb1 : b1 < 3) : ∀ (n : Nat) (a0 : Int32) (a1 : Int32) (a2 : Int32) (a3 : Int32) (M : Mem), f_X8_rightOnes_l25 nl b1 n a0 a1 a2 a3 M = some (r0, Mo) → Go x D (tysOf ca) h (LaC ca h nl) 8 M 25 [some (.ref (h 52)), none, some (.ref (h 81)), some (.int a0), none, some (.int a1), some (.int a2), some (.int a3)] [] := by
  intro n
  induction n with
  | zero =>
    intro a0 a1 a2 a3 M hf
    cases hf
  | succ n ih =>
    intro a0 a1 a2 a3 M hf
    rw [f_X8_rightOnes_l25] at hf
    refine o_iload K 7 dX8_rightOnes_25 rfl ?_
    refine o_iload K 5 dX8_rightOnes_27 rfl ?_
    refine o_icmp_ge K 97 dX8_rightOnes_29 (by decide) (fun c5 => ?_) (fun c5 => ?_)
    · have hf := ip c5 hf
      refine o_iload K 6 dX8_rightOnes_97 rfl ?_
      exact e_iret K hf hR dX8_rightOnes_99
    · have hf := im c5 hf
      refine o_aload_n K 0 dX8_rightOnes_32 rfl rfl ?_
      refine gC_X8_12 K dX8_rightOnes_33 ?_
      obtain ⟨M7, er6, hf⟩ := bd_e hf
      refine o_callV K [] (k_X1_passMinute x.2.1 E D ca h nl M 2 hb_2 er6) s_X8_22 (ltHall hb_2) (obHall_c (ca := ca) (h := h) hb_2 _) rfl rfl rfl ⟨by decide, by decide⟩ (Nat.le_of_ble_eq_true rfl) _ rfl dX8_rightOnes_36 ?_
      show Go x D (tysOf ca) h (LaC ca h nl) 8 M7 39 [some (.ref (h 52)), none, some (.ref (h 81)), some (.int a0), none, some (.int a1), some (.int a2), some (.int a3)] []
      refine o_iload K 6 dX8_rightOnes_39 rfl ?_
      refine o_iload_n K 3 dX8_rightOnes_41 rfl rfl ?_
      refine o_icmp_ge K 59 dX8_rightOnes_42 (by decide) (fun c8 => ?_) (fun c8 => ?_)
      · have hf := ip c8 hf
        refine o_iload K 6 dX8_rightOnes_59 rfl ?_
        exact e_iret K hf hR dX8_rightOnes_61
      · have hf := im c8 hf
        refine o_aload_n K 2 dX8_rightOnes_45 rfl rfl ?_
        refine o_iload K 6 dX8_rightOnes_46 rfl ?_
        obtain ⟨g10, x9, ex9, hf⟩ := rd_e hf
        refine lCk 81 60 (by decide) (fun _ => rfl) K g10 dX8_rightOnes_48 ?_
        refine o_nmi ex9 ?_
        refine o_aload_n K 0 dX8_rightOnes_49 rfl rfl ?_
        refine gC_X8_12 K dX8_rightOnes_50 ?_
        obtain ⟨r11, er11, hf⟩ := bd_e hf
        refine o_callV K [] (k_X1_airOfAll x.2.1 E D ca h nl M7 2 hb_2 er11) s_X8_120 (ltHall hb_2) (obHall_c (ca := ca) (h := h) hb_2 _) rfl rfl rfl ⟨by decide, by decide⟩ (Nat.le_of_ble_eq_true rfl) _ rfl dX8_rightOnes_53 ?_
        show Go x D (tysOf ca) h (LaC ca h nl) 8 M7 56 [some (.ref (h 52)), none, some (.ref (h 81)), some (.int a0), none, some (.int a1), some (.int a2), some (.int a3)] [.int r11, .int x9]
        refine o_icmp_eq K 62 dX8_rightOnes_56 (by decide) (fun c12 => ?_) (fun c12 => ?_)
        · have hf := ip c12 hf
          obtain ⟨x13, ex13, hf⟩ := nm_o hf
          refine o_iinc K 6 x13 [some (.ref (h 52)), none, some (.ref (h 81)), some (.int a0), none, some (.int a1), some (.int x13), some (.int a3)] dX8_rightOnes_62 rfl (inc_e (by decide) ex13) (by decide) rfl rfl ?_
          refine o_iload K 6 dX8_rightOnes_65 rfl ?_
          refine o_iload_n K 3 dX8_rightOnes_67 rfl rfl ?_
          refine o_icmp_ge K 85 dX8_rightOnes_68 (by decide) (fun c14 => ?_) (fun c14 => ?_)
          · have hf := ip c14 hf
            refine o_iload K 6 dX8_rightOnes_85 rfl ?_
            exact e_iret K hf hR dX8_rightOnes_87
          · have hf := im c14 hf
            refine o_aload_n K 2 dX8_rightOnes_71 rfl rfl ?_
            refine o_iload K 6 dX8_rightOnes_72 rfl ?_
            obtain ⟨g16, x15, ex15, hf⟩ := rd_e hf
            refine lCk 81 60 (by decide) (fun _ => rfl) K g16 dX8_rightOnes_74 ?_
            refine o_nmi ex15 ?_
            refine o_aload_n K 0 dX8_rightOnes_75 rfl rfl ?_
            refine gC_X8_12 K dX8_rightOnes_76 ?_
            refine gC_X8_86 hb_2 K dX8_rightOnes_79 ?_
            refine o_icmp_eq K 88 dX8_rightOnes_82 (by decide) (fun c17 => ?_) (fun c17 => ?_)
            · have hf := ip c17 hf
              obtain ⟨x18, ex18, hf⟩ := nm_o hf
              refine o_iinc K 6 x18 [some (.ref (h 52)), none, some (.ref (h 81)), some (.int a0), none, some (.int a1), some (.int x18), some (.int a3)] dX8_rightOnes_88 rfl (inc_e (by decide) ex18) (by decide) rfl rfl ?_
              obtain ⟨x19, ex19, hf⟩ := nm_o hf
              refine o_iinc K 7 x19 [some (.ref (h 52)), none, some (.ref (h 81)), some (.int a0), none, some (.int a1), some (.int x18), some (.int x19)] dX8_rightOnes_91 rfl (inc_e (by decide) ex19) (by decide) rfl rfl ?_
              refine o_goto K 25 dX8_rightOnes_94 (by decide) ?_
              exact ih a0 a1 x18 x19 M7 hf
            · have hf := im c17 hf
              refine o_iload K 6 dX8_rightOnes_85 rfl ?_
              exact e_iret K hf hR dX8_rightOnes_87
        · have hf := im c12 hf
          refine o_iload K 6 dX8_rightOnes_59 rfl ?_
          exact e_iret K hf hR dX8_rightOnes_61
def f_X8_rightOnes (nl : Nat) (b1 : Nat) (M : Mem) (a3 : Int32) (a4 : Int32) : Option (Int32 × Mem) := bd (f_X1_takeFrom nl 2 b1 M) fun M2 => bd (f_X1_minutesLeft b1 M2) fun r3 => nm ((if r3 < a4 then r3 else a4) : Int32) fun x4 => f_X8_rightOnes_l25 nl b1 FU a3 x4 (0 : Int32) (0 : Int32) M2
set_option maxHeartbeats 4000000 in
set_option maxRecDepth 100000 in
theorem k_X8_rightOnes (l : Launch) (E : Amd) (D : va_G) (ca : Nat → ClassId) (h : Nat → Nat) (nl : Nat) (M : Mem) (b1 : Nat) (a3 : Int32) (a4 : Int32) {r0 : Int32} {Mo : Mem} (hb1 : b1 < 3) (hf : f_X8_rightOnes nl b1 M a3 a4 = some (r0, Mo)) : Ct l E D (tysOf ca) h (LaC ca h nl) yX8_rightOnes cX8_rightOnes 8 (some .int) 5 115 [.ref (h 52), .ref (h (HB b1)), .ref (h 81), .int a3, .int a4] M (some (.int r0)) Mo := by
  refine Ct.mk [some (.ref (h 52)), some (.ref (h (HB b1))), some (.ref (h 81)), some (.int a3), some (.int a4), none, none, none] (by decide) (Nat.le_of_ble_eq_true rfl) (argsV [.ref (h 52), .ref (h (HB b1)), .ref (h 81), .int a3, .int a4] 3 rfl rfl) ?_
  intro x hx0 K hR
  have K : Kx x E D (tysOf ca) h (LaC ca h nl) RX8 cX8_rightOnes 8 5 115 := K
  rw [f_X8_rightOnes] at hf
  refine o_aload_n K 0 dX8_rightOnes_0 rfl rfl ?_
  refine gC_X8_12 K dX8_rightOnes_1 ?_
  refine o_aload_n K 1 dX8_rightOnes_4 rfl rfl ?_
  obtain ⟨M2, er1, hf⟩ := bd_e hf
  refine o_callV K [.ref (h (HB b1))] (k_X1_takeFrom x.2.1 E D ca h nl M 2 b1 hb_2 hb1 er1) s_X8_18 (ltHall hb_2) (obHall_c (ca := ca) (h := h) hb_2 _) rfl rfl rfl ⟨by decide, by decide⟩ (Nat.le_of_ble_eq_true rfl) _ rfl dX8_rightOnes_5 ?_
  show Go x D (tysOf ca) h (LaC ca h nl) 8 M2 8 [some (.ref (h 52)), some (.ref (h (HB b1))), some (.ref (h 81)), some (.int a3), some (.int a4), none, none, none] []
  refine o_iload K 4 dX8_rightOnes_8 rfl ?_
  refine o_aload_n K 1 dX8_rightOnes_10 rfl rfl ?_
  obtain ⟨r3, er3, hf⟩ := bd_e hf
  refine o_callV K [] (k_X1_minutesLeft x.2.1 E D ca h nl M2 b1 hb1 er3) s_X8_113 (ltHall hb1) (obHall_c (ca := ca) (h := h) hb1 _) rfl rfl rfl ⟨by decide, by decide⟩ (Nat.le_of_ble_eq_true rfl) _ rfl dX8_rightOnes_11 ?_
  show Go x D (tysOf ca) h (LaC ca h nl) 8 M2 14 [some (.ref (h 52)), some (.ref (h (HB b1))), some (.ref (h 81)), some (.int a3), some (.int a4), none, none, none] [.int r3, .int a4]
  refine o_mmin K q957 q110 q6 q111 ⟨by decide, by decide⟩ (Nat.le_of_ble_eq_true rfl) dX8_rightOnes_14 ?_
  obtain ⟨x4, ex4, hf⟩ := nm_o hf
  refine o_nmi ex4 ?_
  refine o_istore K 5 [some (.ref (h 52)), some (.ref (h (HB b1))), some (.ref (h 81)), some (.int a3), some (.int a4), some (.int x4), none, none] dX8_rightOnes_17 (by decide) rfl rfl ?_
  refine o_iconst K 0 dX8_rightOnes_19 (by decide) ?_
  refine o_istore K 6 [some (.ref (h 52)), some (.ref (h (HB b1))), some (.ref (h 81)), some (.int a3), some (.int a4), some (.int x4), some (.int 0), none] dX8_rightOnes_20 (by decide) rfl rfl ?_
  refine o_iconst K 0 dX8_rightOnes_22 (by decide) ?_
  refine o_istore K 7 [some (.ref (h 52)), some (.ref (h (HB b1))), some (.ref (h 81)), some (.int a3), some (.int a4), some (.int x4), some (.int 0), some (.int 0)] dX8_rightOnes_23 (by decide) rfl rfl ?_
  refine o_drop [true, false, true, true, false, true, true, true] (V2 := [some (.ref (h 52)), none, some (.ref (h 81)), some (.int a3), none, some (.int x4), some (.int 0), some (.int 0)]) rfl ?_
  exact t_X8_rightOnes_l25 K hR hb1 FU a3 x4 (0 : Int32) (0 : Int32) M2 hf
def f_X9_isRoom (a1 : Int32) : Option Int32 := bd (f_X9_isWithin a1 (0 : Int32) (7 : Int32)) fun r1 => gd (bz r1) <| some (r1)
set_option maxHeartbeats 4000000 in
set_option maxRecDepth 100000 in
theorem k_X9_isRoom (l : Launch) (E : Amd) (D : va_G) (ca : Nat → ClassId) (h : Nat → Nat) (nl : Nat) (M : Mem) (a1 : Int32) {r0 : Int32} (hf : f_X9_isRoom a1 = some r0) : Ct l E D (tysOf ca) h (LaC ca h nl) yX9_isRoom cX9_isRoom 1 (some .boolean) 1 22 [.int a1] M (some (.int r0)) M := by
  refine Ct.mk [some (.int a1)] (by decide) (Nat.le_of_ble_eq_true rfl) (argsV [.int a1] 0 rfl rfl) ?_
  intro x hx0 K hR
  have K : Kx x E D (tysOf ca) h (LaC ca h nl) RX9 cX9_isRoom 1 1 22 := K
  rw [f_X9_isRoom] at hf
  refine o_iload_n K 0 dX9_isRoom_0 rfl rfl ?_
  refine o_iconst K 0 dX9_isRoom_1 (by decide) ?_
  refine o_bipush K 7 dX9_isRoom_2 (by decide) ?_
  obtain ⟨r1, er1, hf⟩ := bd_e hf
  refine o_callS K [.int a1, .int 0, .int 7] (k_X9_isWithin x.2.1 E D ca h nl M a1 (0 : Int32) (7 : Int32) er1) s_X9_60 rfl ⟨by decide, by decide⟩ (Nat.le_of_ble_eq_true rfl) _ rfl dX9_isRoom_4 ?_
  show Go x D (tysOf ca) h (LaC ca h nl) 1 M 7 [some (.int a1)] [.int r1]
  obtain ⟨g2, hf⟩ := gd_e hf
  exact r_zret K hf hR g2 dX9_isRoom_7
def f_X9_door (M : Mem) (a1 : Int32) (a2 : Int32) (a3 : Int32) (a4 : Int32) : Option (Int32 × Mem) := bd (f_X2_isKind a1) fun r1 => if r1 = 0 then (some (((-1000000001) : Int32), M)) else bd (f_X9_isRoom a2) fun r3 => if r3 = 0 then (some (((-1000000001) : Int32), M)) else bd (f_X9_isWithin a3 (0 : Int32) (8 : Int32)) fun r5 => if r5 = 0 then (some (((-1000000001) : Int32), M)) else if a3 = a2 then (some (((-1000000001) : Int32), M)) else bd (f_X9_isWithin a4 (1 : Int32) (9 : Int32)) fun r8 => if r8 = 0 then (some (((-1000000001) : Int32), M)) else if (M (HB 0 + 1) 0) < 10 then (bd2 (f_X0_add 0 M a1 a2 a3 a4) fun r11 M12 => some (r11, M12)) else some (((-1000000003) : Int32), M)
set_option maxHeartbeats 4000000 in
set_option maxRecDepth 100000 in
theorem k_X9_door (l : Launch) (E : Amd) (D : va_G) (ca : Nat → ClassId) (h : Nat → Nat) (nl : Nat) (M : Mem) (a1 : Int32) (a2 : Int32) (a3 : Int32) (a4 : Int32) {r0 : Int32} {Mo : Mem} (hf : f_X9_door M a1 a2 a3 a4 = some (r0, Mo)) : Ct l E D (tysOf ca) h (LaC ca h nl) yX9_door cX9_door 5 (some .int) 2 42 [.ref (h 0), .int a1, .int a2, .int a3, .int a4] M (some (.int r0)) Mo := by
  refine Ct.mk [some (.ref (h 0)), some (.int a1), some (.int a2), some (.int a3), some (.int a4)] (by decide) (Nat.le_of_ble_eq_true rfl) (argsV [.ref (h 0), .int a1, .int a2, .int a3, .int a4] 0 rfl rfl) ?_
  intro x hx0 K hR
  have K : Kx x E D (tysOf ca) h (LaC ca h nl) RX9 cX9_door 5 2 42 := K
  rw [f_X9_door] at hf
  refine o_iload_n K 1 dX9_door_0 rfl rfl ?_
  obtain ⟨r1, er1, hf⟩ := bd_e hf
  refine o_callS K [.int a1] (k_X2_isKind x.2.1 E D ca h nl M a1 er1) s_X9_51 rfl ⟨by decide, by decide⟩ (Nat.le_of_ble_eq_true rfl) _ rfl dX9_door_1 ?_
  show Go x D (tysOf ca) h (LaC ca h nl) 5 M 4 [some (.ref (h 0)), some (.int a1), some (.int a2), some (.int a3), some (.int a4)] [.int r1]
  refine o_if_eq K 40 dX9_door_4 (by decide) (fun c2 => ?_) (fun c2 => ?_)
  · have hf := ip c2 hf
    refine o_ldc K q330 dX9_door_40 ?_
    exact e_iret K hf hR dX9_door_42
  · have hf := im c2 hf
    refine o_iload_n K 2 dX9_door_7 rfl rfl ?_
    obtain ⟨r3, er3, hf⟩ := bd_e hf
    refine o_callS K [.int a2] (k_X9_isRoom x.2.1 E D ca h nl M a2 er3) s_X9_57 rfl ⟨by decide, by decide⟩ (Nat.le_of_ble_eq_true rfl) _ rfl dX9_door_8 ?_
    show Go x D (tysOf ca) h (LaC ca h nl) 5 M 11 [some (.ref (h 0)), some (.int a1), some (.int a2), some (.int a3), some (.int a4)] [.int r3]
    refine o_if_eq K 40 dX9_door_11 (by decide) (fun c4 => ?_) (fun c4 => ?_)
    · have hf := ip c4 hf
      refine o_ldc K q330 dX9_door_40 ?_
      exact e_iret K hf hR dX9_door_42
    · have hf := im c4 hf
      refine o_iload_n K 3 dX9_door_14 rfl rfl ?_
      refine o_iconst K 0 dX9_door_15 (by decide) ?_
      refine o_bipush K 8 dX9_door_16 (by decide) ?_
      obtain ⟨r5, er5, hf⟩ := bd_e hf
      refine o_callS K [.int a3, .int 0, .int 8] (k_X9_isWithin x.2.1 E D ca h nl M a3 (0 : Int32) (8 : Int32) er5) s_X9_60 rfl ⟨by decide, by decide⟩ (Nat.le_of_ble_eq_true rfl) _ rfl dX9_door_18 ?_
      show Go x D (tysOf ca) h (LaC ca h nl) 5 M 21 [some (.ref (h 0)), some (.int a1), some (.int a2), some (.int a3), some (.int a4)] [.int r5]
      refine o_if_eq K 40 dX9_door_21 (by decide) (fun c6 => ?_) (fun c6 => ?_)
      · have hf := ip c6 hf
        refine o_ldc K q330 dX9_door_40 ?_
        exact e_iret K hf hR dX9_door_42
      · have hf := im c6 hf
        refine o_iload_n K 3 dX9_door_24 rfl rfl ?_
        refine o_iload_n K 2 dX9_door_25 rfl rfl ?_
        refine o_icmp_eq K 40 dX9_door_26 (by decide) (fun c7 => ?_) (fun c7 => ?_)
        · have hf := ip c7 hf
          refine o_ldc K q330 dX9_door_40 ?_
          exact e_iret K hf hR dX9_door_42
        · have hf := im c7 hf
          refine o_iload K 4 dX9_door_29 rfl ?_
          refine o_iconst K 1 dX9_door_31 (by decide) ?_
          refine o_bipush K 9 dX9_door_32 (by decide) ?_
          obtain ⟨r8, er8, hf⟩ := bd_e hf
          refine o_callS K [.int a4, .int 1, .int 9] (k_X9_isWithin x.2.1 E D ca h nl M a4 (1 : Int32) (9 : Int32) er8) s_X9_60 rfl ⟨by decide, by decide⟩ (Nat.le_of_ble_eq_true rfl) _ rfl dX9_door_34 ?_
          show Go x D (tysOf ca) h (LaC ca h nl) 5 M 37 [some (.ref (h 0)), some (.int a1), some (.int a2), some (.int a3), some (.int a4)] [.int r8]
          refine o_if_ne K 43 dX9_door_37 (by decide) (fun c9 => ?_) (fun c9 => ?_)
          · have hf := im c9 hf
            refine o_aload_n K 0 dX9_door_43 rfl rfl ?_
            refine gC_X9_10 K dX9_door_44 ?_
            refine gC_X9_67 hb_0 K dX9_door_47 ?_
            refine gC_X9_71 hb_0 K dX9_door_50 ?_
            refine o_bipush K 10 dX9_door_53 (by decide) ?_
            refine o_icmp_lt K 61 dX9_door_55 (by decide) (fun c10 => ?_) (fun c10 => ?_)
            · have hf := ip c10 hf
              refine o_aload_n K 0 dX9_door_61 rfl rfl ?_
              refine gC_X9_10 K dX9_door_62 ?_
              refine gC_X9_67 hb_0 K dX9_door_65 ?_
              refine o_iload_n K 1 dX9_door_68 rfl rfl ?_
              refine o_iload_n K 2 dX9_door_69 rfl rfl ?_
              refine o_iload_n K 3 dX9_door_70 rfl rfl ?_
              refine o_iload K 4 dX9_door_71 rfl ?_
              obtain ⟨r11, M12, er11, hf⟩ := bd2_e hf
              refine o_callV K [.int a1, .int a2, .int a3, .int a4] (k_X0_add x.2.1 E D ca h nl M 0 a1 a2 a3 a4 hb_0 er11) s_X9_76 (ltDoors hb_0) (obDoors_c (ca := ca) (h := h) hb_0 _) rfl rfl rfl ⟨by decide, by decide⟩ (Nat.le_of_ble_eq_true rfl) _ rfl dX9_door_73 ?_
              show Go x D (tysOf ca) h (LaC ca h nl) 5 M12 76 [some (.ref (h 0)), some (.int a1), some (.int a2), some (.int a3), some (.int a4)] [.int r11]
              exact e_iret K hf hR dX9_door_76
            · have hf := im c10 hf
              refine o_ldc K q331 dX9_door_58 ?_
              exact e_iret K hf hR dX9_door_60
          · have hf := ip c9 hf
            refine o_ldc K q330 dX9_door_40 ?_
            exact e_iret K hf hR dX9_door_42
def f_X9_told (M : Mem) (a1 : Int32) (a2 : Int32) : Option Int32 := bd (f_X0_has 0 M a1) fun r1 => if r1 = 0 then (some (((-1000000001) : Int32))) else if a2 = 0 then (rd M (HB 0 + 2) 10 a1 fun x4 => some (x4)) else if a2 = 1 then (rd M (HB 0 + 3) 10 a1 fun x7 => some (x7)) else if a2 = 2 then (rd M (HB 0 + 4) 10 a1 fun x10 => some (x10)) else if a2 = 3 then (rd M (HB 0 + 5) 10 a1 fun x13 => some (x13)) else if a2 = 4 then (bd (f_X0_isOpen 0 M a1) fun r16 => if r16 = 0 then (some ((0 : Int32))) else some ((1 : Int32))) else if a2 = 5 then (bd (f_X1_letsOf 0 M a1) fun r19 => some (r19)) else if a2 = 6 then (bd (f_X1_flowOf 0 M a1) fun r21 => some (r21)) else if a2 = 7 then (rd M (HB 0 + 2) 10 a1 fun x23 => rd M (HB 0 + 5) 10 a1 fun x25 => bd (f_X2_worthOf x23 x25) fun r27 => some (r27)) else some (((-1000000001) : Int32))
set_option maxHeartbeats 4000000 in
set_option maxRecDepth 100000 in
theorem k_X9_told (l : Launch) (E : Amd) (D : va_G) (ca : Nat → ClassId) (h : Nat → Nat) (nl : Nat) (M : Mem) (a1 : Int32) (a2 : Int32) {r0 : Int32} (hf : f_X9_told M a1 a2 = some r0) : Ct l E D (tysOf ca) h (LaC ca h nl) yX9_told cX9_told 4 (some .int) 3 65 [.ref (h 0), .int a1, .int a2] M (some (.int r0)) M := by
  refine Ct.mk [some (.ref (h 0)), some (.int a1), some (.int a2), none] (by decide) (Nat.le_of_ble_eq_true rfl) (argsV [.ref (h 0), .int a1, .int a2] 1 rfl rfl) ?_
  intro x hx0 K hR
  have K : Kx x E D (tysOf ca) h (LaC ca h nl) RX9 cX9_told 4 3 65 := K
  rw [f_X9_told] at hf
  refine o_aload_n K 0 dX9_told_0 rfl rfl ?_
  refine gC_X9_10 K dX9_told_1 ?_
  refine gC_X9_67 hb_0 K dX9_told_4 ?_
  refine o_iload_n K 1 dX9_told_7 rfl rfl ?_
  obtain ⟨r1, er1, hf⟩ := bd_e hf
  refine o_callV K [.int a1] (k_X0_has x.2.1 E D ca h nl M 0 a1 hb_0 er1) s_X9_80 (ltDoors hb_0) (obDoors_c (ca := ca) (h := h) hb_0 _) rfl rfl rfl ⟨by decide, by decide⟩ (Nat.le_of_ble_eq_true rfl) _ rfl dX9_told_8 ?_
  show Go x D (tysOf ca) h (LaC ca h nl) 4 M 11 [some (.ref (h 0)), some (.int a1), some (.int a2), none] [.int r1]
  refine o_if_ne K 17 dX9_told_11 (by decide) (fun c2 => ?_) (fun c2 => ?_)
  · have hf := im c2 hf
    refine o_aload_n K 0 dX9_told_17 rfl rfl ?_
    refine gC_X9_10 K dX9_told_18 ?_
    refine gC_X9_67 hb_0 K dX9_told_21 ?_
    refine o_astore_n K 3 [some (.ref (h 0)), some (.int a1), some (.int a2), some (.ref (h (HB 0 + 1)))] dX9_told_24 rfl (by decide) rfl rfl ?_
    refine o_iload_n K 2 dX9_told_25 rfl rfl ?_
    by_cases c3 : a2 = 0
    · have hf := ip c3 hf
      refine o_table K 72 dX9_told_26 (by decide) (by rw [c3]; try decide) (by decide) ?_
      refine o_aload_n K 3 dX9_told_72 rfl rfl ?_
      refine gC_X9_83 hb_0 K dX9_told_73 ?_
      refine o_iload_n K 1 dX9_told_76 rfl rfl ?_
      obtain ⟨g5, x4, ex4, hf⟩ := rd_e hf
      refine lCh hb_0 2 10 (by decide) (fun _ => rfl) K g5 dX9_told_77 ?_
      refine o_nmi ex4 ?_
      exact r_iret K hf hR dX9_told_78
    have hf := im c3 hf
    by_cases c6 : a2 = 1
    · have hf := ip c6 hf
      refine o_table K 79 dX9_told_26 (by decide) (by rw [c6]; try decide) (by decide) ?_
      refine o_aload_n K 3 dX9_told_79 rfl rfl ?_
      refine gC_X9_86 hb_0 K dX9_told_80 ?_
      refine o_iload_n K 1 dX9_told_83 rfl rfl ?_
      obtain ⟨g8, x7, ex7, hf⟩ := rd_e hf
      refine lCh hb_0 3 10 (by decide) (fun _ => rfl) K g8 dX9_told_84 ?_
      refine o_nmi ex7 ?_
      exact r_iret K hf hR dX9_told_85
    have hf := im c6 hf
    by_cases c9 : a2 = 2
    · have hf := ip c9 hf
      refine o_table K 86 dX9_told_26 (by decide) (by rw [c9]; try decide) (by decide) ?_
      refine o_aload_n K 3 dX9_told_86 rfl rfl ?_
      refine gC_X9_89 hb_0 K dX9_told_87 ?_
      refine o_iload_n K 1 dX9_told_90 rfl rfl ?_
      obtain ⟨g11, x10, ex10, hf⟩ := rd_e hf
      refine lCh hb_0 4 10 (by decide) (fun _ => rfl) K g11 dX9_told_91 ?_
      refine o_nmi ex10 ?_
      exact r_iret K hf hR dX9_told_92
    have hf := im c9 hf
    by_cases c12 : a2 = 3
    · have hf := ip c12 hf
      refine o_table K 93 dX9_told_26 (by decide) (by rw [c12]; try decide) (by decide) ?_
      refine o_aload_n K 3 dX9_told_93 rfl rfl ?_
      refine gC_X9_92 hb_0 K dX9_told_94 ?_
      refine o_iload_n K 1 dX9_told_97 rfl rfl ?_
      obtain ⟨g14, x13, ex13, hf⟩ := rd_e hf
      refine lCh hb_0 5 10 (by decide) (fun _ => rfl) K g14 dX9_told_98 ?_
      refine o_nmi ex13 ?_
      exact r_iret K hf hR dX9_told_99
    have hf := im c12 hf
    by_cases c15 : a2 = 4
    · have hf := ip c15 hf
      refine o_table K 100 dX9_told_26 (by decide) (by rw [c15]; try decide) (by decide) ?_
      refine o_aload_n K 3 dX9_told_100 rfl rfl ?_
      refine o_iload_n K 1 dX9_told_101 rfl rfl ?_
      obtain ⟨r16, er16, hf⟩ := bd_e hf
      refine o_callV K [.int a1] (k_X0_isOpen x.2.1 E D ca h nl M 0 a1 hb_0 er16) s_X9_95 (ltDoors hb_0) (obDoors_c (ca := ca) (h := h) hb_0 _) rfl rfl rfl ⟨by decide, by decide⟩ (Nat.le_of_ble_eq_true rfl) _ rfl dX9_told_102 ?_
      show Go x D (tysOf ca) h (LaC ca h nl) 4 M 105 [some (.ref (h 0)), some (.int a1), some (.int a2), some (.ref (h (HB 0 + 1)))] [.int r16]
      refine o_if_eq K 112 dX9_told_105 (by decide) (fun c17 => ?_) (fun c17 => ?_)
      · have hf := ip c17 hf
        refine o_iconst K 0 dX9_told_112 (by decide) ?_
        exact r_iret K hf hR dX9_told_113
      · have hf := im c17 hf
        refine o_iconst K 1 dX9_told_108 (by decide) ?_
        refine o_goto K 113 dX9_told_109 (by decide) ?_
        exact r_iret K hf hR dX9_told_113
    have hf := im c15 hf
    by_cases c18 : a2 = 5
    · have hf := ip c18 hf
      refine o_table K 114 dX9_told_26 (by decide) (by rw [c18]; try decide) (by decide) ?_
      refine o_aload_n K 0 dX9_told_114 rfl rfl ?_
      refine gC_X9_10 K dX9_told_115 ?_
      refine o_iload_n K 1 dX9_told_118 rfl rfl ?_
      obtain ⟨r19, er19, hf⟩ := bd_e hf
      refine o_callV K [.int a1] (k_X1_letsOf x.2.1 E D ca h nl M 0 a1 hb_0 er19) s_X9_98 (ltHall hb_0) (obHall_c (ca := ca) (h := h) hb_0 _) rfl rfl rfl ⟨by decide, by decide⟩ (Nat.le_of_ble_eq_true rfl) _ rfl dX9_told_119 ?_
      show Go x D (tysOf ca) h (LaC ca h nl) 4 M 122 [some (.ref (h 0)), some (.int a1), some (.int a2), some (.ref (h (HB 0 + 1)))] [.int r19]
      exact r_iret K hf hR dX9_told_122
    have hf := im c18 hf
    by_cases c20 : a2 = 6
    · have hf := ip c20 hf
      refine o_table K 123 dX9_told_26 (by decide) (by rw [c20]; try decide) (by decide) ?_
      refine o_aload_n K 0 dX9_told_123 rfl rfl ?_
      refine gC_X9_10 K dX9_told_124 ?_
      refine o_iload_n K 1 dX9_told_127 rfl rfl ?_
      obtain ⟨r21, er21, hf⟩ := bd_e hf
      refine o_callV K [.int a1] (k_X1_flowOf x.2.1 E D ca h nl M 0 a1 hb_0 er21) s_X9_102 (ltHall hb_0) (obHall_c (ca := ca) (h := h) hb_0 _) rfl rfl rfl ⟨by decide, by decide⟩ (Nat.le_of_ble_eq_true rfl) _ rfl dX9_told_128 ?_
      show Go x D (tysOf ca) h (LaC ca h nl) 4 M 131 [some (.ref (h 0)), some (.int a1), some (.int a2), some (.ref (h (HB 0 + 1)))] [.int r21]
      exact r_iret K hf hR dX9_told_131
    have hf := im c20 hf
    by_cases c22 : a2 = 7
    · have hf := ip c22 hf
      refine o_table K 132 dX9_told_26 (by decide) (by rw [c22]; try decide) (by decide) ?_
      refine o_aload_n K 3 dX9_told_132 rfl rfl ?_
      refine gC_X9_83 hb_0 K dX9_told_133 ?_
      refine o_iload_n K 1 dX9_told_136 rfl rfl ?_
      obtain ⟨g24, x23, ex23, hf⟩ := rd_e hf
      refine lCh hb_0 2 10 (by decide) (fun _ => rfl) K g24 dX9_told_137 ?_
      refine o_nmi ex23 ?_
      refine o_aload_n K 3 dX9_told_138 rfl rfl ?_
      refine gC_X9_92 hb_0 K dX9_told_139 ?_
      refine o_iload_n K 1 dX9_told_142 rfl rfl ?_
      obtain ⟨g26, x25, ex25, hf⟩ := rd_e hf
      refine lCh hb_0 5 10 (by decide) (fun _ => rfl) K g26 dX9_told_143 ?_
      refine o_nmi ex25 ?_
      obtain ⟨r27, er27, hf⟩ := bd_e hf
      refine o_callS K [.int x23, .int x25] (k_X2_worthOf x.2.1 E D ca h nl M x23 x25 er27) s_X9_105 rfl ⟨by decide, by decide⟩ (Nat.le_of_ble_eq_true rfl) _ rfl dX9_told_144 ?_
      show Go x D (tysOf ca) h (LaC ca h nl) 4 M 147 [some (.ref (h 0)), some (.int a1), some (.int a2), some (.ref (h (HB 0 + 1)))] [.int r27]
      exact r_iret K hf hR dX9_told_147
    have hf := im c22 hf
    refine o_table K 148 dX9_told_26 (by decide) (tsel_d [0, 1, 2, 3, 4, 5, 6, 7] (List.forall_mem_cons.mpr ⟨lv_neT c3 rfl, (List.forall_mem_cons.mpr ⟨lv_neT c6 rfl, (List.forall_mem_cons.mpr ⟨lv_neT c9 rfl, (List.forall_mem_cons.mpr ⟨lv_neT c12 rfl, (List.forall_mem_cons.mpr ⟨lv_neT c15 rfl, (List.forall_mem_cons.mpr ⟨lv_neT c18 rfl, (List.forall_mem_cons.mpr ⟨lv_neT c20 rfl, (List.forall_mem_cons.mpr ⟨lv_neT c22 rfl, (List.forall_mem_nil _)⟩)⟩)⟩)⟩)⟩)⟩)⟩)⟩) (by decide)) (by decide) ?_
    refine o_ldc K q330 dX9_told_148 ?_
    exact r_iret K hf hR dX9_told_150
  · have hf := ip c2 hf
    refine o_ldc K q330 dX9_told_14 ?_
    exact r_iret K hf hR dX9_told_16
def f_X9_as (M : Mem) (a1 : Int32) (a2 : Int32) : Option Int32 := bd (f_X0_has 0 M a1) fun r1 => if r1 = 0 then (some (((-1000000001) : Int32))) else bd (f_X2_isKind a2) fun r3 => if r3 = 0 then (some (((-1000000001) : Int32))) else rd M (HB 0 + 2) 10 a1 fun x5 => bd (f_X2_isOf M x5 a2) fun r7 => if r7 = 0 then (some (((-1000000012) : Int32))) else rd M (HB 0 + 5) 10 a1 fun x9 => some (x9)
set_option maxHeartbeats 4000000 in
set_option maxRecDepth 100000 in
theorem k_X9_as (l : Launch) (E : Amd) (D : va_G) (ca : Nat → ClassId) (h : Nat → Nat) (nl : Nat) (M : Mem) (a1 : Int32) (a2 : Int32) {r0 : Int32} (hf : f_X9_as M a1 a2 = some r0) : Ct l E D (tysOf ca) h (LaC ca h nl) yX9_as cX9_as 3 (some .int) 2 43 [.ref (h 0), .int a1, .int a2] M (some (.int r0)) M := by
  refine Ct.mk [some (.ref (h 0)), some (.int a1), some (.int a2)] (by decide) (Nat.le_of_ble_eq_true rfl) (argsV [.ref (h 0), .int a1, .int a2] 0 rfl rfl) ?_
  intro x hx0 K hR
  have K : Kx x E D (tysOf ca) h (LaC ca h nl) RX9 cX9_as 3 2 43 := K
  rw [f_X9_as] at hf
  refine o_aload_n K 0 dX9_as_0 rfl rfl ?_
  refine gC_X9_10 K dX9_as_1 ?_
  refine gC_X9_67 hb_0 K dX9_as_4 ?_
  refine o_iload_n K 1 dX9_as_7 rfl rfl ?_
  obtain ⟨r1, er1, hf⟩ := bd_e hf
  refine o_callV K [.int a1] (k_X0_has x.2.1 E D ca h nl M 0 a1 hb_0 er1) s_X9_80 (ltDoors hb_0) (obDoors_c (ca := ca) (h := h) hb_0 _) rfl rfl rfl ⟨by decide, by decide⟩ (Nat.le_of_ble_eq_true rfl) _ rfl dX9_as_8 ?_
  show Go x D (tysOf ca) h (LaC ca h nl) 3 M 11 [some (.ref (h 0)), some (.int a1), some (.int a2)] [.int r1]
  refine o_if_eq K 21 dX9_as_11 (by decide) (fun c2 => ?_) (fun c2 => ?_)
  · have hf := ip c2 hf
    refine o_ldc K q330 dX9_as_21 ?_
    exact r_iret K hf hR dX9_as_23
  · have hf := im c2 hf
    refine o_iload_n K 2 dX9_as_14 rfl rfl ?_
    obtain ⟨r3, er3, hf⟩ := bd_e hf
    refine o_callS K [.int a2] (k_X2_isKind x.2.1 E D ca h nl M a2 er3) s_X9_51 rfl ⟨by decide, by decide⟩ (Nat.le_of_ble_eq_true rfl) _ rfl dX9_as_15 ?_
    show Go x D (tysOf ca) h (LaC ca h nl) 3 M 18 [some (.ref (h 0)), some (.int a1), some (.int a2)] [.int r3]
    refine o_if_ne K 24 dX9_as_18 (by decide) (fun c4 => ?_) (fun c4 => ?_)
    · have hf := im c4 hf
      refine o_aload_n K 0 dX9_as_24 rfl rfl ?_
      refine gC_X9_10 K dX9_as_25 ?_
      refine gC_X9_67 hb_0 K dX9_as_28 ?_
      refine gC_X9_83 hb_0 K dX9_as_31 ?_
      refine o_iload_n K 1 dX9_as_34 rfl rfl ?_
      obtain ⟨g6, x5, ex5, hf⟩ := rd_e hf
      refine lCh hb_0 2 10 (by decide) (fun _ => rfl) K g6 dX9_as_35 ?_
      refine o_nmi ex5 ?_
      refine o_iload_n K 2 dX9_as_36 rfl rfl ?_
      obtain ⟨r7, er7, hf⟩ := bd_e hf
      refine o_callS K [.int x5, .int a2] (k_X2_isOf x.2.1 E D ca h nl M x5 a2 er7) s_X9_109 rfl ⟨by decide, by decide⟩ (Nat.le_of_ble_eq_true rfl) _ rfl dX9_as_37 ?_
      show Go x D (tysOf ca) h (LaC ca h nl) 3 M 40 [some (.ref (h 0)), some (.int a1), some (.int a2)] [.int r7]
      refine o_if_eq K 58 dX9_as_40 (by decide) (fun c8 => ?_) (fun c8 => ?_)
      · have hf := ip c8 hf
        refine o_ldc K q374 dX9_as_58 ?_
        exact r_iret K hf hR dX9_as_60
      · have hf := im c8 hf
        refine o_aload_n K 0 dX9_as_43 rfl rfl ?_
        refine gC_X9_10 K dX9_as_44 ?_
        refine gC_X9_67 hb_0 K dX9_as_47 ?_
        refine gC_X9_92 hb_0 K dX9_as_50 ?_
        refine o_iload_n K 1 dX9_as_53 rfl rfl ?_
        obtain ⟨g10, x9, ex9, hf⟩ := rd_e hf
        refine lCh hb_0 5 10 (by decide) (fun _ => rfl) K g10 dX9_as_54 ?_
        refine o_nmi ex9 ?_
        refine o_goto K 60 dX9_as_55 (by decide) ?_
        exact r_iret K hf hR dX9_as_60
    · have hf := ip c4 hf
      refine o_ldc K q330 dX9_as_21 ?_
      exact r_iret K hf hR dX9_as_23
def f_X9_turns (M : Mem) (a1 : Int32) (a2 : Int32) : Option (Int32 × Mem) := bd (f_X0_has 0 M a1) fun r1 => if r1 = 0 then (some (((-1000000001) : Int32), M)) else bd (f_X2_isKind a2) fun r3 => if r3 = 0 then (some (((-1000000001) : Int32), M)) else rd M (HB 0 + 2) 10 a1 fun x5 => wr M (HB 0 + 2) 10 a1 a2 fun M8 => some (x5, M8)
set_option maxHeartbeats 4000000 in
set_option maxRecDepth 100000 in
theorem k_X9_turns (l : Launch) (E : Amd) (D : va_G) (ca : Nat → ClassId) (h : Nat → Nat) (nl : Nat) (M : Mem) (a1 : Int32) (a2 : Int32) {r0 : Int32} {Mo : Mem} (hf : f_X9_turns M a1 a2 = some (r0, Mo)) : Ct l E D (tysOf ca) h (LaC ca h nl) yX9_turns cX9_turns 4 (some .int) 2 43 [.ref (h 0), .int a1, .int a2] M (some (.int r0)) Mo := by
  refine Ct.mk [some (.ref (h 0)), some (.int a1), some (.int a2), none] (by decide) (Nat.le_of_ble_eq_true rfl) (argsV [.ref (h 0), .int a1, .int a2] 1 rfl rfl) ?_
  intro x hx0 K hR
  have K : Kx x E D (tysOf ca) h (LaC ca h nl) RX9 cX9_turns 4 2 43 := K
  rw [f_X9_turns] at hf
  refine o_aload_n K 0 dX9_turns_0 rfl rfl ?_
  refine gC_X9_10 K dX9_turns_1 ?_
  refine gC_X9_67 hb_0 K dX9_turns_4 ?_
  refine o_iload_n K 1 dX9_turns_7 rfl rfl ?_
  obtain ⟨r1, er1, hf⟩ := bd_e hf
  refine o_callV K [.int a1] (k_X0_has x.2.1 E D ca h nl M 0 a1 hb_0 er1) s_X9_80 (ltDoors hb_0) (obDoors_c (ca := ca) (h := h) hb_0 _) rfl rfl rfl ⟨by decide, by decide⟩ (Nat.le_of_ble_eq_true rfl) _ rfl dX9_turns_8 ?_
  show Go x D (tysOf ca) h (LaC ca h nl) 4 M 11 [some (.ref (h 0)), some (.int a1), some (.int a2), none] [.int r1]
  refine o_if_eq K 21 dX9_turns_11 (by decide) (fun c2 => ?_) (fun c2 => ?_)
  · have hf := ip c2 hf
    refine o_ldc K q330 dX9_turns_21 ?_
    exact e_iret K hf hR dX9_turns_23
  · have hf := im c2 hf
    refine o_iload_n K 2 dX9_turns_14 rfl rfl ?_
    obtain ⟨r3, er3, hf⟩ := bd_e hf
    refine o_callS K [.int a2] (k_X2_isKind x.2.1 E D ca h nl M a2 er3) s_X9_51 rfl ⟨by decide, by decide⟩ (Nat.le_of_ble_eq_true rfl) _ rfl dX9_turns_15 ?_
    show Go x D (tysOf ca) h (LaC ca h nl) 4 M 18 [some (.ref (h 0)), some (.int a1), some (.int a2), none] [.int r3]
    refine o_if_ne K 24 dX9_turns_18 (by decide) (fun c4 => ?_) (fun c4 => ?_)
    · have hf := im c4 hf
      refine o_aload_n K 0 dX9_turns_24 rfl rfl ?_
      refine gC_X9_10 K dX9_turns_25 ?_
      refine gC_X9_67 hb_0 K dX9_turns_28 ?_
      refine gC_X9_83 hb_0 K dX9_turns_31 ?_
      refine o_iload_n K 1 dX9_turns_34 rfl rfl ?_
      obtain ⟨g6, x5, ex5, hf⟩ := rd_e hf
      refine lCh hb_0 2 10 (by decide) (fun _ => rfl) K g6 dX9_turns_35 ?_
      refine o_nmi ex5 ?_
      refine o_istore_n K 3 [some (.ref (h 0)), some (.int a1), some (.int a2), some (.int x5)] dX9_turns_36 rfl (by decide) rfl rfl ?_
      refine o_aload_n K 0 dX9_turns_37 rfl rfl ?_
      refine gC_X9_10 K dX9_turns_38 ?_
      refine gC_X9_67 hb_0 K dX9_turns_41 ?_
      refine gC_X9_83 hb_0 K dX9_turns_44 ?_
      refine o_iload_n K 1 dX9_turns_47 rfl rfl ?_
      refine o_iload_n K 2 dX9_turns_48 rfl rfl ?_
      obtain ⟨g7, M8, eM8, hf⟩ := wr_e hf
      refine sCh hb_0 2 10 (by decide) (fun _ => rfl) K g7 dX9_turns_49 ?_
      refine o_nmM eM8 ?_
      refine o_iload_n K 3 dX9_turns_50 rfl rfl ?_
      exact e_iret K hf hR dX9_turns_51
    · have hf := ip c4 hf
      refine o_ldc K q330 dX9_turns_21 ?_
      exact e_iret K hf hR dX9_turns_23
def f_X9_open_j45 (a0 : Int32) (a1 : Int32) (a2 : Int32) (M : Mem) : Option (Int32 × Mem) := if a1 = 1 then (bd (f_X0_swing 0 M a0 (1 : Int32)) fun M11 => some (a2, M11)) else bd (f_X0_swing 0 M a0 (0 : Int32)) fun M9 => some (a2, M9)
set_option maxHeartbeats 4000000 in
set_option maxRecDepth 100000 in
theorem t_X9_open_j45 {x : En} {E : Amd} {D : va_G} {ca : Nat → ClassId} {h : Nat → Nat} {nl : Nat} (K : Kx x E D (tysOf ca) h (LaC ca h nl) RX9 cX9_open 4 2 43) {r0 : Int32} {Mo : Mem} (hR : Rt x D h (LaC ca h nl) (some .int) (some (.int r0)) Mo) (a0 : Int32) (a1 : Int32) (a2 : Int32) (M : Mem) (hf : f_X9_open_j45 a0 a1 a2 M = some (r0, Mo)) : Go x D (tysOf ca) h (LaC ca h nl) 4 M 45 [some (.ref (h 0)), some (.int a0), some (.int a1), none] [.int a2] := by
  rw [f_X9_open_j45] at hf
  refine o_istore_n K 3 [some (.ref (h 0)), some (.int a0), some (.int a1), some (.int a2)] dX9_open_45 rfl (by decide) rfl rfl ?_
  refine o_aload_n K 0 dX9_open_46 rfl rfl ?_
  refine gC_X9_10 K dX9_open_47 ?_
  refine gC_X9_67 hb_0 K dX9_open_50 ?_
  refine o_iload_n K 1 dX9_open_53 rfl rfl ?_
  refine o_iload_n K 2 dX9_open_54 rfl rfl ?_
  refine o_iconst K 1 dX9_open_55 (by decide) ?_
  refine o_icmp_ne K 63 dX9_open_56 (by decide) (fun c7 => ?_) (fun c7 => ?_)
  · have hf := im c7 hf
    refine o_iconst K 0 dX9_open_63 (by decide) ?_
    obtain ⟨M9, er8, hf⟩ := bd_e hf
    refine o_callV K [.int a0, .int 0] (k_X0_swing x.2.1 E D ca h nl M 0 a0 (0 : Int32) hb_0 er8) s_X9_114 (ltDoors hb_0) (obDoors_c (ca := ca) (h := h) hb_0 _) rfl rfl rfl ⟨by decide, by decide⟩ (Nat.le_of_ble_eq_true rfl) _ rfl dX9_open_64 ?_
    show Go x D (tysOf ca) h (LaC ca h nl) 4 M9 67 [some (.ref (h 0)), some (.int a0), some (.int a1), some (.int a2)] []
    refine o_iload_n K 3 dX9_open_67 rfl rfl ?_
    exact e_iret K hf hR dX9_open_68
  · have hf := ip c7 hf
    refine o_iconst K 1 dX9_open_59 (by decide) ?_
    refine o_goto K 64 dX9_open_60 (by decide) ?_
    obtain ⟨M11, er10, hf⟩ := bd_e hf
    refine o_callV K [.int a0, .int 1] (k_X0_swing x.2.1 E D ca h nl M 0 a0 (1 : Int32) hb_0 er10) s_X9_114 (ltDoors hb_0) (obDoors_c (ca := ca) (h := h) hb_0 _) rfl rfl rfl ⟨by decide, by decide⟩ (Nat.le_of_ble_eq_true rfl) _ rfl dX9_open_64 ?_
    show Go x D (tysOf ca) h (LaC ca h nl) 4 M11 67 [some (.ref (h 0)), some (.int a0), some (.int a1), some (.int a2)] []
    refine o_iload_n K 3 dX9_open_67 rfl rfl ?_
    exact e_iret K hf hR dX9_open_68
def f_X9_open (M : Mem) (a1 : Int32) (a2 : Int32) : Option (Int32 × Mem) := bd (f_X0_has 0 M a1) fun r1 => if r1 = 0 then (some (((-1000000001) : Int32), M)) else bd (f_X9_isWithin a2 (0 : Int32) (1 : Int32)) fun r3 => if r3 = 0 then (some (((-1000000001) : Int32), M)) else bd (f_X0_isOpen 0 M a1) fun r5 => if r5 = 0 then (f_X9_open_j45 a1 a2 (0 : Int32) M) else f_X9_open_j45 a1 a2 (1 : Int32) M
set_option maxHeartbeats 4000000 in
set_option maxRecDepth 100000 in
theorem k_X9_open (l : Launch) (E : Amd) (D : va_G) (ca : Nat → ClassId) (h : Nat → Nat) (nl : Nat) (M : Mem) (a1 : Int32) (a2 : Int32) {r0 : Int32} {Mo : Mem} (hf : f_X9_open M a1 a2 = some (r0, Mo)) : Ct l E D (tysOf ca) h (LaC ca h nl) yX9_open cX9_open 4 (some .int) 2 43 [.ref (h 0), .int a1, .int a2] M (some (.int r0)) Mo := by
  refine Ct.mk [some (.ref (h 0)), some (.int a1), some (.int a2), none] (by decide) (Nat.le_of_ble_eq_true rfl) (argsV [.ref (h 0), .int a1, .int a2] 1 rfl rfl) ?_
  intro x hx0 K hR
  have K : Kx x E D (tysOf ca) h (LaC ca h nl) RX9 cX9_open 4 2 43 := K
  rw [f_X9_open] at hf
  refine o_aload_n K 0 dX9_open_0 rfl rfl ?_
  refine gC_X9_10 K dX9_open_1 ?_
  refine gC_X9_67 hb_0 K dX9_open_4 ?_
  refine o_iload_n K 1 dX9_open_7 rfl rfl ?_
  obtain ⟨r1, er1, hf⟩ := bd_e hf
  refine o_callV K [.int a1] (k_X0_has x.2.1 E D ca h nl M 0 a1 hb_0 er1) s_X9_80 (ltDoors hb_0) (obDoors_c (ca := ca) (h := h) hb_0 _) rfl rfl rfl ⟨by decide, by decide⟩ (Nat.le_of_ble_eq_true rfl) _ rfl dX9_open_8 ?_
  show Go x D (tysOf ca) h (LaC ca h nl) 4 M 11 [some (.ref (h 0)), some (.int a1), some (.int a2), none] [.int r1]
  refine o_if_eq K 23 dX9_open_11 (by decide) (fun c2 => ?_) (fun c2 => ?_)
  · have hf := ip c2 hf
    refine o_ldc K q330 dX9_open_23 ?_
    exact e_iret K hf hR dX9_open_25
  · have hf := im c2 hf
    refine o_iload_n K 2 dX9_open_14 rfl rfl ?_
    refine o_iconst K 0 dX9_open_15 (by decide) ?_
    refine o_iconst K 1 dX9_open_16 (by decide) ?_
    obtain ⟨r3, er3, hf⟩ := bd_e hf
    refine o_callS K [.int a2, .int 0, .int 1] (k_X9_isWithin x.2.1 E D ca h nl M a2 (0 : Int32) (1 : Int32) er3) s_X9_60 rfl ⟨by decide, by decide⟩ (Nat.le_of_ble_eq_true rfl) _ rfl dX9_open_17 ?_
    show Go x D (tysOf ca) h (LaC ca h nl) 4 M 20 [some (.ref (h 0)), some (.int a1), some (.int a2), none] [.int r3]
    refine o_if_ne K 26 dX9_open_20 (by decide) (fun c4 => ?_) (fun c4 => ?_)
    · have hf := im c4 hf
      refine o_aload_n K 0 dX9_open_26 rfl rfl ?_
      refine gC_X9_10 K dX9_open_27 ?_
      refine gC_X9_67 hb_0 K dX9_open_30 ?_
      refine o_iload_n K 1 dX9_open_33 rfl rfl ?_
      obtain ⟨r5, er5, hf⟩ := bd_e hf
      refine o_callV K [.int a1] (k_X0_isOpen x.2.1 E D ca h nl M 0 a1 hb_0 er5) s_X9_95 (ltDoors hb_0) (obDoors_c (ca := ca) (h := h) hb_0 _) rfl rfl rfl ⟨by decide, by decide⟩ (Nat.le_of_ble_eq_true rfl) _ rfl dX9_open_34 ?_
      show Go x D (tysOf ca) h (LaC ca h nl) 4 M 37 [some (.ref (h 0)), some (.int a1), some (.int a2), none] [.int r5]
      refine o_if_eq K 44 dX9_open_37 (by decide) (fun c6 => ?_) (fun c6 => ?_)
      · have hf := ip c6 hf
        refine o_iconst K 0 dX9_open_44 (by decide) ?_
        exact t_X9_open_j45 K hR a1 a2 (0 : Int32) M hf
      · have hf := im c6 hf
        refine o_iconst K 1 dX9_open_40 (by decide) ?_
        refine o_goto K 45 dX9_open_41 (by decide) ?_
        exact t_X9_open_j45 K hR a1 a2 (1 : Int32) M hf
    · have hf := ip c4 hf
      refine o_ldc K q330 dX9_open_23 ?_
      exact e_iret K hf hR dX9_open_25
def f_X9_room (M : Mem) (a1 : Int32) (a2 : Int32) : Option (Int32 × Mem) := bd (f_X9_isRoom a1) fun r1 => if r1 = 0 then (some (((-1000000001) : Int32), M)) else if a2 = 0 then (rd M (HB 0 + 11) 9 a1 fun x4 => some (x4, M)) else if a2 = 1 then (rd M (HB 0 + 12) 8 a1 fun x7 => some (x7, M)) else if a2 = 2 then (rd M (HB 0 + 13) 8 a1 fun x10 => some (x10, M)) else if a2 = 3 then (bd (f_X1_isLit 0 M a1) fun r13 => if r13 = 0 then (some ((0 : Int32), M)) else some ((1 : Int32), M)) else if a2 = 4 then (bd2 (f_X1_draughtOf 0 M a1) fun r16 M17 => some (r16, M17)) else some (((-1000000001) : Int32), M)
set_option maxHeartbeats 4000000 in
set_option maxRecDepth 100000 in
theorem k_X9_room (l : Launch) (E : Amd) (D : va_G) (ca : Nat → ClassId) (h : Nat → Nat) (nl : Nat) (M : Mem) (a1 : Int32) (a2 : Int32) {r0 : Int32} {Mo : Mem} (hf : f_X9_room M a1 a2 = some (r0, Mo)) : Ct l E D (tysOf ca) h (LaC ca h nl) yX9_room cX9_room 3 (some .int) 5 108 [.ref (h 0), .int a1, .int a2] M (some (.int r0)) Mo := by
  refine Ct.mk [some (.ref (h 0)), some (.int a1), some (.int a2)] (by decide) (Nat.le_of_ble_eq_true rfl) (argsV [.ref (h 0), .int a1, .int a2] 0 rfl rfl) ?_
  intro x hx0 K hR
  have K : Kx x E D (tysOf ca) h (LaC ca h nl) RX9 cX9_room 3 5 108 := K
  rw [f_X9_room] at hf
  refine o_iload_n K 1 dX9_room_0 rfl rfl ?_
  obtain ⟨r1, er1, hf⟩ := bd_e hf
  refine o_callS K [.int a1] (k_X9_isRoom x.2.1 E D ca h nl M a1 er1) s_X9_57 rfl ⟨by decide, by decide⟩ (Nat.le_of_ble_eq_true rfl) _ rfl dX9_room_1 ?_
  show Go x D (tysOf ca) h (LaC ca h nl) 3 M 4 [some (.ref (h 0)), some (.int a1), some (.int a2)] [.int r1]
  refine o_if_ne K 10 dX9_room_4 (by decide) (fun c2 => ?_) (fun c2 => ?_)
  · have hf := im c2 hf
    refine o_iload_n K 2 dX9_room_10 rfl rfl ?_
    by_cases c3 : a2 = 0
    · have hf := ip c3 hf
      refine o_table K 44 dX9_room_11 (by decide) (by rw [c3]; try decide) (by decide) ?_
      refine o_aload_n K 0 dX9_room_44 rfl rfl ?_
      refine gC_X9_10 K dX9_room_45 ?_
      refine gC_X9_118 hb_0 K dX9_room_48 ?_
      refine o_iload_n K 1 dX9_room_51 rfl rfl ?_
      obtain ⟨g5, x4, ex4, hf⟩ := rd_e hf
      refine lCh hb_0 11 9 (by decide) (fun _ => rfl) K g5 dX9_room_52 ?_
      refine o_nmi ex4 ?_
      exact e_iret K hf hR dX9_room_53
    have hf := im c3 hf
    by_cases c6 : a2 = 1
    · have hf := ip c6 hf
      refine o_table K 54 dX9_room_11 (by decide) (by rw [c6]; try decide) (by decide) ?_
      refine o_aload_n K 0 dX9_room_54 rfl rfl ?_
      refine gC_X9_10 K dX9_room_55 ?_
      refine gC_X9_121 hb_0 K dX9_room_58 ?_
      refine o_iload_n K 1 dX9_room_61 rfl rfl ?_
      obtain ⟨g8, x7, ex7, hf⟩ := rd_e hf
      refine lCh hb_0 12 8 (by decide) (fun _ => rfl) K g8 dX9_room_62 ?_
      refine o_nmi ex7 ?_
      exact e_iret K hf hR dX9_room_63
    have hf := im c6 hf
    by_cases c9 : a2 = 2
    · have hf := ip c9 hf
      refine o_table K 64 dX9_room_11 (by decide) (by rw [c9]; try decide) (by decide) ?_
      refine o_aload_n K 0 dX9_room_64 rfl rfl ?_
      refine gC_X9_10 K dX9_room_65 ?_
      refine gC_X9_124 hb_0 K dX9_room_68 ?_
      refine o_iload_n K 1 dX9_room_71 rfl rfl ?_
      obtain ⟨g11, x10, ex10, hf⟩ := rd_e hf
      refine lCh hb_0 13 8 (by decide) (fun _ => rfl) K g11 dX9_room_72 ?_
      refine o_nmi ex10 ?_
      exact e_iret K hf hR dX9_room_73
    have hf := im c9 hf
    by_cases c12 : a2 = 3
    · have hf := ip c12 hf
      refine o_table K 74 dX9_room_11 (by decide) (by rw [c12]; try decide) (by decide) ?_
      refine o_aload_n K 0 dX9_room_74 rfl rfl ?_
      refine gC_X9_10 K dX9_room_75 ?_
      refine o_iload_n K 1 dX9_room_78 rfl rfl ?_
      obtain ⟨r13, er13, hf⟩ := bd_e hf
      refine o_callV K [.int a1] (k_X1_isLit x.2.1 E D ca h nl M 0 a1 hb_0 er13) s_X9_127 (ltHall hb_0) (obHall_c (ca := ca) (h := h) hb_0 _) rfl rfl rfl ⟨by decide, by decide⟩ (Nat.le_of_ble_eq_true rfl) _ rfl dX9_room_79 ?_
      show Go x D (tysOf ca) h (LaC ca h nl) 3 M 82 [some (.ref (h 0)), some (.int a1), some (.int a2)] [.int r13]
      refine o_if_eq K 89 dX9_room_82 (by decide) (fun c14 => ?_) (fun c14 => ?_)
      · have hf := ip c14 hf
        refine o_iconst K 0 dX9_room_89 (by decide) ?_
        exact e_iret K hf hR dX9_room_90
      · have hf := im c14 hf
        refine o_iconst K 1 dX9_room_85 (by decide) ?_
        refine o_goto K 90 dX9_room_86 (by decide) ?_
        exact e_iret K hf hR dX9_room_90
    have hf := im c12 hf
    by_cases c15 : a2 = 4
    · have hf := ip c15 hf
      refine o_table K 91 dX9_room_11 (by decide) (by rw [c15]; try decide) (by decide) ?_
      refine o_aload_n K 0 dX9_room_91 rfl rfl ?_
      refine gC_X9_10 K dX9_room_92 ?_
      refine o_iload_n K 1 dX9_room_95 rfl rfl ?_
      obtain ⟨r16, M17, er16, hf⟩ := bd2_e hf
      refine o_callV K [.int a1] (k_X1_draughtOf x.2.1 E D ca h nl M 0 a1 hb_0 er16) s_X9_130 (ltHall hb_0) (obHall_c (ca := ca) (h := h) hb_0 _) rfl rfl rfl ⟨by decide, by decide⟩ (Nat.le_of_ble_eq_true rfl) _ rfl dX9_room_96 ?_
      show Go x D (tysOf ca) h (LaC ca h nl) 3 M17 99 [some (.ref (h 0)), some (.int a1), some (.int a2)] [.int r16]
      exact e_iret K hf hR dX9_room_99
    have hf := im c15 hf
    refine o_table K 100 dX9_room_11 (by decide) (tsel_d [0, 1, 2, 3, 4] (List.forall_mem_cons.mpr ⟨lv_neT c3 rfl, (List.forall_mem_cons.mpr ⟨lv_neT c6 rfl, (List.forall_mem_cons.mpr ⟨lv_neT c9 rfl, (List.forall_mem_cons.mpr ⟨lv_neT c12 rfl, (List.forall_mem_cons.mpr ⟨lv_neT c15 rfl, (List.forall_mem_nil _)⟩)⟩)⟩)⟩)⟩) (by decide)) (by decide) ?_
    refine o_ldc K q330 dX9_room_100 ?_
    exact e_iret K hf hR dX9_room_102
  · have hf := ip c2 hf
    refine o_ldc K q330 dX9_room_7 ?_
    exact e_iret K hf hR dX9_room_9
def f_X9_mostOf (a1 : Int32) : Option Int32 := if a1 = 0 then (some ((9999 : Int32))) else if a1 = 1 then (some ((9 : Int32))) else if a1 = 2 then (some ((9999 : Int32))) else some ((1 : Int32))
set_option maxHeartbeats 4000000 in
set_option maxRecDepth 100000 in
theorem k_X9_mostOf (l : Launch) (E : Amd) (D : va_G) (ca : Nat → ClassId) (h : Nat → Nat) (nl : Nat) (M : Mem) (a1 : Int32) {r0 : Int32} (hf : f_X9_mostOf a1 = some r0) : Ct l E D (tysOf ca) h (LaC ca h nl) yX9_mostOf cX9_mostOf 1 (some .int) 0 0 [.int a1] M (some (.int r0)) M := by
  refine Ct.mk [some (.int a1)] (by decide) (Nat.le_of_ble_eq_true rfl) (argsV [.int a1] 0 rfl rfl) ?_
  intro x hx0 K hR
  have K : Kx x E D (tysOf ca) h (LaC ca h nl) RX9 cX9_mostOf 1 0 0 := K
  rw [f_X9_mostOf] at hf
  refine o_iload_n K 0 dX9_mostOf_0 rfl rfl ?_
  by_cases c1 : a1 = 0
  · have hf := ip c1 hf
    refine o_table K 28 dX9_mostOf_1 (by decide) (by rw [c1]; try decide) (by decide) ?_
    refine o_sipush K 9999 dX9_mostOf_28 (by decide) ?_
    exact r_iret K hf hR dX9_mostOf_31
  have hf := im c1 hf
  by_cases c2 : a1 = 1
  · have hf := ip c2 hf
    refine o_table K 32 dX9_mostOf_1 (by decide) (by rw [c2]; try decide) (by decide) ?_
    refine o_bipush K 9 dX9_mostOf_32 (by decide) ?_
    exact r_iret K hf hR dX9_mostOf_34
  have hf := im c2 hf
  by_cases c3 : a1 = 2
  · have hf := ip c3 hf
    refine o_table K 35 dX9_mostOf_1 (by decide) (by rw [c3]; try decide) (by decide) ?_
    refine o_sipush K 9999 dX9_mostOf_35 (by decide) ?_
    exact r_iret K hf hR dX9_mostOf_38
  have hf := im c3 hf
  refine o_table K 39 dX9_mostOf_1 (by decide) (tsel_d [0, 1, 2] (List.forall_mem_cons.mpr ⟨lv_neT c1 rfl, (List.forall_mem_cons.mpr ⟨lv_neT c2 rfl, (List.forall_mem_cons.mpr ⟨lv_neT c3 rfl, (List.forall_mem_nil _)⟩)⟩)⟩) (by decide)) (by decide) ?_
  refine o_iconst K 1 dX9_mostOf_39 (by decide) ?_
  exact r_iret K hf hR dX9_mostOf_40
def f_X9_set_j148 (a0 : Int32) (a1 : Int32) (a2 : Int32) (M : Mem) : Option (Int32 × Mem) := if a1 = 1 then (bd (f_X1_light 0 M a0 (1 : Int32)) fun M29 => some (a2, M29)) else bd (f_X1_light 0 M a0 (0 : Int32)) fun M27 => some (a2, M27)
set_option maxHeartbeats 4000000 in
set_option maxRecDepth 100000 in
theorem t_X9_set_j148 {x : En} {E : Amd} {D : va_G} {ca : Nat → ClassId} {h : Nat → Nat} {nl : Nat} (K : Kx x E D (tysOf ca) h (LaC ca h nl) RX9 cX9_set 5 2 42) {r0 : Int32} {Mo : Mem} (hR : Rt x D h (LaC ca h nl) (some .int) (some (.int r0)) Mo) (a0 : Int32) (a1 : Int32) (a2 : Int32) (M : Mem) (hf : f_X9_set_j148 a0 a1 a2 M = some (r0, Mo)) : Go x D (tysOf ca) h (LaC ca h nl) 5 M 148 [some (.ref (h 0)), some (.int a0), none, some (.int a1), none] [.int a2] := by
  rw [f_X9_set_j148] at hf
  refine o_istore K 4 [some (.ref (h 0)), some (.int a0), none, some (.int a1), some (.int a2)] dX9_set_148 (by decide) rfl rfl ?_
  refine o_aload_n K 0 dX9_set_150 rfl rfl ?_
  refine gC_X9_10 K dX9_set_151 ?_
  refine o_iload_n K 1 dX9_set_154 rfl rfl ?_
  refine o_iload_n K 3 dX9_set_155 rfl rfl ?_
  refine o_iconst K 1 dX9_set_156 (by decide) ?_
  refine o_icmp_ne K 164 dX9_set_157 (by decide) (fun c25 => ?_) (fun c25 => ?_)
  · have hf := im c25 hf
    refine o_iconst K 0 dX9_set_164 (by decide) ?_
    obtain ⟨M27, er26, hf⟩ := bd_e hf
    refine o_callV K [.int a0, .int 0] (k_X1_light x.2.1 E D ca h nl M 0 a0 (0 : Int32) hb_0 er26) s_X9_136 (ltHall hb_0) (obHall_c (ca := ca) (h := h) hb_0 _) rfl rfl rfl ⟨by decide, by decide⟩ (Nat.le_of_ble_eq_true rfl) _ rfl dX9_set_165 ?_
    show Go x D (tysOf ca) h (LaC ca h nl) 5 M27 168 [some (.ref (h 0)), some (.int a0), none, some (.int a1), some (.int a2)] []
    refine o_iload K 4 dX9_set_168 rfl ?_
    exact e_iret K hf hR dX9_set_170
  · have hf := ip c25 hf
    refine o_iconst K 1 dX9_set_160 (by decide) ?_
    refine o_goto K 165 dX9_set_161 (by decide) ?_
    obtain ⟨M29, er28, hf⟩ := bd_e hf
    refine o_callV K [.int a0, .int 1] (k_X1_light x.2.1 E D ca h nl M 0 a0 (1 : Int32) hb_0 er28) s_X9_136 (ltHall hb_0) (obHall_c (ca := ca) (h := h) hb_0 _) rfl rfl rfl ⟨by decide, by decide⟩ (Nat.le_of_ble_eq_true rfl) _ rfl dX9_set_165 ?_
    show Go x D (tysOf ca) h (LaC ca h nl) 5 M29 168 [some (.ref (h 0)), some (.int a0), none, some (.int a1), some (.int a2)] []
    refine o_iload K 4 dX9_set_168 rfl ?_
    exact e_iret K hf hR dX9_set_170
def f_X9_set (M : Mem) (a1 : Int32) (a2 : Int32) (a3 : Int32) : Option (Int32 × Mem) := bd (f_X9_isRoom a1) fun r1 => if r1 = 0 then (some (((-1000000001) : Int32), M)) else bd (f_X9_isWithin a2 (0 : Int32) (3 : Int32)) fun r3 => if r3 = 0 then (some (((-1000000001) : Int32), M)) else bd (f_X9_mostOf a2) fun r5 => bd (f_X9_isWithin a3 (0 : Int32) r5) fun r6 => if r6 = 0 then (some (((-1000000001) : Int32), M)) else if a2 = 0 then (rd M (HB 0 + 11) 9 a1 fun x9 => wr M (HB 0 + 11) 9 a1 a3 fun M12 => some (x9, M12)) else if a2 = 1 then (rd M (HB 0 + 12) 8 a1 fun x14 => wr M (HB 0 + 12) 8 a1 a3 fun M17 => some (x14, M17)) else if a2 = 2 then (rd M (HB 0 + 13) 8 a1 fun x19 => wr M (HB 0 + 13) 8 a1 a3 fun M22 => some (x19, M22)) else bd (f_X1_isLit 0 M a1) fun r23 => if r23 = 0 then (f_X9_set_j148 a1 a3 (0 : Int32) M) else f_X9_set_j148 a1 a3 (1 : Int32) M
set_option maxHeartbeats 4000000 in
set_option maxRecDepth 100000 in
theorem k_X9_set (l : Launch) (E : Amd) (D : va_G) (ca : Nat → ClassId) (h : Nat → Nat) (nl : Nat) (M : Mem) (a1 : Int32) (a2 : Int32) (a3 : Int32) {r0 : Int32} {Mo : Mem} (hf : f_X9_set M a1 a2 a3 = some (r0, Mo)) : Ct l E D (tysOf ca) h (LaC ca h nl) yX9_set cX9_set 5 (some .int) 2 42 [.ref (h 0), .int a1, .int a2, .int a3] M (some (.int r0)) Mo := by
  refine Ct.mk [some (.ref (h 0)), some (.int a1), some (.int a2), some (.int a3), none] (by decide) (Nat.le_of_ble_eq_true rfl) (argsV [.ref (h 0), .int a1, .int a2, .int a3] 1 rfl rfl) ?_
  intro x hx0 K hR
  have K : Kx x E D (tysOf ca) h (LaC ca h nl) RX9 cX9_set 5 2 42 := K
  rw [f_X9_set] at hf
  refine o_iload_n K 1 dX9_set_0 rfl rfl ?_
  obtain ⟨r1, er1, hf⟩ := bd_e hf
  refine o_callS K [.int a1] (k_X9_isRoom x.2.1 E D ca h nl M a1 er1) s_X9_57 rfl ⟨by decide, by decide⟩ (Nat.le_of_ble_eq_true rfl) _ rfl dX9_set_1 ?_
  show Go x D (tysOf ca) h (LaC ca h nl) 5 M 4 [some (.ref (h 0)), some (.int a1), some (.int a2), some (.int a3), none] [.int r1]
  refine o_if_eq K 28 dX9_set_4 (by decide) (fun c2 => ?_) (fun c2 => ?_)
  · have hf := ip c2 hf
    refine o_ldc K q330 dX9_set_28 ?_
    exact e_iret K hf hR dX9_set_30
  · have hf := im c2 hf
    refine o_iload_n K 2 dX9_set_7 rfl rfl ?_
    refine o_iconst K 0 dX9_set_8 (by decide) ?_
    refine o_iconst K 3 dX9_set_9 (by decide) ?_
    obtain ⟨r3, er3, hf⟩ := bd_e hf
    refine o_callS K [.int a2, .int 0, .int 3] (k_X9_isWithin x.2.1 E D ca h nl M a2 (0 : Int32) (3 : Int32) er3) s_X9_60 rfl ⟨by decide, by decide⟩ (Nat.le_of_ble_eq_true rfl) _ rfl dX9_set_10 ?_
    show Go x D (tysOf ca) h (LaC ca h nl) 5 M 13 [some (.ref (h 0)), some (.int a1), some (.int a2), some (.int a3), none] [.int r3]
    refine o_if_eq K 28 dX9_set_13 (by decide) (fun c4 => ?_) (fun c4 => ?_)
    · have hf := ip c4 hf
      refine o_ldc K q330 dX9_set_28 ?_
      exact e_iret K hf hR dX9_set_30
    · have hf := im c4 hf
      refine o_iload_n K 3 dX9_set_16 rfl rfl ?_
      refine o_iconst K 0 dX9_set_17 (by decide) ?_
      refine o_iload_n K 2 dX9_set_18 rfl rfl ?_
      obtain ⟨r5, er5, hf⟩ := bd_e hf
      refine o_callS K [.int a2] (k_X9_mostOf x.2.1 E D ca h nl M a2 er5) s_X9_133 rfl ⟨by decide, by decide⟩ (Nat.le_of_ble_eq_true rfl) _ rfl dX9_set_19 ?_
      show Go x D (tysOf ca) h (LaC ca h nl) 5 M 22 [some (.ref (h 0)), some (.int a1), some (.int a2), some (.int a3), none] [.int r5, .int 0, .int a3]
      obtain ⟨r6, er6, hf⟩ := bd_e hf
      refine o_callS K [.int a3, .int 0, .int r5] (k_X9_isWithin x.2.1 E D ca h nl M a3 (0 : Int32) r5 er6) s_X9_60 rfl ⟨by decide, by decide⟩ (Nat.le_of_ble_eq_true rfl) _ rfl dX9_set_22 ?_
      show Go x D (tysOf ca) h (LaC ca h nl) 5 M 25 [some (.ref (h 0)), some (.int a1), some (.int a2), some (.int a3), none] [.int r6]
      refine o_if_ne K 31 dX9_set_25 (by decide) (fun c7 => ?_) (fun c7 => ?_)
      · have hf := im c7 hf
        refine o_iload_n K 2 dX9_set_31 rfl rfl ?_
        by_cases c8 : a2 = 0
        · have hf := ip c8 hf
          refine o_table K 60 dX9_set_32 (by decide) (by rw [c8]; try decide) (by decide) ?_
          refine o_aload_n K 0 dX9_set_60 rfl rfl ?_
          refine gC_X9_10 K dX9_set_61 ?_
          refine gC_X9_118 hb_0 K dX9_set_64 ?_
          refine o_iload_n K 1 dX9_set_67 rfl rfl ?_
          obtain ⟨g10, x9, ex9, hf⟩ := rd_e hf
          refine lCh hb_0 11 9 (by decide) (fun _ => rfl) K g10 dX9_set_68 ?_
          refine o_nmi ex9 ?_
          refine o_istore K 4 [some (.ref (h 0)), some (.int a1), some (.int a2), some (.int a3), some (.int x9)] dX9_set_69 (by decide) rfl rfl ?_
          refine o_aload_n K 0 dX9_set_71 rfl rfl ?_
          refine gC_X9_10 K dX9_set_72 ?_
          refine gC_X9_118 hb_0 K dX9_set_75 ?_
          refine o_iload_n K 1 dX9_set_78 rfl rfl ?_
          refine o_iload_n K 3 dX9_set_79 rfl rfl ?_
          obtain ⟨g11, M12, eM12, hf⟩ := wr_e hf
          refine sCh hb_0 11 9 (by decide) (fun _ => rfl) K g11 dX9_set_80 ?_
          refine o_nmM eM12 ?_
          refine o_iload K 4 dX9_set_81 rfl ?_
          exact e_iret K hf hR dX9_set_83
        have hf := im c8 hf
        by_cases c13 : a2 = 1
        · have hf := ip c13 hf
          refine o_table K 84 dX9_set_32 (by decide) (by rw [c13]; try decide) (by decide) ?_
          refine o_aload_n K 0 dX9_set_84 rfl rfl ?_
          refine gC_X9_10 K dX9_set_85 ?_
          refine gC_X9_121 hb_0 K dX9_set_88 ?_
          refine o_iload_n K 1 dX9_set_91 rfl rfl ?_
          obtain ⟨g15, x14, ex14, hf⟩ := rd_e hf
          refine lCh hb_0 12 8 (by decide) (fun _ => rfl) K g15 dX9_set_92 ?_
          refine o_nmi ex14 ?_
          refine o_istore K 4 [some (.ref (h 0)), some (.int a1), some (.int a2), some (.int a3), some (.int x14)] dX9_set_93 (by decide) rfl rfl ?_
          refine o_aload_n K 0 dX9_set_95 rfl rfl ?_
          refine gC_X9_10 K dX9_set_96 ?_
          refine gC_X9_121 hb_0 K dX9_set_99 ?_
          refine o_iload_n K 1 dX9_set_102 rfl rfl ?_
          refine o_iload_n K 3 dX9_set_103 rfl rfl ?_
          obtain ⟨g16, M17, eM17, hf⟩ := wr_e hf
          refine sCh hb_0 12 8 (by decide) (fun _ => rfl) K g16 dX9_set_104 ?_
          refine o_nmM eM17 ?_
          refine o_iload K 4 dX9_set_105 rfl ?_
          exact e_iret K hf hR dX9_set_107
        have hf := im c13 hf
        by_cases c18 : a2 = 2
        · have hf := ip c18 hf
          refine o_table K 108 dX9_set_32 (by decide) (by rw [c18]; try decide) (by decide) ?_
          refine o_aload_n K 0 dX9_set_108 rfl rfl ?_
          refine gC_X9_10 K dX9_set_109 ?_
          refine gC_X9_124 hb_0 K dX9_set_112 ?_
          refine o_iload_n K 1 dX9_set_115 rfl rfl ?_
          obtain ⟨g20, x19, ex19, hf⟩ := rd_e hf
          refine lCh hb_0 13 8 (by decide) (fun _ => rfl) K g20 dX9_set_116 ?_
          refine o_nmi ex19 ?_
          refine o_istore K 4 [some (.ref (h 0)), some (.int a1), some (.int a2), some (.int a3), some (.int x19)] dX9_set_117 (by decide) rfl rfl ?_
          refine o_aload_n K 0 dX9_set_119 rfl rfl ?_
          refine gC_X9_10 K dX9_set_120 ?_
          refine gC_X9_124 hb_0 K dX9_set_123 ?_
          refine o_iload_n K 1 dX9_set_126 rfl rfl ?_
          refine o_iload_n K 3 dX9_set_127 rfl rfl ?_
          obtain ⟨g21, M22, eM22, hf⟩ := wr_e hf
          refine sCh hb_0 13 8 (by decide) (fun _ => rfl) K g21 dX9_set_128 ?_
          refine o_nmM eM22 ?_
          refine o_iload K 4 dX9_set_129 rfl ?_
          exact e_iret K hf hR dX9_set_131
        have hf := im c18 hf
        refine o_table K 132 dX9_set_32 (by decide) (tsel_d [0, 1, 2] (List.forall_mem_cons.mpr ⟨lv_neT c8 rfl, (List.forall_mem_cons.mpr ⟨lv_neT c13 rfl, (List.forall_mem_cons.mpr ⟨lv_neT c18 rfl, (List.forall_mem_nil _)⟩)⟩)⟩) (by decide)) (by decide) ?_
        refine o_aload_n K 0 dX9_set_132 rfl rfl ?_
        refine gC_X9_10 K dX9_set_133 ?_
        refine o_iload_n K 1 dX9_set_136 rfl rfl ?_
        obtain ⟨r23, er23, hf⟩ := bd_e hf
        refine o_callV K [.int a1] (k_X1_isLit x.2.1 E D ca h nl M 0 a1 hb_0 er23) s_X9_127 (ltHall hb_0) (obHall_c (ca := ca) (h := h) hb_0 _) rfl rfl rfl ⟨by decide, by decide⟩ (Nat.le_of_ble_eq_true rfl) _ rfl dX9_set_137 ?_
        show Go x D (tysOf ca) h (LaC ca h nl) 5 M 140 [some (.ref (h 0)), some (.int a1), some (.int a2), some (.int a3), none] [.int r23]
        refine o_if_eq K 147 dX9_set_140 (by decide) (fun c24 => ?_) (fun c24 => ?_)
        · have hf := ip c24 hf
          refine o_iconst K 0 dX9_set_147 (by decide) ?_
          refine o_drop [true, true, false, true, false] (V2 := [some (.ref (h 0)), some (.int a1), none, some (.int a3), none]) rfl ?_
          exact t_X9_set_j148 K hR a1 a3 (0 : Int32) M hf
        · have hf := im c24 hf
          refine o_iconst K 1 dX9_set_143 (by decide) ?_
          refine o_goto K 148 dX9_set_144 (by decide) ?_
          refine o_drop [true, true, false, true, false] (V2 := [some (.ref (h 0)), some (.int a1), none, some (.int a3), none]) rfl ?_
          exact t_X9_set_j148 K hR a1 a3 (1 : Int32) M hf
      · have hf := ip c7 hf
        refine o_ldc K q330 dX9_set_28 ?_
        exact e_iret K hf hR dX9_set_30
def f_X9_wind (M : Mem) (a1 : Int32) : Option (Int32 × Mem) := bd (f_X9_isWithin a1 (0 : Int32) (9999 : Int32)) fun r1 => if r1 = 0 then (some (((-1000000001) : Int32), M)) else rd M (HB 0 + 11) 9 8 fun x3 => wr M (HB 0 + 11) 9 8 a1 fun M6 => some (x3, M6)
set_option maxHeartbeats 4000000 in
set_option maxRecDepth 100000 in
theorem k_X9_wind (l : Launch) (E : Amd) (D : va_G) (ca : Nat → ClassId) (h : Nat → Nat) (nl : Nat) (M : Mem) (a1 : Int32) {r0 : Int32} {Mo : Mem} (hf : f_X9_wind M a1 = some (r0, Mo)) : Ct l E D (tysOf ca) h (LaC ca h nl) yX9_wind cX9_wind 3 (some .int) 1 22 [.ref (h 0), .int a1] M (some (.int r0)) Mo := by
  refine Ct.mk [some (.ref (h 0)), some (.int a1), none] (by decide) (Nat.le_of_ble_eq_true rfl) (argsV [.ref (h 0), .int a1] 1 rfl rfl) ?_
  intro x hx0 K hR
  have K : Kx x E D (tysOf ca) h (LaC ca h nl) RX9 cX9_wind 3 1 22 := K
  rw [f_X9_wind] at hf
  refine o_iload_n K 1 dX9_wind_0 rfl rfl ?_
  refine o_iconst K 0 dX9_wind_1 (by decide) ?_
  refine o_sipush K 9999 dX9_wind_2 (by decide) ?_
  obtain ⟨r1, er1, hf⟩ := bd_e hf
  refine o_callS K [.int a1, .int 0, .int 9999] (k_X9_isWithin x.2.1 E D ca h nl M a1 (0 : Int32) (9999 : Int32) er1) s_X9_60 rfl ⟨by decide, by decide⟩ (Nat.le_of_ble_eq_true rfl) _ rfl dX9_wind_5 ?_
  show Go x D (tysOf ca) h (LaC ca h nl) 3 M 8 [some (.ref (h 0)), some (.int a1), none] [.int r1]
  refine o_if_ne K 14 dX9_wind_8 (by decide) (fun c2 => ?_) (fun c2 => ?_)
  · have hf := im c2 hf
    refine o_aload_n K 0 dX9_wind_14 rfl rfl ?_
    refine gC_X9_10 K dX9_wind_15 ?_
    refine gC_X9_118 hb_0 K dX9_wind_18 ?_
    refine o_bipush K 8 dX9_wind_21 (by decide) ?_
    obtain ⟨g4, x3, ex3, hf⟩ := rd_e hf
    refine lCh hb_0 11 9 (by decide) (fun _ => rfl) K g4 dX9_wind_23 ?_
    refine o_nmi ex3 ?_
    refine o_istore_n K 2 [some (.ref (h 0)), some (.int a1), some (.int x3)] dX9_wind_24 rfl (by decide) rfl rfl ?_
    refine o_aload_n K 0 dX9_wind_25 rfl rfl ?_
    refine gC_X9_10 K dX9_wind_26 ?_
    refine gC_X9_118 hb_0 K dX9_wind_29 ?_
    refine o_bipush K 8 dX9_wind_32 (by decide) ?_
    refine o_iload_n K 1 dX9_wind_34 rfl rfl ?_
    obtain ⟨g5, M6, eM6, hf⟩ := wr_e hf
    refine sCh hb_0 11 9 (by decide) (fun _ => rfl) K g5 dX9_wind_35 ?_
    refine o_nmM eM6 ?_
    refine o_iload_n K 2 dX9_wind_36 rfl rfl ?_
    exact e_iret K hf hR dX9_wind_37
  · have hf := ip c2 hf
    refine o_ldc K q330 dX9_wind_11 ?_
    exact e_iret K hf hR dX9_wind_13
def f_X9_deal_l33 : Nat → Int32 → Int32 → Mem → Option (Int32 × Mem)
  | 0, _, _, _ => none
  | n + 1, a0, a1, M => if a0 ≤ a1 then (some (a0, M)) else bd (f_X1_drawDoor 0 M) fun M6 => nm (a1 + 1 : Int32) fun x7 => f_X9_deal_l33 n a0 x7 M6
set_option maxHeartbeats 4000000 in
set_option maxRecDepth 100000 in
theorem t_X9_deal_l33 {x : En} {E : Amd} {D : va_G} {ca : Nat → ClassId} {h : Nat → Nat} {nl : Nat} (K : Kx x E D (tysOf ca) h (LaC ca h nl) RX9 cX9_deal 4 2 49) {r0 : Int32} {Mo : Mem} (hR : Rt x D h (LaC ca h nl) (some .int) (some (.int r0)) Mo) : ∀ (n : Nat) (a0 : Int32) (a1 : Int32) (M : Mem), f_X9_deal_l33 n a0 a1 M = some (r0, Mo) → Go x D (tysOf ca) h (LaC ca h nl) 4 M 33 [some (.ref (h 0)), none, some (.int a0), some (.int a1)] [] := by
  intro n
  induction n with
  | zero =>
    intro a0 a1 M hf
    cases hf
  | succ n ih =>
    intro a0 a1 M hf
    rw [f_X9_deal_l33] at hf
    refine o_iload_n K 3 dX9_deal_33 rfl rfl ?_
    refine o_iload_n K 2 dX9_deal_34 rfl rfl ?_
    refine o_icmp_ge K 51 dX9_deal_35 (by decide) (fun c4 => ?_) (fun c4 => ?_)
    · have hf := ip c4 hf
      refine o_iload_n K 2 dX9_deal_51 rfl rfl ?_
      exact e_iret K hf hR dX9_deal_52
    · have hf := im c4 hf
      refine o_aload_n K 0 dX9_deal_38 rfl rfl ?_
      refine gC_X9_10 K dX9_deal_39 ?_
      obtain ⟨M6, er5, hf⟩ := bd_e hf
      refine o_callV K [] (k_X1_drawDoor x.2.1 E D ca h nl M 0 hb_0 er5) s_X9_144 (ltHall hb_0) (obHall_c (ca := ca) (h := h) hb_0 _) rfl rfl rfl ⟨by decide, by decide⟩ (Nat.le_of_ble_eq_true rfl) _ rfl dX9_deal_42 ?_
      show Go x D (tysOf ca) h (LaC ca h nl) 4 M6 45 [some (.ref (h 0)), none, some (.int a0), some (.int a1)] []
      obtain ⟨x7, ex7, hf⟩ := nm_o hf
      refine o_iinc K 3 x7 [some (.ref (h 0)), none, some (.int a0), some (.int x7)] dX9_deal_45 rfl (inc_e (by decide) ex7) (by decide) rfl rfl ?_
      refine o_goto K 33 dX9_deal_48 (by decide) ?_
      exact ih a0 x7 M6 hf
def f_X9_deal (M : Mem) (a1 : Int32) : Option (Int32 × Mem) := bd (f_X9_isWithin a1 (1 : Int32) (10 : Int32)) fun r1 => if r1 = 0 then (some (((-1000000001) : Int32), M)) else nm ((if ((10 : Int32) - (M (HB 0 + 1) 0)) < a1 then ((10 : Int32) - (M (HB 0 + 1) 0)) else a1) : Int32) fun x3 => f_X9_deal_l33 FU x3 (0 : Int32) M
set_option maxHeartbeats 4000000 in
set_option maxRecDepth 100000 in
theorem k_X9_deal (l : Launch) (E : Amd) (D : va_G) (ca : Nat → ClassId) (h : Nat → Nat) (nl : Nat) (M : Mem) (a1 : Int32) {r0 : Int32} {Mo : Mem} (hf : f_X9_deal M a1 = some (r0, Mo)) : Ct l E D (tysOf ca) h (LaC ca h nl) yX9_deal cX9_deal 4 (some .int) 2 49 [.ref (h 0), .int a1] M (some (.int r0)) Mo := by
  refine Ct.mk [some (.ref (h 0)), some (.int a1), none, none] (by decide) (Nat.le_of_ble_eq_true rfl) (argsV [.ref (h 0), .int a1] 2 rfl rfl) ?_
  intro x hx0 K hR
  have K : Kx x E D (tysOf ca) h (LaC ca h nl) RX9 cX9_deal 4 2 49 := K
  rw [f_X9_deal] at hf
  refine o_iload_n K 1 dX9_deal_0 rfl rfl ?_
  refine o_iconst K 1 dX9_deal_1 (by decide) ?_
  refine o_bipush K 10 dX9_deal_2 (by decide) ?_
  obtain ⟨r1, er1, hf⟩ := bd_e hf
  refine o_callS K [.int a1, .int 1, .int 10] (k_X9_isWithin x.2.1 E D ca h nl M a1 (1 : Int32) (10 : Int32) er1) s_X9_60 rfl ⟨by decide, by decide⟩ (Nat.le_of_ble_eq_true rfl) _ rfl dX9_deal_4 ?_
  show Go x D (tysOf ca) h (LaC ca h nl) 4 M 7 [some (.ref (h 0)), some (.int a1), none, none] [.int r1]
  refine o_if_ne K 13 dX9_deal_7 (by decide) (fun c2 => ?_) (fun c2 => ?_)
  · have hf := im c2 hf
    refine o_iload_n K 1 dX9_deal_13 rfl rfl ?_
    refine o_bipush K 10 dX9_deal_14 (by decide) ?_
    refine o_aload_n K 0 dX9_deal_16 rfl rfl ?_
    refine gC_X9_10 K dX9_deal_17 ?_
    refine gC_X9_67 hb_0 K dX9_deal_20 ?_
    refine gC_X9_71 hb_0 K dX9_deal_23 ?_
    refine o_isub K dX9_deal_26 ?_
    refine o_mmin K q109 q110 q6 q111 ⟨by decide, by decide⟩ (Nat.le_of_ble_eq_true rfl) dX9_deal_27 ?_
    obtain ⟨x3, ex3, hf⟩ := nm_o hf
    refine o_nmi ex3 ?_
    refine o_istore_n K 2 [some (.ref (h 0)), some (.int a1), some (.int x3), none] dX9_deal_30 rfl (by decide) rfl rfl ?_
    refine o_iconst K 0 dX9_deal_31 (by decide) ?_
    refine o_istore_n K 3 [some (.ref (h 0)), some (.int a1), some (.int x3), some (.int 0)] dX9_deal_32 rfl (by decide) rfl rfl ?_
    refine o_drop [true, false, true, true] (V2 := [some (.ref (h 0)), none, some (.int x3), some (.int 0)]) rfl ?_
    exact t_X9_deal_l33 K hR FU x3 (0 : Int32) M hf
  · have hf := ip c2 hf
    refine o_ldc K q330 dX9_deal_10 ?_
    exact e_iret K hf hR dX9_deal_12
def f_X9_seed (M : Mem) (a1 : Int32) : Option (Int32 × Mem) := nm (M (HB 0) 8 : Int32) fun x1 => nm (sto M (HB 0) 8 a1) fun M2 => some (x1, M2)
set_option maxHeartbeats 4000000 in
set_option maxRecDepth 100000 in
theorem k_X9_seed (l : Launch) (E : Amd) (D : va_G) (ca : Nat → ClassId) (h : Nat → Nat) (nl : Nat) (M : Mem) (a1 : Int32) {r0 : Int32} {Mo : Mem} (hf : f_X9_seed M a1 = some (r0, Mo)) : Ct l E D (tysOf ca) h (LaC ca h nl) yX9_seed cX9_seed 3 (some .int) 0 0 [.ref (h 0), .int a1] M (some (.int r0)) Mo := by
  refine Ct.mk [some (.ref (h 0)), some (.int a1), none] (by decide) (Nat.le_of_ble_eq_true rfl) (argsV [.ref (h 0), .int a1] 1 rfl rfl) ?_
  intro x hx0 K hR
  have K : Kx x E D (tysOf ca) h (LaC ca h nl) RX9 cX9_seed 3 0 0 := K
  rw [f_X9_seed] at hf
  refine o_aload_n K 0 dX9_seed_0 rfl rfl ?_
  refine gC_X9_10 K dX9_seed_1 ?_
  refine gC_X9_147 hb_0 K dX9_seed_4 ?_
  obtain ⟨x1, ex1, hf⟩ := nm_o hf
  refine o_nmi ex1 ?_
  refine o_istore_n K 2 [some (.ref (h 0)), some (.int a1), some (.int x1)] dX9_seed_7 rfl (by decide) rfl rfl ?_
  refine o_aload_n K 0 dX9_seed_8 rfl rfl ?_
  refine gC_X9_10 K dX9_seed_9 ?_
  refine o_iload_n K 1 dX9_seed_12 rfl rfl ?_
  obtain ⟨M2, eM2, hf⟩ := nm_o hf
  refine pC_X9_147 hb_0 K dX9_seed_13 ?_
  refine o_nmM eM2 ?_
  refine o_iload_n K 2 dX9_seed_16 rfl rfl ?_
  exact e_iret K hf hR dX9_seed_17
def f_X9_run_l36 (nl : Nat) : Nat → Int32 → Int32 → Int32 → Mem → Option (Int32 × Mem)
  | 0, _, _, _, _ => none
  | n + 1, a0, a1, a2, M => if a1 ≤ a2 then (bd (f_X1_litMany 0 M) fun r7 => some (a0 - r7, M)) else bd (f_X1_passMinute nl 0 M) fun M9 => nm (a2 + 1 : Int32) fun x10 => f_X9_run_l36 nl n a0 a1 x10 M9
set_option maxHeartbeats 4000000 in
set_option maxRecDepth 100000 in
theorem t_X9_run_l36 {x : En} {E : Amd} {D : va_G} {ca : Nat → ClassId} {h : Nat → Nat} {nl : Nat} (K : Kx x E D (tysOf ca) h (LaC ca h nl) RX9 cX9_run 5 5 115) {r0 : Int32} {Mo : Mem} (hR : Rt x D h (LaC ca h nl) (some .int) (some (.int r0)) Mo) : ∀ (n : Nat) (a0 : Int32) (a1 : Int32) (a2 : Int32) (M : Mem), f_X9_run_l36 nl n a0 a1 a2 M = some (r0, Mo) → Go x D (tysOf ca) h (LaC ca h nl) 5 M 36 [some (.ref (h 0)), none, some (.int a0), some (.int a1), some (.int a2)] [] := by
  intro n
  induction n with
  | zero =>
    intro a0 a1 a2 M hf
    cases hf
  | succ n ih =>
    intro a0 a1 a2 M hf
    rw [f_X9_run_l36] at hf
    refine o_iload K 4 dX9_run_36 rfl ?_
    refine o_iload_n K 3 dX9_run_38 rfl rfl ?_
    refine o_icmp_ge K 55 dX9_run_39 (by decide) (fun c6 => ?_) (fun c6 => ?_)
    · have hf := ip c6 hf
      refine o_iload_n K 2 dX9_run_55 rfl rfl ?_
      refine o_aload_n K 0 dX9_run_56 rfl rfl ?_
      refine gC_X9_10 K dX9_run_57 ?_
      obtain ⟨r7, er7, hf⟩ := bd_e hf
      refine o_callV K [] (k_X1_litMany x.2.1 E D ca h nl M 0 hb_0 er7) s_X9_150 (ltHall hb_0) (obHall_c (ca := ca) (h := h) hb_0 _) rfl rfl rfl ⟨by decide, by decide⟩ (Nat.le_of_ble_eq_true rfl) _ rfl dX9_run_60 ?_
      show Go x D (tysOf ca) h (LaC ca h nl) 5 M 63 [some (.ref (h 0)), none, some (.int a0), some (.int a1), some (.int a2)] [.int r7, .int a0]
      refine o_isub K dX9_run_63 ?_
      exact e_iret K hf hR dX9_run_64
    · have hf := im c6 hf
      refine o_aload_n K 0 dX9_run_42 rfl rfl ?_
      refine gC_X9_10 K dX9_run_43 ?_
      obtain ⟨M9, er8, hf⟩ := bd_e hf
      refine o_callV K [] (k_X1_passMinute x.2.1 E D ca h nl M 0 hb_0 er8) s_X9_157 (ltHall hb_0) (obHall_c (ca := ca) (h := h) hb_0 _) rfl rfl rfl ⟨by decide, by decide⟩ (Nat.le_of_ble_eq_true rfl) _ rfl dX9_run_46 ?_
      show Go x D (tysOf ca) h (LaC ca h nl) 5 M9 49 [some (.ref (h 0)), none, some (.int a0), some (.int a1), some (.int a2)] []
      obtain ⟨x10, ex10, hf⟩ := nm_o hf
      refine o_iinc K 4 x10 [some (.ref (h 0)), none, some (.int a0), some (.int a1), some (.int x10)] dX9_run_49 rfl (inc_e (by decide) ex10) (by decide) rfl rfl ?_
      refine o_goto K 36 dX9_run_52 (by decide) ?_
      exact ih a0 a1 x10 M9 hf
def f_X9_run (nl : Nat) (M : Mem) (a1 : Int32) : Option (Int32 × Mem) := bd (f_X9_isWithin a1 (1 : Int32) (100 : Int32)) fun r1 => if r1 = 0 then (some (((-1000000001) : Int32), M)) else bd (f_X1_litMany 0 M) fun r3 => bd (f_X1_minutesLeft 0 M) fun r4 => nm ((if r4 < a1 then r4 else a1) : Int32) fun x5 => f_X9_run_l36 nl FU r3 x5 (0 : Int32) M
set_option maxHeartbeats 4000000 in
set_option maxRecDepth 100000 in
theorem k_X9_run (l : Launch) (E : Amd) (D : va_G) (ca : Nat → ClassId) (h : Nat → Nat) (nl : Nat) (M : Mem) (a1 : Int32) {r0 : Int32} {Mo : Mem} (hf : f_X9_run nl M a1 = some (r0, Mo)) : Ct l E D (tysOf ca) h (LaC ca h nl) yX9_run cX9_run 5 (some .int) 5 115 [.ref (h 0), .int a1] M (some (.int r0)) Mo := by
  refine Ct.mk [some (.ref (h 0)), some (.int a1), none, none, none] (by decide) (Nat.le_of_ble_eq_true rfl) (argsV [.ref (h 0), .int a1] 3 rfl rfl) ?_
  intro x hx0 K hR
  have K : Kx x E D (tysOf ca) h (LaC ca h nl) RX9 cX9_run 5 5 115 := K
  rw [f_X9_run] at hf
  refine o_iload_n K 1 dX9_run_0 rfl rfl ?_
  refine o_iconst K 1 dX9_run_1 (by decide) ?_
  refine o_bipush K 100 dX9_run_2 (by decide) ?_
  obtain ⟨r1, er1, hf⟩ := bd_e hf
  refine o_callS K [.int a1, .int 1, .int 100] (k_X9_isWithin x.2.1 E D ca h nl M a1 (1 : Int32) (100 : Int32) er1) s_X9_60 rfl ⟨by decide, by decide⟩ (Nat.le_of_ble_eq_true rfl) _ rfl dX9_run_4 ?_
  show Go x D (tysOf ca) h (LaC ca h nl) 5 M 7 [some (.ref (h 0)), some (.int a1), none, none, none] [.int r1]
  refine o_if_ne K 13 dX9_run_7 (by decide) (fun c2 => ?_) (fun c2 => ?_)
  · have hf := im c2 hf
    refine o_aload_n K 0 dX9_run_13 rfl rfl ?_
    refine gC_X9_10 K dX9_run_14 ?_
    obtain ⟨r3, er3, hf⟩ := bd_e hf
    refine o_callV K [] (k_X1_litMany x.2.1 E D ca h nl M 0 hb_0 er3) s_X9_150 (ltHall hb_0) (obHall_c (ca := ca) (h := h) hb_0 _) rfl rfl rfl ⟨by decide, by decide⟩ (Nat.le_of_ble_eq_true rfl) _ rfl dX9_run_17 ?_
    show Go x D (tysOf ca) h (LaC ca h nl) 5 M 20 [some (.ref (h 0)), some (.int a1), none, none, none] [.int r3]
    refine o_istore_n K 2 [some (.ref (h 0)), some (.int a1), some (.int r3), none, none] dX9_run_20 rfl (by decide) rfl rfl ?_
    refine o_iload_n K 1 dX9_run_21 rfl rfl ?_
    refine o_aload_n K 0 dX9_run_22 rfl rfl ?_
    refine gC_X9_10 K dX9_run_23 ?_
    obtain ⟨r4, er4, hf⟩ := bd_e hf
    refine o_callV K [] (k_X1_minutesLeft x.2.1 E D ca h nl M 0 hb_0 er4) s_X9_154 (ltHall hb_0) (obHall_c (ca := ca) (h := h) hb_0 _) rfl rfl rfl ⟨by decide, by decide⟩ (Nat.le_of_ble_eq_true rfl) _ rfl dX9_run_26 ?_
    show Go x D (tysOf ca) h (LaC ca h nl) 5 M 29 [some (.ref (h 0)), some (.int a1), some (.int r3), none, none] [.int r4, .int a1]
    refine o_mmin K q109 q110 q6 q111 ⟨by decide, by decide⟩ (Nat.le_of_ble_eq_true rfl) dX9_run_29 ?_
    obtain ⟨x5, ex5, hf⟩ := nm_o hf
    refine o_nmi ex5 ?_
    refine o_istore_n K 3 [some (.ref (h 0)), some (.int a1), some (.int r3), some (.int x5), none] dX9_run_32 rfl (by decide) rfl rfl ?_
    refine o_iconst K 0 dX9_run_33 (by decide) ?_
    refine o_istore K 4 [some (.ref (h 0)), some (.int a1), some (.int r3), some (.int x5), some (.int 0)] dX9_run_34 (by decide) rfl rfl ?_
    refine o_drop [true, false, true, true, true] (V2 := [some (.ref (h 0)), none, some (.int r3), some (.int x5), some (.int 0)]) rfl ?_
    exact t_X9_run_l36 K hR FU r3 x5 (0 : Int32) M hf
  · have hf := ip c2 hf
    refine o_ldc K q330 dX9_run_10 ?_
    exact e_iret K hf hR dX9_run_12
def f_X9_footman (M : Mem) (a1 : Int32) : Option (Int32 × Mem) := bd (f_X9_isWithin a1 (0 : Int32) (100 : Int32)) fun r1 => if r1 = 0 then (some (((-1000000001) : Int32), M)) else bd (f_X0_openMany 0 M) fun r3 => bd (f_X1_goRound 0 M a1) fun M5 => bd (f_X0_openMany 0 M5) fun r6 => some (r3 - r6, M5)
set_option maxHeartbeats 4000000 in
set_option maxRecDepth 100000 in
theorem k_X9_footman (l : Launch) (E : Amd) (D : va_G) (ca : Nat → ClassId) (h : Nat → Nat) (nl : Nat) (M : Mem) (a1 : Int32) {r0 : Int32} {Mo : Mem} (hf : f_X9_footman M a1 = some (r0, Mo)) : Ct l E D (tysOf ca) h (LaC ca h nl) yX9_footman cX9_footman 3 (some .int) 2 44 [.ref (h 0), .int a1] M (some (.int r0)) Mo := by
  refine Ct.mk [some (.ref (h 0)), some (.int a1), none] (by decide) (Nat.le_of_ble_eq_true rfl) (argsV [.ref (h 0), .int a1] 1 rfl rfl) ?_
  intro x hx0 K hR
  have K : Kx x E D (tysOf ca) h (LaC ca h nl) RX9 cX9_footman 3 2 44 := K
  rw [f_X9_footman] at hf
  refine o_iload_n K 1 dX9_footman_0 rfl rfl ?_
  refine o_iconst K 0 dX9_footman_1 (by decide) ?_
  refine o_bipush K 100 dX9_footman_2 (by decide) ?_
  obtain ⟨r1, er1, hf⟩ := bd_e hf
  refine o_callS K [.int a1, .int 0, .int 100] (k_X9_isWithin x.2.1 E D ca h nl M a1 (0 : Int32) (100 : Int32) er1) s_X9_60 rfl ⟨by decide, by decide⟩ (Nat.le_of_ble_eq_true rfl) _ rfl dX9_footman_4 ?_
  show Go x D (tysOf ca) h (LaC ca h nl) 3 M 7 [some (.ref (h 0)), some (.int a1), none] [.int r1]
  refine o_if_ne K 13 dX9_footman_7 (by decide) (fun c2 => ?_) (fun c2 => ?_)
  · have hf := im c2 hf
    refine o_aload_n K 0 dX9_footman_13 rfl rfl ?_
    refine gC_X9_10 K dX9_footman_14 ?_
    refine gC_X9_67 hb_0 K dX9_footman_17 ?_
    obtain ⟨r3, er3, hf⟩ := bd_e hf
    refine o_callV K [] (k_X0_openMany x.2.1 E D ca h nl M 0 hb_0 er3) s_X9_160 (ltDoors hb_0) (obDoors_c (ca := ca) (h := h) hb_0 _) rfl rfl rfl ⟨by decide, by decide⟩ (Nat.le_of_ble_eq_true rfl) _ rfl dX9_footman_20 ?_
    show Go x D (tysOf ca) h (LaC ca h nl) 3 M 23 [some (.ref (h 0)), some (.int a1), none] [.int r3]
    refine o_istore_n K 2 [some (.ref (h 0)), some (.int a1), some (.int r3)] dX9_footman_23 rfl (by decide) rfl rfl ?_
    refine o_aload_n K 0 dX9_footman_24 rfl rfl ?_
    refine gC_X9_10 K dX9_footman_25 ?_
    refine o_iload_n K 1 dX9_footman_28 rfl rfl ?_
    obtain ⟨M5, er4, hf⟩ := bd_e hf
    refine o_callV K [.int a1] (k_X1_goRound x.2.1 E D ca h nl M 0 a1 hb_0 er4) s_X9_163 (ltHall hb_0) (obHall_c (ca := ca) (h := h) hb_0 _) rfl rfl rfl ⟨by decide, by decide⟩ (Nat.le_of_ble_eq_true rfl) _ rfl dX9_footman_29 ?_
    show Go x D (tysOf ca) h (LaC ca h nl) 3 M5 32 [some (.ref (h 0)), some (.int a1), some (.int r3)] []
    refine o_iload_n K 2 dX9_footman_32 rfl rfl ?_
    refine o_aload_n K 0 dX9_footman_33 rfl rfl ?_
    refine gC_X9_10 K dX9_footman_34 ?_
    refine gC_X9_67 hb_0 K dX9_footman_37 ?_
    obtain ⟨r6, er6, hf⟩ := bd_e hf
    refine o_callV K [] (k_X0_openMany x.2.1 E D ca h nl M5 0 hb_0 er6) s_X9_160 (ltDoors hb_0) (obDoors_c (ca := ca) (h := h) hb_0 _) rfl rfl rfl ⟨by decide, by decide⟩ (Nat.le_of_ble_eq_true rfl) _ rfl dX9_footman_40 ?_
    show Go x D (tysOf ca) h (LaC ca h nl) 3 M5 43 [some (.ref (h 0)), some (.int a1), some (.int r3)] [.int r6, .int r3]
    refine o_isub K dX9_footman_43 ?_
    exact e_iret K hf hR dX9_footman_44
  · have hf := ip c2 hf
    refine o_ldc K q330 dX9_footman_10 ?_
    exact e_iret K hf hR dX9_footman_12
def f_X9_hall (M : Mem) (a1 : Int32) : Option Int32 := if a1 = 0 then (some (M (HB 0) 6)) else if a1 = 1 then (bd (f_X1_airOfAll 0 M) fun r3 => some (r3)) else if a1 = 2 then (bd (f_X1_scentOfAll 0 M) fun r5 => some (r5)) else if a1 = 3 then (some (M (HB 0) 5)) else if a1 = 4 then (some (M (HB 0 + 1) 1)) else some (((-1000000001) : Int32))
set_option maxHeartbeats 4000000 in
set_option maxRecDepth 100000 in
theorem k_X9_hall (l : Launch) (E : Amd) (D : va_G) (ca : Nat → ClassId) (h : Nat → Nat) (nl : Nat) (M : Mem) (a1 : Int32) {r0 : Int32} (hf : f_X9_hall M a1 = some r0) : Ct l E D (tysOf ca) h (LaC ca h nl) yX9_hall cX9_hall 2 (some .int) 1 22 [.ref (h 0), .int a1] M (some (.int r0)) M := by
  refine Ct.mk [some (.ref (h 0)), some (.int a1)] (by decide) (Nat.le_of_ble_eq_true rfl) (argsV [.ref (h 0), .int a1] 0 rfl rfl) ?_
  intro x hx0 K hR
  have K : Kx x E D (tysOf ca) h (LaC ca h nl) RX9 cX9_hall 2 1 22 := K
  rw [f_X9_hall] at hf
  refine o_iload_n K 1 dX9_hall_0 rfl rfl ?_
  by_cases c1 : a1 = 0
  · have hf := ip c1 hf
    refine o_table K 36 dX9_hall_1 (by decide) (by rw [c1]; try decide) (by decide) ?_
    refine o_aload_n K 0 dX9_hall_36 rfl rfl ?_
    refine gC_X9_10 K dX9_hall_37 ?_
    refine gC_X9_167 hb_0 K dX9_hall_40 ?_
    exact r_iret K hf hR dX9_hall_43
  have hf := im c1 hf
  by_cases c2 : a1 = 1
  · have hf := ip c2 hf
    refine o_table K 44 dX9_hall_1 (by decide) (by rw [c2]; try decide) (by decide) ?_
    refine o_aload_n K 0 dX9_hall_44 rfl rfl ?_
    refine gC_X9_10 K dX9_hall_45 ?_
    obtain ⟨r3, er3, hf⟩ := bd_e hf
    refine o_callV K [] (k_X1_airOfAll x.2.1 E D ca h nl M 0 hb_0 er3) s_X9_170 (ltHall hb_0) (obHall_c (ca := ca) (h := h) hb_0 _) rfl rfl rfl ⟨by decide, by decide⟩ (Nat.le_of_ble_eq_true rfl) _ rfl dX9_hall_48 ?_
    show Go x D (tysOf ca) h (LaC ca h nl) 2 M 51 [some (.ref (h 0)), some (.int a1)] [.int r3]
    exact r_iret K hf hR dX9_hall_51
  have hf := im c2 hf
  by_cases c4 : a1 = 2
  · have hf := ip c4 hf
    refine o_table K 52 dX9_hall_1 (by decide) (by rw [c4]; try decide) (by decide) ?_
    refine o_aload_n K 0 dX9_hall_52 rfl rfl ?_
    refine gC_X9_10 K dX9_hall_53 ?_
    obtain ⟨r5, er5, hf⟩ := bd_e hf
    refine o_callV K [] (k_X1_scentOfAll x.2.1 E D ca h nl M 0 hb_0 er5) s_X9_173 (ltHall hb_0) (obHall_c (ca := ca) (h := h) hb_0 _) rfl rfl rfl ⟨by decide, by decide⟩ (Nat.le_of_ble_eq_true rfl) _ rfl dX9_hall_56 ?_
    show Go x D (tysOf ca) h (LaC ca h nl) 2 M 59 [some (.ref (h 0)), some (.int a1)] [.int r5]
    exact r_iret K hf hR dX9_hall_59
  have hf := im c4 hf
  by_cases c6 : a1 = 3
  · have hf := ip c6 hf
    refine o_table K 60 dX9_hall_1 (by decide) (by rw [c6]; try decide) (by decide) ?_
    refine o_aload_n K 0 dX9_hall_60 rfl rfl ?_
    refine gC_X9_10 K dX9_hall_61 ?_
    refine gC_X9_176 hb_0 K dX9_hall_64 ?_
    exact r_iret K hf hR dX9_hall_67
  have hf := im c6 hf
  by_cases c7 : a1 = 4
  · have hf := ip c7 hf
    refine o_table K 68 dX9_hall_1 (by decide) (by rw [c7]; try decide) (by decide) ?_
    refine o_aload_n K 0 dX9_hall_68 rfl rfl ?_
    refine gC_X9_10 K dX9_hall_69 ?_
    refine gC_X9_67 hb_0 K dX9_hall_72 ?_
    refine gC_X9_179 hb_0 K dX9_hall_75 ?_
    exact r_iret K hf hR dX9_hall_78
  have hf := im c7 hf
  refine o_table K 79 dX9_hall_1 (by decide) (tsel_d [0, 1, 2, 3, 4] (List.forall_mem_cons.mpr ⟨lv_neT c1 rfl, (List.forall_mem_cons.mpr ⟨lv_neT c2 rfl, (List.forall_mem_cons.mpr ⟨lv_neT c4 rfl, (List.forall_mem_cons.mpr ⟨lv_neT c6 rfl, (List.forall_mem_cons.mpr ⟨lv_neT c7 rfl, (List.forall_mem_nil _)⟩)⟩)⟩)⟩)⟩) (by decide)) (by decide) ?_
  refine o_ldc K q330 dX9_hall_79 ?_
  exact r_iret K hf hR dX9_hall_81
def f_X9_behind (nl : Nat) (M : Mem) (a1 : Int32) (a2 : Int32) (a3 : Int32) : Option (Int32 × Mem) := bd (f_X9_isRoom a1) fun r1 => if r1 = 0 then (some (((-1000000001) : Int32), M)) else bd (f_X9_isWithin a2 (0 : Int32) (100 : Int32)) fun r3 => if r3 = 0 then (some (((-1000000001) : Int32), M)) else bd (f_X9_isWithin a3 (0 : Int32) (3 : Int32)) fun r5 => if r5 = 0 then (some (((-1000000001) : Int32), M)) else bd (f_X8_behindMinutes nl 0 M a2) fun M8 => if a3 = 0 then (rd M8 (HB 2 + 11) 9 a1 fun x10 => some (x10, M8)) else if a3 = 1 then (rd M8 (HB 2 + 13) 8 a1 fun x13 => some (x13, M8)) else if a3 = 2 then (bd2 (f_X1_draughtOf 2 M8 a1) fun r16 M17 => some (r16, M17)) else bd (f_X1_isLit 2 M8 a1) fun r18 => if r18 = 0 then (some ((0 : Int32), M8)) else some ((1 : Int32), M8)
set_option maxHeartbeats 4000000 in
set_option maxRecDepth 100000 in
theorem k_X9_behind (l : Launch) (E : Amd) (D : va_G) (ca : Nat → ClassId) (h : Nat → Nat) (nl : Nat) (M : Mem) (a1 : Int32) (a2 : Int32) (a3 : Int32) {r0 : Int32} {Mo : Mem} (hf : f_X9_behind nl M a1 a2 a3 = some (r0, Mo)) : Ct l E D (tysOf ca) h (LaC ca h nl) yX9_behind cX9_behind 5 (some .int) 6 138 [.ref (h 0), .int a1, .int a2, .int a3] M (some (.int r0)) Mo := by
  refine Ct.mk [some (.ref (h 0)), some (.int a1), some (.int a2), some (.int a3), none] (by decide) (Nat.le_of_ble_eq_true rfl) (argsV [.ref (h 0), .int a1, .int a2, .int a3] 1 rfl rfl) ?_
  intro x hx0 K hR
  have K : Kx x E D (tysOf ca) h (LaC ca h nl) RX9 cX9_behind 5 6 138 := K
  rw [f_X9_behind] at hf
  refine o_iload_n K 1 dX9_behind_0 rfl rfl ?_
  obtain ⟨r1, er1, hf⟩ := bd_e hf
  refine o_callS K [.int a1] (k_X9_isRoom x.2.1 E D ca h nl M a1 er1) s_X9_57 rfl ⟨by decide, by decide⟩ (Nat.le_of_ble_eq_true rfl) _ rfl dX9_behind_1 ?_
  show Go x D (tysOf ca) h (LaC ca h nl) 5 M 4 [some (.ref (h 0)), some (.int a1), some (.int a2), some (.int a3), none] [.int r1]
  refine o_if_eq K 26 dX9_behind_4 (by decide) (fun c2 => ?_) (fun c2 => ?_)
  · have hf := ip c2 hf
    refine o_ldc K q330 dX9_behind_26 ?_
    exact e_iret K hf hR dX9_behind_28
  · have hf := im c2 hf
    refine o_iload_n K 2 dX9_behind_7 rfl rfl ?_
    refine o_iconst K 0 dX9_behind_8 (by decide) ?_
    refine o_bipush K 100 dX9_behind_9 (by decide) ?_
    obtain ⟨r3, er3, hf⟩ := bd_e hf
    refine o_callS K [.int a2, .int 0, .int 100] (k_X9_isWithin x.2.1 E D ca h nl M a2 (0 : Int32) (100 : Int32) er3) s_X9_60 rfl ⟨by decide, by decide⟩ (Nat.le_of_ble_eq_true rfl) _ rfl dX9_behind_11 ?_
    show Go x D (tysOf ca) h (LaC ca h nl) 5 M 14 [some (.ref (h 0)), some (.int a1), some (.int a2), some (.int a3), none] [.int r3]
    refine o_if_eq K 26 dX9_behind_14 (by decide) (fun c4 => ?_) (fun c4 => ?_)
    · have hf := ip c4 hf
      refine o_ldc K q330 dX9_behind_26 ?_
      exact e_iret K hf hR dX9_behind_28
    · have hf := im c4 hf
      refine o_iload_n K 3 dX9_behind_17 rfl rfl ?_
      refine o_iconst K 0 dX9_behind_18 (by decide) ?_
      refine o_iconst K 3 dX9_behind_19 (by decide) ?_
      obtain ⟨r5, er5, hf⟩ := bd_e hf
      refine o_callS K [.int a3, .int 0, .int 3] (k_X9_isWithin x.2.1 E D ca h nl M a3 (0 : Int32) (3 : Int32) er5) s_X9_60 rfl ⟨by decide, by decide⟩ (Nat.le_of_ble_eq_true rfl) _ rfl dX9_behind_20 ?_
      show Go x D (tysOf ca) h (LaC ca h nl) 5 M 23 [some (.ref (h 0)), some (.int a1), some (.int a2), some (.int a3), none] [.int r5]
      refine o_if_ne K 29 dX9_behind_23 (by decide) (fun c6 => ?_) (fun c6 => ?_)
      · have hf := im c6 hf
        refine o_aload_n K 0 dX9_behind_29 rfl rfl ?_
        refine gC_X9_22 K dX9_behind_30 ?_
        refine o_aload_n K 0 dX9_behind_33 rfl rfl ?_
        refine gC_X9_10 K dX9_behind_34 ?_
        refine o_iload_n K 2 dX9_behind_37 rfl rfl ?_
        obtain ⟨M8, er7, hf⟩ := bd_e hf
        refine o_callV K [.ref (h (HB 0)), .int a2] (k_X8_behindMinutes x.2.1 E D ca h nl M 0 a2 hb_0 er7) s_X9_182 (ltThought) (obThought_c (ca := ca) (h := h) (fun _ => 0)) rfl rfl rfl ⟨by decide, by decide⟩ (Nat.le_of_ble_eq_true rfl) _ rfl dX9_behind_38 ?_
        show Go x D (tysOf ca) h (LaC ca h nl) 5 M8 41 [some (.ref (h 0)), some (.int a1), some (.int a2), some (.int a3), none] [.ref (h (HB 2))]
        refine o_astore K 4 [some (.ref (h 0)), some (.int a1), some (.int a2), some (.int a3), some (.ref (h (HB 2)))] dX9_behind_41 (by decide) rfl rfl ?_
        refine o_iload_n K 3 dX9_behind_43 rfl rfl ?_
        by_cases c9 : a3 = 0
        · have hf := ip c9 hf
          refine o_table K 72 dX9_behind_44 (by decide) (by rw [c9]; try decide) (by decide) ?_
          refine o_aload K 4 dX9_behind_72 rfl ?_
          refine gC_X9_118 hb_2 K dX9_behind_74 ?_
          refine o_iload_n K 1 dX9_behind_77 rfl rfl ?_
          obtain ⟨g11, x10, ex10, hf⟩ := rd_e hf
          refine lCh hb_2 11 9 (by decide) (fun _ => rfl) K g11 dX9_behind_78 ?_
          refine o_nmi ex10 ?_
          exact e_iret K hf hR dX9_behind_79
        have hf := im c9 hf
        by_cases c12 : a3 = 1
        · have hf := ip c12 hf
          refine o_table K 80 dX9_behind_44 (by decide) (by rw [c12]; try decide) (by decide) ?_
          refine o_aload K 4 dX9_behind_80 rfl ?_
          refine gC_X9_124 hb_2 K dX9_behind_82 ?_
          refine o_iload_n K 1 dX9_behind_85 rfl rfl ?_
          obtain ⟨g14, x13, ex13, hf⟩ := rd_e hf
          refine lCh hb_2 13 8 (by decide) (fun _ => rfl) K g14 dX9_behind_86 ?_
          refine o_nmi ex13 ?_
          exact e_iret K hf hR dX9_behind_87
        have hf := im c12 hf
        by_cases c15 : a3 = 2
        · have hf := ip c15 hf
          refine o_table K 88 dX9_behind_44 (by decide) (by rw [c15]; try decide) (by decide) ?_
          refine o_aload K 4 dX9_behind_88 rfl ?_
          refine o_iload_n K 1 dX9_behind_90 rfl rfl ?_
          obtain ⟨r16, M17, er16, hf⟩ := bd2_e hf
          refine o_callV K [.int a1] (k_X1_draughtOf x.2.1 E D ca h nl M8 2 a1 hb_2 er16) s_X9_130 (ltHall hb_2) (obHall_c (ca := ca) (h := h) hb_2 _) rfl rfl rfl ⟨by decide, by decide⟩ (Nat.le_of_ble_eq_true rfl) _ rfl dX9_behind_91 ?_
          show Go x D (tysOf ca) h (LaC ca h nl) 5 M17 94 [some (.ref (h 0)), some (.int a1), some (.int a2), some (.int a3), some (.ref (h (HB 2)))] [.int r16]
          exact e_iret K hf hR dX9_behind_94
        have hf := im c15 hf
        refine o_table K 95 dX9_behind_44 (by decide) (tsel_d [0, 1, 2] (List.forall_mem_cons.mpr ⟨lv_neT c9 rfl, (List.forall_mem_cons.mpr ⟨lv_neT c12 rfl, (List.forall_mem_cons.mpr ⟨lv_neT c15 rfl, (List.forall_mem_nil _)⟩)⟩)⟩) (by decide)) (by decide) ?_
        refine o_aload K 4 dX9_behind_95 rfl ?_
        refine o_iload_n K 1 dX9_behind_97 rfl rfl ?_
        obtain ⟨r18, er18, hf⟩ := bd_e hf
        refine o_callV K [.int a1] (k_X1_isLit x.2.1 E D ca h nl M8 2 a1 hb_2 er18) s_X9_127 (ltHall hb_2) (obHall_c (ca := ca) (h := h) hb_2 _) rfl rfl rfl ⟨by decide, by decide⟩ (Nat.le_of_ble_eq_true rfl) _ rfl dX9_behind_98 ?_
        show Go x D (tysOf ca) h (LaC ca h nl) 5 M8 101 [some (.ref (h 0)), some (.int a1), some (.int a2), some (.int a3), some (.ref (h (HB 2)))] [.int r18]
        refine o_if_eq K 108 dX9_behind_101 (by decide) (fun c19 => ?_) (fun c19 => ?_)
        · have hf := ip c19 hf
          refine o_iconst K 0 dX9_behind_108 (by decide) ?_
          exact e_iret K hf hR dX9_behind_109
        · have hf := im c19 hf
          refine o_iconst K 1 dX9_behind_104 (by decide) ?_
          refine o_goto K 109 dX9_behind_105 (by decide) ?_
          exact e_iret K hf hR dX9_behind_109
      · have hf := ip c6 hf
        refine o_ldc K q330 dX9_behind_26 ?_
        exact e_iret K hf hR dX9_behind_28
def f_X9_still (nl : Nat) (M : Mem) : Option (Int32 × Mem) := bd2 (f_X8_minutesUntilStill nl 0 M) fun r1 M2 => some (r1, M2)
set_option maxHeartbeats 4000000 in
set_option maxRecDepth 100000 in
theorem k_X9_still (l : Launch) (E : Amd) (D : va_G) (ca : Nat → ClassId) (h : Nat → Nat) (nl : Nat) (M : Mem) {r0 : Int32} {Mo : Mem} (hf : f_X9_still nl M = some (r0, Mo)) : Ct l E D (tysOf ca) h (LaC ca h nl) yX9_still cX9_still 1 (some .int) 5 109 [.ref (h 0)] M (some (.int r0)) Mo := by
  refine Ct.mk [some (.ref (h 0))] (by decide) (Nat.le_of_ble_eq_true rfl) (argsV [.ref (h 0)] 0 rfl rfl) ?_
  intro x hx0 K hR
  have K : Kx x E D (tysOf ca) h (LaC ca h nl) RX9 cX9_still 1 5 109 := K
  rw [f_X9_still] at hf
  refine o_aload_n K 0 dX9_still_0 rfl rfl ?_
  refine gC_X9_22 K dX9_still_1 ?_
  refine o_aload_n K 0 dX9_still_4 rfl rfl ?_
  refine gC_X9_10 K dX9_still_5 ?_
  obtain ⟨r1, M2, er1, hf⟩ := bd2_e hf
  refine o_callV K [.ref (h (HB 0))] (k_X8_minutesUntilStill x.2.1 E D ca h nl M 0 hb_0 er1) s_X9_186 (ltThought) (obThought_c (ca := ca) (h := h) (fun _ => 0)) rfl rfl rfl ⟨by decide, by decide⟩ (Nat.le_of_ble_eq_true rfl) _ rfl dX9_still_8 ?_
  show Go x D (tysOf ca) h (LaC ca h nl) 1 M2 11 [some (.ref (h 0))] [.int r1]
  exact e_iret K hf hR dX9_still_11
def f_X9_birth (nl : Nat) (M : Mem) (a1 : Int32) (a2 : Int32) (a3 : Int32) : Option (Int32 × Mem) := bd (f_X9_isRoom a1) fun r1 => if r1 = 0 then (some (((-1000000001) : Int32), M)) else bd (f_X9_isWithin a2 (0 : Int32) (999 : Int32)) fun r3 => if r3 = 0 then (some (((-1000000001) : Int32), M)) else bd (f_X9_isWithin a3 (0 : Int32) (5 : Int32)) fun r5 => if r5 = 0 then (some (((-1000000001) : Int32), M)) else bd2 (f_X8_fewestToShut nl 0 M a1 a2 a3) fun r7 M8 => some (r7, M8)
set_option maxHeartbeats 4000000 in
set_option maxRecDepth 100000 in
theorem k_X9_birth (l : Launch) (E : Amd) (D : va_G) (ca : Nat → ClassId) (h : Nat → Nat) (nl : Nat) (M : Mem) (a1 : Int32) (a2 : Int32) (a3 : Int32) {r0 : Int32} {Mo : Mem} (hf : f_X9_birth nl M a1 a2 a3 = some (r0, Mo)) : Ct l E D (tysOf ca) h (LaC ca h nl) yX9_birth cX9_birth 4 (some .int) 6 139 [.ref (h 0), .int a1, .int a2, .int a3] M (some (.int r0)) Mo := by
  refine Ct.mk [some (.ref (h 0)), some (.int a1), some (.int a2), some (.int a3)] (by decide) (Nat.le_of_ble_eq_true rfl) (argsV [.ref (h 0), .int a1, .int a2, .int a3] 0 rfl rfl) ?_
  intro x hx0 K hR
  have K : Kx x E D (tysOf ca) h (LaC ca h nl) RX9 cX9_birth 4 6 139 := K
  rw [f_X9_birth] at hf
  refine o_iload_n K 1 dX9_birth_0 rfl rfl ?_
  obtain ⟨r1, er1, hf⟩ := bd_e hf
  refine o_callS K [.int a1] (k_X9_isRoom x.2.1 E D ca h nl M a1 er1) s_X9_57 rfl ⟨by decide, by decide⟩ (Nat.le_of_ble_eq_true rfl) _ rfl dX9_birth_1 ?_
  show Go x D (tysOf ca) h (LaC ca h nl) 4 M 4 [some (.ref (h 0)), some (.int a1), some (.int a2), some (.int a3)] [.int r1]
  refine o_if_eq K 27 dX9_birth_4 (by decide) (fun c2 => ?_) (fun c2 => ?_)
  · have hf := ip c2 hf
    refine o_ldc K q330 dX9_birth_27 ?_
    exact e_iret K hf hR dX9_birth_29
  · have hf := im c2 hf
    refine o_iload_n K 2 dX9_birth_7 rfl rfl ?_
    refine o_iconst K 0 dX9_birth_8 (by decide) ?_
    refine o_sipush K 999 dX9_birth_9 (by decide) ?_
    obtain ⟨r3, er3, hf⟩ := bd_e hf
    refine o_callS K [.int a2, .int 0, .int 999] (k_X9_isWithin x.2.1 E D ca h nl M a2 (0 : Int32) (999 : Int32) er3) s_X9_60 rfl ⟨by decide, by decide⟩ (Nat.le_of_ble_eq_true rfl) _ rfl dX9_birth_12 ?_
    show Go x D (tysOf ca) h (LaC ca h nl) 4 M 15 [some (.ref (h 0)), some (.int a1), some (.int a2), some (.int a3)] [.int r3]
    refine o_if_eq K 27 dX9_birth_15 (by decide) (fun c4 => ?_) (fun c4 => ?_)
    · have hf := ip c4 hf
      refine o_ldc K q330 dX9_birth_27 ?_
      exact e_iret K hf hR dX9_birth_29
    · have hf := im c4 hf
      refine o_iload_n K 3 dX9_birth_18 rfl rfl ?_
      refine o_iconst K 0 dX9_birth_19 (by decide) ?_
      refine o_iconst K 5 dX9_birth_20 (by decide) ?_
      obtain ⟨r5, er5, hf⟩ := bd_e hf
      refine o_callS K [.int a3, .int 0, .int 5] (k_X9_isWithin x.2.1 E D ca h nl M a3 (0 : Int32) (5 : Int32) er5) s_X9_60 rfl ⟨by decide, by decide⟩ (Nat.le_of_ble_eq_true rfl) _ rfl dX9_birth_21 ?_
      show Go x D (tysOf ca) h (LaC ca h nl) 4 M 24 [some (.ref (h 0)), some (.int a1), some (.int a2), some (.int a3)] [.int r5]
      refine o_if_ne K 30 dX9_birth_24 (by decide) (fun c6 => ?_) (fun c6 => ?_)
      · have hf := im c6 hf
        refine o_aload_n K 0 dX9_birth_30 rfl rfl ?_
        refine gC_X9_22 K dX9_birth_31 ?_
        refine o_aload_n K 0 dX9_birth_34 rfl rfl ?_
        refine gC_X9_10 K dX9_birth_35 ?_
        refine o_iload_n K 1 dX9_birth_38 rfl rfl ?_
        refine o_iload_n K 2 dX9_birth_39 rfl rfl ?_
        refine o_iload_n K 3 dX9_birth_40 rfl rfl ?_
        obtain ⟨r7, M8, er7, hf⟩ := bd2_e hf
        refine o_callV K [.ref (h (HB 0)), .int a1, .int a2, .int a3] (k_X8_fewestToShut x.2.1 E D ca h nl M 0 a1 a2 a3 hb_0 er7) s_X9_190 (ltThought) (obThought_c (ca := ca) (h := h) (fun _ => 0)) rfl rfl rfl ⟨by decide, by decide⟩ (Nat.le_of_ble_eq_true rfl) _ rfl dX9_birth_41 ?_
        show Go x D (tysOf ca) h (LaC ca h nl) 4 M8 44 [some (.ref (h 0)), some (.int a1), some (.int a2), some (.int a3)] [.int r7]
        exact e_iret K hf hR dX9_birth_44
      · have hf := ip c6 hf
        refine o_ldc K q330 dX9_birth_27 ?_
        exact e_iret K hf hR dX9_birth_29
def f_X9_smells (nl : Nat) (M : Mem) (a1 : Int32) (a2 : Int32) : Option (Int32 × Mem) := bd (f_X9_isRoom a1) fun r1 => if r1 = 0 then (some (((-1000000001) : Int32), M)) else bd (f_X9_isWithin a2 (0 : Int32) (60 : Int32)) fun r3 => if r3 = 0 then (some (((-1000000001) : Int32), M)) else bd2 (f_X8_roomsThatSmell nl 0 M a1 a2) fun r5 M6 => some (r5, M6)
set_option maxHeartbeats 4000000 in
set_option maxRecDepth 100000 in
theorem k_X9_smells (l : Launch) (E : Amd) (D : va_G) (ca : Nat → ClassId) (h : Nat → Nat) (nl : Nat) (M : Mem) (a1 : Int32) (a2 : Int32) {r0 : Int32} {Mo : Mem} (hf : f_X9_smells nl M a1 a2 = some (r0, Mo)) : Ct l E D (tysOf ca) h (LaC ca h nl) yX9_smells cX9_smells 3 (some .int) 5 112 [.ref (h 0), .int a1, .int a2] M (some (.int r0)) Mo := by
  refine Ct.mk [some (.ref (h 0)), some (.int a1), some (.int a2)] (by decide) (Nat.le_of_ble_eq_true rfl) (argsV [.ref (h 0), .int a1, .int a2] 0 rfl rfl) ?_
  intro x hx0 K hR
  have K : Kx x E D (tysOf ca) h (LaC ca h nl) RX9 cX9_smells 3 5 112 := K
  rw [f_X9_smells] at hf
  refine o_iload_n K 1 dX9_smells_0 rfl rfl ?_
  obtain ⟨r1, er1, hf⟩ := bd_e hf
  refine o_callS K [.int a1] (k_X9_isRoom x.2.1 E D ca h nl M a1 er1) s_X9_57 rfl ⟨by decide, by decide⟩ (Nat.le_of_ble_eq_true rfl) _ rfl dX9_smells_1 ?_
  show Go x D (tysOf ca) h (LaC ca h nl) 3 M 4 [some (.ref (h 0)), some (.int a1), some (.int a2)] [.int r1]
  refine o_if_eq K 17 dX9_smells_4 (by decide) (fun c2 => ?_) (fun c2 => ?_)
  · have hf := ip c2 hf
    refine o_ldc K q330 dX9_smells_17 ?_
    exact e_iret K hf hR dX9_smells_19
  · have hf := im c2 hf
    refine o_iload_n K 2 dX9_smells_7 rfl rfl ?_
    refine o_iconst K 0 dX9_smells_8 (by decide) ?_
    refine o_bipush K 60 dX9_smells_9 (by decide) ?_
    obtain ⟨r3, er3, hf⟩ := bd_e hf
    refine o_callS K [.int a2, .int 0, .int 60] (k_X9_isWithin x.2.1 E D ca h nl M a2 (0 : Int32) (60 : Int32) er3) s_X9_60 rfl ⟨by decide, by decide⟩ (Nat.le_of_ble_eq_true rfl) _ rfl dX9_smells_11 ?_
    show Go x D (tysOf ca) h (LaC ca h nl) 3 M 14 [some (.ref (h 0)), some (.int a1), some (.int a2)] [.int r3]
    refine o_if_ne K 20 dX9_smells_14 (by decide) (fun c4 => ?_) (fun c4 => ?_)
    · have hf := im c4 hf
      refine o_aload_n K 0 dX9_smells_20 rfl rfl ?_
      refine gC_X9_22 K dX9_smells_21 ?_
      refine o_aload_n K 0 dX9_smells_24 rfl rfl ?_
      refine gC_X9_10 K dX9_smells_25 ?_
      refine o_iload_n K 1 dX9_smells_28 rfl rfl ?_
      refine o_iload_n K 2 dX9_smells_29 rfl rfl ?_
      obtain ⟨r5, M6, er5, hf⟩ := bd2_e hf
      refine o_callV K [.ref (h (HB 0)), .int a1, .int a2] (k_X8_roomsThatSmell x.2.1 E D ca h nl M 0 a1 a2 hb_0 er5) s_X9_194 (ltThought) (obThought_c (ca := ca) (h := h) (fun _ => 0)) rfl rfl rfl ⟨by decide, by decide⟩ (Nat.le_of_ble_eq_true rfl) _ rfl dX9_smells_30 ?_
      show Go x D (tysOf ca) h (LaC ca h nl) 3 M6 33 [some (.ref (h 0)), some (.int a1), some (.int a2)] [.int r5]
      exact e_iret K hf hR dX9_smells_33
    · have hf := ip c4 hf
      refine o_ldc K q330 dX9_smells_17 ?_
      exact e_iret K hf hR dX9_smells_19
def f_X9_snuffs (nl : Nat) (M : Mem) (a1 : Int32) (a2 : Int32) : Option (Int32 × Mem) := bd (f_X0_has 0 M a1) fun r1 => if r1 = 0 then (some (((-1000000001) : Int32), M)) else bd (f_X9_isWithin a2 (1 : Int32) (60 : Int32)) fun r3 => if r3 = 0 then (some (((-1000000001) : Int32), M)) else bd2 (f_X8_litWith nl 0 M a1 (0 : Int32) a2) fun r5 M6 => bd2 (f_X8_litWith nl 0 M6 a1 (1 : Int32) a2) fun r7 M8 => some (r5 - r7, M8)
set_option maxHeartbeats 4000000 in
set_option maxRecDepth 100000 in
theorem k_X9_snuffs (l : Launch) (E : Amd) (D : va_G) (ca : Nat → ClassId) (h : Nat → Nat) (nl : Nat) (M : Mem) (a1 : Int32) (a2 : Int32) {r0 : Int32} {Mo : Mem} (hf : f_X9_snuffs nl M a1 a2 = some (r0, Mo)) : Ct l E D (tysOf ca) h (LaC ca h nl) yX9_snuffs cX9_snuffs 3 (some .int) 6 140 [.ref (h 0), .int a1, .int a2] M (some (.int r0)) Mo := by
  refine Ct.mk [some (.ref (h 0)), some (.int a1), some (.int a2)] (by decide) (Nat.le_of_ble_eq_true rfl) (argsV [.ref (h 0), .int a1, .int a2] 0 rfl rfl) ?_
  intro x hx0 K hR
  have K : Kx x E D (tysOf ca) h (LaC ca h nl) RX9 cX9_snuffs 3 6 140 := K
  rw [f_X9_snuffs] at hf
  refine o_aload_n K 0 dX9_snuffs_0 rfl rfl ?_
  refine gC_X9_10 K dX9_snuffs_1 ?_
  refine gC_X9_67 hb_0 K dX9_snuffs_4 ?_
  refine o_iload_n K 1 dX9_snuffs_7 rfl rfl ?_
  obtain ⟨r1, er1, hf⟩ := bd_e hf
  refine o_callV K [.int a1] (k_X0_has x.2.1 E D ca h nl M 0 a1 hb_0 er1) s_X9_80 (ltDoors hb_0) (obDoors_c (ca := ca) (h := h) hb_0 _) rfl rfl rfl ⟨by decide, by decide⟩ (Nat.le_of_ble_eq_true rfl) _ rfl dX9_snuffs_8 ?_
  show Go x D (tysOf ca) h (LaC ca h nl) 3 M 11 [some (.ref (h 0)), some (.int a1), some (.int a2)] [.int r1]
  refine o_if_eq K 24 dX9_snuffs_11 (by decide) (fun c2 => ?_) (fun c2 => ?_)
  · have hf := ip c2 hf
    refine o_ldc K q330 dX9_snuffs_24 ?_
    exact e_iret K hf hR dX9_snuffs_26
  · have hf := im c2 hf
    refine o_iload_n K 2 dX9_snuffs_14 rfl rfl ?_
    refine o_iconst K 1 dX9_snuffs_15 (by decide) ?_
    refine o_bipush K 60 dX9_snuffs_16 (by decide) ?_
    obtain ⟨r3, er3, hf⟩ := bd_e hf
    refine o_callS K [.int a2, .int 1, .int 60] (k_X9_isWithin x.2.1 E D ca h nl M a2 (1 : Int32) (60 : Int32) er3) s_X9_60 rfl ⟨by decide, by decide⟩ (Nat.le_of_ble_eq_true rfl) _ rfl dX9_snuffs_18 ?_
    show Go x D (tysOf ca) h (LaC ca h nl) 3 M 21 [some (.ref (h 0)), some (.int a1), some (.int a2)] [.int r3]
    refine o_if_ne K 27 dX9_snuffs_21 (by decide) (fun c4 => ?_) (fun c4 => ?_)
    · have hf := im c4 hf
      refine o_aload_n K 0 dX9_snuffs_27 rfl rfl ?_
      refine gC_X9_22 K dX9_snuffs_28 ?_
      refine o_aload_n K 0 dX9_snuffs_31 rfl rfl ?_
      refine gC_X9_10 K dX9_snuffs_32 ?_
      refine o_iload_n K 1 dX9_snuffs_35 rfl rfl ?_
      refine o_iconst K 0 dX9_snuffs_36 (by decide) ?_
      refine o_iload_n K 2 dX9_snuffs_37 rfl rfl ?_
      obtain ⟨r5, M6, er5, hf⟩ := bd2_e hf
      refine o_callV K [.ref (h (HB 0)), .int a1, .int 0, .int a2] (k_X8_litWith x.2.1 E D ca h nl M 0 a1 (0 : Int32) a2 hb_0 er5) s_X9_198 (ltThought) (obThought_c (ca := ca) (h := h) (fun _ => 0)) rfl rfl rfl ⟨by decide, by decide⟩ (Nat.le_of_ble_eq_true rfl) _ rfl dX9_snuffs_38 ?_
      show Go x D (tysOf ca) h (LaC ca h nl) 3 M6 41 [some (.ref (h 0)), some (.int a1), some (.int a2)] [.int r5]
      refine o_aload_n K 0 dX9_snuffs_41 rfl rfl ?_
      refine gC_X9_22 K dX9_snuffs_42 ?_
      refine o_aload_n K 0 dX9_snuffs_45 rfl rfl ?_
      refine gC_X9_10 K dX9_snuffs_46 ?_
      refine o_iload_n K 1 dX9_snuffs_49 rfl rfl ?_
      refine o_iconst K 1 dX9_snuffs_50 (by decide) ?_
      refine o_iload_n K 2 dX9_snuffs_51 rfl rfl ?_
      obtain ⟨r7, M8, er7, hf⟩ := bd2_e hf
      refine o_callV K [.ref (h (HB 0)), .int a1, .int 1, .int a2] (k_X8_litWith x.2.1 E D ca h nl M6 0 a1 (1 : Int32) a2 hb_0 er7) s_X9_198 (ltThought) (obThought_c (ca := ca) (h := h) (fun _ => 0)) rfl rfl rfl ⟨by decide, by decide⟩ (Nat.le_of_ble_eq_true rfl) _ rfl dX9_snuffs_52 ?_
      show Go x D (tysOf ca) h (LaC ca h nl) 3 M8 55 [some (.ref (h 0)), some (.int a1), some (.int a2)] [.int r7, .int r5]
      refine o_isub K dX9_snuffs_55 ?_
      exact e_iret K hf hR dX9_snuffs_56
    · have hf := ip c4 hf
      refine o_ldc K q330 dX9_snuffs_24 ?_
      exact e_iret K hf hR dX9_snuffs_26
