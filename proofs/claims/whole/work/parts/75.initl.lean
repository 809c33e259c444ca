/-! CONSTRUCTORS, 1: the few methods that constructors call, over any layout in which a Laws object stands whole (written by wip/gen/winit.py) -/
def LwOK (ca : Nat → ClassId) (h : Nat → Nat) (L : Lay) (b : Nat) : Prop := ∀ j, 6 ≤ j → j ≤ 10 → HB b + j < L.1 ∧ ∀ row, L.2 (HB b + j) row = hallC ca h (HB b) j row
theorem LwOK.lt {ca : Nat → ClassId} {h : Nat → Nat} {L : Lay} {b : Nat} (H : LwOK ca h L b) (j : Nat) (h1 : 6 ≤ j) (h2 : j ≤ 10) : HB b + j < L.1 := (H j h1 h2).1
theorem obLaws_l {ca : Nat → ClassId} {h : Nat → Nat} {L : Lay} {b : Nat} (H : LwOK ca h L b) (row : Nat → Int32) : L.2 (HB b + 6) row = .inr (4, obLaws h (HB b) row) := (H 6 (by decide) (by decide)).2 row
theorem gL_X5_16 {x : En} {E : Amd} {D : va_G} {ca : Nat → ClassId} {h : Nat → Nat} {L : Lay} {cc : ByteArray} {nL fr lo : Nat} {M : Mem} {pc : Nat} {V : List (Option Value)} {rest : List Value} {b : Nat} (hb : LwOK ca h L b) (K : Kx x E D (tysOf ca) h L RX5 cc nL fr lo) (hd : decode cc pc = .ok (.getfield 16, 3)) (kk : Go x D (tysOf ca) h L nL M (pc + 3) V (.ref (h (HB b + 7)) :: rest)) : Go x D (tysOf ca) h L nL M (pc) V (.ref (h (HB b + 6)) :: rest) := o_get K 1 (hb.lt 6 (by decide) (by decide)) (obLaws_l hb _) rfl (by decide) i_X5 q121 rfl rfl hd kk
theorem gL_X5_22 {x : En} {E : Amd} {D : va_G} {ca : Nat → ClassId} {h : Nat → Nat} {L : Lay} {cc : ByteArray} {nL fr lo : Nat} {M : Mem} {pc : Nat} {V : List (Option Value)} {rest : List Value} {b : Nat} (hb : LwOK ca h L b) (K : Kx x E D (tysOf ca) h L RX5 cc nL fr lo) (hd : decode cc pc = .ok (.getfield 22, 3)) (kk : Go x D (tysOf ca) h L nL M (pc + 3) V (.ref (h (HB b + 8)) :: rest)) : Go x D (tysOf ca) h L nL M (pc) V (.ref (h (HB b + 6)) :: rest) := o_get K 2 (hb.lt 6 (by decide) (by decide)) (obLaws_l hb _) rfl (by decide) i_X5 q123 rfl rfl hd kk
theorem gL_X5_26 {x : En} {E : Amd} {D : va_G} {ca : Nat → ClassId} {h : Nat → Nat} {L : Lay} {cc : ByteArray} {nL fr lo : Nat} {M : Mem} {pc : Nat} {V : List (Option Value)} {rest : List Value} {b : Nat} (hb : LwOK ca h L b) (K : Kx x E D (tysOf ca) h L RX5 cc nL fr lo) (hd : decode cc pc = .ok (.getfield 26, 3)) (kk : Go x D (tysOf ca) h L nL M (pc + 3) V (.ref (h (HB b + 9)) :: rest)) : Go x D (tysOf ca) h L nL M (pc) V (.ref (h (HB b + 6)) :: rest) := o_get K 3 (hb.lt 6 (by decide) (by decide)) (obLaws_l hb _) rfl (by decide) i_X5 q124 rfl rfl hd kk
theorem gL_X5_29 {x : En} {E : Amd} {D : va_G} {ca : Nat → ClassId} {h : Nat → Nat} {L : Lay} {cc : ByteArray} {nL fr lo : Nat} {M : Mem} {pc : Nat} {V : List (Option Value)} {rest : List Value} {b : Nat} (hb : LwOK ca h L b) (K : Kx x E D (tysOf ca) h L RX5 cc nL fr lo) (hd : decode cc pc = .ok (.getfield 29, 3)) (kk : Go x D (tysOf ca) h L nL M (pc + 3) V (.ref (h (HB b + 10)) :: rest)) : Go x D (tysOf ca) h L nL M (pc) V (.ref (h (HB b + 6)) :: rest) := o_get K 4 (hb.lt 6 (by decide) (by decide)) (obLaws_l hb _) rfl (by decide) i_X5 q125 rfl rfl hd kk
theorem gL_X5_35 {x : En} {E : Amd} {D : va_G} {ca : Nat → ClassId} {h : Nat → Nat} {L : Lay} {cc : ByteArray} {nL fr lo : Nat} {M : Mem} {pc : Nat} {V : List (Option Value)} {rest : List Value} {b : Nat} (hb : LwOK ca h L b) (K : Kx x E D (tysOf ca) h L RX5 cc nL fr lo) (hd : decode cc pc = .ok (.getfield 35, 3)) (kk : Go x D (tysOf ca) h L nL M (pc + 3) V (.int (M (HB b + 6) 0) :: rest)) : Go x D (tysOf ca) h L nL M (pc) V (.ref (h (HB b + 6)) :: rest) := o_get K 0 (hb.lt 6 (by decide) (by decide)) (obLaws_l hb _) rfl (by decide) i_X5 q119 rfl rfl hd kk
theorem lLh {x : En} {E : Amd} {D : va_G} {ca : Nat → ClassId} {h : Nat → Nat} {L : Lay} {own : String} {cc : ByteArray} {nL fr lo : Nat} {M : Mem} {pc : Nat} {V : List (Option Value)} {rest : List Value} {b : Nat} (hb : LwOK ca h L b) (j n : Nat) (hj : 6 ≤ j ∧ j ≤ 10) (hc : ∀ row, hallC ca h (HB b) j row = .inl (ca 0, n, .inl row)) (K : Kx x E D (tysOf ca) h L own cc nL fr lo) {i : Int32} (hin : ib i n = true) (hd : decode cc pc = .ok (.iaload, 1)) (kk : Go x D (tysOf ca) h L nL M (pc + 1) V (.int (M (HB b + j) (ix i)) :: rest)) : Go x D (tysOf ca) h L nL M (pc) V (.int i :: .ref (h (HB b + j)) :: rest) := o_intld K 0 (hb j hj.1 hj.2).1 (((hb j hj.1 hj.2).2 _).trans (hc _)) rfl hin hd kk
theorem sLh {x : En} {E : Amd} {D : va_G} {ca : Nat → ClassId} {h : Nat → Nat} {L : Lay} {own : String} {cc : ByteArray} {nL fr lo : Nat} {M : Mem} {pc : Nat} {V : List (Option Value)} {rest : List Value} {b : Nat} (hb : LwOK ca h L b) (j n : Nat) (hj : 6 ≤ j ∧ j ≤ 10) (hc : ∀ row, hallC ca h (HB b) j row = .inl (ca 0, n, .inl row)) (K : Kx x E D (tysOf ca) h L own cc nL fr lo) {i v : Int32} (hin : ib i n = true) (hd : decode cc pc = .ok (.iastore, 1)) (kk : Go x D (tysOf ca) h L nL (sto M (HB b + j) (ix i) v) (pc + 1) V (rest)) : Go x D (tysOf ca) h L nL M (pc) V (.int v :: .int i :: .ref (h (HB b + j)) :: rest) := o_intst K 0 (upd (M (HB b + j)) (ix i) v) (hb j hj.1 hj.2).1 (((hb j hj.1 hj.2).2 _).trans (hc _)) rfl (((hb j hj.1 hj.2).2 _).trans (hc _)) hin hd kk
theorem sL_any {x : En} {E : Amd} {D : va_G} {ca : Nat → ClassId} {h : Nat → Nat} {L : Lay} {own : String} {cc : ByteArray} {nL fr lo : Nat} {M : Mem} {pc : Nat} {V : List (Option Value)} {rest : List Value} (K : Kx x E D (tysOf ca) h L own cc nL fr lo) {k n : Nat} {i v : Int32} (hk : k < L.1) (hc : ∀ row, L.2 k row = .inl (ca 0, n, .inl row)) (hin : ib i n = true) (hd : decode cc pc = .ok (.iastore, 1)) (kk : Go x D (tysOf ca) h L nL (sto M k (ix i) v) (pc + 1) V (rest)) : Go x D (tysOf ca) h L nL M (pc) V (.int v :: .int i :: .ref (h k) :: rest) := o_intst K 0 (upd (M k) (ix i) v) hk (hc _) rfl (hc _) hin hd kk
theorem aLawsL {x : En} {E : Amd} {D : va_G} {ca : Nat → ClassId} {h : Nat → Nat} {L : Lay} {own : String} {cc : ByteArray} {nL fr lo : Nat} {M : Mem} {pc : Nat} {V : List (Option Value)} {rest : List Value} {b : Nat} (hb : LwOK ca h L b) (K : Kx x E D (tysOf ca) h L own cc nL fr lo) {i v : Int32} (hin : ib i 14 = true) (e : M (HB b + 8) (ix i) = v) (hd : decode cc pc = .ok (.aaload, 1)) (kk : Go x D (tysOf ca) h L nL M (pc + 1) V (va_rf (lawAd h v) :: rest)) : Go x D (tysOf ca) h L nL M (pc) V (.int i :: .ref (h (HB b + 8)) :: rest) := by
  subst e
  exact o_aald K (f := fun i => lawAd h (M (HB b + 8) i)) 4 (hb.lt 8 (by decide) (by decide)) ((hb 8 (by decide) (by decide)).2 _) rfl hin hd kk
theorem oL_unull {x : En} {D : va_G} {ca : Nat → ClassId} {h : Nat → Nat} {L : Lay} {nL : Nat} {M : Mem} {pc : Nat} {V : List (Option Value)} {rest : List Value} {v : Int32} (e : v = 0) (kk : Go x D (tysOf ca) h L nL M (pc) V (.null :: rest)) : Go x D (tysOf ca) h L nL M (pc) V (va_rf (lawAd h v) :: rest) := by
  rw [lawAd, if_pos e]
  exact kk
theorem lL_nret {x : En} {E : Amd} {D : va_G} {ca : Nat → ClassId} {h : Nat → Nat} {L : Lay} {own : String} {cc : ByteArray} {nL fr lo : Nat} {M : Mem} {pc : Nat} {V : List (Option Value)} (K : Kx x E D (tysOf ca) h L own cc nL fr lo) {r : Int32} (hf : some (0 : Int32) = some r) (hR : Rt x D h L (some (.object "OneDraught$Law")) (some (va_rf (lawAd h r))) M) (hd : decode cc pc = .ok (.areturn, 1)) : Go x D (tysOf ca) h L nL M (pc) V ([.null]) := by
  cases hf
  exact o_aret K (Or.inl ⟨_, rfl⟩) (Or.inl rfl) hR hd

set_option maxHeartbeats 4000000 in
set_option maxRecDepth 100000 in
theorem kL_X9_isWithin (l : Launch) (E : Amd) (D : va_G) (ca : Nat → ClassId) (h : Nat → Nat) (L : Lay) (M : Mem) (a1 : Int32) (a2 : Int32) (a3 : Int32) {r0 : Int32} (hf : f_X9_isWithin a1 a2 a3 = some r0) : Ct l E D (tysOf ca) h L yX9_isWithin cX9_isWithin 3 (some .boolean) 0 0 [.int a1, .int a2, .int a3] M (some (.int r0)) M := by
  refine Ct.mk [some (.int a1), some (.int a2), some (.int a3)] (by decide) (Nat.le_of_ble_eq_true rfl) (argsV [.int a1, .int a2, .int a3] 0 rfl rfl) ?_
  intro x hx0 K hR
  have K : Kx x E D (tysOf ca) h L RX9 cX9_isWithin 3 0 0 := K
  rw [f_X9_isWithin] at hf
  refine o_iload_n K 0 dX9_isWithin_0 rfl rfl ?_
  refine o_iload_n K 1 dX9_isWithin_1 rfl rfl ?_
  refine o_icmp_lt K 14 dX9_isWithin_2 (by decide) (fun c1 => ?_) (fun c1 => ?_)
  · have hf := ip c1 hf
    refine o_iconst K 0 dX9_isWithin_14 (by decide) ?_
    exact r_zret K hf hR (by decide) dX9_isWithin_15
  · have hf := im c1 hf
    refine o_iload_n K 0 dX9_isWithin_5 rfl rfl ?_
    refine o_iload_n K 2 dX9_isWithin_6 rfl rfl ?_
    refine o_icmp_gt K 14 dX9_isWithin_7 (by decide) (fun c2 => ?_) (fun c2 => ?_)
    · have hf := ip c2 hf
      refine o_iconst K 0 dX9_isWithin_14 (by decide) ?_
      exact r_zret K hf hR (by decide) dX9_isWithin_15
    · have hf := im c2 hf
      refine o_iconst K 1 dX9_isWithin_10 (by decide) ?_
      refine o_goto K 15 dX9_isWithin_11 (by decide) ?_
      exact r_zret K hf hR (by decide) dX9_isWithin_15
set_option maxHeartbeats 4000000 in
set_option maxRecDepth 100000 in
theorem kL_X9_heldWithin (l : Launch) (E : Amd) (D : va_G) (ca : Nat → ClassId) (h : Nat → Nat) (L : Lay) (M : Mem) (a1 : Int32) (a2 : Int32) (a3 : Int32) {r0 : Int32} (hf : f_X9_heldWithin a1 a2 a3 = some r0) : Ct l E D (tysOf ca) h L yX9_heldWithin cX9_heldWithin 3 (some .int) 1 27 [.int a1, .int a2, .int a3] M (some (.int r0)) M := by
  refine Ct.mk [some (.int a1), some (.int a2), some (.int a3)] (by decide) (Nat.le_of_ble_eq_true rfl) (argsV [.int a1, .int a2, .int a3] 0 rfl rfl) ?_
  intro x hx0 K hR
  have K : Kx x E D (tysOf ca) h L RX9 cX9_heldWithin 3 1 27 := K
  rw [f_X9_heldWithin] at hf
  refine o_iload_n K 1 dX9_heldWithin_0 rfl rfl ?_
  refine o_iload_n K 2 dX9_heldWithin_1 rfl rfl ?_
  refine o_iload_n K 0 dX9_heldWithin_2 rfl rfl ?_
  refine o_mmin K q109 q110 q6 q111 ⟨by decide, by decide⟩ (Nat.le_of_ble_eq_true rfl) dX9_heldWithin_3 ?_
  refine o_mmax K q112 q113 q6 q114 ⟨by decide, by decide⟩ (Nat.le_of_ble_eq_true rfl) dX9_heldWithin_6 ?_
  exact r_iret K hf hR dX9_heldWithin_9
set_option maxHeartbeats 4000000 in
set_option maxRecDepth 100000 in
theorem kL_X2_letsOf (l : Launch) (E : Amd) (D : va_G) (ca : Nat → ClassId) (h : Nat → Nat) (L : Lay) (M : Mem) (a1 : Int32) (a2 : Int32) (a3 : Int32) (a4 : Int32) {r0 : Int32} (hf : f_X2_letsOf a1 a2 a3 a4 = some r0) : Ct l E D (tysOf ca) h L yX2_letsOf cX2_letsOf 6 (some .int) 1 27 [.int a1, .int a2, .int a3, .int a4] M (some (.int r0)) M := by
  refine Ct.mk [some (.int a1), some (.int a2), some (.int a3), some (.int a4), none, none] (by decide) (Nat.le_of_ble_eq_true rfl) (argsV [.int a1, .int a2, .int a3, .int a4] 2 rfl rfl) ?_
  intro x hx0 K hR
  have K : Kx x E D (tysOf ca) h L RX2 cX2_letsOf 6 1 27 := K
  rw [f_X2_letsOf] at hf
  refine o_iload_n K 1 dX2_letsOf_0 rfl rfl ?_
  refine o_iconst K 2 dX2_letsOf_1 (by decide) ?_
  refine o_idiv K dX2_letsOf_2 (by decide) ?_
  obtain ⟨x1, ex1, hf⟩ := nm_o hf
  refine o_nmi ex1 ?_
  refine o_istore K 4 [some (.int a1), some (.int a2), some (.int a3), some (.int a4), some (.int x1), none] dX2_letsOf_3 (by decide) rfl rfl ?_
  refine o_iload_n K 1 dX2_letsOf_5 rfl rfl ?_
  refine o_iconst K 3 dX2_letsOf_6 (by decide) ?_
  refine o_iadd K dX2_letsOf_7 ?_
  obtain ⟨x2, ex2, hf⟩ := nm_o hf
  refine o_nmi ex2 ?_
  refine o_istore K 5 [some (.int a1), some (.int a2), some (.int a3), some (.int a4), some (.int x1), some (.int x2)] dX2_letsOf_8 (by decide) rfl rfl ?_
  refine o_iload_n K 0 dX2_letsOf_10 rfl rfl ?_
  by_cases c3 : a1 = 1
  · have hf := ip c3 hf
    refine o_table K 44 dX2_letsOf_11 (by decide) (by rw [c3]; try decide) (by decide) ?_
    refine o_iload K 4 dX2_letsOf_44 rfl ?_
    exact r_iret K hf hR dX2_letsOf_46
  have hf := im c3 hf
  by_cases c4 : a1 = 2
  · have hf := ip c4 hf
    refine o_table K 58 dX2_letsOf_11 (by decide) (by rw [c4]; try decide) (by decide) ?_
    refine o_iload K 5 dX2_letsOf_58 rfl ?_
    exact r_iret K hf hR dX2_letsOf_60
  have hf := im c4 hf
  by_cases c5 : a1 = 3
  · have hf := ip c5 hf
    refine o_table K 47 dX2_letsOf_11 (by decide) (by rw [c5]; try decide) (by decide) ?_
    refine o_iload_n K 3 dX2_letsOf_47 rfl rfl ?_
    refine o_if_eq K 56 dX2_letsOf_48 (by decide) (fun c6 => ?_) (fun c6 => ?_)
    · have hf := ip c6 hf
      refine o_iconst K 0 dX2_letsOf_56 (by decide) ?_
      exact r_iret K hf hR dX2_letsOf_57
    · have hf := im c6 hf
      refine o_iload K 4 dX2_letsOf_51 rfl ?_
      refine o_goto K 57 dX2_letsOf_53 (by decide) ?_
      exact r_iret K hf hR dX2_letsOf_57
  have hf := im c5 hf
  by_cases c7 : a1 = 4
  · have hf := ip c7 hf
    refine o_table K 61 dX2_letsOf_11 (by decide) (by rw [c7]; try decide) (by decide) ?_
    refine o_bipush K 10 dX2_letsOf_61 (by decide) ?_
    refine o_iload K 5 dX2_letsOf_63 rfl ?_
    refine o_mmin K q118 q110 q6 q111 ⟨by decide, by decide⟩ (Nat.le_of_ble_eq_true rfl) dX2_letsOf_65 ?_
    exact r_iret K hf hR dX2_letsOf_68
  have hf := im c7 hf
  by_cases c8 : a1 = 5
  · have hf := ip c8 hf
    refine o_table K 69 dX2_letsOf_11 (by decide) (by rw [c8]; try decide) (by decide) ?_
    refine o_iload_n K 2 dX2_letsOf_69 rfl rfl ?_
    exact r_iret K hf hR dX2_letsOf_70
  have hf := im c8 hf
  refine o_table K 71 dX2_letsOf_11 (by decide) (tsel_d [1, 2, 3, 4, 5] (List.forall_mem_cons.mpr ⟨lv_neT c3 rfl, (List.forall_mem_cons.mpr ⟨lv_neT c4 rfl, (List.forall_mem_cons.mpr ⟨lv_neT c5 rfl, (List.forall_mem_cons.mpr ⟨lv_neT c7 rfl, (List.forall_mem_cons.mpr ⟨lv_neT c8 rfl, (List.forall_mem_nil _)⟩)⟩)⟩)⟩)⟩) (by decide)) (by decide) ?_
  refine o_iload_n K 1 dX2_letsOf_71 rfl rfl ?_
  exact r_iret K hf hR dX2_letsOf_72
set_option maxHeartbeats 4000000 in
set_option maxRecDepth 100000 in
theorem kL_X5_lawAt (l : Launch) (E : Amd) (D : va_G) (ca : Nat → ClassId) (h : Nat → Nat) (L : Lay) (M : Mem) (b : Nat) (a1 : Int32) {r0 : Int32} (hb : LwOK ca h L b) (hf : f_X5_lawAt 0 b M a1 = some r0) : Ct l E D (tysOf ca) h L yX5_lawAt cX5_lawAt 2 (some (.object "OneDraught$Law")) 1 22 [.ref (h (HB b + 6)), .int a1] M (some (va_rf (lawAd h r0))) M := by
  refine Ct.mk [some (.ref (h (HB b + 6))), some (.int a1)] (by decide) (Nat.le_of_ble_eq_true rfl) (argsV [.ref (h (HB b + 6)), .int a1] 0 rfl rfl) ?_
  intro x hx0 K hR
  have K : Kx x E D (tysOf ca) h L RX5 cX5_lawAt 2 1 22 := K
  rw [f_X5_lawAt] at hf
  refine o_iload_n K 1 dX5_lawAt_0 rfl rfl ?_
  refine o_iconst K 0 dX5_lawAt_1 (by decide) ?_
  refine o_aload_n K 0 dX5_lawAt_2 rfl rfl ?_
  refine gL_X5_35 hb K dX5_lawAt_3 ?_
  refine o_iconst K 1 dX5_lawAt_6 (by decide) ?_
  refine o_isub K dX5_lawAt_7 ?_
  obtain ⟨r1, er1, hf⟩ := bd_e hf
  refine o_callSN K [.int a1, .int 0, .int ((M (HB b + 6) 0) - 1)] (kL_X9_isWithin x.2.1 E D ca h L M a1 (0 : Int32) ((M (HB b + 6) 0) - 1) er1) s_X5_48 rfl ⟨by decide, by decide⟩ (Nat.le_of_ble_eq_true rfl) _ rfl dX5_lawAt_8 ?_
  show Go x D (tysOf ca) h L 2 M 11 [some (.ref (h (HB b + 6))), some (.int a1)] [.int r1]
  refine o_if_eq K 23 dX5_lawAt_11 (by decide) (fun c2 => ?_) (fun c2 => ?_)
  · have hf := ip c2 hf
    refine o_null K dX5_lawAt_23 ?_
    exact lL_nret K hf hR dX5_lawAt_24
  · have hf := im c2 hf
    refine o_aload_n K 0 dX5_lawAt_14 rfl rfl ?_
    refine gL_X5_22 hb K dX5_lawAt_15 ?_
    refine o_iload_n K 1 dX5_lawAt_18 rfl rfl ?_
    obtain ⟨g3, x4, ex4, hf⟩ := rd_e hf
    refine aLawsL hb K g3 ex4 dX5_lawAt_19 ?_
    by_cases c5 : x4 = 0
    · have hf := ip c5 hf
      refine oL_unull c5 ?_
      refine o_goto K 24 dX5_lawAt_20 (by decide) ?_
      exact lL_nret K hf hR dX5_lawAt_24
    have hf := im c5 hf
    obtain ⟨g6, hf⟩ := gd_e hf
    obtain ⟨c7, ec7, hf⟩ := nm_o hf
    have hc7 := lok_e g6 ec7
    exact absurd hc7 (by omega)
set_option maxHeartbeats 4000000 in
set_option maxRecDepth 100000 in
theorem kL_X5_valueOf (l : Launch) (E : Amd) (D : va_G) (ca : Nat → ClassId) (h : Nat → Nat) (L : Lay) (M : Mem) (b : Nat) (a1 : Int32) (a2 : Int32) (a3 : Int32) (a4 : Int32) {r0 : Int32} {Mo : Mem} (hb : LwOK ca h L b) (hf : f_X5_valueOf 0 b M a1 a2 a3 a4 = some (r0, Mo)) : Ct l E D (tysOf ca) h L yX5_valueOf cX5_valueOf 6 (some .int) 2 48 [.ref (h (HB b + 6)), .int a1, .int a2, .int a3, .int a4] M (some (.int r0)) Mo := by
  refine Ct.mk [some (.ref (h (HB b + 6))), some (.int a1), some (.int a2), some (.int a3), some (.int a4), none] (by decide) (Nat.le_of_ble_eq_true rfl) (argsV [.ref (h (HB b + 6)), .int a1, .int a2, .int a3, .int a4] 1 rfl rfl) ?_
  intro x hx0 K hR
  have K : Kx x E D (tysOf ca) h L RX5 cX5_valueOf 6 2 48 := K
  rw [f_X5_valueOf] at hf
  refine o_aload_n K 0 dX5_valueOf_0 rfl rfl ?_
  refine o_aload_n K 0 dX5_valueOf_1 rfl rfl ?_
  refine gL_X5_16 hb K dX5_valueOf_2 ?_
  refine o_iload_n K 1 dX5_valueOf_5 rfl rfl ?_
  obtain ⟨g2, x1, ex1, hf⟩ := rd_e hf
  refine lLh hb 7 3 (by decide) (fun _ => rfl) K g2 dX5_valueOf_6 ?_
  refine o_nmi ex1 ?_
  obtain ⟨r3, er3, hf⟩ := bd_e hf
  refine o_callV K [.int x1] (kL_X5_lawAt x.2.1 E D ca h L M b x1 hb er3) s_X5_52 (hb.lt 6 (by decide) (by decide)) (obLaws_l hb _) rfl rfl rfl ⟨by decide, by decide⟩ (Nat.le_of_ble_eq_true rfl) _ rfl dX5_valueOf_7 ?_
  show Go x D (tysOf ca) h L 6 M 10 [some (.ref (h (HB b + 6))), some (.int a1), some (.int a2), some (.int a3), some (.int a4), none] [va_rf (lawAd h r3)]
  by_cases c4 : r3 = 0
  · have hf := ip c4 hf
    refine oL_unull c4 ?_
    refine o_astoreN K 5 [some (.ref (h (HB b + 6))), some (.int a1), some (.int a2), some (.int a3), some (.int a4), some (.null)] dX5_valueOf_10 (by decide) rfl rfl ?_
    refine o_aloadN K 5 dX5_valueOf_12 rfl ?_
    refine o_ifnonnullN K dX5_valueOf_14 ?_
    refine o_iload K 4 dX5_valueOf_17 rfl ?_
    refine o_goto K 33 dX5_valueOf_19 (by decide) ?_
    exact e_iret K hf hR dX5_valueOf_33
  have hf := im c4 hf
  obtain ⟨g5, hf⟩ := gd_e hf
  obtain ⟨c6, ec6, hf⟩ := nm_o hf
  have hc6 := lok_e g5 ec6
  exact absurd hc6 (by omega)
set_option maxHeartbeats 4000000 in
set_option maxRecDepth 100000 in
theorem tL_X5_workOutLets_j74 {x : En} {E : Amd} {D : va_G} {ca : Nat → ClassId} {h : Nat → Nat} {L : Lay} {b : Nat} (K : Kx x E D (tysOf ca) h L RX5 cX5_workOutLets 5 3 73) {Mo : Mem} (hR : Rt x D h L none none Mo) (hb : LwOK ca h L b) {rec2 : Int32 → Mem → Option Mem} {rec10 : Int32 → Int32 → Mem → Option Mem} {rec38 : Int32 → Int32 → Int32 → Int32 → Mem → Option Mem} (ih2 : ∀ (w0 : Int32) (M : Mem), rec2 w0 M = some Mo → Go x D (tysOf ca) h L 5 M 2 [some (.ref (h (HB b + 6))), some (.int w0), none, none, none] []) (ih10 : ∀ (w0 : Int32) (w1 : Int32) (M : Mem), rec10 w0 w1 M = some Mo → Go x D (tysOf ca) h L 5 M 10 [some (.ref (h (HB b + 6))), some (.int w0), some (.int w1), none, none] []) (ih38 : ∀ (w0 : Int32) (w1 : Int32) (w2 : Int32) (w3 : Int32) (M : Mem), rec38 w0 w1 w2 w3 M = some Mo → Go x D (tysOf ca) h L 5 M 38 [some (.ref (h (HB b + 6))), some (.int w0), some (.int w1), some (.int w2), some (.int w3)] []) (a0 : Int32) (a1 : Int32) (a2 : Int32) (a3 : Int32) (a4 : Int32) (a5 : Int32) (a6 : Int32) (a7 : Int32) (a8 : Int32) (M : Mem) (hf : f_X5_workOutLets_j74 0 b rec2 rec10 rec38 a0 a1 a2 a3 a4 a5 a6 a7 a8 M = some Mo) : Go x D (tysOf ca) h L 5 M 74 [some (.ref (h (HB b + 6))), some (.int a0), some (.int a1), some (.int a2), some (.int a3)] [.int a4, .int a5, .int a6, .int a7, .int a8, .ref (h (HB b + 9))] := by
  rw [f_X5_workOutLets_j74] at hf
  obtain ⟨r10, er10, hf⟩ := bd_e hf
  refine o_callS K [.int a7, .int a6, .int a5, .int a4] (kL_X2_letsOf x.2.1 E D ca h L M a7 a6 a5 a4 er10) s_X5_68 rfl ⟨by decide, by decide⟩ (Nat.le_of_ble_eq_true rfl) _ rfl dX5_workOutLets_74 ?_
  show Go x D (tysOf ca) h L 5 M 77 [some (.ref (h (HB b + 6))), some (.int a0), some (.int a1), some (.int a2), some (.int a3)] [.int r10, .int a8, .ref (h (HB b + 9))]
  obtain ⟨g11, M12, eM12, hf⟩ := wr_e hf
  refine sLh hb 9 120 (by decide) (fun _ => rfl) K g11 dX5_workOutLets_77 ?_
  refine o_nmM eM12 ?_
  obtain ⟨x13, ex13, hf⟩ := nm_o hf
  refine o_iinc K 4 x13 [some (.ref (h (HB b + 6))), some (.int a0), some (.int a1), some (.int a2), some (.int x13)] dX5_workOutLets_78 rfl (inc_e (by decide) ex13) (by decide) rfl rfl ?_
  refine o_goto K 38 dX5_workOutLets_81 (by decide) ?_
  exact ih38 a0 a1 a2 x13 M12 hf
set_option maxHeartbeats 4000000 in
set_option maxRecDepth 100000 in
theorem tL_X5_workOutLets_l38 {x : En} {E : Amd} {D : va_G} {ca : Nat → ClassId} {h : Nat → Nat} {L : Lay} {b : Nat} (K : Kx x E D (tysOf ca) h L RX5 cX5_workOutLets 5 3 73) {Mo : Mem} (hR : Rt x D h L none none Mo) (hb : LwOK ca h L b) {rec2 : Int32 → Mem → Option Mem} {rec10 : Int32 → Int32 → Mem → Option Mem} (ih2 : ∀ (w0 : Int32) (M : Mem), rec2 w0 M = some Mo → Go x D (tysOf ca) h L 5 M 2 [some (.ref (h (HB b + 6))), some (.int w0), none, none, none] []) (ih10 : ∀ (w0 : Int32) (w1 : Int32) (M : Mem), rec10 w0 w1 M = some Mo → Go x D (tysOf ca) h L 5 M 10 [some (.ref (h (HB b + 6))), some (.int w0), some (.int w1), none, none] []) : ∀ (n : Nat) (a0 : Int32) (a1 : Int32) (a2 : Int32) (a3 : Int32) (M : Mem), f_X5_workOutLets_l38 0 b rec2 rec10 n a0 a1 a2 a3 M = some Mo → Go x D (tysOf ca) h L 5 M 38 [some (.ref (h (HB b + 6))), some (.int a0), some (.int a1), some (.int a2), some (.int a3)] [] := by
  intro n
  induction n with
  | zero =>
    intro a0 a1 a2 a3 M hf
    cases hf
  | succ n ih =>
    intro a0 a1 a2 a3 M hf
    rw [f_X5_workOutLets_l38] at hf
    refine o_iload K 4 dX5_workOutLets_38 rfl ?_
    refine o_bipush K 6 dX5_workOutLets_40 (by decide) ?_
    refine o_icmp_ge K 84 dX5_workOutLets_42 (by decide) (fun c7 => ?_) (fun c7 => ?_)
    · have hf := ip c7 hf
      obtain ⟨x8, ex8, hf⟩ := nm_o hf
      refine o_iinc K 2 x8 [some (.ref (h (HB b + 6))), some (.int a0), some (.int x8), some (.int a2), some (.int a3)] dX5_workOutLets_84 rfl (inc_e (by decide) ex8) (by decide) rfl rfl ?_
      refine o_goto K 10 dX5_workOutLets_87 (by decide) ?_
      refine o_drop [true, true, true, false, false] (V2 := [some (.ref (h (HB b + 6))), some (.int a0), some (.int x8), none, none]) rfl ?_
      exact ih10 a0 x8 M hf
    · have hf := im c7 hf
      refine o_aload_n K 0 dX5_workOutLets_45 rfl rfl ?_
      refine gL_X5_26 hb K dX5_workOutLets_46 ?_
      refine o_iload K 4 dX5_workOutLets_49 rfl ?_
      refine o_bipush K 10 dX5_workOutLets_51 (by decide) ?_
      refine o_imul K dX5_workOutLets_53 ?_
      refine o_iload_n K 1 dX5_workOutLets_54 rfl rfl ?_
      refine o_iadd K dX5_workOutLets_55 ?_
      refine o_iconst K 2 dX5_workOutLets_56 (by decide) ?_
      refine o_imul K dX5_workOutLets_57 ?_
      refine o_iload_n K 2 dX5_workOutLets_58 rfl rfl ?_
      refine o_iadd K dX5_workOutLets_59 ?_
      refine o_iload K 4 dX5_workOutLets_60 rfl ?_
      refine o_iload_n K 3 dX5_workOutLets_62 rfl rfl ?_
      refine o_iload_n K 1 dX5_workOutLets_63 rfl rfl ?_
      refine o_iload_n K 2 dX5_workOutLets_64 rfl rfl ?_
      refine o_iconst K 1 dX5_workOutLets_65 (by decide) ?_
      refine o_icmp_ne K 73 dX5_workOutLets_66 (by decide) (fun c9 => ?_) (fun c9 => ?_)
      · have hf := im c9 hf
        refine o_iconst K 0 dX5_workOutLets_73 (by decide) ?_
        exact tL_X5_workOutLets_j74 K hR hb ih2 ih10 ih a0 a1 a2 a3 (0 : Int32) a0 a2 a3 ((((a3 * 10) + a0) * 2) + a1) M hf
      · have hf := ip c9 hf
        refine o_iconst K 1 dX5_workOutLets_69 (by decide) ?_
        refine o_goto K 74 dX5_workOutLets_70 (by decide) ?_
        exact tL_X5_workOutLets_j74 K hR hb ih2 ih10 ih a0 a1 a2 a3 (1 : Int32) a0 a2 a3 ((((a3 * 10) + a0) * 2) + a1) M hf
set_option maxHeartbeats 4000000 in
set_option maxRecDepth 100000 in
theorem tL_X5_workOutLets_l10 {x : En} {E : Amd} {D : va_G} {ca : Nat → ClassId} {h : Nat → Nat} {L : Lay} {b : Nat} (K : Kx x E D (tysOf ca) h L RX5 cX5_workOutLets 5 3 73) {Mo : Mem} (hR : Rt x D h L none none Mo) (hb : LwOK ca h L b) {rec2 : Int32 → Mem → Option Mem} (ih2 : ∀ (w0 : Int32) (M : Mem), rec2 w0 M = some Mo → Go x D (tysOf ca) h L 5 M 2 [some (.ref (h (HB b + 6))), some (.int w0), none, none, none] []) : ∀ (n : Nat) (a0 : Int32) (a1 : Int32) (M : Mem), f_X5_workOutLets_l10 0 b rec2 n a0 a1 M = some Mo → Go x D (tysOf ca) h L 5 M 10 [some (.ref (h (HB b + 6))), some (.int a0), some (.int a1), none, none] [] := by
  intro n
  induction n with
  | zero =>
    intro a0 a1 M hf
    cases hf
  | succ n ih =>
    intro a0 a1 M hf
    rw [f_X5_workOutLets_l10] at hf
    refine o_iload_n K 2 dX5_workOutLets_10 rfl rfl ?_
    refine o_iconst K 1 dX5_workOutLets_11 (by decide) ?_
    refine o_icmp_gt K 90 dX5_workOutLets_12 (by decide) (fun c2 => ?_) (fun c2 => ?_)
    · have hf := ip c2 hf
      obtain ⟨x3, ex3, hf⟩ := nm_o hf
      refine o_iinc K 1 x3 [some (.ref (h (HB b + 6))), some (.int x3), some (.int a1), none, none] dX5_workOutLets_90 rfl (inc_e (by decide) ex3) (by decide) rfl rfl ?_
      refine o_goto K 2 dX5_workOutLets_93 (by decide) ?_
      refine o_drop [true, true, false, false, false] (V2 := [some (.ref (h (HB b + 6))), some (.int x3), none, none, none]) rfl ?_
      exact ih2 x3 M hf
    · have hf := im c2 hf
      refine o_aload_n K 0 dX5_workOutLets_15 rfl rfl ?_
      refine o_iconst K 0 dX5_workOutLets_16 (by decide) ?_
      refine o_iload_n K 1 dX5_workOutLets_17 rfl rfl ?_
      refine o_iload_n K 2 dX5_workOutLets_18 rfl rfl ?_
      refine o_bipush K 6 dX5_workOutLets_19 (by decide) ?_
      refine o_iload_n K 1 dX5_workOutLets_21 rfl rfl ?_
      refine o_imul K dX5_workOutLets_22 ?_
      refine o_iload_n K 2 dX5_workOutLets_23 rfl rfl ?_
      refine o_imul K dX5_workOutLets_24 ?_
      obtain ⟨r4, M5, er4, hf⟩ := bd2_e hf
      refine o_callV K [.int 0, .int a0, .int a1, .int (((6 : Int32) * a0) * a1)] (kL_X5_valueOf x.2.1 E D ca h L M b (0 : Int32) a0 a1 (((6 : Int32) * a0) * a1) hb er4) s_X5_60 (hb.lt 6 (by decide) (by decide)) (obLaws_l hb _) rfl rfl rfl ⟨by decide, by decide⟩ (Nat.le_of_ble_eq_true rfl) _ rfl dX5_workOutLets_25 ?_
      show Go x D (tysOf ca) h L 5 M5 28 [some (.ref (h (HB b + 6))), some (.int a0), some (.int a1), none, none] [.int r4]
      refine o_iconst K 0 dX5_workOutLets_28 (by decide) ?_
      refine o_bipush K 60 dX5_workOutLets_29 (by decide) ?_
      obtain ⟨r6, er6, hf⟩ := bd_e hf
      refine o_callSN K [.int r4, .int 0, .int 60] (kL_X9_heldWithin x.2.1 E D ca h L M5 r4 (0 : Int32) (60 : Int32) er6) s_X5_64 rfl ⟨by decide, by decide⟩ (Nat.le_of_ble_eq_true rfl) _ rfl dX5_workOutLets_31 ?_
      show Go x D (tysOf ca) h L 5 M5 34 [some (.ref (h (HB b + 6))), some (.int a0), some (.int a1), none, none] [.int r6]
      refine o_istore_n K 3 [some (.ref (h (HB b + 6))), some (.int a0), some (.int a1), some (.int r6), none] dX5_workOutLets_34 rfl (by decide) rfl rfl ?_
      refine o_iconst K 0 dX5_workOutLets_35 (by decide) ?_
      refine o_istore K 4 [some (.ref (h (HB b + 6))), some (.int a0), some (.int a1), some (.int r6), some (.int 0)] dX5_workOutLets_36 (by decide) rfl rfl ?_
      exact tL_X5_workOutLets_l38 K hR hb ih2 ih FU a0 a1 r6 (0 : Int32) M5 hf
set_option maxHeartbeats 4000000 in
set_option maxRecDepth 100000 in
theorem tL_X5_workOutLets_l2 {x : En} {E : Amd} {D : va_G} {ca : Nat → ClassId} {h : Nat → Nat} {L : Lay} {b : Nat} (K : Kx x E D (tysOf ca) h L RX5 cX5_workOutLets 5 3 73) {Mo : Mem} (hR : Rt x D h L none none Mo) (hb : LwOK ca h L b) : ∀ (n : Nat) (a0 : Int32) (M : Mem), f_X5_workOutLets_l2 0 b n a0 M = some Mo → Go x D (tysOf ca) h L 5 M 2 [some (.ref (h (HB b + 6))), some (.int a0), none, none, none] [] := by
  intro n
  induction n with
  | zero =>
    intro a0 M hf
    cases hf
  | succ n ih =>
    intro a0 M hf
    rw [f_X5_workOutLets_l2] at hf
    refine o_iload_n K 1 dX5_workOutLets_2 rfl rfl ?_
    refine o_bipush K 10 dX5_workOutLets_3 (by decide) ?_
    refine o_icmp_ge K 96 dX5_workOutLets_5 (by decide) (fun c1 => ?_) (fun c1 => ?_)
    · have hf := ip c1 hf
      exact e_vret K hf hR dX5_workOutLets_96
    · have hf := im c1 hf
      refine o_iconst K 0 dX5_workOutLets_8 (by decide) ?_
      refine o_istore_n K 2 [some (.ref (h (HB b + 6))), some (.int a0), some (.int 0), none, none] dX5_workOutLets_9 rfl (by decide) rfl rfl ?_
      exact tL_X5_workOutLets_l10 K hR hb ih FU a0 (0 : Int32) M hf
set_option maxHeartbeats 4000000 in
set_option maxRecDepth 100000 in
theorem kL_X5_workOutLets (l : Launch) (E : Amd) (D : va_G) (ca : Nat → ClassId) (h : Nat → Nat) (L : Lay) (M : Mem) (b : Nat) {Mo : Mem} (hb : LwOK ca h L b) (hf : f_X5_workOutLets 0 b M = some Mo) : Ct l E D (tysOf ca) h L yX5_workOutLets cX5_workOutLets 5 none 3 73 [.ref (h (HB b + 6))] M none Mo := by
  refine Ct.mk [some (.ref (h (HB b + 6))), none, none, none, none] (by decide) (Nat.le_of_ble_eq_true rfl) (argsV [.ref (h (HB b + 6))] 4 rfl rfl) ?_
  intro x hx0 K hR
  have K : Kx x E D (tysOf ca) h L RX5 cX5_workOutLets 5 3 73 := K
  rw [f_X5_workOutLets] at hf
  refine o_iconst K 1 dX5_workOutLets_0 (by decide) ?_
  refine o_istore_n K 1 [some (.ref (h (HB b + 6))), some (.int 1), none, none, none] dX5_workOutLets_1 rfl (by decide) rfl rfl ?_
  exact tL_X5_workOutLets_l2 K hR hb FU (1 : Int32) M hf
set_option maxHeartbeats 4000000 in
set_option maxRecDepth 100000 in
theorem tL_J7_fill_53178_l5 {x : En} {E : Amd} {D : va_G} {ca : Nat → ClassId} {h : Nat → Nat} {L : Lay} {k1 : Nat} {n1 : Nat} (K : Kx x E D (tysOf ca) h L RJ7 cJ7_fill_53178 4 0 0) {Mo : Mem} (hR : Rt x D h L none none Mo) (hk1 : k1 < L.1) (hc1 : ∀ row, L.2 k1 row = .inl (ca 0, n1, .inl row)) : ∀ (n : Nat) (a0 : Int32) (a1 : Int32) (a2 : Int32) (M : Mem), f_J7_fill_53178_l5 k1 n1 n a0 a1 a2 M = some Mo → Go x D (tysOf ca) h L 4 M 5 [some (.ref (h k1)), some (.int a0), some (.int a1), some (.int a2)] [] := by
  intro n
  induction n with
  | zero =>
    intro a0 a1 a2 M hf
    cases hf
  | succ n ih =>
    intro a0 a1 a2 M hf
    rw [f_J7_fill_53178_l5] at hf
    refine o_iload_n K 2 dJ7_fill_53178_5 rfl rfl ?_
    refine o_iload_n K 3 dJ7_fill_53178_6 rfl rfl ?_
    refine o_icmp_ge K 20 dJ7_fill_53178_7 (by decide) (fun c2 => ?_) (fun c2 => ?_)
    · have hf := ip c2 hf
      exact e_vret K hf hR dJ7_fill_53178_20
    · have hf := im c2 hf
      refine o_aload_n K 0 dJ7_fill_53178_10 rfl rfl ?_
      refine o_iload_n K 2 dJ7_fill_53178_11 rfl rfl ?_
      refine o_iload_n K 1 dJ7_fill_53178_12 rfl rfl ?_
      obtain ⟨g3, M4, eM4, hf⟩ := wr_e hf
      refine sL_any K hk1 hc1 g3 dJ7_fill_53178_13 ?_
      refine o_nmM eM4 ?_
      obtain ⟨x5, ex5, hf⟩ := nm_o hf
      refine o_iinc K 2 x5 [some (.ref (h k1)), some (.int a0), some (.int x5), some (.int a2)] dJ7_fill_53178_14 rfl (inc_e (by decide) ex5) (by decide) rfl rfl ?_
      refine o_goto K 5 dJ7_fill_53178_17 (by decide) ?_
      exact ih a0 x5 a2 M4 hf
set_option maxHeartbeats 4000000 in
set_option maxRecDepth 100000 in
theorem kL_J7_fill_53178 (l : Launch) (E : Amd) (D : va_G) (ca : Nat → ClassId) (h : Nat → Nat) (L : Lay) (M : Mem) (k1 : Nat) (n1 : Nat) (a2 : Int32) {Mo : Mem} (hk1 : k1 < L.1) (hc1 : ∀ row, L.2 k1 row = .inl (ca 0, n1, .inl row)) (hf : f_J7_fill_53178 k1 n1 M a2 = some Mo) : Ct l E D (tysOf ca) h L yJ7_fill_53178 cJ7_fill_53178 4 none 0 0 [.ref (h k1), .int a2] M none Mo := by
  refine Ct.mk [some (.ref (h k1)), some (.int a2), none, none] (by decide) (Nat.le_of_ble_eq_true rfl) (argsV [.ref (h k1), .int a2] 2 rfl rfl) ?_
  intro x hx0 K hR
  have K : Kx x E D (tysOf ca) h L RJ7 cJ7_fill_53178 4 0 0 := K
  rw [f_J7_fill_53178] at hf
  refine o_iconst K 0 dJ7_fill_53178_0 (by decide) ?_
  refine o_istore_n K 2 [some (.ref (h k1)), some (.int a2), some (.int 0), none] dJ7_fill_53178_1 rfl (by decide) rfl rfl ?_
  refine o_aload_n K 0 dJ7_fill_53178_2 rfl rfl ?_
  refine o_alen K (y := (n1, .inl (M k1))) 0 (Int32.ofNat n1) hk1 (hc1 _) rfl rfl dJ7_fill_53178_3 ?_
  obtain ⟨x1, ex1, hf⟩ := nm_o hf
  refine o_nmi ex1 ?_
  refine o_istore_n K 3 [some (.ref (h k1)), some (.int a2), some (.int 0), some (.int x1)] dJ7_fill_53178_4 rfl (by decide) rfl rfl ?_
  exact tL_J7_fill_53178_l5 K hR hk1 hc1 FU a2 (0 : Int32) x1 M hf
