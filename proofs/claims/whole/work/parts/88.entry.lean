/-! THE ENTRY: what the start gives -/
theorem t_mem {w : Cond} (i : Nat) (h : tables_1[i]? = some w) : w ∈ lw_tbl := List.mem_append_right _ (List.mem_of_getElem? h)
section
variable {s : State} {args : Array Value}
theorem arr_p (ty : FieldType) (hns : ∀ C, ty ≠ .object C) (h : (Cond.arrayClass ty).before args s = true) : ∃ cA : ClassId, ArrOfT s cA ty ∧ va_RA s cA ty := by
  obtain ⟨c, k, comp, h1, h2, h3⟩ := Cond.arrayClass_spec (args := args) (first := s) (o := none) (s := s) (idx := []) h
  refine ⟨c, fun n z => ⟨fun k h => (by cases h), k, h2, comp, h3⟩, ?_⟩
  cases ty <;> first | exact h1 | exact absurd rfl (hns _)
theorem arr_o (C : String) (h : (Cond.arrayOver (.object C)).before args s = true) : ∃ cA : ClassId, ArrOfT s cA (.object C) ∧ va_RA s cA (.object C) := by
  obtain ⟨comp, c, k, h1, h2, h3, h4, h5⟩ := Cond.arrayOver_spec (args := args) (first := s) (o := none) (s := s) (idx := []) h
  exact ⟨c, fun n z => ⟨fun k h => (by cases h), k, h3, comp, h4⟩, k, comp, h3, h4, h1, h5⟩
theorem k_entry (hts : ∀ w ∈ lw_tbl, w.before args s = true) : ∃ (D : va_G) (ca : Nat → ClassId), va_K D vwCl (tysOf ca) s := by
  have hTB : ∀ w ∈ TB, w.before args s = true := fun w hw => hts w (TB_sub w hw)
  obtain ⟨d0, e0, k0⟩ := u_known hTB i_X0 (hts (.instantiable RX0 6) (t_mem 36 (by decide +kernel)))
  obtain ⟨d1, e1, k1⟩ := u_known hTB i_X1 (hts (.instantiable RX1 12) (t_mem 30 (by decide +kernel)))
  obtain ⟨d2, e2, k2⟩ := u_known hTB i_X3 (hts (.instantiable RX3 3) (t_mem 835 (by decide +kernel)))
  obtain ⟨d3, e3, k3⟩ := u_known hTB i_X4 (hts (.instantiable RX4 10) (t_mem 204 (by decide +kernel)))
  obtain ⟨d4, e4, k4⟩ := u_known hTB i_X5 (hts (.instantiable RX5 5) (t_mem 76 (by decide +kernel)))
  obtain ⟨d5, e5, k5⟩ := u_known hTB i_X6 (hts (.instantiable RX6 3) (t_mem 246 (by decide +kernel)))
  obtain ⟨d6, e6, k6⟩ := u_known hTB i_X7 (hts (.instantiable RX7 5) (t_mem 265 (by decide +kernel)))
  obtain ⟨d7, e7, k7⟩ := u_known hTB i_X8 (hts (.instantiable RX8 1) (t_mem 192 (by decide +kernel)))
  obtain ⟨d8, e8, k8⟩ := u_known hTB i_X9 (hts (.instantiable RX9 9) (t_mem 22 (by decide +kernel)))
  obtain ⟨d9, e9, k9⟩ := u_known hTB i_X10 (hts (.instantiable RX10 37) (t_mem 973 (by decide +kernel)))
  obtain ⟨a0, b0⟩ := arr_p .int (fun C h => by cases h) (hts _ (t_mem 74 (by decide +kernel)))
  obtain ⟨a1, b1⟩ := arr_p .byte (fun C h => by cases h) (hts _ (t_mem 241 (by decide +kernel)))
  obtain ⟨a2, b2⟩ := arr_p .char (fun C h => by cases h) (hts _ (t_mem 1090 (by decide +kernel)))
  obtain ⟨a3, b3⟩ := arr_p .boolean (fun C h => by cases h) (hts _ (t_mem 1091 (by decide +kernel)))
  obtain ⟨a4, b4⟩ := arr_o "OneDraught$Law" (hts _ (t_mem 83 (by decide +kernel)))
  obtain ⟨a5, b5⟩ := arr_o "OneDraught$Sheet" (hts _ (t_mem 243 (by decide +kernel)))
  obtain ⟨a6, b6⟩ := arr_o "OneDraught$Slot" (hts _ (t_mem 245 (by decide +kernel)))
  refine ⟨(fun c => match c with | 0 => d0 | 1 => d1 | 2 => d2 | 3 => d3 | 4 => d4 | 5 => d5 | 6 => d6 | 7 => d7 | 8 => d8 | _ => d9, fun c => match c with | 0 => e0 | 1 => e1 | 2 => e2 | 3 => e3 | 4 => e4 | 5 => e5 | 6 => e6 | 7 => e7 | 8 => e8 | _ => e9), fun k => match k with | 0 => a0 | 1 => a1 | 2 => a2 | 3 => a3 | 4 => a4 | 5 => a5 | _ => a6, fun c q hq => ?_, fun k q hq => ?_⟩
  · match c, hq with
    | 0, hq => cases hq; exact k0
    | 1, hq => cases hq; exact k1
    | 2, hq => cases hq; exact k2
    | 3, hq => cases hq; exact k3
    | 4, hq => cases hq; exact k4
    | 5, hq => cases hq; exact k5
    | 6, hq => cases hq; exact k6
    | 7, hq => cases hq; exact k7
    | 8, hq => cases hq; exact k8
    | 9, hq => cases hq; exact k9
    | n + 10, hq => cases hq
  · match k, hq with
    | 0, hq => cases hq; exact b0
    | 1, hq => cases hq; exact b1
    | 2, hq => cases hq; exact b2
    | 3, hq => cases hq; exact b3
    | 4, hq => cases hq; exact b4
    | 5, hq => cases hq; exact b5
    | 6, hq => cases hq; exact b6
    | n + 7, hq => cases hq
theorem ao_entry (hts : ∀ w ∈ lw_tbl, w.before args s = true) : AO3 s := ⟨va_AO.of (hts _ (t_mem 83 (by decide +kernel))), va_AO.of (hts _ (t_mem 243 (by decide +kernel))), va_AO.of (hts _ (t_mem 245 (by decide +kernel)))⟩
end
def tmS (i : Nat) : Term := .string RX4 (poolS.getD i (0, "")).1
abbrev vS (i : Nat) : Term := .field (tmS i) "java/lang/String" "value" "[B"
abbrev gvn : Cond := Jvm.Cond.and given_1 narrow_1
theorem m_ex : ∀ i, i < 17 → Cond.exactly (tmS i) "java/lang/String" ∈ flatC gvn := by decide +kernel
theorem m_co : ∀ i, i < 17 → Cond.eq (.field (tmS i) "java/lang/String" "coder" "B") (.int 0) ∈ flatC gvn := by decide +kernel
theorem m_ar : ∀ i, i < 17 → Cond.arrayOf (vS i) .byte ∈ flatC gvn := by decide +kernel
theorem m_le : ∀ i, i < 17 → Cond.eq (.length (vS i)) (.int (Int32.ofNat (lenS.getD i 0))) ∈ flatC gvn := by decide +kernel
theorem m_el : ∀ i, i < 17 → ∀ j, j < lenS.getD i 0 → Cond.eq (.elem (vS i) (.int (Int32.ofNat j))) (.int ((bytS.getD i []).getD j 0)) ∈ flatC gvn := by decide +kernel
def neP : List (Nat × Nat) := [(0, 1), (0, 2), (1, 2), (0, 3), (1, 3), (2, 3), (0, 4), (1, 4), (2, 4), (3, 4), (0, 5), (1, 5), (2, 5), (3, 5), (4, 5), (0, 6), (1, 6), (2, 6), (3, 6), (4, 6), (5, 6), (0, 7), (1, 7), (2, 7), (3, 7), (4, 7), (5, 7), (6, 7), (0, 8), (1, 8), (2, 8), (3, 8), (4, 8), (5, 8), (6, 8), (7, 8), (0, 9), (1, 9), (2, 9), (3, 9), (4, 9), (5, 9), (6, 9), (7, 9), (8, 9), (0, 10), (1, 10), (2, 10), (3, 10), (4, 10), (5, 10), (6, 10), (7, 10), (8, 10), (9, 10), (0, 11), (1, 11), (2, 11), (3, 11), (4, 11), (5, 11), (6, 11), (7, 11), (8, 11), (9, 11), (10, 11), (0, 12), (1, 12), (2, 12), (3, 12), (4, 12), (5, 12), (6, 12), (7, 12), (8, 12), (9, 12), (10, 12), (11, 12), (0, 13), (1, 13), (2, 13), (3, 13), (4, 13), (5, 13), (6, 13), (7, 13), (8, 13), (9, 13), (10, 13), (11, 13), (12, 13), (0, 14), (1, 14), (2, 14), (3, 14), (4, 14), (5, 14), (6, 14), (7, 14), (8, 14), (9, 14), (10, 14), (11, 14), (12, 14), (13, 14), (0, 15), (1, 15), (2, 15), (3, 15), (4, 15), (5, 15), (6, 15), (7, 15), (8, 15), (9, 15), (10, 15), (11, 15), (12, 15), (13, 15), (14, 15), (0, 16), (1, 16), (2, 16), (3, 16), (4, 16), (5, 16), (6, 16), (7, 16), (8, 16), (9, 16), (10, 16), (11, 16), (12, 16), (13, 16), (14, 16), (15, 16)]
def isNeS : Cond → Bool := fun c => match c with
  | .not (.eq (.string _ _) (.string _ _)) => true
  | _ => false
theorem m_ne0 : (flatC gvn).filter isNeS = neP.map (fun p => Cond.not (Cond.eq (tmS p.1) (tmS p.2))) := by decide +kernel
theorem m_ne3 : ∀ i, i < 17 → ∀ j, j < 17 → (decide (i = j) || (decide ((i, j) ∈ neP) || decide ((j, i) ∈ neP))) = true := by decide +kernel
theorem m_ne1 (i : Nat) (hi : i < 17) (j : Nat) (hj : j < 17) (hij : i ≠ j) : (i, j) ∈ neP ∨ (j, i) ∈ neP := by
  have h := m_ne3 i hi j hj
  rw [Bool.or_eq_true, Bool.or_eq_true, decide_eq_true_eq, decide_eq_true_eq, decide_eq_true_eq] at h
  rcases h with h | h
  · exact absurd h hij
  · exact h
theorem m_ne2 {i j : Nat} (h : (i, j) ∈ neP) : Cond.not (Cond.eq (tmS i) (tmS j)) ∈ flatC gvn := by
  have h1 : Cond.not (Cond.eq (tmS i) (tmS j)) ∈ neP.map (fun p => Cond.not (Cond.eq (tmS p.1) (tmS p.2))) := List.mem_map.mpr ⟨(i, j), h, rfl⟩
  rw [← m_ne0] at h1
  exact (List.mem_filter.mp h1).1
theorem m_ne : ∀ i, i < 17 → ∀ j, j < 17 → i ≠ j → Cond.not (Cond.eq (tmS i) (tmS j)) ∈ flatC gvn ∨ Cond.not (Cond.eq (tmS j) (tmS i)) ∈ flatC gvn := fun i hi j hj hij => (m_ne1 i hi j hj hij).imp m_ne2 m_ne2
theorem m_rf : ∀ i, i < 17 → Cond.stringRef RX4 (poolS.getD i (0, "")).1 (poolS.getD i (0, "")).2 ∈ tables_1 := by decide +kernel
abbrev tmA : Term := .static RX2 "ABOVE" "[I"
theorem m_aa : Cond.arrayOf tmA .int ∈ flatC gvn := by decide +kernel
theorem m_al : Cond.eq (.length tmA) (.int (Int32.ofNat 6)) ∈ flatC gvn := by decide +kernel
theorem m_ae : ∀ j, j < 6 → Cond.eq (.elem tmA (.int (Int32.ofNat j))) (.int (aboveV j)) ∈ flatC gvn := by decide +kernel
theorem m_cs : Cond.eq (.static RJ0 "COMPACT_STRINGS" "Z") (.int 1) ∈ flatC gvn := by decide +kernel
theorem m_si : Cond.isRef (.static RJ3 "SIOOBE_FORMATTER" "Ljava/util/function/BiFunction;") ∈ flatC gvn := by decide +kernel
theorem m_ns : ∀ q ∈ nestL, Cond.methodLinkNest q.1 q.2.1 q.2.2.1 q.2.2.2 ∈ tables_1 := by decide +kernel
theorem amb_entry {s : State} {b : Nat} (hts : ∀ w ∈ lw_tbl, w.before #[Value.ref b] s = true) (hgv : gvn.before #[Value.ref b] s = true) : ∃ E : Amd, Amb E (fun q => s.heap.size ≤ q) s s.heap := by
  have hs := flat_of_before _ hgv
  have hA : ∀ a : Nat, a < s.heap.size → ¬ (fun q => s.heap.size ≤ q) a := fun a h1 h2 => Nat.not_le.mpr h1 h2
  obtain ⟨adK, adV, hS, hev⟩ := vk_Sof (args := #[Value.ref b]) (s := s) (N := 17) (tm := tmS) (len := lenS) (byt := bytS) (A := fun q => s.heap.size ≤ q) (by decide +kernel) (fun i hi => hs _ (m_ex i hi)) (fun i hi => hs _ (m_co i hi)) (fun i hi => hs _ (m_ar i hi)) (fun i hi => hs _ (m_le i hi)) (fun i hi j hj => hs _ (m_el i hi j hj)) (fun i j hi hj hij => (m_ne i hi j hj hij).imp (fun h => hs _ h) (fun h => hs _ h)) hA
  obtain ⟨t, ht, hT⟩ := va_Tof (args := #[Value.ref b]) (s := s) (tm := tmA) (ty := .int) (N := 6) (f := fun j => .int (aboveV j)) (A := fun q => s.heap.size ≤ q) (by decide) (hs _ m_aa) (va_eqt (hs _ m_al)) (fun j hj => va_eqt (hs _ (m_ae j hj))) hA
  refine ⟨(adK, adV, t), hS, fun i q hq => ?_, va_Zof (hts _ (t_mem 373 (by decide +kernel))) (hts _ (t_mem 7 (by decide +kernel))) ht hA, hT, va_Zof (hts _ (t_mem 681 (by decide +kernel))) (hts _ (t_mem 16 (by decide +kernel))) (va_eqt (hs _ m_cs)) hA, va_Zqof (hts _ (t_mem 697 (by decide +kernel))) (hts _ (t_mem 18 (by decide +kernel))) (hs _ m_si) hA, fun q hq => va_Nw.of rfl (hts _ (List.mem_append_right _ (m_ns q hq)))⟩
  have hi : i < 17 := (List.getElem?_eq_some_iff.mp hq).1
  have e : poolS.getD i (0, "") = q := by rw [List.getD_eq_getElem?_getD, hq]; rfl
  have h1 := m_rf i hi
  have h2 := hev i hi
  unfold tmS at h2
  rw [e] at h1 h2
  exact vk_R.of (hts _ (List.mem_append_right _ h1)) h2
