/-! CONSTRUCTORS, 4 (written by wip/gen/wctor.py): those of Doors, Sheet, Slot, Tape, Law -/
section
variable {x : En} {E : Amd} {D : va_G} {ca : Nat → ClassId} {own host : String} {cc : ByteArray} {nL fr lo mc ms : Nat} {P Q : va_W} {nc ns : Nat} {pc : Nat} {V : List (Option Value)} {rest : List Value} {y : MethodName} {c2 : ByteArray} {nL2 n idx fr2 lo2 mc2 ms2 a : Nat} {B : Option Value → va_W → Prop}
theorem p_callI (Qf wc : va_W) (As : List Value) (hQ : Q = Qf ++ wc) (K : Kn x E D ca own cc nL fr lo mc ms) (hC : Cn x.2.1 E D ca y c2 nL2 none fr2 lo2 mc2 ms2 (.ref a :: As) wc B) (hcode : Cond.code y c2 nL2 none ∈ TB) (hini : Cond.initialized y.cls ∈ TB) (hlink : Cond.methodLink own idx y ∈ TB) (hins : Cond.instanceMethod y ∈ TB) (hy : y.name = "<init>") (hyc : y.cls ≠ "java/lang/invoke/MethodHandle" ∧ y.cls ≠ "java/lang/invoke/VarHandle" ∧ (parseMethodDescriptor y.desc).map (fun d => d.parameters.length) = some n) (hn : As.length = n) (hrm : fr2 + 1 ≤ fr ∧ 8 + (nL2 + 11) + lo2 ≤ lo) (hc : nc + mc2 ≤ mc ∧ ns + ms2 ≤ ms) (hrest : (rest.map fun v => v.category).sum ≤ 8) (st0 : List Value) (hst : st0 = As.reverse ++ .ref a :: rest) (hd : decode cc pc = .ok (.invokespecial idx, 3)) (kk : ∀ (v : Option Value) (w2 : va_W), B v w2 → Gn x D nL (P ++ (Qf ++ w2)) (nc + mc2) (ns + ms2) (pc + 3) V (v.toList ++ rest)) : Gn x D nL (P ++ Q) nc ns pc V st0 := by
  subst hQ
  rw [← List.append_assoc]
  exact n_callI (P ++ Qf) wc As K hC hcode hini hlink hins hy hyc hn hrm hc hrest st0 hst hd (fun v w2 h => by rw [List.append_assoc]; exact kk v w2 h)
theorem p_callIN (Qf wc : va_W) (As : List Value) (hQ : Q = Qf ++ wc) (K : Kn x E D ca own cc nL fr lo mc ms) (hC : Cn x.2.1 E D ca y c2 nL2 none fr2 lo2 mc2 ms2 (.ref a :: As) wc B) (hcode : Cond.code y c2 nL2 none ∈ TB) (hini : Cond.initialized y.cls ∈ TB) (hlink : (own, idx, y, host) ∈ nestL) (hins : Cond.instanceMethod y ∈ TB) (hy : y.name = "<init>") (hyc : y.cls ≠ "java/lang/invoke/MethodHandle" ∧ y.cls ≠ "java/lang/invoke/VarHandle" ∧ (parseMethodDescriptor y.desc).map (fun d => d.parameters.length) = some n) (hn : As.length = n) (hrm : fr2 + 1 ≤ fr ∧ 8 + (nL2 + 11) + lo2 ≤ lo) (hc : nc + mc2 ≤ mc ∧ ns + ms2 ≤ ms) (hrest : (rest.map fun v => v.category).sum ≤ 8) (st0 : List Value) (hst : st0 = As.reverse ++ .ref a :: rest) (hd : decode cc pc = .ok (.invokespecial idx, 3)) (kk : ∀ (v : Option Value) (w2 : va_W), B v w2 → Gn x D nL (P ++ (Qf ++ w2)) (nc + mc2) (ns + ms2) (pc + 3) V (v.toList ++ rest)) : Gn x D nL (P ++ Q) nc ns pc V st0 := by
  subst hQ
  rw [← List.append_assoc]
  exact n_callIN (P ++ Qf) wc As K hC hcode hini hlink hins hy hyc hn hrm hc hrest st0 hst hd (fun v w2 h => by rw [List.append_assoc]; exact kk v w2 h)
end
theorem dfX0 : ∀ j, j < 6 → defaultValue (tyX0 j) = vp_V [.int 0, .int 0, .null, .null, .null, .null] j := fun j hj => match j, hj with
  | 0, _ => rfl
  | 1, _ => rfl
  | 2, _ => rfl
  | 3, _ => rfl
  | 4, _ => rfl
  | 5, _ => rfl
  | n + 6, h => absurd h (by omega)
theorem hyX0 : yX0_init.cls ≠ "java/lang/invoke/MethodHandle" ∧ yX0_init.cls ≠ "java/lang/invoke/VarHandle" ∧ (parseMethodDescriptor yX0_init.desc).map (fun d => d.parameters.length) = some 0 := ⟨by decide +kernel, by decide +kernel, by decide +kernel⟩
theorem dfX1 : ∀ j, j < 12 → defaultValue (tyX1 j) = vp_V [.null, .null, .null, .null, .null, .int 0, .int 0, .int 0, .int 0, .null, .null, .null] j := fun j hj => match j, hj with
  | 0, _ => rfl
  | 1, _ => rfl
  | 2, _ => rfl
  | 3, _ => rfl
  | 4, _ => rfl
  | 5, _ => rfl
  | 6, _ => rfl
  | 7, _ => rfl
  | 8, _ => rfl
  | 9, _ => rfl
  | 10, _ => rfl
  | 11, _ => rfl
  | n + 12, h => absurd h (by omega)
theorem hyX1 : yX1_init.cls ≠ "java/lang/invoke/MethodHandle" ∧ yX1_init.cls ≠ "java/lang/invoke/VarHandle" ∧ (parseMethodDescriptor yX1_init.desc).map (fun d => d.parameters.length) = some 0 := ⟨by decide +kernel, by decide +kernel, by decide +kernel⟩
theorem dfX3 : ∀ j, j < 3 → defaultValue (tyX3 j) = vp_V [.int 0, .int 0, .null] j := fun j hj => match j, hj with
  | 0, _ => rfl
  | 1, _ => rfl
  | 2, _ => rfl
  | n + 3, h => absurd h (by omega)
theorem hyX3 : yX3_init.cls ≠ "java/lang/invoke/MethodHandle" ∧ yX3_init.cls ≠ "java/lang/invoke/VarHandle" ∧ (parseMethodDescriptor yX3_init.desc).map (fun d => d.parameters.length) = some 3 := ⟨by decide +kernel, by decide +kernel, by decide +kernel⟩
theorem dfX4 : ∀ j, j < 10 → defaultValue (tyX4 j) = vp_V [.null, .int 0, .int 0, .int 0, .int 0, .int 0, .int 0, .null, .int 0, .int 0] j := fun j hj => match j, hj with
  | 0, _ => rfl
  | 1, _ => rfl
  | 2, _ => rfl
  | 3, _ => rfl
  | 4, _ => rfl
  | 5, _ => rfl
  | 6, _ => rfl
  | 7, _ => rfl
  | 8, _ => rfl
  | 9, _ => rfl
  | n + 10, h => absurd h (by omega)
theorem hyX4 : yX4_init.cls ≠ "java/lang/invoke/MethodHandle" ∧ yX4_init.cls ≠ "java/lang/invoke/VarHandle" ∧ (parseMethodDescriptor yX4_init.desc).map (fun d => d.parameters.length) = some 0 := ⟨by decide +kernel, by decide +kernel, by decide +kernel⟩
theorem dfX5 : ∀ j, j < 5 → defaultValue (tyX5 j) = vp_V [.int 0, .null, .null, .null, .null] j := fun j hj => match j, hj with
  | 0, _ => rfl
  | 1, _ => rfl
  | 2, _ => rfl
  | 3, _ => rfl
  | 4, _ => rfl
  | n + 5, h => absurd h (by omega)
theorem hyX5 : yX5_init.cls ≠ "java/lang/invoke/MethodHandle" ∧ yX5_init.cls ≠ "java/lang/invoke/VarHandle" ∧ (parseMethodDescriptor yX5_init.desc).map (fun d => d.parameters.length) = some 0 := ⟨by decide +kernel, by decide +kernel, by decide +kernel⟩
theorem dfX6 : ∀ j, j < 3 → defaultValue (tyX6 j) = vp_V [.int 0, .int 0, .null] j := fun j hj => match j, hj with
  | 0, _ => rfl
  | 1, _ => rfl
  | 2, _ => rfl
  | n + 3, h => absurd h (by omega)
theorem hyX6 : yX6_init.cls ≠ "java/lang/invoke/MethodHandle" ∧ yX6_init.cls ≠ "java/lang/invoke/VarHandle" ∧ (parseMethodDescriptor yX6_init.desc).map (fun d => d.parameters.length) = some 0 := ⟨by decide +kernel, by decide +kernel, by decide +kernel⟩
theorem dfX7 : ∀ j, j < 5 → defaultValue (tyX7 j) = vp_V [.int 0, .int 0, .int 0, .int 0, .null] j := fun j hj => match j, hj with
  | 0, _ => rfl
  | 1, _ => rfl
  | 2, _ => rfl
  | 3, _ => rfl
  | 4, _ => rfl
  | n + 5, h => absurd h (by omega)
theorem hyX7 : yX7_init.cls ≠ "java/lang/invoke/MethodHandle" ∧ yX7_init.cls ≠ "java/lang/invoke/VarHandle" ∧ (parseMethodDescriptor yX7_init.desc).map (fun d => d.parameters.length) = some 0 := ⟨by decide +kernel, by decide +kernel, by decide +kernel⟩
theorem dfX8 : ∀ j, j < 1 → defaultValue (tyX8 j) = vp_V [.null] j := fun j hj => match j, hj with
  | 0, _ => rfl
  | n + 1, h => absurd h (by omega)
theorem hyX8 : yX8_init.cls ≠ "java/lang/invoke/MethodHandle" ∧ yX8_init.cls ≠ "java/lang/invoke/VarHandle" ∧ (parseMethodDescriptor yX8_init.desc).map (fun d => d.parameters.length) = some 0 := ⟨by decide +kernel, by decide +kernel, by decide +kernel⟩
theorem zObjI : Cond.instanceMethod Lib.objectInit ∈ TB := TB_t 27 (by decide +kernel) (by decide +kernel)
theorem zObjC : Cond.code Lib.objectInit ⟨#[0xb1]⟩ 1 none ∈ TB := TB_t 28 (by decide +kernel) (by decide +kernel)
theorem zw11 : Cond.initialized RX6 ∈ TB := TB_t 11 (by decide +kernel) (by decide +kernel)
theorem zw40 : Cond.methodLink RX0 1 Lib.objectInit ∈ TB := TB_t 40 (by decide +kernel) (by decide +kernel)
theorem zw49 : Cond.fieldLink RX0 9 (TX0 2).1 (TX0 2).2.1 (TX0 2).2.2.1 ∈ TB := TB_t 49 (by decide +kernel) (by decide +kernel)
theorem zw52 : Cond.fieldLink RX0 13 (TX0 3).1 (TX0 3).2.1 (TX0 3).2.2.1 ∈ TB := TB_t 52 (by decide +kernel) (by decide +kernel)
theorem zw55 : Cond.fieldLink RX0 16 (TX0 4).1 (TX0 4).2.1 (TX0 4).2.2.1 ∈ TB := TB_t 55 (by decide +kernel) (by decide +kernel)
theorem zw58 : Cond.fieldLink RX0 19 (TX0 5).1 (TX0 5).2.1 (TX0 5).2.2.1 ∈ TB := TB_t 58 (by decide +kernel) (by decide +kernel)
theorem zw74 : Cond.arrayClass .int ∈ TB := TB_t 74 (by decide +kernel) (by decide +kernel)
theorem zw208 : Cond.methodLink RX4 3 Lib.objectInit ∈ TB := TB_t 208 (by decide +kernel) (by decide +kernel)
theorem zw209 : Cond.fieldLink RX4 9 (TX4 0).1 (TX4 0).2.1 (TX4 0).2.2.1 ∈ TB := TB_t 209 (by decide +kernel) (by decide +kernel)
theorem zw217 : Cond.fieldLink RX4 15 (TX4 7).1 (TX4 7).2.1 (TX4 7).2.2.1 ∈ TB := TB_t 217 (by decide +kernel) (by decide +kernel)
theorem zw241 : Cond.arrayClass .byte ∈ TB := TB_t 241 (by decide +kernel) (by decide +kernel)
theorem zw246 : Cond.instantiable RX6 3 ∈ TB := TB_t 246 (by decide +kernel) (by decide +kernel)
theorem zw248 : Cond.instanceMethod yX6_init ∈ TB := TB_t 248 (by decide +kernel) (by decide +kernel)
theorem zw249 : Cond.code yX6_init cX6_init 1 none ∈ TB := TB_t 249 (by decide +kernel) (by decide +kernel)
theorem zw250 : Cond.methodLink RX6 3 Lib.objectInit ∈ TB := TB_t 250 (by decide +kernel) (by decide +kernel)
theorem zw251 : Cond.fieldLink RX6 11 (TX6 0).1 (TX6 0).2.1 (TX6 0).2.2.1 ∈ TB := TB_t 251 (by decide +kernel) (by decide +kernel)
theorem zw255 : Cond.fieldLink RX6 15 (TX6 2).1 (TX6 2).2.1 (TX6 2).2.2.1 ∈ TB := TB_t 255 (by decide +kernel) (by decide +kernel)
theorem zw269 : Cond.methodLink RX7 1 Lib.objectInit ∈ TB := TB_t 269 (by decide +kernel) (by decide +kernel)
theorem zw270 : Cond.classLink RX7 13 RX6 ∈ TB := TB_t 270 (by decide +kernel) (by decide +kernel)
theorem zw272 : Cond.fieldLink RX7 9 (TX7 0).1 (TX7 0).2.1 (TX7 0).2.2.1 ∈ TB := TB_t 272 (by decide +kernel) (by decide +kernel)
theorem zw277 : Cond.fieldLink RX7 16 (TX7 4).1 (TX7 4).2.1 (TX7 4).2.2.1 ∈ TB := TB_t 277 (by decide +kernel) (by decide +kernel)
theorem zw851 : Cond.methodLink RX3 1 Lib.objectInit ∈ TB := TB_t 851 (by decide +kernel) (by decide +kernel)
theorem zw852 : Cond.fieldLink RX3 7 (TX3 0).1 (TX3 0).2.1 (TX3 0).2.2.1 ∈ TB := TB_t 852 (by decide +kernel) (by decide +kernel)
theorem zw855 : Cond.fieldLink RX3 13 (TX3 1).1 (TX3 1).2.1 (TX3 1).2.2.1 ∈ TB := TB_t 855 (by decide +kernel) (by decide +kernel)
theorem zw857 : Cond.fieldLink RX3 16 (TX3 2).1 (TX3 2).2.1 (TX3 2).2.2.1 ∈ TB := TB_t 857 (by decide +kernel) (by decide +kernel)
set_option maxRecDepth 20000 in
theorem kn_X0 (l : Launch) (E : Amd) (D : va_G) (ca : Nat → ClassId) (a : Nat) : Cn l E D ca yX0_init cX0_init 1 none 1 12 4 40 [.ref a] [(a, .inr (0, [.int 0, .int 0, .null, .null, .null, .null]))] (fun v w2 => v = none ∧ ∃ q1 q2 q3 q4 : Nat, w2 = [(a, .inr (0, [.int 0, .int 0, .ref q1, .ref q2, .ref q3, .ref q4])), (q1, .inl (ca 0, 10, .inl (fun _ => 0))), (q2, .inl (ca 0, 10, .inl (fun _ => 0))), (q3, .inl (ca 0, 10, .inl (fun _ => 0))), (q4, .inl (ca 0, 10, .inl (fun _ => 0)))]) := by
  refine Cn.mk [some (.ref a)] (by decide) (Nat.le_of_ble_eq_true rfl) (argsV [.ref a] 0 rfl rfl) ?_
  intro x hx0 K hN hR
  have K : Kn x E D ca RX0 cX0_init 1 1 12 4 40 := K
  show Gn x D 1 (([] : va_W) ++ [(a, .inr (0, [.int 0, .int 0, .null, .null, .null, .null]))]) 0 0 0 [some (.ref a)] []
  refine n_aload_n K 0 dX0_init_0 rfl rfl ?_
  refine n_obj K zw40 zObjI zObjC ⟨by decide, by decide⟩ dX0_init_1 ?_
  refine n_aload_n K 0 dX0_init_4 rfl rfl ?_
  refine n_bipush K 10 dX0_init_5 (by decide) ?_
  refine p_newa (atype := .int) (ty := .int) 10 0 (ca 0) (fun q1 => [(a, .inr (0, [.int 0, .int 0, .null, .null, .null, .null])), (q1, .inl (ca 0, 10, .inl (fun _ => 0)))]) K rfl zw74 (fun C h => by cases h) rfl rfl (by decide) (by decide) (by decide) (by decide) (fun _ => rfl) dX0_init_7 (fun q1 => ?_)
  refine p_putF tyX0 [(a, .inr (0, [.int 0, .int 0, .ref q1, .null, .null, .null])), (q1, .inl (ca 0, 10, .inl (fun _ => 0)))] 0 2 K hN rfl rfl (by decide) i_X0 tyX0_ok nmX0 zw49 rfl rfl rfl (tyX0_ok 2 (by decide)) rfl rfl (Nat.le_of_ble_eq_true rfl) rfl dX0_init_9 ?_
  refine n_aload_n K 0 dX0_init_12 rfl rfl ?_
  refine n_bipush K 10 dX0_init_13 (by decide) ?_
  refine p_newa (atype := .int) (ty := .int) 10 0 (ca 0) (fun q2 => [(a, .inr (0, [.int 0, .int 0, .ref q1, .null, .null, .null])), (q1, .inl (ca 0, 10, .inl (fun _ => 0))), (q2, .inl (ca 0, 10, .inl (fun _ => 0)))]) K rfl zw74 (fun C h => by cases h) rfl rfl (by decide) (by decide) (by decide) (by decide) (fun _ => rfl) dX0_init_15 (fun q2 => ?_)
  refine p_putF tyX0 [(a, .inr (0, [.int 0, .int 0, .ref q1, .ref q2, .null, .null])), (q1, .inl (ca 0, 10, .inl (fun _ => 0))), (q2, .inl (ca 0, 10, .inl (fun _ => 0)))] 0 3 K hN rfl rfl (by decide) i_X0 tyX0_ok nmX0 zw52 rfl rfl rfl (tyX0_ok 3 (by decide)) rfl rfl (Nat.le_of_ble_eq_true rfl) rfl dX0_init_17 ?_
  refine n_aload_n K 0 dX0_init_20 rfl rfl ?_
  refine n_bipush K 10 dX0_init_21 (by decide) ?_
  refine p_newa (atype := .int) (ty := .int) 10 0 (ca 0) (fun q3 => [(a, .inr (0, [.int 0, .int 0, .ref q1, .ref q2, .null, .null])), (q1, .inl (ca 0, 10, .inl (fun _ => 0))), (q2, .inl (ca 0, 10, .inl (fun _ => 0))), (q3, .inl (ca 0, 10, .inl (fun _ => 0)))]) K rfl zw74 (fun C h => by cases h) rfl rfl (by decide) (by decide) (by decide) (by decide) (fun _ => rfl) dX0_init_23 (fun q3 => ?_)
  refine p_putF tyX0 [(a, .inr (0, [.int 0, .int 0, .ref q1, .ref q2, .ref q3, .null])), (q1, .inl (ca 0, 10, .inl (fun _ => 0))), (q2, .inl (ca 0, 10, .inl (fun _ => 0))), (q3, .inl (ca 0, 10, .inl (fun _ => 0)))] 0 4 K hN rfl rfl (by decide) i_X0 tyX0_ok nmX0 zw55 rfl rfl rfl (tyX0_ok 4 (by decide)) rfl rfl (Nat.le_of_ble_eq_true rfl) rfl dX0_init_25 ?_
  refine n_aload_n K 0 dX0_init_28 rfl rfl ?_
  refine n_bipush K 10 dX0_init_29 (by decide) ?_
  refine p_newa (atype := .int) (ty := .int) 10 0 (ca 0) (fun q4 => [(a, .inr (0, [.int 0, .int 0, .ref q1, .ref q2, .ref q3, .null])), (q1, .inl (ca 0, 10, .inl (fun _ => 0))), (q2, .inl (ca 0, 10, .inl (fun _ => 0))), (q3, .inl (ca 0, 10, .inl (fun _ => 0))), (q4, .inl (ca 0, 10, .inl (fun _ => 0)))]) K rfl zw74 (fun C h => by cases h) rfl rfl (by decide) (by decide) (by decide) (by decide) (fun _ => rfl) dX0_init_31 (fun q4 => ?_)
  refine p_putF tyX0 [(a, .inr (0, [.int 0, .int 0, .ref q1, .ref q2, .ref q3, .ref q4])), (q1, .inl (ca 0, 10, .inl (fun _ => 0))), (q2, .inl (ca 0, 10, .inl (fun _ => 0))), (q3, .inl (ca 0, 10, .inl (fun _ => 0))), (q4, .inl (ca 0, 10, .inl (fun _ => 0)))] 0 5 K hN rfl rfl (by decide) i_X0 tyX0_ok nmX0 zw58 rfl rfl rfl (tyX0_ok 5 (by decide)) rfl rfl (Nat.le_of_ble_eq_true rfl) rfl dX0_init_33 ?_
  exact n_vret K hR ⟨rfl, q1, q2, q3, q4, rfl⟩ dX0_init_36
set_option maxRecDepth 20000 in
theorem kn_X6 (l : Launch) (E : Amd) (D : va_G) (ca : Nat → ClassId) (a : Nat) : Cn l E D ca yX6_init cX6_init 1 none 1 12 1 24 [.ref a] [(a, .inr (5, [.int 0, .int 0, .null]))] (fun v w2 => v = none ∧ ∃ q1 : Nat, w2 = [(a, .inr (5, [.int (-1), .int 0, .ref q1])), (q1, .inl (ca 0, 24, .inl (fun _ => 0)))]) := by
  refine Cn.mk [some (.ref a)] (by decide) (Nat.le_of_ble_eq_true rfl) (argsV [.ref a] 0 rfl rfl) ?_
  intro x hx0 K hN hR
  have K : Kn x E D ca RX6 cX6_init 1 1 12 1 24 := K
  show Gn x D 1 (([] : va_W) ++ [(a, .inr (5, [.int 0, .int 0, .null]))]) 0 0 0 [some (.ref a)] []
  refine n_aload_n K 0 dX6_init_0 rfl rfl ?_
  refine n_obj K zw250 zObjI zObjC ⟨by decide, by decide⟩ dX6_init_1 ?_
  refine n_aload_n K 0 dX6_init_4 rfl rfl ?_
  refine n_iconst K (-1) dX6_init_5 (by decide) ?_
  refine p_put tyX6 [(a, .inr (5, [.int (-1), .int 0, .null]))] 0 0 K rfl rfl (by decide) i_X6 tyX6_ok nmX6 zw251 rfl rfl (tyX6_ok 0 (by decide)) rfl rfl (Nat.le_of_ble_eq_true rfl) rfl dX6_init_6 ?_
  refine n_aload_n K 0 dX6_init_9 rfl rfl ?_
  refine n_bipush K 24 dX6_init_10 (by decide) ?_
  refine p_newa (atype := .int) (ty := .int) 24 0 (ca 0) (fun q1 => [(a, .inr (5, [.int (-1), .int 0, .null])), (q1, .inl (ca 0, 24, .inl (fun _ => 0)))]) K rfl zw74 (fun C h => by cases h) rfl rfl (by decide) (by decide) (by decide) (by decide) (fun _ => rfl) dX6_init_12 (fun q1 => ?_)
  refine p_putF tyX6 [(a, .inr (5, [.int (-1), .int 0, .ref q1])), (q1, .inl (ca 0, 24, .inl (fun _ => 0)))] 0 2 K hN rfl rfl (by decide) i_X6 tyX6_ok nmX6 zw255 rfl rfl rfl (tyX6_ok 2 (by decide)) rfl rfl (Nat.le_of_ble_eq_true rfl) rfl dX6_init_14 ?_
  exact n_vret K hR ⟨rfl, q1, rfl⟩ dX6_init_17
set_option maxRecDepth 20000 in
theorem kn_X7 (l : Launch) (E : Amd) (D : va_G) (ca : Nat → ClassId) (a : Nat) : Cn l E D ca yX7_init cX7_init 1 none 2 32 2 27 [.ref a] [(a, .inr (6, [.int 0, .int 0, .int 0, .int 0, .null]))] (fun v w2 => v = none ∧ ∃ q1 q2 : Nat, w2 = [(a, .inr (6, [.int 0, .int 0, .int 0, .int 0, .ref q1])), (q1, .inr (5, [.int (-1), .int 0, .ref q2])), (q2, .inl (ca 0, 24, .inl (fun _ => 0)))]) := by
  refine Cn.mk [some (.ref a)] (by decide) (Nat.le_of_ble_eq_true rfl) (argsV [.ref a] 0 rfl rfl) ?_
  intro x hx0 K hN hR
  have K : Kn x E D ca RX7 cX7_init 1 2 32 2 27 := K
  show Gn x D 1 (([] : va_W) ++ [(a, .inr (6, [.int 0, .int 0, .int 0, .int 0, .null]))]) 0 0 0 [some (.ref a)] []
  refine n_aload_n K 0 dX7_init_0 rfl rfl ?_
  refine n_obj K zw269 zObjI zObjC ⟨by decide, by decide⟩ dX7_init_1 ?_
  refine n_aload_n K 0 dX7_init_4 rfl rfl ?_
  refine n_iconst K 0 dX7_init_5 (by decide) ?_
  refine p_put tyX7 [(a, .inr (6, [.int 0, .int 0, .int 0, .int 0, .null]))] 0 0 K rfl rfl (by decide) i_X7 tyX7_ok nmX7 zw272 rfl rfl (tyX7_ok 0 (by decide)) rfl rfl (Nat.le_of_ble_eq_true rfl) rfl dX7_init_6 ?_
  refine n_aload_n K 0 dX7_init_9 rfl rfl ?_
  refine p_new tyX6 [.int 0, .int 0, .null] (fun q1 => [(a, .inr (6, [.int 0, .int 0, .int 0, .int 0, .null])), (q1, .inr (5, [.int 0, .int 0, .null]))]) K rfl i_X6 tyX6_ok zw270 zw246 zw11 dfX6 (by decide) (fun _ => rfl) dX7_init_10 (fun q1 => ?_)
  refine n_dup K dX7_init_13 rfl ?_
  refine p_callIN (host := "OneDraught") [(a, .inr (6, [.int 0, .int 0, .int 0, .int 0, .null]))] [(q1, .inr (5, [.int 0, .int 0, .null]))] [] rfl K (kn_X6 x.2.1 E D ca  q1) zw249 zw11 (by decide +kernel) zw248 rfl hyX6 rfl ⟨by decide, by decide⟩ ⟨by decide, by decide⟩ (Nat.le_of_ble_eq_true rfl) [.ref q1, .ref q1, .ref a] rfl dX7_init_14 (fun v w2 hB => ?_)
  obtain ⟨rfl, q2, rfl⟩ := hB
  show Gn x D 1 (([] : va_W) ++ [(a, .inr (6, [.int 0, .int 0, .int 0, .int 0, .null])), (q1, .inr (5, [.int (-1), .int 0, .ref q2])), (q2, .inl (ca 0, 24, .inl (fun _ => 0)))]) 2 27 17 [some (.ref a)] [.ref q1, .ref a]
  refine p_putF tyX7 [(a, .inr (6, [.int 0, .int 0, .int 0, .int 0, .ref q1])), (q1, .inr (5, [.int (-1), .int 0, .ref q2])), (q2, .inl (ca 0, 24, .inl (fun _ => 0)))] 0 4 K hN rfl rfl (by decide) i_X7 tyX7_ok nmX7 zw277 rfl rfl rfl (tyX7_ok 4 (by decide)) rfl rfl (Nat.le_of_ble_eq_true rfl) rfl dX7_init_17 ?_
  exact n_vret K hR ⟨rfl, q1, q2, rfl⟩ dX7_init_20
set_option maxRecDepth 20000 in
theorem kn_X4 (l : Launch) (E : Amd) (D : va_G) (ca : Nat → ClassId) (a : Nat) : Cn l E D ca yX4_init cX4_init 1 none 1 12 2 192 [.ref a] [(a, .inr (3, [.null, .int 0, .int 0, .int 0, .int 0, .int 0, .int 0, .null, .int 0, .int 0]))] (fun v w2 => v = none ∧ ∃ q1 q2 : Nat, w2 = [(a, .inr (3, [.ref q1, .int 0, .int 0, .int 0, .int 0, .int 0, .int 0, .ref q2, .int 0, .int 0])), (q1, .inl (ca 1, 96, .inl (fun _ => 0))), (q2, .inl (ca 0, 96, .inl (fun _ => 0)))]) := by
  refine Cn.mk [some (.ref a)] (by decide) (Nat.le_of_ble_eq_true rfl) (argsV [.ref a] 0 rfl rfl) ?_
  intro x hx0 K hN hR
  have K : Kn x E D ca RX4 cX4_init 1 1 12 2 192 := K
  show Gn x D 1 (([] : va_W) ++ [(a, .inr (3, [.null, .int 0, .int 0, .int 0, .int 0, .int 0, .int 0, .null, .int 0, .int 0]))]) 0 0 0 [some (.ref a)] []
  refine n_aload_n K 0 dX4_init_0 rfl rfl ?_
  refine n_obj K zw208 zObjI zObjC ⟨by decide, by decide⟩ dX4_init_1 ?_
  refine n_aload_n K 0 dX4_init_4 rfl rfl ?_
  refine n_bipush K 96 dX4_init_5 (by decide) ?_
  refine p_newa (atype := .byte) (ty := .byte) 96 1 (ca 1) (fun q1 => [(a, .inr (3, [.null, .int 0, .int 0, .int 0, .int 0, .int 0, .int 0, .null, .int 0, .int 0])), (q1, .inl (ca 1, 96, .inl (fun _ => 0)))]) K rfl zw241 (fun C h => by cases h) rfl rfl (by decide) (by decide) (by decide) (by decide) (fun _ => rfl) dX4_init_7 (fun q1 => ?_)
  refine p_putF tyX4 [(a, .inr (3, [.ref q1, .int 0, .int 0, .int 0, .int 0, .int 0, .int 0, .null, .int 0, .int 0])), (q1, .inl (ca 1, 96, .inl (fun _ => 0)))] 0 0 K hN rfl rfl (by decide) i_X4 tyX4_ok nmX4 zw209 rfl rfl rfl (tyX4_ok 0 (by decide)) rfl rfl (Nat.le_of_ble_eq_true rfl) rfl dX4_init_9 ?_
  refine n_aload_n K 0 dX4_init_12 rfl rfl ?_
  refine n_bipush K 96 dX4_init_13 (by decide) ?_
  refine p_newa (atype := .int) (ty := .int) 96 0 (ca 0) (fun q2 => [(a, .inr (3, [.ref q1, .int 0, .int 0, .int 0, .int 0, .int 0, .int 0, .null, .int 0, .int 0])), (q1, .inl (ca 1, 96, .inl (fun _ => 0))), (q2, .inl (ca 0, 96, .inl (fun _ => 0)))]) K rfl zw74 (fun C h => by cases h) rfl rfl (by decide) (by decide) (by decide) (by decide) (fun _ => rfl) dX4_init_15 (fun q2 => ?_)
  refine p_putF tyX4 [(a, .inr (3, [.ref q1, .int 0, .int 0, .int 0, .int 0, .int 0, .int 0, .ref q2, .int 0, .int 0])), (q1, .inl (ca 1, 96, .inl (fun _ => 0))), (q2, .inl (ca 0, 96, .inl (fun _ => 0)))] 0 7 K hN rfl rfl (by decide) i_X4 tyX4_ok nmX4 zw217 rfl rfl rfl (tyX4_ok 7 (by decide)) rfl rfl (Nat.le_of_ble_eq_true rfl) rfl dX4_init_17 ?_
  exact n_vret K hR ⟨rfl, q1, q2, rfl⟩ dX4_init_20
set_option maxRecDepth 20000 in
theorem kn_X3 (l : Launch) (E : Amd) (D : va_G) (ca : Nat → ClassId) (a : Nat) (x1 : Int32) (x2 : Int32) (x3 : Nat) : Cn l E D ca yX3_init cX3_init 4 none 1 12 0 0 [.ref a, .int x1, .int x2, .ref x3] [(a, .inr (2, [.int 0, .int 0, .null]))] (fun v w2 => v = none ∧ w2 = [(a, .inr (2, [.int x1, .int x2, .ref x3]))]) := by
  refine Cn.mk [some (.ref a), some (.int x1), some (.int x2), some (.ref x3)] (by decide) (Nat.le_of_ble_eq_true rfl) (argsV [.ref a, .int x1, .int x2, .ref x3] 0 rfl rfl) ?_
  intro x hx0 K hN hR
  have K : Kn x E D ca RX3 cX3_init 4 1 12 0 0 := K
  show Gn x D 4 (([] : va_W) ++ [(a, .inr (2, [.int 0, .int 0, .null]))]) 0 0 0 [some (.ref a), some (.int x1), some (.int x2), some (.ref x3)] []
  refine n_aload_n K 0 dX3_init_0 rfl rfl ?_
  refine n_obj K zw851 zObjI zObjC ⟨by decide, by decide⟩ dX3_init_1 ?_
  refine n_aload_n K 0 dX3_init_4 rfl rfl ?_
  refine n_iload_n K 1 dX3_init_5 rfl rfl ?_
  refine p_putF tyX3 [(a, .inr (2, [.int x1, .int 0, .null]))] 0 0 K hN rfl rfl (by decide) i_X3 tyX3_ok nmX3 zw852 rfl rfl rfl (tyX3_ok 0 (by decide)) rfl rfl (Nat.le_of_ble_eq_true rfl) rfl dX3_init_6 ?_
  refine n_aload_n K 0 dX3_init_9 rfl rfl ?_
  refine n_iload_n K 2 dX3_init_10 rfl rfl ?_
  refine p_putF tyX3 [(a, .inr (2, [.int x1, .int x2, .null]))] 0 1 K hN rfl rfl (by decide) i_X3 tyX3_ok nmX3 zw855 rfl rfl rfl (tyX3_ok 1 (by decide)) rfl rfl (Nat.le_of_ble_eq_true rfl) rfl dX3_init_11 ?_
  refine n_aload_n K 0 dX3_init_14 rfl rfl ?_
  refine n_aload_n K 3 dX3_init_15 rfl rfl ?_
  refine p_putF tyX3 [(a, .inr (2, [.int x1, .int x2, .ref x3]))] 0 2 K hN rfl rfl (by decide) i_X3 tyX3_ok nmX3 zw857 rfl rfl rfl (tyX3_ok 2 (by decide)) rfl rfl (Nat.le_of_ble_eq_true rfl) rfl dX3_init_16 ?_
  exact n_vret K hR ⟨rfl, rfl⟩ dX3_init_19
