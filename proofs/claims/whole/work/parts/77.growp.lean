/-! CONSTRUCTORS, 3: rows for a world P ++ Q, Q written out; calls of methods that make nothing -/
theorem at_P {P Q : va_W} {k : Nat} : (P ++ Q)[P.length + k]? = Q[k]? := by rw [List.getElem?_append_right (by omega), Nat.add_sub_cancel_left]
theorem set_P {P Q : va_W} {k : Nat} {c : Nat × va_E} : (P ++ Q).set (P.length + k) c = P ++ Q.set k c := by rw [List.set_append_right _ _ (by omega), Nat.add_sub_cancel_left]
section
variable {x : En} {E : Amd} {D : va_G} {ca : Nat → ClassId} {own : String} {cc : ByteArray} {nL fr lo mc ms : Nat} {P Q : va_W} {nc ns : Nat} {pc : Nat} {V : List (Option Value)} {rest : List Value}
theorem p_newa {atype : ArrayType} {ty : FieldType} {n : Int32} (N t0 : Nat) (c0 : ClassId) (Q2 : Nat → va_W) (K : Kn x E D ca own cc nL fr lo mc ms) (hty : newarray.typeOf atype = ty) (harr : Cond.arrayClass ty ∈ TB) (hns : ∀ C, ty ≠ .object C) (hdv : defaultValue ty = .int 0) (ht0 : (tysOf ca)[t0]? = some (c0, ty)) (hn : ¬ n < 0) (hN : n.toNatClampNeg = N) (hbytes : N * componentBytes ty ≤ 536870912) (hc : nc + 1 ≤ mc ∧ ns + N ≤ ms) (hQ : ∀ q, Q ++ [(q, .inl (c0, N, .inl (fun _ => 0)))] = Q2 q) (hd : decode cc pc = .ok (.newarray atype, 2)) (kk : ∀ q : Nat, Gn x D nL (P ++ Q2 q) (nc + 1) (ns + N) (pc + 2) V (.ref q :: rest)) : Gn x D nL (P ++ Q) nc ns pc V (.int n :: rest) :=
  n_newa N t0 c0 K hty harr hns hdv ht0 hn hN hbytes hc hd (fun q => by rw [List.append_assoc, hQ]; exact kk q)
theorem p_newq {C : String} {n : Int32} {index : Nat} (N t0 : Nat) (c0 : ClassId) (Q2 : Nat → va_W) (K : Kn x E D ca own cc nL fr lo mc ms) (hlink : Cond.classLink own index C ∈ TB) (hover : ∀ U, AO3 U → va_AO C U) (ht0 : (tysOf ca)[t0]? = some (c0, .object C)) (hn : ¬ n < 0) (hN : n.toNatClampNeg = N) (hbytes : N * 4 ≤ 536870912) (hc : nc + 1 ≤ mc ∧ ns + N ≤ ms) (hQ : ∀ q, Q ++ [(q, .inl (c0, N, .inr (.inr (.inr (.inr (fun _ => none))))))] = Q2 q) (hd : decode cc pc = .ok (.anewarray index, 3)) (kk : ∀ q : Nat, Gn x D nL (P ++ Q2 q) (nc + 1) (ns + N) (pc + 3) V (.ref q :: rest)) : Gn x D nL (P ++ Q) nc ns pc V (.int n :: rest) :=
  n_newq N t0 c0 K hlink hover ht0 hn hN hbytes hc hd (fun q => by rw [List.append_assoc, hQ]; exact kk q)
theorem p_new {C : String} {T : u_T} {N ci index : Nat} (ty : Nat → FieldType) (fs : List Value) (Q2 : Nat → va_W) (K : Kn x E D ca own cc nL fr lo mc ms) (hcl : vwCl[ci]? = some (C, T, N)) (hw : ∀ w ∈ u_ws C T N, w ∈ TB) (hty : ∀ k, k < N → parseFieldDescriptor (T k).2.2.1 = some (ty k)) (hlink : Cond.classLink own index C ∈ TB) (hinst : Cond.instantiable C N ∈ TB) (hini : Cond.initialized C ∈ TB) (hfs : ∀ j, j < N → defaultValue (ty j) = vp_V fs j) (hc : nc + 1 ≤ mc ∧ ns + N ≤ ms) (hQ : ∀ q, Q ++ [(q, .inr (ci, fs))] = Q2 q) (hd : decode cc pc = .ok (.new index, 3)) (kk : ∀ q : Nat, Gn x D nL (P ++ Q2 q) (nc + 1) (ns + N) (pc + 3) V (.ref q :: rest)) : Gn x D nL (P ++ Q) nc ns pc V rest :=
  n_new ty fs K hcl hw hty hlink hinst hini hfs hc hd (fun q => by rw [List.append_assoc, hQ]; exact kk q)
theorem p_get {C ref : String} {T : u_T} {N ci idx a : Nat} {fs : List Value} {v : Value} (k j : Nat) (K : Kn x E D ca own cc nL fr lo mc ms) (he : Q[k]? = some (a, .inr (ci, fs))) (hcl : vwCl[ci]? = some (C, T, N)) (hj : j < N) (hw : ∀ w ∈ u_ws C T N, w ∈ TB) (hlink : Cond.fieldLink own idx ref (T j).2.1 (T j).2.2.1 ∈ TB) (href : (T j).1 = ref) (hv : fs[j]? = some v) (hd : decode cc pc = .ok (.getfield idx, 3)) (kk : Gn x D nL (P ++ Q) nc ns (pc + 3) V (v :: rest)) : Gn x D nL (P ++ Q) nc ns pc V (.ref a :: rest) :=
  n_get (P.length + k) j K (at_P.trans he) hcl hj hw hlink href hv hd kk
theorem p_put {C ref : String} {T : u_T} {N ci idx a : Nat} {fs : List Value} {v : Value} {ty : FieldType} (ty0 : Nat → FieldType) (Q2 : va_W) (k j : Nat) (K : Kn x E D ca own cc nL fr lo mc ms) (he : Q[k]? = some (a, .inr (ci, fs))) (hcl : vwCl[ci]? = some (C, T, N)) (hj : j < N) (hw : ∀ w ∈ u_ws C T N, w ∈ TB) (hty : ∀ k, k < N → parseFieldDescriptor (T k).2.2.1 = some (ty0 k)) (hnm : ∀ a, a < N → ∀ b, b < N → a ≠ b → (T a).2.1 ≠ (T b).2.1) (hlink : Cond.fieldLink own idx ref (T j).2.1 (T j).2.2.1 ∈ TB) (href : (T j).1 = ref) (hfin : (T j).2.2.2 = false) (hpd : parseFieldDescriptor (T j).2.2.1 = some ty) (hn : narrow ty v = v) (hfit : fits ty v = true) (hlen : j < fs.length) (hset : Q.set k (a, .inr (ci, fs.set j v)) = Q2) (hd : decode cc pc = .ok (.putfield idx, 3)) (kk : Gn x D nL (P ++ Q2) nc ns (pc + 3) V rest) : Gn x D nL (P ++ Q) nc ns pc V (v :: .ref a :: rest) :=
  n_put ty0 (P ++ Q2) (P.length + k) j K (at_P.trans he) hcl hj hw hty hnm hlink href hfin hpd hn hfit hlen (by rw [set_P, hset]) hd kk
theorem p_putF {C ref : String} {T : u_T} {N ci idx a : Nat} {fs : List Value} {v : Value} {ty : FieldType} (ty0 : Nat → FieldType) (Q2 : va_W) (k j : Nat) (K : Kn x E D ca own cc nL fr lo mc ms) (hi : Nm x "<init>") (he : Q[k]? = some (a, .inr (ci, fs))) (hcl : vwCl[ci]? = some (C, T, N)) (hj : j < N) (hw : ∀ w ∈ u_ws C T N, w ∈ TB) (hty : ∀ k, k < N → parseFieldDescriptor (T k).2.2.1 = some (ty0 k)) (hnm : ∀ a, a < N → ∀ b, b < N → a ≠ b → (T a).2.1 ≠ (T b).2.1) (hlink : Cond.fieldLink own idx ref (T j).2.1 (T j).2.2.1 ∈ TB) (href : (T j).1 = ref) (hfin : (T j).2.2.2 = true) (hdecl : (T j).1 = own) (hpd : parseFieldDescriptor (T j).2.2.1 = some ty) (hn : narrow ty v = v) (hfit : fits ty v = true) (hlen : j < fs.length) (hset : Q.set k (a, .inr (ci, fs.set j v)) = Q2) (hd : decode cc pc = .ok (.putfield idx, 3)) (kk : Gn x D nL (P ++ Q2) nc ns (pc + 3) V rest) : Gn x D nL (P ++ Q) nc ns pc V (v :: .ref a :: rest) :=
  n_putF ty0 (P ++ Q2) (P.length + k) j K hi (at_P.trans he) hcl hj hw hty hnm hlink href hfin hdecl hpd hn hfit hlen (by rw [set_P, hset]) hd kk
theorem p_iast {n a : Nat} {i v : Int32} {f : Nat → Int32} (Q2 : va_W) (k : Nat) (K : Kn x E D ca own cc nL fr lo mc ms) (he : Q[k]? = some (a, .inl (ca 0, n, .inl f))) (hin : ib i n = true) (hset : Q.set k (a, .inl (ca 0, n, .inl (upd f (ix i) v))) = Q2) (hd : decode cc pc = .ok (.iastore, 1)) (kk : Gn x D nL (P ++ Q2) nc ns (pc + 1) V rest) : Gn x D nL (P ++ Q) nc ns pc V (.int v :: .int i :: .ref a :: rest) :=
  n_iast (P ++ Q2) (P.length + k) K (at_P.trans he) hin (by rw [set_P, hset]) hd kk
theorem p_cast {n a : Nat} {i v : Int32} {f : Nat → Int32} (Q2 : va_W) (k : Nat) (K : Kn x E D ca own cc nL fr lo mc ms) (he : Q[k]? = some (a, .inl (ca 2, n, .inl f))) (hin : ib i n = true) (hset : Q.set k (a, .inl (ca 2, n, .inl (upd f (ix i) (vp_nar .char v)))) = Q2) (hd : decode cc pc = .ok (.castore, 1)) (kk : Gn x D nL (P ++ Q2) nc ns (pc + 1) V rest) : Gn x D nL (P ++ Q) nc ns pc V (.int v :: .int i :: .ref a :: rest) := by
  obtain ⟨p, l, e, R, s, m, args, below, meth, c, A, cells, slots, Qs⟩ := x
  obtain ⟨⟨hx, hb, hml, hown, hts⟩, hK, hA, hfr, hlo, hmc, hms, hlk, hAm, hAO⟩ := K
  intro H locs ls hP hD hS hl
  refine va_cast hx hb hK hP hD hS (P.length + k) 2 (at_P.trans he) rfl (ib_in hin) hd (fun H1 locs1 h1 h2 h3 => ?_)
  rw [set_P] at h1 h2
  have e1 : Q.set k (a, .inl (ca 2, n, .inl (upd f i.toNatClampNeg (vp_nar .char v)))) = Q2 := hset
  rw [e1] at h1 h2
  exact kk H1 locs1 ls h1 h2 h3 hl
theorem p_aast {n a v : Nat} {i : Int32} {f : Nat → Option Nat} {r : vw_C} {vs : List Value} {c0 : ClassId} (Q2 : va_W) (k k2 ci t0 : Nat) (K : Kn x E D ca own cc nL fr lo mc ms) (he : Q[k]? = some (a, .inl (c0, n, .inr (.inr (.inr (.inr f)))))) (ht0 : (tysOf ca)[t0]? = some (c0, .object r.1)) (hv : Q[k2]? = some (v, .inr (ci, vs))) (hcl : vwCl[ci]? = some r) (hin : ib i n = true) (hset : Q.set k (a, .inl (c0, n, .inr (.inr (.inr (.inr (va_up f (ix i) (some v))))))) = Q2) (hd : decode cc pc = .ok (.aastore, 1)) (kk : Gn x D nL (P ++ Q2) nc ns (pc + 1) V rest) : Gn x D nL (P ++ Q) nc ns pc V (.ref v :: .int i :: .ref a :: rest) := by
  obtain ⟨p, l, e, R, s, m, args, below, meth, c, A, cells, slots, Qs⟩ := x
  obtain ⟨⟨hx, hb, hml, hown, hts⟩, hK, hA, hfr, hlo, hmc, hms, hlk, hAm, hAO⟩ := K
  intro H locs ls hP hD hS hl
  refine va_astq hx hb hK hP hD hS (P.length + k) t0 (P.length + k2) ci (at_P.trans he) ht0 (at_P.trans hv) hcl (ib_in hin) hd (fun H1 locs1 h1 h2 h3 => ?_)
  rw [set_P] at h1 h2
  have e1 : Q.set k (a, .inl (c0, n, .inr (.inr (.inr (.inr (va_up f i.toNatClampNeg (some v))))))) = Q2 := hset
  rw [e1] at h1 h2
  exact kk H1 locs1 ls h1 h2 h3 hl
end
/-- a method that makes nothing is called in a world that is a layout's -/
theorem n_ctV {x : En} {E : Amd} {D : va_G} {ca : Nat → ClassId} {own : String} {cc : ByteArray} {nL fr lo mc ms : Nat} {ws : va_W} {nc ns : Nat} {pc : Nat} {V : List (Option Value)} {rest : List Value} {h : Nat → Nat} {L : Lay} {M M2 : Mem} {y : MethodName} {c2 : ByteArray} {nL2 n idx fr2 lo2 : Nat} {ret : Option FieldType} {v : Option Value} {k ci : Nat} {C : vw_C} {fs : List Value} (K : Kn x E D ca own cc nL fr lo mc ms) (hws : ws = wsOf h L M) (As : List Value) (hC : Ct x.2.1 E D (tysOf ca) h L y c2 nL2 ret fr2 lo2 (.ref (h k) :: As) M v M2) (hs : CsV own idx y c2 nL2 ret n) (hk : k < L.1) (hc : L.2 k (M k) = .inr (ci, fs)) (hcl : vwCl[ci]? = some C) (hC1 : C.1 = y.cls) (hn : As.length = n) (hrm : fr2 + 1 ≤ fr ∧ 8 + (nL2 + 11) + lo2 ≤ lo) (hcs : nc ≤ mc ∧ ns ≤ ms) (hrest : (rest.map fun v => v.category).sum ≤ 8) (st0 : List Value) (hst : st0 = As.reverse ++ .ref (h k) :: rest) (hd : decode cc pc = .ok (.invokevirtual idx, 3)) (kk : Gn x D nL (wsOf h L M2) nc ns (pc + 3) V (v.toList ++ rest)) : Gn x D nL ws nc ns pc V st0 := by
  obtain ⟨p, l, e, R, s, m, args, below, meth, c, A, cells, slots, Q⟩ := x
  obtain ⟨⟨hx, hb, hml, hown, hts⟩, hK, hA, hfr, hlo, hmc, hms, hlk, hAm, hAO⟩ := K
  subst hws
  intro H locs ls hP hD hS hl
  have hi : Inj h L.1 := fun i j hi hj e => hD.1 i j _ _ (wsOf_at hi) (wsOf_at hj) e
  have hA0 : ∀ k, k < L.1 → A (h k) := fun k hk => hD.2 k _ (wsOf_at hk)
  obtain ⟨q1, q2, q3, q4, q5, q6, q7, q8⟩ := hs
  have cb : CallB R s args own idx y c2 nL2 ret (.code y c2 nL2 ret :: TB) { frames := fr2, cells := 0, slots := 0, locals := lo2 } 0 0 n := callB_of n hts (cg_in q1) rfl rfl rfl (hts _ q2) (hts _ q3) ⟨q6, q7, q8⟩ ⟨by rw [hfr]; exact hrm.1, by rw [hlo]; exact hrm.2⟩
  exact go_call (va_runV (As := As) (rest := rest) ⟨hx, hb, hml, hown, hts⟩ (hC H.size) ⟨cb, hts _ q4, hts _ q5⟩ ⟨Pr_blind, by rw [← hC1]; exact va_recv hK hP hcl (by rw [wsOf_at hk, hc]), fun U hU hW => ⟨rfl, by rw [hU], by rw [hU]; exact hP, va_K.moved hW.alike hK, hi, hAm.go hS (Ad_sub hS hA0 hA) hU hW⟩⟩ rfl hn hl.1 hst (lv_room hrest) hd (by rw [hmc, hms]; exact hcs)) hS hA0 hA (fun H1 locs1 h1 h2 => kk H1 locs1 ls h1 (wsOf_D hi hA0) h2 hl)
theorem n_ctS {x : En} {E : Amd} {D : va_G} {ca : Nat → ClassId} {own : String} {cc : ByteArray} {nL fr lo mc ms : Nat} {ws : va_W} {nc ns : Nat} {pc : Nat} {V : List (Option Value)} {rest : List Value} {h : Nat → Nat} {L : Lay} {M M2 : Mem} {y : MethodName} {c2 : ByteArray} {nL2 n idx fr2 lo2 : Nat} {ret : Option FieldType} {v : Option Value} (K : Kn x E D ca own cc nL fr lo mc ms) (hws : ws = wsOf h L M) (As : List Value) (hC : Ct x.2.1 E D (tysOf ca) h L y c2 nL2 ret fr2 lo2 As M v M2) (hs : CsS own idx y c2 nL2 ret n) (hn : As.length = n) (hrm : fr2 + 1 ≤ fr ∧ 8 + (nL2 + 11) + lo2 ≤ lo) (hcs : nc ≤ mc ∧ ns ≤ ms) (hrest : (rest.map fun v => v.category).sum ≤ 8) (st0 : List Value) (hst : st0 = As.reverse ++ rest) (hd : decode cc pc = .ok (.invokestatic idx, 3)) (kk : Gn x D nL (wsOf h L M2) nc ns (pc + 3) V (v.toList ++ rest)) : Gn x D nL ws nc ns pc V st0 := by
  obtain ⟨p, l, e, R, s, m, args, below, meth, c, A, cells, slots, Q⟩ := x
  obtain ⟨⟨hx, hb, hml, hown, hts⟩, hK, hA, hfr, hlo, hmc, hms, hlk, hAm, hAO⟩ := K
  subst hws
  intro H locs ls hP hD hS hl
  have hi : Inj h L.1 := fun i j hi hj e => hD.1 i j _ _ (wsOf_at hi) (wsOf_at hj) e
  have hA0 : ∀ k, k < L.1 → A (h k) := fun k hk => hD.2 k _ (wsOf_at hk)
  obtain ⟨q1, q2, q3, q4, q6, q7, q8⟩ := hs
  have cb : CallB R s args own idx y c2 nL2 ret (.code y c2 nL2 ret :: TB) { frames := fr2, cells := 0, slots := 0, locals := lo2 } 0 0 n := callB_of n hts (cg_in q1) rfl rfl rfl (hts _ q2) (hts _ q3) ⟨q6, q7, q8⟩ ⟨by rw [hfr]; exact hrm.1, by rw [hlo]; exact hrm.2⟩
  exact go_call (va_runS (As := As) (rest := rest) ⟨hx, hb, hml, hown, hts⟩ (hC H.size) ⟨cb, hts _ q4⟩ ⟨Pr_blind, fun U hU hW => ⟨rfl, by rw [hU], by rw [hU]; exact hP, va_K.moved hW.alike hK, hi, hAm.go hS (Ad_sub hS hA0 hA) hU hW⟩⟩ rfl hn hl.1 hst (lv_room hrest) hd (by rw [hmc, hms]; exact hcs)) hS hA0 hA (fun H1 locs1 h1 h2 => kk H1 locs1 ls h1 (wsOf_D hi hA0) h2 hl)
/-- a list of cells, then m regions of a form F: as a layout -/
def LPw (P : va_W) (m : Nat) (F : Nat → (Nat → Int32) → va_E) : Lay := (P.length + m, fun k row => if k < P.length then ((P[k]?).map Prod.snd).getD (.inr (0, [])) else F (k - P.length) row)
def hPf (P : va_W) (g : Nat → Nat) : Nat → Nat := fun k => if k < P.length then ((P[k]?).map Prod.fst).getD 0 else g (k - P.length)
theorem wsOf_P {P : va_W} {m : Nat} {F : Nat → (Nat → Int32) → va_E} {g : Nat → Nat} {M : Mem} : wsOf (hPf P g) (LPw P m F) M = P ++ (List.range m).map (fun j => (g j, F j (M (P.length + j)))) := by
  apply List.ext_getElem?
  intro k
  by_cases hk : k < P.length
  · rw [wsOf_at (show k < (LPw P m F).1 from Nat.lt_of_lt_of_le hk (Nat.le_add_right _ _)), List.getElem?_append_left hk]
    unfold hPf LPw
    simp only [hk, if_true, List.getElem?_eq_getElem hk, Option.map_some, Option.getD_some]
  · rw [List.getElem?_append_right (by omega), List.getElem?_map]
    by_cases hm : k < P.length + m
    · rw [wsOf_at (show k < (LPw P m F).1 from hm), List.getElem?_range (by omega)]
      unfold hPf LPw
      simp only [hk, if_false, Option.map_some]
      rw [show P.length + (k - P.length) = k by omega]
    · rw [List.getElem?_eq_none (by rw [wsOf_len]; exact Nat.not_lt.mp hm), List.getElem?_eq_none (by simp; omega)]
      rfl
