/-! CONSTRUCTORS, 2: worlds that grow: a list ws of cells, nc cells and ns slots made (the rows of heap-blind instructions written by wip/gen/wgrow.py) -/
def AO3 (U : State) : Prop := va_AO "OneDraught$Law" U ∧ va_AO "OneDraught$Sheet" U ∧ va_AO "OneDraught$Slot" U
theorem AO3.moved {u U : State} (hvm : u.vm.Alike U.vm) (h : AO3 u) : AO3 U := ⟨h.1.moved hvm, h.2.1.moved hvm, h.2.2.moved hvm⟩
def Gn (x : En) (D : va_G) (nL : Nat) (ws : va_W) (nc ns : Nat) (pc : Nat) (V : List (Option Value)) (st : List Value) : Prop := match x with
  | (p, l, e, R, s, m, args, below, meth, c, A, _, _, Q) => ∀ (H : Heap) (locs : List Loc) (ls : Array Slot), va_P D vwCl ws H → va_D A ws → va_S A s.heap H locs → LH ls nL V → W p l e R s m args below meth c H locs nc ns Q (F0 m pc ls st)
def Kn (x : En) (E : Amd) (D : va_G) (ca : Nat → ClassId) (own : String) (cc : ByteArray) (nL fr lo mc ms : Nat) : Prop := match x with
  | (p, _, _, R, s, m, args, _, meth, c, A, _, _, _) => CallFix p m c cc nL s args TB own ∧ va_K D vwCl (tysOf ca) s ∧ (∀ q, s.heap.size ≤ q → A q) ∧ R.frames = fr ∧ R.locals = lo ∧ R.cells = mc ∧ R.slots = ms ∧ meth.locks = false ∧ Amb E A s s.heap ∧ AO3 s
def Nm (x : En) (n : String) : Prop := match x with
  | (_, _, _, _, _, _, _, _, meth, _, _, _, _, _) => meth.name = n
def PrN (E : Amd) (D : va_G) (ca : Nat → ClassId) (ws : va_W) (sz : Nat) : State → Prop := fun U => U.heap.size = sz ∧ va_P D vwCl ws U.heap ∧ va_K D vwCl (tysOf ca) U ∧ va_D (fun _ => True) ws ∧ Amb E (va_A ws sz) U U.heap ∧ AO3 U
def QvN (D : va_G) (B : Option Value → va_W → Prop) (A : Nat → Prop) : Array Value → State → Outcome → State → Prop := fun _ st oc t => ∃ v w2, oc = .returned v ∧ B v w2 ∧ va_P D vwCl w2 t.heap ∧ va_D A w2 ∧ va_F A st t
def RtN (x : En) (D : va_G) (ret : Option FieldType) (B : Option Value → va_W → Prop) (mc ms : Nat) : Prop := match x with
  | (_, _, _, _, s, _, args, below, meth, _, A, _, _, Q) => meth.sig.returnType = ret ∧ Q = MQ below (QvN D B A) args s mc ms A
def Cn (l : Launch) (E : Amd) (D : va_G) (ca : Nat → ClassId) (y : MethodName) (cc : ByteArray) (nL : Nat) (ret : Option FieldType) (fr lo mc ms : Nat) (av : List Value) (ws : va_W) (B : Option Value → va_W → Prop) : Prop :=
  ∀ sz : Nat, Met l y (.code y cc nL ret :: TB) { frames := fr, cells := mc, slots := ms, locals := lo } (va_Pc av (PrN E D ca ws sz)) (QvN D B (va_A ws sz)) mc ms (va_A ws sz)
theorem Cn.mk {l : Launch} {E : Amd} {D : va_G} {ca : Nat → ClassId} {y : MethodName} {cc : ByteArray} {nL : Nat} {ret : Option FieldType} {fr lo mc ms : Nat} {av : List Value} {ws : va_W} {B : Option Value → va_W → Prop} (V : List (Option Value))
    (hy : plainName y.cls = true) (hn : (lg_sl av).length ≤ nL) (hV : ∀ (i : Nat) (v : Value), V[i]? = some (some v) → (i, v) ∈ lv_args 0 av)
    (body : ∀ x : En, x.2.1 = l → Kn x E D ca y.cls cc nL fr lo mc ms → Nm x y.name → RtN x D ret B mc ms → Gn x D nL ws 0 0 0 V []) : Cn l E D ca y cc nL ret fr lo mc ms av ws B := by
  intro sz
  refine Met.ofW (cc := cc) (maxL := nL) (ret := ret) hy rfl ?_
  intro p e s m args below meth c s₁ B1 hml hv
  obtain ⟨rfl, hsz, hP, hK, hD, hAm, hAO⟩ := hv
  subst hsz
  have hts0 := atoms_spec (ws := .code y cc nL ret :: TB) B1.pre
  have key := body (p, l, e, (headSpec (.code y cc nL ret :: TB) { frames := fr, cells := mc, slots := ms, locals := lo }).room, s, m, av.toArray, below, meth, c, va_A ws s.heap.size, 0, 0, MQ below (QvN D B (va_A ws s.heap.size)) av.toArray s mc ms (va_A ws s.heap.size)) rfl
    ⟨⟨B1.exec, B1.bytes, hml, findClass_of_methodNamed B1.named, fun w hw => hts0 w (List.mem_cons_of_mem _ hw)⟩, hK, fun q hq => Or.inr hq, rfl, rfl, rfl, rfl, B1.notSynchronized, hAm, hAO⟩ (name_of_methodNamed B1.named B1.method).1 ⟨B1.returns, rfl⟩
  rw [lg_entry_eq]
  have hl := lv_entry av (n := nL) hn
  exact key s.heap [] _ hP hD.self va_S.rf ⟨hl.1, hl.2.1, fun i v hv => hl.2.2 (i, v) (hV i v hv)⟩
theorem n_wid {x : En} {D : va_G} {nL : Nat} {ws : va_W} {nc ns pc : Nat} {V : List (Option Value)} {st : List Value} (k n : Nat) (h1 : nc ≤ k) (h2 : ns ≤ n) (kk : Gn x D nL ws k n pc V st) : Gn x D nL ws nc ns pc V st := by
  obtain ⟨p, l, e, R, s, m, args, below, meth, c, A, cells, slots, Q⟩ := x
  intro H locs ls hP hD hS hl
  exact W.widen h1 h2 (kk H locs ls hP hD hS hl)
theorem va_P_mem {D : va_G} {cl : List vw_C} {ws : va_W} {H : Heap} : va_P D cl ws H ↔ ∀ q, q ∈ ws → va_at D cl q H := by
  constructor
  · intro h q hq
    obtain ⟨k, hk⟩ := List.getElem?_of_mem hq
    exact h k q hk
  · intro h k q hk
    exact h q (List.mem_of_getElem? hk)
theorem va_D_mem {A : Nat → Prop} {ws : va_W} : va_D A ws ↔ (ws.map Prod.fst).Nodup ∧ ∀ q, q ∈ ws → A q.1 := by
  constructor
  · intro h
    refine ⟨List.pairwise_iff_getElem.mpr (fun i j hi hj hij e => ?_), fun q hq => ?_⟩
    · have hi' : i < ws.length := by simpa using hi
      have hj' : j < ws.length := by simpa using hj
      simp only [List.getElem_map] at e
      have := h.1 i j _ _ (List.getElem?_eq_getElem hi') (List.getElem?_eq_getElem hj') e
      omega
    · obtain ⟨k, hk⟩ := List.getElem?_of_mem hq
      exact h.2 k q hk
  · intro ⟨h1, h2⟩
    have key : ∀ (i j : Nat) (p q : Nat × va_E), ws[i]? = some p → ws[j]? = some q → i < j → p.1 ≠ q.1 := fun i j p q hp hq g e => by
      obtain ⟨li, ei⟩ := List.getElem?_eq_some_iff.mp hp
      obtain ⟨lj, ej⟩ := List.getElem?_eq_some_iff.mp hq
      have := List.pairwise_iff_getElem.mp h1 i j (by simpa using li) (by simpa using lj) g
      simp only [List.getElem_map] at this
      rw [ei, ej] at this
      exact this e
    refine ⟨fun i j p q hp hq e => ?_, fun k q hk => h2 q (List.mem_of_getElem? hk)⟩
    rcases Nat.lt_trichotomy i j with g | g | g
    · exact absurd e (key i j p q hp hq g)
    · exact g
    · exact absurd e.symm (key j i q p hq hp g)
theorem n_perm {x : En} {D : va_G} {nL : Nat} {ws : va_W} {nc ns pc : Nat} {V : List (Option Value)} {st : List Value} (w2 : va_W) (hp : ws.Perm w2) (kk : Gn x D nL w2 nc ns pc V st) : Gn x D nL ws nc ns pc V st := by
  obtain ⟨p, l, e, R, s, m, args, below, meth, c, A, cells, slots, Q⟩ := x
  intro H locs ls hP hD hS hl
  refine kk H locs ls (va_P_mem.mpr (fun q hq => va_P_mem.mp hP q (hp.mem_iff.mpr hq))) ?_ hS hl
  obtain ⟨g1, g2⟩ := va_D_mem.mp hD
  exact va_D_mem.mpr ⟨(hp.map Prod.fst).nodup_iff.mp g1, fun q hq => g2 q (hp.mem_iff.mpr hq)⟩
/-- the end of a constructor -/
theorem n_vret {x : En} {E : Amd} {D : va_G} {ca : Nat → ClassId} {own : String} {cc : ByteArray} {nL fr lo mc ms : Nat} {ws : va_W} {pc : Nat} {V : List (Option Value)} {B : Option Value → va_W → Prop} (K : Kn x E D ca own cc nL fr lo mc ms) (hR : RtN x D none B mc ms) (hB : B none ws) (hd : decode cc pc = .ok (.return_, 1)) : Gn x D nL ws mc ms (pc) V ([]) := by
  obtain ⟨p, l, e, R, s, m, args, below, meth, c, A, cells, slots, Q⟩ := x
  obtain ⟨⟨hx, hb, hml, hown, hts⟩, hK, hA, hfr, hlo, hmc, hms, hlk, hAm, hAO⟩ := K
  intro H locs ls hP hD hS hl
  obtain ⟨hr, hQ⟩ := hR
  subst hQ
  exact W.vret hx hb hr (fun t ht hW => ⟨none, ws, rfl, hB, by rw [ht]; exact hP, hD, hS.F ht⟩) hS.2.2 hd hlk
theorem n_aret {x : En} {E : Amd} {D : va_G} {ca : Nat → ClassId} {own : String} {cc : ByteArray} {nL fr lo mc ms : Nat} {ws : va_W} {pc : Nat} {V : List (Option Value)} {B : Option Value → va_W → Prop} {rt : FieldType} {a : Nat} (K : Kn x E D ca own cc nL fr lo mc ms) (hrt : (∃ n, rt = .object n) ∨ ∃ t, rt = .array t) (hR : RtN x D (some rt) B mc ms) (hB : B (some (.ref a)) ws) (hd : decode cc pc = .ok (.areturn, 1)) : Gn x D nL ws mc ms (pc) V ([.ref a]) := by
  obtain ⟨p, l, e, R, s, m, args, below, meth, c, A, cells, slots, Q⟩ := x
  obtain ⟨⟨hx, hb, hml, hown, hts⟩, hK, hA, hfr, hlo, hmc, hms, hlk, hAm, hAO⟩ := K
  intro H locs ls hP hD hS hl
  obtain ⟨hr, hQ⟩ := hR
  subst hQ
  exact W.aret hx hb hr hrt (Or.inr ⟨a, rfl⟩) (fun t ht hW => ⟨some (.ref a), ws, rfl, hB, by rw [ht]; exact hP, hD, hS.F ht⟩) hS.2.2 hd hlk
theorem n_obj {x : En} {E : Amd} {D : va_G} {ca : Nat → ClassId} {own : String} {cc : ByteArray} {nL fr lo mc ms : Nat} {ws : va_W} {nc ns : Nat} {pc : Nat} {V : List (Option Value)} {a idx : Nat} (K : Kn x E D ca own cc nL fr lo mc ms) (hlink : Cond.methodLink own idx Lib.objectInit ∈ TB) (hins : Cond.instanceMethod Lib.objectInit ∈ TB) (hcode : Cond.code Lib.objectInit ⟨#[0xb1]⟩ 1 none ∈ TB) (hrm : 1 ≤ fr ∧ 12 ≤ lo) (hd : decode cc pc = .ok (.invokespecial idx, 3)) (kk : Gn x D nL ws nc ns (pc + 3) V []) : Gn x D nL ws nc ns pc V [.ref a] := by
  obtain ⟨p, l, e, R, s, m, args, below, meth, c, A, cells, slots, Q⟩ := x
  obtain ⟨⟨hx, hb, hml, hown, hts⟩, hK, hA, hfr, hlo, hmc, hms, hlk, hAm, hAO⟩ := K
  intro H locs ls hP hD hS hl
  exact W.objInit hx hb hown (hts _ hlink) (hts _ hins) (hts _ hcode) rfl (hl.1.trans hml.symm) rfl hd (by rw [hfr]; exact hrm.1) (by rw [hlo]; exact hrm.2) (kk H locs ls hP hD hS hl)
/-- an array of small numbers -/
theorem n_newa {x : En} {E : Amd} {D : va_G} {ca : Nat → ClassId} {own : String} {cc : ByteArray} {nL fr lo mc ms : Nat} {ws : va_W} {nc ns : Nat} {pc : Nat} {V : List (Option Value)} {rest : List Value} {atype : ArrayType} {ty : FieldType} {n : Int32} (N t0 : Nat) (c0 : ClassId) (K : Kn x E D ca own cc nL fr lo mc ms) (hty : newarray.typeOf atype = ty) (harr : Cond.arrayClass ty ∈ TB) (hns : ∀ C, ty ≠ .object C) (hdv : defaultValue ty = .int 0) (ht0 : (tysOf ca)[t0]? = some (c0, ty)) (hn : ¬ n < 0) (hN : n.toNatClampNeg = N) (hbytes : N * componentBytes ty ≤ 536870912) (hc : nc + 1 ≤ mc ∧ ns + N ≤ ms) (hd : decode cc pc = .ok (.newarray atype, 2)) (kk : ∀ q : Nat, Gn x D nL (ws ++ [(q, .inl (c0, N, .inl (fun _ => 0)))]) (nc + 1) (ns + N) (pc + 2) V (.ref q :: rest)) : Gn x D nL ws nc ns pc V (.int n :: rest) := by
  obtain ⟨p, l, e, R, s, m, args, below, meth, c, A, cells, slots, Q⟩ := x
  obtain ⟨⟨hx, hb, hml, hown, hts⟩, hK, hA, hfr, hlo, hmc, hms, hlk, hAm, hAO⟩ := K
  intro H locs ls hP hD hS hl
  refine va_newa hx hb (by rw [hty]; exact hts _ harr) hty hK hP hD hS hA (a0 := (N, .inl (fun _ => 0))) (fun cA => by rw [hdv]; rfl) hn hN hbytes (by rw [hmc]; exact hc.1) (by rw [hms]; exact hc.2) hd (fun q cA H1 h1 h2 h3 h4 => ?_)
  have e1 : cA = c0 := by
    have g1 := (hK.2 t0 _ ht0).2
    have g2 := (h1.2 (tysOf ca).length (cA, ty) (by simp)).2
    have h3 : va_RA s cA ty = (s.vm.findClass ("[" ++ ty.toString) = some cA) := by
      cases ty <;> first | rfl | exact absurd rfl (hns _)
    have h4 : va_RA s c0 ty = (s.vm.findClass ("[" ++ ty.toString) = some c0) := by
      cases ty <;> first | rfl | exact absurd rfl (hns _)
    have g1' : s.vm.findClass ("[" ++ ty.toString) = some c0 := h4 ▸ g1
    have g2' : s.vm.findClass ("[" ++ ty.toString) = some cA := h3 ▸ g2
    exact Option.some.inj (g2'.symm.trans g1')
  rw [e1] at h2 h3
  exact kk q H1 locs ls h2 h3 h4 hl
/-- an array of references -/
theorem n_newq {x : En} {E : Amd} {D : va_G} {ca : Nat → ClassId} {own : String} {cc : ByteArray} {nL fr lo mc ms : Nat} {ws : va_W} {nc ns : Nat} {pc : Nat} {V : List (Option Value)} {rest : List Value} {C : String} {n : Int32} {index : Nat} (N t0 : Nat) (c0 : ClassId) (K : Kn x E D ca own cc nL fr lo mc ms) (hlink : Cond.classLink own index C ∈ TB) (hover : ∀ U, AO3 U → va_AO C U) (ht0 : (tysOf ca)[t0]? = some (c0, .object C)) (hn : ¬ n < 0) (hN : n.toNatClampNeg = N) (hbytes : N * 4 ≤ 536870912) (hc : nc + 1 ≤ mc ∧ ns + N ≤ ms) (hd : decode cc pc = .ok (.anewarray index, 3)) (kk : ∀ q : Nat, Gn x D nL (ws ++ [(q, .inl (c0, N, .inr (.inr (.inr (.inr (fun _ => none))))))]) (nc + 1) (ns + N) (pc + 3) V (.ref q :: rest)) : Gn x D nL ws nc ns pc V (.int n :: rest) := by
  obtain ⟨p, l, e, R, s, m, args, below, meth, c, A, cells, slots, Q⟩ := x
  obtain ⟨⟨hx, hb, hml, hown, hts⟩, hK, hA, hfr, hlo, hmc, hms, hlk, hAm, hAO⟩ := K
  intro H locs ls hP hD hS hl
  refine va_newq hx hb hown (hts _ hlink) (hover s hAO) hK hP hD hS hA hn hN hbytes (by rw [hmc]; exact hc.1) (by rw [hms]; exact hc.2) hd (fun q cA H1 h1 h2 h3 h4 => ?_)
  have e1 : cA = c0 := by
    obtain ⟨-, -, -, -, -, g1⟩ := (hK.2 t0 _ ht0).2
    obtain ⟨-, -, -, -, -, g2⟩ := (h1.2 (tysOf ca).length (cA, .object C) (by simp)).2
    exact Option.some.inj (g2.symm.trans g1)
  rw [e1] at h2 h3
  exact kk q H1 locs ls h2 h3 h4 hl
theorem n_new {x : En} {E : Amd} {D : va_G} {ca : Nat → ClassId} {own : String} {cc : ByteArray} {nL fr lo mc ms : Nat} {ws : va_W} {nc ns : Nat} {pc : Nat} {V : List (Option Value)} {rest : List Value} {C : String} {T : u_T} {N ci index : Nat} (ty : Nat → FieldType) (fs : List Value) (K : Kn x E D ca own cc nL fr lo mc ms) (hcl : vwCl[ci]? = some (C, T, N)) (hw : ∀ w ∈ u_ws C T N, w ∈ TB) (hty : ∀ k, k < N → parseFieldDescriptor (T k).2.2.1 = some (ty k)) (hlink : Cond.classLink own index C ∈ TB) (hinst : Cond.instantiable C N ∈ TB) (hini : Cond.initialized C ∈ TB) (hfs : ∀ j, j < N → defaultValue (ty j) = vp_V fs j) (hc : nc + 1 ≤ mc ∧ ns + N ≤ ms) (hd : decode cc pc = .ok (.new index, 3)) (kk : ∀ q : Nat, Gn x D nL (ws ++ [(q, .inr (ci, fs))]) (nc + 1) (ns + N) (pc + 3) V (.ref q :: rest)) : Gn x D nL ws nc ns pc V rest := by
  obtain ⟨p, l, e, R, s, m, args, below, meth, c, A, cells, slots, Q⟩ := x
  obtain ⟨⟨hx, hb, hml, hown, hts⟩, hK, hA, hfr, hlo, hmc, hms, hlk, hAm, hAO⟩ := K
  intro H locs ls hP hD hS hl
  exact va_new hx hb hts hw ty hty hown (hts _ hlink) (hts _ hinst) (hts _ hini) hK hP hD hS hA hcl hfs (by rw [hmc]; exact hc.1) (by rw [hms]; exact hc.2) hd (fun q H1 h2 h3 h4 => kk q H1 locs ls h2 h3 h4 hl)
theorem n_get {x : En} {E : Amd} {D : va_G} {ca : Nat → ClassId} {own : String} {cc : ByteArray} {nL fr lo mc ms : Nat} {ws : va_W} {nc ns : Nat} {pc : Nat} {V : List (Option Value)} {rest : List Value} {C ref : String} {T : u_T} {N ci idx a : Nat} {fs : List Value} {v : Value} (q0 j : Nat) (K : Kn x E D ca own cc nL fr lo mc ms) (he : ws[q0]? = some (a, .inr (ci, fs))) (hcl : vwCl[ci]? = some (C, T, N)) (hj : j < N) (hw : ∀ w ∈ u_ws C T N, w ∈ TB) (hlink : Cond.fieldLink own idx ref (T j).2.1 (T j).2.2.1 ∈ TB) (href : (T j).1 = ref) (hv : fs[j]? = some v) (hd : decode cc pc = .ok (.getfield idx, 3)) (kk : Gn x D nL ws nc ns (pc + 3) V (v :: rest)) : Gn x D nL ws nc ns pc V (.ref a :: rest) := by
  obtain ⟨p, l, e, R, s, m, args, below, meth, c, A, cells, slots, Q⟩ := x
  obtain ⟨⟨hx, hb, hml, hown, hts⟩, hK, hA, hfr, hlo, hmc, hms, hlk, hAm, hAO⟩ := K
  intro H locs ls hP hD hS hl
  exact va_get hx hb hts hw hown hK hP q0 he hcl j hj (hts _ hlink) (fun _ q => by rw [← href]; exact q) hv hd (kk H locs ls hP hD hS hl)
theorem n_put {x : En} {E : Amd} {D : va_G} {ca : Nat → ClassId} {own : String} {cc : ByteArray} {nL fr lo mc ms : Nat} {ws : va_W} {nc ns : Nat} {pc : Nat} {V : List (Option Value)} {rest : List Value} {C ref : String} {T : u_T} {N ci idx a : Nat} {fs : List Value} {v : Value} {ty : FieldType} (ty0 : Nat → FieldType) (w2 : va_W) (q0 j : Nat) (K : Kn x E D ca own cc nL fr lo mc ms) (he : ws[q0]? = some (a, .inr (ci, fs))) (hcl : vwCl[ci]? = some (C, T, N)) (hj : j < N) (hw : ∀ w ∈ u_ws C T N, w ∈ TB) (hty : ∀ k, k < N → parseFieldDescriptor (T k).2.2.1 = some (ty0 k)) (hnm : ∀ a, a < N → ∀ b, b < N → a ≠ b → (T a).2.1 ≠ (T b).2.1) (hlink : Cond.fieldLink own idx ref (T j).2.1 (T j).2.2.1 ∈ TB) (href : (T j).1 = ref) (hfin : (T j).2.2.2 = false) (hpd : parseFieldDescriptor (T j).2.2.1 = some ty) (hn : narrow ty v = v) (hfit : fits ty v = true) (hlen : j < fs.length) (hset : ws.set q0 (a, .inr (ci, fs.set j v)) = w2) (hd : decode cc pc = .ok (.putfield idx, 3)) (kk : Gn x D nL w2 nc ns (pc + 3) V rest) : Gn x D nL ws nc ns pc V (v :: .ref a :: rest) := by
  obtain ⟨p, l, e, R, s, m, args, below, meth, c, A, cells, slots, Q⟩ := x
  obtain ⟨⟨hx, hb, hml, hown, hts⟩, hK, hA, hfr, hlo, hmc, hms, hlk, hAm, hAO⟩ := K
  intro H locs ls hP hD hS hl
  subst hset
  exact va_put hx hb hts hw ty0 hty hnm hown hK hP hD hS q0 he hcl j hj (hts _ hlink) (fun _ q => by rw [← href]; exact q) hfin hpd hn hfit hlen hd (fun H1 locs1 h1 h2 h3 => kk H1 locs1 ls h1 h2 h3 hl)
theorem n_putF {x : En} {E : Amd} {D : va_G} {ca : Nat → ClassId} {own : String} {cc : ByteArray} {nL fr lo mc ms : Nat} {ws : va_W} {nc ns : Nat} {pc : Nat} {V : List (Option Value)} {rest : List Value} {C ref : String} {T : u_T} {N ci idx a : Nat} {fs : List Value} {v : Value} {ty : FieldType} (ty0 : Nat → FieldType) (w2 : va_W) (q0 j : Nat) (K : Kn x E D ca own cc nL fr lo mc ms) (hi : Nm x "<init>") (he : ws[q0]? = some (a, .inr (ci, fs))) (hcl : vwCl[ci]? = some (C, T, N)) (hj : j < N) (hw : ∀ w ∈ u_ws C T N, w ∈ TB) (hty : ∀ k, k < N → parseFieldDescriptor (T k).2.2.1 = some (ty0 k)) (hnm : ∀ a, a < N → ∀ b, b < N → a ≠ b → (T a).2.1 ≠ (T b).2.1) (hlink : Cond.fieldLink own idx ref (T j).2.1 (T j).2.2.1 ∈ TB) (href : (T j).1 = ref) (hfin : (T j).2.2.2 = true) (hdecl : (T j).1 = own) (hpd : parseFieldDescriptor (T j).2.2.1 = some ty) (hn : narrow ty v = v) (hfit : fits ty v = true) (hlen : j < fs.length) (hset : ws.set q0 (a, .inr (ci, fs.set j v)) = w2) (hd : decode cc pc = .ok (.putfield idx, 3)) (kk : Gn x D nL w2 nc ns (pc + 3) V rest) : Gn x D nL ws nc ns pc V (v :: .ref a :: rest) := by
  obtain ⟨p, l, e, R, s, m, args, below, meth, c, A, cells, slots, Q⟩ := x
  obtain ⟨⟨hx, hb, hml, hown, hts⟩, hK, hA, hfr, hlo, hmc, hms, hlk, hAm, hAO⟩ := K
  intro H locs ls hP hD hS hl
  subst hset
  exact va_putF hx hb hts hw ty0 hty hnm hown hK hP hD hS q0 he hcl j hj (hts _ hlink) (fun _ q => by rw [← href]; exact q) hfin hi hdecl hpd hn hfit hlen hd (fun H1 locs1 h1 h2 h3 => kk H1 locs1 ls h1 h2 h3 hl)
theorem n_iast {x : En} {E : Amd} {D : va_G} {ca : Nat → ClassId} {own : String} {cc : ByteArray} {nL fr lo mc ms : Nat} {ws : va_W} {nc ns : Nat} {pc : Nat} {V : List (Option Value)} {rest : List Value} {n a : Nat} {i v : Int32} {f : Nat → Int32} (w2 : va_W) (q0 : Nat) (K : Kn x E D ca own cc nL fr lo mc ms) (he : ws[q0]? = some (a, .inl (ca 0, n, .inl f))) (hin : ib i n = true) (hset : ws.set q0 (a, .inl (ca 0, n, .inl (upd f (ix i) v))) = w2) (hd : decode cc pc = .ok (.iastore, 1)) (kk : Gn x D nL w2 nc ns (pc + 1) V rest) : Gn x D nL ws nc ns pc V (.int v :: .int i :: .ref a :: rest) := by
  obtain ⟨p, l, e, R, s, m, args, below, meth, c, A, cells, slots, Q⟩ := x
  obtain ⟨⟨hx, hb, hml, hown, hts⟩, hK, hA, hfr, hlo, hmc, hms, hlk, hAm, hAO⟩ := K
  intro H locs ls hP hD hS hl
  subst hset
  exact va_iast hx hb hK hP hD hS q0 0 he rfl (ib_in hin) hd (fun H1 locs1 h1 h2 h3 => kk H1 locs1 ls h1 h2 h3 hl)
/-- behind a call that makes cells: what is ahead (wf) stays -/
theorem gn_call {p : Program} {l : Launch} {e : Env} {R : Room} {s : State} {m : MethodId} {args : Array Value} {below : List Frame} {meth : Method} {c : Code} {H : Heap} {locs : List Loc} {nc ns mc ms : Nat} {Q : State → Prop} {pc : Nat} {ls : Array Slot} {rest st0 : List Value} {a : Array Value} {A : Nat → Prop} {D : va_G} {wf wc : va_W} {B : Option Value → va_W → Prop}
    (hr : va_Run p l e R s m args below meth c H locs nc ns mc ms (F0 m pc ls st0) rest (QvN D B (va_A wc H.size) a) (va_A wc H.size)) (hP : va_P D vwCl (wf ++ wc) H) (hD : va_D A (wf ++ wc)) (hS : va_S A s.heap H locs) (hA : ∀ q, s.heap.size ≤ q → A q)
    (kk : ∀ (v : Option Value) (w2 : va_W) (H1 : Heap) (locs1 : List Loc), B v w2 → va_P D vwCl (wf ++ w2) H1 → va_D A (wf ++ w2) → va_S A s.heap H1 locs1 → W p l e R s m args below meth c H1 locs1 (nc + mc) (ns + ms) Q (F0 m (pc + 3) ls (v.toList ++ rest))) : W p l e R s m args below meth c H locs nc ns Q (F0 m pc ls st0) := by
  intro T hT X
  obtain ⟨v1, st₀, t, T', Ls, h0, X', hL, e1, e2, ⟨v, w2, hv, hB, hb, hD2, hz, hk⟩, st⟩ := hr T hT X
  cases hv
  rw [h0] at hz hk
  have hF : ∀ q, va_A wc H.size q → A q := fun q hq => by
    rcases hq with ⟨k, x, hx⟩ | hq
    · exact (va_D_mem.mp hD).2 (q, x) (List.mem_append_right _ (List.mem_of_getElem? hx))
    · exact hA q (Nat.le_trans hS.1 hq)
  have apart : ∀ q, q ∈ wf → q.1 < H.size ∧ ¬ va_A wc H.size q.1 := fun q hq => by
    have hl := (va_P_mem.mp hP q (List.mem_append_left _ hq)).lt
    refine ⟨hl, fun h => ?_⟩
    rcases h with ⟨k, x, hx⟩ | h
    · have nd := (va_D_mem.mp hD).1
      rw [List.map_append, List.nodup_append] at nd
      exact nd.2.2 q.1 (List.mem_map_of_mem hq) q.1 (List.mem_map.mpr ⟨(q.1, x), List.mem_of_getElem? hx, rfl⟩) rfl
    · omega
  obtain ⟨t2, a1, b1⟩ := kk v1 w2 T'.heap (locs ++ Ls) hB (by
      rw [e1]
      refine va_P_mem.mpr (fun q hq => ?_)
      rcases List.mem_append.mp hq with h | h
      · exact (va_P_mem.mp hP q (List.mem_append_left _ h)).kept (hk q.1 (apart q h).1 (apart q h).2)
      · exact va_P_mem.mp hb q h) (by
      obtain ⟨g1, g2⟩ := va_D_mem.mp hD
      obtain ⟨f1, f2⟩ := va_D_mem.mp hD2
      rw [List.map_append, List.nodup_append] at g1
      refine va_D_mem.mpr ⟨?_, fun q hq => ?_⟩
      · rw [List.map_append, List.nodup_append]
        refine ⟨g1.1, f1, fun u hu w hw e => ?_⟩
        obtain ⟨q, q1, q2⟩ := List.mem_map.mp hu
        obtain ⟨r, r1, r2⟩ := List.mem_map.mp hw
        exact (apart q q1).2 (by rw [q2, e, ← r2]; exact f2 r r1)
      · rcases List.mem_append.mp hq with h | h
        · exact g2 q (List.mem_append_left _ h)
        · exact hF _ (f2 q h))
    ⟨Nat.le_trans hS.1 (by rw [e1]; exact hz), fun q h1 h2 => by rw [e1, hk q (Nat.lt_of_lt_of_le h1 hS.1) (fun z => h2 (hF q z))]; exact hS.2.1 q h1 h2, fun q hq => by
      rcases List.mem_append.mp hq with h | h
      · exact hS.2.2 q h
      · exact hF _ (hL q h)⟩ T' rfl X'
  exact ⟨t2, st t2 a1, b1⟩
theorem PrN_blind {E : Amd} {D : va_G} {ca : Nat → ClassId} {ws : va_W} {sz : Nat} {av : List Value} : FrameBlind (va_Pc av (PrN E D ca ws sz)) := fun a U g mk q => by
  obtain ⟨q0, q1, qP, qK, qD, qm, qa⟩ := q
  exact ⟨q0, q1, qP, va_K.moved (u := U) (U := U.calling g mk a) (Vm.Alike.refl U.vm) qK, qD, qm.blind, AO3.moved (u := U) (U := U.calling g mk a) (Vm.Alike.refl U.vm) qa⟩
theorem prN_at {E : Amd} {D : va_G} {ca : Nat → ClassId} {wf wc : va_W} {s : State} {A : Nat → Prop} {H : Heap} {locs : List Loc} (hP : va_P D vwCl (wf ++ wc) H) (hD : va_D A (wf ++ wc)) (hS : va_S A s.heap H locs) (hA : ∀ q, s.heap.size ≤ q → A q) (hK : va_K D vwCl (tysOf ca) s) (hAm : Amb E A s s.heap) (hAO : AO3 s) : ∀ U : State, U.heap = H → s.WarmedH U.vm → PrN E D ca wc H.size U := fun U hU hW => by
  refine ⟨by rw [hU], by rw [hU]; exact va_P_mem.mpr (fun q hq => va_P_mem.mp hP q (List.mem_append_right _ hq)), va_K.moved hW.alike hK, ?_, hAm.go hS (fun q hq => ?_) hU hW, hAO.moved hW.alike⟩
  · obtain ⟨g1, g2⟩ := va_D_mem.mp hD
    rw [List.map_append, List.nodup_append] at g1
    exact va_D_mem.mpr ⟨g1.2.1, fun _ _ => trivial⟩
  · rcases hq with ⟨k, x, hx⟩ | hq
    · exact (va_D_mem.mp hD).2 (q, x) (List.mem_append_right _ (List.mem_of_getElem? hx))
    · exact hA q (Nat.le_trans hS.1 hq)
/-- a constructor is called -/
theorem n_callI {x : En} {E : Amd} {D : va_G} {ca : Nat → ClassId} {own : String} {cc : ByteArray} {nL fr lo mc ms : Nat} {nc ns : Nat} {pc : Nat} {V : List (Option Value)} {rest : List Value} {y : MethodName} {c2 : ByteArray} {nL2 n idx fr2 lo2 mc2 ms2 a : Nat} {B : Option Value → va_W → Prop} (wf wc : va_W) (As : List Value) (K : Kn x E D ca own cc nL fr lo mc ms) (hC : Cn x.2.1 E D ca y c2 nL2 none fr2 lo2 mc2 ms2 (.ref a :: As) wc B) (hcode : Cond.code y c2 nL2 none ∈ TB) (hini : Cond.initialized y.cls ∈ TB) (hlink : Cond.methodLink own idx y ∈ TB) (hins : Cond.instanceMethod y ∈ TB) (hy : y.name = "<init>") (hyc : y.cls ≠ "java/lang/invoke/MethodHandle" ∧ y.cls ≠ "java/lang/invoke/VarHandle" ∧ (parseMethodDescriptor y.desc).map (fun d => d.parameters.length) = some n) (hn : As.length = n) (hrm : fr2 + 1 ≤ fr ∧ 8 + (nL2 + 11) + lo2 ≤ lo) (hc : nc + mc2 ≤ mc ∧ ns + ms2 ≤ ms) (hrest : (rest.map fun v => v.category).sum ≤ 8) (st0 : List Value) (hst : st0 = As.reverse ++ .ref a :: rest) (hd : decode cc pc = .ok (.invokespecial idx, 3)) (kk : ∀ (v : Option Value) (w2 : va_W), B v w2 → Gn x D nL (wf ++ w2) (nc + mc2) (ns + ms2) (pc + 3) V (v.toList ++ rest)) : Gn x D nL (wf ++ wc) nc ns pc V st0 := by
  obtain ⟨p, l, e, R, s, m, args, below, meth, c, A, cells, slots, Q⟩ := x
  obtain ⟨⟨hx, hb, hml, hown, hts⟩, hK, hA, hfr, hlo, hmc, hms, hlk, hAm, hAO⟩ := K
  intro H locs ls hP hD hS hl
  have cb : CallB R s args own idx y c2 nL2 none (.code y c2 nL2 none :: TB) { frames := fr2, cells := mc2, slots := ms2, locals := lo2 } mc2 ms2 n := callB_of n hts (cg_in hcode) rfl rfl rfl (hts _ hini) (hts _ hlink) hyc ⟨by rw [hfr]; exact hrm.1, by rw [hlo]; exact hrm.2⟩
  exact gn_call (va_runI (As := As) (rest := rest) ⟨hx, hb, hml, hown, hts⟩ (hC H.size) ⟨cb, hy, hts _ hins⟩ ⟨PrN_blind, fun U hU hW => ⟨rfl, prN_at hP hD hS hA hK hAm hAO U hU hW⟩⟩ rfl hn hl.1 hst (lv_room hrest) hd (by rw [hmc, hms]; exact hc)) hP hD hS hA (fun v w2 H1 locs1 h1 h2 h3 h4 => kk v w2 h1 H1 locs1 ls h2 h3 h4 hl)
theorem n_callIN {x : En} {E : Amd} {D : va_G} {ca : Nat → ClassId} {own host : String} {cc : ByteArray} {nL fr lo mc ms : Nat} {nc ns : Nat} {pc : Nat} {V : List (Option Value)} {rest : List Value} {y : MethodName} {c2 : ByteArray} {nL2 n idx fr2 lo2 mc2 ms2 a : Nat} {B : Option Value → va_W → Prop} (wf wc : va_W) (As : List Value) (K : Kn x E D ca own cc nL fr lo mc ms) (hC : Cn x.2.1 E D ca y c2 nL2 none fr2 lo2 mc2 ms2 (.ref a :: As) wc B) (hcode : Cond.code y c2 nL2 none ∈ TB) (hini : Cond.initialized y.cls ∈ TB) (hlink : (own, idx, y, host) ∈ nestL) (hins : Cond.instanceMethod y ∈ TB) (hy : y.name = "<init>") (hyc : y.cls ≠ "java/lang/invoke/MethodHandle" ∧ y.cls ≠ "java/lang/invoke/VarHandle" ∧ (parseMethodDescriptor y.desc).map (fun d => d.parameters.length) = some n) (hn : As.length = n) (hrm : fr2 + 1 ≤ fr ∧ 8 + (nL2 + 11) + lo2 ≤ lo) (hc : nc + mc2 ≤ mc ∧ ns + ms2 ≤ ms) (hrest : (rest.map fun v => v.category).sum ≤ 8) (st0 : List Value) (hst : st0 = As.reverse ++ .ref a :: rest) (hd : decode cc pc = .ok (.invokespecial idx, 3)) (kk : ∀ (v : Option Value) (w2 : va_W), B v w2 → Gn x D nL (wf ++ w2) (nc + mc2) (ns + ms2) (pc + 3) V (v.toList ++ rest)) : Gn x D nL (wf ++ wc) nc ns pc V st0 := by
  obtain ⟨p, l, e, R, s, m, args, below, meth, c, A, cells, slots, Q⟩ := x
  obtain ⟨⟨hx, hb, hml, hown, hts⟩, hK, hA, hfr, hlo, hmc, hms, hlk, hAm, hAO⟩ := K
  intro H locs ls hP hD hS hl
  have cb : va_CN R s args own idx y host c2 nL2 none (.code y c2 nL2 none :: TB) { frames := fr2, cells := mc2, slots := ms2, locals := lo2 } mc2 ms2 n := va_cnB n hts (cg_in hcode) rfl rfl rfl (hAm.2.2.2.2.2.2 _ hlink) (hts _ hini) hyc ⟨by rw [hfr]; exact hrm.1, by rw [hlo]; exact hrm.2⟩
  exact gn_call (va_runIN (As := As) (rest := rest) ⟨hx, hb, hml, hown, hts⟩ (hC H.size) ⟨cb, hy, hts _ hins⟩ ⟨PrN_blind, fun U hU hW => ⟨rfl, prN_at hP hD hS hA hK hAm hAO U hU hW⟩⟩ rfl hn hl.1 hst (lv_room hrest) hd (by rw [hmc, hms]; exact hc)) hP hD hS hA (fun v w2 H1 locs1 h1 h2 h3 h4 => kk v w2 h1 H1 locs1 ls h2 h3 h4 hl)

theorem n_iconst {x : En} {E : Amd} {D : va_G} {ca : Nat → ClassId} {own : String} {cc : ByteArray} {nL fr lo mc ms : Nat} {ws : va_W} {nc ns : Nat} {pc : Nat} {V : List (Option Value)} {rest : List Value} (K : Kn x E D ca own cc nL fr lo mc ms) {n : Int} (v : Int32) (hd : decode cc pc = .ok (.iconst n, 1)) (hv : Int32.ofInt n = v) (k : Gn x D nL ws nc ns (pc + 1) V (.int v :: rest)) : Gn x D nL ws nc ns (pc) V (rest) := by
  obtain ⟨p, l, e, R, s, m, args, below, meth, c, A, cells, slots, Q⟩ := x
  obtain ⟨⟨hx, hb, hml, hown, hts⟩, hK, hA, hfr, hlo, hmc, hms, hlk, hAm, hAO⟩ := K
  intro H locs ls hP hD hS hl
  exact lv_iconst hx hb hd hv (k H locs ls hP hD hS hl)
theorem n_bipush {x : En} {E : Amd} {D : va_G} {ca : Nat → ClassId} {own : String} {cc : ByteArray} {nL fr lo mc ms : Nat} {ws : va_W} {nc ns : Nat} {pc : Nat} {V : List (Option Value)} {rest : List Value} (K : Kn x E D ca own cc nL fr lo mc ms) {n : Int} (v : Int32) (hd : decode cc pc = .ok (.bipush n, 2)) (hv : (Int8.ofInt n).toInt32 = v) (k : Gn x D nL ws nc ns (pc + 2) V (.int v :: rest)) : Gn x D nL ws nc ns (pc) V (rest) := by
  obtain ⟨p, l, e, R, s, m, args, below, meth, c, A, cells, slots, Q⟩ := x
  obtain ⟨⟨hx, hb, hml, hown, hts⟩, hK, hA, hfr, hlo, hmc, hms, hlk, hAm, hAO⟩ := K
  intro H locs ls hP hD hS hl
  exact lv_bipush hx hb hd hv (k H locs ls hP hD hS hl)
theorem n_sipush {x : En} {E : Amd} {D : va_G} {ca : Nat → ClassId} {own : String} {cc : ByteArray} {nL fr lo mc ms : Nat} {ws : va_W} {nc ns : Nat} {pc : Nat} {V : List (Option Value)} {rest : List Value} (K : Kn x E D ca own cc nL fr lo mc ms) {n : Int} (v : Int32) (hd : decode cc pc = .ok (.sipush n, 3)) (hv : (Int16.ofInt n).toInt32 = v) (k : Gn x D nL ws nc ns (pc + 3) V (.int v :: rest)) : Gn x D nL ws nc ns (pc) V (rest) := by
  obtain ⟨p, l, e, R, s, m, args, below, meth, c, A, cells, slots, Q⟩ := x
  obtain ⟨⟨hx, hb, hml, hown, hts⟩, hK, hA, hfr, hlo, hmc, hms, hlk, hAm, hAO⟩ := K
  intro H locs ls hP hD hS hl
  exact lv_sipush hx hb hd hv (k H locs ls hP hD hS hl)
theorem n_dup {x : En} {E : Amd} {D : va_G} {ca : Nat → ClassId} {own : String} {cc : ByteArray} {nL fr lo mc ms : Nat} {ws : va_W} {nc ns : Nat} {pc : Nat} {V : List (Option Value)} {rest : List Value} (K : Kn x E D ca own cc nL fr lo mc ms) {v : Value} (hd : decode cc pc = .ok (.dup, 1)) (hv : v.category = 1) (k : Gn x D nL ws nc ns (pc + 1) V (v :: v :: rest)) : Gn x D nL ws nc ns (pc) V (v :: rest) := by
  obtain ⟨p, l, e, R, s, m, args, below, meth, c, A, cells, slots, Q⟩ := x
  obtain ⟨⟨hx, hb, hml, hown, hts⟩, hK, hA, hfr, hlo, hmc, hms, hlk, hAm, hAO⟩ := K
  intro H locs ls hP hD hS hl
  exact lv_dup hx hb hd hv (k H locs ls hP hD hS hl)
theorem n_ldc {x : En} {E : Amd} {D : va_G} {ca : Nat → ClassId} {own : String} {cc : ByteArray} {nL fr lo mc ms : Nat} {ws : va_W} {nc ns : Nat} {pc : Nat} {V : List (Option Value)} {rest : List Value} (K : Kn x E D ca own cc nL fr lo mc ms) {i : Nat} {v : Int32} (hc : Cond.constant own i v ∈ TB) (hd : decode cc pc = .ok (.ldc i, 2)) (k : Gn x D nL ws nc ns (pc + 2) V (.int v :: rest)) : Gn x D nL ws nc ns (pc) V (rest) := by
  obtain ⟨p, l, e, R, s, m, args, below, meth, c, A, cells, slots, Q⟩ := x
  obtain ⟨⟨hx, hb, hml, hown, hts⟩, hK, hA, hfr, hlo, hmc, hms, hlk, hAm, hAO⟩ := K
  intro H locs ls hP hD hS hl
  exact lv_ldc hx hb hown (hts _ hc) hd (k H locs ls hP hD hS hl)
theorem n_iload_n {x : En} {E : Amd} {D : va_G} {ca : Nat → ClassId} {own : String} {cc : ByteArray} {nL fr lo mc ms : Nat} {ws : va_W} {nc ns : Nat} {pc : Nat} {V : List (Option Value)} {rest : List Value} (K : Kn x E D ca own cc nL fr lo mc ms) {q : Fin 4} (i : Nat) {a : Int32} (hd : decode cc pc = .ok (.iload_n q, 1)) (hi0 : (q : Nat) = i) (hv : V[i]? = some (some (.int a))) (k : Gn x D nL ws nc ns (pc + 1) V (.int a :: rest)) : Gn x D nL ws nc ns (pc) V (rest) := by
  obtain ⟨p, l, e, R, s, m, args, below, meth, c, A, cells, slots, Q⟩ := x
  obtain ⟨⟨hx, hb, hml, hown, hts⟩, hK, hA, hfr, hlo, hmc, hms, hlk, hAm, hAO⟩ := K
  intro H locs ls hP hD hS hl
  exact lv_iload_n hx hb hd hi0 (hl.2.2 i _ hv) (k H locs ls hP hD hS hl)
theorem n_aload_n {x : En} {E : Amd} {D : va_G} {ca : Nat → ClassId} {own : String} {cc : ByteArray} {nL fr lo mc ms : Nat} {ws : va_W} {nc ns : Nat} {pc : Nat} {V : List (Option Value)} {rest : List Value} (K : Kn x E D ca own cc nL fr lo mc ms) {q : Fin 4} (i : Nat) {a : Nat} (hd : decode cc pc = .ok (.aload_n q, 1)) (hi0 : (q : Nat) = i) (hv : V[i]? = some (some (.ref a))) (k : Gn x D nL ws nc ns (pc + 1) V (.ref a :: rest)) : Gn x D nL ws nc ns (pc) V (rest) := by
  obtain ⟨p, l, e, R, s, m, args, below, meth, c, A, cells, slots, Q⟩ := x
  obtain ⟨⟨hx, hb, hml, hown, hts⟩, hK, hA, hfr, hlo, hmc, hms, hlk, hAm, hAO⟩ := K
  intro H locs ls hP hD hS hl
  exact lv_aload_n hx hb hd hi0 (hl.2.2 i _ hv) (k H locs ls hP hD hS hl)
theorem n_iload {x : En} {E : Amd} {D : va_G} {ca : Nat → ClassId} {own : String} {cc : ByteArray} {nL fr lo mc ms : Nat} {ws : va_W} {nc ns : Nat} {pc : Nat} {V : List (Option Value)} {rest : List Value} (K : Kn x E D ca own cc nL fr lo mc ms) (i : Nat) {a : Int32} (hd : decode cc pc = .ok (.iload i, 2)) (hv : V[i]? = some (some (.int a))) (k : Gn x D nL ws nc ns (pc + 2) V (.int a :: rest)) : Gn x D nL ws nc ns (pc) V (rest) := by
  obtain ⟨p, l, e, R, s, m, args, below, meth, c, A, cells, slots, Q⟩ := x
  obtain ⟨⟨hx, hb, hml, hown, hts⟩, hK, hA, hfr, hlo, hmc, hms, hlk, hAm, hAO⟩ := K
  intro H locs ls hP hD hS hl
  exact lv_iload hx hb hd (hl.2.2 i _ hv) (k H locs ls hP hD hS hl)
theorem n_aload {x : En} {E : Amd} {D : va_G} {ca : Nat → ClassId} {own : String} {cc : ByteArray} {nL fr lo mc ms : Nat} {ws : va_W} {nc ns : Nat} {pc : Nat} {V : List (Option Value)} {rest : List Value} (K : Kn x E D ca own cc nL fr lo mc ms) (i : Nat) {a : Nat} (hd : decode cc pc = .ok (.aload i, 2)) (hv : V[i]? = some (some (.ref a))) (k : Gn x D nL ws nc ns (pc + 2) V (.ref a :: rest)) : Gn x D nL ws nc ns (pc) V (rest) := by
  obtain ⟨p, l, e, R, s, m, args, below, meth, c, A, cells, slots, Q⟩ := x
  obtain ⟨⟨hx, hb, hml, hown, hts⟩, hK, hA, hfr, hlo, hmc, hms, hlk, hAm, hAO⟩ := K
  intro H locs ls hP hD hS hl
  exact lv_aload hx hb hd (hl.2.2 i _ hv) (k H locs ls hP hD hS hl)
theorem n_istore_n {x : En} {E : Amd} {D : va_G} {ca : Nat → ClassId} {own : String} {cc : ByteArray} {nL fr lo mc ms : Nat} {ws : va_W} {nc ns : Nat} {pc : Nat} {V : List (Option Value)} {rest : List Value} (K : Kn x E D ca own cc nL fr lo mc ms) {q : Fin 4} (i : Nat) {a : Int32} (V2 : List (Option Value)) (hd : decode cc pc = .ok (.istore_n q, 1)) (hi0 : (q : Nat) = i) (hn : i < nL) (ho : okS V i = true) (hV : V.set i (some (.int a)) = V2) (k : Gn x D nL ws nc ns (pc + 1) V2 (rest)) : Gn x D nL ws nc ns (pc) V (.int a :: rest) := by
  obtain ⟨p, l, e, R, s, m, args, below, meth, c, A, cells, slots, Q⟩ := x
  obtain ⟨⟨hx, hb, hml, hown, hts⟩, hK, hA, hfr, hlo, hmc, hms, hlk, hAm, hAO⟩ := K
  intro H locs ls hP hD hS hl
  exact lv_istore_n hx hb hd hi0 hl.has hn rfl (fun ls2 h2 => k H locs ls2 hP hD hS (LH.st1 h2 ho hV))
theorem n_astore_n {x : En} {E : Amd} {D : va_G} {ca : Nat → ClassId} {own : String} {cc : ByteArray} {nL fr lo mc ms : Nat} {ws : va_W} {nc ns : Nat} {pc : Nat} {V : List (Option Value)} {rest : List Value} (K : Kn x E D ca own cc nL fr lo mc ms) {q : Fin 4} (i : Nat) {a : Nat} (V2 : List (Option Value)) (hd : decode cc pc = .ok (.astore_n q, 1)) (hi0 : (q : Nat) = i) (hn : i < nL) (ho : okS V i = true) (hV : V.set i (some (.ref a)) = V2) (k : Gn x D nL ws nc ns (pc + 1) V2 (rest)) : Gn x D nL ws nc ns (pc) V (.ref a :: rest) := by
  obtain ⟨p, l, e, R, s, m, args, below, meth, c, A, cells, slots, Q⟩ := x
  obtain ⟨⟨hx, hb, hml, hown, hts⟩, hK, hA, hfr, hlo, hmc, hms, hlk, hAm, hAO⟩ := K
  intro H locs ls hP hD hS hl
  exact lv_astore_n hx hb hd hi0 hl.has hn rfl (fun ls2 h2 => k H locs ls2 hP hD hS (LH.st1 h2 ho hV))
theorem n_iinc {x : En} {E : Amd} {D : va_G} {ca : Nat → ClassId} {own : String} {cc : ByteArray} {nL fr lo mc ms : Nat} {ws : va_W} {nc ns : Nat} {pc : Nat} {V : List (Option Value)} {rest : List Value} (K : Kn x E D ca own cc nL fr lo mc ms) (i : Nat) {n : Int} {a : Int32} (v : Int32) (V2 : List (Option Value)) (hd : decode cc pc = .ok (.iinc i n, 3)) (hv0 : V[i]? = some (some (.int a))) (hv : a + Int32.ofInt n = v) (hn : i < nL) (ho : okS V i = true) (hV : V.set i (some (.int v)) = V2) (k : Gn x D nL ws nc ns (pc + 3) V2 (rest)) : Gn x D nL ws nc ns (pc) V (rest) := by
  obtain ⟨p, l, e, R, s, m, args, below, meth, c, A, cells, slots, Q⟩ := x
  obtain ⟨⟨hx, hb, hml, hown, hts⟩, hK, hA, hfr, hlo, hmc, hms, hlk, hAm, hAO⟩ := K
  intro H locs ls hP hD hS hl
  obtain ⟨k0, hk0⟩ := List.getElem?_of_mem ((vl_mem (q := (i, Value.int a))).mpr hv0)
  exact lv_iinc hx hb hd hl.has hk0 hv hn rfl (fun ls2 h2 => k H locs ls2 hP hD hS (LH.st1 h2 ho hV))
theorem n_icmp_ge {x : En} {E : Amd} {D : va_G} {ca : Nat → ClassId} {own : String} {cc : ByteArray} {nL fr lo mc ms : Nat} {ws : va_W} {nc ns : Nat} {pc : Nat} {V : List (Option Value)} {rest : List Value} (K : Kn x E D ca own cc nL fr lo mc ms) {a b : Int32} {off : Int} (tgt : Nat) (hd : decode cc pc = .ok (.if_icmp .ge off, 3)) (ht : (pc : Int) + off = (tgt : Int)) (kt : b ≤ a → Gn x D nL ws nc ns (tgt) V (rest)) (kf : ¬ (b ≤ a) → Gn x D nL ws nc ns (pc + 3) V (rest)) : Gn x D nL ws nc ns (pc) V (.int b :: .int a :: rest) := by
  obtain ⟨p, l, e, R, s, m, args, below, meth, c, A, cells, slots, Q⟩ := x
  obtain ⟨⟨hx, hb, hml, hown, hts⟩, hK, hA, hfr, hlo, hmc, hms, hlk, hAm, hAO⟩ := K
  intro H locs ls hP hD hS hl
  exact lv_icmp_ge hx hb hd ht (fun q => kt q H locs ls hP hD hS hl) (fun q => kf q H locs ls hP hD hS hl)
theorem n_goto {x : En} {E : Amd} {D : va_G} {ca : Nat → ClassId} {own : String} {cc : ByteArray} {nL fr lo mc ms : Nat} {ws : va_W} {nc ns : Nat} {pc : Nat} {V : List (Option Value)} {rest : List Value} (K : Kn x E D ca own cc nL fr lo mc ms) {off : Int} (tgt : Nat) (hd : decode cc pc = .ok (.goto off, 3)) (ht : (pc : Int) + off = (tgt : Int)) (k : Gn x D nL ws nc ns (tgt) V (rest)) : Gn x D nL ws nc ns (pc) V (rest) := by
  obtain ⟨p, l, e, R, s, m, args, below, meth, c, A, cells, slots, Q⟩ := x
  obtain ⟨⟨hx, hb, hml, hown, hts⟩, hK, hA, hfr, hlo, hmc, hms, hlk, hAm, hAO⟩ := K
  intro H locs ls hP hD hS hl
  exact lv_goto hx hb hd ht (k H locs ls hP hD hS hl)
theorem n_iadd {x : En} {E : Amd} {D : va_G} {ca : Nat → ClassId} {own : String} {cc : ByteArray} {nL fr lo mc ms : Nat} {ws : va_W} {nc ns : Nat} {pc : Nat} {V : List (Option Value)} {rest : List Value} (K : Kn x E D ca own cc nL fr lo mc ms) {a b : Int32} (hd : decode cc pc = .ok (.iadd, 1))  (k : Gn x D nL ws nc ns (pc + 1) V (.int (a + b) :: rest)) : Gn x D nL ws nc ns (pc) V (.int b :: .int a :: rest) := by
  obtain ⟨p, l, e, R, s, m, args, below, meth, c, A, cells, slots, Q⟩ := x
  obtain ⟨⟨hx, hb, hml, hown, hts⟩, hK, hA, hfr, hlo, hmc, hms, hlk, hAm, hAO⟩ := K
  intro H locs ls hP hD hS hl
  exact lv_iadd hx hb hd  (k H locs ls hP hD hS hl)
theorem n_imul {x : En} {E : Amd} {D : va_G} {ca : Nat → ClassId} {own : String} {cc : ByteArray} {nL fr lo mc ms : Nat} {ws : va_W} {nc ns : Nat} {pc : Nat} {V : List (Option Value)} {rest : List Value} (K : Kn x E D ca own cc nL fr lo mc ms) {a b : Int32} (hd : decode cc pc = .ok (.imul, 1))  (k : Gn x D nL ws nc ns (pc + 1) V (.int (a * b) :: rest)) : Gn x D nL ws nc ns (pc) V (.int b :: .int a :: rest) := by
  obtain ⟨p, l, e, R, s, m, args, below, meth, c, A, cells, slots, Q⟩ := x
  obtain ⟨⟨hx, hb, hml, hown, hts⟩, hK, hA, hfr, hlo, hmc, hms, hlk, hAm, hAO⟩ := K
  intro H locs ls hP hD hS hl
  exact lv_imul hx hb hd  (k H locs ls hP hD hS hl)
