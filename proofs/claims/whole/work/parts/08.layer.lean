/-! THE LAYER: a memory M of rows of ints (region k, place j), a layout that says which cell region k is, the judgement Go (the machine at pc, with locals V and stack st, in a heap that holds M, comes to its end), the contract Ct -/
abbrev Mem : Type := Nat → Nat → Int32
abbrev Lay : Type := Nat × (Nat → (Nat → Int32) → va_E)
abbrev ix (i : Int32) : Nat := i.toNatClampNeg
def up (M : Mem) (k : Nat) (r : Nat → Int32) : Mem := fun j => if j = k then r else M j
def sto (M : Mem) (k i : Nat) (v : Int32) : Mem := up M k (upd (M k) i v)
def ib (i : Int32) (n : Nat) : Bool := decide (0 ≤ i.toInt) && decide (i.toInt < (n : Int))
def gd {α : Type} (b : Bool) (k : Option α) : Option α := match b with
  | true => k
  | false => none
def nm {α β : Type} (a : α) (k : α → Option β) : Option β := k a
def bd {α β : Type} (o : Option α) (k : α → Option β) : Option β := match o with
  | some a => k a
  | none => none
def bd2 {α β γ : Type} (o : Option (α × β)) (k : α → β → Option γ) : Option γ := match o with
  | some q => k q.1 q.2
  | none => none
def rd {β : Type} (M : Mem) (k n : Nat) (i : Int32) (f : Int32 → Option β) : Option β := match ib i n with
  | true => f (M k (ix i))
  | false => none
def wr {β : Type} (M : Mem) (k n : Nat) (i v : Int32) (f : Mem → Option β) : Option β := match ib i n with
  | true => f (sto M k (ix i) v)
  | false => none
theorem rd_e {β : Type} {M : Mem} {k n : Nat} {i : Int32} {f : Int32 → Option β} {v : β} (h : rd M k n i f = some v) : ib i n = true ∧ ∃ y, M k (ix i) = y ∧ f y = some v := by
  unfold rd at h
  cases hb : ib i n with
  | true => rw [hb] at h; exact ⟨rfl, _, rfl, h⟩
  | false => rw [hb] at h; cases h
theorem wr_e {β : Type} {M : Mem} {k n : Nat} {i u : Int32} {f : Mem → Option β} {v : β} (h : wr M k n i u f = some v) : ib i n = true ∧ ∃ y, sto M k (ix i) u = y ∧ f y = some v := by
  unfold wr at h
  cases hb : ib i n with
  | true => rw [hb] at h; exact ⟨rfl, _, rfl, h⟩
  | false => rw [hb] at h; cases h
theorem bd2_e {α β γ : Type} {o : Option (α × β)} {k : α → β → Option γ} {v : γ} (h : bd2 o k = some v) : ∃ a b, o = some (a, b) ∧ k a b = some v := by
  cases o with
  | none => cases h
  | some q => exact ⟨q.1, q.2, rfl, h⟩
def bz (a : Int32) : Bool := decide (a = 0) || decide (a = 1)
theorem bz_n {a : Int32} (h : bz a = true) : narrow .boolean (.int a) = .int a := by
  rw [bz, Bool.or_eq_true, decide_eq_true_eq, decide_eq_true_eq] at h
  rcases h with rfl | rfl <;> rfl
theorem inc_e {n : Int} {c a y : Int32} (h : Int32.ofInt n = c) (e : a + c = y) : a + Int32.ofInt n = y := by rw [h]; exact e
theorem gd_e {α : Type} {b : Bool} {k : Option α} {v : α} (h : gd b k = some v) : b = true ∧ k = some v := by
  cases b with
  | true => exact ⟨rfl, h⟩
  | false => cases h
theorem nm_o {α β : Type} {a : α} {k : α → Option β} {v : β} (h : nm a k = some v) : ∃ y, a = y ∧ k y = some v := ⟨a, rfl, h⟩
theorem bd_e {α β : Type} {o : Option α} {k : α → Option β} {v : β} (h : bd o k = some v) : ∃ a, o = some a ∧ k a = some v := by
  cases o with
  | none => cases h
  | some a => exact ⟨a, rfl, h⟩
theorem ip {α : Type} {c : Prop} [Decidable c] {a b r : α} (h : c) (hf : (if c then a else b) = r) : a = r := by rw [if_pos h] at hf; exact hf
theorem im {α : Type} {c : Prop} [Decidable c] {a b r : α} (h : ¬ c) (hf : (if c then a else b) = r) : b = r := by rw [if_neg h] at hf; exact hf
theorem ib_in {i : Int32} {n : Nat} (h : ib i n = true) : vp_in i n := by
  rw [ib, Bool.and_eq_true, decide_eq_true_eq, decide_eq_true_eq] at h
  exact vp_in_iff.mpr h
def wsOf (h : Nat → Nat) (L : Lay) (M : Mem) : va_W := (List.range L.1).map (fun k => (h k, L.2 k (M k)))
theorem wsOf_at {h : Nat → Nat} {L : Lay} {M : Mem} {k : Nat} (hk : k < L.1) : (wsOf h L M)[k]? = some (h k, L.2 k (M k)) := by
  simp [wsOf, List.getElem?_map, List.getElem?_range hk]
theorem wsOf_len {h : Nat → Nat} {L : Lay} {M : Mem} : (wsOf h L M).length = L.1 := by simp [wsOf]
theorem wsOf_get {h : Nat → Nat} {L : Lay} {M : Mem} {k : Nat} {q : Nat × va_E} (hq : (wsOf h L M)[k]? = some q) : k < L.1 ∧ q = (h k, L.2 k (M k)) := by
  have hk : k < L.1 := by
    have h1 := (List.getElem?_eq_some_iff.mp hq).1
    rwa [wsOf_len] at h1
  rw [wsOf_at hk] at hq
  exact ⟨hk, (Option.some.inj hq).symm⟩
theorem up_s {M : Mem} {k : Nat} {r : Nat → Int32} : up M k r k = r := if_pos rfl
theorem up_n {M : Mem} {k j : Nat} {r : Nat → Int32} (h : j ≠ k) : up M k r j = M j := if_neg h
theorem wsOf_set {h : Nat → Nat} {L : Lay} {M : Mem} {k : Nat} {r : Nat → Int32} {e : va_E} (hk : k < L.1) (he : L.2 k r = e) : (wsOf h L M).set k (h k, e) = wsOf h L (up M k r) := by
  apply List.ext_getElem?
  intro j
  rw [List.getElem?_set]
  by_cases hj : k = j
  · subst hj
    rw [if_pos rfl, wsOf_at hk, up_s, he, if_pos (by rw [wsOf_len]; exact hk)]
  · rw [if_neg hj]
    by_cases hl : j < L.1
    · rw [wsOf_at hl, wsOf_at hl, up_n (fun q => hj q.symm)]
    · rw [List.getElem?_eq_none (by rw [wsOf_len]; omega), List.getElem?_eq_none (by rw [wsOf_len]; omega)]
def Inj (h : Nat → Nat) (n : Nat) : Prop := ∀ i j, i < n → j < n → h i = h j → i = j
theorem wsOf_D {h : Nat → Nat} {L : Lay} {M : Mem} {A : Nat → Prop} (hi : Inj h L.1) (hA : ∀ k, k < L.1 → A (h k)) : va_D A (wsOf h L M) := by
  refine ⟨fun i j p q hp hq e => ?_, fun k q hq => ?_⟩
  · obtain ⟨h1, rfl⟩ := wsOf_get hp
    obtain ⟨h2, rfl⟩ := wsOf_get hq
    exact hi i j h1 h2 e
  · obtain ⟨h1, rfl⟩ := wsOf_get hq
    exact hA k h1
def Ad (h : Nat → Nat) (n sz : Nat) : Nat → Prop := fun q => (∃ k, k < n ∧ q = h k) ∨ sz ≤ q
/-- the tables' words that stay good at a call -/
def TB : List Cond := lw_tbl.filter goodWord
theorem TB_good : GoodIn TB TB := fun w hw => ⟨hw, good_of_word (List.mem_filter.mp hw).2⟩
theorem TB_sub : ∀ w ∈ TB, w ∈ lw_tbl := fun w hw => (List.mem_filter.mp hw).1
theorem TB_t {w : Cond} (i : Nat) (h : tables_1[i]? = some w) (g : goodWord w = true) : w ∈ TB := List.mem_filter.mpr ⟨List.mem_append_right _ (List.mem_of_getElem? h), g⟩
theorem TB_p {w : Cond} (i : Nat) (h : (k2_sels lw_privs)[i]? = some w) (g : goodWord w = true) : w ∈ TB := List.mem_filter.mpr ⟨List.mem_append_left _ (List.mem_of_getElem? h), g⟩
/-! what stands outside: the reader's String constants, Kinds.ABOVE, two statics of the JDK; E: their addresses -/
abbrev Amd : Type := (Nat → Nat) × (Nat → Nat) × Nat
def poolS : List (Nat × String) := [(66, "lets"), (74, "gust"), (76, "fine"), (126, "w"), (128, "f"), (130, "g"), (132, "o"), (134, "s"), (136, "m"), (117, "!"), (119, "("), (124, ")"), (78, "|"), (80, "&"), (82, "<=>"), (84, "+-"), (86, "*/")]
def lenS : List Nat := [4, 4, 4, 1, 1, 1, 1, 1, 1, 1, 1, 1, 1, 1, 3, 2, 2]
def bytS : List (List Int32) := [[108, 101, 116, 115], [103, 117, 115, 116], [102, 105, 110, 101], [119], [102], [103], [111], [115], [109], [33], [40], [41], [124], [38], [60, 61, 62], [43, 45], [42, 47]]
def aboveV (j : Nat) : Int32 := ([-1, 0, 0, 1, 2, 0] : List Int32).getD j 0
def nestL : List (String × Nat × MethodName × String) := [(RX9, 21, yX8_init, "OneDraught"), (RX9, 28, yX4_init, "OneDraught"), (RX9, 49, yX6_init, "OneDraught"), (RX9, 50, yX7_init, "OneDraught"), (RX0, 35, yX9_isWithin, "OneDraught"), (RX1, 11, yX0_init, "OneDraught"), (RX1, 137, yX9_heldWithin, "OneDraught"), (RX2, 9, yX9_isWithin, "OneDraught"), (RX5, 48, yX9_isWithin, "OneDraught"), (RX5, 64, yX9_heldWithin, "OneDraught"), (RX6, 34, yX9_isWithin, "OneDraught"), (RX7, 15, yX6_init, "OneDraught")]
def Amb (E : Amd) (A : Nat → Prop) (U : State) (H : Heap) : Prop := vk_S 17 lenS bytS E.1 E.2.1 A U H ∧ (∀ (i : Nat) (q : Nat × String), poolS[i]? = some q → vk_R RX4 q.1 q.2 (E.1 i) U) ∧ va_Z RX2 "ABOVE" "[I" (.ref E.2.2) A U H ∧ va_T .int E.2.2 6 (fun j => .int (aboveV j)) A U H ∧ va_Z RJ0 "COMPACT_STRINGS" "Z" (.int 1) A U H ∧ va_Zq RJ3 "SIOOBE_FORMATTER" "Ljava/util/function/BiFunction;" A U H ∧ ∀ q ∈ nestL, va_Nw (.methodLinkNest q.1 q.2.1 q.2.2.1 q.2.2.2) U
theorem Amb.go {E : Amd} {A B : Nat → Prop} {s U : State} {H : Heap} {locs : List Loc} (h : Amb E A s s.heap) (hS : va_S A s.heap H locs) (hAB : ∀ q, B q → A q) (hU : U.heap = H) (hW : s.WarmedH U.vm) : Amb E B U U.heap := by
  obtain ⟨h1, h2, h3, h4, h5, h6, h7⟩ := h
  rw [hU]
  exact ⟨((h1.kept hS.2.1).narrow hAB).moved hW.alike, fun i q hq => (h2 i q hq).warm hW, ((h3.kept hS.2.1).narrow hAB).moved hW.alike, ((h4.kept hS.2.1).narrow hAB).moved hW.alike, ((h5.kept hS.2.1).narrow hAB).moved hW.alike, ((h6.kept hS.2.1).narrow hAB).moved hW.alike, fun q hq => (h7 q hq).warmM hW⟩
theorem Amb.blind {E : Amd} {A : Nat → Prop} {U : State} {g : JFrame} {mk : MethodId} {a : Array Value} (h : Amb E A U U.heap) : Amb E A (U.calling g mk a) (U.calling g mk a).heap := by
  obtain ⟨h1, h2, h3, h4, h5, h6, h7⟩ := h
  exact ⟨h1.moved (Vm.Alike.refl U.vm), fun i q hq => (h2 i q hq).same rfl, h3.moved (Vm.Alike.refl U.vm), h4.moved (Vm.Alike.refl U.vm), h5.moved (Vm.Alike.refl U.vm), h6.moved (Vm.Alike.refl U.vm), fun q hq => (h7 q hq).same rfl rfl⟩
/-- the machine's part: program, launch, environment, room, state at entry, method, arguments, frames below, its method and code, which cells are its own, cells and slots made, its end -/
abbrev En : Type := Program × Launch × Env × Room × State × MethodId × Array Value × List Frame × Method × Code × (Nat → Prop) × Nat × Nat × (State → Prop)
def LH (ls : Array Slot) (nL : Nat) (V : List (Option Value)) : Prop := ls.size = nL ∧ lv_wf ls ∧ ∀ (i : Nat) (v : Value), V[i]? = some (some v) → ls[i]? = some (.val v)
def Go (x : En) (D : va_G) (tys : List (ClassId × FieldType)) (h : Nat → Nat) (L : Lay) (nL : Nat) (M : Mem) (pc : Nat) (V : List (Option Value)) (st : List Value) : Prop := match x with
  | (p, l, e, R, s, m, args, below, meth, c, A, cells, slots, Q) => ∀ (H : Heap) (locs : List Loc) (ls : Array Slot), va_P D vwCl (wsOf h L M) H → va_S A s.heap H locs → LH ls nL V → W p l e R s m args below meth c H locs cells slots Q (F0 m pc ls st)
def Kx (x : En) (E : Amd) (D : va_G) (tys : List (ClassId × FieldType)) (h : Nat → Nat) (L : Lay) (own : String) (cc : ByteArray) (nL fr lo : Nat) : Prop := match x with
  | (p, _, _, R, s, m, args, _, meth, c, A, cells, slots, _) => CallFix p m c cc nL s args TB own ∧ va_K D vwCl tys s ∧ Inj h L.1 ∧ (∀ k, k < L.1 → A (h k)) ∧ (∀ q, s.heap.size ≤ q → A q) ∧ R.frames = fr ∧ R.locals = lo ∧ meth.locks = false ∧ (cells ≤ R.cells ∧ slots ≤ R.slots) ∧ Amb E A s s.heap
/-- the end of a contract -/
def Qv (v : Option Value) (D : va_G) (h : Nat → Nat) (L : Lay) (M' : Mem) (A : Nat → Prop) : Array Value → State → Outcome → State → Prop := fun _ st oc t => oc = .returned v ∧ va_P D vwCl (wsOf h L M') t.heap ∧ va_F A st t
/-- where the method is to come: its answer v, its memory M' -/
def Rt (x : En) (D : va_G) (h : Nat → Nat) (L : Lay) (ret : Option FieldType) (v : Option Value) (M' : Mem) : Prop := match x with
  | (_, _, _, _, s, _, args, below, meth, _, A, cells, slots, Q) => meth.sig.returnType = ret ∧ Q = MQ below (Qv v D h L M' A) args s cells slots A
def Pr (E : Amd) (D : va_G) (tys : List (ClassId × FieldType)) (h : Nat → Nat) (L : Lay) (M : Mem) (sz : Nat) : State → Prop := fun U => U.heap.size = sz ∧ va_P D vwCl (wsOf h L M) U.heap ∧ va_K D vwCl tys U ∧ Inj h L.1 ∧ Amb E (Ad h L.1 sz) U U.heap
def Ct (l : Launch) (E : Amd) (D : va_G) (tys : List (ClassId × FieldType)) (h : Nat → Nat) (L : Lay) (y : MethodName) (cc : ByteArray) (nL : Nat) (ret : Option FieldType) (fr lo : Nat) (av : List Value) (M : Mem) (v : Option Value) (M' : Mem) : Prop :=
  ∀ sz : Nat, Met l y (.code y cc nL ret :: TB) { frames := fr, cells := 0, slots := 0, locals := lo } (va_Pc av (Pr E D tys h L M sz)) (Qv v D h L M' (Ad h L.1 sz)) 0 0 (Ad h L.1 sz)
/-- a method's contract out of a walk from its entry -/
theorem Ct.mk {l : Launch} {E : Amd} {D : va_G} {tys : List (ClassId × FieldType)} {h : Nat → Nat} {L : Lay} {y : MethodName} {cc : ByteArray} {nL : Nat} {ret : Option FieldType} {fr lo : Nat} {av : List Value} {M : Mem} {v : Option Value} {M' : Mem} (V : List (Option Value))
    (hy : plainName y.cls = true) (hn : (lg_sl av).length ≤ nL) (hV : ∀ (i : Nat) (v : Value), V[i]? = some (some v) → (i, v) ∈ lv_args 0 av)
    (body : ∀ x : En, x.2.1 = l → Kx x E D tys h L y.cls cc nL fr lo → Rt x D h L ret v M' → Go x D tys h L nL M 0 V []) : Ct l E D tys h L y cc nL ret fr lo av M v M' := by
  intro sz
  refine Met.ofW (cc := cc) (maxL := nL) (ret := ret) hy rfl ?_
  intro p e s m args below meth c s₁ B hml hv
  obtain ⟨rfl, hsz, hP, hK, hi, hAm⟩ := hv
  subst hsz
  have hts0 := atoms_spec (ws := .code y cc nL ret :: TB) B.pre
  have hAi : ∀ k, k < L.1 → Ad h L.1 s.heap.size (h k) := fun k hk => Or.inl ⟨k, hk, rfl⟩
  have key := body (p, l, e, (headSpec (.code y cc nL ret :: TB) { frames := fr, cells := 0, slots := 0, locals := lo }).room, s, m, av.toArray, below, meth, c, Ad h L.1 s.heap.size, 0, 0, MQ below (Qv v D h L M' (Ad h L.1 s.heap.size)) av.toArray s 0 0 (Ad h L.1 s.heap.size)) rfl
    ⟨⟨B.exec, B.bytes, hml, findClass_of_methodNamed B.named, fun w hw => hts0 w (List.mem_cons_of_mem _ hw)⟩, hK, hi, hAi, fun q hq => Or.inr hq, rfl, rfl, B.notSynchronized, ⟨Nat.zero_le _, Nat.zero_le _⟩, hAm⟩ ⟨B.returns, rfl⟩
  rw [lg_entry_eq]
  have hl := lv_entry av (n := nL) hn
  exact key s.heap [] _ hP va_S.rf ⟨hl.1, hl.2.1, fun i v hv => hl.2.2 (i, v) (hV i v hv)⟩

theorem o_iadd {x : En} {E : Amd} {D : va_G} {tys : List (ClassId × FieldType)} {h : Nat → Nat} {L : Lay} {own : String} {cc : ByteArray} {nL fr lo : Nat} {M : Mem} {pc : Nat} {V : List (Option Value)} {rest : List Value} (K : Kx x E D tys h L own cc nL fr lo) {a b : Int32} (hd : decode cc pc = .ok (.iadd, 1))  (k : Go x D tys h L nL M (pc + 1) V (.int (a + b) :: rest)) : Go x D tys h L nL M (pc) V (.int b :: .int a :: rest) := by
  obtain ⟨p, l, e, R, s, m, args, below, meth, c, A, cells, slots, Q⟩ := x
  obtain ⟨⟨hx, hb, hml, hown, hts⟩, hK, hi, hA0, hA, hfr, hlo, hlk, hcs, hAm⟩ := K
  intro H locs ls hP hS hl
  exact lv_iadd hx hb hd  (k H locs ls hP hS hl)
theorem o_isub {x : En} {E : Amd} {D : va_G} {tys : List (ClassId × FieldType)} {h : Nat → Nat} {L : Lay} {own : String} {cc : ByteArray} {nL fr lo : Nat} {M : Mem} {pc : Nat} {V : List (Option Value)} {rest : List Value} (K : Kx x E D tys h L own cc nL fr lo) {a b : Int32} (hd : decode cc pc = .ok (.isub, 1))  (k : Go x D tys h L nL M (pc + 1) V (.int (a - b) :: rest)) : Go x D tys h L nL M (pc) V (.int b :: .int a :: rest) := by
  obtain ⟨p, l, e, R, s, m, args, below, meth, c, A, cells, slots, Q⟩ := x
  obtain ⟨⟨hx, hb, hml, hown, hts⟩, hK, hi, hA0, hA, hfr, hlo, hlk, hcs, hAm⟩ := K
  intro H locs ls hP hS hl
  exact lv_isub hx hb hd  (k H locs ls hP hS hl)
theorem o_imul {x : En} {E : Amd} {D : va_G} {tys : List (ClassId × FieldType)} {h : Nat → Nat} {L : Lay} {own : String} {cc : ByteArray} {nL fr lo : Nat} {M : Mem} {pc : Nat} {V : List (Option Value)} {rest : List Value} (K : Kx x E D tys h L own cc nL fr lo) {a b : Int32} (hd : decode cc pc = .ok (.imul, 1))  (k : Go x D tys h L nL M (pc + 1) V (.int (a * b) :: rest)) : Go x D tys h L nL M (pc) V (.int b :: .int a :: rest) := by
  obtain ⟨p, l, e, R, s, m, args, below, meth, c, A, cells, slots, Q⟩ := x
  obtain ⟨⟨hx, hb, hml, hown, hts⟩, hK, hi, hA0, hA, hfr, hlo, hlk, hcs, hAm⟩ := K
  intro H locs ls hP hS hl
  exact lv_imul hx hb hd  (k H locs ls hP hS hl)
theorem o_iand {x : En} {E : Amd} {D : va_G} {tys : List (ClassId × FieldType)} {h : Nat → Nat} {L : Lay} {own : String} {cc : ByteArray} {nL fr lo : Nat} {M : Mem} {pc : Nat} {V : List (Option Value)} {rest : List Value} (K : Kx x E D tys h L own cc nL fr lo) {a b : Int32} (hd : decode cc pc = .ok (.iand, 1))  (k : Go x D tys h L nL M (pc + 1) V (.int (a &&& b) :: rest)) : Go x D tys h L nL M (pc) V (.int b :: .int a :: rest) := by
  obtain ⟨p, l, e, R, s, m, args, below, meth, c, A, cells, slots, Q⟩ := x
  obtain ⟨⟨hx, hb, hml, hown, hts⟩, hK, hi, hA0, hA, hfr, hlo, hlk, hcs, hAm⟩ := K
  intro H locs ls hP hS hl
  exact lv_iand hx hb hd  (k H locs ls hP hS hl)
theorem o_ior {x : En} {E : Amd} {D : va_G} {tys : List (ClassId × FieldType)} {h : Nat → Nat} {L : Lay} {own : String} {cc : ByteArray} {nL fr lo : Nat} {M : Mem} {pc : Nat} {V : List (Option Value)} {rest : List Value} (K : Kx x E D tys h L own cc nL fr lo) {a b : Int32} (hd : decode cc pc = .ok (.ior, 1))  (k : Go x D tys h L nL M (pc + 1) V (.int (a ||| b) :: rest)) : Go x D tys h L nL M (pc) V (.int b :: .int a :: rest) := by
  obtain ⟨p, l, e, R, s, m, args, below, meth, c, A, cells, slots, Q⟩ := x
  obtain ⟨⟨hx, hb, hml, hown, hts⟩, hK, hi, hA0, hA, hfr, hlo, hlk, hcs, hAm⟩ := K
  intro H locs ls hP hS hl
  exact lv_ior hx hb hd  (k H locs ls hP hS hl)
theorem o_ixor {x : En} {E : Amd} {D : va_G} {tys : List (ClassId × FieldType)} {h : Nat → Nat} {L : Lay} {own : String} {cc : ByteArray} {nL fr lo : Nat} {M : Mem} {pc : Nat} {V : List (Option Value)} {rest : List Value} (K : Kx x E D tys h L own cc nL fr lo) {a b : Int32} (hd : decode cc pc = .ok (.ixor, 1))  (k : Go x D tys h L nL M (pc + 1) V (.int (a ^^^ b) :: rest)) : Go x D tys h L nL M (pc) V (.int b :: .int a :: rest) := by
  obtain ⟨p, l, e, R, s, m, args, below, meth, c, A, cells, slots, Q⟩ := x
  obtain ⟨⟨hx, hb, hml, hown, hts⟩, hK, hi, hA0, hA, hfr, hlo, hlk, hcs, hAm⟩ := K
  intro H locs ls hP hS hl
  exact lv_ixor hx hb hd  (k H locs ls hP hS hl)
theorem o_ishl {x : En} {E : Amd} {D : va_G} {tys : List (ClassId × FieldType)} {h : Nat → Nat} {L : Lay} {own : String} {cc : ByteArray} {nL fr lo : Nat} {M : Mem} {pc : Nat} {V : List (Option Value)} {rest : List Value} (K : Kx x E D tys h L own cc nL fr lo) {a b : Int32} (hd : decode cc pc = .ok (.ishl, 1))  (k : Go x D tys h L nL M (pc + 1) V (.int (a <<< (b &&& 31)) :: rest)) : Go x D tys h L nL M (pc) V (.int b :: .int a :: rest) := by
  obtain ⟨p, l, e, R, s, m, args, below, meth, c, A, cells, slots, Q⟩ := x
  obtain ⟨⟨hx, hb, hml, hown, hts⟩, hK, hi, hA0, hA, hfr, hlo, hlk, hcs, hAm⟩ := K
  intro H locs ls hP hS hl
  exact lv_ishl hx hb hd  (k H locs ls hP hS hl)
theorem o_ishr {x : En} {E : Amd} {D : va_G} {tys : List (ClassId × FieldType)} {h : Nat → Nat} {L : Lay} {own : String} {cc : ByteArray} {nL fr lo : Nat} {M : Mem} {pc : Nat} {V : List (Option Value)} {rest : List Value} (K : Kx x E D tys h L own cc nL fr lo) {a b : Int32} (hd : decode cc pc = .ok (.ishr, 1))  (k : Go x D tys h L nL M (pc + 1) V (.int (a >>> (b &&& 31)) :: rest)) : Go x D tys h L nL M (pc) V (.int b :: .int a :: rest) := by
  obtain ⟨p, l, e, R, s, m, args, below, meth, c, A, cells, slots, Q⟩ := x
  obtain ⟨⟨hx, hb, hml, hown, hts⟩, hK, hi, hA0, hA, hfr, hlo, hlk, hcs, hAm⟩ := K
  intro H locs ls hP hS hl
  exact lv_ishr hx hb hd  (k H locs ls hP hS hl)
theorem o_iushr {x : En} {E : Amd} {D : va_G} {tys : List (ClassId × FieldType)} {h : Nat → Nat} {L : Lay} {own : String} {cc : ByteArray} {nL fr lo : Nat} {M : Mem} {pc : Nat} {V : List (Option Value)} {rest : List Value} (K : Kx x E D tys h L own cc nL fr lo) {a b : Int32} (hd : decode cc pc = .ok (.iushr, 1))  (k : Go x D tys h L nL M (pc + 1) V (.int ((a.toUInt32 >>> (b.toUInt32 &&& Int32.toUInt32 31)).toInt32) :: rest)) : Go x D tys h L nL M (pc) V (.int b :: .int a :: rest) := by
  obtain ⟨p, l, e, R, s, m, args, below, meth, c, A, cells, slots, Q⟩ := x
  obtain ⟨⟨hx, hb, hml, hown, hts⟩, hK, hi, hA0, hA, hfr, hlo, hlk, hcs, hAm⟩ := K
  intro H locs ls hP hS hl
  exact lv_iushr hx hb hd rfl (k H locs ls hP hS hl)
theorem o_idiv {x : En} {E : Amd} {D : va_G} {tys : List (ClassId × FieldType)} {h : Nat → Nat} {L : Lay} {own : String} {cc : ByteArray} {nL fr lo : Nat} {M : Mem} {pc : Nat} {V : List (Option Value)} {rest : List Value} (K : Kx x E D tys h L own cc nL fr lo) {a b : Int32} (hd : decode cc pc = .ok (.idiv, 1)) (hne : ¬ b = 0) (k : Go x D tys h L nL M (pc + 1) V (.int (a / b) :: rest)) : Go x D tys h L nL M (pc) V (.int b :: .int a :: rest) := by
  obtain ⟨p, l, e, R, s, m, args, below, meth, c, A, cells, slots, Q⟩ := x
  obtain ⟨⟨hx, hb, hml, hown, hts⟩, hK, hi, hA0, hA, hfr, hlo, hlk, hcs, hAm⟩ := K
  intro H locs ls hP hS hl
  exact lv_idiv hx hb hd hne (k H locs ls hP hS hl)
theorem o_irem {x : En} {E : Amd} {D : va_G} {tys : List (ClassId × FieldType)} {h : Nat → Nat} {L : Lay} {own : String} {cc : ByteArray} {nL fr lo : Nat} {M : Mem} {pc : Nat} {V : List (Option Value)} {rest : List Value} (K : Kx x E D tys h L own cc nL fr lo) {a b : Int32} (hd : decode cc pc = .ok (.irem, 1)) (hne : ¬ b = 0) (k : Go x D tys h L nL M (pc + 1) V (.int (a - a / b * b) :: rest)) : Go x D tys h L nL M (pc) V (.int b :: .int a :: rest) := by
  obtain ⟨p, l, e, R, s, m, args, below, meth, c, A, cells, slots, Q⟩ := x
  obtain ⟨⟨hx, hb, hml, hown, hts⟩, hK, hi, hA0, hA, hfr, hlo, hlk, hcs, hAm⟩ := K
  intro H locs ls hP hS hl
  exact lv_irem hx hb hd hne (k H locs ls hP hS hl)
theorem o_ineg {x : En} {E : Amd} {D : va_G} {tys : List (ClassId × FieldType)} {h : Nat → Nat} {L : Lay} {own : String} {cc : ByteArray} {nL fr lo : Nat} {M : Mem} {pc : Nat} {V : List (Option Value)} {rest : List Value} (K : Kx x E D tys h L own cc nL fr lo) {a : Int32} (hd : decode cc pc = .ok (.ineg, 1))  (k : Go x D tys h L nL M (pc + 1) V (.int (-a) :: rest)) : Go x D tys h L nL M (pc) V (.int a :: rest) := by
  obtain ⟨p, l, e, R, s, m, args, below, meth, c, A, cells, slots, Q⟩ := x
  obtain ⟨⟨hx, hb, hml, hown, hts⟩, hK, hi, hA0, hA, hfr, hlo, hlk, hcs, hAm⟩ := K
  intro H locs ls hP hS hl
  exact lv_ineg hx hb hd  (k H locs ls hP hS hl)
theorem o_ladd {x : En} {E : Amd} {D : va_G} {tys : List (ClassId × FieldType)} {h : Nat → Nat} {L : Lay} {own : String} {cc : ByteArray} {nL fr lo : Nat} {M : Mem} {pc : Nat} {V : List (Option Value)} {rest : List Value} (K : Kx x E D tys h L own cc nL fr lo) {a b : Int64} (hd : decode cc pc = .ok (.ladd, 1))  (k : Go x D tys h L nL M (pc + 1) V (.long (a + b) :: rest)) : Go x D tys h L nL M (pc) V (.long b :: .long a :: rest) := by
  obtain ⟨p, l, e, R, s, m, args, below, meth, c, A, cells, slots, Q⟩ := x
  obtain ⟨⟨hx, hb, hml, hown, hts⟩, hK, hi, hA0, hA, hfr, hlo, hlk, hcs, hAm⟩ := K
  intro H locs ls hP hS hl
  exact lv_ladd hx hb hd  (k H locs ls hP hS hl)
theorem o_lsub {x : En} {E : Amd} {D : va_G} {tys : List (ClassId × FieldType)} {h : Nat → Nat} {L : Lay} {own : String} {cc : ByteArray} {nL fr lo : Nat} {M : Mem} {pc : Nat} {V : List (Option Value)} {rest : List Value} (K : Kx x E D tys h L own cc nL fr lo) {a b : Int64} (hd : decode cc pc = .ok (.lsub, 1))  (k : Go x D tys h L nL M (pc + 1) V (.long (a - b) :: rest)) : Go x D tys h L nL M (pc) V (.long b :: .long a :: rest) := by
  obtain ⟨p, l, e, R, s, m, args, below, meth, c, A, cells, slots, Q⟩ := x
  obtain ⟨⟨hx, hb, hml, hown, hts⟩, hK, hi, hA0, hA, hfr, hlo, hlk, hcs, hAm⟩ := K
  intro H locs ls hP hS hl
  exact lv_lsub hx hb hd  (k H locs ls hP hS hl)
theorem o_lmul {x : En} {E : Amd} {D : va_G} {tys : List (ClassId × FieldType)} {h : Nat → Nat} {L : Lay} {own : String} {cc : ByteArray} {nL fr lo : Nat} {M : Mem} {pc : Nat} {V : List (Option Value)} {rest : List Value} (K : Kx x E D tys h L own cc nL fr lo) {a b : Int64} (hd : decode cc pc = .ok (.lmul, 1))  (k : Go x D tys h L nL M (pc + 1) V (.long (a * b) :: rest)) : Go x D tys h L nL M (pc) V (.long b :: .long a :: rest) := by
  obtain ⟨p, l, e, R, s, m, args, below, meth, c, A, cells, slots, Q⟩ := x
  obtain ⟨⟨hx, hb, hml, hown, hts⟩, hK, hi, hA0, hA, hfr, hlo, hlk, hcs, hAm⟩ := K
  intro H locs ls hP hS hl
  exact lv_lmul hx hb hd  (k H locs ls hP hS hl)
theorem o_ldiv {x : En} {E : Amd} {D : va_G} {tys : List (ClassId × FieldType)} {h : Nat → Nat} {L : Lay} {own : String} {cc : ByteArray} {nL fr lo : Nat} {M : Mem} {pc : Nat} {V : List (Option Value)} {rest : List Value} (K : Kx x E D tys h L own cc nL fr lo) {a b : Int64} (hd : decode cc pc = .ok (.ldiv, 1)) (hne : ¬ b = 0) (k : Go x D tys h L nL M (pc + 1) V (.long (a / b) :: rest)) : Go x D tys h L nL M (pc) V (.long b :: .long a :: rest) := by
  obtain ⟨p, l, e, R, s, m, args, below, meth, c, A, cells, slots, Q⟩ := x
  obtain ⟨⟨hx, hb, hml, hown, hts⟩, hK, hi, hA0, hA, hfr, hlo, hlk, hcs, hAm⟩ := K
  intro H locs ls hP hS hl
  exact lv_ldiv hx hb hd hne (k H locs ls hP hS hl)
theorem o_lneg {x : En} {E : Amd} {D : va_G} {tys : List (ClassId × FieldType)} {h : Nat → Nat} {L : Lay} {own : String} {cc : ByteArray} {nL fr lo : Nat} {M : Mem} {pc : Nat} {V : List (Option Value)} {rest : List Value} (K : Kx x E D tys h L own cc nL fr lo) {a : Int64} (hd : decode cc pc = .ok (.lneg, 1))  (k : Go x D tys h L nL M (pc + 1) V (.long (-a) :: rest)) : Go x D tys h L nL M (pc) V (.long a :: rest) := by
  obtain ⟨p, l, e, R, s, m, args, below, meth, c, A, cells, slots, Q⟩ := x
  obtain ⟨⟨hx, hb, hml, hown, hts⟩, hK, hi, hA0, hA, hfr, hlo, hlk, hcs, hAm⟩ := K
  intro H locs ls hP hS hl
  exact lv_lneg hx hb hd  (k H locs ls hP hS hl)
theorem o_lcmp {x : En} {E : Amd} {D : va_G} {tys : List (ClassId × FieldType)} {h : Nat → Nat} {L : Lay} {own : String} {cc : ByteArray} {nL fr lo : Nat} {M : Mem} {pc : Nat} {V : List (Option Value)} {rest : List Value} (K : Kx x E D tys h L own cc nL fr lo) {a b : Int64} (hd : decode cc pc = .ok (.lcmp, 1))  (k : Go x D tys h L nL M (pc + 1) V (.int (lg_cmp a b) :: rest)) : Go x D tys h L nL M (pc) V (.long b :: .long a :: rest) := by
  obtain ⟨p, l, e, R, s, m, args, below, meth, c, A, cells, slots, Q⟩ := x
  obtain ⟨⟨hx, hb, hml, hown, hts⟩, hK, hi, hA0, hA, hfr, hlo, hlk, hcs, hAm⟩ := K
  intro H locs ls hP hS hl
  exact W.lcmp hx hb hd  (k H locs ls hP hS hl)
theorem o_i2l {x : En} {E : Amd} {D : va_G} {tys : List (ClassId × FieldType)} {h : Nat → Nat} {L : Lay} {own : String} {cc : ByteArray} {nL fr lo : Nat} {M : Mem} {pc : Nat} {V : List (Option Value)} {rest : List Value} (K : Kx x E D tys h L own cc nL fr lo) {a : Int32} (hd : decode cc pc = .ok (.i2l, 1))  (k : Go x D tys h L nL M (pc + 1) V (.long a.toInt64 :: rest)) : Go x D tys h L nL M (pc) V (.int a :: rest) := by
  obtain ⟨p, l, e, R, s, m, args, below, meth, c, A, cells, slots, Q⟩ := x
  obtain ⟨⟨hx, hb, hml, hown, hts⟩, hK, hi, hA0, hA, hfr, hlo, hlk, hcs, hAm⟩ := K
  intro H locs ls hP hS hl
  exact lv_i2l hx hb hd rfl (k H locs ls hP hS hl)
theorem o_l2i {x : En} {E : Amd} {D : va_G} {tys : List (ClassId × FieldType)} {h : Nat → Nat} {L : Lay} {own : String} {cc : ByteArray} {nL fr lo : Nat} {M : Mem} {pc : Nat} {V : List (Option Value)} {rest : List Value} (K : Kx x E D tys h L own cc nL fr lo) {a : Int64} (hd : decode cc pc = .ok (.l2i, 1))  (k : Go x D tys h L nL M (pc + 1) V (.int a.toInt32 :: rest)) : Go x D tys h L nL M (pc) V (.long a :: rest) := by
  obtain ⟨p, l, e, R, s, m, args, below, meth, c, A, cells, slots, Q⟩ := x
  obtain ⟨⟨hx, hb, hml, hown, hts⟩, hK, hi, hA0, hA, hfr, hlo, hlk, hcs, hAm⟩ := K
  intro H locs ls hP hS hl
  exact lv_l2i hx hb hd rfl (k H locs ls hP hS hl)
theorem o_i2s {x : En} {E : Amd} {D : va_G} {tys : List (ClassId × FieldType)} {h : Nat → Nat} {L : Lay} {own : String} {cc : ByteArray} {nL fr lo : Nat} {M : Mem} {pc : Nat} {V : List (Option Value)} {rest : List Value} (K : Kx x E D tys h L own cc nL fr lo) {a : Int32} (hd : decode cc pc = .ok (.i2s, 1))  (k : Go x D tys h L nL M (pc + 1) V (.int a.toInt16.toInt32 :: rest)) : Go x D tys h L nL M (pc) V (.int a :: rest) := by
  obtain ⟨p, l, e, R, s, m, args, below, meth, c, A, cells, slots, Q⟩ := x
  obtain ⟨⟨hx, hb, hml, hown, hts⟩, hK, hi, hA0, hA, hfr, hlo, hlk, hcs, hAm⟩ := K
  intro H locs ls hP hS hl
  exact lv_i2s hx hb hd rfl (k H locs ls hP hS hl)
theorem o_i2b {x : En} {E : Amd} {D : va_G} {tys : List (ClassId × FieldType)} {h : Nat → Nat} {L : Lay} {own : String} {cc : ByteArray} {nL fr lo : Nat} {M : Mem} {pc : Nat} {V : List (Option Value)} {rest : List Value} (K : Kx x E D tys h L own cc nL fr lo) {a : Int32} (hd : decode cc pc = .ok (.i2b, 1))  (k : Go x D tys h L nL M (pc + 1) V (.int a.toInt8.toInt32 :: rest)) : Go x D tys h L nL M (pc) V (.int a :: rest) := by
  obtain ⟨p, l, e, R, s, m, args, below, meth, c, A, cells, slots, Q⟩ := x
  obtain ⟨⟨hx, hb, hml, hown, hts⟩, hK, hi, hA0, hA, hfr, hlo, hlk, hcs, hAm⟩ := K
  intro H locs ls hP hS hl
  exact lv_i2b hx hb hd rfl (k H locs ls hP hS hl)
theorem o_i2c {x : En} {E : Amd} {D : va_G} {tys : List (ClassId × FieldType)} {h : Nat → Nat} {L : Lay} {own : String} {cc : ByteArray} {nL fr lo : Nat} {M : Mem} {pc : Nat} {V : List (Option Value)} {rest : List Value} (K : Kx x E D tys h L own cc nL fr lo) {a : Int32} (hd : decode cc pc = .ok (.i2c, 1))  (k : Go x D tys h L nL M (pc + 1) V (.int (a.toUInt32 % 65536).toInt32 :: rest)) : Go x D tys h L nL M (pc) V (.int a :: rest) := by
  obtain ⟨p, l, e, R, s, m, args, below, meth, c, A, cells, slots, Q⟩ := x
  obtain ⟨⟨hx, hb, hml, hown, hts⟩, hK, hi, hA0, hA, hfr, hlo, hlk, hcs, hAm⟩ := K
  intro H locs ls hP hS hl
  exact lv_i2c hx hb hd rfl (k H locs ls hP hS hl)
theorem o_iconst {x : En} {E : Amd} {D : va_G} {tys : List (ClassId × FieldType)} {h : Nat → Nat} {L : Lay} {own : String} {cc : ByteArray} {nL fr lo : Nat} {M : Mem} {pc : Nat} {V : List (Option Value)} {rest : List Value} (K : Kx x E D tys h L own cc nL fr lo) {n : Int} (v : Int32) (hd : decode cc pc = .ok (.iconst n, 1)) (hv : Int32.ofInt n = v) (k : Go x D tys h L nL M (pc + 1) V (.int v :: rest)) : Go x D tys h L nL M (pc) V (rest) := by
  obtain ⟨p, l, e, R, s, m, args, below, meth, c, A, cells, slots, Q⟩ := x
  obtain ⟨⟨hx, hb, hml, hown, hts⟩, hK, hi, hA0, hA, hfr, hlo, hlk, hcs, hAm⟩ := K
  intro H locs ls hP hS hl
  exact lv_iconst hx hb hd hv (k H locs ls hP hS hl)
theorem o_bipush {x : En} {E : Amd} {D : va_G} {tys : List (ClassId × FieldType)} {h : Nat → Nat} {L : Lay} {own : String} {cc : ByteArray} {nL fr lo : Nat} {M : Mem} {pc : Nat} {V : List (Option Value)} {rest : List Value} (K : Kx x E D tys h L own cc nL fr lo) {n : Int} (v : Int32) (hd : decode cc pc = .ok (.bipush n, 2)) (hv : (Int8.ofInt n).toInt32 = v) (k : Go x D tys h L nL M (pc + 2) V (.int v :: rest)) : Go x D tys h L nL M (pc) V (rest) := by
  obtain ⟨p, l, e, R, s, m, args, below, meth, c, A, cells, slots, Q⟩ := x
  obtain ⟨⟨hx, hb, hml, hown, hts⟩, hK, hi, hA0, hA, hfr, hlo, hlk, hcs, hAm⟩ := K
  intro H locs ls hP hS hl
  exact lv_bipush hx hb hd hv (k H locs ls hP hS hl)
theorem o_sipush {x : En} {E : Amd} {D : va_G} {tys : List (ClassId × FieldType)} {h : Nat → Nat} {L : Lay} {own : String} {cc : ByteArray} {nL fr lo : Nat} {M : Mem} {pc : Nat} {V : List (Option Value)} {rest : List Value} (K : Kx x E D tys h L own cc nL fr lo) {n : Int} (v : Int32) (hd : decode cc pc = .ok (.sipush n, 3)) (hv : (Int16.ofInt n).toInt32 = v) (k : Go x D tys h L nL M (pc + 3) V (.int v :: rest)) : Go x D tys h L nL M (pc) V (rest) := by
  obtain ⟨p, l, e, R, s, m, args, below, meth, c, A, cells, slots, Q⟩ := x
  obtain ⟨⟨hx, hb, hml, hown, hts⟩, hK, hi, hA0, hA, hfr, hlo, hlk, hcs, hAm⟩ := K
  intro H locs ls hP hS hl
  exact lv_sipush hx hb hd hv (k H locs ls hP hS hl)
theorem o_lconst {x : En} {E : Amd} {D : va_G} {tys : List (ClassId × FieldType)} {h : Nat → Nat} {L : Lay} {own : String} {cc : ByteArray} {nL fr lo : Nat} {M : Mem} {pc : Nat} {V : List (Option Value)} {rest : List Value} (K : Kx x E D tys h L own cc nL fr lo) {n : Fin 2} (v : Int64) (hd : decode cc pc = .ok (.lconst n, 1)) (hv : Int64.ofNat (n : Nat) = v) (k : Go x D tys h L nL M (pc + 1) V (.long v :: rest)) : Go x D tys h L nL M (pc) V (rest) := by
  obtain ⟨p, l, e, R, s, m, args, below, meth, c, A, cells, slots, Q⟩ := x
  obtain ⟨⟨hx, hb, hml, hown, hts⟩, hK, hi, hA0, hA, hfr, hlo, hlk, hcs, hAm⟩ := K
  intro H locs ls hP hS hl
  exact lv_lconst hx hb hd hv (k H locs ls hP hS hl)
theorem o_null {x : En} {E : Amd} {D : va_G} {tys : List (ClassId × FieldType)} {h : Nat → Nat} {L : Lay} {own : String} {cc : ByteArray} {nL fr lo : Nat} {M : Mem} {pc : Nat} {V : List (Option Value)} {rest : List Value} (K : Kx x E D tys h L own cc nL fr lo)  (hd : decode cc pc = .ok (.aconst_null, 1))  (k : Go x D tys h L nL M (pc + 1) V (.null :: rest)) : Go x D tys h L nL M (pc) V (rest) := by
  obtain ⟨p, l, e, R, s, m, args, below, meth, c, A, cells, slots, Q⟩ := x
  obtain ⟨⟨hx, hb, hml, hown, hts⟩, hK, hi, hA0, hA, hfr, hlo, hlk, hcs, hAm⟩ := K
  intro H locs ls hP hS hl
  exact lv_null hx hb hd  (k H locs ls hP hS hl)
theorem o_dup {x : En} {E : Amd} {D : va_G} {tys : List (ClassId × FieldType)} {h : Nat → Nat} {L : Lay} {own : String} {cc : ByteArray} {nL fr lo : Nat} {M : Mem} {pc : Nat} {V : List (Option Value)} {rest : List Value} (K : Kx x E D tys h L own cc nL fr lo) {v : Value} (hd : decode cc pc = .ok (.dup, 1)) (hv : v.category = 1) (k : Go x D tys h L nL M (pc + 1) V (v :: v :: rest)) : Go x D tys h L nL M (pc) V (v :: rest) := by
  obtain ⟨p, l, e, R, s, m, args, below, meth, c, A, cells, slots, Q⟩ := x
  obtain ⟨⟨hx, hb, hml, hown, hts⟩, hK, hi, hA0, hA, hfr, hlo, hlk, hcs, hAm⟩ := K
  intro H locs ls hP hS hl
  exact lv_dup hx hb hd hv (k H locs ls hP hS hl)
theorem o_dup2 {x : En} {E : Amd} {D : va_G} {tys : List (ClassId × FieldType)} {h : Nat → Nat} {L : Lay} {own : String} {cc : ByteArray} {nL fr lo : Nat} {M : Mem} {pc : Nat} {V : List (Option Value)} {rest : List Value} (K : Kx x E D tys h L own cc nL fr lo) {v u : Value} (hd : decode cc pc = .ok (.dup2, 1)) (hv : v.category = 1) (hu : u.category = 1) (k : Go x D tys h L nL M (pc + 1) V (v :: u :: v :: u :: rest)) : Go x D tys h L nL M (pc) V (v :: u :: rest) := by
  obtain ⟨p, l, e, R, s, m, args, below, meth, c, A, cells, slots, Q⟩ := x
  obtain ⟨⟨hx, hb, hml, hown, hts⟩, hK, hi, hA0, hA, hfr, hlo, hlk, hcs, hAm⟩ := K
  intro H locs ls hP hS hl
  exact lv_dup2_11 hx hb hd hv hu (k H locs ls hP hS hl)
theorem o_ldc {x : En} {E : Amd} {D : va_G} {tys : List (ClassId × FieldType)} {h : Nat → Nat} {L : Lay} {own : String} {cc : ByteArray} {nL fr lo : Nat} {M : Mem} {pc : Nat} {V : List (Option Value)} {rest : List Value} (K : Kx x E D tys h L own cc nL fr lo) {i : Nat} {v : Int32} (hc : Cond.constant own i v ∈ TB) (hd : decode cc pc = .ok (.ldc i, 2)) (k : Go x D tys h L nL M (pc + 2) V (.int v :: rest)) : Go x D tys h L nL M (pc) V (rest) := by
  obtain ⟨p, l, e, R, s, m, args, below, meth, c, A, cells, slots, Q⟩ := x
  obtain ⟨⟨hx, hb, hml, hown, hts⟩, hK, hi, hA0, hA, hfr, hlo, hlk, hcs, hAm⟩ := K
  intro H locs ls hP hS hl
  exact lv_ldc hx hb hown (hts _ hc) hd (k H locs ls hP hS hl)
theorem o_ldcw {x : En} {E : Amd} {D : va_G} {tys : List (ClassId × FieldType)} {h : Nat → Nat} {L : Lay} {own : String} {cc : ByteArray} {nL fr lo : Nat} {M : Mem} {pc : Nat} {V : List (Option Value)} {rest : List Value} (K : Kx x E D tys h L own cc nL fr lo) {i : Nat} {v : Int32} (hc : Cond.constant own i v ∈ TB) (hd : decode cc pc = .ok (.ldc_w i, 3)) (k : Go x D tys h L nL M (pc + 3) V (.int v :: rest)) : Go x D tys h L nL M (pc) V (rest) := by
  obtain ⟨p, l, e, R, s, m, args, below, meth, c, A, cells, slots, Q⟩ := x
  obtain ⟨⟨hx, hb, hml, hown, hts⟩, hK, hi, hA0, hA, hfr, hlo, hlk, hcs, hAm⟩ := K
  intro H locs ls hP hS hl
  exact lv_ldcw hx hb hown (hts _ hc) hd (k H locs ls hP hS hl)
theorem o_ldc2 {x : En} {E : Amd} {D : va_G} {tys : List (ClassId × FieldType)} {h : Nat → Nat} {L : Lay} {own : String} {cc : ByteArray} {nL fr lo : Nat} {M : Mem} {pc : Nat} {V : List (Option Value)} {rest : List Value} (K : Kx x E D tys h L own cc nL fr lo) {i : Nat} {v : Int64} (hc : Cond.constantLong own i v ∈ TB) (hd : decode cc pc = .ok (.ldc2_w i, 3)) (k : Go x D tys h L nL M (pc + 3) V (.long v :: rest)) : Go x D tys h L nL M (pc) V (rest) := by
  obtain ⟨p, l, e, R, s, m, args, below, meth, c, A, cells, slots, Q⟩ := x
  obtain ⟨⟨hx, hb, hml, hown, hts⟩, hK, hi, hA0, hA, hfr, hlo, hlk, hcs, hAm⟩ := K
  intro H locs ls hP hS hl
  exact lv_ldc2 hx hb hown (hts _ hc) hd (k H locs ls hP hS hl)
theorem o_iload_n {x : En} {E : Amd} {D : va_G} {tys : List (ClassId × FieldType)} {h : Nat → Nat} {L : Lay} {own : String} {cc : ByteArray} {nL fr lo : Nat} {M : Mem} {pc : Nat} {V : List (Option Value)} {rest : List Value} (K : Kx x E D tys h L own cc nL fr lo) {q : Fin 4} (i : Nat) {a : Int32} (hd : decode cc pc = .ok (.iload_n q, 1)) (hi0 : (q : Nat) = i) (hv : V[i]? = some (some (.int a))) (k : Go x D tys h L nL M (pc + 1) V (.int a :: rest)) : Go x D tys h L nL M (pc) V (rest) := by
  obtain ⟨p, l, e, R, s, m, args, below, meth, c, A, cells, slots, Q⟩ := x
  obtain ⟨⟨hx, hb, hml, hown, hts⟩, hK, hi, hA0, hA, hfr, hlo, hlk, hcs, hAm⟩ := K
  intro H locs ls hP hS hl
  exact lv_iload_n hx hb hd hi0 (hl.2.2 i _ hv) (k H locs ls hP hS hl)
theorem o_aload_n {x : En} {E : Amd} {D : va_G} {tys : List (ClassId × FieldType)} {h : Nat → Nat} {L : Lay} {own : String} {cc : ByteArray} {nL fr lo : Nat} {M : Mem} {pc : Nat} {V : List (Option Value)} {rest : List Value} (K : Kx x E D tys h L own cc nL fr lo) {q : Fin 4} (i : Nat) {a : Nat} (hd : decode cc pc = .ok (.aload_n q, 1)) (hi0 : (q : Nat) = i) (hv : V[i]? = some (some (.ref a))) (k : Go x D tys h L nL M (pc + 1) V (.ref a :: rest)) : Go x D tys h L nL M (pc) V (rest) := by
  obtain ⟨p, l, e, R, s, m, args, below, meth, c, A, cells, slots, Q⟩ := x
  obtain ⟨⟨hx, hb, hml, hown, hts⟩, hK, hi, hA0, hA, hfr, hlo, hlk, hcs, hAm⟩ := K
  intro H locs ls hP hS hl
  exact lv_aload_n hx hb hd hi0 (hl.2.2 i _ hv) (k H locs ls hP hS hl)
theorem o_iload {x : En} {E : Amd} {D : va_G} {tys : List (ClassId × FieldType)} {h : Nat → Nat} {L : Lay} {own : String} {cc : ByteArray} {nL fr lo : Nat} {M : Mem} {pc : Nat} {V : List (Option Value)} {rest : List Value} (K : Kx x E D tys h L own cc nL fr lo) (i : Nat) {a : Int32} (hd : decode cc pc = .ok (.iload i, 2)) (hv : V[i]? = some (some (.int a))) (k : Go x D tys h L nL M (pc + 2) V (.int a :: rest)) : Go x D tys h L nL M (pc) V (rest) := by
  obtain ⟨p, l, e, R, s, m, args, below, meth, c, A, cells, slots, Q⟩ := x
  obtain ⟨⟨hx, hb, hml, hown, hts⟩, hK, hi, hA0, hA, hfr, hlo, hlk, hcs, hAm⟩ := K
  intro H locs ls hP hS hl
  exact lv_iload hx hb hd (hl.2.2 i _ hv) (k H locs ls hP hS hl)
theorem o_aload {x : En} {E : Amd} {D : va_G} {tys : List (ClassId × FieldType)} {h : Nat → Nat} {L : Lay} {own : String} {cc : ByteArray} {nL fr lo : Nat} {M : Mem} {pc : Nat} {V : List (Option Value)} {rest : List Value} (K : Kx x E D tys h L own cc nL fr lo) (i : Nat) {a : Nat} (hd : decode cc pc = .ok (.aload i, 2)) (hv : V[i]? = some (some (.ref a))) (k : Go x D tys h L nL M (pc + 2) V (.ref a :: rest)) : Go x D tys h L nL M (pc) V (rest) := by
  obtain ⟨p, l, e, R, s, m, args, below, meth, c, A, cells, slots, Q⟩ := x
  obtain ⟨⟨hx, hb, hml, hown, hts⟩, hK, hi, hA0, hA, hfr, hlo, hlk, hcs, hAm⟩ := K
  intro H locs ls hP hS hl
  exact lv_aload hx hb hd (hl.2.2 i _ hv) (k H locs ls hP hS hl)
theorem o_lload {x : En} {E : Amd} {D : va_G} {tys : List (ClassId × FieldType)} {h : Nat → Nat} {L : Lay} {own : String} {cc : ByteArray} {nL fr lo : Nat} {M : Mem} {pc : Nat} {V : List (Option Value)} {rest : List Value} (K : Kx x E D tys h L own cc nL fr lo) (i : Nat) {a : Int64} (hd : decode cc pc = .ok (.lload i, 2)) (hv : V[i]? = some (some (.long a))) (k : Go x D tys h L nL M (pc + 2) V (.long a :: rest)) : Go x D tys h L nL M (pc) V (rest) := by
  obtain ⟨p, l, e, R, s, m, args, below, meth, c, A, cells, slots, Q⟩ := x
  obtain ⟨⟨hx, hb, hml, hown, hts⟩, hK, hi, hA0, hA, hfr, hlo, hlk, hcs, hAm⟩ := K
  intro H locs ls hP hS hl
  exact lv_lload hx hb hd (hl.2.2 i _ hv) (k H locs ls hP hS hl)
def vl (V : List (Option Value)) : List (Nat × Value) := (List.range V.length).filterMap (fun i => match V[i]? with
  | some (some v) => some (i, v)
  | _ => none)
theorem vl_mem {V : List (Option Value)} {q : Nat × Value} : q ∈ vl V ↔ V[q.1]? = some (some q.2) := by
  unfold vl
  rw [List.mem_filterMap]
  constructor
  · rintro ⟨i, hi, h⟩
    split at h
    · rename_i v hv
      cases h
      exact hv
    · cases h
  · intro h
    refine ⟨q.1, List.mem_range.mpr (List.getElem?_eq_some_iff.mp h).1, ?_⟩
    rw [h]
theorem LH.has {ls : Array Slot} {nL : Nat} {V : List (Option Value)} (h : LH ls nL V) : lv_has ls nL (vl V) := ⟨h.1, h.2.1, fun q hq => h.2.2 q.1 q.2 (vl_mem.mp hq)⟩
def okS (V : List (Option Value)) (i : Nat) : Bool := match i with
  | 0 => true
  | j + 1 => match V[j]? with
    | some (some v) => decide (v.category = 1)
    | _ => true
theorem okS_e {V : List (Option Value)} {i j : Nat} {v : Value} (h : okS V i = true) (hj : V[j]? = some (some v)) (e : j + 1 = i) : v.category = 1 := by
  subst e
  simp only [okS, hj] at h
  exact of_decide_eq_true h
theorem LH.st1 {ls : Array Slot} {nL : Nat} {V V' : List (Option Value)} {i : Nat} {v : Value} (h : lv_has ls nL ((i, v) :: (vl V).filter (fun q => !(q.1 == i) && !(q.1 + 1 == i && q.2.category == 2)))) (ho : okS V i = true) (hV : V.set i (some v) = V') : LH ls nL V' := by
  subst hV
  refine ⟨h.1, h.2.1, fun j u hj => ?_⟩
  rw [List.getElem?_set] at hj
  by_cases e : i = j
  · subst e
    rw [if_pos rfl] at hj
    by_cases hl : i < V.length
    · rw [if_pos hl] at hj
      cases hj
      exact h.2.2 (i, v) List.mem_cons_self
    · rw [if_neg hl] at hj
      cases hj
  · rw [if_neg e] at hj
    refine h.2.2 (j, u) (List.mem_cons_of_mem _ (List.mem_filter.mpr ⟨vl_mem.mpr hj, ?_⟩))
    have e1 : (j == i) = false := by rw [beq_eq_false_iff_ne]; exact fun q => e q.symm
    by_cases e2 : j + 1 = i
    · have := okS_e ho hj e2
      simp [e1, this]
    · have e3 : (j + 1 == i) = false := by rw [beq_eq_false_iff_ne]; exact e2
      simp [e1, e3]
theorem LH.st2 {ls : Array Slot} {nL : Nat} {V V' : List (Option Value)} {i : Nat} {v : Value} (h : lv_has ls nL ((i, v) :: (vl V).filter (fun q => !(q.1 == i) && (!(q.1 == i + 1) && !(q.1 + 1 == i && q.2.category == 2))))) (ho : okS V i = true) (hV : (V.set i (some v)).set (i + 1) none = V') : LH ls nL V' := by
  subst hV
  refine ⟨h.1, h.2.1, fun j u hj => ?_⟩
  rw [List.getElem?_set, List.getElem?_set] at hj
  by_cases e0 : i + 1 = j
  · rw [if_pos e0] at hj
    by_cases hl : i + 1 < (V.set i (some v)).length
    · rw [if_pos hl] at hj
      cases hj
    · rw [if_neg hl] at hj
      cases hj
  · rw [if_neg e0] at hj
    by_cases e : i = j
    · subst e
      rw [if_pos rfl] at hj
      by_cases hl : i < V.length
      · rw [if_pos hl] at hj
        cases hj
        exact h.2.2 (i, v) List.mem_cons_self
      · rw [if_neg hl] at hj
        cases hj
    · rw [if_neg e] at hj
      refine h.2.2 (j, u) (List.mem_cons_of_mem _ (List.mem_filter.mpr ⟨vl_mem.mpr hj, ?_⟩))
      have e1 : (j == i) = false := by rw [beq_eq_false_iff_ne]; exact fun q => e q.symm
      have e4 : (j == i + 1) = false := by rw [beq_eq_false_iff_ne]; exact fun q => e0 q.symm
      by_cases e2 : j + 1 = i
      · have := okS_e ho hj e2
        simp [e1, e4, this]
      · have e3 : (j + 1 == i) = false := by rw [beq_eq_false_iff_ne]; exact e2
        simp [e1, e3, e4]
theorem LH.weak {ls : Array Slot} {nL : Nat} {V V' : List (Option Value)} (h : LH ls nL V) (hw : ∀ (i : Nat) (v : Value), V'[i]? = some (some v) → V[i]? = some (some v)) : LH ls nL V' := ⟨h.1, h.2.1, fun i v hv => h.2.2 i v (hw i v hv)⟩
/-- fewer locals: V' is V with places taken out -/
def dropV : List (Option Value) → List Bool → List (Option Value)
  | v :: V, b :: bs => (match b with
    | true => v
    | false => none) :: dropV V bs
  | _, _ => []
theorem dropV_ok : ∀ (V : List (Option Value)) (bs : List Bool) (i : Nat) (v : Value), (dropV V bs)[i]? = some (some v) → V[i]? = some (some v)
  | [], _, i, v, h => by simp [dropV] at h
  | _ :: _, [], i, v, h => by simp [dropV] at h
  | u :: V, b :: bs, 0, v, h => by
    cases b with
    | true => simpa [dropV] using h
    | false => simp [dropV] at h
  | u :: V, b :: bs, i + 1, v, h => by
    simp only [dropV, List.getElem?_cons_succ] at h ⊢
    exact dropV_ok V bs i v h
theorem o_drop {x : En} {D : va_G} {tys : List (ClassId × FieldType)} {h : Nat → Nat} {L : Lay} {nL : Nat} {M : Mem} {pc : Nat} {V : List (Option Value)} {rest : List Value} (bs : List Bool) {V2 : List (Option Value)} (hb2 : dropV V bs = V2) (k : Go x D tys h L nL M (pc) V2 (rest)) : Go x D tys h L nL M (pc) V (rest) := by
  obtain ⟨p, l, e, R, s, m, args, below, meth, c, A, cells, slots, Q⟩ := x
  intro H locs ls hP hS hl
  exact k H locs ls hP hS (hl.weak (fun i v hv => dropV_ok V bs i v (by rw [hb2]; exact hv)))
theorem o_istore_n {x : En} {E : Amd} {D : va_G} {tys : List (ClassId × FieldType)} {h : Nat → Nat} {L : Lay} {own : String} {cc : ByteArray} {nL fr lo : Nat} {M : Mem} {pc : Nat} {V : List (Option Value)} {rest : List Value} (K : Kx x E D tys h L own cc nL fr lo) {q : Fin 4} (i : Nat) {a : Int32} (V2 : List (Option Value)) (hd : decode cc pc = .ok (.istore_n q, 1)) (hi0 : (q : Nat) = i) (hn : i < nL) (ho : okS V i = true) (hV : V.set i (some (.int a)) = V2) (k : Go x D tys h L nL M (pc + 1) V2 (rest)) : Go x D tys h L nL M (pc) V (.int a :: rest) := by
  obtain ⟨p, l, e, R, s, m, args, below, meth, c, A, cells, slots, Q⟩ := x
  obtain ⟨⟨hx, hb, hml, hown, hts⟩, hK, hi, hA0, hA, hfr, hlo, hlk, hcs, hAm⟩ := K
  intro H locs ls hP hS hl
  exact lv_istore_n hx hb hd hi0 hl.has hn rfl (fun ls2 h2 => k H locs ls2 hP hS (LH.st1 h2 ho hV))
theorem o_istore {x : En} {E : Amd} {D : va_G} {tys : List (ClassId × FieldType)} {h : Nat → Nat} {L : Lay} {own : String} {cc : ByteArray} {nL fr lo : Nat} {M : Mem} {pc : Nat} {V : List (Option Value)} {rest : List Value} (K : Kx x E D tys h L own cc nL fr lo) (i : Nat) {a : Int32} (V2 : List (Option Value)) (hd : decode cc pc = .ok (.istore i, 2)) (hn : i < nL) (ho : okS V i = true) (hV : V.set i (some (.int a)) = V2) (k : Go x D tys h L nL M (pc + 2) V2 (rest)) : Go x D tys h L nL M (pc) V (.int a :: rest) := by
  obtain ⟨p, l, e, R, s, m, args, below, meth, c, A, cells, slots, Q⟩ := x
  obtain ⟨⟨hx, hb, hml, hown, hts⟩, hK, hi, hA0, hA, hfr, hlo, hlk, hcs, hAm⟩ := K
  intro H locs ls hP hS hl
  exact lv_istore hx hb hd hl.has hn rfl (fun ls2 h2 => k H locs ls2 hP hS (LH.st1 h2 ho hV))
theorem o_astore_n {x : En} {E : Amd} {D : va_G} {tys : List (ClassId × FieldType)} {h : Nat → Nat} {L : Lay} {own : String} {cc : ByteArray} {nL fr lo : Nat} {M : Mem} {pc : Nat} {V : List (Option Value)} {rest : List Value} (K : Kx x E D tys h L own cc nL fr lo) {q : Fin 4} (i : Nat) {a : Nat} (V2 : List (Option Value)) (hd : decode cc pc = .ok (.astore_n q, 1)) (hi0 : (q : Nat) = i) (hn : i < nL) (ho : okS V i = true) (hV : V.set i (some (.ref a)) = V2) (k : Go x D tys h L nL M (pc + 1) V2 (rest)) : Go x D tys h L nL M (pc) V (.ref a :: rest) := by
  obtain ⟨p, l, e, R, s, m, args, below, meth, c, A, cells, slots, Q⟩ := x
  obtain ⟨⟨hx, hb, hml, hown, hts⟩, hK, hi, hA0, hA, hfr, hlo, hlk, hcs, hAm⟩ := K
  intro H locs ls hP hS hl
  exact lv_astore_n hx hb hd hi0 hl.has hn rfl (fun ls2 h2 => k H locs ls2 hP hS (LH.st1 h2 ho hV))
theorem o_astore {x : En} {E : Amd} {D : va_G} {tys : List (ClassId × FieldType)} {h : Nat → Nat} {L : Lay} {own : String} {cc : ByteArray} {nL fr lo : Nat} {M : Mem} {pc : Nat} {V : List (Option Value)} {rest : List Value} (K : Kx x E D tys h L own cc nL fr lo) (i : Nat) {a : Nat} (V2 : List (Option Value)) (hd : decode cc pc = .ok (.astore i, 2)) (hn : i < nL) (ho : okS V i = true) (hV : V.set i (some (.ref a)) = V2) (k : Go x D tys h L nL M (pc + 2) V2 (rest)) : Go x D tys h L nL M (pc) V (.ref a :: rest) := by
  obtain ⟨p, l, e, R, s, m, args, below, meth, c, A, cells, slots, Q⟩ := x
  obtain ⟨⟨hx, hb, hml, hown, hts⟩, hK, hi, hA0, hA, hfr, hlo, hlk, hcs, hAm⟩ := K
  intro H locs ls hP hS hl
  exact lv_astore hx hb hd hl.has hn rfl (fun ls2 h2 => k H locs ls2 hP hS (LH.st1 h2 ho hV))
theorem o_lstore {x : En} {E : Amd} {D : va_G} {tys : List (ClassId × FieldType)} {h : Nat → Nat} {L : Lay} {own : String} {cc : ByteArray} {nL fr lo : Nat} {M : Mem} {pc : Nat} {V : List (Option Value)} {rest : List Value} (K : Kx x E D tys h L own cc nL fr lo) (i : Nat) {a : Int64} (V2 : List (Option Value)) (hd : decode cc pc = .ok (.lstore i, 2)) (hn : i + 1 < nL) (ho : okS V i = true) (hV : (V.set i (some (.long a))).set (i + 1) none = V2) (k : Go x D tys h L nL M (pc + 2) V2 (rest)) : Go x D tys h L nL M (pc) V (.long a :: rest) := by
  obtain ⟨p, l, e, R, s, m, args, below, meth, c, A, cells, slots, Q⟩ := x
  obtain ⟨⟨hx, hb, hml, hown, hts⟩, hK, hi, hA0, hA, hfr, hlo, hlk, hcs, hAm⟩ := K
  intro H locs ls hP hS hl
  exact lv_lstore hx hb hd hl.has hn rfl (fun ls2 h2 => k H locs ls2 hP hS (LH.st2 h2 ho hV))
theorem o_iinc {x : En} {E : Amd} {D : va_G} {tys : List (ClassId × FieldType)} {h : Nat → Nat} {L : Lay} {own : String} {cc : ByteArray} {nL fr lo : Nat} {M : Mem} {pc : Nat} {V : List (Option Value)} {rest : List Value} (K : Kx x E D tys h L own cc nL fr lo) (i : Nat) {n : Int} {a : Int32} (v : Int32) (V2 : List (Option Value)) (hd : decode cc pc = .ok (.iinc i n, 3)) (hv0 : V[i]? = some (some (.int a))) (hv : a + Int32.ofInt n = v) (hn : i < nL) (ho : okS V i = true) (hV : V.set i (some (.int v)) = V2) (k : Go x D tys h L nL M (pc + 3) V2 (rest)) : Go x D tys h L nL M (pc) V (rest) := by
  obtain ⟨p, l, e, R, s, m, args, below, meth, c, A, cells, slots, Q⟩ := x
  obtain ⟨⟨hx, hb, hml, hown, hts⟩, hK, hi, hA0, hA, hfr, hlo, hlk, hcs, hAm⟩ := K
  intro H locs ls hP hS hl
  obtain ⟨k0, hk0⟩ := List.getElem?_of_mem ((vl_mem (q := (i, Value.int a))).mpr hv0)
  exact lv_iinc hx hb hd hl.has hk0 hv hn rfl (fun ls2 h2 => k H locs ls2 hP hS (LH.st1 h2 ho hV))
theorem o_if_eq {x : En} {E : Amd} {D : va_G} {tys : List (ClassId × FieldType)} {h : Nat → Nat} {L : Lay} {own : String} {cc : ByteArray} {nL fr lo : Nat} {M : Mem} {pc : Nat} {V : List (Option Value)} {rest : List Value} (K : Kx x E D tys h L own cc nL fr lo) {a : Int32} {off : Int} (tgt : Nat) (hd : decode cc pc = .ok (.ifCond .eq off, 3)) (ht : (pc : Int) + off = (tgt : Int)) (kt : a = 0 → Go x D tys h L nL M (tgt) V (rest)) (kf : ¬ (a = 0) → Go x D tys h L nL M (pc + 3) V (rest)) : Go x D tys h L nL M (pc) V (.int a :: rest) := by
  obtain ⟨p, l, e, R, s, m, args, below, meth, c, A, cells, slots, Q⟩ := x
  obtain ⟨⟨hx, hb, hml, hown, hts⟩, hK, hi, hA0, hA, hfr, hlo, hlk, hcs, hAm⟩ := K
  intro H locs ls hP hS hl
  exact lv_if_eq hx hb hd ht (fun q => kt q H locs ls hP hS hl) (fun q => kf q H locs ls hP hS hl)
theorem o_if_ne {x : En} {E : Amd} {D : va_G} {tys : List (ClassId × FieldType)} {h : Nat → Nat} {L : Lay} {own : String} {cc : ByteArray} {nL fr lo : Nat} {M : Mem} {pc : Nat} {V : List (Option Value)} {rest : List Value} (K : Kx x E D tys h L own cc nL fr lo) {a : Int32} {off : Int} (tgt : Nat) (hd : decode cc pc = .ok (.ifCond .ne off, 3)) (ht : (pc : Int) + off = (tgt : Int)) (kt : ¬ a = 0 → Go x D tys h L nL M (tgt) V (rest)) (kf : a = 0 → Go x D tys h L nL M (pc + 3) V (rest)) : Go x D tys h L nL M (pc) V (.int a :: rest) := by
  obtain ⟨p, l, e, R, s, m, args, below, meth, c, A, cells, slots, Q⟩ := x
  obtain ⟨⟨hx, hb, hml, hown, hts⟩, hK, hi, hA0, hA, hfr, hlo, hlk, hcs, hAm⟩ := K
  intro H locs ls hP hS hl
  exact lv_if_ne hx hb hd ht (fun q => kt q H locs ls hP hS hl) (fun q => kf q H locs ls hP hS hl)
theorem o_if_lt {x : En} {E : Amd} {D : va_G} {tys : List (ClassId × FieldType)} {h : Nat → Nat} {L : Lay} {own : String} {cc : ByteArray} {nL fr lo : Nat} {M : Mem} {pc : Nat} {V : List (Option Value)} {rest : List Value} (K : Kx x E D tys h L own cc nL fr lo) {a : Int32} {off : Int} (tgt : Nat) (hd : decode cc pc = .ok (.ifCond .lt off, 3)) (ht : (pc : Int) + off = (tgt : Int)) (kt : a < 0 → Go x D tys h L nL M (tgt) V (rest)) (kf : ¬ (a < 0) → Go x D tys h L nL M (pc + 3) V (rest)) : Go x D tys h L nL M (pc) V (.int a :: rest) := by
  obtain ⟨p, l, e, R, s, m, args, below, meth, c, A, cells, slots, Q⟩ := x
  obtain ⟨⟨hx, hb, hml, hown, hts⟩, hK, hi, hA0, hA, hfr, hlo, hlk, hcs, hAm⟩ := K
  intro H locs ls hP hS hl
  exact lv_if_lt hx hb hd ht (fun q => kt q H locs ls hP hS hl) (fun q => kf q H locs ls hP hS hl)
theorem o_if_ge {x : En} {E : Amd} {D : va_G} {tys : List (ClassId × FieldType)} {h : Nat → Nat} {L : Lay} {own : String} {cc : ByteArray} {nL fr lo : Nat} {M : Mem} {pc : Nat} {V : List (Option Value)} {rest : List Value} (K : Kx x E D tys h L own cc nL fr lo) {a : Int32} {off : Int} (tgt : Nat) (hd : decode cc pc = .ok (.ifCond .ge off, 3)) (ht : (pc : Int) + off = (tgt : Int)) (kt : 0 ≤ a → Go x D tys h L nL M (tgt) V (rest)) (kf : ¬ (0 ≤ a) → Go x D tys h L nL M (pc + 3) V (rest)) : Go x D tys h L nL M (pc) V (.int a :: rest) := by
  obtain ⟨p, l, e, R, s, m, args, below, meth, c, A, cells, slots, Q⟩ := x
  obtain ⟨⟨hx, hb, hml, hown, hts⟩, hK, hi, hA0, hA, hfr, hlo, hlk, hcs, hAm⟩ := K
  intro H locs ls hP hS hl
  exact lv_if_ge hx hb hd ht (fun q => kt q H locs ls hP hS hl) (fun q => kf q H locs ls hP hS hl)
theorem o_if_gt {x : En} {E : Amd} {D : va_G} {tys : List (ClassId × FieldType)} {h : Nat → Nat} {L : Lay} {own : String} {cc : ByteArray} {nL fr lo : Nat} {M : Mem} {pc : Nat} {V : List (Option Value)} {rest : List Value} (K : Kx x E D tys h L own cc nL fr lo) {a : Int32} {off : Int} (tgt : Nat) (hd : decode cc pc = .ok (.ifCond .gt off, 3)) (ht : (pc : Int) + off = (tgt : Int)) (kt : 0 < a → Go x D tys h L nL M (tgt) V (rest)) (kf : ¬ (0 < a) → Go x D tys h L nL M (pc + 3) V (rest)) : Go x D tys h L nL M (pc) V (.int a :: rest) := by
  obtain ⟨p, l, e, R, s, m, args, below, meth, c, A, cells, slots, Q⟩ := x
  obtain ⟨⟨hx, hb, hml, hown, hts⟩, hK, hi, hA0, hA, hfr, hlo, hlk, hcs, hAm⟩ := K
  intro H locs ls hP hS hl
  exact lv_if_gt hx hb hd ht (fun q => kt q H locs ls hP hS hl) (fun q => kf q H locs ls hP hS hl)
theorem o_if_le {x : En} {E : Amd} {D : va_G} {tys : List (ClassId × FieldType)} {h : Nat → Nat} {L : Lay} {own : String} {cc : ByteArray} {nL fr lo : Nat} {M : Mem} {pc : Nat} {V : List (Option Value)} {rest : List Value} (K : Kx x E D tys h L own cc nL fr lo) {a : Int32} {off : Int} (tgt : Nat) (hd : decode cc pc = .ok (.ifCond .le off, 3)) (ht : (pc : Int) + off = (tgt : Int)) (kt : a ≤ 0 → Go x D tys h L nL M (tgt) V (rest)) (kf : ¬ (a ≤ 0) → Go x D tys h L nL M (pc + 3) V (rest)) : Go x D tys h L nL M (pc) V (.int a :: rest) := by
  obtain ⟨p, l, e, R, s, m, args, below, meth, c, A, cells, slots, Q⟩ := x
  obtain ⟨⟨hx, hb, hml, hown, hts⟩, hK, hi, hA0, hA, hfr, hlo, hlk, hcs, hAm⟩ := K
  intro H locs ls hP hS hl
  exact lv_if_le hx hb hd ht (fun q => kt q H locs ls hP hS hl) (fun q => kf q H locs ls hP hS hl)
theorem o_icmp_eq {x : En} {E : Amd} {D : va_G} {tys : List (ClassId × FieldType)} {h : Nat → Nat} {L : Lay} {own : String} {cc : ByteArray} {nL fr lo : Nat} {M : Mem} {pc : Nat} {V : List (Option Value)} {rest : List Value} (K : Kx x E D tys h L own cc nL fr lo) {a b : Int32} {off : Int} (tgt : Nat) (hd : decode cc pc = .ok (.if_icmp .eq off, 3)) (ht : (pc : Int) + off = (tgt : Int)) (kt : a = b → Go x D tys h L nL M (tgt) V (rest)) (kf : ¬ (a = b) → Go x D tys h L nL M (pc + 3) V (rest)) : Go x D tys h L nL M (pc) V (.int b :: .int a :: rest) := by
  obtain ⟨p, l, e, R, s, m, args, below, meth, c, A, cells, slots, Q⟩ := x
  obtain ⟨⟨hx, hb, hml, hown, hts⟩, hK, hi, hA0, hA, hfr, hlo, hlk, hcs, hAm⟩ := K
  intro H locs ls hP hS hl
  exact lv_icmp_eq hx hb hd ht (fun q => kt q H locs ls hP hS hl) (fun q => kf q H locs ls hP hS hl)
theorem o_icmp_ne {x : En} {E : Amd} {D : va_G} {tys : List (ClassId × FieldType)} {h : Nat → Nat} {L : Lay} {own : String} {cc : ByteArray} {nL fr lo : Nat} {M : Mem} {pc : Nat} {V : List (Option Value)} {rest : List Value} (K : Kx x E D tys h L own cc nL fr lo) {a b : Int32} {off : Int} (tgt : Nat) (hd : decode cc pc = .ok (.if_icmp .ne off, 3)) (ht : (pc : Int) + off = (tgt : Int)) (kt : ¬ a = b → Go x D tys h L nL M (tgt) V (rest)) (kf : a = b → Go x D tys h L nL M (pc + 3) V (rest)) : Go x D tys h L nL M (pc) V (.int b :: .int a :: rest) := by
  obtain ⟨p, l, e, R, s, m, args, below, meth, c, A, cells, slots, Q⟩ := x
  obtain ⟨⟨hx, hb, hml, hown, hts⟩, hK, hi, hA0, hA, hfr, hlo, hlk, hcs, hAm⟩ := K
  intro H locs ls hP hS hl
  exact lv_icmp_ne hx hb hd ht (fun q => kt q H locs ls hP hS hl) (fun q => kf q H locs ls hP hS hl)
theorem o_icmp_lt {x : En} {E : Amd} {D : va_G} {tys : List (ClassId × FieldType)} {h : Nat → Nat} {L : Lay} {own : String} {cc : ByteArray} {nL fr lo : Nat} {M : Mem} {pc : Nat} {V : List (Option Value)} {rest : List Value} (K : Kx x E D tys h L own cc nL fr lo) {a b : Int32} {off : Int} (tgt : Nat) (hd : decode cc pc = .ok (.if_icmp .lt off, 3)) (ht : (pc : Int) + off = (tgt : Int)) (kt : a < b → Go x D tys h L nL M (tgt) V (rest)) (kf : ¬ (a < b) → Go x D tys h L nL M (pc + 3) V (rest)) : Go x D tys h L nL M (pc) V (.int b :: .int a :: rest) := by
  obtain ⟨p, l, e, R, s, m, args, below, meth, c, A, cells, slots, Q⟩ := x
  obtain ⟨⟨hx, hb, hml, hown, hts⟩, hK, hi, hA0, hA, hfr, hlo, hlk, hcs, hAm⟩ := K
  intro H locs ls hP hS hl
  exact lv_icmp_lt hx hb hd ht (fun q => kt q H locs ls hP hS hl) (fun q => kf q H locs ls hP hS hl)
theorem o_icmp_ge {x : En} {E : Amd} {D : va_G} {tys : List (ClassId × FieldType)} {h : Nat → Nat} {L : Lay} {own : String} {cc : ByteArray} {nL fr lo : Nat} {M : Mem} {pc : Nat} {V : List (Option Value)} {rest : List Value} (K : Kx x E D tys h L own cc nL fr lo) {a b : Int32} {off : Int} (tgt : Nat) (hd : decode cc pc = .ok (.if_icmp .ge off, 3)) (ht : (pc : Int) + off = (tgt : Int)) (kt : b ≤ a → Go x D tys h L nL M (tgt) V (rest)) (kf : ¬ (b ≤ a) → Go x D tys h L nL M (pc + 3) V (rest)) : Go x D tys h L nL M (pc) V (.int b :: .int a :: rest) := by
  obtain ⟨p, l, e, R, s, m, args, below, meth, c, A, cells, slots, Q⟩ := x
  obtain ⟨⟨hx, hb, hml, hown, hts⟩, hK, hi, hA0, hA, hfr, hlo, hlk, hcs, hAm⟩ := K
  intro H locs ls hP hS hl
  exact lv_icmp_ge hx hb hd ht (fun q => kt q H locs ls hP hS hl) (fun q => kf q H locs ls hP hS hl)
theorem o_icmp_gt {x : En} {E : Amd} {D : va_G} {tys : List (ClassId × FieldType)} {h : Nat → Nat} {L : Lay} {own : String} {cc : ByteArray} {nL fr lo : Nat} {M : Mem} {pc : Nat} {V : List (Option Value)} {rest : List Value} (K : Kx x E D tys h L own cc nL fr lo) {a b : Int32} {off : Int} (tgt : Nat) (hd : decode cc pc = .ok (.if_icmp .gt off, 3)) (ht : (pc : Int) + off = (tgt : Int)) (kt : b < a → Go x D tys h L nL M (tgt) V (rest)) (kf : ¬ (b < a) → Go x D tys h L nL M (pc + 3) V (rest)) : Go x D tys h L nL M (pc) V (.int b :: .int a :: rest) := by
  obtain ⟨p, l, e, R, s, m, args, below, meth, c, A, cells, slots, Q⟩ := x
  obtain ⟨⟨hx, hb, hml, hown, hts⟩, hK, hi, hA0, hA, hfr, hlo, hlk, hcs, hAm⟩ := K
  intro H locs ls hP hS hl
  exact lv_icmp_gt hx hb hd ht (fun q => kt q H locs ls hP hS hl) (fun q => kf q H locs ls hP hS hl)
theorem o_icmp_le {x : En} {E : Amd} {D : va_G} {tys : List (ClassId × FieldType)} {h : Nat → Nat} {L : Lay} {own : String} {cc : ByteArray} {nL fr lo : Nat} {M : Mem} {pc : Nat} {V : List (Option Value)} {rest : List Value} (K : Kx x E D tys h L own cc nL fr lo) {a b : Int32} {off : Int} (tgt : Nat) (hd : decode cc pc = .ok (.if_icmp .le off, 3)) (ht : (pc : Int) + off = (tgt : Int)) (kt : a ≤ b → Go x D tys h L nL M (tgt) V (rest)) (kf : ¬ (a ≤ b) → Go x D tys h L nL M (pc + 3) V (rest)) : Go x D tys h L nL M (pc) V (.int b :: .int a :: rest) := by
  obtain ⟨p, l, e, R, s, m, args, below, meth, c, A, cells, slots, Q⟩ := x
  obtain ⟨⟨hx, hb, hml, hown, hts⟩, hK, hi, hA0, hA, hfr, hlo, hlk, hcs, hAm⟩ := K
  intro H locs ls hP hS hl
  exact lv_icmp_le hx hb hd ht (fun q => kt q H locs ls hP hS hl) (fun q => kf q H locs ls hP hS hl)
theorem o_goto {x : En} {E : Amd} {D : va_G} {tys : List (ClassId × FieldType)} {h : Nat → Nat} {L : Lay} {own : String} {cc : ByteArray} {nL fr lo : Nat} {M : Mem} {pc : Nat} {V : List (Option Value)} {rest : List Value} (K : Kx x E D tys h L own cc nL fr lo) {off : Int} (tgt : Nat) (hd : decode cc pc = .ok (.goto off, 3)) (ht : (pc : Int) + off = (tgt : Int)) (k : Go x D tys h L nL M (tgt) V (rest)) : Go x D tys h L nL M (pc) V (rest) := by
  obtain ⟨p, l, e, R, s, m, args, below, meth, c, A, cells, slots, Q⟩ := x
  obtain ⟨⟨hx, hb, hml, hown, hts⟩, hK, hi, hA0, hA, hfr, hlo, hlk, hcs, hAm⟩ := K
  intro H locs ls hP hS hl
  exact lv_goto hx hb hd ht (k H locs ls hP hS hl)
theorem o_ifnull {x : En} {E : Amd} {D : va_G} {tys : List (ClassId × FieldType)} {h : Nat → Nat} {L : Lay} {own : String} {cc : ByteArray} {nL fr lo : Nat} {M : Mem} {pc : Nat} {V : List (Option Value)} {rest : List Value} (K : Kx x E D tys h L own cc nL fr lo) {a : Nat} {off : Int} (hd : decode cc pc = .ok (.ifnull off, 3)) (k : Go x D tys h L nL M (pc + 3) V (rest)) : Go x D tys h L nL M (pc) V (.ref a :: rest) := by
  obtain ⟨p, l, e, R, s, m, args, below, meth, c, A, cells, slots, Q⟩ := x
  obtain ⟨⟨hx, hb, hml, hown, hts⟩, hK, hi, hA0, hA, hfr, hlo, hlk, hcs, hAm⟩ := K
  intro H locs ls hP hS hl
  exact lv_ifnull hx hb hd (k H locs ls hP hS hl)
theorem o_ifnonnull {x : En} {E : Amd} {D : va_G} {tys : List (ClassId × FieldType)} {h : Nat → Nat} {L : Lay} {own : String} {cc : ByteArray} {nL fr lo : Nat} {M : Mem} {pc : Nat} {V : List (Option Value)} {rest : List Value} (K : Kx x E D tys h L own cc nL fr lo) {a : Nat} {off : Int} (tgt : Nat) (hd : decode cc pc = .ok (.ifnonnull off, 3)) (ht : (pc : Int) + off = (tgt : Int)) (k : Go x D tys h L nL M (tgt) V (rest)) : Go x D tys h L nL M (pc) V (.ref a :: rest) := by
  obtain ⟨p, l, e, R, s, m, args, below, meth, c, A, cells, slots, Q⟩ := x
  obtain ⟨⟨hx, hb, hml, hown, hts⟩, hK, hi, hA0, hA, hfr, hlo, hlk, hcs, hAm⟩ := K
  intro H locs ls hP hS hl
  exact lv_ifnonnull hx hb hd ht (k H locs ls hP hS hl)
def tsel (dflt lo hi : Int) (offs : Array Int) (v : Int) : Int := if v < lo ∨ hi < v then dflt else (offs[(v - lo).toNat]?).getD dflt
theorem tsel_d {dflt lo hi v : Int} {offs : Array Int} (vs : List Int) (hne : ∀ u ∈ vs, ¬ v = u) (hall : (List.range offs.size).all (fun j => decide (offs[j]? = some dflt) || decide ((lo + (j : Int)) ∈ vs)) = true) : tsel dflt lo hi offs v = dflt := by
  unfold tsel
  split
  · rfl
  · rename_i hn
    cases hq : offs[(v - lo).toNat]? with
    | none => rfl
    | some o =>
      have hj := (Array.getElem?_eq_some_iff.mp hq).1
      have h1 := List.all_eq_true.mp hall _ (List.mem_range.mpr hj)
      rw [Bool.or_eq_true, decide_eq_true_eq, decide_eq_true_eq] at h1
      rcases h1 with h1 | h1
      · rw [hq] at h1
        exact Option.some.inj h1
      · exact absurd (by omega) (hne _ h1)
theorem o_table {x : En} {E : Amd} {D : va_G} {tys : List (ClassId × FieldType)} {h : Nat → Nat} {L : Lay} {own : String} {cc : ByteArray} {nL fr lo : Nat} {M : Mem} {pc : Nat} {V : List (Option Value)} {rest : List Value} (K : Kx x E D tys h L own cc nL fr lo) {a : Int32} {dflt lo2 hi2 off : Int} {offs : Array Int} {len : Nat} (tgt : Nat) (hd : decode cc pc = .ok (.tableswitch dflt lo2 hi2 offs, len)) (hsz : (offs.size : Int) = hi2 - lo2 + 1) (ho : tsel dflt lo2 hi2 offs a.toInt = off) (ht : (pc : Int) + off = (tgt : Int)) (k : Go x D tys h L nL M (tgt) V (rest)) : Go x D tys h L nL M (pc) V (.int a :: rest) := by
  obtain ⟨p, l, e, R, s, m, args, below, meth, c, A, cells, slots, Q⟩ := x
  obtain ⟨⟨hx, hb, hml, hown, hts⟩, hK, hi, hA0, hA, hfr, hlo, hlk, hcs, hAm⟩ := K
  intro H locs ls hP hS hl
  subst ho
  unfold tsel at ht
  by_cases hq : a.toInt < lo2 ∨ hi2 < a.toInt
  · rw [if_pos hq] at ht
    exact lv_tableOut hx hb hd hq ht (k H locs ls hP hS hl)
  · rw [if_neg hq] at ht
    have hj : (a.toInt - lo2).toNat < offs.size := by omega
    rw [Array.getElem?_eq_getElem hj] at ht
    exact lv_tableIn hx hb hd (by omega) (by omega) (Array.getElem?_eq_getElem hj) ht (k H locs ls hP hS hl)
theorem o_lookup {x : En} {E : Amd} {D : va_G} {tys : List (ClassId × FieldType)} {h : Nat → Nat} {L : Lay} {own : String} {cc : ByteArray} {nL fr lo : Nat} {M : Mem} {pc : Nat} {V : List (Option Value)} {rest : List Value} (K : Kx x E D tys h L own cc nL fr lo) {a : Int32} {dflt off : Int} {ps : Array (Int × Int)} {len : Nat} (tgt : Nat) (hd : decode cc pc = .ok (.lookupswitch dflt ps, len)) (hp : (ps.toList.zip (ps.toList.drop 1)).all (fun (a, next) => a.1 < next.1) = true) (ho : Op.lookupswitch.offset ps.toList dflt a.toInt = off) (ht : (pc : Int) + off = (tgt : Int)) (k : Go x D tys h L nL M (tgt) V (rest)) : Go x D tys h L nL M (pc) V (.int a :: rest) := by
  obtain ⟨p, l, e, R, s, m, args, below, meth, c, A, cells, slots, Q⟩ := x
  obtain ⟨⟨hx, hb, hml, hown, hts⟩, hK, hi, hA0, hA, hfr, hlo, hlk, hcs, hAm⟩ := K
  intro H locs ls hP hS hl
  exact lv_lookup hx hb hd hp ho ht (k H locs ls hP hS hl)
theorem o_iret {x : En} {E : Amd} {D : va_G} {tys : List (ClassId × FieldType)} {h : Nat → Nat} {L : Lay} {own : String} {cc : ByteArray} {nL fr lo : Nat} {M : Mem} {pc : Nat} {V : List (Option Value)} (K : Kx x E D tys h L own cc nL fr lo) {a : Int32} (hR : Rt x D h L (some .int) (some (.int a)) M) (hd : decode cc pc = .ok (.ireturn, 1)) : Go x D tys h L nL M (pc) V ([.int a]) := by
  obtain ⟨p, l, e, R, s, m, args, below, meth, c, A, cells, slots, Q⟩ := x
  obtain ⟨⟨hx, hb, hml, hown, hts⟩, hK, hi, hA0, hA, hfr, hlo, hlk, hcs, hAm⟩ := K
  intro H locs ls hP hS hl
  obtain ⟨hr, hQ⟩ := hR
  subst hQ
  exact W.iret hx hb hr (fun t ht hW => ⟨rfl, by rw [ht]; exact hP, hS.F ht⟩) hS.2.2 hd hlk
theorem o_zret {x : En} {E : Amd} {D : va_G} {tys : List (ClassId × FieldType)} {h : Nat → Nat} {L : Lay} {own : String} {cc : ByteArray} {nL fr lo : Nat} {M : Mem} {pc : Nat} {V : List (Option Value)} (K : Kx x E D tys h L own cc nL fr lo) {a : Int32} (hR : Rt x D h L (some .boolean) (some (.int a)) M) (hn : narrow .boolean (.int a) = .int a) (hd : decode cc pc = .ok (.ireturn, 1)) : Go x D tys h L nL M (pc) V ([.int a]) := by
  obtain ⟨p, l, e, R, s, m, args, below, meth, c, A, cells, slots, Q⟩ := x
  obtain ⟨⟨hx, hb, hml, hown, hts⟩, hK, hi, hA0, hA, hfr, hlo, hlk, hcs, hAm⟩ := K
  intro H locs ls hP hS hl
  obtain ⟨hr, hQ⟩ := hR
  subst hQ
  exact W.zret hx hb hr hn (fun t ht hW => ⟨rfl, by rw [ht]; exact hP, hS.F ht⟩) hS.2.2 hd hlk
theorem o_lret {x : En} {E : Amd} {D : va_G} {tys : List (ClassId × FieldType)} {h : Nat → Nat} {L : Lay} {own : String} {cc : ByteArray} {nL fr lo : Nat} {M : Mem} {pc : Nat} {V : List (Option Value)} (K : Kx x E D tys h L own cc nL fr lo) {a : Int64} (hR : Rt x D h L (some .long) (some (.long a)) M) (hd : decode cc pc = .ok (.lreturn, 1)) : Go x D tys h L nL M (pc) V ([.long a]) := by
  obtain ⟨p, l, e, R, s, m, args, below, meth, c, A, cells, slots, Q⟩ := x
  obtain ⟨⟨hx, hb, hml, hown, hts⟩, hK, hi, hA0, hA, hfr, hlo, hlk, hcs, hAm⟩ := K
  intro H locs ls hP hS hl
  obtain ⟨hr, hQ⟩ := hR
  subst hQ
  exact W.lret hx hb hr (fun t ht hW => ⟨rfl, by rw [ht]; exact hP, hS.F ht⟩) hS.2.2 hd hlk
theorem o_vret {x : En} {E : Amd} {D : va_G} {tys : List (ClassId × FieldType)} {h : Nat → Nat} {L : Lay} {own : String} {cc : ByteArray} {nL fr lo : Nat} {M : Mem} {pc : Nat} {V : List (Option Value)} (K : Kx x E D tys h L own cc nL fr lo) (hR : Rt x D h L none none M) (hd : decode cc pc = .ok (.return_, 1)) : Go x D tys h L nL M (pc) V ([]) := by
  obtain ⟨p, l, e, R, s, m, args, below, meth, c, A, cells, slots, Q⟩ := x
  obtain ⟨⟨hx, hb, hml, hown, hts⟩, hK, hi, hA0, hA, hfr, hlo, hlk, hcs, hAm⟩ := K
  intro H locs ls hP hS hl
  obtain ⟨hr, hQ⟩ := hR
  subst hQ
  exact W.vret hx hb hr (fun t ht hW => ⟨rfl, by rw [ht]; exact hP, hS.F ht⟩) hS.2.2 hd hlk
theorem o_aret {x : En} {E : Amd} {D : va_G} {tys : List (ClassId × FieldType)} {h : Nat → Nat} {L : Lay} {own : String} {cc : ByteArray} {nL fr lo : Nat} {M : Mem} {pc : Nat} {V : List (Option Value)} (K : Kx x E D tys h L own cc nL fr lo) {v : Value} {rt : FieldType} (hrt : (∃ n, rt = .object n) ∨ ∃ t, rt = .array t) (hv : v = .null ∨ ∃ a, v = .ref a) (hR : Rt x D h L (some rt) (some v) M) (hd : decode cc pc = .ok (.areturn, 1)) : Go x D tys h L nL M (pc) V ([v]) := by
  obtain ⟨p, l, e, R, s, m, args, below, meth, c, A, cells, slots, Q⟩ := x
  obtain ⟨⟨hx, hb, hml, hown, hts⟩, hK, hi, hA0, hA, hfr, hlo, hlk, hcs, hAm⟩ := K
  intro H locs ls hP hS hl
  obtain ⟨hr, hQ⟩ := hR
  subst hQ
  exact W.aret hx hb hr hrt hv (fun t ht hW => ⟨rfl, by rw [ht]; exact hP, hS.F ht⟩) hS.2.2 hd hlk
theorem o_nmi {x : En} {D : va_G} {tys : List (ClassId × FieldType)} {h : Nat → Nat} {L : Lay} {nL : Nat} {M : Mem} {pc : Nat} {V : List (Option Value)} {rest : List Value} {a y : Int32} (e : a = y) (k : Go x D tys h L nL M (pc) V (.int y :: rest)) : Go x D tys h L nL M (pc) V (.int a :: rest) := by rw [e]; exact k
theorem o_nml {x : En} {D : va_G} {tys : List (ClassId × FieldType)} {h : Nat → Nat} {L : Lay} {nL : Nat} {M : Mem} {pc : Nat} {V : List (Option Value)} {rest : List Value} {a y : Int64} (e : a = y) (k : Go x D tys h L nL M (pc) V (.long y :: rest)) : Go x D tys h L nL M (pc) V (.long a :: rest) := by rw [e]; exact k
theorem o_nmM {x : En} {D : va_G} {tys : List (ClassId × FieldType)} {h : Nat → Nat} {L : Lay} {nL : Nat} {M : Mem} {pc : Nat} {V : List (Option Value)} {rest : List Value} {M2 : Mem} (e : M = M2) (k : Go x D tys h L nL M2 (pc) V (rest)) : Go x D tys h L nL M (pc) V (rest) := by rw [e]; exact k
theorem e_iret {x : En} {E : Amd} {D : va_G} {tys : List (ClassId × FieldType)} {h : Nat → Nat} {L : Lay} {own : String} {cc : ByteArray} {nL fr lo : Nat} {M : Mem} {pc : Nat} {V : List (Option Value)} (K : Kx x E D tys h L own cc nL fr lo) {a r : Int32} {M2 : Mem} (hf : some (a, M) = some (r, M2)) (hR : Rt x D h L (some .int) (some (.int r)) M2) (hd : decode cc pc = .ok (.ireturn, 1)) : Go x D tys h L nL M (pc) V ([.int a]) := by
  cases hf
  exact o_iret K hR hd
theorem e_zret {x : En} {E : Amd} {D : va_G} {tys : List (ClassId × FieldType)} {h : Nat → Nat} {L : Lay} {own : String} {cc : ByteArray} {nL fr lo : Nat} {M : Mem} {pc : Nat} {V : List (Option Value)} (K : Kx x E D tys h L own cc nL fr lo) {a r : Int32} {M2 : Mem} (hf : some (a, M) = some (r, M2)) (hR : Rt x D h L (some .boolean) (some (.int r)) M2) (hn : bz a = true) (hd : decode cc pc = .ok (.ireturn, 1)) : Go x D tys h L nL M (pc) V ([.int a]) := by
  cases hf
  exact o_zret K hR (bz_n hn) hd
theorem e_lret {x : En} {E : Amd} {D : va_G} {tys : List (ClassId × FieldType)} {h : Nat → Nat} {L : Lay} {own : String} {cc : ByteArray} {nL fr lo : Nat} {M : Mem} {pc : Nat} {V : List (Option Value)} (K : Kx x E D tys h L own cc nL fr lo) {a r : Int64} {M2 : Mem} (hf : some (a, M) = some (r, M2)) (hR : Rt x D h L (some .long) (some (.long r)) M2) (hd : decode cc pc = .ok (.lreturn, 1)) : Go x D tys h L nL M (pc) V ([.long a]) := by
  cases hf
  exact o_lret K hR hd
theorem e_vret {x : En} {E : Amd} {D : va_G} {tys : List (ClassId × FieldType)} {h : Nat → Nat} {L : Lay} {own : String} {cc : ByteArray} {nL fr lo : Nat} {M : Mem} {pc : Nat} {V : List (Option Value)} (K : Kx x E D tys h L own cc nL fr lo) {M2 : Mem} (hf : some M = some M2) (hR : Rt x D h L none none M2) (hd : decode cc pc = .ok (.return_, 1)) : Go x D tys h L nL M (pc) V ([]) := by
  cases hf
  exact o_vret K hR hd
theorem r_iret {x : En} {E : Amd} {D : va_G} {tys : List (ClassId × FieldType)} {h : Nat → Nat} {L : Lay} {own : String} {cc : ByteArray} {nL fr lo : Nat} {M : Mem} {pc : Nat} {V : List (Option Value)} (K : Kx x E D tys h L own cc nL fr lo) {a r : Int32} (hf : some a = some r) (hR : Rt x D h L (some .int) (some (.int r)) M) (hd : decode cc pc = .ok (.ireturn, 1)) : Go x D tys h L nL M (pc) V ([.int a]) := by
  cases hf
  exact o_iret K hR hd
theorem r_zret {x : En} {E : Amd} {D : va_G} {tys : List (ClassId × FieldType)} {h : Nat → Nat} {L : Lay} {own : String} {cc : ByteArray} {nL fr lo : Nat} {M : Mem} {pc : Nat} {V : List (Option Value)} (K : Kx x E D tys h L own cc nL fr lo) {a r : Int32} (hf : some a = some r) (hR : Rt x D h L (some .boolean) (some (.int r)) M) (hn : bz a = true) (hd : decode cc pc = .ok (.ireturn, 1)) : Go x D tys h L nL M (pc) V ([.int a]) := by
  cases hf
  exact o_zret K hR (bz_n hn) hd
theorem r_lret {x : En} {E : Amd} {D : va_G} {tys : List (ClassId × FieldType)} {h : Nat → Nat} {L : Lay} {own : String} {cc : ByteArray} {nL fr lo : Nat} {M : Mem} {pc : Nat} {V : List (Option Value)} (K : Kx x E D tys h L own cc nL fr lo) {a r : Int64} (hf : some a = some r) (hR : Rt x D h L (some .long) (some (.long r)) M) (hd : decode cc pc = .ok (.lreturn, 1)) : Go x D tys h L nL M (pc) V ([.long a]) := by
  cases hf
  exact o_lret K hR hd
theorem o_get {x : En} {E : Amd} {D : va_G} {tys : List (ClassId × FieldType)} {h : Nat → Nat} {L : Lay} {own : String} {cc : ByteArray} {nL fr lo : Nat} {M : Mem} {pc : Nat} {V : List (Option Value)} {rest : List Value} (K : Kx x E D tys h L own cc nL fr lo) {k ci N idx : Nat} {fs : List Value} {C ref : String} {T : u_T} {v : Value} (j : Nat) (hk : k < L.1) (hc : L.2 k (M k) = .inr (ci, fs)) (hcl : vwCl[ci]? = some (C, T, N)) (hj : j < N) (hw : ∀ w ∈ u_ws C T N, w ∈ TB) (hlink : Cond.fieldLink own idx ref (T j).2.1 (T j).2.2.1 ∈ TB) (href : (T j).1 = ref) (hv : fs[j]? = some v) (hd : decode cc pc = .ok (.getfield idx, 3)) (kk : Go x D tys h L nL M (pc + 3) V (v :: rest)) : Go x D tys h L nL M (pc) V (.ref (h k) :: rest) := by
  obtain ⟨p, l, e, R, s, m, args, below, meth, c, A, cells, slots, Q⟩ := x
  obtain ⟨⟨hx, hb, hml, hown, hts⟩, hK, hi, hA0, hA, hfr, hlo, hlk, hcs, hAm⟩ := K
  intro H locs ls hP hS hl
  exact va_get hx hb hts hw hown hK hP k (by rw [wsOf_at hk, hc]) hcl j hj (hts _ hlink) (fun _ q => by rw [← href]; exact q) hv hd (kk H locs ls hP hS hl)
theorem o_put {x : En} {E : Amd} {D : va_G} {tys : List (ClassId × FieldType)} {h : Nat → Nat} {L : Lay} {own : String} {cc : ByteArray} {nL fr lo : Nat} {M : Mem} {pc : Nat} {V : List (Option Value)} {rest : List Value} (K : Kx x E D tys h L own cc nL fr lo) {k ci N idx : Nat} {fs : List Value} {C ref : String} {T : u_T} {v : Value} {ty : FieldType} (ty0 : Nat → FieldType) (j : Nat) (r : Nat → Int32) (hk : k < L.1) (hc : L.2 k (M k) = .inr (ci, fs)) (hcl : vwCl[ci]? = some (C, T, N)) (hj : j < N) (hw : ∀ w ∈ u_ws C T N, w ∈ TB) (hty : ∀ k, k < N → parseFieldDescriptor (T k).2.2.1 = some (ty0 k)) (hnm : ∀ a, a < N → ∀ b, b < N → a ≠ b → (T a).2.1 ≠ (T b).2.1) (hlink : Cond.fieldLink own idx ref (T j).2.1 (T j).2.2.1 ∈ TB) (href : (T j).1 = ref) (hfin : (T j).2.2.2 = false) (hpd : parseFieldDescriptor (T j).2.2.1 = some ty) (hn : narrow ty v = v) (hfit : fits ty v = true) (hlen : j < fs.length) (hr : L.2 k r = .inr (ci, fs.set j v)) (hd : decode cc pc = .ok (.putfield idx, 3)) (kk : Go x D tys h L nL (up M k r) (pc + 3) V (rest)) : Go x D tys h L nL M (pc) V (v :: .ref (h k) :: rest) := by
  obtain ⟨p, l, e, R, s, m, args, below, meth, c, A, cells, slots, Q⟩ := x
  obtain ⟨⟨hx, hb, hml, hown, hts⟩, hK, hi, hA0, hA, hfr, hlo, hlk, hcs, hAm⟩ := K
  intro H locs ls hP hS hl
  refine va_put hx hb hts hw ty0 hty hnm hown hK hP (wsOf_D hi hA0) hS k (by rw [wsOf_at hk, hc]) hcl j hj (hts _ hlink) (fun _ q => by rw [← href]; exact q) hfin hpd hn hfit hlen hd (fun H1 locs1 h1 h2 h3 => ?_)
  rw [wsOf_set hk hr] at h1
  exact kk H1 locs1 ls h1 h3 hl
theorem o_intld {x : En} {E : Amd} {D : va_G} {tys : List (ClassId × FieldType)} {h : Nat → Nat} {L : Lay} {own : String} {cc : ByteArray} {nL fr lo : Nat} {M : Mem} {pc : Nat} {V : List (Option Value)} {rest : List Value} (K : Kx x E D tys h L own cc nL fr lo) {k n : Nat} {cA : ClassId} {i : Int32} {f : Nat → Int32} (t0 : Nat) (hk : k < L.1) (hc : L.2 k (M k) = .inl (cA, n, .inl f)) (ht0 : tys[t0]? = some (cA, .int)) (hin : ib i n = true) (hd : decode cc pc = .ok (.iaload, 1)) (kk : Go x D tys h L nL M (pc + 1) V (.int (f (ix i)) :: rest)) : Go x D tys h L nL M (pc) V (.int i :: .ref (h k) :: rest) := by
  obtain ⟨p, l, e, R, s, m, args, below, meth, c, A, cells, slots, Q⟩ := x
  obtain ⟨⟨hx, hb, hml, hown, hts⟩, hK, hi, hA0, hA, hfr, hlo, hlk, hcs, hAm⟩ := K
  intro H locs ls hP hS hl
  exact va_iald hx hb hK hP k t0 (by rw [wsOf_at hk, hc]) ht0 (ib_in hin) hd (kk H locs ls hP hS hl)
theorem o_byteld {x : En} {E : Amd} {D : va_G} {tys : List (ClassId × FieldType)} {h : Nat → Nat} {L : Lay} {own : String} {cc : ByteArray} {nL fr lo : Nat} {M : Mem} {pc : Nat} {V : List (Option Value)} {rest : List Value} (K : Kx x E D tys h L own cc nL fr lo) {k n : Nat} {cA : ClassId} {i : Int32} {f : Nat → Int32} (t0 : Nat) (hk : k < L.1) (hc : L.2 k (M k) = .inl (cA, n, .inl f)) (ht0 : tys[t0]? = some (cA, .byte)) (hin : ib i n = true) (hd : decode cc pc = .ok (.baload, 1)) (kk : Go x D tys h L nL M (pc + 1) V (.int (f (ix i)) :: rest)) : Go x D tys h L nL M (pc) V (.int i :: .ref (h k) :: rest) := by
  obtain ⟨p, l, e, R, s, m, args, below, meth, c, A, cells, slots, Q⟩ := x
  obtain ⟨⟨hx, hb, hml, hown, hts⟩, hK, hi, hA0, hA, hfr, hlo, hlk, hcs, hAm⟩ := K
  intro H locs ls hP hS hl
  exact va_bald hx hb hK hP k t0 (by rw [wsOf_at hk, hc]) ht0 (ib_in hin) hd (kk H locs ls hP hS hl)
theorem o_charld {x : En} {E : Amd} {D : va_G} {tys : List (ClassId × FieldType)} {h : Nat → Nat} {L : Lay} {own : String} {cc : ByteArray} {nL fr lo : Nat} {M : Mem} {pc : Nat} {V : List (Option Value)} {rest : List Value} (K : Kx x E D tys h L own cc nL fr lo) {k n : Nat} {cA : ClassId} {i : Int32} {f : Nat → Int32} (t0 : Nat) (hk : k < L.1) (hc : L.2 k (M k) = .inl (cA, n, .inl f)) (ht0 : tys[t0]? = some (cA, .char)) (hin : ib i n = true) (hd : decode cc pc = .ok (.caload, 1)) (kk : Go x D tys h L nL M (pc + 1) V (.int (f (ix i)) :: rest)) : Go x D tys h L nL M (pc) V (.int i :: .ref (h k) :: rest) := by
  obtain ⟨p, l, e, R, s, m, args, below, meth, c, A, cells, slots, Q⟩ := x
  obtain ⟨⟨hx, hb, hml, hown, hts⟩, hK, hi, hA0, hA, hfr, hlo, hlk, hcs, hAm⟩ := K
  intro H locs ls hP hS hl
  exact va_cald hx hb hK hP k t0 (by rw [wsOf_at hk, hc]) ht0 (ib_in hin) hd (kk H locs ls hP hS hl)
theorem o_booleanld {x : En} {E : Amd} {D : va_G} {tys : List (ClassId × FieldType)} {h : Nat → Nat} {L : Lay} {own : String} {cc : ByteArray} {nL fr lo : Nat} {M : Mem} {pc : Nat} {V : List (Option Value)} {rest : List Value} (K : Kx x E D tys h L own cc nL fr lo) {k n : Nat} {cA : ClassId} {i : Int32} {f : Nat → Int32} (t0 : Nat) (hk : k < L.1) (hc : L.2 k (M k) = .inl (cA, n, .inl f)) (ht0 : tys[t0]? = some (cA, .boolean)) (hin : ib i n = true) (hd : decode cc pc = .ok (.baload, 1)) (kk : Go x D tys h L nL M (pc + 1) V (.int (f (ix i)) :: rest)) : Go x D tys h L nL M (pc) V (.int i :: .ref (h k) :: rest) := by
  obtain ⟨p, l, e, R, s, m, args, below, meth, c, A, cells, slots, Q⟩ := x
  obtain ⟨⟨hx, hb, hml, hown, hts⟩, hK, hi, hA0, hA, hfr, hlo, hlk, hcs, hAm⟩ := K
  intro H locs ls hP hS hl
  exact va_zald hx hb hK hP k t0 (by rw [wsOf_at hk, hc]) ht0 (ib_in hin) hd (kk H locs ls hP hS hl)
theorem o_intst {x : En} {E : Amd} {D : va_G} {tys : List (ClassId × FieldType)} {h : Nat → Nat} {L : Lay} {own : String} {cc : ByteArray} {nL fr lo : Nat} {M : Mem} {pc : Nat} {V : List (Option Value)} {rest : List Value} (K : Kx x E D tys h L own cc nL fr lo) {k n : Nat} {cA : ClassId} {i v : Int32} {f : Nat → Int32} (t0 : Nat) (r : Nat → Int32) (hk : k < L.1) (hc : L.2 k (M k) = .inl (cA, n, .inl f)) (ht0 : tys[t0]? = some (cA, .int)) (hr : L.2 k r = .inl (cA, n, .inl (upd f (ix i) (v)))) (hin : ib i n = true) (hd : decode cc pc = .ok (.iastore, 1)) (kk : Go x D tys h L nL (up M k r) (pc + 1) V (rest)) : Go x D tys h L nL M (pc) V (.int v :: .int i :: .ref (h k) :: rest) := by
  obtain ⟨p, l, e, R, s, m, args, below, meth, c, A, cells, slots, Q⟩ := x
  obtain ⟨⟨hx, hb, hml, hown, hts⟩, hK, hi, hA0, hA, hfr, hlo, hlk, hcs, hAm⟩ := K
  intro H locs ls hP hS hl
  refine va_iast hx hb hK hP (wsOf_D hi hA0) hS k t0 (by rw [wsOf_at hk, hc]) ht0 (ib_in hin) hd (fun H1 locs1 h1 h2 h3 => ?_)
  rw [wsOf_set hk hr] at h1
  exact kk H1 locs1 ls h1 h3 hl
theorem o_bytest {x : En} {E : Amd} {D : va_G} {tys : List (ClassId × FieldType)} {h : Nat → Nat} {L : Lay} {own : String} {cc : ByteArray} {nL fr lo : Nat} {M : Mem} {pc : Nat} {V : List (Option Value)} {rest : List Value} (K : Kx x E D tys h L own cc nL fr lo) {k n : Nat} {cA : ClassId} {i v : Int32} {f : Nat → Int32} (t0 : Nat) (r : Nat → Int32) (hk : k < L.1) (hc : L.2 k (M k) = .inl (cA, n, .inl f)) (ht0 : tys[t0]? = some (cA, .byte)) (hr : L.2 k r = .inl (cA, n, .inl (upd f (ix i) (vp_nar .byte v)))) (hin : ib i n = true) (hd : decode cc pc = .ok (.bastore, 1)) (kk : Go x D tys h L nL (up M k r) (pc + 1) V (rest)) : Go x D tys h L nL M (pc) V (.int v :: .int i :: .ref (h k) :: rest) := by
  obtain ⟨p, l, e, R, s, m, args, below, meth, c, A, cells, slots, Q⟩ := x
  obtain ⟨⟨hx, hb, hml, hown, hts⟩, hK, hi, hA0, hA, hfr, hlo, hlk, hcs, hAm⟩ := K
  intro H locs ls hP hS hl
  refine va_bast hx hb hK hP (wsOf_D hi hA0) hS k t0 (by rw [wsOf_at hk, hc]) ht0 (ib_in hin) hd (fun H1 locs1 h1 h2 h3 => ?_)
  rw [wsOf_set hk hr] at h1
  exact kk H1 locs1 ls h1 h3 hl
theorem o_booleanst {x : En} {E : Amd} {D : va_G} {tys : List (ClassId × FieldType)} {h : Nat → Nat} {L : Lay} {own : String} {cc : ByteArray} {nL fr lo : Nat} {M : Mem} {pc : Nat} {V : List (Option Value)} {rest : List Value} (K : Kx x E D tys h L own cc nL fr lo) {k n : Nat} {cA : ClassId} {i v : Int32} {f : Nat → Int32} (t0 : Nat) (r : Nat → Int32) (hk : k < L.1) (hc : L.2 k (M k) = .inl (cA, n, .inl f)) (ht0 : tys[t0]? = some (cA, .boolean)) (hr : L.2 k r = .inl (cA, n, .inl (upd f (ix i) (vp_nar .boolean v)))) (hin : ib i n = true) (hd : decode cc pc = .ok (.bastore, 1)) (kk : Go x D tys h L nL (up M k r) (pc + 1) V (rest)) : Go x D tys h L nL M (pc) V (.int v :: .int i :: .ref (h k) :: rest) := by
  obtain ⟨p, l, e, R, s, m, args, below, meth, c, A, cells, slots, Q⟩ := x
  obtain ⟨⟨hx, hb, hml, hown, hts⟩, hK, hi, hA0, hA, hfr, hlo, hlk, hcs, hAm⟩ := K
  intro H locs ls hP hS hl
  refine va_zast hx hb hK hP (wsOf_D hi hA0) hS k t0 (by rw [wsOf_at hk, hc]) ht0 (ib_in hin) hd (fun H1 locs1 h1 h2 h3 => ?_)
  rw [wsOf_set hk hr] at h1
  exact kk H1 locs1 ls h1 h3 hl
theorem o_alen {x : En} {E : Amd} {D : va_G} {tys : List (ClassId × FieldType)} {h : Nat → Nat} {L : Lay} {own : String} {cc : ByteArray} {nL fr lo : Nat} {M : Mem} {pc : Nat} {V : List (Option Value)} {rest : List Value} (K : Kx x E D tys h L own cc nL fr lo) {k : Nat} {cA : ClassId} {y : vp_A} {ty : FieldType} (t0 : Nat) (v : Int32) (hk : k < L.1) (hc : L.2 k (M k) = .inl (cA, y)) (ht0 : tys[t0]? = some (cA, ty)) (hv : Int32.ofNat y.1 = v) (hd : decode cc pc = .ok (.arraylength, 1)) (kk : Go x D tys h L nL M (pc + 1) V (.int v :: rest)) : Go x D tys h L nL M (pc) V (.ref (h k) :: rest) := by
  obtain ⟨p, l, e, R, s, m, args, below, meth, c, A, cells, slots, Q⟩ := x
  obtain ⟨⟨hx, hb, hml, hown, hts⟩, hK, hi, hA0, hA, hfr, hlo, hlk, hcs, hAm⟩ := K
  intro H locs ls hP hS hl
  exact va_alen hx hb hK hP k t0 (by rw [wsOf_at hk, hc]) ht0 hv hd (kk H locs ls hP hS hl)
def FU : Nat := 5000
theorem argsV_go : ∀ (av : List Value) (n k : Nat), av.all (fun v => decide (v.category = 1)) = true → ∀ (i : Nat) (v : Value), (av.map some ++ List.replicate n none)[i]? = some (some v) → (k + i, v) ∈ lv_args k av
  | [], n, k, _, i, v, h => by
    exfalso
    simp only [List.map_nil, List.nil_append] at h
    have h1 := List.mem_of_getElem? h
    have h2 := List.eq_of_mem_replicate h1
    cases h2
  | u :: av, n, k, hc, 0, v, h => by
    simp only [List.map_cons, List.cons_append, List.getElem?_cons_zero, Option.some.injEq] at h
    subst h
    simp [lv_args]
  | u :: av, n, k, hc, i + 1, v, h => by
    simp only [List.map_cons, List.cons_append, List.getElem?_cons_succ] at h
    simp only [List.all_cons, Bool.and_eq_true, decide_eq_true_eq] at hc
    have := argsV_go av n (k + 1) hc.2 i v h
    simp only [lv_args, hc.1]
    exact List.mem_cons_of_mem _ (by rw [show k + (i + 1) = k + 1 + i by omega]; exact this)
theorem argsV (av : List Value) (n : Nat) {V : List (Option Value)} (hc : av.all (fun v => decide (v.category = 1)) = true) (hV : av.map some ++ List.replicate n none = V) : ∀ (i : Nat) (v : Value), V[i]? = some (some v) → (i, v) ∈ lv_args 0 av := fun i v h => by
  have := argsV_go av n 0 hc i v (by rw [hV]; exact h)
  rwa [Nat.zero_add] at this

/-- what the tables say of a call, by own class and place in its pool -/
def CsV (own : String) (idx : Nat) (y : MethodName) (cc : ByteArray) (nL : Nat) (ret : Option FieldType) (n : Nat) : Prop := Cond.code y cc nL ret ∈ TB ∧ Cond.initialized y.cls ∈ TB ∧ Cond.methodLink own idx y ∈ TB ∧ Cond.instanceMethod y ∈ TB ∧ Cond.selects y.cls y y ∈ TB ∧ y.cls ≠ "java/lang/invoke/MethodHandle" ∧ y.cls ≠ "java/lang/invoke/VarHandle" ∧ (parseMethodDescriptor y.desc).map (fun d => d.parameters.length) = some n
def CsS (own : String) (idx : Nat) (y : MethodName) (cc : ByteArray) (nL : Nat) (ret : Option FieldType) (n : Nat) : Prop := Cond.code y cc nL ret ∈ TB ∧ Cond.initialized y.cls ∈ TB ∧ Cond.methodLink own idx y ∈ TB ∧ Cond.static y ∈ TB ∧ y.cls ≠ "java/lang/invoke/MethodHandle" ∧ y.cls ≠ "java/lang/invoke/VarHandle" ∧ (parseMethodDescriptor y.desc).map (fun d => d.parameters.length) = some n
def CsN (own : String) (idx : Nat) (y : MethodName) (host : String) (cc : ByteArray) (nL : Nat) (ret : Option FieldType) (n : Nat) : Prop := Cond.code y cc nL ret ∈ TB ∧ Cond.initialized y.cls ∈ TB ∧ (own, idx, y, host) ∈ nestL ∧ Cond.static y ∈ TB ∧ y.cls ≠ "java/lang/invoke/MethodHandle" ∧ y.cls ≠ "java/lang/invoke/VarHandle" ∧ (parseMethodDescriptor y.desc).map (fun d => d.parameters.length) = some n
theorem cg_in {y : MethodName} {cc : ByteArray} {nL : Nat} {ret : Option FieldType} (h : Cond.code y cc nL ret ∈ TB) : GoodIn TB (.code y cc nL ret :: TB) := fun w hw => TB_good w (by
  rcases List.mem_cons.mp hw with e | e
  · rw [e]; exact h
  · exact e)
theorem Pr_blind {E : Amd} {D : va_G} {tys : List (ClassId × FieldType)} {h : Nat → Nat} {L : Lay} {M : Mem} {sz : Nat} {av : List Value} : FrameBlind (va_Pc av (Pr E D tys h L M sz)) := fun a U g mk q => by
  obtain ⟨q0, q1, qP, qK, qi, qm⟩ := q
  exact ⟨q0, q1, qP, va_K.moved (u := U) (U := U.calling g mk a) (Vm.Alike.refl U.vm) qK, qi, qm.blind⟩
theorem Ad_sub {A : Nat → Prop} {h : Nat → Nat} {n : Nat} {s : State} {H : Heap} {locs : List Loc} (hS : va_S A s.heap H locs) (hA0 : ∀ k, k < n → A (h k)) (hA : ∀ q, s.heap.size ≤ q → A q) : ∀ q, Ad h n H.size q → A q := fun q hq => by
  rcases hq with ⟨k, hk1, rfl⟩ | hq
  · exact hA0 k hk1
  · exact hA q (Nat.le_trans hS.1 hq)
/-- behind a call: the answer on the stack, the memory as the contract says -/
theorem go_call {p : Program} {l : Launch} {e : Env} {R : Room} {s : State} {m : MethodId} {args : Array Value} {below : List Frame} {meth : Method} {c : Code} {H : Heap} {locs : List Loc} {cells slots : Nat} {Q : State → Prop} {pc : Nat} {ls : Array Slot} {rest st0 : List Value} {a : Array Value} {A : Nat → Prop} {D : va_G} {h : Nat → Nat} {L : Lay} {v : Option Value} {M' : Mem}
    (hr : va_Run p l e R s m args below meth c H locs cells slots 0 0 (F0 m pc ls st0) rest (Qv v D h L M' (Ad h L.1 H.size) a) (Ad h L.1 H.size)) (hS : va_S A s.heap H locs) (hA0 : ∀ k, k < L.1 → A (h k)) (hA : ∀ q, s.heap.size ≤ q → A q)
    (kk : ∀ (H1 : Heap) (locs1 : List Loc), va_P D vwCl (wsOf h L M') H1 → va_S A s.heap H1 locs1 → W p l e R s m args below meth c H1 locs1 cells slots Q (F0 m (pc + 3) ls (v.toList ++ rest))) : W p l e R s m args below meth c H locs cells slots Q (F0 m pc ls st0) := by
  intro T hT X
  obtain ⟨v1, st₀, t, T', Ls, h0, X', hL, e1, e2, ⟨hv, hb, hz, hk⟩, st⟩ := hr T hT X
  cases hv
  rw [h0] at hz hk
  have hF : ∀ q, Ad h L.1 H.size q → A q := fun q hq => by
    rcases hq with ⟨k, hk1, rfl⟩ | hq
    · exact hA0 k hk1
    · exact hA q (Nat.le_trans hS.1 hq)
  obtain ⟨t2, a1, b1⟩ := kk T'.heap (locs ++ Ls) (by rw [e1]; exact hb)
    ⟨Nat.le_trans hS.1 (by rw [e1]; exact hz), fun q h1 h2 => by rw [e1, hk q (Nat.lt_of_lt_of_le h1 hS.1) (fun z => h2 (hF q z))]; exact hS.2.1 q h1 h2, fun q hq => by
      rcases List.mem_append.mp hq with h | h
      · exact hS.2.2 q h
      · exact hF _ (hL q h)⟩ T' rfl X'
  exact ⟨t2, st t2 a1, b1⟩
theorem o_callV {x : En} {E : Amd} {D : va_G} {tys : List (ClassId × FieldType)} {h : Nat → Nat} {L : Lay} {own : String} {cc : ByteArray} {nL fr lo : Nat} {M : Mem} {pc : Nat} {V : List (Option Value)} {rest : List Value} (K : Kx x E D tys h L own cc nL fr lo) {y : MethodName} {c2 : ByteArray} {nL2 n idx fr2 lo2 : Nat} {ret : Option FieldType} {v : Option Value} {M2 : Mem} {k ci : Nat} {C : vw_C} {fs : List Value} (As : List Value) (hC : Ct x.2.1 E D tys h L y c2 nL2 ret fr2 lo2 (.ref (h k) :: As) M v M2) (hs : CsV own idx y c2 nL2 ret n) (hk : k < L.1) (hc : L.2 k (M k) = .inr (ci, fs)) (hcl : vwCl[ci]? = some C) (hC1 : C.1 = y.cls) (hn : As.length = n) (hrm : fr2 + 1 ≤ fr ∧ 8 + (nL2 + 11) + lo2 ≤ lo) (hrest : (rest.map fun v => v.category).sum ≤ 8) (st0 : List Value) (hst : st0 = As.reverse ++ .ref (h k) :: rest) (hd : decode cc pc = .ok (.invokevirtual idx, 3)) (kk : Go x D tys h L nL M2 (pc + 3) V (v.toList ++ rest)) : Go x D tys h L nL M (pc) V (st0) := by
  obtain ⟨p, l, e, R, s, m, args, below, meth, c, A, cells, slots, Q⟩ := x
  obtain ⟨⟨hx, hb, hml, hown, hts⟩, hK, hi, hA0, hA, hfr, hlo, hlk, hcs, hAm⟩ := K
  intro H locs ls hP hS hl
  obtain ⟨q1, q2, q3, q4, q5, q6, q7, q8⟩ := hs
  have cb : CallB R s args own idx y c2 nL2 ret (.code y c2 nL2 ret :: TB) { frames := fr2, cells := 0, slots := 0, locals := lo2 } 0 0 n := callB_of n hts (cg_in q1) rfl rfl rfl (hts _ q2) (hts _ q3) ⟨q6, q7, q8⟩ ⟨by rw [hfr]; exact hrm.1, by rw [hlo]; exact hrm.2⟩
  refine go_call (va_runV (As := As) (rest := rest) ⟨hx, hb, hml, hown, hts⟩ (hC H.size) ⟨cb, hts _ q4, hts _ q5⟩ ⟨Pr_blind, by rw [← hC1]; exact va_recv hK hP hcl (by rw [wsOf_at hk, hc]), fun U hU hW => ⟨rfl, by rw [hU], by rw [hU]; exact hP, va_K.moved hW.alike hK, hi, hAm.go hS (Ad_sub hS hA0 hA) hU hW⟩⟩ rfl hn hl.1 hst (lv_room hrest) hd hcs) hS hA0 hA (fun H1 locs1 h1 h2 => kk H1 locs1 ls h1 h2 hl)
theorem o_callS {x : En} {E : Amd} {D : va_G} {tys : List (ClassId × FieldType)} {h : Nat → Nat} {L : Lay} {own : String} {cc : ByteArray} {nL fr lo : Nat} {M : Mem} {pc : Nat} {V : List (Option Value)} {rest : List Value} (K : Kx x E D tys h L own cc nL fr lo) {y : MethodName} {c2 : ByteArray} {nL2 n idx fr2 lo2 : Nat} {ret : Option FieldType} {v : Option Value} {M2 : Mem} (As : List Value) (hC : Ct x.2.1 E D tys h L y c2 nL2 ret fr2 lo2 As M v M2) (hs : CsS own idx y c2 nL2 ret n) (hn : As.length = n) (hrm : fr2 + 1 ≤ fr ∧ 8 + (nL2 + 11) + lo2 ≤ lo) (hrest : (rest.map fun v => v.category).sum ≤ 8) (st0 : List Value) (hst : st0 = As.reverse ++ rest) (hd : decode cc pc = .ok (.invokestatic idx, 3)) (kk : Go x D tys h L nL M2 (pc + 3) V (v.toList ++ rest)) : Go x D tys h L nL M (pc) V (st0) := by
  obtain ⟨p, l, e, R, s, m, args, below, meth, c, A, cells, slots, Q⟩ := x
  obtain ⟨⟨hx, hb, hml, hown, hts⟩, hK, hi, hA0, hA, hfr, hlo, hlk, hcs, hAm⟩ := K
  intro H locs ls hP hS hl
  obtain ⟨q1, q2, q3, q4, q6, q7, q8⟩ := hs
  have cb : CallB R s args own idx y c2 nL2 ret (.code y c2 nL2 ret :: TB) { frames := fr2, cells := 0, slots := 0, locals := lo2 } 0 0 n := callB_of n hts (cg_in q1) rfl rfl rfl (hts _ q2) (hts _ q3) ⟨q6, q7, q8⟩ ⟨by rw [hfr]; exact hrm.1, by rw [hlo]; exact hrm.2⟩
  refine go_call (va_runS (As := As) (rest := rest) ⟨hx, hb, hml, hown, hts⟩ (hC H.size) ⟨cb, hts _ q4⟩ ⟨Pr_blind, fun U hU hW => ⟨rfl, by rw [hU], by rw [hU]; exact hP, va_K.moved hW.alike hK, hi, hAm.go hS (Ad_sub hS hA0 hA) hU hW⟩⟩ rfl hn hl.1 hst (lv_room hrest) hd hcs) hS hA0 hA (fun H1 locs1 h1 h2 => kk H1 locs1 ls h1 h2 hl)
theorem o_callSN {x : En} {E : Amd} {D : va_G} {tys : List (ClassId × FieldType)} {h : Nat → Nat} {L : Lay} {own : String} {cc : ByteArray} {nL fr lo : Nat} {M : Mem} {pc : Nat} {V : List (Option Value)} {rest : List Value} (K : Kx x E D tys h L own cc nL fr lo) {y : MethodName} {c2 : ByteArray} {nL2 n idx fr2 lo2 : Nat} {ret : Option FieldType} {v : Option Value} {M2 : Mem} {host : String} (As : List Value) (hC : Ct x.2.1 E D tys h L y c2 nL2 ret fr2 lo2 As M v M2) (hs : CsN own idx y host c2 nL2 ret n) (hn : As.length = n) (hrm : fr2 + 1 ≤ fr ∧ 8 + (nL2 + 11) + lo2 ≤ lo) (hrest : (rest.map fun v => v.category).sum ≤ 8) (st0 : List Value) (hst : st0 = As.reverse ++ rest) (hd : decode cc pc = .ok (.invokestatic idx, 3)) (kk : Go x D tys h L nL M2 (pc + 3) V (v.toList ++ rest)) : Go x D tys h L nL M (pc) V (st0) := by
  obtain ⟨p, l, e, R, s, m, args, below, meth, c, A, cells, slots, Q⟩ := x
  obtain ⟨⟨hx, hb, hml, hown, hts⟩, hK, hi, hA0, hA, hfr, hlo, hlk, hcs, hAm⟩ := K
  intro H locs ls hP hS hl
  obtain ⟨q1, q2, q3, q4, q6, q7, q8⟩ := hs
  have cb : va_CN R s args own idx y host c2 nL2 ret (.code y c2 nL2 ret :: TB) { frames := fr2, cells := 0, slots := 0, locals := lo2 } 0 0 n := va_cnB n hts (cg_in q1) rfl rfl rfl (hAm.2.2.2.2.2.2 _ q3) (hts _ q2) ⟨q6, q7, q8⟩ ⟨by rw [hfr]; exact hrm.1, by rw [hlo]; exact hrm.2⟩
  refine go_call (va_runSN (As := As) (rest := rest) ⟨hx, hb, hml, hown, hts⟩ (hC H.size) ⟨cb, hts _ q4, trivial⟩ ⟨Pr_blind, fun U hU hW => ⟨rfl, by rw [hU], by rw [hU]; exact hP, va_K.moved hW.alike hK, hi, hAm.go hS (Ad_sub hS hA0 hA) hU hW⟩⟩ rfl hn hl.1 hst (lv_room hrest) hd hcs) hS hA0 hA (fun H1 locs1 h1 h2 => kk H1 locs1 ls h1 h2 hl)
theorem o_callVs {x : En} {E : Amd} {D : va_G} {tys : List (ClassId × FieldType)} {h : Nat → Nat} {L : Lay} {own : String} {cc : ByteArray} {nL fr lo : Nat} {M : Mem} {pc : Nat} {V : List (Option Value)} {rest : List Value} (K : Kx x E D tys h L own cc nL fr lo) {y : MethodName} {c2 : ByteArray} {nL2 n idx fr2 lo2 : Nat} {ret : Option FieldType} {v : Option Value} {M2 : Mem} {i : Nat} (As : List Value) (hC : Ct x.2.1 E D tys h L y c2 nL2 ret fr2 lo2 (.ref (E.1 i) :: As) M v M2) (hs : CsV own idx y c2 nL2 ret n) (hi17 : i < 17) (hC1 : "java/lang/String" = y.cls) (hn : As.length = n) (hrm : fr2 + 1 ≤ fr ∧ 8 + (nL2 + 11) + lo2 ≤ lo) (hrest : (rest.map fun v => v.category).sum ≤ 8) (st0 : List Value) (hst : st0 = As.reverse ++ .ref (E.1 i) :: rest) (hd : decode cc pc = .ok (.invokevirtual idx, 3)) (kk : Go x D tys h L nL M2 (pc + 3) V (v.toList ++ rest)) : Go x D tys h L nL M (pc) V (st0) := by
  obtain ⟨p, l, e, R, s, m, args, below, meth, c, A, cells, slots, Q⟩ := x
  obtain ⟨⟨hx, hb, hml, hown, hts⟩, hK, hi, hA0, hA, hfr, hlo, hlk, hcs, hAm⟩ := K
  intro H locs ls hP hS hl
  obtain ⟨q1, q2, q3, q4, q5, q6, q7, q8⟩ := hs
  have cb : CallB R s args own idx y c2 nL2 ret (.code y c2 nL2 ret :: TB) { frames := fr2, cells := 0, slots := 0, locals := lo2 } 0 0 n := callB_of n hts (cg_in q1) rfl rfl rfl (hts _ q2) (hts _ q3) ⟨q6, q7, q8⟩ ⟨by rw [hfr]; exact hrm.1, by rw [hlo]; exact hrm.2⟩
  refine go_call (va_runV (As := As) (rest := rest) ⟨hx, hb, hml, hown, hts⟩ (hC H.size) ⟨cb, hts _ q4, hts _ q5⟩ ⟨Pr_blind, by rw [← hC1]; exact vk_recv hAm.1 hi17 hS, fun U hU hW => ⟨rfl, by rw [hU], by rw [hU]; exact hP, va_K.moved hW.alike hK, hi, hAm.go hS (Ad_sub hS hA0 hA) hU hW⟩⟩ rfl hn hl.1 hst (lv_room hrest) hd hcs) hS hA0 hA (fun H1 locs1 h1 h2 => kk H1 locs1 ls h1 h2 hl)
/-! String constants -/
theorem o_ldcS {x : En} {E : Amd} {D : va_G} {tys : List (ClassId × FieldType)} {h : Nat → Nat} {L : Lay} {cc : ByteArray} {nL fr lo : Nat} {M : Mem} {pc : Nat} {V : List (Option Value)} {rest : List Value} (K : Kx x E D tys h L RX4 cc nL fr lo) {idx : Nat} {tx : String} (i : Nat) (hp : poolS[i]? = some (idx, tx)) (hd : decode cc pc = .ok (.ldc idx, 2)) (kk : Go x D tys h L nL M (pc + 2) V (.ref (E.1 i) :: rest)) : Go x D tys h L nL M (pc) V (rest) := by
  obtain ⟨p, l, e, R, s, m, args, below, meth, c, A, cells, slots, Q⟩ := x
  obtain ⟨⟨hx, hb, hml, hown, hts⟩, hK, hi, hA0, hA, hfr, hlo, hlk, hcs, hAm⟩ := K
  intro H locs ls hP hS hl
  exact va_ldcS hx hb hown (hAm.2.1 i _ hp) hd (kk H locs ls hP hS hl)
theorem o_sval {x : En} {E : Amd} {D : va_G} {tys : List (ClassId × FieldType)} {h : Nat → Nat} {L : Lay} {cc : ByteArray} {nL fr lo : Nat} {M : Mem} {pc : Nat} {V : List (Option Value)} {rest : List Value} (K : Kx x E D tys h L RJ0 cc nL fr lo) {i : Nat} (hi17 : i < 17) (hq : Cond.fieldLink RJ0 9 "java/lang/String" "value" "[B" ∈ TB) (hd : decode cc pc = .ok (.getfield 9, 3)) (kk : Go x D tys h L nL M (pc + 3) V (.ref (E.2.1 i) :: rest)) : Go x D tys h L nL M (pc) V (.ref (E.1 i) :: rest) := by
  obtain ⟨p, l, e, R, s, m, args, below, meth, c, A, cells, slots, Q⟩ := x
  obtain ⟨⟨hx, hb, hml, hown, hts⟩, hK, hi, hA0, hA, hfr, hlo, hlk, hcs, hAm⟩ := K
  intro H locs ls hP hS hl
  exact vk_getf hx hb (hAm.1.1 i hi17).2.2.1 hS hown (hts _ hq) (fun _ q => q) hd (kk H locs ls hP hS hl)
theorem o_scod {x : En} {E : Amd} {D : va_G} {tys : List (ClassId × FieldType)} {h : Nat → Nat} {L : Lay} {cc : ByteArray} {nL fr lo : Nat} {M : Mem} {pc : Nat} {V : List (Option Value)} {rest : List Value} (K : Kx x E D tys h L RJ0 cc nL fr lo) {i : Nat} (hi17 : i < 17) (hq : Cond.fieldLink RJ0 15 "java/lang/String" "coder" "B" ∈ TB) (hd : decode cc pc = .ok (.getfield 15, 3)) (kk : Go x D tys h L nL M (pc + 3) V (.int 0 :: rest)) : Go x D tys h L nL M (pc) V (.ref (E.1 i) :: rest) := by
  obtain ⟨p, l, e, R, s, m, args, below, meth, c, A, cells, slots, Q⟩ := x
  obtain ⟨⟨hx, hb, hml, hown, hts⟩, hK, hi, hA0, hA, hfr, hlo, hlk, hcs, hAm⟩ := K
  intro H locs ls hP hS hl
  exact vk_getf hx hb (hAm.1.1 i hi17).2.1 hS hown (hts _ hq) (fun _ q => q) hd (kk H locs ls hP hS hl)
theorem o_slen {x : En} {E : Amd} {D : va_G} {tys : List (ClassId × FieldType)} {h : Nat → Nat} {L : Lay} {own : String} {cc : ByteArray} {nL fr lo : Nat} {M : Mem} {pc : Nat} {V : List (Option Value)} {rest : List Value} (K : Kx x E D tys h L own cc nL fr lo) {i : Nat} (hi17 : i < 17) (hd : decode cc pc = .ok (.arraylength, 1)) (kk : Go x D tys h L nL M (pc + 1) V (.int (Int32.ofNat (lenS.getD i 0)) :: rest)) : Go x D tys h L nL M (pc) V (.ref (E.2.1 i) :: rest) := by
  obtain ⟨p, l, e, R, s, m, args, below, meth, c, A, cells, slots, Q⟩ := x
  obtain ⟨⟨hx, hb, hml, hown, hts⟩, hK, hi, hA0, hA, hfr, hlo, hlk, hcs, hAm⟩ := K
  intro H locs ls hP hS hl
  exact va_tlen hx hb (hAm.1.1 i hi17).2.2.2 hS rfl hd (kk H locs ls hP hS hl)
theorem o_sbyt {x : En} {E : Amd} {D : va_G} {tys : List (ClassId × FieldType)} {h : Nat → Nat} {L : Lay} {own : String} {cc : ByteArray} {nL fr lo : Nat} {M : Mem} {pc : Nat} {V : List (Option Value)} {rest : List Value} (K : Kx x E D tys h L own cc nL fr lo) {i : Nat} {k : Int32} (hi17 : i < 17) (hin : ib k (lenS.getD i 0) = true) (hd : decode cc pc = .ok (.baload, 1)) (kk : Go x D tys h L nL M (pc + 1) V (.int ((bytS.getD i []).getD (ix k) 0) :: rest)) : Go x D tys h L nL M (pc) V (.int k :: .ref (E.2.1 i) :: rest) := by
  obtain ⟨p, l, e, R, s, m, args, below, meth, c, A, cells, slots, Q⟩ := x
  obtain ⟨⟨hx, hb, hml, hown, hts⟩, hK, hi, hA0, hA, hfr, hlo, hlk, hcs, hAm⟩ := K
  intro H locs ls hP hS hl
  exact va_tb hx hb (hAm.1.1 i hi17).2.2.2 hS (ib_in hin) rfl hd (kk H locs ls hP hS hl)
theorem o_compact {x : En} {E : Amd} {D : va_G} {tys : List (ClassId × FieldType)} {h : Nat → Nat} {L : Lay} {cc : ByteArray} {nL fr lo : Nat} {M : Mem} {pc : Nat} {V : List (Option Value)} {rest : List Value} (K : Kx x E D tys h L RJ0 cc nL fr lo) (hq : Cond.fieldLink RJ0 38 "java/lang/String" "COMPACT_STRINGS" "Z" ∈ TB) (hd : decode cc pc = .ok (.getstatic 38, 3)) (kk : Go x D tys h L nL M (pc + 3) V (.int 1 :: rest)) : Go x D tys h L nL M (pc) V (rest) := by
  obtain ⟨p, l, e, R, s, m, args, below, meth, c, A, cells, slots, Q⟩ := x
  obtain ⟨⟨hx, hb, hml, hown, hts⟩, hK, hi, hA0, hA, hfr, hlo, hlk, hcs, hAm⟩ := K
  intro H locs ls hP hS hl
  exact va_gets hx hb hAm.2.2.2.2.1 hS hown (hts _ hq) (fun _ q => q) hd (kk H locs ls hP hS hl)
theorem o_above {x : En} {E : Amd} {D : va_G} {tys : List (ClassId × FieldType)} {h : Nat → Nat} {L : Lay} {cc : ByteArray} {nL fr lo : Nat} {M : Mem} {pc : Nat} {V : List (Option Value)} {rest : List Value} (K : Kx x E D tys h L RX2 cc nL fr lo) {idx : Nat} (hq : Cond.fieldLink RX2 idx RX2 "ABOVE" "[I" ∈ TB) (hd : decode cc pc = .ok (.getstatic idx, 3)) (kk : Go x D tys h L nL M (pc + 3) V (.ref E.2.2 :: rest)) : Go x D tys h L nL M (pc) V (rest) := by
  obtain ⟨p, l, e, R, s, m, args, below, meth, c, A, cells, slots, Q⟩ := x
  obtain ⟨⟨hx, hb, hml, hown, hts⟩, hK, hi, hA0, hA, hfr, hlo, hlk, hcs, hAm⟩ := K
  intro H locs ls hP hS hl
  exact va_gets hx hb hAm.2.2.1 hS hown (hts _ hq) (fun _ q => q) hd (kk H locs ls hP hS hl)
theorem o_aboveld {x : En} {E : Amd} {D : va_G} {tys : List (ClassId × FieldType)} {h : Nat → Nat} {L : Lay} {own : String} {cc : ByteArray} {nL fr lo : Nat} {M : Mem} {pc : Nat} {V : List (Option Value)} {rest : List Value} (K : Kx x E D tys h L own cc nL fr lo) {k : Int32} (hin : ib k 6 = true) (hd : decode cc pc = .ok (.iaload, 1)) (kk : Go x D tys h L nL M (pc + 1) V (.int (aboveV (ix k)) :: rest)) : Go x D tys h L nL M (pc) V (.int k :: .ref E.2.2 :: rest) := by
  obtain ⟨p, l, e, R, s, m, args, below, meth, c, A, cells, slots, Q⟩ := x
  obtain ⟨⟨hx, hb, hml, hown, hts⟩, hK, hi, hA0, hA, hfr, hlo, hlk, hcs, hAm⟩ := K
  intro H locs ls hP hS hl
  exact va_ti hx hb hAm.2.2.2.1 hS (ib_in hin) rfl hd (kk H locs ls hP hS hl)
theorem o_fmt {x : En} {E : Amd} {D : va_G} {tys : List (ClassId × FieldType)} {h : Nat → Nat} {L : Lay} {cc : ByteArray} {nL fr lo : Nat} {M : Mem} {pc : Nat} {V : List (Option Value)} {rest : List Value} (K : Kx x E D tys h L RJ0 cc nL fr lo) (hq : Cond.fieldLink RJ0 1053 "jdk/internal/util/Preconditions" "SIOOBE_FORMATTER" "Ljava/util/function/BiFunction;" ∈ TB) (hd : decode cc pc = .ok (.getstatic 1053, 3)) (kk : Go x D tys h L nL M (pc + 3) V (.null :: rest)) (kk2 : ∀ t : Nat, Go x D tys h L nL M (pc + 3) V (.ref t :: rest)) : Go x D tys h L nL M (pc) V (rest) := by
  obtain ⟨p, l, e, R, s, m, args, below, meth, c, A, cells, slots, Q⟩ := x
  obtain ⟨⟨hx, hb, hml, hown, hts⟩, hK, hi, hA0, hA, hfr, hlo, hlk, hcs, hAm⟩ := K
  intro H locs ls hP hS hl
  rcases hAm.2.2.2.2.2.1 with hz | ⟨t, hz⟩
  · exact va_gets hx hb hz hS hown (hts _ hq) (fun _ q => q) hd (kk H locs ls hP hS hl)
  · exact va_gets hx hb hz hS hown (hts _ hq) (fun _ q => q) hd (kk2 t H locs ls hP hS hl)
theorem o_pop {x : En} {E : Amd} {D : va_G} {tys : List (ClassId × FieldType)} {h : Nat → Nat} {L : Lay} {own : String} {cc : ByteArray} {nL fr lo : Nat} {M : Mem} {pc : Nat} {V : List (Option Value)} {rest : List Value} (K : Kx x E D tys h L own cc nL fr lo) {v : Value} (hv : v.category = 1) (hd : decode cc pc = .ok (.pop, 1)) (kk : Go x D tys h L nL M (pc + 1) V (rest)) : Go x D tys h L nL M (pc) V (v :: rest) := by
  obtain ⟨p, l, e, R, s, m, args, below, meth, c, A, cells, slots, Q⟩ := x
  obtain ⟨⟨hx, hb, hml, hown, hts⟩, hK, hi, hA0, hA, hfr, hlo, hlk, hcs, hAm⟩ := K
  intro H locs ls hP hS hl
  exact lv_pop hx hb hd hv (kk H locs ls hP hS hl)
theorem o_aload_nN {x : En} {E : Amd} {D : va_G} {tys : List (ClassId × FieldType)} {h : Nat → Nat} {L : Lay} {own : String} {cc : ByteArray} {nL fr lo : Nat} {M : Mem} {pc : Nat} {V : List (Option Value)} {rest : List Value} (K : Kx x E D tys h L own cc nL fr lo) {q : Fin 4} (i : Nat) (hd : decode cc pc = .ok (.aload_n q, 1)) (hi0 : (q : Nat) = i) (hv : V[i]? = some (some .null)) (k : Go x D tys h L nL M (pc + 1) V (.null :: rest)) : Go x D tys h L nL M (pc) V (rest) := by
  obtain ⟨p, l, e, R, s, m, args, below, meth, c, A, cells, slots, Q⟩ := x
  obtain ⟨⟨hx, hb, hml, hown, hts⟩, hK, hi, hA0, hA, hfr, hlo, hlk, hcs, hAm⟩ := K
  intro H locs ls hP hS hl
  exact lv_aload_nN hx hb hd hi0 (hl.2.2 i _ hv) (k H locs ls hP hS hl)
theorem o_aloadN {x : En} {E : Amd} {D : va_G} {tys : List (ClassId × FieldType)} {h : Nat → Nat} {L : Lay} {own : String} {cc : ByteArray} {nL fr lo : Nat} {M : Mem} {pc : Nat} {V : List (Option Value)} {rest : List Value} (K : Kx x E D tys h L own cc nL fr lo) (i : Nat) (hd : decode cc pc = .ok (.aload i, 2)) (hv : V[i]? = some (some .null)) (k : Go x D tys h L nL M (pc + 2) V (.null :: rest)) : Go x D tys h L nL M (pc) V (rest) := by
  obtain ⟨p, l, e, R, s, m, args, below, meth, c, A, cells, slots, Q⟩ := x
  obtain ⟨⟨hx, hb, hml, hown, hts⟩, hK, hi, hA0, hA, hfr, hlo, hlk, hcs, hAm⟩ := K
  intro H locs ls hP hS hl
  exact lv_aloadN hx hb hd (hl.2.2 i _ hv) (k H locs ls hP hS hl)
theorem o_astore_nN {x : En} {E : Amd} {D : va_G} {tys : List (ClassId × FieldType)} {h : Nat → Nat} {L : Lay} {own : String} {cc : ByteArray} {nL fr lo : Nat} {M : Mem} {pc : Nat} {V : List (Option Value)} {rest : List Value} (K : Kx x E D tys h L own cc nL fr lo) {q : Fin 4} (i : Nat) (V2 : List (Option Value)) (hd : decode cc pc = .ok (.astore_n q, 1)) (hi0 : (q : Nat) = i) (hn : i < nL) (ho : okS V i = true) (hV : V.set i (some .null) = V2) (k : Go x D tys h L nL M (pc + 1) V2 (rest)) : Go x D tys h L nL M (pc) V (.null :: rest) := by
  obtain ⟨p, l, e, R, s, m, args, below, meth, c, A, cells, slots, Q⟩ := x
  obtain ⟨⟨hx, hb, hml, hown, hts⟩, hK, hi, hA0, hA, hfr, hlo, hlk, hcs, hAm⟩ := K
  intro H locs ls hP hS hl
  exact lv_astore_nN hx hb hd hi0 hl.has hn rfl (fun ls2 h2 => k H locs ls2 hP hS (LH.st1 h2 ho hV))
theorem o_astoreN {x : En} {E : Amd} {D : va_G} {tys : List (ClassId × FieldType)} {h : Nat → Nat} {L : Lay} {own : String} {cc : ByteArray} {nL fr lo : Nat} {M : Mem} {pc : Nat} {V : List (Option Value)} {rest : List Value} (K : Kx x E D tys h L own cc nL fr lo) (i : Nat) (V2 : List (Option Value)) (hd : decode cc pc = .ok (.astore i, 2)) (hn : i < nL) (ho : okS V i = true) (hV : V.set i (some .null) = V2) (k : Go x D tys h L nL M (pc + 2) V2 (rest)) : Go x D tys h L nL M (pc) V (.null :: rest) := by
  obtain ⟨p, l, e, R, s, m, args, below, meth, c, A, cells, slots, Q⟩ := x
  obtain ⟨⟨hx, hb, hml, hown, hts⟩, hK, hi, hA0, hA, hfr, hlo, hlk, hcs, hAm⟩ := K
  intro H locs ls hP hS hl
  exact lv_astoreN hx hb hd hl.has hn rfl (fun ls2 h2 => k H locs ls2 hP hS (LH.st1 h2 ho hV))
theorem o_ifnullN {x : En} {E : Amd} {D : va_G} {tys : List (ClassId × FieldType)} {h : Nat → Nat} {L : Lay} {own : String} {cc : ByteArray} {nL fr lo : Nat} {M : Mem} {pc : Nat} {V : List (Option Value)} {rest : List Value} (K : Kx x E D tys h L own cc nL fr lo) {off : Int} (tgt : Nat) (hd : decode cc pc = .ok (.ifnull off, 3)) (ht : (pc : Int) + off = (tgt : Int)) (k : Go x D tys h L nL M (tgt) V (rest)) : Go x D tys h L nL M (pc) V (.null :: rest) := by
  obtain ⟨p, l, e, R, s, m, args, below, meth, c, A, cells, slots, Q⟩ := x
  obtain ⟨⟨hx, hb, hml, hown, hts⟩, hK, hi, hA0, hA, hfr, hlo, hlk, hcs, hAm⟩ := K
  intro H locs ls hP hS hl
  exact lv_ifnullN hx hb hd ht (k H locs ls hP hS hl)
theorem o_ifnonnullN {x : En} {E : Amd} {D : va_G} {tys : List (ClassId × FieldType)} {h : Nat → Nat} {L : Lay} {own : String} {cc : ByteArray} {nL fr lo : Nat} {M : Mem} {pc : Nat} {V : List (Option Value)} {rest : List Value} (K : Kx x E D tys h L own cc nL fr lo) {off : Int} (hd : decode cc pc = .ok (.ifnonnull off, 3)) (k : Go x D tys h L nL M (pc + 3) V (rest)) : Go x D tys h L nL M (pc) V (.null :: rest) := by
  obtain ⟨p, l, e, R, s, m, args, below, meth, c, A, cells, slots, Q⟩ := x
  obtain ⟨⟨hx, hb, hml, hown, hts⟩, hK, hi, hA0, hA, hfr, hlo, hlk, hcs, hAm⟩ := K
  intro H locs ls hP hS hl
  exact lv_ifnonnullN hx hb hd (k H locs ls hP hS hl)
theorem o_aald {x : En} {E : Amd} {D : va_G} {tys : List (ClassId × FieldType)} {h : Nat → Nat} {L : Lay} {own : String} {cc : ByteArray} {nL fr lo : Nat} {M : Mem} {pc : Nat} {V : List (Option Value)} {rest : List Value} (K : Kx x E D tys h L own cc nL fr lo) {k n : Nat} {cA : ClassId} {C : String} {i : Int32} {f : Nat → Option Nat} (t0 : Nat) (hk : k < L.1) (hc : L.2 k (M k) = .inl (cA, n, .inr (.inr (.inr (.inr f))))) (ht0 : tys[t0]? = some (cA, .object C)) (hin : ib i n = true) (hd : decode cc pc = .ok (.aaload, 1)) (kk : Go x D tys h L nL M (pc + 1) V (va_rf (f (ix i)) :: rest)) : Go x D tys h L nL M (pc) V (.int i :: .ref (h k) :: rest) := by
  obtain ⟨p, l, e, R, s, m, args, below, meth, c, A, cells, slots, Q⟩ := x
  obtain ⟨⟨hx, hb, hml, hown, hts⟩, hK, hi, hA0, hA, hfr, hlo, hlk, hcs, hAm⟩ := K
  intro H locs ls hP hS hl
  exact va_aldq hx hb hK hP k t0 (by rw [wsOf_at hk, hc]) ht0 (ib_in hin) hd (kk H locs ls hP hS hl)
theorem o_aastN {x : En} {E : Amd} {D : va_G} {tys : List (ClassId × FieldType)} {h : Nat → Nat} {L : Lay} {own : String} {cc : ByteArray} {nL fr lo : Nat} {M : Mem} {pc : Nat} {V : List (Option Value)} {rest : List Value} (K : Kx x E D tys h L own cc nL fr lo) {k n : Nat} {cA : ClassId} {C : String} {i : Int32} {f : Nat → Option Nat} (t0 : Nat) (r : Nat → Int32) (hk : k < L.1) (hc : L.2 k (M k) = .inl (cA, n, .inr (.inr (.inr (.inr f))))) (ht0 : tys[t0]? = some (cA, .object C)) (hr : L.2 k r = .inl (cA, n, .inr (.inr (.inr (.inr (va_up f (ix i) none)))))) (hin : ib i n = true) (hd : decode cc pc = .ok (.aastore, 1)) (kk : Go x D tys h L nL (up M k r) (pc + 1) V (rest)) : Go x D tys h L nL M (pc) V (.null :: .int i :: .ref (h k) :: rest) := by
  obtain ⟨p, l, e, R, s, m, args, below, meth, c, A, cells, slots, Q⟩ := x
  obtain ⟨⟨hx, hb, hml, hown, hts⟩, hK, hi, hA0, hA, hfr, hlo, hlk, hcs, hAm⟩ := K
  intro H locs ls hP hS hl
  refine va_astqN hx hb hK hP (wsOf_D hi hA0) hS k t0 (by rw [wsOf_at hk, hc]) ht0 (ib_in hin) hd (fun H1 locs1 h1 h2 h3 => ?_)
  rw [wsOf_set hk hr] at h1
  exact kk H1 locs1 ls h1 h3 hl
theorem o_aastR {x : En} {E : Amd} {D : va_G} {tys : List (ClassId × FieldType)} {h : Nat → Nat} {L : Lay} {own : String} {cc : ByteArray} {nL fr lo : Nat} {M : Mem} {pc : Nat} {V : List (Option Value)} {rest : List Value} (K : Kx x E D tys h L own cc nL fr lo) {k n k2 ci : Nat} {cA : ClassId} {q : vw_C} {fs : List Value} {i : Int32} {f : Nat → Option Nat} (t0 : Nat) (r : Nat → Int32) (hk : k < L.1) (hc : L.2 k (M k) = .inl (cA, n, .inr (.inr (.inr (.inr f))))) (ht0 : tys[t0]? = some (cA, .object q.1)) (hk2 : k2 < L.1) (hc2 : L.2 k2 (M k2) = .inr (ci, fs)) (hcl : vwCl[ci]? = some q) (hr : L.2 k r = .inl (cA, n, .inr (.inr (.inr (.inr (va_up f (ix i) (some (h k2)))))))) (hin : ib i n = true) (hd : decode cc pc = .ok (.aastore, 1)) (kk : Go x D tys h L nL (up M k r) (pc + 1) V (rest)) : Go x D tys h L nL M (pc) V (.ref (h k2) :: .int i :: .ref (h k) :: rest) := by
  obtain ⟨p, l, e, R, s, m, args, below, meth, c, A, cells, slots, Q⟩ := x
  obtain ⟨⟨hx, hb, hml, hown, hts⟩, hK, hi, hA0, hA, hfr, hlo, hlk, hcs, hAm⟩ := K
  intro H locs ls hP hS hl
  refine va_astq hx hb hK hP (wsOf_D hi hA0) hS k t0 k2 ci (by rw [wsOf_at hk, hc]) ht0 (by rw [wsOf_at hk2, hc2]) hcl (ib_in hin) hd (fun H1 locs1 h1 h2 h3 => ?_)
  rw [wsOf_set hk hr] at h1
  exact kk H1 locs1 ls h1 h3 hl
def cpok (n1 n2 : Nat) (sp dp n : Int32) : Bool := decide (0 ≤ sp.toInt) && decide (0 ≤ dp.toInt) && decide (0 ≤ n.toInt) && decide (ix sp + ix n ≤ n1) && decide (ix dp + ix n ≤ n2)
def cp {β : Type} (M : Mem) (k1 n1 : Nat) (sp : Int32) (k2 n2 : Nat) (dp n : Int32) (f : Mem → Option β) : Option β := match cpok n1 n2 sp dp n with
  | true => f (up M k2 (va_cpy (M k1) (M k2) (ix sp) (ix dp) (ix n)))
  | false => none
theorem cp_e {β : Type} {M : Mem} {k1 n1 k2 n2 : Nat} {sp dp n : Int32} {f : Mem → Option β} {v : β} (h : cp M k1 n1 sp k2 n2 dp n f = some v) : cpok n1 n2 sp dp n = true ∧ ∃ y, up M k2 (va_cpy (M k1) (M k2) (ix sp) (ix dp) (ix n)) = y ∧ f y = some v := by
  unfold cp at h
  cases hb : cpok n1 n2 sp dp n with
  | true => rw [hb] at h; exact ⟨rfl, _, rfl, h⟩
  | false => rw [hb] at h; cases h
theorem o_copy {x : En} {E : Amd} {D : va_G} {tys : List (ClassId × FieldType)} {h : Nat → Nat} {L : Lay} {own : String} {cc : ByteArray} {nL fr lo : Nat} {M : Mem} {pc : Nat} {V : List (Option Value)} {rest : List Value} (K : Kx x E D tys h L own cc nL fr lo) {k1 n1 k2 n2 idx : Nat} {c1 c2 : ClassId} {sp dp n : Int32} (t0 t1 : Nat) (hk1 : k1 < L.1) (hc1 : L.2 k1 (M k1) = .inl (c1, n1, .inl (M k1))) (hk2 : k2 < L.1) (hc2 : ∀ r, L.2 k2 r = .inl (c2, n2, .inl r)) (ht0 : tys[t0]? = some (c1, .int)) (ht1 : tys[t1]? = some (c2, .int)) (hlink : Cond.methodLink own idx arraycopyName ∈ TB) (hnat : Cond.native arraycopyName ∈ TB) (hstat : Cond.static arraycopyName ∈ TB) (hini : Cond.initialized "java/lang/System" ∈ TB) (hok : cpok n1 n2 sp dp n = true) (hrm : 1 ≤ fr ∧ 27 ≤ lo) (hrest : (rest.map fun v => v.category).sum ≤ 8) (hd : decode cc pc = .ok (.invokestatic idx, 3)) (kk : Go x D tys h L nL (up M k2 (va_cpy (M k1) (M k2) (ix sp) (ix dp) (ix n))) (pc + 3) V (rest)) : Go x D tys h L nL M (pc) V (.int n :: .int dp :: .ref (h k2) :: .int sp :: .ref (h k1) :: rest) := by
  obtain ⟨p, l, e, R, s, m, args, below, meth, c, A, cells, slots, Q⟩ := x
  obtain ⟨⟨hx, hb, hml, hown, hts⟩, hK, hi, hA0, hA, hfr, hlo, hlk, hcs, hAm⟩ := K
  intro H locs ls hP hS hl
  simp only [cpok, Bool.and_eq_true, decide_eq_true_eq] at hok
  obtain ⟨⟨⟨⟨g1, g2⟩, g3⟩, g4⟩, g5⟩ := hok
  have nl : ∀ z : Int32, 0 ≤ z.toInt → ¬ z < 0 := fun z hz q => by
    have := Int32.lt_iff_toInt_lt.mp q
    simp at this
    omega
  refine va_copyi hx hb (hml.trans hl.1.symm) hown (hts _ hlink) (hts _ hnat) (hts _ hstat) (hts _ hini) hK hP (wsOf_D hi hA0) hS k1 k2 t0 t1 (by rw [wsOf_at hk1, hc1]) (by rw [wsOf_at hk2, hc2]) ht0 ht1 rfl (nl _ g1) (nl _ g2) (nl _ g3) g4 g5 (fun i _ => rfl) (by rw [hfr]; exact hrm.1) (by rw [hlo]; simp only [nativeFrameWords]; simp; omega) hd (fun H1 locs1 h1 h2 h3 => ?_)
  rw [wsOf_set hk2 (hc2 _)] at h1
  exact kk H1 locs1 ls h1 h3 hl
theorem o_minJ {x : En} {E : Amd} {D : va_G} {tys : List (ClassId × FieldType)} {h : Nat → Nat} {L : Lay} {own : String} {cc : ByteArray} {nL fr lo : Nat} {M : Mem} {pc : Nat} {V : List (Option Value)} {rest : List Value} (K : Kx x E D tys h L own cc nL fr lo) {idx : Nat} {a b : Int64} (hlink : Cond.methodLink own idx Lib.MathLoose.min_long.x ∈ TB) (hstat : Cond.static Lib.MathLoose.min_long.x ∈ TB) (hini : Cond.initialized "java/lang/Math" ∈ TB) (hcode : Cond.code Lib.MathLoose.min_long.x Lib.MathLoose.min_long.code 4 (some .long) ∈ TB) (hrm : 1 ≤ fr ∧ 27 ≤ lo) (hrest : (rest.map fun v => v.category).sum ≤ 8) (hd : decode cc pc = .ok (.invokestatic idx, 3)) (kk : Go x D tys h L nL M (pc + 3) V (.long (if b < a then b else a) :: rest)) : Go x D tys h L nL M (pc) V (.long b :: .long a :: rest) := by
  obtain ⟨p, l, e, R, s, m, args, below, meth, c, A, cells, slots, Q⟩ := x
  obtain ⟨⟨hx, hb, hml, hown, hts⟩, hK, hi, hA0, hA, hfr, hlo, hlk, hcs, hAm⟩ := K
  intro H locs ls hP hS hl
  exact va_mmin_long hx hb (hml.trans hl.1.symm) hown (hts _ hlink) (hts _ hstat) (hts _ hini) (hts _ hcode) (by rw [hfr]; exact hrm.1) (by rw [hlo]; omega) hcs.1 hcs.2 hd (kk H locs ls hP hS hl)
theorem o_mmax {x : En} {E : Amd} {D : va_G} {tys : List (ClassId × FieldType)} {h : Nat → Nat} {L : Lay} {own : String} {cc : ByteArray} {nL fr lo : Nat} {M : Mem} {pc : Nat} {V : List (Option Value)} {rest : List Value} (K : Kx x E D tys h L own cc nL fr lo) {idx : Nat} {a b : Int32} (hlink : Cond.methodLink own idx Lib.Math.max.name ∈ TB) (hstat : Cond.static Lib.Math.max.name ∈ TB) (hini : Cond.initialized "java/lang/Math" ∈ TB) (hcode : Cond.code Lib.Math.max.name Lib.Math.max.code 2 (some .int) ∈ TB) (hrm : 1 ≤ fr ∧ 27 ≤ lo) (hrest : (rest.map fun v => v.category).sum ≤ 8) (hd : decode cc pc = .ok (.invokestatic idx, 3)) (kk : Go x D tys h L nL M (pc + 3) V (.int (if a < b then b else a) :: rest)) : Go x D tys h L nL M (pc) V (.int b :: .int a :: rest) := by
  obtain ⟨p, l, e, R, s, m, args, below, meth, c, A, cells, slots, Q⟩ := x
  obtain ⟨⟨hx, hb, hml, hown, hts⟩, hK, hi, hA0, hA, hfr, hlo, hlk, hcs, hAm⟩ := K
  intro H locs ls hP hS hl
  exact va_mmax hx hb (hml.trans hl.1.symm) hown (hts _ hlink) (hts _ hstat) (hts _ hini) (hts _ hcode) (by rw [hfr]; exact hrm.1) (by rw [hlo]; omega) hcs.1 hcs.2 hd (kk H locs ls hP hS hl)
theorem o_mmin {x : En} {E : Amd} {D : va_G} {tys : List (ClassId × FieldType)} {h : Nat → Nat} {L : Lay} {own : String} {cc : ByteArray} {nL fr lo : Nat} {M : Mem} {pc : Nat} {V : List (Option Value)} {rest : List Value} (K : Kx x E D tys h L own cc nL fr lo) {idx : Nat} {a b : Int32} (hlink : Cond.methodLink own idx Lib.Math.min.name ∈ TB) (hstat : Cond.static Lib.Math.min.name ∈ TB) (hini : Cond.initialized "java/lang/Math" ∈ TB) (hcode : Cond.code Lib.Math.min.name Lib.Math.min.code 2 (some .int) ∈ TB) (hrm : 1 ≤ fr ∧ 27 ≤ lo) (hrest : (rest.map fun v => v.category).sum ≤ 8) (hd : decode cc pc = .ok (.invokestatic idx, 3)) (kk : Go x D tys h L nL M (pc + 3) V (.int (if b < a then b else a) :: rest)) : Go x D tys h L nL M (pc) V (.int b :: .int a :: rest) := by
  obtain ⟨p, l, e, R, s, m, args, below, meth, c, A, cells, slots, Q⟩ := x
  obtain ⟨⟨hx, hb, hml, hown, hts⟩, hK, hi, hA0, hA, hfr, hlo, hlk, hcs, hAm⟩ := K
  intro H locs ls hP hS hl
  exact va_mmin hx hb (hml.trans hl.1.symm) hown (hts _ hlink) (hts _ hstat) (hts _ hini) (hts _ hcode) (by rw [hfr]; exact hrm.1) (by rw [hlo]; omega) hcs.1 hcs.2 hd (kk H locs ls hP hS hl)
theorem o_mabs {x : En} {E : Amd} {D : va_G} {tys : List (ClassId × FieldType)} {h : Nat → Nat} {L : Lay} {own : String} {cc : ByteArray} {nL fr lo : Nat} {M : Mem} {pc : Nat} {V : List (Option Value)} {rest : List Value} (K : Kx x E D tys h L own cc nL fr lo) {idx : Nat} {a : Int32} (hlink : Cond.methodLink own idx Lib.Math.abs.name ∈ TB) (hstat : Cond.static Lib.Math.abs.name ∈ TB) (hini : Cond.initialized "java/lang/Math" ∈ TB) (hcode : Cond.code Lib.Math.abs.name Lib.Math.abs.code 1 (some .int) ∈ TB) (hrm : 1 ≤ fr ∧ 27 ≤ lo) (hrest : (rest.map fun v => v.category).sum ≤ 8) (hd : decode cc pc = .ok (.invokestatic idx, 3)) (kk : Go x D tys h L nL M (pc + 3) V (.int (if 0 ≤ a then a else 0 - a) :: rest)) : Go x D tys h L nL M (pc) V (.int a :: rest) := by
  obtain ⟨p, l, e, R, s, m, args, below, meth, c, A, cells, slots, Q⟩ := x
  obtain ⟨⟨hx, hb, hml, hown, hts⟩, hK, hi, hA0, hA, hfr, hlo, hlk, hcs, hAm⟩ := K
  intro H locs ls hP hS hl
  exact va_mabs hx hb (hml.trans hl.1.symm) hown (hts _ hlink) (hts _ hstat) (hts _ hini) (hts _ hcode) (by rw [hfr]; exact hrm.1) (by rw [hlo]; omega) hcs.1 hcs.2 hd (kk H locs ls hP hS hl)
def cz (a : Int32) : Bool := decide ((a.toUInt32 % 65536).toInt32 = a)
theorem o_nret {x : En} {E : Amd} {D : va_G} {tys : List (ClassId × FieldType)} {h : Nat → Nat} {L : Lay} {own : String} {cc : ByteArray} {nL fr lo : Nat} {M : Mem} {pc : Nat} {V : List (Option Value)} (K : Kx x E D tys h L own cc nL fr lo) {a : Int32} {ty : FieldType} (hn : narrow ty (.int a) = .int a) (hR : Rt x D h L (some ty) (some (.int a)) M) (hd : decode cc pc = .ok (.ireturn, 1)) : Go x D tys h L nL M (pc) V ([.int a]) := by
  obtain ⟨p, l, e, R, s, m, args, below, meth, c, A, cells, slots, Q⟩ := x
  obtain ⟨⟨hx, hb, hml, hown, hts⟩, hK, hi, hA0, hA, hfr, hlo, hlk, hcs, hAm⟩ := K
  intro H locs ls hP hS hl
  obtain ⟨hr, hQ⟩ := hR
  subst hQ
  exact W.zret hx hb hr hn (fun t ht hW => ⟨rfl, by rw [ht]; exact hP, hS.F ht⟩) hS.2.2 hd hlk
theorem r_nret {x : En} {E : Amd} {D : va_G} {tys : List (ClassId × FieldType)} {h : Nat → Nat} {L : Lay} {own : String} {cc : ByteArray} {nL fr lo : Nat} {M : Mem} {pc : Nat} {V : List (Option Value)} (K : Kx x E D tys h L own cc nL fr lo) {a r : Int32} {ty : FieldType} (hf : some a = some r) (hn : narrow ty (.int a) = .int a) (hR : Rt x D h L (some ty) (some (.int r)) M) (hd : decode cc pc = .ok (.ireturn, 1)) : Go x D tys h L nL M (pc) V ([.int a]) := by
  cases hf
  exact o_nret K hn hR hd
theorem cz_n {a : Int32} (h : cz a = true) : narrow .char (.int a) = .int a := by
  have h1 : (a.toUInt32 % 65536).toInt32 = a := of_decide_eq_true h
  have h2 := pk_nc a
  rwa [h1] at h2
