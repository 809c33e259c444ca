/-! THE TEXTS ON THE MACHINE, 1: more rows for worlds that grow; from a layout's row to a world's and back -/
section
variable {x : En} {E : Amd} {D : va_G} {ca : Nat → ClassId} {own host : String} {cc : ByteArray} {nL fr lo mc ms : Nat} {ws : va_W} {nc ns : Nat} {pc : Nat} {V : List (Option Value)} {rest : List Value}
theorem n_alen {a : Nat} {cA : ClassId} {y : vp_A} {ty : FieldType} (k t0 : Nat) (v : Int32) (K : Kn x E D ca own cc nL fr lo mc ms) (he : ws[k]? = some (a, .inl (cA, y))) (ht0 : (tysOf ca)[t0]? = some (cA, ty)) (hv : Int32.ofNat y.1 = v) (hd : decode cc pc = .ok (.arraylength, 1)) (kk : Gn x D nL ws nc ns (pc + 1) V (.int v :: rest)) : Gn x D nL ws nc ns pc V (.ref a :: rest) := by
  obtain ⟨p, l, e, R, s, m, args, below, meth, c, A, cells, slots, Q⟩ := x
  obtain ⟨⟨hx, hb, hml, hown, hts⟩, hK, hA, hfr, hlo, hmc, hms, hlk, hAm, hAO⟩ := K
  intro H locs ls hP hD hS hl
  exact va_alen hx hb hK hP k t0 he ht0 hv hd (kk H locs ls hP hD hS hl)
theorem n_icmp_ne {a b : Int32} {off : Int} (tgt : Nat) (K : Kn x E D ca own cc nL fr lo mc ms) (hd : decode cc pc = .ok (.if_icmp .ne off, 3)) (ht : (pc : Int) + off = (tgt : Int)) (kt : ¬ a = b → Gn x D nL ws nc ns (tgt) V (rest)) (kf : a = b → Gn x D nL ws nc ns (pc + 3) V (rest)) : Gn x D nL ws nc ns (pc) V (.int b :: .int a :: rest) := by
  obtain ⟨p, l, e, R, s, m, args, below, meth, c, A, cells, slots, Q⟩ := x
  obtain ⟨⟨hx, hb, hml, hown, hts⟩, hK, hA, hfr, hlo, hmc, hms, hlk, hAm, hAO⟩ := K
  intro H locs ls hP hD hS hl
  exact lv_icmp_ne hx hb hd ht (fun q => kt q H locs ls hP hD hS hl) (fun q => kf q H locs ls hP hD hS hl)
theorem n_mmin {idx : Nat} {a b : Int32} (K : Kn x E D ca own cc nL fr lo mc ms) (hlink : Cond.methodLink own idx Lib.Math.min.name ∈ TB) (hstat : Cond.static Lib.Math.min.name ∈ TB) (hini : Cond.initialized "java/lang/Math" ∈ TB) (hcode : Cond.code Lib.Math.min.name Lib.Math.min.code 2 (some .int) ∈ TB) (hrm : 1 ≤ fr ∧ 27 ≤ lo) (hcs : nc ≤ mc ∧ ns ≤ ms) (hrest : (rest.map fun v => v.category).sum ≤ 8) (hd : decode cc pc = .ok (.invokestatic idx, 3)) (kk : Gn x D nL ws nc ns (pc + 3) V (.int (if b < a then b else a) :: rest)) : Gn x D nL ws nc ns pc V (.int b :: .int a :: rest) := by
  obtain ⟨p, l, e, R, s, m, args, below, meth, c, A, cells, slots, Q⟩ := x
  obtain ⟨⟨hx, hb, hml, hown, hts⟩, hK, hA, hfr, hlo, hmc, hms, hlk, hAm, hAO⟩ := K
  intro H locs ls hP hD hS hl
  exact va_mmin hx hb (hml.trans hl.1.symm) hown (hts _ hlink) (hts _ hstat) (hts _ hini) (hts _ hcode) (by rw [hfr]; exact hrm.1) (by rw [hlo]; omega) (by rw [hmc]; exact hcs.1) (by rw [hms]; exact hcs.2) hd (kk H locs ls hP hD hS hl)
theorem n_copy {k1 n1 k2 n2 idx a1 a2 : Nat} {f g : Nat → Int32} {sp dp n : Int32} (w2 : va_W) (K : Kn x E D ca own cc nL fr lo mc ms) (he1 : ws[k1]? = some (a1, .inl (ca 0, n1, .inl f))) (he2 : ws[k2]? = some (a2, .inl (ca 0, n2, .inl g))) (hlink : Cond.methodLink own idx arraycopyName ∈ TB) (hnat : Cond.native arraycopyName ∈ TB) (hstat : Cond.static arraycopyName ∈ TB) (hini : Cond.initialized "java/lang/System" ∈ TB) (hok : cpok n1 n2 sp dp n = true) (hrm : 1 ≤ fr ∧ 27 ≤ lo) (hrest : (rest.map fun v => v.category).sum ≤ 8) (hset : ws.set k2 (a2, .inl (ca 0, n2, .inl (va_cpy f g (ix sp) (ix dp) (ix n)))) = w2) (hd : decode cc pc = .ok (.invokestatic idx, 3)) (kk : Gn x D nL w2 nc ns (pc + 3) V rest) : Gn x D nL ws nc ns pc V (.int n :: .int dp :: .ref a2 :: .int sp :: .ref a1 :: rest) := by
  obtain ⟨p, l, e, R, s, m, args, below, meth, c, A, cells, slots, Q⟩ := x
  obtain ⟨⟨hx, hb, hml, hown, hts⟩, hK, hA, hfr, hlo, hmc, hms, hlk, hAm, hAO⟩ := K
  intro H locs ls hP hD hS hl
  subst hset
  simp only [cpok, Bool.and_eq_true, decide_eq_true_eq] at hok
  obtain ⟨⟨⟨⟨g1, g2⟩, g3⟩, g4⟩, g5⟩ := hok
  have nl : ∀ z : Int32, 0 ≤ z.toInt → ¬ z < 0 := fun z hz q => by
    have := Int32.lt_iff_toInt_lt.mp q
    simp at this
    omega
  exact va_copyi hx hb (hml.trans hl.1.symm) hown (hts _ hlink) (hts _ hnat) (hts _ hstat) (hts _ hini) hK hP hD hS k1 k2 0 0 he1 he2 rfl rfl rfl (nl _ g1) (nl _ g2) (nl _ g3) g4 g5 (fun i _ => rfl) (by rw [hfr]; exact hrm.1) (by rw [hlo]; simp only [nativeFrameWords]; simp; omega) hd (fun H1 locs1 h1 h2 h3 => kk H1 locs1 ls h1 h2 h3 hl)
theorem n_iret {B : Option Value → va_W → Prop} {rt : FieldType} {a : Int32} (K : Kn x E D ca own cc nL fr lo mc ms) (hrt : rt = .int) (hR : RtN x D (some rt) B mc ms) (hB : B (some (.int a)) ws) (hd : decode cc pc = .ok (.ireturn, 1)) : Gn x D nL ws mc ms (pc) V ([.int a]) := by
  subst hrt
  obtain ⟨p, l, e, R, s, m, args, below, meth, c, A, cells, slots, Q⟩ := x
  obtain ⟨⟨hx, hb, hml, hown, hts⟩, hK, hA, hfr, hlo, hmc, hms, hlk, hAm, hAO⟩ := K
  intro H locs ls hP hD hS hl
  obtain ⟨hr, hQ⟩ := hR
  subst hQ
  exact W.iret hx hb hr (fun t ht hW => ⟨some (.int a), ws, rfl, hB, by rw [ht]; exact hP, hD, hS.F ht⟩) hS.2.2 hd hlk
/-- a static method that makes cells -/
theorem n_callS {y : MethodName} {c2 : ByteArray} {nL2 n idx fr2 lo2 mc2 ms2 : Nat} {ret : Option FieldType} {B : Option Value → va_W → Prop} (wf wc : va_W) (As : List Value) (K : Kn x E D ca own cc nL fr lo mc ms) (hC : Cn x.2.1 E D ca y c2 nL2 ret fr2 lo2 mc2 ms2 As wc B) (hs : CsS own idx y c2 nL2 ret n) (hn : As.length = n) (hrm : fr2 + 1 ≤ fr ∧ 8 + (nL2 + 11) + lo2 ≤ lo) (hc : nc + mc2 ≤ mc ∧ ns + ms2 ≤ ms) (hrest : (rest.map fun v => v.category).sum ≤ 8) (st0 : List Value) (hst : st0 = As.reverse ++ rest) (hd : decode cc pc = .ok (.invokestatic idx, 3)) (kk : ∀ (v : Option Value) (w2 : va_W), B v w2 → Gn x D nL (wf ++ w2) (nc + mc2) (ns + ms2) (pc + 3) V (v.toList ++ rest)) : Gn x D nL (wf ++ wc) nc ns pc V st0 := by
  obtain ⟨p, l, e, R, s, m, args, below, meth, c, A, cells, slots, Q⟩ := x
  obtain ⟨⟨hx, hb, hml, hown, hts⟩, hK, hA, hfr, hlo, hmc, hms, hlk, hAm, hAO⟩ := K
  intro H locs ls hP hD hS hl
  obtain ⟨q1, q2, q3, q4, q6, q7, q8⟩ := hs
  have cb : CallB R s args own idx y c2 nL2 ret (.code y c2 nL2 ret :: TB) { frames := fr2, cells := mc2, slots := ms2, locals := lo2 } mc2 ms2 n := callB_of n hts (cg_in q1) rfl rfl rfl (hts _ q2) (hts _ q3) ⟨q6, q7, q8⟩ ⟨by rw [hfr]; exact hrm.1, by rw [hlo]; exact hrm.2⟩
  exact gn_call (va_runS (As := As) (rest := rest) ⟨hx, hb, hml, hown, hts⟩ (hC H.size) ⟨cb, hts _ q4⟩ ⟨PrN_blind, fun U hU hW => ⟨rfl, prN_at hP hD hS hA hK hAm hAO U hU hW⟩⟩ rfl hn hl.1 hst (lv_room hrest) hd (by rw [hmc, hms]; exact hc)) hP hD hS hA (fun v w2 H1 locs1 h1 h2 h3 h4 => kk v w2 h1 H1 locs1 ls h2 h3 h4 hl)
/-- a method of an object that makes cells -/
theorem n_callV {y : MethodName} {c2 : ByteArray} {nL2 n idx fr2 lo2 mc2 ms2 a k ci : Nat} {C : vw_C} {fs : List Value} {ret : Option FieldType} {B : Option Value → va_W → Prop} (wf wc : va_W) (As : List Value) (K : Kn x E D ca own cc nL fr lo mc ms) (hC : Cn x.2.1 E D ca y c2 nL2 ret fr2 lo2 mc2 ms2 (.ref a :: As) wc B) (hs : CsV own idx y c2 nL2 ret n) (he : (wf ++ wc)[k]? = some (a, .inr (ci, fs))) (hcl : vwCl[ci]? = some C) (hC1 : C.1 = y.cls) (hn : As.length = n) (hrm : fr2 + 1 ≤ fr ∧ 8 + (nL2 + 11) + lo2 ≤ lo) (hc : nc + mc2 ≤ mc ∧ ns + ms2 ≤ ms) (hrest : (rest.map fun v => v.category).sum ≤ 8) (st0 : List Value) (hst : st0 = As.reverse ++ .ref a :: rest) (hd : decode cc pc = .ok (.invokevirtual idx, 3)) (kk : ∀ (v : Option Value) (w2 : va_W), B v w2 → Gn x D nL (wf ++ w2) (nc + mc2) (ns + ms2) (pc + 3) V (v.toList ++ rest)) : Gn x D nL (wf ++ wc) nc ns pc V st0 := by
  obtain ⟨p, l, e, R, s, m, args, below, meth, c, A, cells, slots, Q⟩ := x
  obtain ⟨⟨hx, hb, hml, hown, hts⟩, hK, hA, hfr, hlo, hmc, hms, hlk, hAm, hAO⟩ := K
  intro H locs ls hP hD hS hl
  obtain ⟨q1, q2, q3, q4, q5, q6, q7, q8⟩ := hs
  have cb : CallB R s args own idx y c2 nL2 ret (.code y c2 nL2 ret :: TB) { frames := fr2, cells := mc2, slots := ms2, locals := lo2 } mc2 ms2 n := callB_of n hts (cg_in q1) rfl rfl rfl (hts _ q2) (hts _ q3) ⟨q6, q7, q8⟩ ⟨by rw [hfr]; exact hrm.1, by rw [hlo]; exact hrm.2⟩
  exact gn_call (va_runV (As := As) (rest := rest) ⟨hx, hb, hml, hown, hts⟩ (hC H.size) ⟨cb, hts _ q4, hts _ q5⟩ ⟨PrN_blind, by rw [← hC1]; exact va_recv hK hP hcl he, fun U hU hW => ⟨rfl, prN_at hP hD hS hA hK hAm hAO U hU hW⟩⟩ rfl hn hl.1 hst (lv_room hrest) hd (by rw [hmc, hms]; exact hc)) hP hD hS hA (fun v w2 H1 locs1 h1 h2 h3 h4 => kk v w2 h1 H1 locs1 ls h2 h3 h4 hl)
end
def xset (x : En) (nc ns : Nat) : En := match x with
  | (p, l, e, R, s, m, args, below, meth, c, A, _, _, Q) => (p, l, e, R, s, m, args, below, meth, c, A, nc, ns, Q)
theorem xset_l {x : En} {nc ns : Nat} : (xset x nc ns).2.1 = x.2.1 := by
  obtain ⟨p, l, e, R, s, m, args, below, meth, c, A, cells, slots, Q⟩ := x
  rfl
/-- a world that is a layout's: the layer's own rows -/
theorem n_go {x : En} {E : Amd} {D : va_G} {ca : Nat → ClassId} {own : String} {cc : ByteArray} {nL fr lo mc ms : Nat} {nc ns : Nat} {pc : Nat} {V : List (Option Value)} {st : List Value} {h : Nat → Nat} {L : Lay} {M : Mem} (K : Kn x E D ca own cc nL fr lo mc ms) (hcs : nc ≤ mc ∧ ns ≤ ms) (kk : Kx (xset x nc ns) E D (tysOf ca) h L own cc nL fr lo → Go (xset x nc ns) D (tysOf ca) h L nL M pc V st) : Gn x D nL (wsOf h L M) nc ns pc V st := by
  obtain ⟨p, l, e, R, s, m, args, below, meth, c, A, cells, slots, Q⟩ := x
  obtain ⟨hF, hK, hA, hfr, hlo, hmc, hms, hlk, hAm, hAO⟩ := K
  intro H locs ls hP hD hS hl
  have hi : Inj h L.1 := fun i j hi hj e => hD.1 i j _ _ (wsOf_at hi) (wsOf_at hj) e
  have hA0 : ∀ k, k < L.1 → A (h k) := fun k hk => hD.2 k _ (wsOf_at hk)
  exact kk ⟨hF, hK, hi, hA0, hA, hfr, hlo, hlk, ⟨by rw [hmc]; exact hcs.1, by rw [hms]; exact hcs.2⟩, hAm⟩ H locs ls hP hS hl
theorem go_n {x : En} {E : Amd} {D : va_G} {ca : Nat → ClassId} {own : String} {cc : ByteArray} {nL fr lo : Nat} {nc ns : Nat} {pc : Nat} {V : List (Option Value)} {st : List Value} {h : Nat → Nat} {L : Lay} {M : Mem} (K : Kx (xset x nc ns) E D (tysOf ca) h L own cc nL fr lo) (kk : Gn x D nL (wsOf h L M) nc ns pc V st) : Go (xset x nc ns) D (tysOf ca) h L nL M pc V st := by
  obtain ⟨p, l, e, R, s, m, args, below, meth, c, A, cells, slots, Q⟩ := x
  obtain ⟨hF, hK, hi, hA0, hA, hfr, hlo, hlk, hcs, hAm⟩ := K
  intro H locs ls hP hS hl
  exact kk H locs ls hP (wsOf_D hi hA0) hS hl
/-- Arrays.copyOf, shorter than the array -/
theorem s_X4_57 : CsS RX4 57 yJ7_copyOf_59c91 cJ7_copyOf_59c91 3 (some (.array .int)) 2 := ⟨TB_t 838 (by decide +kernel) (by decide +kernel), TB_t 8 (by decide +kernel) (by decide +kernel), TB_t 836 (by decide +kernel) (by decide +kernel), TB_t 837 (by decide +kernel) (by decide +kernel), by decide +kernel, by decide +kernel, by decide +kernel⟩
theorem zMinL : Cond.methodLink RJ7 304 Lib.Math.min.name ∈ TB := TB_t 846 (by decide +kernel) (by decide +kernel)
theorem zMinS : Cond.static Lib.Math.min.name ∈ TB := TB_t 110 (by decide +kernel) (by decide +kernel)
theorem zMinI : Cond.initialized "java/lang/Math" ∈ TB := TB_t 6 (by decide +kernel) (by decide +kernel)
theorem zMinC : Cond.code Lib.Math.min.name Lib.Math.min.code 2 (some .int) ∈ TB := TB_t 111 (by decide +kernel) (by decide +kernel)
theorem zCpL : Cond.methodLink RJ7 150 arraycopyName ∈ TB := TB_t 847 (by decide +kernel) (by decide +kernel)
theorem zCpI : Cond.initialized "java/lang/System" ∈ TB := TB_t 15 (by decide +kernel) (by decide +kernel)
theorem kn_copyOf (l : Launch) (E : Amd) (D : va_G) (ca : Nat → ClassId) (ws : va_W) (k c : Nat) (f : Nat → Int32) (m : Int32) (hk : k < ws.length) (he : ws[k]? = some (c, .inl (ca 0, 96, .inl f))) (hm : ib m 96 = true) : Cn l E D ca yJ7_copyOf_59c91 cJ7_copyOf_59c91 3 (some (.array .int)) 1 27 1 96 [.ref c, .int m] ws (fun v w2 => ∃ (q : Nat) (g : Nat → Int32), v = some (.ref q) ∧ (∀ j, j < ix m → g j = f j) ∧ w2 = ws ++ [(q, .inl (ca 0, ix m, .inl g))]) := by
  refine Cn.mk [some (.ref c), some (.int m), none] (by decide) (Nat.le_of_ble_eq_true rfl) (argsV [.ref c, .int m] 1 rfl rfl) ?_
  intro x hx0 K hN hR
  have K : Kn x E D ca RJ7 cJ7_copyOf_59c91 3 1 27 1 96 := K
  have hlt := ib_lt hm
  have hm0 : ¬ m < 0 := fun q => (ib_in hm) (Or.inl q)
  obtain ⟨h4, h5⟩ : 0 ≤ m.toInt ∧ m.toInt < 96 := by
    rw [ib, Bool.and_eq_true, decide_eq_true_eq, decide_eq_true_eq] at hm
    exact hm
  have h96 : ¬ m = 96 := fun q => by
    rw [q] at h5
    exact absurd h5 (by decide)
  have hmin : (if m < 96 then m else 96) = m := if_pos (Int32.lt_iff_toInt_lt.mpr (by
    have : (96 : Int32).toInt = 96 := by decide
    omega))
  have he2 : ∀ c2, (ws ++ [c2])[k]? = some (c, .inl (ca 0, 96, .inl f)) := fun c2 => by rw [List.getElem?_append_left hk]; exact he
  have hat : ∀ c2, (ws ++ [c2])[ws.length]? = some c2 := fun c2 => by rw [List.getElem?_append_right (Nat.le_refl _), Nat.sub_self]; rfl
  have hst : ∀ c2 c3, (ws ++ [c2]).set ws.length c3 = ws ++ [c3] := fun c2 c3 => by rw [List.set_append_right _ _ (Nat.le_refl _), Nat.sub_self]; rfl
  refine n_iload_n K 1 dJ7_copyOf_59c91_0 rfl rfl ?_
  refine n_aload_n K 0 dJ7_copyOf_59c91_1 rfl rfl ?_
  refine n_alen k 0 96 K he rfl rfl dJ7_copyOf_59c91_2 ?_
  refine n_icmp_ne 14 K dJ7_copyOf_59c91_3 (by decide) (fun _ => ?_) (fun q => absurd q h96)
  refine n_iload_n K 1 dJ7_copyOf_59c91_14 rfl rfl ?_
  refine n_newa (atype := .int) (ty := .int) (ix m) 0 (ca 0) K rfl zw74 (fun C h => by cases h) rfl rfl hm0 rfl (by show ix m * 4 ≤ _; omega) ⟨by decide, by omega⟩ dJ7_copyOf_59c91_15 (fun q => ?_)
  refine n_astore_n K 2 [some (.ref c), some (.int m), some (.ref q)] dJ7_copyOf_59c91_17 rfl (by decide) rfl rfl ?_
  refine n_aload_n K 0 dJ7_copyOf_59c91_18 rfl rfl ?_
  refine n_iconst K 0 dJ7_copyOf_59c91_19 (by decide) ?_
  refine n_aload_n K 2 dJ7_copyOf_59c91_20 rfl rfl ?_
  refine n_iconst K 0 dJ7_copyOf_59c91_21 (by decide) ?_
  refine n_aload_n K 0 dJ7_copyOf_59c91_22 rfl rfl ?_
  refine n_alen k 0 96 K (he2 _) rfl rfl dJ7_copyOf_59c91_23 ?_
  refine n_iload_n K 1 dJ7_copyOf_59c91_24 rfl rfl ?_
  refine n_mmin K zMinL zMinS zMinI zMinC ⟨by decide, by decide⟩ ⟨by decide, by omega⟩ (Nat.le_of_ble_eq_true rfl) dJ7_copyOf_59c91_25 ?_
  rw [hmin]
  refine n_copy (k1 := k) (k2 := ws.length) (ws ++ [(q, .inl (ca 0, ix m, .inl (va_cpy f (fun _ => 0) (ix 0) (ix 0) (ix m))))]) K (he2 _) (hat _) zCpL q470 q469 zCpI ?_ ⟨by decide, by decide⟩ (Nat.le_of_ble_eq_true rfl) (hst _ _) dJ7_copyOf_59c91_28 ?_
  · simp only [cpok, Bool.and_eq_true, decide_eq_true_eq]
    refine ⟨⟨⟨⟨by decide, by decide⟩, h4⟩, ?_⟩, ?_⟩
    · show ix 0 + ix m ≤ 96
      rw [ix0]; omega
    · show ix 0 + ix m ≤ ix m
      rw [ix0]; omega
  refine n_aload_n K 2 dJ7_copyOf_59c91_31 rfl rfl ?_
  refine n_wid 1 96 (by decide) (by omega) ?_
  exact n_aret K (Or.inr ⟨_, rfl⟩) hR ⟨q, _, rfl, fun j hj => by simp [va_cpy, ix0, hj], rfl⟩ dJ7_copyOf_59c91_32
