/-! THE LAW, 1: rows (written by wip/gen/wlaw.py) -/
theorem n_isub {x : En} {E : Amd} {D : va_G} {ca : Nat → ClassId} {own : String} {cc : ByteArray} {nL fr lo mc ms : Nat} {ws : va_W} {nc ns : Nat} {pc : Nat} {V : List (Option Value)} {rest : List Value} (K : Kn x E D ca own cc nL fr lo mc ms) {a b : Int32} (hd : decode cc pc = .ok (.isub, 1))  (k : Gn x D nL ws nc ns (pc + 1) V (.int (a - b) :: rest)) : Gn x D nL ws nc ns (pc) V (.int b :: .int a :: rest) := by
  obtain ⟨p, l, e, R, s, m, args, below, meth, c, A, cells, slots, Q⟩ := x
  obtain ⟨⟨hx, hb, hml, hown, hts⟩, hK, hA, hfr, hlo, hmc, hms, hlk, hAm, hAO⟩ := K
  intro H locs ls hP hD hS hl
  exact lv_isub hx hb hd  (k H locs ls hP hD hS hl)
theorem n_iand {x : En} {E : Amd} {D : va_G} {ca : Nat → ClassId} {own : String} {cc : ByteArray} {nL fr lo mc ms : Nat} {ws : va_W} {nc ns : Nat} {pc : Nat} {V : List (Option Value)} {rest : List Value} (K : Kn x E D ca own cc nL fr lo mc ms) {a b : Int32} (hd : decode cc pc = .ok (.iand, 1))  (k : Gn x D nL ws nc ns (pc + 1) V (.int (a &&& b) :: rest)) : Gn x D nL ws nc ns (pc) V (.int b :: .int a :: rest) := by
  obtain ⟨p, l, e, R, s, m, args, below, meth, c, A, cells, slots, Q⟩ := x
  obtain ⟨⟨hx, hb, hml, hown, hts⟩, hK, hA, hfr, hlo, hmc, hms, hlk, hAm, hAO⟩ := K
  intro H locs ls hP hD hS hl
  exact lv_iand hx hb hd  (k H locs ls hP hD hS hl)
theorem n_icmp_gt {x : En} {E : Amd} {D : va_G} {ca : Nat → ClassId} {own : String} {cc : ByteArray} {nL fr lo mc ms : Nat} {ws : va_W} {nc ns : Nat} {pc : Nat} {V : List (Option Value)} {rest : List Value} (K : Kn x E D ca own cc nL fr lo mc ms) {a b : Int32} {off : Int} (tgt : Nat) (hd : decode cc pc = .ok (.if_icmp .gt off, 3)) (ht : (pc : Int) + off = (tgt : Int)) (kt : b < a → Gn x D nL ws nc ns (tgt) V (rest)) (kf : ¬ (b < a) → Gn x D nL ws nc ns (pc + 3) V (rest)) : Gn x D nL ws nc ns (pc) V (.int b :: .int a :: rest) := by
  obtain ⟨p, l, e, R, s, m, args, below, meth, c, A, cells, slots, Q⟩ := x
  obtain ⟨⟨hx, hb, hml, hown, hts⟩, hK, hA, hfr, hlo, hmc, hms, hlk, hAm, hAO⟩ := K
  intro H locs ls hP hD hS hl
  exact lv_icmp_gt hx hb hd ht (fun q => kt q H locs ls hP hD hS hl) (fun q => kf q H locs ls hP hD hS hl)
theorem n_icmp_eq {x : En} {E : Amd} {D : va_G} {ca : Nat → ClassId} {own : String} {cc : ByteArray} {nL fr lo mc ms : Nat} {ws : va_W} {nc ns : Nat} {pc : Nat} {V : List (Option Value)} {rest : List Value} (K : Kn x E D ca own cc nL fr lo mc ms) {a b : Int32} {off : Int} (tgt : Nat) (hd : decode cc pc = .ok (.if_icmp .eq off, 3)) (ht : (pc : Int) + off = (tgt : Int)) (kt : a = b → Gn x D nL ws nc ns (tgt) V (rest)) (kf : ¬ (a = b) → Gn x D nL ws nc ns (pc + 3) V (rest)) : Gn x D nL ws nc ns (pc) V (.int b :: .int a :: rest) := by
  obtain ⟨p, l, e, R, s, m, args, below, meth, c, A, cells, slots, Q⟩ := x
  obtain ⟨⟨hx, hb, hml, hown, hts⟩, hK, hA, hfr, hlo, hmc, hms, hlk, hAm, hAO⟩ := K
  intro H locs ls hP hD hS hl
  exact lv_icmp_eq hx hb hd ht (fun q => kt q H locs ls hP hD hS hl) (fun q => kf q H locs ls hP hD hS hl)
theorem n_table {x : En} {E : Amd} {D : va_G} {ca : Nat → ClassId} {own : String} {cc : ByteArray} {nL fr lo mc ms : Nat} {ws : va_W} {nc ns : Nat} {pc : Nat} {V : List (Option Value)} {rest : List Value} (K : Kn x E D ca own cc nL fr lo mc ms) {a : Int32} {dflt lo2 hi2 off : Int} {offs : Array Int} {len : Nat} (tgt : Nat) (hd : decode cc pc = .ok (.tableswitch dflt lo2 hi2 offs, len)) (hsz : (offs.size : Int) = hi2 - lo2 + 1) (ho : tsel dflt lo2 hi2 offs a.toInt = off) (ht : (pc : Int) + off = (tgt : Int)) (k : Gn x D nL ws nc ns (tgt) V (rest)) : Gn x D nL ws nc ns (pc) V (.int a :: rest) := by
  obtain ⟨p, l, e, R, s, m, args, below, meth, c, A, cells, slots, Q⟩ := x
  obtain ⟨⟨hx, hb, hml, hown, hts⟩, hK, hA, hfr, hlo, hmc, hms, hlk, hAm, hAO⟩ := K
  intro H locs ls hP hD hS hl
  subst ho
  unfold tsel at ht
  by_cases hq : a.toInt < lo2 ∨ hi2 < a.toInt
  · rw [if_pos hq] at ht
    exact lv_tableOut hx hb hd hq ht (k H locs ls hP hD hS hl)
  · rw [if_neg hq] at ht
    have hj : (a.toInt - lo2).toNat < offs.size := by omega
    rw [Array.getElem?_eq_getElem hj] at ht
    exact lv_tableIn hx hb hd (by omega) (by omega) (Array.getElem?_eq_getElem hj) ht (k H locs ls hP hD hS hl)
theorem ct_cn {l : Launch} {E : Amd} {D : va_G} {ca : Nat → ClassId} {h : Nat → Nat} {L : Lay} {y : MethodName} {cc : ByteArray} {nL : Nat} {ret : Option FieldType} {fr lo : Nat} {av : List Value} {M : Mem} {v : Option Value} {M2 : Mem} (hC : Ct l E D (tysOf ca) h L y cc nL ret fr lo av M v M2) : Cn l E D ca y cc nL ret fr lo 0 0 av (wsOf h L M) (fun u w2 => u = v ∧ w2 = wsOf h L M2) := by
  intro sz p e ha hc hk s m args below hf happ hP hK
  obtain ⟨hargs, hsz, hP1, hKK, hD, hAm, hAO⟩ := hP
  have hi : Inj h L.1 := fun i j hi hj e => hD.1 i j _ _ (wsOf_at hi) (wsOf_at hj) e
  have eA : Ad h L.1 sz = va_A (wsOf h L M) sz := funext fun q => propext ⟨fun hq => by
    rcases hq with ⟨k, hk1, rfl⟩ | hq
    · exact Or.inl ⟨k, _, wsOf_at hk1⟩
    · exact Or.inr hq, fun hq => by
    rcases hq with ⟨k, e, hk1⟩ | hq
    · have hl := (List.getElem?_eq_some_iff.mp hk1).1
      rw [wsOf_len] at hl
      rw [wsOf_at hl] at hk1
      injection hk1 with hk1
      exact Or.inl ⟨k, hl, (congrArg Prod.fst hk1).symm⟩
    · exact Or.inr hq⟩
  obtain ⟨n, o, h1, h2, h3, ⟨q1, q2, q3⟩, Lx, hF, hfree⟩ := hC sz p e ha hc hk s m args below hf happ ⟨hargs, hsz, hP1, hKK, hi, by rw [eA]; exact hAm⟩ hK
  refine ⟨n, o, h1, h2, h3, ⟨v, wsOf h L M2, q1, ⟨rfl, rfl⟩, q2, wsOf_D hi (fun k hk1 => Or.inl ⟨k, _, wsOf_at hk1⟩), by rw [← eA]; exact q3⟩, Lx, hF, fun q hq => by rw [← eA]; exact hfree q hq⟩
/-- the script -/
def Sc (x : En) (b L : Nat) (xs : Nat → Int32) : Prop := match x with
  | (_, _, _, _, s, _, _, _, _, _, A, _, _, _) => va_X b L xs s s.heap ∧ b < s.heap.size ∧ ¬ A b
section
variable {x : En} {E : Amd} {D : va_G} {ca : Nat → ClassId} {own : String} {cc : ByteArray} {nL fr lo mc ms : Nat} {ws : va_W} {nc ns : Nat} {pc : Nat} {V : List (Option Value)} {rest : List Value} {b L : Nat} {xs : Nat → Int32}
theorem n_sld {i : Int32} (K : Kn x E D ca own cc nL fr lo mc ms) (hs : Sc x b L xs) (hin : vp_in i L) (hd : decode cc pc = .ok (.iaload, 1)) (kk : Gn x D nL ws nc ns (pc + 1) V (.int (xs (ix i)) :: rest)) : Gn x D nL ws nc ns pc V (.int i :: .ref b :: rest) := by
  obtain ⟨p, l, e, R, s, m, args, below, meth, c, A, cells, slots, Q⟩ := x
  obtain ⟨⟨hx, hb, hml, hown, hts⟩, hK, hA, hfr, hlo, hmc, hms, hlk, hAm, hAO⟩ := K
  obtain ⟨hX, hbl, hbA⟩ := hs
  intro H locs ls hP hD hS hl
  exact va_sld hx hb hX hbl hbA hS hin hd (kk H locs ls hP hD hS hl)
theorem n_slen (K : Kn x E D ca own cc nL fr lo mc ms) (hs : Sc x b L xs) (hd : decode cc pc = .ok (.arraylength, 1)) (kk : Gn x D nL ws nc ns (pc + 1) V (.int (Int32.ofNat L) :: rest)) : Gn x D nL ws nc ns pc V (.ref b :: rest) := by
  obtain ⟨p, l, e, R, s, m, args, below, meth, c, A, cells, slots, Q⟩ := x
  obtain ⟨⟨hx, hb, hml, hown, hts⟩, hK, hA, hfr, hlo, hmc, hms, hlk, hAm, hAO⟩ := K
  obtain ⟨hX, hbl, hbA⟩ := hs
  intro H locs ls hP hD hS hl
  exact va_slen hx hb hX hbl hbA hS hd (kk H locs ls hP hD hS hl)
theorem n_arg {t : Nat} (j : Nat) {jI : Int} (hj : j ≤ 5) (hji : Int32.ofInt jI = nI j) (K : Kn x E D ca own cc nL fr lo mc ms) (hs : Sc x b L xs) (hL : L ≤ 3072) (hb : 6 * t + 6 ≤ L) (hV0 : V[0]? = some (some (.ref b))) (hV3 : V[3]? = some (some (.int (nI (6 * t))))) (d0 : decode cc pc = .ok (.aload_n 0, 1)) (d1 : decode cc (pc + 1) = .ok (.iload_n 3, 1)) (d2 : decode cc (pc + 2) = .ok (.iconst jI, 1)) (d3 : decode cc (pc + 3) = .ok (.iadd, 1)) (d4 : decode cc (pc + 4) = .ok (.iaload, 1)) (kk : Gn x D nL ws nc ns (pc + 5) V (.int (xs (6 * t + j)) :: rest)) : Gn x D nL ws nc ns pc V rest := by
  refine n_aload_n K 0 d0 rfl hV0 ?_
  refine n_iload_n K 3 d1 rfl hV3 ?_
  refine n_iconst K (nI j) d2 hji ?_
  refine n_iadd K d3 ?_
  rw [nI_add]
  refine n_sld K hs (nI_in (show 6 * t + j < L by omega) (by omega)) d4 ?_
  rw [ix_nI (by omega)]
  exact kk
end
abbrev VL (b : Nat) (hc hm : Nat → Nat) (t : Nat) : List (Option Value) := [some (.ref b), some (.ref (hc 0)), some (.ref (hm 0)), some (.int (nI (6 * t)))]
theorem heC {ca : Nat → ClassId} {hc : Nat → Nat} {nl : Nat} {C : Mem} {wf : va_W} : (wf ++ wsOf hc (LaC ca hc nl) C)[wf.length + 0]? = some (hc 0, .inr (8, obOne hc (C 0))) := at_P.trans (wsOf_at (L := LaC ca hc nl) ltOne)
theorem heM {ca : Nat → ClassId} {hm : Nat → Nat} {N : Mem} {wf : va_W} : (wf ++ wsOf hm (LaM ca hm) N)[wf.length + 0]? = some (hm 0, .inr (9, obM hm (N 0))) := at_P.trans (wsOf_at (L := LaM ca hm) (ltM (by decide)))
theorem withM_e {o : Option Int32} {M M2 : Mem} {r : Int32} (h : withM o M = some (r, M2)) : o = some r ∧ M = M2 := by
  cases o with
  | none => cases h
  | some a =>
    injection h with h
    injection h with h1 h2
    exact ⟨by rw [h1], h2⟩
theorem fault_k {nl : Nat} {C N : Mem} (h : Rel nl C N) (r1 : Int32) (M1 : Mem) (hf : f_X4_faultFound C = some (r1, M1)) (b : Nat) (hb : b < 3) : LOK nl M1 b := by
  obtain ⟨t1, t2, t3⟩ := h.tape
  obtain ⟨L, hL, eL⟩ := (show Bd (N 0 10) 0 ((96 : Nat) : Int) from t1).n
  have hx : ix (N 0 10) = L := by rw [eL]; exact ix_nI (by omega)
  have kr : KeyRel N := h.2.2.2.2.2.2.2.2.2.2
  have T : Tp C N L (fun k => ix (N 9 k)) := by
    refine ⟨hL, by rw [t2, eL], eL, fun k hk => ?_⟩
    obtain ⟨b1, b2⟩ := t3 k (by rw [hx]; exact hk)
    obtain ⟨e1, e2⟩ := (show Bd (N 9 k) 0 ((255 : Nat) : Int) from b1).i
    refine ⟨by dsimp only; omega, e1, ?_⟩
    rw [b2]
    unfold b8
    rw [← e1]
  obtain ⟨r, C1, p1, p2, p3⟩ := parse_e T kr
  rw [p1] at hf
  injection hf with hf
  injection hf with h1 h2
  subst h2
  intro i hi
  rw [p2 _ (by unfold HB; omega) (by unfold HB; omega)]
  obtain ⟨-, -, g3, g4, ⟨-, o2, -⟩⟩ := h
  rcases (show b = 0 ∨ b = 1 ∨ b = 2 by omega) with rfl | rfl | rfl
  · exact g3 i hi
  · exact o2 i hi
  · exact g4 i hi
