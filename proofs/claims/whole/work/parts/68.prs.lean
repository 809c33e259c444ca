/-! THE TEXTS, 4: rows of codes and of what waits -/
theorem gd_l {E F : List Int32} {k : Nat} (h : k < E.length) : (E ++ F).getD k 0 = E.getD k 0 := by
  simp [List.getD_eq_getElem?_getD, List.getElem?_append_left h]
theorem gd_r {E : List Int32} {x : Int32} : (E ++ [x]).getD E.length 0 = x := by
  simp [List.getD_eq_getElem?_getD]
theorem len_s {E : List Int32} {x : Int32} : (E ++ [x]).length = E.length + 1 := by simp
def RS (N : Mem) (E W : List Int32) (A : Nat) : Prop := N 0 20 = nI E.length ∧ (∀ k, k < E.length → N 12 k = E.getD k 0) ∧ N 0 23 = nI W.length ∧ (∀ k, k < W.length → N 13 k = W.getD k 0) ∧ N 0 21 = nI A
def CS (C : Mem) (E : List Int32) (A : Nat) : Prop := C 54 8 = nI E.length ∧ (∀ k, k < E.length → C 55 k = cmC (E.getD k 0)) ∧ C 54 6 = nI A ∧ C 54 9 = -1000000005
theorem RS.fr {N N2 : Mem} {E W : List Int32} {A : Nat} (h : RS N E W A) (h1 : N2 0 20 = N 0 20) (h2 : N2 0 21 = N 0 21) (h3 : N2 0 23 = N 0 23) (h4 : N2 12 = N 12) (h5 : N2 13 = N 13) : RS N2 E W A := by
  obtain ⟨a, b, c, d, e⟩ := h
  exact ⟨by rw [h1]; exact a, by rw [h4]; exact b, by rw [h3]; exact c, by rw [h5]; exact d, by rw [h2]; exact e⟩
theorem CS.fr {C C2 : Mem} {E : List Int32} {A : Nat} (h : CS C E A) (h1 : C2 54 8 = C 54 8) (h2 : C2 54 6 = C 54 6) (h3 : C2 54 9 = C 54 9) (h4 : C2 55 = C 55) : CS C2 E A := by
  obtain ⟨a, b, c, d⟩ := h
  exact ⟨by rw [h1]; exact a, by rw [h4]; exact b, by rw [h2]; exact c, by rw [h3]; exact d⟩
theorem RS.code {N : Mem} {E W : List Int32} {A : Nat} (h : RS N E W A) (x : Int32) : RS (sto (sto N 12 E.length x) 0 20 (nI (E.length + 1))) (E ++ [x]) W A := by
  obtain ⟨a, b, c, d, e⟩ := h
  refine ⟨by rw [sto_ss, len_s], fun k hk => ?_, by rw [sto_sn (by decide), sto_n (by decide)]; exact c, fun k hk => by rw [sto_n (by decide), sto_n (by decide)]; exact d k hk, by rw [sto_sn (by decide), sto_n (by decide)]; exact e⟩
  rw [len_s] at hk
  rw [sto_n (by decide)]
  by_cases q : k = E.length
  · rw [q, sto_ss, gd_r]
  · rw [sto_sn q, gd_l (by omega)]; exact b k (by omega)
theorem RS.wait {N : Mem} {E W : List Int32} {A : Nat} (h : RS N E W A) (x : Int32) : RS (sto (sto N 13 W.length x) 0 23 (nI (W.length + 1))) E (W ++ [x]) A := by
  obtain ⟨a, b, c, d, e⟩ := h
  refine ⟨by rw [sto_sn (by decide), sto_n (by decide)]; exact a, fun k hk => by rw [sto_n (by decide), sto_n (by decide)]; exact b k hk, by rw [sto_ss, len_s], fun k hk => ?_, by rw [sto_sn (by decide), sto_n (by decide)]; exact e⟩
  rw [len_s] at hk
  rw [sto_n (by decide)]
  by_cases q : k = W.length
  · rw [q, sto_ss, gd_r]
  · rw [sto_sn q, gd_l (by omega)]; exact d k (by omega)
theorem RS.pop {N : Mem} {E W : List Int32} {x : Int32} {A : Nat} (h : RS N E (W ++ [x]) A) : RS (sto N 0 23 (nI W.length)) E W A := by
  obtain ⟨a, b, c, d, e⟩ := h
  refine ⟨by rw [sto_sn (by decide)]; exact a, fun k hk => by rw [sto_n (by decide)]; exact b k hk, sto_ss, fun k hk => ?_, by rw [sto_sn (by decide)]; exact e⟩
  rw [sto_n (by decide), d k (by rw [len_s]; omega), gd_l hk]
theorem CS.put {C : Mem} {E : List Int32} {A : Nat} (h : CS C E A) {x y : Int32} (hy : y = cmC x) (hl : E.length < 96) : f_X4_put C y = some (sto (sto C 55 E.length y) 54 8 (nI (E.length + 1))) ∧ CS (sto (sto C 55 E.length y) 54 8 (nI (E.length + 1))) (E ++ [x]) A := by
  obtain ⟨a, b, c, d⟩ := h
  constructor
  · unfold f_X4_put
    rw [a, if_neg (show ¬ Int32.ofNat 96 ≤ nI E.length from fu_nle (a := 96) (by decide) (by omega) (by omega)), wrn hl (by decide), nm_t, sto_n (show (54 : Nat) ≠ 55 by decide), a, z1, nI_add]
  · refine ⟨by rw [sto_ss, len_s], fun k hk => ?_, by rw [sto_sn (by decide), sto_n (by decide)]; exact c, by rw [sto_sn (by decide), sto_n (by decide)]; exact d⟩
    rw [len_s] at hk
    rw [sto_n (by decide)]
    by_cases q : k = E.length
    · rw [q, sto_ss, gd_r, hy]
    · rw [sto_sn q, gd_l (by omega)]; exact b k (by omega)
/-- put leaves the fault, and all but the code, as they were -/
theorem put_f (C : Mem) (y : Int32) (hb : Bd (C 54 8) 0 96) : ∃ C2, f_X4_put C y = some C2 ∧ (∀ k, k ≠ 54 → k ≠ 55 → C2 k = C k) ∧ (∀ j, j ≠ 8 → C2 54 j = C 54 j) ∧ Bd (C2 54 8) 0 96 := by
  obtain ⟨n, hn, e⟩ := (show Bd (C 54 8) 0 ((96 : Nat) : Int) from hb).n
  unfold f_X4_put
  rw [e]
  by_cases q : 96 ≤ n
  · rw [if_pos (show Int32.ofNat 96 ≤ nI n from fu_le (a := 96) (by decide) (by omega) q)]
    exact ⟨C, rfl, fun _ _ _ => rfl, fun _ _ => rfl, hb⟩
  · rw [if_neg (show ¬ Int32.ofNat 96 ≤ nI n from fu_nle (a := 96) (by decide) (by omega) q), wrn (by omega) (by decide), nm_t, sto_n (show (54 : Nat) ≠ 55 by decide), e, z1, nI_add]
    exact ⟨_, rfl, fun k h1 h2 => by rw [sto_n h1, sto_n h2], fun j hj => by rw [sto_sn hj, sto_n (by decide)], by rw [sto_ss]; exact Bd_nI (by omega) (by omega) (by omega)⟩
def topOK (W : List Int32) (r : Nat) : Prop := W = [] ∨ ∃ W1 x, W = W1 ++ [x] ∧ (x = -11 ∨ rkR x < r)
theorem topOK.mono {W : List Int32} {r s : Nat} (h : topOK W r) (hs : r ≤ s) : topOK W s := by
  rcases h with h | ⟨W1, x, h1, h2⟩
  · exact Or.inl h
  · exact Or.inr ⟨W1, x, h1, h2.elim Or.inl (fun q => Or.inr (by omega))⟩
def FS (N N2 : Mem) : Prop := (∀ k, k ≠ 0 → k ≠ 12 → N2 k = N k) ∧ ∀ j, j ≠ 20 → j ≠ 23 → N2 0 j = N 0 j
theorem FS.tr {N N2 N3 : Mem} (h : FS N N2) (g : FS N2 N3) : FS N N3 := ⟨fun k a b => (g.1 k a b).trans (h.1 k a b), fun j a b => (g.2 j a b).trans (h.2 j a b)⟩
theorem settle_l {W : List Int32} {A r : Nat} (hr : r ≤ 6) (hW : topOK W r) : ∀ (q : List Int32) (n : Nat) (N : Mem) (E : List Int32), RS N E (W ++ q.reverse) A → (∀ x, x ∈ q → x ≠ -11 ∧ r ≤ rkR x) → E.length + (W.length + q.length) ≤ 96 → q.length < n → ∃ N2, f_X10_settle_l0 n (nI r) N = some N2 ∧ RS N2 (E ++ q) W A ∧ FS N N2
  | [], n + 1, N, E, h, _, hl, _ => by
    rw [List.reverse_nil, List.append_nil] at h
    rw [f_X10_settle_l0, h.2.2.1, List.append_nil]
    rcases hW with hw | ⟨W1, x, hw, hx⟩
    · rw [hw]
      rw [hw] at h
      rw [if_pos (show nI ([] : List Int32).length ≤ 0 by decide)]
      exact ⟨N, rfl, h, fun _ _ _ => rfl, fun _ _ _ => rfl⟩
    · have hlen : W.length = W1.length + 1 := by rw [hw, len_s]
      have top : N 13 W1.length = x := by rw [h.2.2.2.1 W1.length (by omega), hw, gd_r]
      rw [if_neg (show ¬ nI W.length ≤ 0 from fu_nle (b := 0) (by simp at hl; omega) (by decide) (by omega)), nI_pred1 (by omega), rdn (by simp at hl; omega) (by decide), show W.length - 1 = W1.length by omega, top]
      by_cases q : x = -11
      · rw [if_pos q]
        exact ⟨N, rfl, h, fun _ _ _ => rfl, fun _ _ _ => rfl⟩
      · have := rkR_le x
        have hx2 : rkR x < r := hx.resolve_left q
        rw [if_neg q, rdn (by simp at hl; omega) (by decide), top, rank_e, bd_s, if_pos (by rw [lt_nI (by omega) (by omega)]; exact hx2)]
        exact ⟨N, rfl, h, fun _ _ _ => rfl, fun _ _ _ => rfl⟩
  | x :: q, n + 1, N, E, h, hq, hl, hn => by
    have hlr : (W ++ q.reverse).length = W.length + q.length := by simp
    rw [List.length_cons] at hl hn
    rw [List.reverse_cons, ← List.append_assoc] at h
    have h23 : N 0 23 = nI (W.length + q.length + 1) := by rw [h.2.2.1, len_s, hlr]
    have top : N 13 (W.length + q.length) = x := by rw [h.2.2.2.1 _ (by rw [len_s, hlr]; omega), ← hlr, gd_r]
    obtain ⟨x1, x2⟩ := hq x (List.mem_cons_self)
    have rx := rkR_le x
    have hp := h.pop
    rw [hlr] at hp
    have hc := hp.code x
    obtain ⟨N2, p1, p2, p3⟩ := settle_l hr hW q n _ (E ++ [x]) hc (fun y hy => hq y (List.mem_cons_of_mem _ hy)) (by rw [len_s]; omega) (by omega)
    have e20 : sto N 0 23 (nI (W.length + q.length)) 0 20 = nI E.length := hp.1
    refine ⟨N2, ?_, by rw [List.append_assoc] at p2; exact p2, ?_⟩
    · rw [f_X10_settle_l0, h23, if_neg (show ¬ nI (W.length + q.length + 1) ≤ 0 from fu_nle (b := 0) (by omega) (by decide) (by omega)), nI_pred1 (by omega), Nat.add_sub_cancel, rdn (by omega) (by decide), top, if_neg x1, rdn (by omega) (by decide), top, rank_e, bd_s, if_neg (by rw [lt_nI (by omega) (by omega)]; omega), nm_t, sto_ss, rdn (by omega) (by decide), sto_n (show (13 : Nat) ≠ 0 by decide), top, e20, wrn (by omega) (by decide), nm_t, sto_n (show (0 : Nat) ≠ 12 by decide), e20, z1, nI_add]
      exact p1
    · exact ⟨fun k k0 k12 => by rw [p3.1 k k0 k12, sto_n k0, sto_n k12, sto_n k0], fun j j20 j23 => by rw [p3.2 j j20 j23, sto_sn j20, sto_n (by decide), sto_sn j23]⟩
theorem settle_e {W q : List Int32} {A r : Nat} {N : Mem} {E : List Int32} (hr : r ≤ 6) (hW : topOK W r) (h : RS N E (W ++ q) A) (hq : ∀ x, x ∈ q → x ≠ -11 ∧ r ≤ rkR x) (hl : E.length + (W.length + q.length) ≤ 96) : ∃ N2, f_X10_settle N (nI r) = some N2 ∧ RS N2 (E ++ q.reverse) W A ∧ FS N N2 :=
  settle_l hr hW q.reverse FU N E (by rw [List.reverse_reverse]; exact h) (fun x hx => hq x (List.mem_reverse.mp hx)) (by rw [List.length_reverse]; exact hl) (by rw [List.length_reverse]; exact FU_gt (by omega))
/-- how many nots wait -/
def cN : List Int32 → Nat
  | [] => 0
  | x :: W => (if x = -10 then 1 else 0) + cN W
theorem cN_app : ∀ (a b : List Int32), cN (a ++ b) = cN a + cN b
  | [], b => by rw [List.nil_append, cN, Nat.zero_add]
  | x :: a, b => by rw [List.cons_append, cN, cN, cN_app a b]; omega
theorem cN_le : ∀ a : List Int32, cN a ≤ a.length
  | [] => Nat.le_refl _
  | x :: a => by
    have := cN_le a
    rw [cN, List.length_cons]
    split <;> omega
theorem cN_take {W : List Int32} {i : Nat} (h : i < W.length) : cN (W.take (i + 1)) = cN (W.take i) + (if W.getD i 0 = -10 then 1 else 0) := by
  rw [List.take_succ, cN_app, List.getElem?_eq_getElem h, List.getD_eq_getElem?_getD, List.getElem?_eq_getElem h]
  rfl
theorem nots_l {N : Mem} {E W : List Int32} {A : Nat} (h : RS N E W A) (hl : W.length ≤ 96) : ∀ (k i n : Nat), i + k = W.length → k < n → f_X10_notsOpen_l4 n (nI (cN (W.take i))) (nI i) N = some (nI (cN W))
  | 0, i, n + 1, hi, _ => by
    rw [f_X10_notsOpen_l4, h.2.2.1, if_pos (fu_le (by omega) (by omega) (by omega)), List.take_of_length_le (by omega)]
  | k + 1, i, n + 1, hi, hk => by
    have ih := nots_l h hl k (i + 1) n (by omega) (by omega)
    rw [cN_take (by omega)] at ih
    unfold f_X10_notsOpen_l4 f_X10_notsOpen_j29
    rw [h.2.2.1, if_neg (fu_nle (by omega) (by omega) (by omega)), rdn (by omega) (by decide), h.2.2.2.1 i (by omega)]
    by_cases q : W.getD i 0 = -10
    · rw [if_pos q, nm_t, nm_t, z1, nI_add, nI_add]
      rw [if_pos q] at ih
      exact ih
    · rw [if_neg q, nm_t, nm_t, z0, nI_add, z1, nI_add]
      rw [if_neg q] at ih
      exact ih
theorem nots_e {N : Mem} {E W : List Int32} {A : Nat} (h : RS N E W A) (hl : W.length ≤ 96) : f_X10_notsOpen N = some (nI (cN W)) := nots_l h hl W.length 0 FU (by omega) (FU_gt (by omega))
/-- a row of codes that works on what it has, and leaves one number more -/
def dl : List Int32 → Nat → Option Nat
  | [], d => some d
  | c :: cs, d => if c < 0 then (if c = -10 then (if 1 ≤ d then dl cs d else none) else (if 2 ≤ d then dl cs (d - 1) else none)) else dl cs (d + 1)
theorem dl_app : ∀ (a b : List Int32) (d e : Nat), dl a d = some e → dl (a ++ b) d = dl b e
  | [], b, d, e, h => by
    rw [dl] at h
    rw [List.nil_append, Option.some.inj h]
  | c :: a, b, d, e, h => by
    rw [dl] at h
    rw [List.cons_append, dl]
    by_cases h1 : c < 0
    · rw [if_pos h1] at h
      rw [if_pos h1]
      by_cases h2 : c = -10
      · rw [if_pos h2] at h
        rw [if_pos h2]
        by_cases h3 : 1 ≤ d
        · rw [if_pos h3] at h
          rw [if_pos h3]
          exact dl_app a b d e h
        · rw [if_neg h3] at h; cases h
      · rw [if_neg h2] at h
        rw [if_neg h2]
        by_cases h3 : 2 ≤ d
        · rw [if_pos h3] at h
          rw [if_pos h3]
          exact dl_app a b (d - 1) e h
        · rw [if_neg h3] at h; cases h
    · rw [if_neg h1] at h
      rw [if_neg h1]
      exact dl_app a b (d + 1) e h
def Blk (b : List Int32) : Prop := (∀ d, dl b d = some (d + 1)) ∧ ∀ x, x ∈ b → -10 ≤ x.toInt ∧ x.toInt ≤ 10001
theorem Blk.leaf {x : Int32} (h0 : 0 ≤ x.toInt) (h1 : x.toInt ≤ 10001) : Blk [x] := by
  refine ⟨fun d => ?_, fun y hy => ?_⟩
  · rw [dl, if_neg (fun q => by have := i32lt.mp q; rw [show (0 : Int32).toInt = 0 from rfl] at this; omega), dl]
  · rw [List.mem_singleton] at hy
    rw [hy]; omega
theorem Blk.not {b : List Int32} (h : Blk b) : Blk (b ++ [-10]) := by
  refine ⟨fun d => ?_, fun y hy => ?_⟩
  · rw [dl_app b _ d _ (h.1 d), dl, if_pos (by decide), if_pos rfl, if_pos (by omega), dl]
  · rcases List.mem_append.mp hy with q | q
    · exact h.2 y q
    · rw [List.mem_singleton] at q
      rw [q]; decide
theorem Blk.op {b c : List Int32} {s : Int32} (h : Blk b) (g : Blk c) (h1 : s < 0) (h2 : ¬ s = -10) (h3 : -10 ≤ s.toInt) : Blk (b ++ c ++ [s]) := by
  refine ⟨fun d => ?_, fun y hy => ?_⟩
  · rw [List.append_assoc, dl_app b _ d _ (h.1 d), dl_app c _ _ _ (g.1 (d + 1)), dl, if_pos h1, if_neg h2, if_pos (by omega), dl]
    rfl
  · rcases List.mem_append.mp hy with q | q
    · rcases List.mem_append.mp q with w | w
      · exact h.2 y w
      · exact g.2 y w
    · rw [List.mem_singleton] at q
      have := i32lt.mp h1
      rw [show (0 : Int32).toInt = 0 from rfl] at this
      rw [q]; omega
