/-! THE CLASS: 82 regions and two for each Law: 0 the object, HB b .. the hall b (now, image, then), the rest; a Law by its number from 1 on -/
def HB (b : Nat) : Nat := 1 + 17 * b
def obHall (h : Nat → Nat) (o : Nat) (row : Nat → Int32) : List Value := [.ref (h (o + 1)), .ref (h (o + 6)), .ref (h (o + 11)), .ref (h (o + 12)), .ref (h (o + 13)), .int (row 5), .int (row 6), .int (row 7), .int (row 8), .ref (h (o + 14)), .ref (h (o + 15)), .ref (h (o + 16))]
def obDoors (h : Nat → Nat) (o : Nat) (row : Nat → Int32) : List Value := [.int (row 0), .int (row 1), .ref (h (o + 2)), .ref (h (o + 3)), .ref (h (o + 4)), .ref (h (o + 5))]
def obLaws (h : Nat → Nat) (o : Nat) (row : Nat → Int32) : List Value := [.int (row 0), .ref (h (o + 7)), .ref (h (o + 8)), .ref (h (o + 9)), .ref (h (o + 10))]
def obOne (h : Nat → Nat) (row : Nat → Int32) : List Value := [.ref (h (HB 0)), .ref (h (HB 1)), .int (row 2), .ref (h 52), .ref (h 54), .ref (h 56), .ref (h 65), .ref (h 81), .int (row 10)]
def obReader (h : Nat → Nat) (row : Nat → Int32) : List Value := [.ref (h 53), .int (row 1), .int (row 2), .int (row 3), .int (row 4), .int (row 5), .int (row 6), .ref (h 55), .int (row 8), .int (row 9)]
def obSheet (h : Nat → Nat) (s : Nat) (row : Nat → Int32) : List Value := [.int (row 0), .int (row 1), .ref (h (s + 1))]
def obSlot (h : Nat → Nat) (i : Nat) (row : Nat → Int32) : List Value := [.int (row 0), .int (row 1), .int (row 2), .int (row 3), .ref (h (67 + 3 * i))]
def obLaw (h : Nat → Nat) (c : Nat) (row : Nat → Int32) : List Value := [.int (row 0), .int (row 1), .ref (h (81 + 2 * c))]
def lawAd (h : Nat → Nat) (v : Int32) : Option Nat := if v = 0 then none else some (h (80 + 2 * ix v))
def hallC (ca : Nat → ClassId) (h : Nat → Nat) (o j : Nat) (row : Nat → Int32) : va_E := match j with
  | 0 => .inr (1, obHall h o row)
  | 1 => .inr (0, obDoors h o row)
  | 2 => .inl (ca 0, 10, .inl row)
  | 3 => .inl (ca 0, 10, .inl row)
  | 4 => .inl (ca 0, 10, .inl row)
  | 5 => .inl (ca 0, 10, .inl row)
  | 6 => .inr (4, obLaws h o row)
  | 7 => .inl (ca 0, 3, .inl row)
  | 8 => .inl (ca 4, 14, .inr (.inr (.inr (.inr (fun i => lawAd h (row i))))))
  | 9 => .inl (ca 0, 120, .inl row)
  | 10 => .inl (ca 0, 96, .inl row)
  | 11 => .inl (ca 0, 9, .inl row)
  | 12 => .inl (ca 0, 8, .inl row)
  | 13 => .inl (ca 0, 8, .inl row)
  | 14 => .inl (ca 0, 10, .inl row)
  | 15 => .inl (ca 0, 9, .inl row)
  | _ => .inl (ca 0, 8, .inl row)
def celC (ca : Nat → ClassId) (h : Nat → Nat) (k : Nat) (row : Nat → Int32) : va_E :=
  if k = 0 then .inr (8, obOne h row) else if k < 52 then hallC ca h (HB ((k - 1) / 17)) ((k - 1) % 17) row
  else if k = 52 then .inr (7, [.ref (h (HB 2))]) else if k = 53 then .inl (ca 1, 96, .inl row) else if k = 54 then .inr (3, obReader h row) else if k = 55 then .inl (ca 0, 96, .inl row)
  else if k = 56 then .inl (ca 5, 4, .inr (.inr (.inr (.inr (fun i => some (h (57 + 2 * i)))))))
  else if k < 65 then (if (k - 57) % 2 = 0 then .inr (5, obSheet h k row) else .inl (ca 0, 24, .inl row))
  else if k = 65 then .inl (ca 6, 5, .inr (.inr (.inr (.inr (fun i => some (h (66 + 3 * i)))))))
  else if k < 81 then (if (k - 66) % 3 = 0 then .inr (6, obSlot h ((k - 66) / 3) row) else if (k - 66) % 3 = 1 then .inr (5, obSheet h k row) else .inl (ca 0, 24, .inl row))
  else if k = 81 then .inl (ca 0, 60, .inl row)
  else if k % 2 = 0 then .inr (2, obLaw h ((k - 80) / 2) row) else .inl (ca 0, ix (row 1000), .inl row)
def LaC (ca : Nat → ClassId) (h : Nat → Nat) (nl : Nat) : Lay := (82 + 2 * nl, celC ca h)
section
variable {ca : Nat → ClassId} {h : Nat → Nat} {nl : Nat}
theorem ltC {k : Nat} (hk : k < 82) : k < (LaC ca h nl).1 := Nat.lt_of_lt_of_le hk (Nat.le_add_right 82 _)
theorem hb_0 : 0 < 3 := by decide
theorem hb_1 : 1 < 3 := by decide
theorem hb_2 : 2 < 3 := by decide
theorem ltN {k nl : Nat} (hk : k < 82) : k < 82 + 2 * nl := Nat.lt_of_lt_of_le hk (Nat.le_add_right 82 _)
theorem ltB {b j : Nat} (hb : b < 3) (hj : j < 17) : HB b + j < 82 := by unfold HB; omega
theorem c_hall {b : Nat} (hb : b < 3) (j : Nat) (hj : j < 17) (row : Nat → Int32) : celC ca h (HB b + j) row = hallC ca h (HB b) j row := by
  unfold celC
  rw [if_neg (by unfold HB; omega), if_pos (by unfold HB; omega), show (HB b + j - 1) / 17 = b by unfold HB; omega, show (HB b + j - 1) % 17 = j by unfold HB; omega]
theorem ltOne : 0 < (LaC ca h nl).1 := ltC (by decide)
theorem ltThought : 52 < (LaC ca h nl).1 := ltC (by decide)
theorem ltReader : 54 < (LaC ca h nl).1 := ltC (by decide)
theorem ltHall {b : Nat} (hb : b < 3) : HB b < (LaC ca h nl).1 := ltC (ltB hb (show 0 < 17 by decide))
theorem ltDoors {b : Nat} (hb : b < 3) : HB b + 1 < (LaC ca h nl).1 := ltC (ltB hb (by decide))
theorem ltLaws {b : Nat} (hb : b < 3) : HB b + 6 < (LaC ca h nl).1 := ltC (ltB hb (by decide))
theorem obOne_c (row : Nat → Int32) : celC ca h 0 row = .inr (8, obOne h row) := rfl
theorem obThought_c (row : Nat → Int32) : celC ca h 52 row = .inr (7, [.ref (h (HB 2))]) := rfl
theorem obReader_c (row : Nat → Int32) : celC ca h 54 row = .inr (3, obReader h row) := rfl
theorem obHall_c {b : Nat} (hb : b < 3) (row : Nat → Int32) : celC ca h (HB b) row = .inr (1, obHall h (HB b) row) := c_hall hb 0 (by decide) row
theorem obDoors_c {b : Nat} (hb : b < 3) (row : Nat → Int32) : celC ca h (HB b + 1) row = .inr (0, obDoors h (HB b) row) := c_hall hb 1 (by decide) row
theorem obLaws_c {b : Nat} (hb : b < 3) (row : Nat → Int32) : celC ca h (HB b + 6) row = .inr (4, obLaws h (HB b) row) := c_hall hb 6 (by decide) row
def ShOK (ca : Nat → ClassId) (h : Nat → Nat) (s : Nat) : Prop := s + 1 < 82 ∧ (∀ row, celC ca h s row = .inr (5, obSheet h s row)) ∧ ∀ row, celC ca h (s + 1) row = .inl (ca 0, 24, .inl row)
theorem ltSheet {s : Nat} (hs : ShOK ca h s) : s < (LaC ca h nl).1 := ltC (Nat.lt_of_succ_lt hs.1)
theorem obSheet_c {s : Nat} (hs : ShOK ca h s) (row : Nat → Int32) : celC ca h s row = .inr (5, obSheet h s row) := hs.2.1 row
theorem ltSlot {i : Nat} (hi : i < 5) : 66 + 3 * i < (LaC ca h nl).1 := ltC (by omega)
theorem obSlot_c {i : Nat} (hi : i < 5) (row : Nat → Int32) : celC ca h (66 + 3 * i) row = .inr (6, obSlot h i row) := by
  rcases (show i = 0 ∨ i = 1 ∨ i = 2 ∨ i = 3 ∨ i = 4 by omega) with rfl | rfl | rfl | rfl | rfl <;> rfl
theorem ltLaw {c : Nat} (hc : 1 ≤ c ∧ c ≤ nl) : 80 + 2 * c < (LaC ca h nl).1 := by show _ < 82 + 2 * nl; omega
theorem obLaw_c {c : Nat} (hc : 1 ≤ c ∧ c ≤ nl) (row : Nat → Int32) : celC ca h (80 + 2 * c) row = .inr (2, obLaw h c row) := by
  unfold celC
  rw [if_neg (by omega), if_neg (by omega), if_neg (by omega), if_neg (by omega), if_neg (by omega), if_neg (by omega), if_neg (by omega), if_neg (by omega), if_neg (by omega), if_neg (by omega), if_neg (by omega), if_pos (by omega), show (80 + 2 * c - 80) / 2 = c by omega]
theorem cCode {c : Nat} (hc : 1 ≤ c ∧ c ≤ nl) (row : Nat → Int32) : celC ca h (81 + 2 * c) row = .inl (ca 0, ix (row 1000), .inl row) := by
  unfold celC
  rw [if_neg (by omega), if_neg (by omega), if_neg (by omega), if_neg (by omega), if_neg (by omega), if_neg (by omega), if_neg (by omega), if_neg (by omega), if_neg (by omega), if_neg (by omega), if_neg (by omega), if_neg (by omega)]
theorem ib_lt {i : Int32} {n : Nat} (h : ib i n = true) : ix i < n := by
  have h1 := ib_in h
  exact Nat.not_le.mp fun q => h1 (Or.inr q)
theorem shA {i : Int32} {s : Nat} (g : ib i 4 = true) (e : 57 + 2 * ix i = s) : ShOK ca h s := by
  have h1 := ib_lt g
  subst e
  generalize ix i = k at h1 ⊢
  rcases (show k = 0 ∨ k = 1 ∨ k = 2 ∨ k = 3 by omega) with rfl | rfl | rfl | rfl <;> exact ⟨by decide, fun _ => rfl, fun _ => rfl⟩
theorem shT {i : Nat} (hi : i < 5) : ShOK ca h (67 + 3 * i) := by
  rcases (show i = 0 ∨ i = 1 ∨ i = 2 ∨ i = 3 ∨ i = 4 by omega) with rfl | rfl | rfl | rfl | rfl <;> exact ⟨by decide, fun _ => rfl, fun _ => rfl⟩
theorem slA {i : Int32} {k : Nat} (g : ib i 5 = true) (e : ix i = k) : k < 5 := e ▸ ib_lt g
def lok (nl : Nat) (v : Int32) : Bool := decide (1 ≤ ix v) && decide (ix v ≤ nl)
theorem lok_e {v : Int32} {c : Nat} (g : lok nl v = true) (e : ix v = c) : 1 ≤ c ∧ c ≤ nl := by
  rw [lok, Bool.and_eq_true, decide_eq_true_eq, decide_eq_true_eq, e] at g
  exact g
end
theorem lCh {x : En} {E : Amd} {D : va_G} {ca : Nat → ClassId} {h : Nat → Nat} {nl : Nat} {own : String} {cc : ByteArray} {nL fr lo : Nat} {M : Mem} {pc : Nat} {V : List (Option Value)} {rest : List Value} {b : Nat} (hb : b < 3) (j n : Nat) (hj : j < 17) (hc : ∀ row, hallC ca h (HB b) j row = .inl (ca 0, n, .inl row)) (K : Kx x E D (tysOf ca) h (LaC ca h nl) own cc nL fr lo) {i : Int32} (hin : ib i n = true) (hd : decode cc pc = .ok (.iaload, 1)) (kk : Go x D (tysOf ca) h (LaC ca h nl) nL M (pc + 1) V (.int (M (HB b + j) (ix i)) :: rest)) : Go x D (tysOf ca) h (LaC ca h nl) nL M (pc) V (.int i :: .ref (h (HB b + j)) :: rest) := o_intld K 0 (ltC (ltB hb hj)) ((c_hall hb j hj _).trans (hc _)) rfl hin hd kk
theorem sCh {x : En} {E : Amd} {D : va_G} {ca : Nat → ClassId} {h : Nat → Nat} {nl : Nat} {own : String} {cc : ByteArray} {nL fr lo : Nat} {M : Mem} {pc : Nat} {V : List (Option Value)} {rest : List Value} {b : Nat} (hb : b < 3) (j n : Nat) (hj : j < 17) (hc : ∀ row, hallC ca h (HB b) j row = .inl (ca 0, n, .inl row)) (K : Kx x E D (tysOf ca) h (LaC ca h nl) own cc nL fr lo) {i v : Int32} (hin : ib i n = true) (hd : decode cc pc = .ok (.iastore, 1)) (kk : Go x D (tysOf ca) h (LaC ca h nl) nL (sto M (HB b + j) (ix i) v) (pc + 1) V (rest)) : Go x D (tysOf ca) h (LaC ca h nl) nL M (pc) V (.int v :: .int i :: .ref (h (HB b + j)) :: rest) := o_intst K 0 (upd (M (HB b + j)) (ix i) v) (ltC (ltB hb hj)) ((c_hall hb j hj _).trans (hc _)) rfl ((c_hall hb j hj _).trans (hc _)) hin hd kk
theorem lCk {x : En} {E : Amd} {D : va_G} {ca : Nat → ClassId} {h : Nat → Nat} {nl : Nat} {own : String} {cc : ByteArray} {nL fr lo : Nat} {M : Mem} {pc : Nat} {V : List (Option Value)} {rest : List Value} (k n : Nat) (hk : k < 82) (hc : ∀ row, celC ca h k row = .inl (ca 0, n, .inl row)) (K : Kx x E D (tysOf ca) h (LaC ca h nl) own cc nL fr lo) {i : Int32} (hin : ib i n = true) (hd : decode cc pc = .ok (.iaload, 1)) (kk : Go x D (tysOf ca) h (LaC ca h nl) nL M (pc + 1) V (.int (M k (ix i)) :: rest)) : Go x D (tysOf ca) h (LaC ca h nl) nL M (pc) V (.int i :: .ref (h k) :: rest) := o_intld K 0 (ltC hk) (hc _) rfl hin hd kk
theorem sCk {x : En} {E : Amd} {D : va_G} {ca : Nat → ClassId} {h : Nat → Nat} {nl : Nat} {own : String} {cc : ByteArray} {nL fr lo : Nat} {M : Mem} {pc : Nat} {V : List (Option Value)} {rest : List Value} (k n : Nat) (hk : k < 82) (hc : ∀ row, celC ca h k row = .inl (ca 0, n, .inl row)) (K : Kx x E D (tysOf ca) h (LaC ca h nl) own cc nL fr lo) {i v : Int32} (hin : ib i n = true) (hd : decode cc pc = .ok (.iastore, 1)) (kk : Go x D (tysOf ca) h (LaC ca h nl) nL (sto M k (ix i) v) (pc + 1) V (rest)) : Go x D (tysOf ca) h (LaC ca h nl) nL M (pc) V (.int v :: .int i :: .ref (h k) :: rest) := o_intst K 0 (upd (M k) (ix i) v) (ltC hk) (hc _) rfl (hc _) hin hd kk
theorem nCk {x : En} {E : Amd} {D : va_G} {ca : Nat → ClassId} {h : Nat → Nat} {nl : Nat} {own : String} {cc : ByteArray} {nL fr lo : Nat} {M : Mem} {pc : Nat} {V : List (Option Value)} {rest : List Value} (k n : Nat) (hk : k < 82) (hc : ∀ row, celC ca h k row = .inl (ca 0, n, .inl row)) (K : Kx x E D (tysOf ca) h (LaC ca h nl) own cc nL fr lo) (hd : decode cc pc = .ok (.arraylength, 1)) (kk : Go x D (tysOf ca) h (LaC ca h nl) nL M (pc + 1) V (.int (Int32.ofNat n) :: rest)) : Go x D (tysOf ca) h (LaC ca h nl) nL M (pc) V (.ref (h k) :: rest) := o_alen K (y := (n, .inl (M k))) 0 (Int32.ofNat n) (ltC hk) (hc _) rfl rfl hd kk
theorem nCh {x : En} {E : Amd} {D : va_G} {ca : Nat → ClassId} {h : Nat → Nat} {nl : Nat} {own : String} {cc : ByteArray} {nL fr lo : Nat} {M : Mem} {pc : Nat} {V : List (Option Value)} {rest : List Value} {b : Nat} (hb : b < 3) (j n : Nat) (hj : j < 17) (hc : ∀ row, hallC ca h (HB b) j row = .inl (ca 0, n, .inl row)) (K : Kx x E D (tysOf ca) h (LaC ca h nl) own cc nL fr lo) (hd : decode cc pc = .ok (.arraylength, 1)) (kk : Go x D (tysOf ca) h (LaC ca h nl) nL M (pc + 1) V (.int (Int32.ofNat n) :: rest)) : Go x D (tysOf ca) h (LaC ca h nl) nL M (pc) V (.ref (h (HB b + j)) :: rest) := o_alen K (y := (n, .inl (M (HB b + j)))) 0 (Int32.ofNat n) (ltC (ltB hb hj)) ((c_hall hb j hj _).trans (hc _)) rfl rfl hd kk
theorem sC_any {x : En} {E : Amd} {D : va_G} {ca : Nat → ClassId} {h : Nat → Nat} {nl : Nat} {own : String} {cc : ByteArray} {nL fr lo : Nat} {M : Mem} {pc : Nat} {V : List (Option Value)} {rest : List Value} (K : Kx x E D (tysOf ca) h (LaC ca h nl) own cc nL fr lo) {k n : Nat} {i v : Int32} (hk : k < 82 + 2 * nl) (hc : ∀ row, celC ca h k row = .inl (ca 0, n, .inl row)) (hin : ib i n = true) (hd : decode cc pc = .ok (.iastore, 1)) (kk : Go x D (tysOf ca) h (LaC ca h nl) nL (sto M k (ix i) v) (pc + 1) V (rest)) : Go x D (tysOf ca) h (LaC ca h nl) nL M (pc) V (.int v :: .int i :: .ref (h k) :: rest) := o_intst K 0 (upd (M k) (ix i) v) hk (hc _) rfl (hc _) hin hd kk
theorem lCb {x : En} {E : Amd} {D : va_G} {ca : Nat → ClassId} {h : Nat → Nat} {nl : Nat} {own : String} {cc : ByteArray} {nL fr lo : Nat} {M : Mem} {pc : Nat} {V : List (Option Value)} {rest : List Value} (K : Kx x E D (tysOf ca) h (LaC ca h nl) own cc nL fr lo) {i : Int32} (hin : ib i 96 = true) (hd : decode cc pc = .ok (.baload, 1)) (kk : Go x D (tysOf ca) h (LaC ca h nl) nL M (pc + 1) V (.int (M 53 (ix i)) :: rest)) : Go x D (tysOf ca) h (LaC ca h nl) nL M (pc) V (.int i :: .ref (h 53) :: rest) := o_byteld K 1 (ltC (show 53 < 82 by decide)) rfl rfl hin hd kk
theorem sCb {x : En} {E : Amd} {D : va_G} {ca : Nat → ClassId} {h : Nat → Nat} {nl : Nat} {own : String} {cc : ByteArray} {nL fr lo : Nat} {M : Mem} {pc : Nat} {V : List (Option Value)} {rest : List Value} (K : Kx x E D (tysOf ca) h (LaC ca h nl) own cc nL fr lo) {i v : Int32} (hin : ib i 96 = true) (hd : decode cc pc = .ok (.bastore, 1)) (kk : Go x D (tysOf ca) h (LaC ca h nl) nL (sto M 53 (ix i) (vp_nar .byte v)) (pc + 1) V (rest)) : Go x D (tysOf ca) h (LaC ca h nl) nL M (pc) V (.int v :: .int i :: .ref (h 53) :: rest) := o_bytest K 1 (upd (M 53) (ix i) (vp_nar .byte v)) (ltC (show 53 < 82 by decide)) rfl rfl rfl hin hd kk
theorem lCs {x : En} {E : Amd} {D : va_G} {ca : Nat → ClassId} {h : Nat → Nat} {nl : Nat} {own : String} {cc : ByteArray} {nL fr lo : Nat} {M : Mem} {pc : Nat} {V : List (Option Value)} {rest : List Value} {s : Nat} (hs : ShOK ca h s) (K : Kx x E D (tysOf ca) h (LaC ca h nl) own cc nL fr lo) {i : Int32} (hin : ib i 24 = true) (hd : decode cc pc = .ok (.iaload, 1)) (kk : Go x D (tysOf ca) h (LaC ca h nl) nL M (pc + 1) V (.int (M (s + 1) (ix i)) :: rest)) : Go x D (tysOf ca) h (LaC ca h nl) nL M (pc) V (.int i :: .ref (h (s + 1)) :: rest) := o_intld K 0 (ltC hs.1) (hs.2.2 _) rfl hin hd kk
theorem sCs {x : En} {E : Amd} {D : va_G} {ca : Nat → ClassId} {h : Nat → Nat} {nl : Nat} {own : String} {cc : ByteArray} {nL fr lo : Nat} {M : Mem} {pc : Nat} {V : List (Option Value)} {rest : List Value} {s : Nat} (hs : ShOK ca h s) (K : Kx x E D (tysOf ca) h (LaC ca h nl) own cc nL fr lo) {i v : Int32} (hin : ib i 24 = true) (hd : decode cc pc = .ok (.iastore, 1)) (kk : Go x D (tysOf ca) h (LaC ca h nl) nL (sto M (s + 1) (ix i) v) (pc + 1) V (rest)) : Go x D (tysOf ca) h (LaC ca h nl) nL M (pc) V (.int v :: .int i :: .ref (h (s + 1)) :: rest) := o_intst K 0 (upd (M (s + 1)) (ix i) v) (ltC hs.1) (hs.2.2 _) rfl (hs.2.2 _) hin hd kk
theorem lCc {x : En} {E : Amd} {D : va_G} {ca : Nat → ClassId} {h : Nat → Nat} {nl : Nat} {own : String} {cc : ByteArray} {nL fr lo : Nat} {M : Mem} {pc : Nat} {V : List (Option Value)} {rest : List Value} {c : Nat} (hc : 1 ≤ c ∧ c ≤ nl) (K : Kx x E D (tysOf ca) h (LaC ca h nl) own cc nL fr lo) {i : Int32} (hin : ib i (ix (M (81 + 2 * c) 1000)) = true) (hd : decode cc pc = .ok (.iaload, 1)) (kk : Go x D (tysOf ca) h (LaC ca h nl) nL M (pc + 1) V (.int (M (81 + 2 * c) (ix i)) :: rest)) : Go x D (tysOf ca) h (LaC ca h nl) nL M (pc) V (.int i :: .ref (h (81 + 2 * c)) :: rest) := o_intld K 0 (show 81 + 2 * c < 82 + 2 * nl by omega) (cCode hc _) rfl hin hd kk
theorem nCc {x : En} {E : Amd} {D : va_G} {ca : Nat → ClassId} {h : Nat → Nat} {nl : Nat} {own : String} {cc : ByteArray} {nL fr lo : Nat} {M : Mem} {pc : Nat} {V : List (Option Value)} {rest : List Value} {c : Nat} (hc : 1 ≤ c ∧ c ≤ nl) (K : Kx x E D (tysOf ca) h (LaC ca h nl) own cc nL fr lo) (hd : decode cc pc = .ok (.arraylength, 1)) (kk : Go x D (tysOf ca) h (LaC ca h nl) nL M (pc + 1) V (.int (Int32.ofNat (ix (M (81 + 2 * c) 1000))) :: rest)) : Go x D (tysOf ca) h (LaC ca h nl) nL M (pc) V (.ref (h (81 + 2 * c)) :: rest) := o_alen K (y := (ix (M (81 + 2 * c) 1000), .inl (M (81 + 2 * c)))) 0 _ (show 81 + 2 * c < 82 + 2 * nl by omega) (cCode hc _) rfl rfl hd kk
theorem aSheets {x : En} {E : Amd} {D : va_G} {ca : Nat → ClassId} {h : Nat → Nat} {nl : Nat} {own : String} {cc : ByteArray} {nL fr lo : Nat} {M : Mem} {pc : Nat} {V : List (Option Value)} {rest : List Value} (K : Kx x E D (tysOf ca) h (LaC ca h nl) own cc nL fr lo) {i : Int32} {s : Nat} (hin : ib i 4 = true) (e : 57 + 2 * ix i = s) (hd : decode cc pc = .ok (.aaload, 1)) (kk : Go x D (tysOf ca) h (LaC ca h nl) nL M (pc + 1) V (.ref (h s) :: rest)) : Go x D (tysOf ca) h (LaC ca h nl) nL M (pc) V (.int i :: .ref (h 56) :: rest) := by
  subst e
  exact o_aald K (f := fun i => some (h (57 + 2 * i))) 5 (ltC (show 56 < 82 by decide)) rfl rfl hin hd kk
theorem aSlots {x : En} {E : Amd} {D : va_G} {ca : Nat → ClassId} {h : Nat → Nat} {nl : Nat} {own : String} {cc : ByteArray} {nL fr lo : Nat} {M : Mem} {pc : Nat} {V : List (Option Value)} {rest : List Value} (K : Kx x E D (tysOf ca) h (LaC ca h nl) own cc nL fr lo) {i : Int32} {s : Nat} (hin : ib i 5 = true) (e : ix i = s) (hd : decode cc pc = .ok (.aaload, 1)) (kk : Go x D (tysOf ca) h (LaC ca h nl) nL M (pc + 1) V (.ref (h (66 + 3 * s)) :: rest)) : Go x D (tysOf ca) h (LaC ca h nl) nL M (pc) V (.int i :: .ref (h 65) :: rest) := by
  subst e
  exact o_aald K (f := fun i => some (h (66 + 3 * i))) 6 (ltC (show 65 < 82 by decide)) rfl rfl hin hd kk
theorem aLaws {x : En} {E : Amd} {D : va_G} {ca : Nat → ClassId} {h : Nat → Nat} {nl : Nat} {own : String} {cc : ByteArray} {nL fr lo : Nat} {M : Mem} {pc : Nat} {V : List (Option Value)} {rest : List Value} {b : Nat} (hb : b < 3) (K : Kx x E D (tysOf ca) h (LaC ca h nl) own cc nL fr lo) {i v : Int32} (hin : ib i 14 = true) (e : M (HB b + 8) (ix i) = v) (hd : decode cc pc = .ok (.aaload, 1)) (kk : Go x D (tysOf ca) h (LaC ca h nl) nL M (pc + 1) V (va_rf (lawAd h v) :: rest)) : Go x D (tysOf ca) h (LaC ca h nl) nL M (pc) V (.int i :: .ref (h (HB b + 8)) :: rest) := by
  subst e
  exact o_aald K (f := fun i => lawAd h (M (HB b + 8) i)) 4 (ltC (ltB hb (show 8 < 17 by decide))) (c_hall hb 8 (by decide) _) rfl hin hd kk
theorem o_unull {x : En} {D : va_G} {ca : Nat → ClassId} {h : Nat → Nat} {nl nL : Nat} {M : Mem} {pc : Nat} {V : List (Option Value)} {rest : List Value} {v : Int32} (e : v = 0) (kk : Go x D (tysOf ca) h (LaC ca h nl) nL M (pc) V (.null :: rest)) : Go x D (tysOf ca) h (LaC ca h nl) nL M (pc) V (va_rf (lawAd h v) :: rest) := by
  rw [lawAd, if_pos e]
  exact kk
theorem o_uref {x : En} {D : va_G} {ca : Nat → ClassId} {h : Nat → Nat} {nl nL : Nat} {M : Mem} {pc : Nat} {V : List (Option Value)} {rest : List Value} {v : Int32} {c : Nat} (e : ¬ v = 0) (ec : ix v = c) (kk : Go x D (tysOf ca) h (LaC ca h nl) nL M (pc) V (.ref (h (80 + 2 * c)) :: rest)) : Go x D (tysOf ca) h (LaC ca h nl) nL M (pc) V (va_rf (lawAd h v) :: rest) := by
  rw [lawAd, if_neg e, ec]
  exact kk
theorem law_up {h : Nat → Nat} {f : Nat → Int32} {k : Nat} {v : Int32} : (fun i => lawAd h (upd f k v i)) = va_up (fun i => lawAd h (f i)) k (lawAd h v) := by
  funext i
  show lawAd h (if i = k then v else f i) = if i = k then lawAd h v else lawAd h (f i)
  split <;> rfl
theorem sLawsN {x : En} {E : Amd} {D : va_G} {ca : Nat → ClassId} {h : Nat → Nat} {nl : Nat} {own : String} {cc : ByteArray} {nL fr lo : Nat} {M : Mem} {pc : Nat} {V : List (Option Value)} {rest : List Value} {b : Nat} (hb : b < 3) (K : Kx x E D (tysOf ca) h (LaC ca h nl) own cc nL fr lo) {i : Int32} (hin : ib i 14 = true) (hd : decode cc pc = .ok (.aastore, 1)) (kk : Go x D (tysOf ca) h (LaC ca h nl) nL (sto M (HB b + 8) (ix i) 0) (pc + 1) V (rest)) : Go x D (tysOf ca) h (LaC ca h nl) nL M (pc) V (.null :: .int i :: .ref (h (HB b + 8)) :: rest) :=
  o_aastN K (f := fun i => lawAd h (M (HB b + 8) i)) 4 (upd (M (HB b + 8)) (ix i) 0) (ltC (ltB hb (show 8 < 17 by decide))) (c_hall hb 8 (by decide) _) rfl ((c_hall hb 8 (by decide) _).trans (by show Sum.inl (ca 4, 14, Sum.inr (Sum.inr (Sum.inr (Sum.inr (fun j => lawAd h (upd (M (HB b + 8)) (ix i) 0 j)))))) = _; rw [law_up]; rfl)) hin hd kk
theorem sLawsX {x : En} {E : Amd} {D : va_G} {ca : Nat → ClassId} {h : Nat → Nat} {nl : Nat} {own : String} {cc : ByteArray} {nL fr lo : Nat} {M : Mem} {pc : Nat} {V : List (Option Value)} {rest : List Value} {b : Nat} (hb : b < 3) {c : Nat} {v : Int32} (hc : 1 ≤ c ∧ c ≤ nl) (e : ¬ v = 0) (ec : ix v = c) (K : Kx x E D (tysOf ca) h (LaC ca h nl) own cc nL fr lo) {i : Int32} (hin : ib i 14 = true) (hd : decode cc pc = .ok (.aastore, 1)) (kk : Go x D (tysOf ca) h (LaC ca h nl) nL (sto M (HB b + 8) (ix i) v) (pc + 1) V (rest)) : Go x D (tysOf ca) h (LaC ca h nl) nL M (pc) V (.ref (h (80 + 2 * c)) :: .int i :: .ref (h (HB b + 8)) :: rest) :=
  o_aastR K (f := fun i => lawAd h (M (HB b + 8) i)) 4 (upd (M (HB b + 8)) (ix i) v) (ltC (ltB hb (show 8 < 17 by decide))) (c_hall hb 8 (by decide) _) rfl (ltLaw hc) (obLaw_c hc _) rfl ((c_hall hb 8 (by decide) _).trans (by show Sum.inl (ca 4, 14, Sum.inr (Sum.inr (Sum.inr (Sum.inr (fun j => lawAd h (upd (M (HB b + 8)) (ix i) v j)))))) = _; rw [law_up]; simp only [lawAd, if_neg e, ec])) hin hd kk
theorem ofN_ne {nl c : Nat} (hc : 1 ≤ c ∧ c ≤ nl) (hnl : nl < 2147483648) : ¬ Int32.ofNat c = 0 ∧ ix (Int32.ofNat c) = c := ⟨nI_ne0 (by omega) (by omega), nI_clamp (by omega)⟩
theorem sLaws {x : En} {E : Amd} {D : va_G} {ca : Nat → ClassId} {h : Nat → Nat} {nl : Nat} {own : String} {cc : ByteArray} {nL fr lo : Nat} {M : Mem} {pc : Nat} {V : List (Option Value)} {rest : List Value} {b : Nat} (hb : b < 3) {c : Nat} (hc : 1 ≤ c ∧ c ≤ nl) (hnl : nl < 2147483648) (K : Kx x E D (tysOf ca) h (LaC ca h nl) own cc nL fr lo) {i : Int32} (hin : ib i 14 = true) (hd : decode cc pc = .ok (.aastore, 1)) (kk : Go x D (tysOf ca) h (LaC ca h nl) nL (sto M (HB b + 8) (ix i) (Int32.ofNat c)) (pc + 1) V (rest)) : Go x D (tysOf ca) h (LaC ca h nl) nL M (pc) V (.ref (h (80 + 2 * c)) :: .int i :: .ref (h (HB b + 8)) :: rest) := sLawsX hb hc (ofN_ne hc hnl).1 (ofN_ne hc hnl).2 K hin hd kk
theorem e_aret {x : En} {E : Amd} {D : va_G} {ca : Nat → ClassId} {h : Nat → Nat} {nl : Nat} {own : String} {cc : ByteArray} {nL fr lo : Nat} {M : Mem} {pc : Nat} {V : List (Option Value)} (K : Kx x E D (tysOf ca) h (LaC ca h nl) own cc nL fr lo) {M2 : Mem} (hf : some M = some M2) (hR : Rt x D h (LaC ca h nl) (some (.object "OneDraught$Hall")) (some (.ref (h (HB 2)))) M2) (hd : decode cc pc = .ok (.areturn, 1)) : Go x D (tysOf ca) h (LaC ca h nl) nL M (pc) V ([.ref (h (HB 2))]) := by
  cases hf
  exact o_aret K (Or.inl ⟨_, rfl⟩) (Or.inr ⟨_, rfl⟩) hR hd
theorem l_nret {x : En} {E : Amd} {D : va_G} {ca : Nat → ClassId} {h : Nat → Nat} {nl : Nat} {own : String} {cc : ByteArray} {nL fr lo : Nat} {M : Mem} {pc : Nat} {V : List (Option Value)} (K : Kx x E D (tysOf ca) h (LaC ca h nl) own cc nL fr lo) {r : Int32} (hf : some (0 : Int32) = some r) (hR : Rt x D h (LaC ca h nl) (some (.object "OneDraught$Law")) (some (va_rf (lawAd h r))) M) (hd : decode cc pc = .ok (.areturn, 1)) : Go x D (tysOf ca) h (LaC ca h nl) nL M (pc) V ([.null]) := by
  cases hf
  exact o_aret K (Or.inl ⟨_, rfl⟩) (Or.inl rfl) hR hd
theorem l_aret {x : En} {E : Amd} {D : va_G} {ca : Nat → ClassId} {h : Nat → Nat} {nl : Nat} {own : String} {cc : ByteArray} {nL fr lo : Nat} {M : Mem} {pc : Nat} {V : List (Option Value)} (K : Kx x E D (tysOf ca) h (LaC ca h nl) own cc nL fr lo) {v r : Int32} {c : Nat} (hf : some v = some r) (hR : Rt x D h (LaC ca h nl) (some (.object "OneDraught$Law")) (some (va_rf (lawAd h r))) M) (e : ¬ v = 0) (ec : ix v = c) (hd : decode cc pc = .ok (.areturn, 1)) : Go x D (tysOf ca) h (LaC ca h nl) nL M (pc) V ([.ref (h (80 + 2 * c))]) := by
  cases hf
  rw [lawAd, if_neg e, ec] at hR
  exact o_aret K (Or.inl ⟨_, rfl⟩) (Or.inr ⟨_, rfl⟩) hR hd
theorem s_aret {x : En} {E : Amd} {D : va_G} {ca : Nat → ClassId} {h : Nat → Nat} {nl : Nat} {own : String} {cc : ByteArray} {nL fr lo : Nat} {M : Mem} {pc : Nat} {V : List (Option Value)} (K : Kx x E D (tysOf ca) h (LaC ca h nl) own cc nL fr lo) {v r : Nat} (hf : some v = some r) (hR : Rt x D h (LaC ca h nl) (some (.object "java/lang/String")) (some (.ref (E.1 r))) M) (hd : decode cc pc = .ok (.areturn, 1)) : Go x D (tysOf ca) h (LaC ca h nl) nL M (pc) V ([.ref (E.1 v)]) := by
  cases hf
  exact o_aret K (Or.inl ⟨_, rfl⟩) (Or.inr ⟨_, rfl⟩) hR hd
