/-! slots change -/
theorem rel_sl {nl : Nat} {C C2 N N2 : Mem} (h : Rel nl C N) (hC : ∀ k, (k < 66 ∨ 81 ≤ k) → C2 k = C k) (hN : ∀ k, k ≠ 20 → k ≠ 21 → k ≠ 22 → k ≠ 23 → N2 k = N k) (hs : SlotRel C2 N2) : Rel nl C2 N2 := by
  obtain ⟨g1, g2, g3, g4, ⟨⟨i1, i2⟩, o2, ⟨t1, t2, t3⟩, o4, o5, ⟨w1, w2, w3⟩, ⟨k1, k2⟩⟩⟩ := h
  have e0 := hN 0 (by decide) (by decide) (by decide) (by decide)
  have c0 := hC 0 (by decide)
  have e1 := hN 1 (by decide) (by decide) (by decide) (by decide)
  refine ⟨by rw [e1]; exact g1.out (fun j hj => hC _ (by unfold HB; omega)) (fun k hk => hC k (by omega)), by rw [e1]; exact g2, fun i hi => by rw [hC _ (by decide)]; exact g3 i hi, fun i hi => by rw [hC _ (by decide)]; exact g4 i hi, ⟨by rw [c0, e0]; exact i1, ?_⟩, fun i hi => by rw [hC _ (by decide)]; exact o2 i hi, ⟨by rw [e0]; exact t1, by rw [hC 54 (by decide), e0]; exact t2, fun k hk => ?_⟩, fun i hi => ?_, hs, ⟨by rw [e0]; exact w1, by rw [c0, e0]; exact w2, fun k hk => ?_⟩, ⟨fun k hk => by rw [hN 10 (by decide) (by decide) (by decide) (by decide)]; exact k1 k hk, by rw [hN 11 (by decide) (by decide) (by decide) (by decide)]; exact k2⟩⟩
  · rw [e0, hN 2 (by decide) (by decide) (by decide) (by decide)]
    rcases i2 with q | ⟨q, q1, q2⟩
    · exact Or.inl q
    · exact Or.inr ⟨q, q1.out (fun j hj => hC _ (by unfold HB; omega)) (fun k hk => hC k (by omega)), q2⟩
  · rw [e0] at hk
    rw [hN 9 (by decide) (by decide) (by decide) (by decide), hC 53 (by decide)]; exact t3 k hk
  · rw [hC _ (by omega), hN 17 (by decide) (by decide) (by decide) (by decide), hN 18 (by decide) (by decide) (by decide) (by decide), hN 19 (by decide) (by decide) (by decide) (by decide), hC (58 + 2 * i) (by omega)]
    exact o4 i hi
  · rw [e0] at hk
    rw [hN 25 (by decide) (by decide) (by decide) (by decide), hC 81 (by decide)]; exact w3 k hk
