section TLD3
variable {N : Nat} {lat : Nat → Int32} {u : Mem}
theorem holds_r (h : Core N lat u) (hN : N < 2 ^ 10) (hC : Cn N u) (t hh : Mem) (S : Nat → Mem) : pL_holds t u hh S lat = some 1 ∧ HoldOK u := by
  refine ⟨?_, ?_⟩
  · unfold pL_holds pL_holds_60
    have e1 := hold1 h 0 t hh S 12 0 FU 0 0 rfl (by decide)
    rw [Nat.zero_add, Nat.zero_add] at e1
    rw [show pL_holds_65 t u hh S lat 0 FU 0 0 1 0 = _ from e1]
    have e2 := hold2 h (nI (Us u)) (nI (Dt u)) 0 t hh S 16 0 FU rfl (by decide)
    rw [show pL_holds_247 t u hh S lat (nI (rc (us u) 0 12)) (nI (rc (dy u) 0 12)) 0 FU 1 0 = _ from e2]
    exact hold3 h (by omega) hC t hh S 64 0 FU 0 rfl (by decide) (by rw [Nat.zero_add, Ms_e])
  · obtain ⟨c, c1, c2, c3, c4⟩ := hC
    obtain ⟨L, c0, l1, l2, l3, l4, l5, l6⟩ := h.2.1
    have b0 := (c1 0 (by decide)).2
    have b5 := (c1 5 (by decide)).2
    have b7 := (c1 7 (by decide)).2
    have b8 := (c1 8 (by decide)).2
    refine ⟨?_, ?_, ?_, ?_⟩
    · rw [l5]; exact nn0 (by omega)
    · rw [l5]; exact nI_nlt (a := 100) (by omega) (by decide)
    · rw [(c1 0 (by decide)).1, (c1 5 (by decide)).1]; exact nI_nlt c2 (by omega)
    · rw [(c1 8 (by decide)).1, (c1 7 (by decide)).1]
      unfold FRv
      by_cases z : c 7 = 0
      · rw [if_pos ((nI0 (by omega)).mpr z)]
        refine ⟨by decide +kernel, ?_, ?_⟩
        · decide +kernel
        · decide +kernel
      · rw [if_neg (fun q => z ((nI0 (by omega)).mp q))]
        exact quo_ok (a := c 8) (b := c 7) (by omega) (by omega) (by omega) c3
end TLD3
