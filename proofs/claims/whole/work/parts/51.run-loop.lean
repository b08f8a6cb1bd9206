/-! THE RUN OF A TEXT, command by command, on both sides. -/
theorem Cmd_c {t m : Mem} {p q : Nat} (h : Cmd t m) : Cmd (cu t p) (cm m q) := by
  unfold Cmd at *
  rw [cu_o (by decide), cu_o (by decide), cu_o (by decide), cm_o (by decide), cm_o (by decide), cm_o (by decide)]
  exact h
theorem run_end {L : Nat} {f : Nat → Nat} (hC : TxC L f) {m t u hh : Mem} {S : Nat → Mem} {s : Nat → Int32} {x n n' : Nat} (hT : Tx L f m t) (hx : x < 80) : ∃ (t' m' : Mem) (q : Nat), pX4_runText_41 (n + 1) (nI x) (cu t L) u hh S = some (nI x, (cu t' q, u, hh, S)) ∧ pX5_runText_32 (n' + 1) (nI x) (mp (cm m L) s) = some (nI x, mp (cm m' q) s) ∧ Kt t t' ∧ Km m m' := by
  obtain ⟨ok, okm, q, ⟨q0, q1⟩, q2, q3, q4⟩ := rc_r hC (Nat.le_refl L)
  have hok : ok = false := by
    cases ok
    · rfl
    · have := (q3 rfl).2; omega
  subst hok
  have hokm : okm = false := by
    rcases q4 rfl with e | e
    · exact e
    · rw [show sg L f q = 0 by unfold sg; rw [if_neg (by omega)]] at e; omega
  subst hokm
  obtain ⟨t', m', e1, e2, e3, e4, -⟩ := q2 m t s hT
  refine ⟨t', m', q, ?_, ?_, e3, e4⟩
  · show pX4_runText_41b _ (nI x) (cu t L) u hh S = _
    unfold pX4_runText_41b pX4_runText_80
    rw [if_neg (ge80 hx), e1, bd2_some, if_pos (show b2 false = 0 from rfl)]
  · show pX5_runText_32b _ (nI x) (mp (cm m L) s) = _
    unfold pX5_runText_32b pX5_runText_63
    rw [e2, bd2_some, if_pos (show b2 false = 0 from rfl)]
theorem run_p {L : Nat} {f : Nat → Nat} (hC : TxC L f) {hh : Mem} {S : Nat → Mem} : ∀ (n p x nf nf' N : Nat) (u m t : Mem) (s : Nat → Int32), Val L f n p → Tx L f m t → Rel s u → Inv N u → N + n < 2 ^ 30 → n < nf → n < nf' → 2 * x ≤ p → p ≤ L →
    ∃ (r : Int32) (t' u' m' : Mem) (s' : Nat → Int32) (q : Nat), pX4_runText_41 nf (nI x) (cu t p) u hh S = some (r, (cu t' q, u', hh, S)) ∧ pX5_runText_32 nf' (nI x) (mp (cm m p) s) = some (r, mp (cm m' q) s') ∧ Kt t t' ∧ Km m m' ∧ Rel s' u' ∧ Inv (N + n) u' ∧ Same s s' := by
  intro n
  induction n with
  | zero => intro p x nf nf' N u m t s hv; exact hv.elim
  | succ n ih =>
    intro p x nf nf' N u m t s hv hT h hI hN hf hf' hx hp
    obtain ⟨a, rfl⟩ : ∃ p, nf = p + 1 := ⟨nf - 1, by omega⟩
    obtain ⟨a', rfl⟩ : ∃ p, nf' = p + 1 := ⟨nf' - 1, by omega⟩
    have h80 := hC.1
    obtain ⟨q, hpq, hq, hval, hnext⟩ := hv
    obtain ⟨t', m', e1, e2, e3, e4, e5⟩ := hval m t s hT
    have hT2 : Tx L f m' t' := hT.k e3 e4
    obtain ⟨g, u', s', k1, k2, k3, k4, k5, k6, k7⟩ := ex_r (m := cm m' q) (t := cu t' q) (hh := hh) (S := S) (Cmd_c e5) h hI (by omega)
    have b1 : pX4_runText_41 (a + 1) (nI x) (cu t p) u hh S = if b2 g = 0 then some (nI x, (cu t' q, u', hh, S)) else bd2 (pX3_takeSign (cu t' q) 59) fun y111 t112 => pX4_runText_41 a (nI (x + 1)) t112 u' hh S := by
      show pX4_runText_41b _ (nI x) (cu t p) u hh S = _
      unfold pX4_runText_41b pX4_runText_80
      rw [if_neg (ge80 (by omega)), e1, bd2_some, if_neg one0, k1, nI_1]
      rfl
    have b2' : pX5_runText_32 (a' + 1) (nI x) (mp (cm m p) s) = if b2 g = 0 then some (nI x, mp (cm m' q) s) else (pX5_does (mp (cm m' q) s)).bind fun u206 => bd2 (pX5_takes u206 59) fun y207 u208 => pX5_runText_32 a' (nI (x + 1)) u208 := by
      show pX5_runText_32b _ (nI x) (mp (cm m p) s) = _
      unfold pX5_runText_32b pX5_runText_63
      rw [e2, bd2_some, if_neg one0, k2, ob_some, nI_1]
    cases g
    · refine ⟨nI x, t', u', m', s, q, by rw [b1, if_pos (show b2 false = 0 from rfl)], by rw [b2', if_pos (show b2 false = 0 from rfl)], e3, e4, by rw [← k4 rfl]; exact k5, k6.mono (by omega), Same.rf s⟩
    · rw [b1, b2', if_neg (show ¬ b2 true = 0 by decide), if_neg (show ¬ b2 true = 0 by decide), k3 rfl, ob_some, show pX3_takeSign (cu t' q) 59 = _ from take_u (x := 59) hC hT2 hq (by decide), show pX5_takes (mp (cm m' q) s') 59 = _ from take_m (x := 59) hC hT2 hq (by decide)]
      rcases hnext with rfl | ⟨c, hv2⟩
      · have c : ¬ sg q f q = 59 := by unfold sg; rw [if_neg (by omega)]; decide
        rw [if_neg c, if_neg c, bd2_some, bd2_some]
        obtain ⟨a0, rfl⟩ : ∃ p, a = p + 1 := ⟨a - 1, by omega⟩
        obtain ⟨a0', rfl⟩ : ∃ p, a' = p + 1 := ⟨a' - 1, by omega⟩
        obtain ⟨t2, m2, q2, w1, w2, w3, w4⟩ := run_end (n := a0) (n' := a0') (u := u') (hh := hh) (S := S) (s := s') hC hT2 (x := x + 1) (by omega)
        exact ⟨_, t2, u', m2, s', q2, w1, w2, e3.tr w3, e4.tr w4, k5, k6.mono (by omega), k7⟩
      · have hqL : q < L := sgp (f := f) (by rw [c]; decide)
        rw [if_pos c, if_pos c, bd2_some, bd2_some]
        obtain ⟨r, t2, u2, m2, s2, q2, w1, w2, w3, w4, w5, w6, w7⟩ := ih (q + 1) (x + 1) a a' (N + 1) u' m' t' s' hv2 hT2 k5 k6 (by omega) (by omega) (by omega) (by omega) (by omega)
        exact ⟨r, t2, u2, m2, s2, q2, w1, w2, e3.tr w3, e4.tr w4, w5, w6.mono (by omega), k7.tr w7⟩
