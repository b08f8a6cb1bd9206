/-! A TEXT RUN, on both sides. -/
/-- the text is valid from p on -/
def Val (L : Nat) (f : Nat → Nat) : Nat → Nat → Prop
  | 0, _ => False
  | n + 1, p => ∃ q, p < q ∧ q ≤ L ∧ (∀ (m t : Mem) (s : Nat → Int32), Tx L f m t → ∃ t' m', pX3_takeCommand (cu t p) = some (1, cu t' q) ∧ pX5_readsCommand (mp (cm m p) s) = some (1, mp (cm m' q) s) ∧ Kt t t' ∧ Km m m' ∧ Cmd t' m') ∧ (q = L ∨ (sg L f q = 59 ∧ Val L f n (q + 1)))
theorem Kt.tr {a b c : Mem} (h : Kt a b) (h2 : Kt b c) : Kt a c := ⟨h2.1.trans h.1, h2.2.trans h.2⟩
theorem Km.tr {a b c : Mem} (h : Km a b) (h2 : Km b c) : Km a c := ⟨h2.1.trans h.1, h2.2.1.trans h.2.1, h2.2.2.1.trans h.2.2.1, h2.2.2.2.trans h.2.2.2⟩
theorem fe_p {L : Nat} {f : Nat → Nat} (hC : TxC L f) : ∀ (d p x n n' : Nat), L ≤ p + d → p ≤ L → d < n → d < n' → 2 * x ≤ p → ∃ (r : Int32) (g : Bool) (q : Nat), q ≤ L ∧ (∀ (m t : Mem) (s : Nat → Int32), Tx L f m t → ∃ t' m', pX3_firstError_6 n (nI x) (cu t p) = some (r, cu t' q) ∧ pX5_isValid_5 n' (mp (cm m p) s) = some (b2 g, mp (cm m' q) s) ∧ Kt t t' ∧ Km m m') ∧ ((g = true ∧ r = -1 ∧ Val L f (d + 1) p) ∨ (g = false ∧ r = nI q)) := by
  intro d
  induction d with
  | zero =>
    intro p x n n' hL hp hn hn' hx
    obtain ⟨a, rfl⟩ : ∃ p, n = p + 1 := ⟨n - 1, by omega⟩
    obtain ⟨a', rfl⟩ : ∃ p, n' = p + 1 := ⟨n' - 1, by omega⟩
    have h80 := hC.1
    obtain ⟨ok, okm, q, ⟨q0, q1⟩, q2, q3, q4⟩ := rc_r hC hp
    have hq : q = L := by omega
    have hok : ok = false := by
      cases ok
      · rfl
      · have := (q3 rfl).2; omega
    subst hok
    have hokm : okm = false := by
      rcases q4 rfl with e | e
      · exact e
      · rw [show sg L f q = 0 by unfold sg; rw [if_neg (by omega)]] at e; omega
    subst hokm
    refine ⟨nI q, false, q, q1, fun m t s hT => ?_, Or.inr ⟨rfl, rfl⟩⟩
    obtain ⟨t', m', e1, e2, e3, e4, -⟩ := q2 m t s hT
    refine ⟨t', m', ?_, ?_, e3, e4⟩
    · show pX3_firstError_6b _ (nI x) (cu t p) = _
      unfold pX3_firstError_6b
      rw [if_neg (ge80 (by omega)), e1, bd2_some, if_pos (show b2 false = 0 from rfl), cu_1]
    · show pX5_isValid_5b _ (mp (cm m p) s) = _
      unfold pX5_isValid_5b
      rw [e2, bd2_some, if_pos (show b2 false = 0 from rfl)]
      rfl
  | succ d ih =>
    intro p x n n' hL hp hn hn' hx
    obtain ⟨a, rfl⟩ : ∃ p, n = p + 1 := ⟨n - 1, by omega⟩
    obtain ⟨a', rfl⟩ : ∃ p, n' = p + 1 := ⟨n' - 1, by omega⟩
    have h80 := hC.1
    obtain ⟨ok, okm, q, ⟨q0, q1⟩, q2, q3, q4⟩ := rc_r hC hp
    cases ok
    · refine ⟨nI q, false, q, q1, fun m t s hT => ?_, Or.inr ⟨rfl, rfl⟩⟩
      obtain ⟨t', m', e1, e2, e3, e4, -⟩ := q2 m t s hT
      have hT2 : Tx L f m' t' := hT.k e3 e4
      refine ⟨t', m', ?_, ?_, e3, e4⟩
      · show pX3_firstError_6b _ (nI x) (cu t p) = _
        unfold pX3_firstError_6b
        rw [if_neg (ge80 (by omega)), e1, bd2_some, if_pos (show b2 false = 0 from rfl), cu_1]
      · show pX5_isValid_5b _ (mp (cm m p) s) = _
        unfold pX5_isValid_5b
        rw [e2, bd2_some]
        rcases q4 rfl with e | ⟨d1, d2⟩
        · rw [e, if_pos (show b2 false = 0 from rfl)]; rfl
        · have hqL : q < L := sgp (f := f) (by omega)
          cases okm
          · rw [if_pos (show b2 false = 0 from rfl)]; rfl
          · rw [if_neg (show ¬ b2 true = 0 by decide), mp_0, cm_3, cm_o (by decide), hT2.2.2.1, if_neg (fun e => by have := (nI_eq (by omega) (by omega)).mp e; omega), show pX5_takes (mp (cm m' q) s) 59 = _ from take_m (x := 59) hC hT2 q1 (by decide), if_neg (by omega), bd2_some, if_pos rfl]
            rfl
    · obtain ⟨rfl, hpq⟩ := q3 rfl
      have hval : ∀ (m t : Mem) (s : Nat → Int32), Tx L f m t → ∃ t' m', pX3_takeCommand (cu t p) = some (1, cu t' q) ∧ pX5_readsCommand (mp (cm m p) s) = some (1, mp (cm m' q) s) ∧ Kt t t' ∧ Km m m' ∧ Cmd t' m' := fun m t s hT => by
        obtain ⟨t', m', e1, e2, e3, e4, e5⟩ := q2 m t s hT
        exact ⟨t', m', e1, e2, e3, e4, e5 rfl⟩
      have b1 : ∀ (m t t' : Mem) (s : Nat → Int32), Tx L f m t' → pX3_takeCommand (cu t p) = some (1, cu t' q) → pX3_firstError_6 (a + 1) (nI x) (cu t p) = if q = L then some (-1, cu t' q) else if sg L f q = 59 then pX3_firstError_6 a (nI (x + 1)) (cu t' (q + 1)) else some (nI q, cu t' q) := by
        intro m t t' s hT e1
        show pX3_firstError_6b _ (nI x) (cu t p) = _
        unfold pX3_firstError_6b
        rw [if_neg (ge80 (by omega)), e1, bd2_some, if_neg one0, cu_1, cu_o (by decide), hT.2.1, show pX3_takeSign (cu t' q) 59 = _ from take_u (x := 59) hC hT q1 (by decide), nI_1]
        by_cases c : q = L
        · rw [if_pos (congrArg nI c), if_pos c]
        · rw [if_neg (fun e => c ((nI_eq (by omega) (by omega)).mp e)), if_neg c]
          by_cases c2 : sg L f q = 59
          · rw [if_pos c2, if_pos c2, bd2_some, if_neg one0]
          · rw [if_neg c2, if_neg c2, bd2_some, if_pos rfl, cu_1]
      have b2' : ∀ (m m' t : Mem) (s : Nat → Int32), Tx L f m' t → pX5_readsCommand (mp (cm m p) s) = some (1, mp (cm m' q) s) → pX5_isValid_5 (a' + 1) (mp (cm m p) s) = if q = L then some (1, mp (cm m' q) s) else if sg L f q = 59 then pX5_isValid_5 a' (mp (cm m' (q + 1)) s) else some (0, mp (cm m' q) s) := by
        intro m m' t s hT e1
        show pX5_isValid_5b _ (mp (cm m p) s) = _
        unfold pX5_isValid_5b
        rw [e1, bd2_some, if_neg one0, mp_0, cm_3, cm_o (by decide), hT.2.2.1, show pX5_takes (mp (cm m' q) s) 59 = _ from take_m (x := 59) hC hT q1 (by decide)]
        by_cases c : q = L
        · rw [if_pos (congrArg nI c), if_pos c]
        · rw [if_neg (fun e => c ((nI_eq (by omega) (by omega)).mp e)), if_neg c]
          by_cases c2 : sg L f q = 59
          · rw [if_pos c2, if_pos c2, bd2_some, if_neg one0]
          · rw [if_neg c2, if_neg c2, bd2_some, if_pos rfl]
      by_cases c : q = L
      · refine ⟨-1, true, q, q1, fun m t s hT => ?_, Or.inl ⟨rfl, rfl, q, hpq, q1, hval, Or.inl c⟩⟩
        obtain ⟨t', m', e1, e2, e3, e4, -⟩ := hval m t s hT
        have hT2 : Tx L f m' t' := hT.k e3 e4
        exact ⟨t', m', by rw [b1 m' t t' s hT2 e1, if_pos c], by rw [b2' m m' t' s hT2 e2, if_pos c]; rfl, e3, e4⟩
      · by_cases c2 : sg L f q = 59
        · have hqL : q < L := by omega
          obtain ⟨r, g, q', w1, w2, w3⟩ := ih (q + 1) (x + 1) a a' (by omega) (by omega) (by omega) (by omega) (by omega)
          refine ⟨r, g, q', w1, fun m t s hT => ?_, ?_⟩
          · obtain ⟨t', m', e1, e2, e3, e4, -⟩ := hval m t s hT
            have hT2 : Tx L f m' t' := hT.k e3 e4
            obtain ⟨t2, m2, k1, k2, k3, k4⟩ := w2 m' t' s hT2
            exact ⟨t2, m2, by rw [b1 m' t t' s hT2 e1, if_neg c, if_pos c2]; exact k1, by rw [b2' m m' t' s hT2 e2, if_neg c, if_pos c2]; exact k2, e3.tr k3, e4.tr k4⟩
          · rcases w3 with ⟨g1, g2, g3⟩ | g1
            · exact Or.inl ⟨g1, g2, q, hpq, q1, hval, Or.inr ⟨c2, g3⟩⟩
            · exact Or.inr g1
        · refine ⟨nI q, false, q, q1, fun m t s hT => ?_, Or.inr ⟨rfl, rfl⟩⟩
          obtain ⟨t', m', e1, e2, e3, e4, -⟩ := hval m t s hT
          have hT2 : Tx L f m' t' := hT.k e3 e4
          exact ⟨t', m', by rw [b1 m' t t' s hT2 e1, if_neg c, if_neg c2], by rw [b2' m m' t' s hT2 e2, if_neg c, if_neg c2]; rfl, e3, e4⟩
/-- a command done, on both sides -/
theorem ex_r {m t hh : Mem} {S : Nat → Mem} {N : Nat} {u : Mem} {s : Nat → Int32} (hc : Cmd t m) (h : Rel s u) (hI : Inv N u) (hN : N < 2 ^ 30) : ∃ (g : Bool) (u' : Mem) (s' : Nat → Int32), pX4_execute t u hh S = some (b2 g, (t, u', hh, S)) ∧ pX5_can (mp m s) = some (b2 g) ∧ (g = true → pX5_does (mp m s) = some (mp m s')) ∧ (g = false → s' = s) ∧ Rel s' u' ∧ Inv (N + 1) u' ∧ Same s s' := by
  have up : ∀ {P G : Option (Int32 × Mem)}, PrI N P G m s → PrI (N + 1) P G m s := by
    intro P G z
    obtain ⟨z1, z2, z3, z4, z5, z6, z7, z8⟩ := z
    exact ⟨z1, z2, z3, z4, z5, z6, z7.mono (Nat.le_succ N), z8⟩
  unfold pX4_execute pX4_execute_76 pX4_execute_109 pX4_execute_142 pX4_execute_185 pX4_execute_223 pX4_execute_227 pX4_execute_242 pX5_can pX5_can_63 pX5_can_83 pX5_does pX5_does_149 pX5_does_123 pX5_does_145
  simp only [mp_0, ldm0, ldm1, ob_some, h.1.1, h.1.2.1]
  have z0 : isz (0 : Int32) = true := rfl
  have z1 : isz (1 : Int32) = true := rfl
  have n01 : ¬ (0 : Int32) = 1 := by decide
  rcases hc with ⟨e1, e2, b, x, hb, hx, e3, e4, e5, e6⟩ | ⟨e1, e2, b, hb, e3, e4⟩ | ⟨e1, e2, b, hb, e3, e4⟩ | ⟨e1, e2, b, hb, e3, e4⟩ | ⟨e1, e2⟩ | ⟨e1, e2⟩
  · rw [e1, e2, e3, e4, e5, e6]
    rcases hI.1.2 with p | p
    · rw [p]
      refine ⟨false, u, s, rfl, rfl, fun h => (by cases h), fun _ => rfl, h, hI.mono (Nat.le_succ N), Same.rf s⟩
    · rw [p]
      obtain ⟨r, u', s', k1, k2, k3, k4, k5, k6⟩ := wr_r (m := m) h hI hN hb (nI x)
      refine ⟨true, u', s', ?_, rfl, fun _ => ?_, fun h => (by cases h), k3, k4, k5⟩
      · rw [if_pos rfl, if_neg one0, k1, bd2_some, k6, p, if_pos z1]; rfl
      · rw [if_neg (by decide), if_neg (by decide), if_neg (by decide), if_neg (by decide), if_pos rfl, k2, bd2_some]
  · rw [e1, e2, e3, e4]
    rcases hI.1.2 with p | p
    · rw [p]
      refine ⟨false, u, s, rfl, rfl, fun h => (by cases h), fun _ => rfl, h, hI.mono (Nat.le_succ N), Same.rf s⟩
    · rw [p]
      obtain ⟨r, u', s', k1, k2, k3, k4, k5, k6⟩ := rd_r (m := m) h hI hb
      refine ⟨true, u', s', ?_, rfl, fun _ => ?_, fun h => (by cases h), k3, k4.mono (Nat.le_succ N), k5⟩
      · rw [if_neg one0, if_pos rfl, if_neg one0, k1, bd2_some, k6, p, if_pos z1]; rfl
      · rw [if_neg (by decide), if_neg (by decide), if_pos rfl, k2, bd2_some]
  · rw [e1, e2, e3, e4]
    obtain ⟨g, g1, g2⟩ := can_r (m := m) h hI
    rw [if_neg (by decide), if_neg (by decide), if_pos rfl, g1, ob_some, if_pos rfl, g2, ob_some, if_pos (b2_z g), if_pos rfl]
    cases g
    · refine ⟨false, u, s, rfl, rfl, fun h => (by cases h), fun _ => rfl, h, hI.mono (Nat.le_succ N), Same.rf s⟩
    · obtain ⟨r, u', s', k1, k2, k3, k4, k5, k6, -⟩ := ds_r (m := m) hb h hI
      rw [if_neg (show ¬ b2 true = 0 by decide), k1, bd2_some]
      have hcan : pX1_canDestage u' = some (b2 true) := by
        rw [← g1]
        unfold pX1_canDestage pX1_canDestage_21 pX1_canDestage_22
        rw [k6.1, k6.2.2.1]
      refine ⟨true, u', s', ?_, rfl, fun _ => ?_, fun h => (by cases h), k3, k4.mono (Nat.le_succ N), k5⟩
      · rw [hcan, ob_some, if_pos (b2_z true)]
      · rw [k2, bd2_some]
  · rw [e1, e2, e3, e4]
    obtain ⟨u', s', k1, k2, k3, k4, k5⟩ := pass_r (m := m) (x := b) (by omega) h hI
    refine ⟨true, u', s', ?_, ?_, fun _ => ?_, fun h => (by cases h), k3, k4.mono (Nat.le_succ N), k5⟩
    · rw [if_neg (by decide), if_neg (by decide), if_neg (by decide), if_pos rfl, k1, ob_some]; rfl
    · rw [if_neg (by decide), if_neg (by decide), if_neg (by decide), if_neg (by decide)]; rfl
    · rw [if_neg (by decide), if_neg (by decide), if_neg (by decide), if_pos rfl, k2, bd2_some]
  · rw [e1, e2]
    have key : ∀ x : Int32, (x = 0 ∨ x = 1) → ∃ (u' : Mem) (s' : Nat → Int32), (bd2 (pX1_switchPower u x) fun u401 u402 => some ((1 : Int32), ((t, u402, hh, S) : GM))) = some (1, (t, u', hh, S)) ∧ (bd2 (pX5_powers (mp m s) x) fun y101 u102 => some u102) = some (mp m s') ∧ Rel s' u' ∧ Inv (N + 1) u' ∧ Same s s' := by
      intro x hx
      obtain ⟨r, u', s', k1, k2, k3, k4, k5⟩ := power_r (m := m) h hI hx
      exact ⟨u', s', by rw [k1, bd2_some], by rw [k2, bd2_some], k3, k4.mono (Nat.le_succ N), k5⟩
    rcases hI.1.2 with p | p
    · rw [p]
      obtain ⟨u', s', k1, k2, k3⟩ := key 1 (Or.inr rfl)
      refine ⟨true, u', s', ?_, rfl, fun _ => ?_, fun h => (by cases h), k3⟩
      · rw [if_neg (by decide), if_neg (by decide), if_neg (by decide), if_neg (by decide), if_pos rfl, if_pos rfl]; exact k1
      · rw [if_neg (by decide), if_pos rfl, if_pos rfl]; exact k2
    · rw [p]
      obtain ⟨u', s', k1, k2, k3⟩ := key 0 (Or.inl rfl)
      refine ⟨true, u', s', ?_, rfl, fun _ => ?_, fun h => (by cases h), k3⟩
      · rw [if_neg (by decide), if_neg (by decide), if_neg (by decide), if_neg (by decide), if_pos rfl, if_neg one0]; exact k1
      · rw [if_neg (by decide), if_pos rfl, if_neg one0]; exact k2
  · rw [e1, e2]
    rcases hI.1.2 with p | p
    · rw [p]
      have key : ∀ x : Int32, (x = 0 ∨ x = 1) → ∃ (u' : Mem) (s' : Nat → Int32), (bd2 (pX1_placeStick u x) fun y501 u502 => if (u502 6 1) = 0 then (if isz (1 : Int32) = true then some ((1 : Int32), ((t, u502, hh, S) : GM)) else none) else (if isz (0 : Int32) = true then some ((0 : Int32), ((t, u502, hh, S) : GM)) else none)) = some (1, (t, u', hh, S)) ∧ (bd2 (pX5_movesStick (mp m s) x) fun y201 u202 => some u202) = some (mp m s') ∧ Rel s' u' ∧ Inv (N + 1) u' ∧ Same s s' := by
        intro x hx
        obtain ⟨r, u', s', k1, k2, k3, k4, k5, k6⟩ := stick_r (m := m) h hI hx
        exact ⟨u', s', by rw [k1, bd2_some, k6, p, if_pos rfl, if_pos z1], by rw [k2, bd2_some], k3, k4.mono (Nat.le_succ N), k5⟩
      have c5 : ∀ {α : Type} (a b c d e g : α), (if (5 : Int32) = 0 then a else if (5 : Int32) = 1 then b else if (5 : Int32) = 2 then c else if (5 : Int32) = 3 then d else if (5 : Int32) = 4 then e else g) = g := by
        intro α a b c d e g
        rw [if_neg (by decide), if_neg (by decide), if_neg (by decide), if_neg (by decide), if_neg (by decide)]
      have c9 : ∀ {α : Type} (a b c d e g : α), (if (109 : Int32) = 100 then a else if (109 : Int32) = 112 then b else if (109 : Int32) = 114 then c else if (109 : Int32) = 116 then d else if (109 : Int32) = 119 then e else g) = g := by
        intro α a b c d e g
        rw [if_neg (by decide), if_neg (by decide), if_neg (by decide), if_neg (by decide), if_neg (by decide)]
      rw [c5, c9, if_pos rfl, if_pos rfl]
      by_cases c : u 0 3 = 0
      · obtain ⟨u', s', k1, k2, k3⟩ := key 1 (Or.inr rfl)
        exact ⟨true, u', s', by rw [if_pos c]; exact k1, rfl, fun _ => by rw [if_pos c]; exact k2, fun h => (by cases h), k3⟩
      · obtain ⟨u', s', k1, k2, k3⟩ := key 0 (Or.inl rfl)
        exact ⟨true, u', s', by rw [if_neg c]; exact k1, rfl, fun _ => by rw [if_neg c]; exact k2, fun h => (by cases h), k3⟩
    · rw [p]
      refine ⟨false, u, s, ?_, rfl, fun h => (by cases h), fun _ => rfl, h, hI.mono (Nat.le_succ N), Same.rf s⟩
      rw [if_neg (by decide), if_neg (by decide), if_neg (by decide), if_neg (by decide), if_neg (by decide), if_pos rfl, if_neg one0, if_neg one0, if_pos z0]
      rfl
