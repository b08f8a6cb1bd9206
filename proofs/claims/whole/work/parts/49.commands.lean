/-! THE COMMANDS OF A TEXT, on both sides. -/
def Kt (t t' : Mem) : Prop := t' 0 0 = t 0 0 ∧ t' 1 = t 1
def Km (m m' : Mem) : Prop := m' 0 0 = m 0 0 ∧ m' 0 1 = m 0 1 ∧ m' 0 2 = m 0 2 ∧ m' 2 = m 2
theorem Tx.k {L : Nat} {f : Nat → Nat} {m t m' t' : Mem} (h : Tx L f m t) (ht : Kt t t') (hm : Km m m') : Tx L f m' t' := by
  refine ⟨h.1, ht.1.trans h.2.1, hm.2.2.1.trans h.2.2.1, ?_⟩
  rw [ht.2, hm.2.2.2]
  exact h.2.2.2
/-- a command that both have read -/
def Cmd (t m : Mem) : Prop :=
  (t 0 2 = 0 ∧ m 0 4 = 119 ∧ ∃ b x, b < 64 ∧ x < 1000 ∧ t 0 3 = nI b ∧ m 0 5 = nI b ∧ t 0 4 = nI x ∧ m 0 6 = nI x) ∨ (t 0 2 = 1 ∧ m 0 4 = 114 ∧ ∃ b, b < 64 ∧ t 0 3 = nI b ∧ m 0 5 = nI b) ∨ (t 0 2 = 2 ∧ m 0 4 = 100 ∧ ∃ q, q < 16 ∧ t 0 3 = nI q ∧ m 0 5 = nI q) ∨ (t 0 2 = 3 ∧ m 0 4 = 116 ∧ ∃ n, n < 100 ∧ t 0 3 = nI n ∧ m 0 5 = nI n) ∨ (t 0 2 = 4 ∧ m 0 4 = 112) ∨ (t 0 2 = 5 ∧ m 0 4 = 109)
theorem idx_r : ∀ c, c < 127 → pJ0_indexOf_0f7a4 (nI c) = some (if c = 119 then 0 else if c = 114 then 1 else if c = 100 then 2 else if c = 116 then 3 else if c = 112 then 4 else if c = 109 then 5 else -1) := by decide +kernel
/-- what comes out of reading a command at p -/
def RC (L : Nat) (f : Nat → Nat) (p : Nat) : Prop := ∃ (ok okm : Bool) (q : Nat), q ≤ L ∧ (∀ (m t : Mem) (s : Nat → Int32), Tx L f m t → ∃ t' m', pX3_takeCommand (cu t p) = some (b2 ok, cu t' q) ∧ pX5_readsCommand (mp (cm m p) s) = some (b2 okm, mp (cm m' q) s) ∧ Kt t t' ∧ Km m m' ∧ (ok = true → Cmd t' m')) ∧ (ok = true → okm = true ∧ p < q) ∧ (ok = false → okm = false ∨ (48 ≤ sg L f q ∧ sg L f q ≤ 57))
def se (t : Mem) (i : Nat) (v : Int32) : Mem := mset t 0 i v
theorem se_at (t : Mem) (i : Nat) (v : Int32) (j : Nat) : se t i v 0 j = if j = i then v else t 0 j := by unfold se; rw [mset_at, if_pos rfl]
theorem Kt_se {t t' : Mem} (h : Kt t t') {i : Nat} {v : Int32} (hi : ¬ i = 0) : Kt t (se t' i v) := ⟨by rw [se_at, if_neg (fun e => hi e.symm)]; exact h.1, h.2⟩
theorem Km_se {m m' : Mem} (h : Km m m') {i : Nat} {v : Int32} (hi : 3 ≤ i) : Km m (se m' i v) := ⟨by rw [se_at, if_neg (by omega)]; exact h.1, by rw [se_at, if_neg (by omega)]; exact h.2.1, by rw [se_at, if_neg (by omega)]; exact h.2.2.1, h.2.2.2⟩
theorem Kt.rf (t : Mem) : Kt t t := ⟨rfl, rfl⟩
theorem Km.rf (m : Mem) : Km m m := ⟨rfl, rfl, rfl, rfl⟩
/-- the class's reading, its letter known -/
theorem tc_u {L : Nat} {f : Nat → Nat} {m t : Mem} {p : Nat} (hC : TxC L f) (hT : Tx L f m t) (hp : p ≤ L) (k : Int32) (hk : pJ0_indexOf_0f7a4 (nI (sg L f p)) = some k) : pX3_takeCommand (cu t p) = if 0 ≤ k then (if k = 0 then bd2 (pX3_takeNumber (cu (se t 2 k) (p + 1)) 0 63) fun y6 u7 => if y6 = (-1) then some (0, mset u7 0 3 y6) else bd2 (pX3_takeSign (mset u7 0 3 y6) 44) fun y10 u11 => if y10 = 0 then some (0, u11) else bd2 (pX3_takeNumber u11 0 999) fun y13 u14 => if y13 = (-1) then some (0, mset u14 0 4 y13) else some (1, mset u14 0 4 y13)
    else if k = 1 then bd2 (pX3_takeNumber (cu (se t 2 k) (p + 1)) 0 63) fun y u => if y = (-1) then some (0, mset u 0 3 y) else some (1, mset u 0 3 y)
    else if k = 2 then bd2 (pX3_takeNumber (cu (se t 2 k) (p + 1)) 0 15) fun y u => if y = (-1) then some (0, mset u 0 3 y) else some (1, mset u 0 3 y)
    else if k = 3 then bd2 (pX3_takeNumber (cu (se t 2 k) (p + 1)) 1 99) fun y u => if y = (-1) then some (0, mset u 0 3 y) else some (1, mset u 0 3 y)
    else some (1, cu (se t 2 k) (p + 1))) else some (0, cu (se t 2 k) p) := by
  have z : ∀ (u : Mem) (i : Nat) (v : Int32), mset u 0 i v 0 i = v := fun u i v => by rw [mset_at, if_pos rfl, if_pos rfl]
  unfold pX3_takeCommand pX3_takeCommand_96 pX3_takeCommand_123 pX3_takeCommand_148 pX3_takeCommand_173 pX3_takeCommand_198
  rw [sgn_u hC hT hp, ob_some, hk, ob_some]
  simp only [pf_e, ob_some, z, cu_i (show ¬ 2 = 1 by decide)]
  simp only [cu_1, cu_pf, nI_1, cu_o (show ¬ 2 = 1 by decide), z, show isz 0 = true from rfl, show isz 1 = true from rfl, if_true]
  rfl
theorem tn_u {L : Nat} {f : Nat → Nat} {p : Nat} {lo hi : Int32} {r : Int32} {q : Nat} {t : Mem} (h : pX3_takeNumber (cu t p) lo hi = some (r, cu t q)) {α : Type} (g : Int32 → Mem → Option α) : bd2 (pX3_takeNumber (cu t p) lo hi) g = g r (cu t q) := by rw [h, bd2_some]
theorem sgp {L : Nat} {f : Nat → Nat} {p : Nat} (h : ¬ sg L f p = 0) : p < L := by
  unfold sg at h
  by_cases c : p < L
  · exact c
  · rw [if_neg c] at h; exact absurd rfl h
/-- a command with one number, on both sides -/
theorem one_r {L : Nat} {f : Nat → Nat} {p lo hi c : Nat} {k : Int32} (hC : TxC L f) (hlo : lo ≤ 1) (h9 : 9 ≤ hi) (hhi : hi ≤ 999) (hp : p < L)
    (hcmd : ∀ (t m : Mem) (v : Nat), lo ≤ v → v ≤ hi → t 0 2 = k → m 0 4 = nI c → t 0 3 = nI v → m 0 5 = nI v → Cmd t m)
    (eu : ∀ (m t : Mem), Tx L f m t → pX3_takeCommand (cu t p) = bd2 (pX3_takeNumber (cu (se t 2 k) (p + 1)) (nI lo) (nI hi)) fun y u => if y = (-1) then some (0, mset u 0 3 y) else some (1, mset u 0 3 y))
    (em : ∀ (m t : Mem) (s : Nat → Int32), Tx L f m t → pX5_readsCommand (mp (cm m p) s) = bd2 (pX5_number (mp (cm (se m 4 (nI c)) (p + 1)) s) (nI lo) (nI hi)) fun y u => if y = (-1) then some (0, mset u 0 5 y) else some (1, mset u 0 5 y)) : RC L f p := by
  obtain ⟨r, r', q, q1, q2, q3, q4⟩ := num_r (p := p + 1) hC hlo h9 hhi (by omega)
  have run : ∀ (m t : Mem) (s : Nat → Int32), Tx L f m t → pX3_takeCommand (cu t p) = some (b2 (decide (¬ r = -1)), cu (se (se t 2 k) 3 r) q) ∧ pX5_readsCommand (mp (cm m p) s) = some (b2 (decide (¬ r' = -1)), mp (cm (se (se m 4 (nI c)) 5 r') q) s) := by
    intro m t s hT
    have hT2 : Tx L f (se m 4 (nI c)) (se t 2 k) := Tx_m (Tx_t hT (by decide)) (by decide)
    obtain ⟨z1, z2⟩ := q3 (se m 4 (nI c)) (se t 2 k) s hT2
    rw [eu m t hT, em m t s hT, z1, z2, bd2_some, bd2_some, mp_mset0, cu_i (by decide), cm_i (by decide)]
    constructor
    · by_cases e : r = -1
      · rw [if_pos e, decide_eq_false (not_not_intro e)]; rfl
      · rw [if_neg e, decide_eq_true e]; rfl
    · by_cases e : r' = -1
      · rw [if_pos e, decide_eq_false (not_not_intro e)]; rfl
      · rw [if_neg e, decide_eq_true e]; rfl
  refine ⟨decide (¬ r = -1), decide (¬ r' = -1), q, q2, fun m t s hT => ⟨_, _, (run m t s hT).1, (run m t s hT).2, Kt_se (Kt_se (Kt.rf t) (by decide)) (by decide), Km_se (Km_se (Km.rf m) (by decide)) (by decide), fun h => ?_⟩, fun h => ?_, fun h => ?_⟩
  · have hr := of_decide_eq_true h
    rcases q4 with ⟨e, e1 | ⟨v, v1, v2, v3⟩⟩ | ⟨e, -⟩
    · exact absurd e1 hr
    · exact hcmd _ _ v v1 v2 (by rw [se_at, if_neg (by decide), se_at, if_pos rfl]) (by rw [se_at, if_neg (by decide), se_at, if_pos rfl]) (by rw [se_at, if_pos rfl]; exact v3) (by rw [se_at, if_pos rfl, ← e]; exact v3)
    · exact absurd e hr
  · have hr := of_decide_eq_true h
    rcases q4 with ⟨e, -⟩ | ⟨e, -⟩
    · exact ⟨by rw [← e]; exact h, by omega⟩
    · exact absurd e hr
  · have hr := not_not.mp (of_decide_eq_false h)
    rcases q4 with ⟨e, -⟩ | ⟨-, e, e2, e3⟩
    · exact Or.inl (by rw [← e]; exact h)
    · exact Or.inr ⟨e2, e3⟩
/-- the model's reading, its letter known -/
theorem rc_m {L : Nat} {f : Nat → Nat} {m t : Mem} {s : Nat → Int32} {p : Nat} (hC : TxC L f) (hT : Tx L f m t) (hp : p ≤ L) {c : Nat} (hc : sg L f p = c) : pX5_readsCommand (mp (cm m p) s) = if c = 112 then some (1, mp (cm (se m 4 (nI c)) (p + 1)) s) else if c = 109 then some (1, mp (cm (se m 4 (nI c)) (p + 1)) s) else if c = 119 then bd2 (pX5_number (mp (cm (se m 4 (nI c)) (p + 1)) s) 0 63) fun y31 u32 => if y31 = (-1) then pX5_readsCommand_78 (-1) (mset u32 0 5 y31) else bd2 (pX5_takes (mset u32 0 5 y31) 44) fun y35 u36 => if y35 = 0 then pX5_readsCommand_78 (-1) u36 else bd2 (pX5_number u36 0 999) fun y38 u39 => pX5_readsCommand_78 y38 u39
    else if c = 114 then bd2 (pX5_number (mp (cm (se m 4 (nI c)) (p + 1)) s) 0 63) fun y u => if y = (-1) then some (0, mset u 0 5 y) else some (1, mset u 0 5 y)
    else if c = 100 then bd2 (pX5_number (mp (cm (se m 4 (nI c)) (p + 1)) s) 0 15) fun y u => if y = (-1) then some (0, mset u 0 5 y) else some (1, mset u 0 5 y)
    else if c = 116 then bd2 (pX5_number (mp (cm (se m 4 (nI c)) (p + 1)) s) 1 99) fun y u => if y = (-1) then some (0, mset u 0 5 y) else some (1, mset u 0 5 y)
    else some (0, mset (mp (cm (se m 4 (nI c)) p) s) 0 5 (-1)) := by
  have z : ∀ (u : Mem) (i : Nat) (v : Int32), mset u 0 i v 0 i = v := fun u i v => by rw [mset_at, if_pos rfl, if_pos rfl]
  have hT2 : Tx L f (se m 4 (nI c)) t := Tx_m hT (by decide)
  have tk : ∀ x : Nat, x < 2 ^ 31 → pX5_takes (mp (cm (se m 4 (nI c)) p) s) (nI x) = if c = x then some (1, mp (cm (se m 4 (nI c)) (p + 1)) s) else some (0, mp (cm (se m 4 (nI c)) p) s) := fun x hx => by rw [take_m hC hT2 hp hx, hc]
  have g : ∀ (x : Nat) (F : Int32 → Mem → Option (Int32 × Mem)), x < 2 ^ 31 → bd2 (pX5_takes (mp (cm (se m 4 (nI c)) p) s) (nI x)) F = if c = x then F 1 (mp (cm (se m 4 (nI c)) (p + 1)) s) else F 0 (mp (cm (se m 4 (nI c)) p) s) := fun x F hx => by
    rw [tk x hx]
    split <;> rfl
  unfold pX5_readsCommand pX5_readsCommand_26 pX5_readsCommand_128 pX5_readsCommand_162 pX5_readsCommand_184 pX5_readsCommand_200 pX5_readsCommand_77
  rw [sgn_m hC hT hp, ob_some, hc, pf_e, ob_some, mp_mset0, cm_i (by decide)]
  simp only [pf_e, ob_some, z, show isz 0 = true from rfl, show isz 1 = true from rfl, if_true, show ((112 : Int32)) = nI 112 from rfl, show ((109 : Int32)) = nI 109 from rfl, show ((119 : Int32)) = nI 119 from rfl, show ((114 : Int32)) = nI 114 from rfl, show ((100 : Int32)) = nI 100 from rfl, show ((116 : Int32)) = nI 116 from rfl]
  show bd2 (pX5_takes (mp (cm (se m 4 (nI c)) p) s) (nI 112)) _ = _
  rw [g 112 _ (by decide)]
  by_cases c1 : c = 112
  · rw [if_pos c1, if_pos c1, if_neg one0]
  · rw [if_neg c1, if_neg c1, if_pos rfl, g 109 _ (by decide)]
    by_cases c2 : c = 109
    · rw [if_pos c2, if_pos c2, if_neg one0]
    · rw [if_neg c2, if_neg c2, if_pos rfl, g 119 _ (by decide)]
      by_cases c3 : c = 119
      · rw [if_pos c3, if_pos c3, if_neg one0]
      · rw [if_neg c3, if_neg c3, if_pos rfl, g 114 _ (by decide)]
        by_cases c4 : c = 114
        · rw [if_pos c4, if_pos c4, if_neg one0]
        · rw [if_neg c4, if_neg c4, if_pos rfl, g 100 _ (by decide)]
          by_cases c5 : c = 100
          · rw [if_pos c5, if_pos c5, if_neg one0]
          · rw [if_neg c5, if_neg c5, if_pos rfl, g 116 _ (by decide)]
            by_cases c6 : c = 116
            · rw [if_pos c6, if_pos c6, if_neg one0]
            · rw [if_neg c6, if_neg c6, if_pos rfl, if_pos rfl]
