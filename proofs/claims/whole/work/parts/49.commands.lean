/-! THE COMMANDS OF A TEXT, on both sides. -/
def Kt (t t' : Mem) : Prop := t' 0 0 = t 0 0 ∧ t' 1 = t 1
def Km (m m' : Mem) : Prop := m' 0 0 = m 0 0 ∧ m' 0 1 = m 0 1 ∧ m' 0 2 = m 0 2 ∧ m' 2 = m 2
theorem Tx.k {L : Nat} {f : Nat → Nat} {m t m' t' : Mem} (h : Tx L f m t) (ht : Kt t t') (hm : Km m m') : Tx L f m' t' := by
  refine ⟨h.1, ht.1.trans h.2.1, hm.2.2.1.trans h.2.2.1, ?_⟩
  rw [ht.2, hm.2.2.2]
  exact h.2.2.2
/-- a command that both have read -/
def Cmd (t m : Mem) : Prop :=
  (t 0 2 = 0 ∧ m 0 4 = 119 ∧ ∃ b x, b < 64 ∧ x < 1000 ∧ t 0 3 = nI b ∧ m 0 5 = nI b ∧ t 0 4 = nI x ∧ m 0 6 = nI x) ∨ (t 0 2 = 1 ∧ m 0 4 = 114 ∧ ∃ b, b < 64 ∧ t 0 3 = nI b ∧ m 0 5 = nI b) ∨ (t 0 2 = 2 ∧ m 0 4 = 100 ∧ ∃ q, q < 16 ∧ t 0 3 = nI q ∧ m 0 5 = nI q) ∨ (t 0 2 = 3 ∧ m 0 4 = 116 ∧ ∃ n, n < 100 ∧ t 0 3 = nI n ∧ m 0 5 = nI n) ∨ (t 0 2 = 4 ∧ m 0 4 = 112) ∨ (t 0 2 = 5 ∧ m 0 4 = 109)
theorem idx_r : ∀ c, c < 127 → pJ0_indexOf_0f7a4 (nI c) = some (if c = 119 then 0 else if c = 114 then 1 else if c = 100 then 2 else if c = 116 then 3 else if c = 112 then 4 else if c = 109 then 5 else -1) := by decide +kernel
/-- what comes out of reading a command at p -/
def RC (L : Nat) (f : Nat → Nat) (p : Nat) : Prop := ∃ (ok okm : Bool) (q : Nat), (p ≤ q ∧ q ≤ L) ∧ (∀ (m t : Mem) (s : Nat → Int32), Tx L f m t → ∃ t' m', pX3_takeCommand (cu t p) = some (b2 ok, cu t' q) ∧ pX5_readsCommand (mp (cm m p) s) = some (b2 okm, mp (cm m' q) s) ∧ Kt t t' ∧ Km m m' ∧ (ok = true → Cmd t' m')) ∧ (ok = true → okm = true ∧ p < q) ∧ (ok = false → okm = false ∨ (48 ≤ sg L f q ∧ sg L f q ≤ 57))
def se (t : Mem) (i : Nat) (v : Int32) : Mem := mset t 0 i v
theorem se_at (t : Mem) (i : Nat) (v : Int32) (j : Nat) : se t i v 0 j = if j = i then v else t 0 j := by unfold se; rw [mset_at, if_pos rfl]
theorem Kt_se {t t' : Mem} (h : Kt t t') {i : Nat} {v : Int32} (hi : ¬ i = 0) : Kt t (se t' i v) := ⟨by rw [se_at, if_neg (fun e => hi e.symm)]; exact h.1, h.2⟩
theorem Km_se {m m' : Mem} (h : Km m m') {i : Nat} {v : Int32} (hi : 3 ≤ i) : Km m (se m' i v) := ⟨by rw [se_at, if_neg (by omega)]; exact h.1, by rw [se_at, if_neg (by omega)]; exact h.2.1, by rw [se_at, if_neg (by omega)]; exact h.2.2.1, h.2.2.2⟩
theorem Kt.rf (t : Mem) : Kt t t := ⟨rfl, rfl⟩
theorem Km.rf (m : Mem) : Km m m := ⟨rfl, rfl, rfl, rfl⟩
/-- the class's reading, its letter known -/
theorem tc_u {L : Nat} {f : Nat → Nat} {m t : Mem} {p : Nat} (hC : TxC L f) (hT : Tx L f m t) (hp : p ≤ L) (k : Int32) (hk : pJ0_indexOf_0f7a4 (nI (sg L f p)) = some k) : pX3_takeCommand (cu t p) = if 0 ≤ k then (if k = 0 then bd2 (pX3_takeNumber (cu (se t 2 k) (p + 1)) 0 63) fun y6 u7 => if y6 = (-1) then some (0, mset u7 0 3 y6) else bd2 (pX3_takeSign (mset u7 0 3 y6) 44) fun y10 u11 => if y10 = 0 then some (0, u11) else bd2 (pX3_takeNumber u11 0 999) fun y13 u14 => if y13 = (-1) then some (0, mset u14 0 4 y13) else some (1, mset u14 0 4 y13)
    else if k = 1 then bd2 (pX3_takeNumber (cu (se t 2 k) (p + 1)) 0 63) fun y u => if y = (-1) then some (0, mset u 0 3 y) else some (1, mset u 0 3 y)
    else if k = 2 then bd2 (pX3_takeNumber (cu (se t 2 k) (p + 1)) 0 15) fun y u => if y = (-1) then some (0, mset u 0 3 y) else some (1, mset u 0 3 y)
    else if k = 3 then bd2 (pX3_takeNumber (cu (se t 2 k) (p + 1)) 1 99) fun y u => if y = (-1) then some (0, mset u 0 3 y) else some (1, mset u 0 3 y)
    else some (1, cu (se t 2 k) (p + 1))) else some (0, cu (se t 2 k) p) := by
  have z : ∀ (u : Mem) (i : Nat) (v : Int32), mset u 0 i v 0 i = v := fun u i v => by rw [mset_at, if_pos rfl, if_pos rfl]
  unfold pX3_takeCommand pX3_takeCommand_96 pX3_takeCommand_123 pX3_takeCommand_148 pX3_takeCommand_173 pX3_takeCommand_198
  rw [sgn_u hC hT hp, ob_some, hk, ob_some]
  simp only [pf_e, ob_some, z, cu_i (show ¬ 2 = 1 by decide)]
  simp only [cu_1, cu_pf, nI_1, cu_o (show ¬ 2 = 1 by decide), z, show isz 0 = true from rfl, show isz 1 = true from rfl, if_true]
  rfl
theorem tn_u {L : Nat} {f : Nat → Nat} {p : Nat} {lo hi : Int32} {r : Int32} {q : Nat} {t : Mem} (h : pX3_takeNumber (cu t p) lo hi = some (r, cu t q)) {α : Type} (g : Int32 → Mem → Option α) : bd2 (pX3_takeNumber (cu t p) lo hi) g = g r (cu t q) := by rw [h, bd2_some]
theorem sgp {L : Nat} {f : Nat → Nat} {p : Nat} (h : ¬ sg L f p = 0) : p < L := by
  unfold sg at h
  by_cases c : p < L
  · exact c
  · rw [if_neg c] at h; exact absurd rfl h
/-- a command with one number, on both sides -/
theorem one_r {L : Nat} {f : Nat → Nat} {p lo hi c : Nat} {k : Int32} (hC : TxC L f) (hlo : lo ≤ 1) (h9 : 9 ≤ hi) (hhi : hi ≤ 999) (hp : p < L)
    (hcmd : ∀ (t m : Mem) (v : Nat), lo ≤ v → v ≤ hi → t 0 2 = k → m 0 4 = nI c → t 0 3 = nI v → m 0 5 = nI v → Cmd t m)
    (eu : ∀ (m t : Mem), Tx L f m t → pX3_takeCommand (cu t p) = bd2 (pX3_takeNumber (cu (se t 2 k) (p + 1)) (nI lo) (nI hi)) fun y u => if y = (-1) then some (0, mset u 0 3 y) else some (1, mset u 0 3 y))
    (em : ∀ (m t : Mem) (s : Nat → Int32), Tx L f m t → pX5_readsCommand (mp (cm m p) s) = bd2 (pX5_number (mp (cm (se m 4 (nI c)) (p + 1)) s) (nI lo) (nI hi)) fun y u => if y = (-1) then some (0, mset u 0 5 y) else some (1, mset u 0 5 y)) : RC L f p := by
  obtain ⟨r, r', q, q1, q2, q3, q4⟩ := num_r (p := p + 1) hC hlo h9 hhi (by omega)
  have run : ∀ (m t : Mem) (s : Nat → Int32), Tx L f m t → pX3_takeCommand (cu t p) = some (b2 (decide (¬ r = -1)), cu (se (se t 2 k) 3 r) q) ∧ pX5_readsCommand (mp (cm m p) s) = some (b2 (decide (¬ r' = -1)), mp (cm (se (se m 4 (nI c)) 5 r') q) s) := by
    intro m t s hT
    have hT2 : Tx L f (se m 4 (nI c)) (se t 2 k) := Tx_m (Tx_t hT (by decide)) (by decide)
    obtain ⟨z1, z2⟩ := q3 (se m 4 (nI c)) (se t 2 k) s hT2
    rw [eu m t hT, em m t s hT, z1, z2, bd2_some, bd2_some, mp_mset0, cu_i (by decide), cm_i (by decide)]
    constructor
    · by_cases e : r = -1
      · rw [if_pos e, decide_eq_false (not_not_intro e)]; rfl
      · rw [if_neg e, decide_eq_true e]; rfl
    · by_cases e : r' = -1
      · rw [if_pos e, decide_eq_false (not_not_intro e)]; rfl
      · rw [if_neg e, decide_eq_true e]; rfl
  refine ⟨decide (¬ r = -1), decide (¬ r' = -1), q, ⟨by omega, q2⟩, fun m t s hT => ⟨_, _, (run m t s hT).1, (run m t s hT).2, Kt_se (Kt_se (Kt.rf t) (by decide)) (by decide), Km_se (Km_se (Km.rf m) (by decide)) (by decide), fun h => ?_⟩, fun h => ?_, fun h => ?_⟩
  · have hr := of_decide_eq_true h
    rcases q4 with ⟨e, e1 | ⟨v, v1, v2, v3⟩⟩ | ⟨e, -⟩
    · exact absurd e1 hr
    · exact hcmd _ _ v v1 v2 (by rw [se_at, if_neg (by decide), se_at, if_pos rfl]) (by rw [se_at, if_neg (by decide), se_at, if_pos rfl]) (by rw [se_at, if_pos rfl]; exact v3) (by rw [se_at, if_pos rfl, ← e]; exact v3)
    · exact absurd e hr
  · have hr := of_decide_eq_true h
    rcases q4 with ⟨e, -⟩ | ⟨e, -⟩
    · exact ⟨by rw [← e]; exact h, by omega⟩
    · exact absurd e hr
  · have hr := Decidable.of_not_not (of_decide_eq_false h)
    rcases q4 with ⟨e, -⟩ | ⟨-, e, e2, e3⟩
    · exact Or.inl (by rw [← e]; exact h)
    · exact Or.inr ⟨e2, e3⟩
/-- the model's reading, its letter known -/
theorem rc_m {L : Nat} {f : Nat → Nat} {m t : Mem} {s : Nat → Int32} {p : Nat} (hC : TxC L f) (hT : Tx L f m t) (hp : p ≤ L) {c : Nat} (hc : sg L f p = c) : pX5_readsCommand (mp (cm m p) s) = if c = 112 then some (1, mp (cm (se m 4 (nI c)) (p + 1)) s) else if c = 109 then some (1, mp (cm (se m 4 (nI c)) (p + 1)) s) else if c = 119 then bd2 (pX5_number (mp (cm (se m 4 (nI c)) (p + 1)) s) 0 63) fun y31 u32 => if y31 = (-1) then pX5_readsCommand_78 (-1) (mset u32 0 5 y31) else bd2 (pX5_takes (mset u32 0 5 y31) 44) fun y35 u36 => if y35 = 0 then pX5_readsCommand_78 (-1) u36 else bd2 (pX5_number u36 0 999) fun y38 u39 => pX5_readsCommand_78 y38 u39
    else if c = 114 then bd2 (pX5_number (mp (cm (se m 4 (nI c)) (p + 1)) s) 0 63) fun y u => if y = (-1) then some (0, mset u 0 5 y) else some (1, mset u 0 5 y)
    else if c = 100 then bd2 (pX5_number (mp (cm (se m 4 (nI c)) (p + 1)) s) 0 15) fun y u => if y = (-1) then some (0, mset u 0 5 y) else some (1, mset u 0 5 y)
    else if c = 116 then bd2 (pX5_number (mp (cm (se m 4 (nI c)) (p + 1)) s) 1 99) fun y u => if y = (-1) then some (0, mset u 0 5 y) else some (1, mset u 0 5 y)
    else some (0, mset (mp (cm (se m 4 (nI c)) p) s) 0 5 (-1)) := by
  have z : ∀ (u : Mem) (i : Nat) (v : Int32), mset u 0 i v 0 i = v := fun u i v => by rw [mset_at, if_pos rfl, if_pos rfl]
  have hT2 : Tx L f (se m 4 (nI c)) t := Tx_m hT (by decide)
  have tk : ∀ x : Nat, x < 2 ^ 31 → pX5_takes (mp (cm (se m 4 (nI c)) p) s) (nI x) = if c = x then some (1, mp (cm (se m 4 (nI c)) (p + 1)) s) else some (0, mp (cm (se m 4 (nI c)) p) s) := fun x hx => by rw [take_m hC hT2 hp hx, hc]
  have g : ∀ (x : Nat) (F : Int32 → Mem → Option (Int32 × Mem)), x < 2 ^ 31 → bd2 (pX5_takes (mp (cm (se m 4 (nI c)) p) s) (nI x)) F = if c = x then F 1 (mp (cm (se m 4 (nI c)) (p + 1)) s) else F 0 (mp (cm (se m 4 (nI c)) p) s) := fun x F hx => by
    rw [tk x hx]
    split <;> rfl
  unfold pX5_readsCommand pX5_readsCommand_26 pX5_readsCommand_128 pX5_readsCommand_162 pX5_readsCommand_184 pX5_readsCommand_200 pX5_readsCommand_77
  rw [sgn_m hC hT hp, ob_some, hc, pf_e, ob_some, mp_mset0, cm_i (by decide)]
  simp only [pf_e, ob_some, z, show isz 0 = true from rfl, show isz 1 = true from rfl, if_true, show ((112 : Int32)) = nI 112 from rfl, show ((109 : Int32)) = nI 109 from rfl, show ((119 : Int32)) = nI 119 from rfl, show ((114 : Int32)) = nI 114 from rfl, show ((100 : Int32)) = nI 100 from rfl, show ((116 : Int32)) = nI 116 from rfl]
  show bd2 (pX5_takes (mp (cm (se m 4 (nI c)) p) s) (nI 112)) _ = _
  rw [g 112 _ (by decide)]
  by_cases c1 : c = 112
  · rw [if_pos c1, if_pos c1, if_neg one0]
  · rw [if_neg c1, if_neg c1, if_pos rfl, g 109 _ (by decide)]
    by_cases c2 : c = 109
    · rw [if_pos c2, if_pos c2, if_neg one0]
    · rw [if_neg c2, if_neg c2, if_pos rfl, g 119 _ (by decide)]
      by_cases c3 : c = 119
      · rw [if_pos c3, if_pos c3, if_neg one0]
      · rw [if_neg c3, if_neg c3, if_pos rfl, g 114 _ (by decide)]
        by_cases c4 : c = 114
        · rw [if_pos c4, if_pos c4, if_neg one0]
        · rw [if_neg c4, if_neg c4, if_pos rfl, g 100 _ (by decide)]
          by_cases c5 : c = 100
          · rw [if_pos c5, if_pos c5, if_neg one0]
          · rw [if_neg c5, if_neg c5, if_pos rfl, g 116 _ (by decide)]
            by_cases c6 : c = 116
            · rw [if_pos c6, if_pos c6, if_neg one0]
            · rw [if_neg c6, if_neg c6, if_pos rfl]
/-- a write's two numbers, on both sides -/
theorem two_r {L : Nat} {f : Nat → Nat} {p : Nat} (hC : TxC L f) (hc : sg L f p = 119) : RC L f p := by
  have hp : p < L := sgp (by rw [hc]; decide)
  have hk : pJ0_indexOf_0f7a4 (nI (sg L f p)) = some 0 := by rw [hc]; exact idx_r 119 (by decide)
  obtain ⟨r, r', q, q1, q2, q3, q4⟩ := num_r (p := p + 1) (lo := 0) (hi := 63) hC (by decide) (by decide) (by decide) (by omega)
  have eu : ∀ (m t : Mem) (s : Nat → Int32), Tx L f m t → pX3_takeCommand (cu t p) = if r = (-1) then some (0, cu (se (se t 2 0) 3 r) q) else bd2 (pX3_takeSign (cu (se (se t 2 0) 3 r) q) 44) fun y10 u11 => if y10 = 0 then some (0, u11) else bd2 (pX3_takeNumber u11 0 999) fun y13 u14 => if y13 = (-1) then some (0, mset u14 0 4 y13) else some (1, mset u14 0 4 y13) := by
    intro m t s hT
    have hT2 : Tx L f (se m 4 (nI 119)) (se t 2 0) := Tx_m (Tx_t hT (by decide)) (by decide)
    rw [tc_u hC hT (by omega) 0 hk, if_pos (by decide), if_pos rfl, show pX3_takeNumber (cu (se t 2 0) (p + 1)) 0 63 = some (r, cu (se t 2 0) q) from (q3 _ _ s hT2).1, bd2_some, cu_i (by decide)]
    rfl
  have em : ∀ (m t : Mem) (s : Nat → Int32), Tx L f m t → pX5_readsCommand (mp (cm m p) s) = if r' = (-1) then some (0, mp (cm (se (se (se m 4 (nI 119)) 5 r') 6 (-1)) q) s) else bd2 (pX5_takes (mp (cm (se (se m 4 (nI 119)) 5 r') q) s) 44) fun y35 u36 => if y35 = 0 then pX5_readsCommand_78 (-1) u36 else bd2 (pX5_number u36 0 999) fun y38 u39 => pX5_readsCommand_78 y38 u39 := by
    intro m t s hT
    have hT2 : Tx L f (se m 4 (nI 119)) (se t 2 0) := Tx_m (Tx_t hT (by decide)) (by decide)
    rw [rc_m hC hT (by omega) hc, if_neg (by decide), if_neg (by decide), if_pos rfl, show pX5_number (mp (cm (se m 4 (nI 119)) (p + 1)) s) 0 63 = some (r', mp (cm (se m 4 (nI 119)) q) s) from (q3 _ _ s hT2).2, bd2_some, mp_mset0, cm_i (by decide)]
    unfold pX5_readsCommand_78 pX5_readsCommand_94
    rw [pf_e, ob_some, mp_mset0, cm_i (by decide)]
    rfl
  have m78 : ∀ (m : Mem) (s : Nat → Int32) (y : Int32) (a : Nat), pX5_readsCommand_78 y (mp (cm m a) s) = if y = -1 then some (0, mp (cm (se m 6 y) a) s) else some (1, mp (cm (se m 6 y) a) s) := by
    intro m s y a
    unfold pX5_readsCommand_78 pX5_readsCommand_94
    rw [pf_e, ob_some, mp_mset0, cm_i (by decide), show mp (cm (mset m 0 6 y) a) s 0 6 = y by rw [mp_0, cm_o (by decide), mset_at, if_pos rfl, if_pos rfl]]
    rfl
  have kt : ∀ (t : Mem) (a : Int32), Kt t (se (se t 2 0) 3 a) := fun t a => Kt_se (Kt_se (Kt.rf t) (by decide)) (by decide)
  have km : ∀ (m : Mem) (a : Int32), Km m (se (se m 4 (nI 119)) 5 a) := fun m a => Km_se (Km_se (Km.rf m) (by decide)) (by decide)
  have txs : ∀ (m t : Mem) (a a' : Int32), Tx L f m t → Tx L f (se (se m 4 (nI 119)) 5 a') (se (se t 2 0) 3 a) := fun m t a a' h => Tx.k h (kt t a) (km m a')
  by_cases e1 : r = -1
  · -- the first number is missing: both fail, here
    refine ⟨false, false, q, ⟨by omega, q2⟩, fun m t s hT => ?_, fun h => (by cases h), fun _ => Or.inl rfl⟩
    by_cases e2 : r' = -1
    · exact ⟨_, _, by rw [eu m t s hT, if_pos e1]; rfl, by rw [em m t s hT, if_pos e2]; rfl, kt t r, Km_se (km m r') (by decide), fun h => by cases h⟩
    · refine ⟨_, se (se (se m 4 (nI 119)) 5 r') 6 (-1), by rw [eu m t s hT, if_pos e1]; rfl, ?_, kt t r, Km_se (km m r') (by decide), fun h => by cases h⟩
      have hd : ¬ sg L f q = 44 := by
        rcases q4 with ⟨e, -⟩ | ⟨-, -, d1, d2⟩
        · exact absurd (e.symm.trans e1) e2
        · omega
      rw [em m t s hT, if_neg e2, show pX5_takes (mp (cm (se (se m 4 (nI 119)) 5 r') q) s) 44 = _ from take_m (x := 44) hC (txs m t r r' hT) q2 (by decide), if_neg hd, bd2_some, if_pos rfl, m78, if_pos rfl]
      rfl
  · have q5 : r = r' ∧ ∃ k, k ≤ 63 ∧ r = nI k := by
      rcases q4 with ⟨e, e3 | ⟨k, -, k2, k3⟩⟩ | ⟨e, -⟩
      · exact absurd e3 e1
      · exact ⟨e, k, k2, k3⟩
      · exact absurd e e1
    obtain ⟨rfl, b, b1, b2'⟩ := q5
    by_cases c44 : sg L f q = 44
    · have hq : q < L := sgp (by rw [c44]; decide)
      obtain ⟨r2, r2', q', w1, w2, w3, w4⟩ := num_r (p := q + 1) (lo := 0) (hi := 999) hC (by decide) (by decide) (by decide) (by omega)
      have run : ∀ (m t : Mem) (s : Nat → Int32), Tx L f m t → pX3_takeCommand (cu t p) = some (b2 (decide (¬ r2 = -1)), cu (se (se (se t 2 0) 3 r) 4 r2) q') ∧ pX5_readsCommand (mp (cm m p) s) = some (b2 (decide (¬ r2' = -1)), mp (cm (se (se (se m 4 (nI 119)) 5 r) 6 r2') q') s) := by
        intro m t s hT
        have hT2 := txs m t r r hT
        obtain ⟨z1, z2⟩ := w3 _ _ s hT2
        constructor
        · rw [eu m t s hT, if_neg e1, show pX3_takeSign (cu (se (se t 2 0) 3 r) q) 44 = _ from take_u (x := 44) hC hT2 q2 (by decide), if_pos c44, bd2_some, if_neg one0, show pX3_takeNumber (cu (se (se t 2 0) 3 r) (q + 1)) 0 999 = _ from z1, bd2_some, cu_i (by decide)]
          by_cases e : r2 = -1
          · rw [if_pos e, decide_eq_false (not_not_intro e)]; rfl
          · rw [if_neg e, decide_eq_true e]; rfl
        · rw [em m t s hT, if_neg e1, show pX5_takes (mp (cm (se (se m 4 (nI 119)) 5 r) q) s) 44 = _ from take_m (x := 44) hC hT2 q2 (by decide), if_pos c44, bd2_some, if_neg one0, show pX5_number (mp (cm (se (se m 4 (nI 119)) 5 r) (q + 1)) s) 0 999 = _ from z2, bd2_some, m78]
          by_cases e : r2' = -1
          · rw [if_pos e, decide_eq_false (not_not_intro e)]; rfl
          · rw [if_neg e, decide_eq_true e]; rfl
      refine ⟨decide (¬ r2 = -1), decide (¬ r2' = -1), q', ⟨by omega, w2⟩, fun m t s hT => ⟨_, _, (run m t s hT).1, (run m t s hT).2, Kt_se (kt t r) (by decide), Km_se (km m r) (by decide), fun h => ?_⟩, fun h => ?_, fun h => ?_⟩
      · have hr := of_decide_eq_true h
        rcases w4 with ⟨e, e3 | ⟨v, -, v2, v3⟩⟩ | ⟨e, -⟩
        · exact absurd e3 hr
        · exact Or.inl ⟨by rw [se_at, if_neg (by decide), se_at, if_neg (by decide), se_at, if_pos rfl], by rw [se_at, if_neg (by decide), se_at, if_neg (by decide), se_at, if_pos rfl]; rfl, b, v, by omega, by omega, by rw [se_at, if_neg (by decide), se_at, if_pos rfl]; exact b2', by rw [se_at, if_neg (by decide), se_at, if_pos rfl]; exact b2', by rw [se_at, if_pos rfl]; exact v3, by rw [se_at, if_pos rfl, ← e]; exact v3⟩
        · exact absurd e hr
      · have hr := of_decide_eq_true h
        rcases w4 with ⟨e, -⟩ | ⟨e, -⟩
        · exact ⟨by rw [← e]; exact h, by omega⟩
        · exact absurd e hr
      · have hr := Decidable.of_not_not (of_decide_eq_false h)
        rcases w4 with ⟨e, -⟩ | ⟨-, e, x2, x3⟩
        · exact Or.inl (by rw [← e]; exact h)
        · exact Or.inr ⟨x2, x3⟩
    · refine ⟨false, false, q, ⟨by omega, q2⟩, fun m t s hT => ?_, fun h => (by cases h), fun _ => Or.inl rfl⟩
      have hT2 := txs m t r r hT
      refine ⟨se (se t 2 0) 3 r, se (se (se m 4 (nI 119)) 5 r) 6 (-1), ?_, ?_, kt t r, Km_se (km m r) (by decide), fun h => by cases h⟩
      · rw [eu m t s hT, if_neg e1, show pX3_takeSign (cu (se (se t 2 0) 3 r) q) 44 = _ from take_u (x := 44) hC hT2 q2 (by decide), if_neg c44, bd2_some, if_pos rfl]
        rfl
      · rw [em m t s hT, if_neg e1, show pX5_takes (mp (cm (se (se m 4 (nI 119)) 5 r) q) s) 44 = _ from take_m (x := 44) hC hT2 q2 (by decide), if_neg c44, bd2_some, if_pos rfl, m78, if_pos rfl]
        rfl
/-- every command, read on both sides -/
theorem rc_r {L : Nat} {f : Nat → Nat} {p : Nat} (hC : TxC L f) (hp : p ≤ L) : RC L f p := by
  have hs := sg_le hC p
  have hk := idx_r (sg L f p) (by omega)
  by_cases c1 : sg L f p = 119
  · exact two_r hC c1
  rw [if_neg c1] at hk
  by_cases c2 : sg L f p = 114
  · rw [if_pos c2] at hk
    refine one_r (lo := 0) (hi := 63) (c := 114) (k := 1) hC (by decide) (by decide) (by decide) (sgp (f := f) (by rw [c2]; decide)) (fun t m v h1 h2 a1 a2 a3 a4 => Or.inr (Or.inl ⟨a1, a2, v, by omega, a3, a4⟩)) (fun m t hT => ?_) (fun m t s hT => ?_)
    · rw [tc_u hC hT hp 1 hk, if_pos (by decide), if_neg one0, if_pos rfl]; rfl
    · rw [rc_m hC hT hp c2, if_neg (by decide), if_neg (by decide), if_neg (by decide), if_pos rfl]; rfl
  rw [if_neg c2] at hk
  by_cases c3 : sg L f p = 100
  · rw [if_pos c3] at hk
    refine one_r (lo := 0) (hi := 15) (c := 100) (k := 2) hC (by decide) (by decide) (by decide) (sgp (f := f) (by rw [c3]; decide)) (fun t m v h1 h2 a1 a2 a3 a4 => Or.inr (Or.inr (Or.inl ⟨a1, a2, v, by omega, a3, a4⟩))) (fun m t hT => ?_) (fun m t s hT => ?_)
    · rw [tc_u hC hT hp 2 hk, if_pos (by decide), if_neg (by decide), if_neg (by decide), if_pos rfl]; rfl
    · rw [rc_m hC hT hp c3, if_neg (by decide), if_neg (by decide), if_neg (by decide), if_neg (by decide), if_pos rfl]; rfl
  rw [if_neg c3] at hk
  by_cases c4 : sg L f p = 116
  · rw [if_pos c4] at hk
    refine one_r (lo := 1) (hi := 99) (c := 116) (k := 3) hC (by decide) (by decide) (by decide) (sgp (f := f) (by rw [c4]; decide)) (fun t m v h1 h2 a1 a2 a3 a4 => Or.inr (Or.inr (Or.inr (Or.inl ⟨a1, a2, v, by omega, a3, a4⟩)))) (fun m t hT => ?_) (fun m t s hT => ?_)
    · rw [tc_u hC hT hp 3 hk, if_pos (by decide), if_neg (by decide), if_neg (by decide), if_neg (by decide), if_pos rfl]; rfl
    · rw [rc_m hC hT hp c4, if_neg (by decide), if_neg (by decide), if_neg (by decide), if_neg (by decide), if_neg (by decide), if_pos rfl]; rfl
  rw [if_neg c4] at hk
  by_cases c5 : sg L f p = 112
  · rw [if_pos c5] at hk
    have hpL : p < L := sgp (f := f) (by rw [c5]; decide)
    refine ⟨true, true, p + 1, ⟨by omega, hpL⟩, fun m t s hT => ⟨se t 2 4, se m 4 (nI 112), ?_, ?_, Kt_se (Kt.rf t) (by decide), Km_se (Km.rf m) (by decide), fun _ => Or.inr (Or.inr (Or.inr (Or.inr (Or.inl ⟨by rw [se_at, if_pos rfl], by rw [se_at, if_pos rfl]; rfl⟩))))⟩, fun _ => ⟨rfl, by omega⟩, fun h => (by cases h)⟩
    · rw [tc_u hC hT hp 4 hk, if_pos (by decide), if_neg (by decide), if_neg (by decide), if_neg (by decide), if_neg (by decide)]; rfl
    · rw [rc_m hC hT hp c5, if_pos rfl]; rfl
  rw [if_neg c5] at hk
  by_cases c6 : sg L f p = 109
  · rw [if_pos c6] at hk
    have hpL : p < L := sgp (f := f) (by rw [c6]; decide)
    refine ⟨true, true, p + 1, ⟨by omega, hpL⟩, fun m t s hT => ⟨se t 2 5, se m 4 (nI 109), ?_, ?_, Kt_se (Kt.rf t) (by decide), Km_se (Km.rf m) (by decide), fun _ => Or.inr (Or.inr (Or.inr (Or.inr (Or.inr ⟨by rw [se_at, if_pos rfl], by rw [se_at, if_pos rfl]; rfl⟩))))⟩, fun _ => ⟨rfl, by omega⟩, fun h => (by cases h)⟩
    · rw [tc_u hC hT hp 5 hk, if_pos (by decide), if_neg (by decide), if_neg (by decide), if_neg (by decide), if_neg (by decide)]; rfl
    · rw [rc_m hC hT hp c6, if_neg (by decide), if_pos rfl]; rfl
  rw [if_neg c6] at hk
  refine ⟨false, false, p, ⟨Nat.le_refl _, hp⟩, fun m t s hT => ⟨se t 2 (-1), se (se m 4 (nI (sg L f p))) 5 (-1), ?_, ?_, Kt_se (Kt.rf t) (by decide), Km_se (Km_se (Km.rf m) (by decide)) (by decide), fun h => (by cases h)⟩, fun h => (by cases h), fun _ => Or.inl rfl⟩
  · rw [tc_u hC hT hp (-1) hk, if_neg (by decide)]; rfl
  · rw [rc_m hC hT hp rfl, if_neg c5, if_neg c6, if_neg c1, if_neg c2, if_neg c3, if_neg c4, mp_mset0, cm_i (by decide)]; rfl
