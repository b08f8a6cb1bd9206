/-! THE TEXT, on both sides: L signs, the codes f. -/
def Tx (L : Nat) (f : Nat → Nat) (m t : Mem) : Prop := L ≤ 80 ∧ t 0 0 = nI L ∧ m 0 2 = nI L ∧ ∀ i, i < L → t 1 i = nI (f i) ∧ m 2 i = nI (f i)
def TxC (L : Nat) (f : Nat → Nat) : Prop := L ≤ 80 ∧ ∀ i, i < L → 32 ≤ f i ∧ f i ≤ 126
def sg (L : Nat) (f : Nat → Nat) (p : Nat) : Nat := if p < L then f p else 0
def cu (t : Mem) (p : Nat) : Mem := mset t 0 1 (nI p)
def cm (m : Mem) (p : Nat) : Mem := mset m 0 3 (nI p)
theorem mset_same {u : Mem} {k i : Nat} {v w : Int32} : mset (mset u k i v) k i w = mset u k i w := by
  funext a c
  simp only [mset_at]
  grind
theorem mset_ij {u : Mem} {k i j : Nat} {v w : Int32} (h : ¬ i = j) : mset (mset u k i v) k j w = mset (mset u k j w) k i v := by
  funext a c
  simp only [mset_at]
  grind
theorem cu_pf {t : Mem} {p q : Nat} : mset (cu t p) 0 1 (nI q) = cu t q := mset_same
theorem cm_pf {m : Mem} {p q : Nat} : mset (cm m p) 0 3 (nI q) = cm m q := mset_same
theorem cu_i {t : Mem} {p i : Nat} {v : Int32} (h : ¬ i = 1) : mset (cu t p) 0 i v = cu (mset t 0 i v) p := mset_ij (fun e => h e.symm)
theorem cm_i {m : Mem} {p i : Nat} {v : Int32} (h : ¬ i = 3) : mset (cm m p) 0 i v = cm (mset m 0 i v) p := mset_ij (fun e => h e.symm)
theorem cu_1 {t : Mem} {p : Nat} : cu t p 0 1 = nI p := by unfold cu; rw [mset_at, if_pos rfl, if_pos rfl]
theorem cm_3 {m : Mem} {p : Nat} : cm m p 0 3 = nI p := by unfold cm; rw [mset_at, if_pos rfl, if_pos rfl]
theorem cu_o {t : Mem} {p i : Nat} (h : ¬ i = 1) : cu t p 0 i = t 0 i := by unfold cu; rw [mset_at, if_pos rfl, if_neg h]
theorem cm_o {m : Mem} {p i : Nat} (h : ¬ i = 3) : cm m p 0 i = m 0 i := by unfold cm; rw [mset_at, if_pos rfl, if_neg h]
theorem Tx_t {L : Nat} {f : Nat → Nat} {m t : Mem} (h : Tx L f m t) {i : Nat} {v : Int32} (hi : ¬ i = 0) : Tx L f m (mset t 0 i v) := by
  refine ⟨h.1, ?_, h.2.2.1, h.2.2.2⟩
  rw [mset_at, if_pos rfl, if_neg (fun e => hi e.symm)]
  exact h.2.1
theorem Tx_m {L : Nat} {f : Nat → Nat} {m t : Mem} (h : Tx L f m t) {i : Nat} {v : Int32} (hi : ¬ i = 2) : Tx L f (mset m 0 i v) t := by
  refine ⟨h.1, h.2.1, ?_, h.2.2.2⟩
  rw [mset_at, if_pos rfl, if_neg (fun e => hi e.symm)]
  exact h.2.2.1
theorem sg_le {L : Nat} {f : Nat → Nat} (hC : TxC L f) (p : Nat) : sg L f p ≤ 126 := by
  unfold sg
  split
  · exact (hC.2 p (by assumption)).2
  · omega
theorem isch_n2 {c : Nat} (h : c ≤ 126) : isch (nI c) = true := by
  unfold isch
  rw [decide_eq_true (nI_pos' (by omega)), decide_eq_true (show nI c ≤ 65535 from nI_le (b := 65535) (by omega) (by decide))]
  rfl
theorem sgn_u {L : Nat} {f : Nat → Nat} {m t : Mem} {p : Nat} (hC : TxC L f) (h : Tx L f m t) (hp : p ≤ L) : pX3_nextSign (cu t p) = some (nI (sg L f p)) := by
  have hL := hC.1
  unfold pX3_nextSign pX3_nextSign_31 pX3_nextSign_32 pX3_nextSign_50
  rw [cu_1, cu_o (by decide), h.2.1, if_neg (nI_pos (by omega))]
  unfold sg
  by_cases c : p < L
  · rw [if_neg (nI_ge c (by omega)), if_neg (ge80 (by omega)), if_neg one0, ld_n (by omega) (by decide), ob_some, show cu t p 1 p = nI (f p) from (h.2.2.2 p c).1, if_pos (isch_n2 (hC.2 p c).2), if_pos c]
  · rw [if_pos (nI_le (by omega) (by omega)), if_pos rfl, if_neg c]
    rfl
theorem sgn_m {L : Nat} {f : Nat → Nat} {m t : Mem} {s : Nat → Int32} {p : Nat} (hC : TxC L f) (h : Tx L f m t) (hp : p ≤ L) : pX5_sign (mp (cm m p) s) = some (nI (sg L f p)) := by
  have hL := hC.1
  unfold pX5_sign pX5_sign_24
  rw [mp_0, cm_3, cm_o (by decide), h.2.2.1]
  unfold sg
  by_cases c : p < L
  · rw [if_neg (nI_ge c (by omega)), ld_n (by omega) (by decide), ob_some, if_pos c]
    rw [show mp (cm m p) s 2 p = nI (f p) from (h.2.2.2 p c).2]
  · rw [if_pos (nI_le (by omega) (by omega)), if_neg c]
    rfl
theorem take_u {L : Nat} {f : Nat → Nat} {m t : Mem} {p x : Nat} (hC : TxC L f) (h : Tx L f m t) (hp : p ≤ L) (hx : x < 2 ^ 31) : pX3_takeSign (cu t p) (nI x) = if sg L f p = x then some (1, cu t (p + 1)) else some (0, cu t p) := by
  have hs := sg_le hC p
  unfold pX3_takeSign
  rw [sgn_u hC h hp, ob_some, pf_e, ob_some, cu_1, nI_1, cu_pf]
  by_cases c : sg L f p = x
  · rw [if_pos (congrArg nI c), if_pos c]
  · rw [if_neg (fun e => c ((nI_eq (by omega) hx).mp e)), if_neg c]
theorem take_m {L : Nat} {f : Nat → Nat} {m t : Mem} {s : Nat → Int32} {p x : Nat} (hC : TxC L f) (h : Tx L f m t) (hp : p ≤ L) (hx : x < 2 ^ 31) : pX5_takes (mp (cm m p) s) (nI x) = if sg L f p = x then some (1, mp (cm m (p + 1)) s) else some (0, mp (cm m p) s) := by
  have hs := sg_le hC p
  unfold pX5_takes pX5_takes_13 pX5_takes_28
  rw [sgn_m hC h hp, ob_some]
  simp only [pf_e, ob_some, mp_0, cm_3, Int32.add_zero, nI_1, mp_mset0, cm_pf]
  by_cases c : sg L f p = x
  · rw [if_pos (congrArg nI c), if_pos c, if_neg one0, if_pos (by decide)]
  · rw [if_neg (fun e => c ((nI_eq (by omega) hx).mp e)), if_neg c, if_pos True.intro, if_pos (by decide)]
theorem in_n {c a b : Nat} (hc : c < 2 ^ 31) (ha : a < 2 ^ 31) (hb : b < 2 ^ 31) : pX5_in (nI c) (nI a) (nI b) = some (if a ≤ c ∧ c ≤ b then 1 else 0) := by
  unfold pX5_in pX5_in_14 pX5_in_15
  by_cases c1 : c < a
  · rw [if_pos (nI_lt c1 ha), if_neg (show ¬ (a ≤ c ∧ c ≤ b) by omega)]; rfl
  · rw [if_neg (nI_nlt (by omega) hc)]
    by_cases c2 : b < c
    · rw [if_pos (nI_lt c2 hc), if_neg (show ¬ (a ≤ c ∧ c ≤ b) by omega)]; rfl
    · rw [if_neg (nI_nlt (by omega) hb), if_pos (show a ≤ c ∧ c ≤ b by omega)]; rfl
/-- how a number's end looks on both sides: alike, or a digit too many -/
def NumE (L : Nat) (f : Nat → Nat) (lo hi q : Nat) (r r' : Int32) : Prop := (r = r' ∧ (r = -1 ∨ ∃ k, lo ≤ k ∧ k ≤ hi ∧ r = nI k)) ∨ (r = -1 ∧ ¬ r' = -1 ∧ 48 ≤ sg L f q ∧ sg L f q ≤ 57)
theorem num_p {L : Nat} {f : Nat → Nat} {lo hi : Nat} (hC : TxC L f) (hlo : lo ≤ 1) (hhi : hi ≤ 999) : ∀ (d p n n' v : Nat), p + d = L → d < n → d < n' → lo ≤ v → v ≤ hi → ∃ (r r' : Int32) (q : Nat), p ≤ q ∧ q ≤ L ∧ (∀ (m t : Mem) (s : Nat → Int32), Tx L f m t → pX3_takeNumber_2 (nI lo) (nI hi) n (nI v) (cu t p) = some (r, cu t q) ∧ pX5_number_47 (nI hi) n' (nI v) (mp (cm m p) s) = some (r', mp (cm m q) s)) ∧ NumE L f lo hi q r r' := by
  intro d
  induction d with
  | zero =>
    intro p n n' v hp hn hn' h1 h2
    obtain ⟨a, rfl⟩ : ∃ p, n = p + 1 := ⟨n - 1, by omega⟩
    obtain ⟨a', rfl⟩ : ∃ p, n' = p + 1 := ⟨n' - 1, by omega⟩
    obtain rfl : p = L := by omega
    have hL := hC.1
    refine ⟨nI v, nI v, p, Nat.le_refl _, Nat.le_refl _, fun m t s hT => ⟨?_, ?_⟩, Or.inl ⟨rfl, Or.inr ⟨v, h1, h2, rfl⟩⟩⟩
    · show pX3_takeNumber_2b (nI lo) (nI hi) _ (nI v) (cu t p) = _
      unfold pX3_takeNumber_2b
      rw [cu_1, cu_o (by decide), hT.2.1, if_pos (Int32.le_refl _)]
    · show pX5_number_47b (nI hi) _ (nI v) (mp (cm m p) s) = _
      unfold pX5_number_47b pX5_number_107
      rw [sgn_m hC hT (Nat.le_refl _), ob_some, show sg p f p = 0 by unfold sg; rw [if_neg (by omega)], show pX5_in (nI 0) 48 57 = some 0 by decide, ob_some]
      split
      · rfl
      · rw [if_pos rfl]
  | succ d ih =>
    intro p n n' v hp hn hn' h1 h2
    obtain ⟨a, rfl⟩ : ∃ p, n = p + 1 := ⟨n - 1, by omega⟩
    obtain ⟨a', rfl⟩ : ∃ p, n' = p + 1 := ⟨n' - 1, by omega⟩
    have hL := hC.1
    have hpL : p < L := by omega
    have hsg : sg L f p = f p := by unfold sg; rw [if_pos hpL]
    have hf := hC.2 p hpL
    have e1 : ∀ (m t : Mem), Tx L f m t → pX3_takeNumber_2 (nI lo) (nI hi) (a + 1) (nI v) (cu t p) = if f p < 48 then some (nI v, cu t p) else if f p ≤ 57 then (if v = 0 then some (-1, cu t p) else if v * 10 + (f p - 48) < lo then some (-1, cu t p) else if v * 10 + (f p - 48) ≤ hi then pX3_takeNumber_2 (nI lo) (nI hi) a (nI (v * 10 + (f p - 48))) (cu t (p + 1)) else some (-1, cu t p)) else some (nI v, cu t p) := by
      intro m t hT
      show pX3_takeNumber_2b (nI lo) (nI hi) _ (nI v) (cu t p) = _
      unfold pX3_takeNumber_2b pX3_takeNumber_33 pX3_takeNumber_67
      rw [sgn_u hC hT (by omega), ob_some, hsg, cu_1, cu_o (by decide), hT.2.1, if_neg (nI_ge hpL (by omega)), if_neg (nI_pos (by omega)), pf_e, ob_some, nI_1, cu_pf]
      by_cases c1 : f p < 48
      · rw [if_pos (show nI (f p) < 48 from nI_lt (b := 48) c1 (by decide)), if_pos c1]
      · rw [if_neg (show ¬ nI (f p) < 48 from nI_nlt (a := f p) (b := 48) (by omega) (by omega)), if_neg c1]
        by_cases c2 : f p ≤ 57
        · rw [if_pos (show nI (f p) ≤ 57 from nI_le (b := 57) c2 (by decide)), if_pos c2]
          have ev : nI v * 10 + (nI (f p) - 48) = nI (v * 10 + (f p - 48)) := by
            rw [show (10 : Int32) = nI 10 from rfl, pk_mul, show nI (f p) - 48 = nI (f p - 48) from pk_sub (b := 48) (by omega), nI_add]
          rw [ev]
          by_cases c3 : v = 0
          · rw [if_pos (show nI v = 0 by rw [c3]; rfl), if_pos c3]
          · rw [if_neg (nI_ne0 (by omega) (by omega)), if_neg c3]
            by_cases c4 : v * 10 + (f p - 48) < lo
            · rw [if_pos (nI_lt c4 (by omega)), if_pos c4]
            · rw [if_neg (nI_nlt (by omega) (by omega)), if_neg c4]
              by_cases c5 : v * 10 + (f p - 48) ≤ hi
              · rw [if_pos (nI_le c5 (by omega)), if_pos c5]
              · rw [if_neg (nI_ge (by omega) (by omega)), if_neg c5]
        · rw [if_neg (show ¬ nI (f p) ≤ 57 from nI_ge (a := 57) (by omega) (by omega)), if_neg c2]
    have e2 : ∀ (m t : Mem) (s : Nat → Int32), Tx L f m t → pX5_number_47 (nI hi) (a' + 1) (nI v) (mp (cm m p) s) = if v = 0 then some (nI v, mp (cm m p) s) else if 48 ≤ f p ∧ f p ≤ 57 then (if v * 10 + (f p - 48) ≤ hi then pX5_number_47 (nI hi) a' (nI (v * 10 + (f p - 48))) (mp (cm m (p + 1)) s) else some (nI v, mp (cm m p) s)) else some (nI v, mp (cm m p) s) := by
      intro m t s hT
      show pX5_number_47b (nI hi) _ (nI v) (mp (cm m p) s) = _
      unfold pX5_number_47b pX5_number_107
      rw [sgn_m hC hT (by omega), ob_some, hsg, show pX5_in (nI (f p)) 48 57 = some (if 48 ≤ f p ∧ f p ≤ 57 then 1 else 0) from in_n (a := 48) (b := 57) (by omega) (by decide) (by decide), ob_some, ob_some, ob_some, pf_e, ob_some, mp_mset0, mp_0, cm_3, nI_1, cm_pf]
      by_cases c3 : v = 0
      · rw [if_pos (show nI v ≤ 0 by rw [c3]; decide), if_pos c3]
      · rw [if_neg (nI_nle (by omega) (by omega)), if_neg c3]
        by_cases c1 : 48 ≤ f p ∧ f p ≤ 57
        · rw [if_pos c1, if_neg one0, if_pos c1]
          have ev : (10 : Int32) * nI v + nI (f p) - 48 = nI (v * 10 + (f p - 48)) := by
            rw [show (10 : Int32) = nI 10 from rfl, pk_mul, nI_add, show (48 : Int32) = nI 48 from rfl, pk_sub (by omega)]
            congr 1
            omega
          rw [ev]
          by_cases c5 : v * 10 + (f p - 48) ≤ hi
          · rw [if_neg (nI_nlt c5 (by omega)), if_pos c5]
          · rw [if_pos (nI_lt (by omega) (by omega)), if_neg c5]
        · rw [if_neg c1, if_pos rfl, if_neg c1]
    have stop : ∀ r' : Int32, r' = nI v → ∀ q, q = p → NumE L f lo hi q (nI v) r' := fun r' e q _ => Or.inl ⟨e.symm, Or.inr ⟨v, h1, h2, rfl⟩⟩
    by_cases c1 : f p < 48
    · refine ⟨nI v, nI v, p, Nat.le_refl _, by omega, fun m t s hT => ⟨by rw [e1 m t hT, if_pos c1], ?_⟩, stop _ rfl _ rfl⟩
      rw [e2 m t s hT, if_neg (show ¬ (48 ≤ f p ∧ f p ≤ 57) by omega)]
      split <;> rfl
    · by_cases c2 : f p ≤ 57
      · have dig : 48 ≤ sg L f p ∧ sg L f p ≤ 57 := by rw [hsg]; omega
        by_cases c3 : v = 0
        · refine ⟨-1, nI v, p, Nat.le_refl _, by omega, fun m t s hT => ⟨by rw [e1 m t hT, if_neg c1, if_pos c2, if_pos c3], by rw [e2 m t s hT, if_pos c3]⟩, Or.inr ⟨rfl, nI_m1 (by omega), dig⟩⟩
        · have c4 : ¬ v * 10 + (f p - 48) < lo := by omega
          by_cases c5 : v * 10 + (f p - 48) ≤ hi
          · obtain ⟨r, r', q, q1, q2, q3, q4⟩ := ih (p + 1) a a' (v * 10 + (f p - 48)) (by omega) (by omega) (by omega) (by omega) c5
            refine ⟨r, r', q, by omega, q2, fun m t s hT => ⟨?_, ?_⟩, q4⟩
            · rw [e1 m t hT, if_neg c1, if_pos c2, if_neg c3, if_neg c4, if_pos c5]; exact (q3 m t s hT).1
            · rw [e2 m t s hT, if_neg c3, if_pos (by omega), if_pos c5]; exact (q3 m t s hT).2
          · refine ⟨-1, nI v, p, Nat.le_refl _, by omega, fun m t s hT => ⟨by rw [e1 m t hT, if_neg c1, if_pos c2, if_neg c3, if_neg c4, if_neg c5], by rw [e2 m t s hT, if_neg c3, if_pos (by omega), if_neg c5]⟩, Or.inr ⟨rfl, nI_m1 (by omega), dig⟩⟩
      · refine ⟨nI v, nI v, p, Nat.le_refl _, by omega, fun m t s hT => ⟨by rw [e1 m t hT, if_neg c1, if_neg c2], ?_⟩, stop _ rfl _ rfl⟩
        rw [e2 m t s hT, if_neg (show ¬ (48 ≤ f p ∧ f p ≤ 57) by omega)]
        split <;> rfl
/-- a number, from its start -/
theorem num_r {L : Nat} {f : Nat → Nat} {lo hi p : Nat} (hC : TxC L f) (hlo : lo ≤ 1) (h9 : 9 ≤ hi) (hhi : hi ≤ 999) (hp : p ≤ L) : ∃ (r r' : Int32) (q : Nat), p ≤ q ∧ q ≤ L ∧ (∀ (m t : Mem) (s : Nat → Int32), Tx L f m t → pX3_takeNumber (cu t p) (nI lo) (nI hi) = some (r, cu t q) ∧ pX5_number (mp (cm m p) s) (nI lo) (nI hi) = some (r', mp (cm m q) s)) ∧ NumE L f lo hi q r r' := by
  have hL := hC.1
  have hs := sg_le hC p
  have e2 : ∀ (m t : Mem) (s : Nat → Int32), Tx L f m t → pX5_number (mp (cm m p) s) (nI lo) (nI hi) = if 48 + lo ≤ sg L f p ∧ sg L f p ≤ 57 then pX5_number_47 (nI hi) FU (nI (sg L f p - 48)) (mp (cm m (p + 1)) s) else some (-1, mp (cm m p) s) := by
    intro m t s hT
    unfold pX5_number pX5_number_27 pX5_number_43
    rw [sgn_m hC hT hp, ob_some, show (48 : Int32) + nI lo = nI (48 + lo) from nI_add 48 lo, show pX5_in (nI (sg L f p)) (nI (48 + lo)) 57 = some (if 48 + lo ≤ sg L f p ∧ sg L f p ≤ 57 then 1 else 0) from in_n (b := 57) (by omega) (by omega) (by decide), ob_some, ob_some]
    simp only [pf_e, ob_some, mp_0, cm_3, Int32.add_zero, nI_1, mp_mset0, cm_pf]
    by_cases c : 48 + lo ≤ sg L f p ∧ sg L f p ≤ 57
    · rw [if_pos c, if_pos c, if_neg one0, show nI (sg L f p) - 48 = nI (sg L f p - 48) from pk_sub (b := 48) (by omega), if_neg (nI_m1 (by omega))]
    · rw [if_neg c, if_neg c, if_pos rfl, if_pos True.intro]
      rfl
  have stop : NumE L f lo hi p (-1) (-1) := Or.inl ⟨rfl, Or.inl rfl⟩
  by_cases cp : p < L
  · have hsg : sg L f p = f p := by unfold sg; rw [if_pos cp]
    have hf := hC.2 p cp
    have e1 : ∀ (m t : Mem), Tx L f m t → pX3_takeNumber (cu t p) (nI lo) (nI hi) = if f p < 48 then some (-1, cu t p) else if f p ≤ 57 then (if f p - 48 < lo then some (-1, cu t p) else pX3_takeNumber_2 (nI lo) (nI hi) 999 (nI (f p - 48)) (cu t (p + 1))) else some (-1, cu t p) := by
      intro m t hT
      show pX3_takeNumber_2b (nI lo) (nI hi) _ (-1) (cu t p) = _
      unfold pX3_takeNumber_2b pX3_takeNumber_33 pX3_takeNumber_67
      rw [sgn_u hC hT hp, ob_some, hsg, cu_1, cu_o (by decide), hT.2.1, if_neg (nI_ge cp (by omega)), pf_e, ob_some, nI_1, cu_pf]
      by_cases c1 : f p < 48
      · rw [if_pos (show nI (f p) < 48 from nI_lt (b := 48) c1 (by decide)), if_pos c1]
      · rw [if_neg (show ¬ nI (f p) < 48 from nI_nlt (a := f p) (b := 48) (by omega) (by omega)), if_neg c1]
        by_cases c2 : f p ≤ 57
        · rw [if_pos (show nI (f p) ≤ 57 from nI_le (b := 57) c2 (by decide)), if_pos c2, if_neg (by decide)]
          rw [show (if (-1 : Int32) < 0 then (0 : Int32) else (-1)) * 10 + (nI (f p) - 48) = nI (f p - 48) by rw [if_pos (by decide), show (0 : Int32) * 10 = nI 0 from rfl, show nI (f p) - 48 = nI (f p - 48) from pk_sub (b := 48) (by omega), nI_add, Nat.zero_add]]
          by_cases c4 : f p - 48 < lo
          · rw [if_pos (nI_lt c4 (by omega)), if_pos c4]
          · rw [if_neg (nI_nlt (by omega) (by omega)), if_neg c4, if_pos (nI_le (by omega) (by omega))]
        · rw [if_neg (show ¬ nI (f p) ≤ 57 from nI_ge (a := 57) (by omega) (by omega)), if_neg c2]
    rw [hsg] at e2
    by_cases c : 48 + lo ≤ f p ∧ f p ≤ 57
    · obtain ⟨r, r', q, q1, q2, q3, q4⟩ := num_p hC hlo hhi (L - (p + 1)) (p + 1) 999 FU (f p - 48) (by omega) (by omega) (by unfold FU; omega) (by omega) (by omega)
      refine ⟨r, r', q, by omega, q2, fun m t s hT => ⟨?_, ?_⟩, q4⟩
      · rw [e1 m t hT, if_neg (by omega), if_pos c.2, if_neg (by omega)]; exact (q3 m t s hT).1
      · rw [e2 m t s hT, if_pos c]; exact (q3 m t s hT).2
    · refine ⟨-1, -1, p, Nat.le_refl _, hp, fun m t s hT => ⟨?_, by rw [e2 m t s hT, if_neg c]⟩, stop⟩
      rw [e1 m t hT]
      by_cases c1 : f p < 48
      · rw [if_pos c1]
      · rw [if_neg c1]
        by_cases c2 : f p ≤ 57
        · rw [if_pos c2, if_pos (by omega)]
        · rw [if_neg c2]
  · have hsg : sg L f p = 0 := by unfold sg; rw [if_neg cp]
    refine ⟨-1, -1, p, Nat.le_refl _, hp, fun m t s hT => ⟨?_, by rw [e2 m t s hT, hsg, if_neg (by omega)]⟩, stop⟩
    show pX3_takeNumber_2b (nI lo) (nI hi) _ (-1) (cu t p) = _
    unfold pX3_takeNumber_2b pX3_takeNumber_33
    rw [cu_1, cu_o (by decide), hT.2.1, if_pos (nI_le (by omega) (by omega))]
