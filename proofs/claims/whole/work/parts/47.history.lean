/-! THE SAVED STATES, on both sides: a ring there, blocks here. -/
/-- two states alike where it counts -/
def Ag (v u : Mem) : Prop := (v 0 0 = u 0 0 ∧ v 0 1 = u 0 1 ∧ v 0 2 = u 0 2 ∧ v 0 3 = u 0 3 ∧ v 6 0 = u 6 0 ∧ v 6 1 = u 6 1) ∧ (∀ i, i < 9 → v 10 i = u 10 i) ∧ (∀ b, b < 64 → v 7 b = u 7 b ∧ v 8 b = u 8 b ∧ v 9 b = u 9 b) ∧ ∀ k, k < 12 → v 1 k = u 1 k ∧ v 2 k = u 2 k ∧ v 3 k = u 3 k ∧ v 4 k = u 4 k ∧ v 5 k = u 5 k
theorem rel_ag {s : Nat → Int32} {u v : Mem} (h : Rel s u) (g : Ag v u) : Rel s v := by
  obtain ⟨⟨g1, g2, g3, g4, g5, g6⟩, g7, g8, g9⟩ := g
  unfold Rel
  rw [g1, g2, g3, g4, g5, g6]
  refine ⟨h.1, fun i hi => by rw [g7 i hi]; exact h.2.1 i hi, fun b hb => ?_, fun k hk => ?_⟩
  · rw [(g8 b hb).1, (g8 b hb).2.1, (g8 b hb).2.2]; exact h.2.2.1 b hb
  · rw [(g9 k hk).1, (g9 k hk).2.1, (g9 k hk).2.2.1, (g9 k hk).2.2.2.1, (g9 k hk).2.2.2.2]; exact h.2.2.2 k hk
theorem inv_ag {N : Nat} {u v : Mem} (h : Inv N u) (g : Ag v u) : Inv N v := by
  obtain ⟨⟨g1, g2, g3, g4, g5, g6⟩, g7, g8, g9⟩ := g
  obtain ⟨h1, ⟨L, c, l1, l2, l3, l4, l5, l6⟩, ⟨n, n1, n2⟩, h4, h5⟩ := h
  refine ⟨by rw [g4, g6]; exact h1, ⟨L, c, l1, l2, l3, g2.trans l4, g3.trans l5, fun e k hk => (g9 k hk).1.trans (l6 e k hk)⟩, ⟨n, n1, g5.trans n2⟩, fun k hk => ?_, fun b hb => by rw [(g8 b hb).2.1, (g8 b hb).2.2]; exact h5 b hb⟩
  unfold LineOK
  rw [(g9 k hk).1, (g9 k hk).2.2.2.2]
  rcases h4 k hk with e | ⟨b, b1, b2', b3, b4, b5⟩
  · exact Or.inl e
  · exact Or.inr ⟨b, b1, b2', b3, b4, by rw [(g8 b b1).2.2]; exact b5⟩
theorem mrow_at (u : Mem) (k : Nat) (f : Nat → Int32) (k' : Nat) : mrow u k f k' = if k' = k then f else u k' := by
  unfold mrow
  by_cases h : k' = k
  · subst h; rw [Nat.beq_refl, if_pos rfl]; rfl
  · rw [beqF h, if_neg h]; rfl
theorem allz_of {f : Nat → Int32} : ∀ {n : Nat}, (∀ i, i < n → isz (f i) = true) → allz f n = true
  | 0, _ => rfl
  | n + 1, h => by
    simp only [allz, Bool.and_eq_true]
    exact ⟨allz_of (fun i hi => h i (by omega)), h n (by omega)⟩
theorem dirty_z {u : Mem} {k : Nat} (hl : LineOK u k) : isz (u 5 k) = true := by
  rcases hl with ⟨-, e⟩ | ⟨b, -, -, -, e, -⟩
  · rw [e]; rfl
  · exact z01 e
theorem cpy_at (f g : Nat → Int32) (n i : Nat) (h : i < n) : va_cpy f g 0 0 n i = f i := by
  unfold va_cpy
  simp
  intro h2
  omega
theorem copy_r {N : Nat} (w : Mem) {u : Mem} (hI : Inv N u) : ∃ v : Mem, pX1_copyFrom w u = some v ∧ Ag v u := by
  have hz : allz (u 5) 12 = true := allz_of (fun i hi => dirty_z (hI.2.2.2.1 i hi))
  unfold pX1_copyFrom pX2_copyFrom cpr cpz
  simp only [ob_some, if_pos hz, pf_e, pz_e (z01 hI.1.1), pz_e (z01 hI.1.2)]
  refine ⟨_, rfl, ?_⟩
  exact ⟨⟨rfl, rfl, rfl, rfl, rfl, rfl⟩, fun i hi => cpy_at (u 10) _ 9 i hi, fun b hb => ⟨cpy_at (u 7) _ 64 b hb, cpy_at (u 8) _ 64 b hb, cpy_at (u 9) _ 64 b hb⟩, fun k hk => ⟨cpy_at (u 1) _ 12 k hk, cpy_at (u 2) _ 12 k hk, cpy_at (u 3) _ 12 k hk, cpy_at (u 4) _ 12 k hk, cpy_at (u 5) _ 12 k hk⟩⟩
theorem xor6 {x : Nat} (hx : x < 2 ^ 31) : 0 ≤ (nI x ^^^ 6) := by
  have h0 : (nI x).toBitVec.msb = false := by
    rw [BitVec.msb_eq_toInt]
    have := nI_toInt hx
    show decide ((nI x).toInt < 0) = false
    rw [this]
    exact decide_eq_false (by omega)
  have h1 : (nI x ^^^ 6).toBitVec.msb = false := by
    rw [Int32.toBitVec_xor, BitVec.msb_xor, h0]
    decide
  rw [BitVec.msb_eq_toInt] at h1
  have h2 := of_decide_eq_false h1
  rw [Int32.le_iff_toInt_le]
  exact Int.not_lt.mp h2
theorem fm6 {x : Nat} (hx : x < 2 ^ 31) : pJ9_floorMod_7cf53 (nI x) 6 = some (nI (x % 6)) := by
  unfold pJ9_floorMod_7cf53 pJ9_floorMod_7cf53_18
  rw [show nzr 6 = some () by decide, ob_some, if_pos (xor6 hx)]
  rw [show nI x - nI x / 6 * 6 = nI (x % 6) from pk_rem (d := 6) hx (by decide) (by decide)]
/-- a block of the model's numbers -/
def bk (s : Nat → Int32) (i : Nat) : Nat → Int32 := fun j => s (331 * i + j)
theorem rel_eq {s s' : Nat → Int32} {u : Mem} (h : Rel s u) (e : ∀ j, j < 331 → s' j = s j) : Rel s' u := by
  unfold Rel at *
  rw [e 0 (by decide), e 1 (by decide), e 2 (by decide), e 3 (by decide), e 4 (by decide), e 5 (by decide)]
  refine ⟨h.1, fun i hi => by rw [e (6 + i) (by omega)]; exact h.2.1 i hi, fun b hb => ?_, fun k hk => ?_⟩
  · rw [e (15 + 2 * b) (by omega), e (15 + 2 * b + 1) (by omega), e (143 + 2 * b + 1) (by omega)]; exact h.2.2.1 b hb
  · rw [e (271 + 5 * k) (by omega), e (271 + 5 * k + 1) (by omega), e (271 + 5 * k + 2) (by omega), e (271 + 5 * k + 3) (by omega), e (271 + 5 * k + 4) (by omega)]; exact h.2.2.2 k hk
def cpi (s : Nat → Int32) (x y i : Nat) : Nat → Int32 := fun k => if 331 * y ≤ k ∧ k < 331 * y + i then s (k - 331 * y + 331 * x) else s k
theorem cp_p {m : Mem} {s : Nat → Int32} {x y : Nat} (hx : x ≤ 6) (hy : y ≤ 6) (hxy : ¬ x = y) : ∀ (d i n : Nat), i + d = 331 → d < n → pX5_copies_2 (nI x) (nI y) n (nI i) (mp m (cpi s x y i)) = some (mp m (cpi s x y 331)) := by
  intro d
  induction d with
  | zero =>
    intro i n hi hn
    obtain ⟨p, rfl⟩ : ∃ p, n = p + 1 := ⟨n - 1, by omega⟩
    obtain rfl : i = 331 := by omega
    show pX5_copies_2b (nI x) (nI y) _ (nI 331) _ = _
    unfold pX5_copies_2b
    rw [if_pos at331]
  | succ d ih =>
    intro i n hi hn
    obtain ⟨p, rfl⟩ : ∃ p, n = p + 1 := ⟨n - 1, by omega⟩
    have hi2 : i < 331 := by omega
    show pX5_copies_2b (nI x) (nI y) _ (nI i) _ = _
    unfold pX5_copies_2b
    have e : ∀ q, (331 : Int32) * nI q + nI i = nI (331 * q + i) := fun q => by rw [show (331 : Int32) = nI 331 from rfl, pk_mul, nI_add]
    rw [if_neg (ge331 hi2), e, e, ld_m (by omega), ob_some, st_m (by omega), ob_some, nI_1]
    rw [← ih (i + 1) p (by omega) (by omega)]
    congr 2
    funext k
    have e1 : cpi s x y i (331 * x + i) = s (331 * x + i) := by unfold cpi; rw [if_neg (by omega)]
    rw [e1, upd_at]
    unfold cpi
    by_cases c : k = 331 * y + i
    · subst c
      rw [if_pos rfl, if_pos (by omega), show 331 * y + i - 331 * y + 331 * x = 331 * x + i by omega]
    · rw [if_neg c]
      by_cases c2 : 331 * y ≤ k ∧ k < 331 * y + i
      · rw [if_pos c2, if_pos (by omega)]
      · rw [if_neg c2, if_neg (by omega)]
theorem cp_r {m : Mem} {s : Nat → Int32} {x y : Nat} (hx : x ≤ 6) (hy : y ≤ 6) (hxy : ¬ x = y) : pX5_copies (mp m s) (nI x) (nI y) = some (mp m (cpi s x y 331)) := by
  have h := cp_p (m := m) (s := s) hx hy hxy 331 0 FU rfl (by decide)
  rw [show cpi s x y 0 = s by funext k; unfold cpi; rw [if_neg (by omega)]] at h
  exact h
theorem bk_new {s : Nat → Int32} {x y j : Nat} (hj : j < 331) : bk (cpi s x y 331) y j = bk s x j := by
  unfold bk cpi
  rw [if_pos (by omega)]
  congr 1
  omega
theorem bk_old {s : Nat → Int32} {x y i j : Nat} (hi : ¬ i = y) (hj : j < 331) : bk (cpi s x y 331) i j = bk s i j := by
  unfold bk cpi
  rw [if_neg (by omega)]
/-- the saved states of both sides: the i-th youngest -/
def Hist (N J : Nat) (s : Nat → Int32) (z9 : Int32) (hh : Mem) (S : Nat → Mem) : Prop := ∃ x z : Nat, z ≤ 6 ∧ z ≤ x ∧ x ≤ J ∧ hh 0 0 = nI z ∧ hh 0 1 = nI x ∧ z9 = nI z ∧ ∀ i, i < z → Rel (bk s (z - i)) (S ((x - 1 - i) % 6)) ∧ Inv N (S ((x - 1 - i) % 6))
theorem Hist.mono {N J N' J' : Nat} {s : Nat → Int32} {z9 : Int32} {hh : Mem} {S : Nat → Mem} (h : Hist N J s z9 hh S) (hN : N ≤ N') (hJ : J ≤ J') : Hist N' J' s z9 hh S := by
  obtain ⟨x, z, h1, h2, h3, h4, h5, h6, h7⟩ := h
  exact ⟨x, z, h1, h2, Nat.le_trans h3 hJ, h4, h5, h6, fun i hi => ⟨(h7 i hi).1, (h7 i hi).2.mono hN⟩⟩
theorem Hist.same {N J : Nat} {s s' : Nat → Int32} {z9 : Int32} {hh : Mem} {S : Nat → Mem} (h : Hist N J s z9 hh S) (hs : Same s s') : Hist N J s' z9 hh S := by
  obtain ⟨x, z, h1, h2, h3, h4, h5, h6, h7⟩ := h
  refine ⟨x, z, h1, h2, h3, h4, h5, h6, fun i hi => ⟨rel_eq (h7 i hi).1 (fun j hj => ?_), (h7 i hi).2⟩⟩
  unfold bk
  exact hs _ (by omega)
theorem upS_at (S : Nat → Mem) (j : Nat) (v : Mem) (k : Nat) : upS S j v k = if k = j then v else S k := by
  unfold upS
  by_cases h : k = j
  · subst h; rw [Nat.beq_refl, if_pos rfl]; rfl
  · rw [beqF h, if_neg h]; rfl
theorem save_u {N : Nat} {u hh : Mem} {S : Nat → Mem} {x z : Nat} (hI : Inv N u) (hz : z ≤ 6) (hx : x < 2 ^ 30) (e0 : hh 0 0 = nI z) (e1 : hh 0 1 = nI x) : ∃ (h' : Mem) (v : Mem), pX0_save u hh S = some (h', upS S (x % 6) v) ∧ Ag v u ∧ h' 0 0 = nI (min 6 (z + 1)) ∧ h' 0 1 = nI (x + 1) := by
  obtain ⟨v, hv, hg⟩ := copy_r (S (x % 6)) hI
  unfold pX0_save
  rw [e1, fm6 (by omega), ob_some, if_pos (inB_nI (Nat.mod_lt _ (by decide)) (by decide)), nI_clamp (by omega), hv, ob_some]
  simp only [pf_e, ob_some]
  refine ⟨_, v, rfl, hg, ?_, ?_⟩
  · rw [mset_at, if_pos rfl, if_pos rfl]
    rw [show mset hh 0 1 (nI x + 1) 0 0 = nI z by rw [mset_at, if_pos rfl, if_neg (by decide)]; exact e0, nI_1]
    by_cases c : 6 < z + 1
    · rw [if_pos (show (6 : Int32) < nI (z + 1) from nI_lt (a := 6) c (by omega)), show min 6 (z + 1) = 6 by omega]; rfl
    · rw [if_neg (show ¬ (6 : Int32) < nI (z + 1) from nI_nlt (a := 6) (b := z + 1) (by omega) (by decide)), show min 6 (z + 1) = z + 1 by omega]
  · rw [mset_at, if_pos rfl, if_neg (by decide), mset_at, if_pos rfl, if_pos rfl, nI_1]
theorem kp_end {m : Mem} {s : Nat → Int32} {a b : Int32} {z' : Nat} (hz : z' ≤ 6) (h0 : ¬ z' = 0) (e : a + b = nI z') : pX5_keeps_50 a b (mp m s) = some (mp (mset m 0 1 (nI z')) (cpi s 0 z' 331)) := by
  unfold pX5_keeps_50
  rw [pf_e, ob_some, e, mp_mset0, show mp (mset m 0 1 (nI z')) s 0 1 = nI z' by show mset m 0 1 (nI z') 0 1 = _; rw [mset_at, if_pos rfl, if_pos rfl]]
  have := cp_r (m := mset m 0 1 (nI z')) (s := s) (x := 0) (y := z') (by decide) hz (fun e => h0 e.symm)
  rw [show (0 : Int32) = nI 0 from rfl, this, ob_some]
/-- the shift of all blocks but one, at a full row -/
def shf (s : Nat → Int32) : Nat → Nat → Int32
  | 0 => s
  | i + 1 => cpi (shf s i) (i + 2) (i + 1) 331
theorem kp_p {m : Mem} {s : Nat → Int32} (hm : m 0 1 = 6) : ∀ (d i n : Nat), i + d = 5 → d < n → pX5_keeps_2 n (nI (i + 1)) (mp m (shf s i)) = pX5_keeps_31 (mp m (shf s 5)) := by
  intro d
  induction d with
  | zero =>
    intro i n hi hn
    obtain ⟨p, rfl⟩ : ∃ p, n = p + 1 := ⟨n - 1, by omega⟩
    obtain rfl : i = 5 := by omega
    show pX5_keeps_2b _ (nI 6) _ = _
    unfold pX5_keeps_2b
    rw [if_pos at6]
  | succ d ih =>
    intro i n hi hn
    obtain ⟨p, rfl⟩ : ∃ p, n = p + 1 := ⟨n - 1, by omega⟩
    show pX5_keeps_2b _ (nI (i + 1)) _ = _
    unfold pX5_keeps_2b
    rw [if_neg (ge6 (by omega)), if_pos (show mp m (shf s i) 0 1 = 6 from hm), nI_1, cp_r (x := i + 1 + 1) (y := i + 1) (by omega) (by omega) (by omega), ob_some]
    exact ih (i + 1) p (by omega) (by omega)
theorem shf_bk (s : Nat → Int32) : ∀ (i q j : Nat), j < 331 → i ≤ 5 → bk (shf s i) q j = if 1 ≤ q ∧ q ≤ i then bk s (q + 1) j else bk s q j := by
  intro i
  induction i with
  | zero => intro q j hj hi; rw [if_neg (by omega)]; rfl
  | succ i ih =>
    intro q j hj hi
    show bk (cpi (shf s i) (i + 2) (i + 1) 331) q j = _
    by_cases c : q = i + 1
    · subst c
      rw [bk_new hj, ih (i + 2) j hj (by omega), if_neg (by omega), if_pos (by omega)]
    · rw [bk_old c hj, ih q j hj (by omega)]
      by_cases c2 : 1 ≤ q ∧ q ≤ i
      · rw [if_pos c2, if_pos (by omega)]
      · rw [if_neg c2, if_neg (by omega)]
/-- a state kept, on both sides -/
theorem keep_r {m : Mem} {N J : Nat} {u hh : Mem} {s : Nat → Int32} {S : Nat → Mem} (h : Rel s u) (hI : Inv N u) (hJ : J < 2 ^ 30) (hH : Hist N J s (m 0 1) hh S) : ∃ (h' : Mem) (S' : Nat → Mem) (z' : Int32) (s' : Nat → Int32), pX0_save u hh S = some (h', S') ∧ pX5_keeps (mp m s) = some (mp (mset m 0 1 z') s') ∧ Rel s' u ∧ Hist N (J + 1) s' z' h' S' := by
  obtain ⟨x, z, h1, h2, h3, h4, h5, h6, h7⟩ := hH
  obtain ⟨h', v, g1, g2, g3, g4⟩ := save_u (S := S) hI h1 (by omega) h4 h5
  have fin : ∀ (z' : Nat) (s0 : Nat → Int32), z' = min 6 (z + 1) → (∀ q j, j < 331 → (q = 0 ∨ z' ≤ z → True) → bk s0 0 j = bk s 0 j) → (∀ i, i + 1 < z' → ∀ j, j < 331 → bk s0 (z' - (i + 1)) j = bk s (z - i) j) → Rel (cpi s0 0 z' 331) u ∧ Hist N (J + 1) (cpi s0 0 z' 331) (nI z') h' (upS S (x % 6) v) := by
    intro z' s0 hz' hb0 hb
    have R0 : Rel (bk s0 0) u := rel_eq h (fun j hj => (hb0 0 j hj (fun _ => trivial)).trans (by unfold bk; congr 1; omega))
    refine ⟨rel_eq R0 (fun j hj => ?_), x + 1, z', by omega, by omega, by omega, by rw [hz']; exact g3, g4, rfl, fun i hi => ?_⟩
    · have := bk_old (s := s0) (x := 0) (y := z') (i := 0) (j := j) (by omega) hj
      rw [← this]; unfold bk; congr 1; omega
    · rcases i with _ | i
      · rw [show x + 1 - 1 - 0 = x by omega, upS_at, if_pos rfl, show z' - 0 = z' by omega]
        exact ⟨rel_ag (rel_eq R0 (fun j hj => bk_new hj)) g2, inv_ag hI g2⟩
      · have hiz : i < z := by omega
        have hne : ¬ (x - 1 - i) % 6 = x % 6 := by omega
        rw [show x + 1 - 1 - (i + 1) = x - 1 - i by omega, upS_at, if_neg hne]
        refine ⟨rel_eq (h7 i hiz).1 (fun j hj => ?_), (h7 i hiz).2⟩
        rw [bk_old (by omega) hj]
        exact hb i hi j hj
  by_cases c : z = 6
  · subst c
    obtain ⟨f1, f2⟩ := fin 6 (shf s 5) rfl (fun q j hj _ => by rw [shf_bk s 5 0 j hj (by decide), if_neg (by omega)]) (fun i hi j hj => by rw [shf_bk s 5 _ j hj (by decide), if_pos (by omega), show 6 - (i + 1) + 1 = 6 - i by omega])
    refine ⟨h', _, nI 6, _, g1, ?_, f1, f2⟩
    have e := kp_p (m := m) (s := s) (h6.trans rfl) 5 0 FU rfl (by decide)
    rw [show pX5_keeps (mp m s) = pX5_keeps_2 FU (nI (0 + 1)) (mp m (shf s 0)) from rfl, e]
    unfold pX5_keeps_31
    rw [show mp m (shf s 5) 0 1 = nI 6 from h6, if_pos at6]
    exact kp_end (by decide) (by decide) (Int32.add_zero _)
  · obtain ⟨f1, f2⟩ := fin (z + 1) s (by omega) (fun q j hj _ => rfl) (fun i hi j hj => by rw [show z + 1 - (i + 1) = z - i by omega])
    refine ⟨h', _, nI (z + 1), _, g1, ?_, f1, f2⟩
    have hz6 : ¬ m 0 1 = 6 := by rw [h6]; intro e; exact c ((nI_eq (by omega) (by decide)).mp (show nI z = nI 6 from e))
    have e : pX5_keeps (mp m s) = pX5_keeps_31 (mp m s) := by
      show pX5_keeps_2b _ (nI 1) (mp m s) = _
      unfold pX5_keeps_2b
      rw [if_neg (ge6 (by decide)), if_neg (show ¬ mp m s 0 1 = 6 from hz6)]
    rw [e]
    unfold pX5_keeps_31
    rw [show mp m s 0 1 = nI z from h6, if_neg (ge6 (by omega))]
    exact kp_end (by omega) (by omega) (nI_1 z)
/-- the youngest saved state taken back, on both sides -/
theorem undo_r {m : Mem} {N J : Nat} {u hh : Mem} {s : Nat → Int32} {S : Nat → Mem} (hJ : J < 2 ^ 30) (hH : Hist N J s (m 0 1) hh S) (h0 : ¬ hh 0 0 = 0) : ∃ (u' h' : Mem) (z' : Int32) (s' : Nat → Int32), pX0_restore u hh S = some (u', h') ∧ ((pX5_copies (mp m s) (m 0 1) 0).bind fun u104 => (pf u104 0 1 ((u104 0 1) - 1)).bind fun u105 => some ((u105 0 1), u105)) = some (h' 0 0, mp (mset m 0 1 z') s') ∧ Rel s' u' ∧ Inv N u' ∧ Hist N J s' z' h' S := by
  obtain ⟨x, z, h1, h2, h3, h4, h5, h6, h7⟩ := hH
  have hz : 1 ≤ z := by
    rcases Nat.eq_zero_or_pos z with e | e
    · subst e; exact absurd h4 h0
    · exact e
  obtain ⟨r1, r2⟩ := h7 0 hz
  rw [Nat.sub_zero, Nat.sub_zero] at r1
  rw [Nat.sub_zero] at r2
  obtain ⟨u', hv, hg⟩ := copy_r u r2
  have e1 : nI x - 1 = nI (x - 1) := pk_sub (b := 1) (by omega)
  have e2 : nI z - 1 = nI (z - 1) := pk_sub (b := 1) hz
  refine ⟨u', mset (mset hh 0 1 (nI (x - 1))) 0 0 (nI (z - 1)), nI (z - 1), cpi s z 0 331, ?_, ?_, ?_, inv_ag r2 hg, x - 1, z - 1, by omega, by omega, by omega, ?_, ?_, rfl, fun i hi => ?_⟩
  · unfold pX0_restore
    rw [pf_e, ob_some, h5, e1, show mset hh 0 1 (nI (x - 1)) 0 0 = nI z by rw [mset_at, if_pos rfl, if_neg (by decide)]; exact h4, e2, if_neg (nI_pos (by omega)), pf_e, ob_some, show mset (mset hh 0 1 (nI (x - 1))) 0 0 (nI (z - 1)) 0 1 = nI (x - 1) by rw [mset_at, if_pos rfl, if_neg (by decide), mset_at, if_pos rfl, if_pos rfl], fm6 (by omega), ob_some, if_pos (inB_nI (Nat.mod_lt _ (by decide)) (by decide)), nI_clamp (by omega), hv, ob_some]
  · rw [h6, show (0 : Int32) = nI 0 from rfl, cp_r (by omega) (by decide) (by omega), ob_some, pf_e, ob_some, mp_mset0]
    rw [show mp m (cpi s z 0 331) 0 1 = nI z from h6, e2]
    rw [show mp (mset m 0 1 (nI (z - 1))) (cpi s z 0 331) 0 1 = nI (z - 1) by show mset m 0 1 (nI (z - 1)) 0 1 = _; rw [mset_at, if_pos rfl, if_pos rfl]]
    rw [mset_at, if_pos rfl, if_pos rfl]
  · refine rel_ag (rel_eq r1 (fun j hj => ?_)) hg
    have := bk_new (s := s) (x := z) (y := 0) hj
    rw [← this]
    unfold bk
    congr 1
    omega
  · rw [mset_at, if_pos rfl, if_pos rfl]
  · rw [mset_at, if_pos rfl, if_neg (by decide), mset_at, if_pos rfl, if_pos rfl]
  · obtain ⟨q1, q2⟩ := h7 (i + 1) (by omega)
    rw [show x - 1 - 1 - i = x - 1 - (i + 1) by omega]
    refine ⟨rel_eq q1 (fun j hj => ?_), q2⟩
    rw [bk_old (by omega) hj, show z - 1 - i = z - (i + 1) by omega]
