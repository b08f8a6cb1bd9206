/-! THE TWO SIDES' STATES. u: a state of the class; s: the model's numbers of the state at hand (block 0 of its row). No machine here. -/
def mp (m : Mem) (s : Nat → Int32) : Mem := fun k => bif Nat.beq k 1 then s else m k
theorem beqF {a b : Nat} (h : ¬ a = b) : Nat.beq a b = false := by
  cases e : Nat.beq a b with
  | false => rfl
  | true => exact absurd (Nat.eq_of_beq_eq_true e) h
theorem mp_1 {m : Mem} {s : Nat → Int32} : mp m s 1 = s := rfl
theorem mp_0 {m : Mem} {s : Nat → Int32} : mp m s 0 = m 0 := rfl
theorem mp_2 {m : Mem} {s : Nat → Int32} : mp m s 2 = m 2 := rfl
theorem mp_self (m : Mem) : mp m (m 1) = m := by
  funext k
  by_cases h : k = 1
  · subst h; rfl
  · unfold mp; rw [beqF h]; rfl
theorem mset_at (u : Mem) (k i : Nat) (v : Int32) (k' j : Nat) : mset u k i v k' j = if k' = k then (if j = i then v else u k j) else u k' j := by
  unfold mset upd
  by_cases h : k' = k
  · subst h; rw [Nat.beq_refl, if_pos rfl]; rfl
  · rw [beqF h, if_neg h]; rfl
theorem mset_ne {u : Mem} {k i : Nat} {v : Int32} {k' : Nat} (h : ¬ k' = k) : mset u k i v k' = u k' := by
  funext j
  rw [mset_at, if_neg h]
theorem upd_at (f : Nat → Int32) (k : Nat) (x : Int32) (j : Nat) : upd f k x j = if j = k then x else f j := rfl
theorem mp_mset (m : Mem) (s : Nat → Int32) (i : Nat) (v : Int32) : mset (mp m s) 1 i v = mp m (upd s i v) := by
  funext k
  by_cases h : k = 1
  · subst h; rfl
  · rw [mset_ne h]; unfold mp; rw [beqF h]; rfl
theorem mp_mset0 (m : Mem) (s : Nat → Int32) (i : Nat) (v : Int32) : mset (mp m s) 0 i v = mp (mset m 0 i v) s := by
  funext k
  by_cases h : k = 1
  · subst h; rfl
  · by_cases h0 : k = 0
    · subst h0; rfl
    · rw [mset_ne h0]; unfold mp; rw [beqF h]; exact (mset_ne h0 ▸ rfl)
theorem inB_nI {i n : Nat} (h : i < n) (hn : n < 2 ^ 31) : inB (nI i) n = true := in_inB (vp_in_nI h hn)
theorem ld_n {u : Mem} {k n i : Nat} (h : i < n) (hn : n < 2 ^ 31) : ld u k n (nI i) = some (u k i) := by
  unfold ld
  rw [if_pos (inB_nI h hn), nI_clamp (Nat.lt_trans h hn)]
theorem st_n {u : Mem} {k n i : Nat} {v : Int32} (h : i < n) (hn : n < 2 ^ 31) : st u k n (nI i) v = some (mset u k i v) := by
  unfold st
  rw [if_pos (inB_nI h hn), nI_clamp (Nat.lt_trans h hn)]
theorem stz_n {u : Mem} {k n i : Nat} {v : Int32} (hz : isz v = true) (h : i < n) (hn : n < 2 ^ 31) : stz u k n (nI i) v = some (mset u k i v) := by
  unfold stz
  rw [if_pos hz]
  exact st_n h hn
theorem pf_e {u : Mem} {k i : Nat} {v : Int32} : pf u k i v = some (mset u k i v) := rfl
theorem pz_e {u : Mem} {k i : Nat} {v : Int32} (h : isz v = true) : pz u k i v = some (mset u k i v) := by
  unfold pz
  rw [if_pos h]
theorem ld_m {m : Mem} {s : Nat → Int32} {i : Nat} (h : i < 2317) : ld (mp m s) 1 2317 (nI i) = some (s i) := ld_n h (by decide)
theorem st_m {m : Mem} {s : Nat → Int32} {i : Nat} {v : Int32} (h : i < 2317) : st (mp m s) 1 2317 (nI i) v = some (mp m (upd s i v)) := by rw [st_n h (by decide), mp_mset]
theorem bd2_some {α : Type} (x : Int32) (u : Mem) (f : Int32 → Mem → Option α) : bd2 (some (x, u)) f = f x u := rfl
theorem ob_some {α β : Type} (x : α) (f : α → Option β) : (some x).bind f = f x := rfl
theorem ldm0 {m : Mem} {s : Nat → Int32} : ld (mp m s) 1 2317 0 = some (s 0) := ld_m (i := 0) (by decide)
theorem stm0 {m : Mem} {s : Nat → Int32} {v : Int32} : st (mp m s) 1 2317 0 v = some (mp m (upd s 0 v)) := st_m (i := 0) (by decide)
theorem ldm1 {m : Mem} {s : Nat → Int32} : ld (mp m s) 1 2317 1 = some (s 1) := ld_m (i := 1) (by decide)
theorem stm1 {m : Mem} {s : Nat → Int32} {v : Int32} : st (mp m s) 1 2317 1 v = some (mp m (upd s 1 v)) := st_m (i := 1) (by decide)
theorem ldm2 {m : Mem} {s : Nat → Int32} : ld (mp m s) 1 2317 2 = some (s 2) := ld_m (i := 2) (by decide)
theorem stm2 {m : Mem} {s : Nat → Int32} {v : Int32} : st (mp m s) 1 2317 2 v = some (mp m (upd s 2 v)) := st_m (i := 2) (by decide)
theorem ldm3 {m : Mem} {s : Nat → Int32} : ld (mp m s) 1 2317 3 = some (s 3) := ld_m (i := 3) (by decide)
theorem stm3 {m : Mem} {s : Nat → Int32} {v : Int32} : st (mp m s) 1 2317 3 v = some (mp m (upd s 3 v)) := st_m (i := 3) (by decide)
theorem ldm4 {m : Mem} {s : Nat → Int32} : ld (mp m s) 1 2317 4 = some (s 4) := ld_m (i := 4) (by decide)
theorem stm4 {m : Mem} {s : Nat → Int32} {v : Int32} : st (mp m s) 1 2317 4 v = some (mp m (upd s 4 v)) := st_m (i := 4) (by decide)
theorem ldm5 {m : Mem} {s : Nat → Int32} : ld (mp m s) 1 2317 5 = some (s 5) := ld_m (i := 5) (by decide)
theorem stm5 {m : Mem} {s : Nat → Int32} {v : Int32} : st (mp m s) 1 2317 5 v = some (mp m (upd s 5 v)) := st_m (i := 5) (by decide)
theorem ldm6 {m : Mem} {s : Nat → Int32} : ld (mp m s) 1 2317 6 = some (s 6) := ld_m (i := 6) (by decide)
theorem stm6 {m : Mem} {s : Nat → Int32} {v : Int32} : st (mp m s) 1 2317 6 v = some (mp m (upd s 6 v)) := st_m (i := 6) (by decide)
theorem ldm7 {m : Mem} {s : Nat → Int32} : ld (mp m s) 1 2317 7 = some (s 7) := ld_m (i := 7) (by decide)
theorem stm7 {m : Mem} {s : Nat → Int32} {v : Int32} : st (mp m s) 1 2317 7 v = some (mp m (upd s 7 v)) := st_m (i := 7) (by decide)
theorem ldm8 {m : Mem} {s : Nat → Int32} : ld (mp m s) 1 2317 8 = some (s 8) := ld_m (i := 8) (by decide)
theorem stm8 {m : Mem} {s : Nat → Int32} {v : Int32} : st (mp m s) 1 2317 8 v = some (mp m (upd s 8 v)) := st_m (i := 8) (by decide)
theorem ldm9 {m : Mem} {s : Nat → Int32} : ld (mp m s) 1 2317 9 = some (s 9) := ld_m (i := 9) (by decide)
theorem stm9 {m : Mem} {s : Nat → Int32} {v : Int32} : st (mp m s) 1 2317 9 v = some (mp m (upd s 9 v)) := st_m (i := 9) (by decide)
theorem ldm10 {m : Mem} {s : Nat → Int32} : ld (mp m s) 1 2317 10 = some (s 10) := ld_m (i := 10) (by decide)
theorem stm10 {m : Mem} {s : Nat → Int32} {v : Int32} : st (mp m s) 1 2317 10 v = some (mp m (upd s 10 v)) := st_m (i := 10) (by decide)
theorem ldm11 {m : Mem} {s : Nat → Int32} : ld (mp m s) 1 2317 11 = some (s 11) := ld_m (i := 11) (by decide)
theorem stm11 {m : Mem} {s : Nat → Int32} {v : Int32} : st (mp m s) 1 2317 11 v = some (mp m (upd s 11 v)) := st_m (i := 11) (by decide)
theorem ldm12 {m : Mem} {s : Nat → Int32} : ld (mp m s) 1 2317 12 = some (s 12) := ld_m (i := 12) (by decide)
theorem stm12 {m : Mem} {s : Nat → Int32} {v : Int32} : st (mp m s) 1 2317 12 v = some (mp m (upd s 12 v)) := st_m (i := 12) (by decide)
theorem ldm13 {m : Mem} {s : Nat → Int32} : ld (mp m s) 1 2317 13 = some (s 13) := ld_m (i := 13) (by decide)
theorem stm13 {m : Mem} {s : Nat → Int32} {v : Int32} : st (mp m s) 1 2317 13 v = some (mp m (upd s 13 v)) := st_m (i := 13) (by decide)
theorem ldm14 {m : Mem} {s : Nat → Int32} : ld (mp m s) 1 2317 14 = some (s 14) := ld_m (i := 14) (by decide)
theorem stm14 {m : Mem} {s : Nat → Int32} {v : Int32} : st (mp m s) 1 2317 14 v = some (mp m (upd s 14 v)) := st_m (i := 14) (by decide)
theorem ldc0 {u : Mem} : ld u 10 9 0 = some (u 10 0) := ld_n (i := 0) (by decide) (by decide)
theorem stc0 {u : Mem} {v : Int32} : st u 10 9 0 v = some (mset u 10 0 v) := st_n (i := 0) (by decide) (by decide)
theorem ldc1 {u : Mem} : ld u 10 9 1 = some (u 10 1) := ld_n (i := 1) (by decide) (by decide)
theorem stc1 {u : Mem} {v : Int32} : st u 10 9 1 v = some (mset u 10 1 v) := st_n (i := 1) (by decide) (by decide)
theorem ldc2 {u : Mem} : ld u 10 9 2 = some (u 10 2) := ld_n (i := 2) (by decide) (by decide)
theorem stc2 {u : Mem} {v : Int32} : st u 10 9 2 v = some (mset u 10 2 v) := st_n (i := 2) (by decide) (by decide)
theorem ldc3 {u : Mem} : ld u 10 9 3 = some (u 10 3) := ld_n (i := 3) (by decide) (by decide)
theorem stc3 {u : Mem} {v : Int32} : st u 10 9 3 v = some (mset u 10 3 v) := st_n (i := 3) (by decide) (by decide)
theorem ldc4 {u : Mem} : ld u 10 9 4 = some (u 10 4) := ld_n (i := 4) (by decide) (by decide)
theorem stc4 {u : Mem} {v : Int32} : st u 10 9 4 v = some (mset u 10 4 v) := st_n (i := 4) (by decide) (by decide)
theorem ldc5 {u : Mem} : ld u 10 9 5 = some (u 10 5) := ld_n (i := 5) (by decide) (by decide)
theorem stc5 {u : Mem} {v : Int32} : st u 10 9 5 v = some (mset u 10 5 v) := st_n (i := 5) (by decide) (by decide)
theorem ldc6 {u : Mem} : ld u 10 9 6 = some (u 10 6) := ld_n (i := 6) (by decide) (by decide)
theorem stc6 {u : Mem} {v : Int32} : st u 10 9 6 v = some (mset u 10 6 v) := st_n (i := 6) (by decide) (by decide)
theorem ldc7 {u : Mem} : ld u 10 9 7 = some (u 10 7) := ld_n (i := 7) (by decide) (by decide)
theorem stc7 {u : Mem} {v : Int32} : st u 10 9 7 v = some (mset u 10 7 v) := st_n (i := 7) (by decide) (by decide)
theorem ldc8 {u : Mem} : ld u 10 9 8 = some (u 10 8) := ld_n (i := 8) (by decide) (by decide)
theorem stc8 {u : Mem} {v : Int32} : st u 10 9 8 v = some (mset u 10 8 v) := st_n (i := 8) (by decide) (by decide)
theorem ix_dv (b : Nat) : (15 + (2 * nI b) : Int32) = nI (15 + 2 * b) := by
  rw [show (2 : Int32) = nI 2 from rfl, pk_mul, show (15 : Int32) = nI 15 from rfl, nI_add]
theorem ldm_dv {m : Mem} {s : Nat → Int32} {b : Nat} (h : b < 64) : ld (mp m s) 1 2317 (15 + (2 * nI b)) = some (s (15 + 2 * b)) := by
  rw [ix_dv]; exact ld_m (by omega)
theorem stm_dv {m : Mem} {s : Nat → Int32} {b : Nat} {v : Int32} (h : b < 64) : st (mp m s) 1 2317 (15 + (2 * nI b)) v = some (mp m (upd s (15 + 2 * b) v)) := by
  rw [ix_dv]; exact st_m (by omega)
theorem ix_ds (b : Nat) : ((15 + (2 * nI b)) + 1 : Int32) = nI (15 + 2 * b + 1) := by
  rw [show (2 : Int32) = nI 2 from rfl, pk_mul, show (15 : Int32) = nI 15 from rfl, nI_add, nI_1]
theorem ldm_ds {m : Mem} {s : Nat → Int32} {b : Nat} (h : b < 64) : ld (mp m s) 1 2317 ((15 + (2 * nI b)) + 1) = some (s (15 + 2 * b + 1)) := by
  rw [ix_ds]; exact ld_m (by omega)
theorem stm_ds {m : Mem} {s : Nat → Int32} {b : Nat} {v : Int32} (h : b < 64) : st (mp m s) 1 2317 ((15 + (2 * nI b)) + 1) v = some (mp m (upd s (15 + 2 * b + 1) v)) := by
  rw [ix_ds]; exact st_m (by omega)
theorem ix_lv (b : Nat) : (143 + (2 * nI b) : Int32) = nI (143 + 2 * b) := by
  rw [show (2 : Int32) = nI 2 from rfl, pk_mul, show (143 : Int32) = nI 143 from rfl, nI_add]
theorem ldm_lv {m : Mem} {s : Nat → Int32} {b : Nat} (h : b < 64) : ld (mp m s) 1 2317 (143 + (2 * nI b)) = some (s (143 + 2 * b)) := by
  rw [ix_lv]; exact ld_m (by omega)
theorem stm_lv {m : Mem} {s : Nat → Int32} {b : Nat} {v : Int32} (h : b < 64) : st (mp m s) 1 2317 (143 + (2 * nI b)) v = some (mp m (upd s (143 + 2 * b) v)) := by
  rw [ix_lv]; exact st_m (by omega)
theorem ix_la (b : Nat) : ((143 + (2 * nI b)) + 1 : Int32) = nI (143 + 2 * b + 1) := by
  rw [show (2 : Int32) = nI 2 from rfl, pk_mul, show (143 : Int32) = nI 143 from rfl, nI_add, nI_1]
theorem ldm_la {m : Mem} {s : Nat → Int32} {b : Nat} (h : b < 64) : ld (mp m s) 1 2317 ((143 + (2 * nI b)) + 1) = some (s (143 + 2 * b + 1)) := by
  rw [ix_la]; exact ld_m (by omega)
theorem stm_la {m : Mem} {s : Nat → Int32} {b : Nat} {v : Int32} (h : b < 64) : st (mp m s) 1 2317 ((143 + (2 * nI b)) + 1) v = some (mp m (upd s (143 + 2 * b + 1) v)) := by
  rw [ix_la]; exact st_m (by omega)
theorem ix_of (k j : Nat) : (271 + (5 * nI k)) + nI j = nI (271 + 5 * k + j) := by rw [show (5 : Int32) = nI 5 from rfl, pk_mul, show (271 : Int32) = nI 271 from rfl, nI_add, nI_add]
theorem of_n {m : Mem} {s : Nat → Int32} {k j : Nat} (h : k < 12) (hj : j < 5) : pX5_of (mp m s) (nI k) (nI j) = some (s (271 + 5 * k + j)) := by
  unfold pX5_of
  rw [ix_of, ld_m (by omega)]
  rfl
theorem lay_n {m : Mem} {s : Nat → Int32} {k j : Nat} {v : Int32} (h : k < 12) (hj : j < 5) : pX5_lay (mp m s) (nI k) (nI j) v = some (mp m (upd s (271 + 5 * k + j) v)) := by
  unfold pX5_lay
  rw [ix_of, st_m (by omega)]
  rfl
theorem of0 {m : Mem} {s : Nat → Int32} {k : Nat} (h : k < 12) : pX5_of (mp m s) (nI k) 0 = some (s (271 + 5 * k + 0)) := of_n (j := 0) h (by decide)
theorem lay0 {m : Mem} {s : Nat → Int32} {k : Nat} {v : Int32} (h : k < 12) : pX5_lay (mp m s) (nI k) 0 v = some (mp m (upd s (271 + 5 * k + 0) v)) := lay_n (j := 0) h (by decide)
theorem of1 {m : Mem} {s : Nat → Int32} {k : Nat} (h : k < 12) : pX5_of (mp m s) (nI k) 1 = some (s (271 + 5 * k + 1)) := of_n (j := 1) h (by decide)
theorem lay1 {m : Mem} {s : Nat → Int32} {k : Nat} {v : Int32} (h : k < 12) : pX5_lay (mp m s) (nI k) 1 v = some (mp m (upd s (271 + 5 * k + 1) v)) := lay_n (j := 1) h (by decide)
theorem of2 {m : Mem} {s : Nat → Int32} {k : Nat} (h : k < 12) : pX5_of (mp m s) (nI k) 2 = some (s (271 + 5 * k + 2)) := of_n (j := 2) h (by decide)
theorem lay2 {m : Mem} {s : Nat → Int32} {k : Nat} {v : Int32} (h : k < 12) : pX5_lay (mp m s) (nI k) 2 v = some (mp m (upd s (271 + 5 * k + 2) v)) := lay_n (j := 2) h (by decide)
theorem of3 {m : Mem} {s : Nat → Int32} {k : Nat} (h : k < 12) : pX5_of (mp m s) (nI k) 3 = some (s (271 + 5 * k + 3)) := of_n (j := 3) h (by decide)
theorem lay3 {m : Mem} {s : Nat → Int32} {k : Nat} {v : Int32} (h : k < 12) : pX5_lay (mp m s) (nI k) 3 v = some (mp m (upd s (271 + 5 * k + 3) v)) := lay_n (j := 3) h (by decide)
theorem of4 {m : Mem} {s : Nat → Int32} {k : Nat} (h : k < 12) : pX5_of (mp m s) (nI k) 4 = some (s (271 + 5 * k + 4)) := of_n (j := 4) h (by decide)
theorem lay4 {m : Mem} {s : Nat → Int32} {k : Nat} {v : Int32} (h : k < 12) : pX5_lay (mp m s) (nI k) 4 v = some (mp m (upd s (271 + 5 * k + 4) v)) := lay_n (j := 4) h (by decide)
theorem ge12 {i : Nat} (h : i < 12) : ¬ (12 : Int32) ≤ nI i := nI_ge (a := i) (b := 12) h (by decide)
theorem at12 : (12 : Int32) ≤ nI 12 := by decide
theorem ge16 {i : Nat} (h : i < 16) : ¬ (16 : Int32) ≤ nI i := nI_ge (a := i) (b := 16) h (by decide)
theorem at16 : (16 : Int32) ≤ nI 16 := by decide
theorem ge64 {i : Nat} (h : i < 64) : ¬ (64 : Int32) ≤ nI i := nI_ge (a := i) (b := 64) h (by decide)
theorem at64 : (64 : Int32) ≤ nI 64 := by decide
theorem ge331 {i : Nat} (h : i < 331) : ¬ (331 : Int32) ≤ nI i := nI_ge (a := i) (b := 331) h (by decide)
theorem at331 : (331 : Int32) ≤ nI 331 := by decide
theorem ge6 {i : Nat} (h : i < 6) : ¬ (6 : Int32) ≤ nI i := nI_ge (a := i) (b := 6) h (by decide)
theorem at6 : (6 : Int32) ≤ nI 6 := by decide
theorem ge80 {i : Nat} (h : i < 80) : ¬ (80 : Int32) ≤ nI i := nI_ge (a := i) (b := 80) h (by decide)
theorem at80 : (80 : Int32) ≤ nI 80 := by decide
/-- the two states' places, one by one -/
def Rel (s : Nat → Int32) (u : Mem) : Prop :=
  (s 0 = u 0 3 ∧ s 1 = u 6 1 ∧ s 2 = u 0 1 ∧ s 3 = u 0 2 ∧ s 4 = u 6 0 ∧ s 5 = u 0 0) ∧ (∀ i, i < 9 → s (6 + i) = u 10 i) ∧ (∀ b, b < 64 → s (15 + 2 * b) = u 7 b ∧ s (15 + 2 * b + 1) = u 8 b ∧ s (143 + 2 * b + 1) = u 9 b) ∧
  ∀ k, k < 12 → s (271 + 5 * k) = u 1 k ∧ s (271 + 5 * k + 1) = u 2 k ∧ s (271 + 5 * k + 2) = u 3 k ∧ s (271 + 5 * k + 3) = u 4 k ∧ (¬ u 1 k = -1 → s (271 + 5 * k + 4) = u 5 k)
/-- a line: empty, or with a block of its own set -/
def LineOK (u : Mem) (k : Nat) : Prop := (u 1 k = -1 ∧ u 5 k = 0) ∨ ∃ b, b < 64 ∧ u 1 k = nI b ∧ b / 4 % 4 = k / 3 ∧ (u 5 k = 0 ∨ u 5 k = 1) ∧ ¬ u 9 b = 0
def Inv (N : Nat) (u : Mem) : Prop :=
  ((u 0 3 = 0 ∨ u 0 3 = 1) ∧ (u 6 1 = 0 ∨ u 6 1 = 1)) ∧ (∃ L c : Nat, 1 ≤ L ∧ L ≤ 100 ∧ c ≤ L ∧ u 0 1 = nI L ∧ u 0 2 = nI c ∧ (c = 0 → ∀ k, k < 12 → u 1 k = -1)) ∧ (∃ n : Nat, n ≤ N ∧ u 6 0 = nI n) ∧
  (∀ k, k < 12 → LineOK u k) ∧ ∀ b, b < 64 → u 9 b = 0 → u 8 b = 0
theorem Inv.mono {N N' : Nat} {u : Mem} (h : Inv N u) (hN : N ≤ N') : Inv N' u := by
  obtain ⟨h1, h2, ⟨n, hn, e⟩, h4⟩ := h
  exact ⟨h1, h2, ⟨n, Nat.le_trans hn hN, e⟩, h4⟩
/-- nothing behind the first block -/
def Same (s s' : Nat → Int32) : Prop := ∀ j, 331 ≤ j → s' j = s j
theorem Same.rf (s : Nat → Int32) : Same s s := fun _ _ => rfl
theorem Same.tr {s s1 s2 : Nat → Int32} (h : Same s s1) (h2 : Same s1 s2) : Same s s2 := fun j hj => (h2 j hj).trans (h j hj)
theorem Same.up {s s' : Nat → Int32} (h : Same s s') {i : Nat} {v : Int32} (hi : i < 331) : Same s (upd s' i v) := fun j hj => by
  rw [upd_at, if_neg (by omega)]
  exact h j hj
/-- both sides do the same, with the same answer / with none -/
def PrI (N : Nat) (P G : Option (Int32 × Mem)) (m : Mem) (s : Nat → Int32) : Prop := ∃ (r : Int32) (u' : Mem) (s' : Nat → Int32), P = some (r, u') ∧ G = some (r, mp m s') ∧ Rel s' u' ∧ Inv N u' ∧ Same s s'
def PrV (N : Nat) (P G : Option Mem) (m : Mem) (s : Nat → Int32) : Prop := ∃ (u' : Mem) (s' : Nat → Int32), P = some u' ∧ G = some (mp m s') ∧ Rel s' u' ∧ Inv N u' ∧ Same s s' 
theorem rel_in {s : Nat → Int32} {u : Mem} (h : Rel s u) (v : Int32) : Rel (upd s (0) v) (mset u 0 (3) v) := by
  obtain ⟨⟨a0, a1, a2, a3, a4, a5⟩, hc, hb, hl⟩ := h
  unfold Rel
  simp only [upd_at, mset_at]
  grind (splits := 30)
theorem rel_on {s : Nat → Int32} {u : Mem} (h : Rel s u) (v : Int32) : Rel (upd s (1) v) (mset u 6 (1) v) := by
  obtain ⟨⟨a0, a1, a2, a3, a4, a5⟩, hc, hb, hl⟩ := h
  unfold Rel
  simp only [upd_at, mset_at]
  grind (splits := 30)
theorem rel_lim {s : Nat → Int32} {u : Mem} (h : Rel s u) (v : Int32) : Rel (upd s (2) v) (mset u 0 (1) v) := by
  obtain ⟨⟨a0, a1, a2, a3, a4, a5⟩, hc, hb, hl⟩ := h
  unfold Rel
  simp only [upd_at, mset_at]
  grind (splits := 30)
theorem rel_ch {s : Nat → Int32} {u : Mem} (h : Rel s u) (v : Int32) : Rel (upd s (3) v) (mset u 0 (2) v) := by
  obtain ⟨⟨a0, a1, a2, a3, a4, a5⟩, hc, hb, hl⟩ := h
  unfold Rel
  simp only [upd_at, mset_at]
  grind (splits := 30)
theorem rel_stamp {s : Nat → Int32} {u : Mem} (h : Rel s u) (v : Int32) : Rel (upd s (4) v) (mset u 6 (0) v) := by
  obtain ⟨⟨a0, a1, a2, a3, a4, a5⟩, hc, hb, hl⟩ := h
  unfold Rel
  simp only [upd_at, mset_at]
  grind (splits := 30)
theorem rel_use {s : Nat → Int32} {u : Mem} (h : Rel s u) (v : Int32) : Rel (upd s (5) v) (mset u 0 (0) v) := by
  obtain ⟨⟨a0, a1, a2, a3, a4, a5⟩, hc, hb, hl⟩ := h
  unfold Rel
  simp only [upd_at, mset_at]
  grind (splits := 30)
theorem rel_cnt {s : Nat → Int32} {u : Mem} (h : Rel s u) {i : Nat} (v : Int32) (hi : i < 9) : Rel (upd s (6 + i) v) (mset u 10 (i) v) := by
  obtain ⟨⟨a0, a1, a2, a3, a4, a5⟩, hc, hb, hl⟩ := h
  unfold Rel
  simp only [upd_at, mset_at]
  grind (splits := 30)
theorem rel_dv {s : Nat → Int32} {u : Mem} (h : Rel s u) {b : Nat} (v : Int32) (hb0 : b < 64) : Rel (upd s (15 + 2 * b) v) (mset u 7 (b) v) := by
  obtain ⟨⟨a0, a1, a2, a3, a4, a5⟩, hc, hb, hl⟩ := h
  unfold Rel
  simp only [upd_at, mset_at]
  grind (splits := 30)
theorem rel_ds {s : Nat → Int32} {u : Mem} (h : Rel s u) {b : Nat} (v : Int32) (hb0 : b < 64) : Rel (upd s (15 + 2 * b + 1) v) (mset u 8 (b) v) := by
  obtain ⟨⟨a0, a1, a2, a3, a4, a5⟩, hc, hb, hl⟩ := h
  unfold Rel
  simp only [upd_at, mset_at]
  grind (splits := 30)
theorem rel_la {s : Nat → Int32} {u : Mem} (h : Rel s u) {b : Nat} (v : Int32) (hb0 : b < 64) : Rel (upd s (143 + 2 * b + 1) v) (mset u 9 (b) v) := by
  obtain ⟨⟨a0, a1, a2, a3, a4, a5⟩, hc, hb, hl⟩ := h
  unfold Rel
  simp only [upd_at, mset_at]
  grind (splits := 30)
theorem rel_lv {s : Nat → Int32} {u : Mem} (h : Rel s u) {b : Nat} (v : Int32) (hb0 : b < 64) : Rel (upd s (143 + 2 * b) v) u := by
  obtain ⟨⟨a0, a1, a2, a3, a4, a5⟩, hc, hb, hl⟩ := h
  unfold Rel
  simp only [upd_at]
  grind
theorem rel_kv {s : Nat → Int32} {u : Mem} (h : Rel s u) {k : Nat} (v : Int32) (hk : k < 12) : Rel (upd s (271 + 5 * k + 1) v) (mset u 2 (k) v) := by
  obtain ⟨⟨a0, a1, a2, a3, a4, a5⟩, hc, hb, hl⟩ := h
  unfold Rel
  simp only [upd_at, mset_at]
  grind (splits := 30)
theorem rel_ks {s : Nat → Int32} {u : Mem} (h : Rel s u) {k : Nat} (v : Int32) (hk : k < 12) : Rel (upd s (271 + 5 * k + 2) v) (mset u 3 (k) v) := by
  obtain ⟨⟨a0, a1, a2, a3, a4, a5⟩, hc, hb, hl⟩ := h
  unfold Rel
  simp only [upd_at, mset_at]
  grind (splits := 30)
theorem rel_ku {s : Nat → Int32} {u : Mem} (h : Rel s u) {k : Nat} (v : Int32) (hk : k < 12) : Rel (upd s (271 + 5 * k + 3) v) (mset u 4 (k) v) := by
  obtain ⟨⟨a0, a1, a2, a3, a4, a5⟩, hc, hb, hl⟩ := h
  unfold Rel
  simp only [upd_at, mset_at]
  grind (splits := 30)
theorem rel_kd {s : Nat → Int32} {u : Mem} (h : Rel s u) {k : Nat} (v : Int32) (hk : k < 12) : Rel (upd s (271 + 5 * k + 4) v) (mset u 5 (k) v) := by
  obtain ⟨⟨a0, a1, a2, a3, a4, a5⟩, hc, hb, hl⟩ := h
  unfold Rel
  simp only [upd_at, mset_at]
  grind (splits := 30)
theorem rel_empty {s : Nat → Int32} {u : Mem} (h : Rel s u) {k : Nat} (hk : k < 12) : Rel (upd s (271 + 5 * k + 0) (-1)) (mset (mset u 1 k (-1)) 5 k 0) := by
  obtain ⟨⟨a0, a1, a2, a3, a4, a5⟩, hc, hb, hl⟩ := h
  unfold Rel
  simp only [upd_at, mset_at]
  grind (splits := 30)
theorem rel_fill {s : Nat → Int32} {u : Mem} (h : Rel s u) {k : Nat} (hk : k < 12) (b v w x d : Int32) : Rel (upd (upd (upd (upd (upd s (271 + 5 * k + 0) b) (271 + 5 * k + 1) v) (271 + 5 * k + 2) w) (271 + 5 * k + 3) x) (271 + 5 * k + 4) d) (mset (mset (mset (mset (mset u 1 k b) 2 k v) 3 k w) 5 k d) 4 k x) := by
  obtain ⟨⟨a0, a1, a2, a3, a4, a5⟩, hc, hb, hl⟩ := h
  unfold Rel
  simp only [upd_at, mset_at]
  grind (splits := 30)
