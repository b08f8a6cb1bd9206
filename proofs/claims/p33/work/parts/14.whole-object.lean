/-! THE WHOLE OBJECT: its text, its present state, its history with six states, itself. -/
theorem va_D_pw {A : Nat → Prop} {ws : va_W} : va_D A ws ↔ ws.Pairwise (fun p q => p.1 ≠ q.1) ∧ ∀ q ∈ ws, A q.1 := by
  constructor
  · intro h
    refine ⟨List.pairwise_iff_getElem.mpr fun i j hi hj hij e => ?_, fun q hq => ?_⟩
    · have := h.1 i j ws[i] ws[j] (List.getElem?_eq_getElem hi) (List.getElem?_eq_getElem hj) e
      omega
    · obtain ⟨k, hk⟩ := List.getElem?_of_mem hq
      exact h.2 k q hk
  · rintro ⟨h1, h2⟩
    refine ⟨fun i j p q hp hq e => ?_, fun k q hk => h2 q (List.mem_of_getElem? hk)⟩
    obtain ⟨hi, rfl⟩ := List.getElem?_eq_some_iff.mp hp
    obtain ⟨hj, rfl⟩ := List.getElem?_eq_some_iff.mp hq
    have hw := List.pairwise_iff_getElem.mp h1
    rcases Nat.lt_trichotomy i j with c | c | c
    · exact absurd e (hw i j hi hj c)
    · exact c
    · exact absurd e.symm (hw j i hj hi c)
theorem va_P_mem {D : va_G} {cl : List vw_C} {ws : va_W} {H : Heap} : va_P D cl ws H ↔ ∀ q ∈ ws, va_at D cl q H := by
  constructor
  · intro h q hq
    obtain ⟨k, hk⟩ := List.getElem?_of_mem hq
    exact h k q hk
  · exact fun h k q hk => h q (List.mem_of_getElem? hk)
theorem HS.perm {D : va_G} {A : Nat → Prop} {s : State} {w w' : va_W} {H : Heap} {locs : List Loc} (p : w.Perm w') (h : HS D A s w H locs) : HS D A s w' H locs := by
  obtain ⟨h1, h2, h3⟩ := h
  have h1 := va_P_mem.mp h1
  obtain ⟨h4, h5⟩ := va_D_pw.mp h2
  exact ⟨va_P_mem.mpr fun q hq => h1 q (p.mem_iff.mpr hq), va_D_pw.mpr ⟨(p.pairwise_iff (fun h e => h e.symm)).mp h4, fun q hq => h5 q (p.mem_iff.mpr hq)⟩, h3⟩
theorem perm_sw (x y z : va_W) : (x ++ (y ++ z)).Perm (y ++ (x ++ z)) := by
  rw [← List.append_assoc, ← List.append_assoc]
  exact List.Perm.append_right z List.perm_append_comm
theorem HS.swap {D : va_G} {A : Nat → Prop} {s : State} {x y z : va_W} {H : Heap} {locs : List Loc} (h : HS D A s (x ++ (y ++ z)) H locs) : HS D A s (y ++ (x ++ z)) H locs := h.perm (perm_sw x y z)
def stF (f : Nat → Nat → Nat) : Nat → Option Nat := fun j => if j < 6 then some (f j 6) else none
theorem stF_lt {f : Nat → Nat → Nat} {j : Nat} (h : j < 6) : va_rf (stF f j) = .ref (f j 6) := by
  unfold stF
  rw [if_pos h]
  rfl
def upS (S : Nat → Mem) (j : Nat) (v : Mem) : Nat → Mem := fun k => bif Nat.beq k j then v else S k
def svL (f : Nat → Nat → Nat) (ca : Gp) (S : Nat → Mem) (js : List Nat) : va_W := js.flatMap (fun j => sW (f j) ca (S j))
def js6 : List Nat := [0, 1, 2, 3, 4, 5]
def h3W (a b h : Nat → Nat) (f : Nat → Nat → Nat) (ca : Gp) (hh : Mem) : va_W := [(h 0, .inr (0, [.ref (h 1), .int (hh 0 0), .int (hh 0 1)])), (h 1, .inl (ca.1 3, 6, .inr (.inr (.inr (.inr (stF f)))))), (h 2, .inr (4, [.ref (a 6), .ref (h 0), .ref (b 0)]))]
def hW (a b h : Nat → Nat) (f : Nat → Nat → Nat) (ca : Gp) (hh : Mem) (S : Nat → Mem) (wr : va_W) : va_W := h3W a b h f ca hh ++ (svL f ca S js6 ++ wr)
def gW (a b h : Nat → Nat) (f : Nat → Nat → Nat) (ca : Gp) (t u hh : Mem) (S : Nat → Mem) (wr : va_W) : va_W := tW b ca t ++ (sW a ca u ++ hW a b h f ca hh S wr)
theorem svL_cong {f : Nat → Nat → Nat} {ca : Gp} {S S' : Nat → Mem} : ∀ (js : List Nat), (∀ j ∈ js, S j = S' j) → svL f ca S js = svL f ca S' js := by
  intro js
  induction js with
  | nil => intro _; rfl
  | cons j js ih =>
    intro h
    show sW (f j) ca (S j) ++ svL f ca S js = sW (f j) ca (S' j) ++ svL f ca S' js
    rw [h j List.mem_cons_self, ih (fun k hk => h k (List.mem_cons_of_mem _ hk))]
theorem upS_ne {S : Nat → Mem} {j k : Nat} {v : Mem} (h : k ≠ j) : upS S j v k = S k := by
  unfold upS
  rw [show Nat.beq k j = false from by
    cases hb : Nat.beq k j
    · rfl
    · exact absurd (Nat.eq_of_beq_eq_true hb) h]
  rfl
theorem upS_eq {S : Nat → Mem} {j : Nat} {v : Mem} : upS S j v j = v := by
  unfold upS
  rw [show Nat.beq j j = true from Nat.beq_refl j]
  rfl
/-- one saved state and the present one ahead of all else -/
theorem perm_out (a b h : Nat → Nat) (f : Nat → Nat → Nat) (ca : Gp) (t u hh : Mem) (S : Nat → Mem) (wr : va_W) {j : Nat} (hj : j < 6) :
    (gW a b h f ca t u hh S wr).Perm (sW (f j) ca (S j) ++ (sW a ca u ++ (tW b ca t ++ (h3W a b h f ca hh ++ (svL f ca S (js6.erase j) ++ wr))))) := by
  have hm : j ∈ js6 := by
    rcases (show j = 0 ∨ j = 1 ∨ j = 2 ∨ j = 3 ∨ j = 4 ∨ j = 5 by omega) with rfl | rfl | rfl | rfl | rfl | rfl <;> decide
  have p1 : (svL f ca S js6).Perm (sW (f j) ca (S j) ++ svL f ca S (js6.erase j)) := (List.perm_cons_erase hm).flatMap_right _
  refine List.Perm.trans (perm_sw _ _ _) ?_
  refine List.Perm.trans (List.Perm.append_left _ (List.Perm.append_left _ (List.Perm.append_left _ (List.Perm.append_right wr p1)))) ?_
  rw [List.append_assoc]
  refine List.Perm.trans (List.Perm.append_left _ (List.Perm.append_left _ (perm_sw _ _ _))) ?_
  refine List.Perm.trans (List.Perm.append_left _ (perm_sw _ _ _)) ?_
  exact perm_sw _ _ _
theorem perm_in (a b h : Nat → Nat) (f : Nat → Nat → Nat) (ca : Gp) (t u hh : Mem) (S : Nat → Mem) (wr : va_W) {j : Nat} (hj : j < 6) (v : Mem) :
    (sW (f j) ca v ++ (sW a ca u ++ (tW b ca t ++ (h3W a b h f ca hh ++ (svL f ca S (js6.erase j) ++ wr))))).Perm (gW a b h f ca t u hh (upS S j v) wr) := by
  have p := (perm_out a b h f ca t u hh (upS S j v) wr hj).symm
  rw [upS_eq, svL_cong (S := upS S j v) (S' := S) (js6.erase j) (fun k hk => upS_ne (by
    intro e
    subst e
    rcases (show k = 0 ∨ k = 1 ∨ k = 2 ∨ k = 3 ∨ k = 4 ∨ k = 5 by omega) with rfl | rfl | rfl | rfl | rfl | rfl <;> exact absurd hk (by decide)))] at p
  exact p
/-- copying a state: what must be a truth value is looked at -/
def allz (f : Nat → Int32) : Nat → Bool
  | 0 => true
  | n + 1 => allz f n && isz (f n)
theorem allz_at {f : Nat → Int32} : ∀ {n : Nat}, allz f n = true → ∀ i, i < n → isz (f i) = true
  | 0, _, i, hi => absurd hi (Nat.not_lt_zero i)
  | n + 1, h, i, hi => by
    simp only [allz, Bool.and_eq_true] at h
    rcases Nat.lt_or_ge i n with q | q
    · exact allz_at h.1 i q
    · rw [show i = n by omega]; exact h.2
def mrow (u : Mem) (k : Nat) (f : Nat → Int32) : Mem := fun k' => bif Nat.beq k' k then f else u k'
/-- System.arraycopy of the whole row k -/
def cpr (w u : Mem) (k n : Nat) : Option Mem := some (mrow w k (va_cpy (u k) (w k) 0 0 n))
def cpz (w u : Mem) (k n : Nat) : Option Mem := if allz (u k) n = true then some (mrow w k (va_cpy (u k) (w k) 0 0 n)) else none
def pX2_copyFrom (w u : Mem) : Option Mem :=
  (cpr w u 1 12).bind fun w1 =>
  (cpr w1 u 2 12).bind fun w2 =>
  (cpr w2 u 3 12).bind fun w3 =>
  (cpr w3 u 4 12).bind fun w4 =>
  (cpz w4 u 5 12).bind fun w5 =>
  (pf w5 0 0 (u 0 0)).bind fun w6 =>
  (pf w6 0 1 (u 0 1)).bind fun w7 =>
  (pf w7 0 2 (u 0 2)).bind fun w8 =>
  (pz w8 0 3 (u 0 3)).bind fun w9 => some w9
def pX1_copyFrom (w u : Mem) : Option Mem :=
  (pX2_copyFrom w u).bind fun w1 =>
  (cpr w1 u 7 64).bind fun w2 =>
  (cpr w2 u 8 64).bind fun w3 =>
  (cpr w3 u 9 64).bind fun w4 =>
  (cpr w4 u 10 9).bind fun w5 =>
  (pf w5 6 0 (u 6 0)).bind fun w6 =>
  (pz w6 6 1 (u 6 1)).bind fun w7 => some w7
def pX0_save (u hh : Mem) (S : Nat → Mem) : Option (Mem × (Nat → Mem)) :=
  (pJ9_floorMod_7cf53 (hh 0 1) 6).bind fun y =>
  if inB y 6 = true then
    (pX1_copyFrom (S y.toNatClampNeg) u).bind fun v =>
    (pf hh 0 1 (hh 0 1 + 1)).bind fun h1 =>
    (pf h1 0 0 (if 6 < h1 0 0 + 1 then 6 else h1 0 0 + 1)).bind fun h2 => some (h2, upS S y.toNatClampNeg v)
  else none
def pX0_restore (u hh : Mem) (S : Nat → Mem) : Option (Mem × Mem) :=
  (pf hh 0 1 (hh 0 1 - 1)).bind fun h1 =>
  (pf h1 0 0 (if h1 0 0 - 1 < 0 then 0 else h1 0 0 - 1)).bind fun h2 =>
  (pJ9_floorMod_7cf53 (h2 0 1) 6).bind fun y =>
  if inB y 6 = true then
    (pX1_copyFrom u (S y.toNatClampNeg)).bind fun v => some (v, h2)
  else none
def bdH {α : Type} (o : Option (Mem × (Nat → Mem))) (f : Mem → (Nat → Mem) → Option α) : Option α := match o with
  | none => none
  | some q => f q.1 q.2
theorem bndH {α : Type} {o : Option (Mem × (Nat → Mem))} {f : Mem → (Nat → Mem) → Option α} {z : α} (h : bdH o f = some z) : ∃ x u, o = some (x, u) ∧ f x u = some z := by
  cases o with
  | none => cases h
  | some q => exact ⟨q.1, q.2, rfl, h⟩
def bdM {α : Type} (o : Option (Mem × Mem)) (f : Mem → Mem → Option α) : Option α := match o with
  | none => none
  | some q => f q.1 q.2
theorem bndM {α : Type} {o : Option (Mem × Mem)} {f : Mem → Mem → Option α} {z : α} (h : bdM o f = some z) : ∃ x u, o = some (x, u) ∧ f x u = some z := by
  cases o with
  | none => cases h
  | some q => exact ⟨q.1, q.2, rfl, h⟩
abbrev GM : Type := Mem × Mem × Mem × (Nat → Mem)
def bdG {α : Type} (o : Option (Int32 × GM)) (f : Int32 → Mem → Mem → Mem → (Nat → Mem) → Option α) : Option α := match o with
  | none => none
  | some q => f q.1 q.2.1 q.2.2.1 q.2.2.2.1 q.2.2.2.2
theorem bndG {α : Type} {o : Option (Int32 × GM)} {f : Int32 → Mem → Mem → Mem → (Nat → Mem) → Option α} {z : α} (h : bdG o f = some z) : ∃ x t u hh S, o = some (x, (t, u, hh, S)) ∧ f x t u hh S = some z := by
  cases o with
  | none => cases h
  | some q => exact ⟨q.1, q.2.1, q.2.2.1, q.2.2.2.1, q.2.2.2.2, rfl, h⟩
