/-! THE CALLS ABOUT THE TEXT, AND UNDO, one by one. -/
theorem mp_mset2 (m : Mem) (s : Nat → Int32) (i : Nat) (v : Int32) : mset (mp m s) 2 i v = mp (mset m 2 i v) s := by
  funext k c
  unfold mp
  simp only [mset_at]
  by_cases h : k = 1
  · subst h; rw [if_neg (by decide)]; rfl
  · rw [beqF h]
    by_cases h2 : k = 2
    · subst h2; rw [if_pos rfl]; show _ = mset m 2 i v 2 c; rw [mset_at, if_pos rfl]; rfl
    · rw [if_neg h2]; show _ = mset m 2 i v k c; rw [mset_at, if_neg h2]; rfl
theorem two0 : ¬ (2 : Int32) = 0 := by decide
theorem step_appendText {j : Nat} {v t u hh : Mem} {S : Nat → Mem} (hs : Sim j v t u hh S) (x : Int32) : StepA (Sim (j + 1)) (pX4_appendText t u hh S x) (tX4_appendText t u hh S x) (pX5_appendText v x) ["java/lang/IllegalArgumentException", "java/lang/IllegalStateException"] u hh S := by
  obtain ⟨m, s, L, f, rfl, h, hI, hH, hC, hT⟩ := sim_in hs
  have sm' : ∀ c, Sim (j + 1) (mp (se m 0 c) s) t u hh S := fun c => sim_se c h hI hH hC hT
  have h80 := hC.1
  unfold StepA pX4_appendText tX4_appendText pX5_appendText pX5_appendText_30
  rw [in_le, ob_some]
  by_cases c1 : x < 32
  · right
    refine ⟨0, _, t, 0, mp (se m 0 1) s, rfl, by rw [if_pos c1], ?_, seM, sm' 1⟩
    rw [if_pos c1, if_pos rfl, holds_m, bd2_some, if_neg one0, if_pos rfl]
  · rw [if_neg c1, if_neg c1, if_neg c1]
    by_cases c2 : x ≤ 126
    · rw [if_pos c2, if_pos c2, if_neg (Int32.not_lt.mpr c2), if_neg one0, show mp m s 0 2 = nI L from hT.2.2.1, hT.2.1]
      by_cases c3 : L = 80
      · right
        refine ⟨1, _, t, 0, mp (se m 0 2) s, rfl, ?_, ?_, seM, sm' 2⟩
        · rw [if_neg (show ¬ nI L < 80 from nI_nlt (a := L) (b := 80) (by omega) (by omega))]
        · rw [if_pos (show nI L = 80 by rw [c3]; rfl), holds_m, bd2_some, if_neg two0, if_pos rfl]
      · left
        have hL : L < 80 := by omega
        obtain ⟨k, hk, rfl⟩ := nI_of (x := x) (fun e => c1 (Int32.lt_trans e (by decide)))
        have k2 : k ≤ 126 := (nI_leI (b := 126) hk (by decide)).mp c2
        have k1 : 32 ≤ k := by
          rcases Nat.lt_or_ge k 32 with e | e
          · exact absurd (show nI k < 32 from nI_lt (b := 32) e (by decide)) c1
          · exact e
        have ech : ((nI k).toUInt32 % 65536).toInt32 = nI k := by rw [pk_char, pk_tn (by omega), Nat.mod_eq_of_lt (by omega)]
        refine ⟨nI (L + 1), mset (mset t 1 L (nI k)) 0 0 (nI (L + 1)), u, hh, S, mp (mset (mset (se m 0 0) 2 L (nI k)) 0 2 (nI (L + 1))) s, ?_, ?_, ?_, ?_⟩
        · rw [if_pos (show nI L < 80 from nI_lt (b := 80) hL (by decide)), ech]
          unfold pX3_append pX3_append_36
          rw [hT.2.1, if_neg (nI_pos (by omega)), if_neg (ge80 hL)]
          unfold stc
          rw [if_pos (isch_n2 k2), st_n hL (by decide), ob_some, pf_e, ob_some, ob_some, show mset t 1 L (nI k) 0 0 = nI L from hT.2.1, nI_1, mset_at, if_pos rfl, if_pos rfl]
        · rw [if_neg (show ¬ nI L = 80 from fun e => c3 ((nI_eq (by omega) (by decide)).mp (show nI L = nI 80 from e))), holds_m, bd2_some, if_pos rfl, if_neg one0, show mp (se m 0 0) s 0 2 = nI L by rw [mp_0, se_at, if_neg (by decide)]; exact hT.2.2.1, st_n hL (by decide), ob_some, mp_mset2, pf_e, ob_some, mp_mset0, show mp (mset (se m 0 0) 2 L (nI k)) s 0 2 = nI L by rw [mp_0, mset_ne (by decide), se_at, if_neg (by decide)]; exact hT.2.2.1, nI_1, mp_0, mset_at, if_pos rfl, if_pos rfl]
        · rw [mp_0, mset_at, if_pos rfl, if_neg (by decide), mset_ne (by decide)]; exact se0
        · refine sim_mk h (hI.mono (by omega)) ?_ (L := L + 1) (f := fun i => if i = L then k else f i) ⟨by omega, fun i hi => ?_⟩ ⟨by omega, ?_, ?_, fun i hi => ?_⟩
          · rw [show mset (mset (se m 0 0) 2 L (nI k)) 0 2 (nI (L + 1)) 0 1 = m 0 1 by rw [mset_at, if_pos rfl, if_neg (by decide), mset_ne (by decide)]; exact se01]
            exact hH.mono (by omega) (by omega)
          · by_cases e : i = L
            · simp only [if_pos e]; omega
            · simp only [if_neg e]; exact hC.2 i (by omega)
          · rw [mset_at, if_pos rfl, if_pos rfl]
          · rw [mset_at, if_pos rfl, if_pos rfl]
          · have q := hT.2.2.2
            have a1 : mset (mset t 1 L (nI k)) 0 0 (nI (L + 1)) 1 i = if i = L then nI k else t 1 i := by
              rw [mset_at, if_neg (by decide), mset_at, if_pos rfl]
            have a2 : mset (mset (se m 0 0) 2 L (nI k)) 0 2 (nI (L + 1)) 2 i = if i = L then nI k else m 2 i := by
              rw [mset_at, if_neg (by decide), mset_at, if_pos rfl]
              rfl
            rw [a1, a2]
            by_cases e : i = L
            · simp only [if_pos e]; exact ⟨trivial, trivial⟩
            · simp only [if_neg e]; exact q i (by omega)
    · right
      refine ⟨0, _, t, 0, mp (se m 0 1) s, rfl, by rw [if_neg c2], ?_, seM, sm' 1⟩
      rw [if_pos (Int32.not_le.mp c2), if_pos rfl, holds_m, bd2_some, if_neg one0, if_pos rfl]
theorem step_clearText {j : Nat} {v t u hh : Mem} {S : Nat → Mem} (hs : Sim j v t u hh S) : StepC (Sim (j + 1)) (pX4_clearText t u hh S) (pX5_clearText v) := by
  obtain ⟨m, s, L, f, rfl, h, hI, hH, hC, hT⟩ := sim_in hs
  refine ⟨nI L, mset t 0 0 0, u, hh, S, mp (mset (se m 0 0) 0 2 0) s, ?_, ?_, ?_⟩
  · unfold pX4_clearText
    rw [pf_e, ob_some, hT.2.1]
  · unfold pX5_clearText
    rw [pf_e, ob_some, mp_mset0, pf_e, ob_some, mp_mset0, mp_0, show mset m 0 0 0 0 2 = nI L by rw [mset_at, if_pos rfl, if_neg (by decide)]; exact hT.2.2.1]
    rfl
  · refine sim_mk h (hI.mono (by omega)) ?_ (L := 0) (f := f) ⟨by omega, fun i hi => absurd hi (Nat.not_lt_zero i)⟩ ⟨by omega, ?_, ?_, fun i hi => absurd hi (Nat.not_lt_zero i)⟩
    · rw [show mset (se m 0 0) 0 2 0 0 1 = m 0 1 by rw [mset_at, if_pos rfl, if_neg (by decide)]; exact se01]
      exact hH.mono (by omega) (by omega)
    · rw [mset_at, if_pos rfl, if_pos rfl]; rfl
    · rw [mset_at, if_pos rfl, if_pos rfl]; rfl
theorem fe_r {L : Nat} {f : Nat → Nat} (hC : TxC L f) : ∃ (r : Int32) (g : Bool) (q : Nat), q ≤ L ∧ (∀ (m t : Mem) (s : Nat → Int32), Tx L f m t → ∃ t' m', pX3_firstError t = some (r, cu t' q) ∧ pX5_isValid (mp m s) = some (b2 g, mp (cm m' q) s) ∧ Kt t t' ∧ Km m m') ∧ ((g = true ∧ r = -1 ∧ Val L f (L + 1) 0) ∨ (g = false ∧ r = nI q)) := by
  have h80 := hC.1
  obtain ⟨r, g, q, w1, w2, w3⟩ := fe_p hC L 0 0 FU FU (by omega) (by omega) (by unfold FU; omega) (by unfold FU; omega) (by omega)
  refine ⟨r, g, q, w1, fun m t s hT => ?_, w3⟩
  obtain ⟨t', m', k1, k2, k3, k4⟩ := w2 m t s hT
  refine ⟨t', m', ?_, ?_, k3, k4⟩
  · unfold pX3_firstError pX3_rewind
    rw [pf_e, ob_some, ob_some]
    exact k1
  · unfold pX5_isValid
    rw [pf_e, ob_some, mp_mset0]
    exact k2
theorem Km.hist {N J : Nat} {m m' hh : Mem} {s : Nat → Int32} {S : Nat → Mem} (h : Hist N J s (m 0 1) hh S) (k : Km m m') : Hist N J s (m' 0 1) hh S := by rw [k.2.1]; exact h
theorem Tx_cu {L : Nat} {f : Nat → Nat} {m t : Mem} {p q : Nat} (h : Tx L f m t) : Tx L f (cm m p) (cu t q) := Tx_m (Tx_t h (by decide)) (by decide)
theorem cm_km {m : Mem} {q : Nat} : Km m (cm m q) := ⟨cm_o (by decide), cm_o (by decide), cm_o (by decide), by unfold cm; rw [mset_ne (by decide)]⟩
theorem step_errorPosition {j : Nat} {v t u hh : Mem} {S : Nat → Mem} (hs : Sim j v t u hh S) : StepC (Sim (j + 1)) (pX4_errorPosition t u hh S) (pX5_errorPosition v) := by
  obtain ⟨m, s, L, f, rfl, h, hI, hH, hC, hT⟩ := sim_in hs
  obtain ⟨r, g, q, w1, w2, w3⟩ := fe_r hC
  have hT0 : Tx L f (se m 0 0) t := Tx_m hT (by decide)
  obtain ⟨t', m', k1, k2, k3, k4⟩ := w2 (se m 0 0) t s hT0
  have hsim : Sim (j + 1) (mp (cm m' q) s) (cu t' q) u hh S := sim_mk h (hI.mono (by omega)) (by
    refine Km.hist (m := se m 0 0) ?_ (k4.tr cm_km)
    rw [se01]; exact hH.mono (by omega) (by omega)) hC (Tx_cu (hT0.k k3 k4))
  refine ⟨r, cu t' q, u, hh, S, mp (cm m' q) s, ?_, ?_, hsim⟩
  · unfold pX4_errorPosition
    rw [k1, bd2_some]
  · unfold pX5_errorPosition pX5_errorPosition_20
    rw [pf_e, ob_some, mp_mset0, show mset m 0 0 0 = se m 0 0 from rfl, k2, bd2_some]
    rcases w3 with ⟨rfl, rfl, -⟩ | ⟨rfl, rfl⟩
    · rw [if_neg (show ¬ b2 true = 0 by decide)]
    · rw [if_pos (show b2 false = 0 from rfl), mp_0, cm_3]
theorem step_runText {j : Nat} {v t u hh : Mem} {S : Nat → Mem} (hj : j < 512) (hs : Sim j v t u hh S) : StepA (Sim (j + 1)) (pX4_runText t u hh S) (tX4_runText t u hh S) (pX5_runText v) ["java/lang/IllegalStateException"] u hh S := by
  obtain ⟨m, s, L, f, rfl, h, hI, hH, hC, hT⟩ := sim_in hs
  have h80 := hC.1
  obtain ⟨r, g, q, w1, w2, w3⟩ := fe_r hC
  obtain ⟨t', m', k1, k2, k3, k4⟩ := w2 m t s hT
  have hT1 := hT.k k3 k4
  unfold StepA pX4_runText tX4_runText pX5_runText pX5_runText_13
  rw [k1, k2, bd2_some, bd2_some, bd2_some]
  rcases w3 with ⟨rfl, rfl, hv⟩ | ⟨rfl, rfl⟩
  · left
    rw [if_neg (show ¬ b2 true = 0 by decide), holds_m, bd2_some, if_pos rfl, if_pos rfl, if_neg one0]
    obtain ⟨h', S', z', s', p1, p2, p3, p4⟩ := keep_r (m := se (cm m' q) 0 0) (J := 100 * j) h hI (by omega) (by rw [se01]; exact Km.hist hH (k4.tr cm_km))
    rw [p1, p2, bdH_some, ob_some]
    unfold pX3_rewind
    rw [pf_e, ob_some, pf_e, ob_some, ob_some, mp_mset0]
    have hT2 : Tx L f (mset (se (cm m' q) 0 0) 0 1 z') (cu t' q) := Tx_m (Tx_m (Tx_cu hT1) (by decide)) (by decide)
    obtain ⟨r, t2, u2, m2, s2, q2, x1, x2, x3, x4, x5, x6, x7⟩ := run_p (hh := h') (S := S') hC (L + 1) 0 0 FU FU (100 * j) u (mset (se (cm m' q) 0 0) 0 1 z') (cu t' q) s' hv hT2 p3 hI (by omega) (by unfold FU; omega) (by unfold FU; omega) (by omega) (by omega)
    refine ⟨r, cu t2 q2, u2, h', S', mp (cm m2 q2) s2, x1, x2, ?_, ?_⟩
    · rw [mp_0, cm_o (by decide), x4.1, mset_at, if_pos rfl, if_neg (by decide)]
      exact se0
    · refine sim_mk x5 (x6.mono (by omega)) ?_ hC (Tx_cu (hT2.k x3 x4))
      refine Km.hist (m := mset (se (cm m' q) 0 0) 0 1 z') ?_ (x4.tr cm_km)
      rw [show mset (se (cm m' q) 0 0) 0 1 z' 0 1 = z' by rw [mset_at, if_pos rfl, if_pos rfl]]
      exact (p4.same x7).mono (by omega) (by omega)
  · right
    refine ⟨0, _, cu t' q, 0, mp (se (cm m' q) 0 1) s, rfl, ?_, ?_, seM, ?_⟩
    · rw [if_neg (nI_m1 (by omega))]
    · rw [if_pos (show b2 false = 0 from rfl), holds_m, bd2_some, if_neg one0, if_pos rfl]
    · exact sim_se 1 h hI (Km.hist hH (k4.tr cm_km)) hC (Tx_cu hT1)
theorem step_undo {j : Nat} {v t u hh : Mem} {S : Nat → Mem} (hj : j < 512) (hs : Sim j v t u hh S) : StepA (Sim (j + 1)) (pX4_undo t u hh S) (tX4_undo t u hh S) (pX5_undo v) ["java/lang/IllegalStateException"] u hh S := by
  obtain ⟨m, s, L, f, rfl, h, hI, hH, hC, hT⟩ := sim_in hs
  have sm' : ∀ c, Sim (j + 1) (mp (se m 0 c) s) t u hh S := fun c => sim_se c h hI hH hC hT
  obtain ⟨x, z, q1, q2, q3, q4, q5, q6, q7⟩ := id hH
  unfold StepA pX4_undo tX4_undo pX5_undo pX5_undo_13
  rw [show mp m s 0 1 = nI z from q6]
  by_cases c : hh 0 0 = 0
  · right
    have z0 : z = 0 := (nI_eq (by omega) (by decide)).mp (show nI z = nI 0 from q4.symm.trans c)
    refine ⟨0, _, t, 0, mp (se m 0 1) s, rfl, by rw [if_pos c], ?_, seM, sm' 1⟩
    rw [if_pos (show nI z ≤ 0 by rw [z0]; decide), holds_m, bd2_some, if_neg one0, if_pos rfl]
  · left
    have z1 : 0 < z := by
      rcases Nat.eq_zero_or_pos z with e | e
      · subst e; exact absurd q4 c
      · exact e
    obtain ⟨u', h', z', s', k1, k2, k3, k4, k5⟩ := undo_r (m := se m 0 0) (u := u) (J := 100 * j) (by omega) (by rw [se01]; exact hH) c
    refine ⟨h' 0 0, t, u', h', S, mp (mset (se m 0 0) 0 1 z') s', ?_, ?_, ?_, ?_⟩
    · rw [if_neg c, k1]; rfl
    · rw [if_neg (nI_nle z1 (by omega)), holds_m, bd2_some, if_pos rfl, if_neg one0]; exact k2
    · rw [mp_0, mset_at, if_pos rfl, if_neg (by decide)]; exact se0
    · refine sim_mk k3 (k4.mono (by omega)) ?_ hC (Tx_m (Tx_m hT (by decide)) (by decide))
      rw [show mset (se m 0 0) 0 1 z' 0 1 = z' by rw [mset_at, if_pos rfl, if_pos rfl]]
      exact k5.mono (by omega) (by omega)
