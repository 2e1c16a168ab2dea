/-! what can be undone -/
def psh (P : Tp) (f : Nat → Nat) : Tp := if P.1 < 8 then (P.1 + 1, va_up P.2 P.1 f) else (8, va_up (fun j => P.2 (j + 1)) 7 f)
theorem g13 {α : Type} {k : Nat} {x : Option α} (h : k < 13) : gB (decide ((nI k).toNatClampNeg < 13)) x = x := by
  rw [nI_clamp (by omega), decide_eq_true h]; rfl
theorem dropL {v1 : Int32} {Y : YS} : ∀ (j i u : Nat) (o : OS), i + j = 8 → 1 ≤ i → j < u → (∀ k, i ≤ k → k < 8 → ∃ n, n < 13 ∧ o 14 k = nI n) → ∃ o', fX1_dropOldest_p_L9 v1 u (nI i) Y o = some (Y, o') ∧ o' 13 0 = nI 7 ∧ (∀ c, c ≠ 13 → c ≠ 14 → o' c = o c) ∧ (∀ k, i ≤ k + 1 → k < 7 → o' 14 k = o 14 (k + 1)) ∧ (∀ k, k + 1 < i → o' 14 k = o 14 k) ∧ o' 14 7 = v1
  | 0, i, u, o, hi, h1, hu, hr => by
    cases u with
    | zero => omega
    | succ u =>
      refine ⟨u2 (u2 o 14 7 v1) 13 0 (nI 7), ?_, by rw [u2_eq, upd_s], fun c a b => by rw [u2_ne a, u2_ne b], fun k a b => by omega, fun k a => by rw [u2_ne (by decide), u2_eq, upd_n (by omega)], by rw [u2_ne (by decide), u2_eq, upd_s]⟩
      rw [fX1_dropOldest_p_L9, ifT (by rw [show i = 8 by omega]; decide)]
      rfl
  | j + 1, i, u, o, hi, h1, hu, hr => by
    cases u with
    | zero => omega
    | succ u =>
      obtain ⟨n, hn, en⟩ := hr i (Nat.le_refl _) (by omega)
      have em : nI i - 1 = nI (i - 1) := pk_sub (b := 1) (by omega)
      obtain ⟨o', e, a1, a2, a3, a4, a5⟩ := dropL (v1 := v1) (Y := Y) j (i + 1) u (u2 o 14 (i - 1) (o 14 i)) (by omega) (by omega) (by omega) (fun k b1 b2 => by
        rw [u2_eq, upd_n (by omega)]; exact hr k (by omega) b2)
      refine ⟨o', ?_, a1, fun c b1 b2 => by rw [a2 c b1 b2, u2_ne b2], fun k b1 b2 => ?_, fun k b1 => by rw [a4 k (by omega), u2_eq, upd_n (by omega)], a5⟩
      · rw [fX1_dropOldest_p_L9, ifF (by rw [show (8 : Int32) = nI 8 from rfl, nI_leI (by decide) (by omega)]; omega), gib (by omega) (by decide), nI_clamp (by omega), em, gib (by omega) (by decide), nI_clamp (by omega), show nI i + 1 = nI (i + 1) from nI_add i 1]
        have : gB (decide ((o 14 i).toNatClampNeg < 13)) (fX1_dropOldest_p_L9 v1 u (nI (i + 1)) Y (u2 o 14 (i - 1) (o 14 i))) = fX1_dropOldest_p_L9 v1 u (nI (i + 1)) Y (u2 o 14 (i - 1) (o 14 i)) := by rw [en]; exact g13 hn
        rw [this]
        exact e
      · by_cases c : k + 1 = i
        · rw [a4 k (by omega), u2_eq, show k = i - 1 by omega, upd_s, show i - 1 + 1 = i by omega]
        · rw [a3 k (by omega) b2, u2_eq, upd_n (by omega)]
theorem sh_put {Y : YS} {o : OS} {f : Nat → Nat} {N t : Nat} {P : Tp} {m : Nat} (h : CP Y o N t P) (hP : P.1 ≤ 8) (hf : RY (Y 0) f N t) (k : Ok f N m) : ∃ Y' o', fX1_put_p Y o 0 = some (Y', o') ∧ (∀ i, (i < 3 ∨ 11 ≤ i) → Y' i = Y i) ∧ (∀ c, c ≠ 13 → c ≠ 14 → o' c = o c) ∧ CP Y' o' N t (psh P f) := by
  obtain ⟨p1, pr, p2, p3, p4⟩ := h
  by_cases b : P.1 < 8
  · obtain ⟨q1, q2, q3⟩ := p2 P.1 b
    obtain ⟨Y', e, a, r⟩ := copyR (Y := Y) (o := o) (i0 := pr P.1) (i1 := 0) (by omega) hf k
    refine ⟨Y', u2 o 13 0 (nI (P.1 + 1)), ?_, fun i hi => a i (by omega), fun c c1 c2 => u2_ne c1, ?_⟩
    · rw [fX1_put_p, p1, ifT (show nI P.1 < 8 from (nI_ltI (b := 8) (by omega) (by decide)).mpr b), ifF (nI_pos (by omega)), ifF (show ¬ 8 ≤ nI P.1 from fun e => absurd ((nI_leI (a := 8) (by decide) (by omega)).mp e) (by omega)), gib (by omega) (by decide), nI_clamp (by omega), q1, g13 (by omega), gib (by omega) (by decide), g13 (by omega), nI_clamp (by omega), e, bs]
      dsimp only
      rw [p1, show nI P.1 + 1 = nI (P.1 + 1) from nI_add _ 1]
    · unfold psh
      rw [if_pos b]
      refine ⟨by rw [u2_eq, upd_s], pr, fun j hj => by rw [u2_ne (by decide)]; exact p2 j hj, p3, fun j hj => ?_⟩
      have hj : j < P.1 + 1 := hj
      show RY (Y' (pr j)) (va_up P.2 P.1 f j) N t
      by_cases c : j = P.1
      · subst c; rw [vu_s]; exact r
      · rw [vu_n c, a (pr j) (fun z => c (p3 j P.1 (by omega) b z))]; exact p4 j (by omega)
  · have b8 : P.1 = 8 := by omega
    obtain ⟨q1, q2, q3⟩ := p2 0 (by omega)
    obtain ⟨o1, e1, d1, d2, d3, d4, d5⟩ := dropL (v1 := o 14 0) (Y := Y) 7 1 FU o (by omega) (by omega) (FU_gt (by omega)) (fun k b1 b2 => ⟨pr k, by have := (p2 k b2).2; omega, (p2 k b2).1⟩)
    have ed : fX1_dropOldest_p Y o = some (Y, o1) := by
      rw [fX1_dropOldest_p, z0]
      have : gB (decide ((o 14 0).toNatClampNeg < 13)) (fX1_dropOldest_p_L9 (o 14 0) FU 1 Y o) = fX1_dropOldest_p_L9 (o 14 0) FU 1 Y o := by rw [q1]; exact g13 (by omega)
      rw [this]; exact e1
    have d7 : o1 14 7 = nI (pr 0) := by rw [d5, q1]
    obtain ⟨Y', e, a, r⟩ := copyR (Y := Y) (o := o1) (i0 := pr 0) (i1 := 0) (by omega) hf k
    refine ⟨Y', u2 o1 13 0 (nI 8), ?_, fun i hi => a i (by omega), fun c c1 c2 => by rw [u2_ne c1, d2 c c1 c2], ?_⟩
    · rw [fX1_put_p, p1, b8, ifF (by decide), ed, bs]
      simp only [d1]
      rw [ifF (by decide), ifF (by decide), gib (by omega) (by decide), nI_clamp (by omega), d7, g13 (by omega), gib (by omega) (by decide), g13 (by omega), nI_clamp (by omega), e, bs]
      dsimp only
      rw [d1]
      rfl
    · unfold psh
      rw [if_neg b]
      refine ⟨by rw [u2_eq, upd_s], fun j => if j = 7 then pr 0 else pr (j + 1), fun j hj => ?_, fun i j hi hj z => ?_, fun j hj => ?_⟩
      · rw [u2_ne (by decide)]
        by_cases c : j = 7
        · subst c; exact ⟨d7, q2, q3⟩
        · dsimp only
          rw [if_neg c, d3 j (by omega) (by omega)]; exact p2 (j + 1) (by omega)
      · by_cases c1 : i = 7
        · by_cases c2 : j = 7
          · omega
          · simp only [if_pos c1, if_neg c2] at z
            have := p3 0 (j + 1) (by omega) (by omega) z; omega
        · by_cases c2 : j = 7
          · simp only [if_neg c1, if_pos c2] at z
            have := p3 (i + 1) 0 (by omega) (by omega) z; omega
          · simp only [if_neg c1, if_neg c2] at z
            have := p3 (i + 1) (j + 1) (by omega) (by omega) z; omega
      · have hj : j < 8 := hj
        show RY (Y' (if j = 7 then pr 0 else pr (j + 1))) (va_up (fun j => P.2 (j + 1)) 7 f j) N t
        by_cases c : j = 7
        · subst c; rw [if_pos rfl, vu_s]; exact r
        · rw [if_neg c, vu_n c, a _ (fun z => by have := p3 (j + 1) 0 (by omega) (by omega) z; omega)]; exact p4 (j + 1) (by omega)
theorem m_remL : ∀ (j i u : Nat) (S : OS), i + j = 462 → j < u → ∃ S1, fX5_remembers_L11 u (nI i) S = fX5_remembers_L11 1 462 S1 ∧ Eo S S1 2 ∧ (∀ k, i ≤ k → k < 462 → S1 2 k = S 2 (k + 66)) ∧ (∀ k, (k < i ∨ 462 ≤ k) → S1 2 k = S 2 k)
  | 0, i, u, S, hi, hu => by
    cases u with
    | zero => omega
    | succ u =>
      refine ⟨S, ?_, Eo.rf, fun k a b => by omega, fun _ _ => rfl⟩
      rw [show i = 462 by omega, fX5_remembers_L11, fX5_remembers_L11]
      rw [ifT (by decide), ifT (by decide)]
  | j + 1, i, u, S, hi, hu => by
    cases u with
    | zero => omega
    | succ u =>
      obtain ⟨S1, e, o1, a1, a2⟩ := m_remL j (i + 1) u (u2 S 2 i (S 2 (i + 66))) (by omega) (by omega)
      refine ⟨S1, ?_, Eo.u2.tr o1, fun k b1 b2 => ?_, fun k b => by rw [a2 k (by omega), u2_eq, upd_n (by omega)]⟩
      · rw [fX5_remembers_L11, ifF (by rw [show (462 : Int32) = nI 462 from rfl, nI_leI (by decide) (by omega)]; omega), show nI i + 66 = nI (i + 66) from nI_add i 66, gib (by omega) (by decide), gib (by omega) (by decide), nI_clamp (by omega), nI_clamp (by omega), show nI i + 1 = nI (i + 1) from nI_add i 1]
        exact e
      · by_cases c : k = i
        · subst c; rw [a2 k (by omega), u2_eq, upd_s]
        · rw [a1 k (by omega) b2, u2_eq, upd_n (by omega)]
theorem e66 (k : Nat) : (66 : Int32) * nI k = nI (66 * k) := by rw [show (66 : Int32) = nI 66 from rfl, pk_mul]
theorem m_rem {S : OS} {f : Nat → Nat} {P : Tp} (h : MP S P) (hP : P.1 ≤ 8) (hf : RS S 1 f) : ∃ S', fX5_remembers S = some S' ∧ MP S' (psh P f) ∧ (∀ c, c ≠ 0 → c ≠ 2 → S' c = S c) ∧ (∀ k, k ≠ 3 → S' 0 k = S 0 k) := by
  obtain ⟨p1, p2⟩ := h
  rw [fX5_remembers, p1]
  by_cases b : P.1 = 8
  · rw [ifT (by rw [b]; rfl)]
    obtain ⟨S1, e1, o1, a1, a2⟩ := m_remL 462 0 FU S (by omega) (FU_gt (by omega))
    have s3 : u2 S1 0 3 (S1 0 3 - 1) 0 3 = nI 7 := by rw [u2_eq, upd_s, o1 0 (by decide), p1, b]; rfl
    obtain ⟨S2, e2, o2, b1, b2⟩ := m_put (S := u2 S1 0 3 (S1 0 3 - 1)) (c1 := 2) (c3 := 1) (a := 462) (n := 66) (by decide) (by decide) (by decide) (by decide) (by decide)
    have r3 : S2 0 3 = nI 7 := by rw [o2 0 (by decide)]; exact s3
    refine ⟨u2 S2 0 3 (nI 8), ?_, ?_, fun c c1 c2 => by rw [u2_ne c1, o2 c c2, u2_ne c1, o1 c c2], fun k hk => by rw [u2_eq, upd_n hk, o2 0 (by decide), u2_eq, upd_n hk, o1 0 (by decide)]⟩
    · refine e1.trans ?_
      rw [fX5_remembers_L11, ifT (by decide), s3, show (66 : Int32) * nI 7 = nI 462 by decide]
      rw [show fX5_put (u2 S1 0 3 (S1 0 3 - 1)) 2 (nI 462) 1 66 = some S2 from e2, bs, r3]
      rfl
    · unfold psh
      rw [if_neg (by omega)]
      refine ⟨by rw [u2_eq, upd_s], fun j k hj hk => ?_⟩
      have hj : j < 8 := hj
      rw [u2_ne (by decide)]
      show S2 2 (66 * j + k) = nI (va_up (fun j => P.2 (j + 1)) 7 f j k)
      by_cases c : j = 7
      · subst c
        rw [vu_s, show 66 * 7 + k = 462 + k by omega, b1 k hk, u2_ne (by decide), o1 1 (by decide)]; exact hf k hk
      · rw [vu_n c, b2 _ (by omega), u2_ne (by decide), a1 _ (by omega) (by omega), show 66 * j + k + 66 = 66 * (j + 1) + k by omega]; exact p2 (j + 1) k (by omega) hk
  · rw [ifF (show ¬ nI P.1 = 8 from fun e => b ((nI_eq (b := 8) (by omega) (by decide)).mp e)), e66]
    obtain ⟨S2, e2, o2, b1, b2⟩ := m_put (S := S) (c1 := 2) (c3 := 1) (a := 66 * P.1) (n := 66) (by decide) (by show _ ≤ 528; omega) (by decide) (by decide) (by decide)
    have r3 : S2 0 3 = nI P.1 := by rw [o2 0 (by decide)]; exact p1
    refine ⟨u2 S2 0 3 (nI (P.1 + 1)), ?_, ?_, fun c c1 c2 => by rw [u2_ne c1, o2 c c2], fun k hk => by rw [u2_eq, upd_n hk, o2 0 (by decide)]⟩
    · rw [show fX5_put S 2 (nI (66 * P.1)) 1 66 = some S2 from e2, bs, r3, show nI P.1 + 1 = nI (P.1 + 1) from nI_add _ 1]
    · unfold psh
      rw [if_pos (by omega)]
      refine ⟨by rw [u2_eq, upd_s], fun j k hj hk => ?_⟩
      have hj : j < P.1 + 1 := hj
      rw [u2_ne (by decide)]
      show S2 2 (66 * j + k) = nI (va_up P.2 P.1 f j k)
      by_cases c : j = P.1
      · subst c; rw [vu_s, b1 k hk]; exact hf k hk
      · rw [vu_n c, b2 _ (by omega)]; exact p2 j k (by omega) hk
theorem psh_ok {P : Tp} {f : Nat → Nat} {N : Nat} (h : P.1 ≤ 8 ∧ ∀ j, j < P.1 → Ok (P.2 j) N (P.2 j 0)) (k : Ok f N (f 0)) : (psh P f).1 ≤ 8 ∧ ∀ j, j < (psh P f).1 → Ok ((psh P f).2 j) N ((psh P f).2 j 0) := by
  unfold psh
  by_cases b : P.1 < 8
  · rw [if_pos b]
    refine ⟨by show P.1 + 1 ≤ 8; omega, fun j hj => ?_⟩
    have hj : j < P.1 + 1 := hj
    show Ok (va_up P.2 P.1 f j) N (va_up P.2 P.1 f j 0)
    by_cases c : j = P.1
    · subst c; rw [vu_s]; exact k
    · rw [vu_n c]; exact h.2 j (by omega)
  · rw [if_neg b]
    refine ⟨Nat.le_refl _, fun j hj => ?_⟩
    have hj : j < 8 := hj
    show Ok (va_up (fun j => P.2 (j + 1)) 7 f j) N (va_up (fun j => P.2 (j + 1)) 7 f j 0)
    by_cases c : j = 7
    · subst c; rw [vu_s]; exact k
    · rw [vu_n c]; exact h.2 (j + 1) (by omega)
/-! undo, keep, back -/
theorem sh_take {Y : YS} {o : OS} {N t : Nat} {P : Tp} (h : CP Y o N t P) (hP : P.1 ≤ 8) (h0 : 0 < P.1) (k : Ok (P.2 (P.1 - 1)) N (P.2 (P.1 - 1) 0)) : ∃ Y', fX1_take_p Y o 0 = some (Y', u2 o 13 0 (nI (P.1 - 1))) ∧ (∀ i, i ≠ 0 → Y' i = Y i) ∧ RY (Y' 0) (P.2 (P.1 - 1)) N t := by
  obtain ⟨p1, pr, p2, p3, p4⟩ := h
  obtain ⟨q1, q2, q3⟩ := p2 (P.1 - 1) (by omega)
  have em : nI P.1 - 1 = nI (P.1 - 1) := pk_sub (b := 1) (by omega)
  obtain ⟨Y', e, a, r⟩ := copyR (Y := Y) (o := u2 o 13 0 (nI (P.1 - 1))) (i0 := 0) (i1 := pr (P.1 - 1)) (by omega) (p4 (P.1 - 1) (by omega)) k
  refine ⟨Y', ?_, a, r⟩
  rw [fX1_take_p, p1, ifF (show ¬ nI P.1 ≤ 0 from nI_nle h0 (by omega)), ifF (show ¬ 8 < nI P.1 from fun e => absurd ((nI_ltI (a := 8) (by decide) (by omega)).mp e) (by omega)), em, gib (by omega) (by decide), nI_clamp (by omega), u2_eq, upd_s, u2_ne (by decide), nI_clamp (by omega), q1, g13 (by omega), gib (by omega) (by decide), g13 (by omega), nI_clamp (by omega), e, bs]
theorem m_undoL {a : Nat} (ha : a ≤ 7) : ∀ (j i u : Nat) (S : OS), i + j = 66 → j < u → S 0 3 = nI a → ∃ S', fX5_undo_L22 u (nI i) S = some (nI a, S') ∧ Eo S S' 1 ∧ (∀ k, i ≤ k → k < 66 → S' 1 k = S 2 (66 * a + k)) ∧ (∀ k, k < i → S' 1 k = S 1 k)
  | 0, i, u, S, hi, hu, h3 => by
    cases u with
    | zero => omega
    | succ u => exact ⟨S, by rw [fX5_undo_L22, ifT (by rw [show i = 66 by omega]; decide), h3], Eo.rf, fun k a b => by omega, fun _ _ => rfl⟩
  | j + 1, i, u, S, hi, hu, h3 => by
    cases u with
    | zero => omega
    | succ u =>
      obtain ⟨S1, e, o1, a1, a2⟩ := m_undoL ha j (i + 1) u (u2 S 1 i (S 2 (66 * a + i))) (by omega) (by omega) (by rw [u2_ne (by decide)]; exact h3)
      refine ⟨S1, ?_, Eo.u2.tr o1, fun k b1 b2 => ?_, fun k b => by rw [a2 k (by omega), u2_eq, upd_n (by omega)]⟩
      · rw [fX5_undo_L22, ifF (by rw [show (66 : Int32) = nI 66 from rfl, nI_leI (by decide) (by omega)]; omega), h3, e66, nI_add, gib (by omega) (by decide), gib (by omega) (by decide), nI_clamp (by omega), nI_clamp (by omega), show nI i + 1 = nI (i + 1) from nI_add i 1]
        exact e
      · by_cases c : k = i
        · subst c; rw [a2 k (by omega), u2_eq, upd_s]
        · rw [a1 k (by omega) b2, u2_ne (by decide)]
theorem op_undo {Y : YS} {o S : OS} (h : Inv Y o S) : OpW (fX4_undo Y o) (fX5_undo S) := by
  obtain ⟨f, N, t, P, K, Z, X, hC, hM, hG⟩ := id h
  obtain ⟨c1, c2, c3, c4, c5⟩ := hC
  obtain ⟨m1, m2, m3, m4, m5, m6, m7⟩ := hM
  obtain ⟨g1, g2, g3, g4, g5, g6⟩ := hG
  rw [fX4_undo, fX5_undo, c2.1, m4.1]
  by_cases b : P.1 = 0
  · rw [b, ifT (by decide), ifT (by decide)]
    exact ⟨_, _, _, _, rfl, rfl, h⟩
  · have hP := g3.1
    have hne : ¬ nI P.1 = 0 := nI_ne0 (by omega) (by omega)
    have em : nI P.1 - 1 = nI (P.1 - 1) := pk_sub (b := 1) (by omega)
    have kk := g3.2 (P.1 - 1) (by omega)
    obtain ⟨Y', e, a, r⟩ := sh_take c2 hP (by omega) kk
    obtain ⟨S', eS, oS, s1, -⟩ := m_undoL (a := P.1 - 1) (by omega) 66 0 FU (u2 S 0 3 (nI (P.1 - 1))) (by omega) (FU_gt (by omega)) (by rw [u2_eq, upd_s])
    have c2' := c2
    obtain ⟨p1, pr, p2, p3, p4⟩ := c2
    refine ⟨nI (P.1 - 1), Y', u2 o 13 0 (nI (P.1 - 1)), S', ?_, ?_, P.2 (P.1 - 1), N, t, (P.1 - 1, P.2), K, Z, X, ⟨r, ⟨by rw [u2_eq, upd_s], pr, fun j hj => by rw [u2_ne (by decide)]; exact p2 j hj, p3, fun j hj => ?_⟩, c3.cg (u2_ne (by decide)) (u2_ne (by decide)) (fun i hi => a i (by omega)), c4.cg (by rw [u2_ne (by decide)]) (u2_ne (by decide)) (u2_ne (by decide)), c5.cg (by rw [u2_ne (by decide)]) (u2_ne (by decide))⟩, ⟨fun k hk => ?_, ?_, ?_, ⟨?_, fun j k hj hk => ?_⟩, m5.cg ?_ ?_, m6.cg ?_ ?_, m7.cg ?_ ?_⟩, kk, g2, ⟨by show P.1 - 1 ≤ 8; omega, fun j hj => g3.2 j (by have hj : j < P.1 - 1 := hj; omega)⟩, g4, g5, g6⟩
    · rw [ifF hne, e, bs]
      show some (u2 o 13 0 (nI (P.1 - 1)) 13 0, _, _) = _
      rw [u2_eq, upd_s]
    · rw [ifF hne, em]; exact eS
    · have hj : j < P.1 - 1 := hj
      have := p2 j (by omega)
      rw [a _ (by omega)]; exact p4 j (by omega)
    · rw [s1 k (by omega) hk, u2_ne (by decide)]; exact m4.2 (P.1 - 1) k (by omega) hk
    · rw [oS 0 (by decide), u2_eq, upd_n (by decide)]; exact m2
    · rw [oS 0 (by decide), u2_eq, upd_n (by decide)]; exact m3
    · rw [oS 0 (by decide), u2_eq, upd_s]
    · have hj : j < P.1 - 1 := hj
      rw [oS 2 (by decide), u2_ne (by decide)]; exact m4.2 j k (by omega) hk
    · rw [oS 0 (by decide), u2_eq, upd_n (by decide)]
    · rw [oS 3 (by decide), u2_ne (by decide)]
    · rw [oS 0 (by decide), u2_eq, upd_n (by decide)]
    · rw [oS 4 (by decide), u2_ne (by decide)]
    · rw [oS 0 (by decide), u2_eq, upd_n (by decide)]
    · rw [oS 5 (by decide), u2_ne (by decide)]
theorem op_keep {Y : YS} {o S : OS} (h : Inv Y o S) : OpW (fX4_keep Y o) (fX5_keep S) := by
  obtain ⟨f, N, t, P, K, Z, X, hC, hM, hG⟩ := id h
  obtain ⟨c1, c2, c3, c4, c5⟩ := hC
  obtain ⟨m1, m2, m3, m4, m5, m6, m7⟩ := hM
  obtain ⟨g1, g2, g3, g4, g5, g6⟩ := hG
  obtain ⟨k1, k2, k3, k4⟩ := id c3
  rw [fX4_keep, fX5_keep, k1, m5.1]
  by_cases b : K.1 = 2
  · rw [b, ifF (by decide), ifT (by decide)]
    exact ⟨_, _, _, _, rfl, rfl, h⟩
  · have hK := g4.1
    have e16 : o 16 K.1 = nI (11 + K.1) := by
      rcases (show K.1 = 0 ∨ K.1 = 1 by omega) with e | e
      · rw [e]; exact k2
      · rw [e]; exact k3
    obtain ⟨Y', e, a, r⟩ := copyR (Y := Y) (o := o) (i0 := 11 + K.1) (i1 := 0) (by omega) c1 g1
    obtain ⟨S2, e2, o2, b1, b2⟩ := m_put (S := S) (c1 := 3) (c3 := 1) (a := 66 * K.1) (n := 66) (by decide) (by show _ ≤ 132; omega) (by decide) (by decide) (by decide)
    have r5 : S2 0 5 = nI K.1 := by rw [o2 0 (by decide)]; exact m5.1
    have ep : fX1_put_k Y o 0 = some (Y', u2 o 15 0 (nI (K.1 + 1))) := by
      rw [fX1_put_k, k1, ifT (show nI K.1 < 2 from (nI_ltI (b := 2) (by omega) (by decide)).mpr (by omega)), ifF (nI_pos (by omega)), ifF (show ¬ 2 ≤ nI K.1 from fun e => absurd ((nI_leI (a := 2) (by decide) (by omega)).mp e) (by omega)), gib (by omega) (by decide), nI_clamp (by omega), e16, g13 (by omega), gib (by omega) (by decide), g13 (by omega), nI_clamp (by omega), e, bs]
      dsimp only
      rw [k1, show nI K.1 + 1 = nI (K.1 + 1) from nI_add _ 1]
    refine ⟨nI (K.1 + 1), Y', u2 o 15 0 (nI (K.1 + 1)), u2 S2 0 5 (nI (K.1 + 1)), ?_, ?_, f, N, t, P, (K.1 + 1, va_up K.2 K.1 f), Z, X, ⟨by rw [a 0 (by omega)]; exact c1, c2.cg (u2_ne (by decide)) (u2_ne (by decide)) (fun i h1 h2 => a i (by omega)) g3.1, ⟨by rw [u2_eq, upd_s], by rw [u2_ne (by decide)]; exact k2, by rw [u2_ne (by decide)]; exact k3, fun j hj => ?_⟩, c4.cg (by rw [u2_ne (by decide)]) (u2_ne (by decide)) (u2_ne (by decide)), c5.cg (by rw [u2_ne (by decide)]) (u2_ne (by decide))⟩, ⟨fun k hk => ?_, ?_, ?_, m4.cg ?_ ?_, ⟨?_, fun j k hj hk => ?_⟩, m6.cg ?_ ?_, m7.cg ?_ ?_⟩, g1, g2, g3, ⟨by show K.1 + 1 ≤ 2; omega, fun j hj => ?_⟩, g5, g6⟩
    · rw [ifT (show nI K.1 < 2 from (nI_ltI (b := 2) (by omega) (by decide)).mpr (by omega)), ep, bs]
      show some (u2 o 15 0 (nI (K.1 + 1)) 15 0, _, _) = _
      rw [u2_eq, upd_s]
    · rw [ifF (show ¬ nI K.1 = 2 from fun e => b ((nI_eq (b := 2) (by omega) (by decide)).mp e)), e66, show fX5_put S 3 (nI (66 * K.1)) 1 66 = some S2 from e2, bs, r5, show nI K.1 + 1 = nI (K.1 + 1) from nI_add _ 1, u2_eq, upd_s]
    · have hj : j < K.1 + 1 := hj
      show RY (Y' (11 + j)) (va_up K.2 K.1 f j) N t
      by_cases c : j = K.1
      · subst c; rw [vu_s]; exact r
      · rw [vu_n c, a _ (by omega)]; exact k4 j (by omega)
    · rw [u2_ne (by decide), o2 1 (by decide)]; exact m1 k hk
    · rw [u2_eq, upd_n (by decide), o2 0 (by decide)]; exact m2
    · rw [u2_eq, upd_n (by decide), o2 0 (by decide)]; exact m3
    · rw [u2_eq, upd_n (by decide), o2 0 (by decide)]
    · rw [u2_ne (by decide), o2 2 (by decide)]
    · rw [u2_eq, upd_s]
    · have hj : j < K.1 + 1 := hj
      rw [u2_ne (by decide)]
      show S2 3 (66 * j + k) = nI (va_up K.2 K.1 f j k)
      by_cases c : j = K.1
      · subst c; rw [vu_s, b1 k hk]; exact m1 k hk
      · rw [vu_n c, b2 _ (by omega)]; exact m5.2 j k (by omega) hk
    · rw [u2_eq, upd_n (by decide), o2 0 (by decide)]
    · rw [u2_ne (by decide), o2 4 (by decide)]
    · rw [u2_eq, upd_n (by decide), o2 0 (by decide)]
    · rw [u2_ne (by decide), o2 5 (by decide)]
    · have hj : j < K.1 + 1 := hj
      show Ok (va_up K.2 K.1 f j) N (va_up K.2 K.1 f j 0)
      by_cases c : j = K.1
      · subst c; rw [vu_s]; exact g1
      · rw [vu_n c]; exact g4.2 j (by omega)
theorem m_backL {a : Nat} (ha : a ≤ 1) : ∀ (j i u : Nat) (S : OS), i + j = 66 → j < u → S 0 5 = nI a → ∃ S', fX5_back_L22 u (nI i) S = some (nI a, u2 S' 0 3 0) ∧ Eo S S' 1 ∧ (∀ k, i ≤ k → k < 66 → S' 1 k = S 3 (66 * a + k)) ∧ (∀ k, k < i → S' 1 k = S 1 k)
  | 0, i, u, S, hi, hu, h3 => by
    cases u with
    | zero => omega
    | succ u => exact ⟨S, by rw [fX5_back_L22, ifT (by rw [show i = 66 by omega]; decide), u2_eq, upd_n (by decide), h3], Eo.rf, fun k a b => by omega, fun _ _ => rfl⟩
  | j + 1, i, u, S, hi, hu, h3 => by
    cases u with
    | zero => omega
    | succ u =>
      obtain ⟨S1, e, o1, a1, a2⟩ := m_backL ha j (i + 1) u (u2 S 1 i (S 3 (66 * a + i))) (by omega) (by omega) (by rw [u2_ne (by decide)]; exact h3)
      refine ⟨S1, ?_, Eo.u2.tr o1, fun k b1 b2 => ?_, fun k b => by rw [a2 k (by omega), u2_eq, upd_n (by omega)]⟩
      · rw [fX5_back_L22, ifF (by rw [show (66 : Int32) = nI 66 from rfl, nI_leI (by decide) (by omega)]; omega), h3, e66, nI_add, gib (by omega) (by decide), gib (by omega) (by decide), nI_clamp (by omega), nI_clamp (by omega), show nI i + 1 = nI (i + 1) from nI_add i 1]
        exact e
      · by_cases c : k = i
        · subst c; rw [a2 k (by omega), u2_eq, upd_s]
        · rw [a1 k (by omega) b2, u2_ne (by decide)]
theorem op_back {Y : YS} {o S : OS} (h : Inv Y o S) : OpW (fX4_back Y o) (fX5_back S) := by
  obtain ⟨f, N, t, P, K, Z, X, hC, hM, hG⟩ := id h
  obtain ⟨c1, c2, c3, c4, c5⟩ := hC
  obtain ⟨m1, m2, m3, m4, m5, m6, m7⟩ := hM
  obtain ⟨g1, g2, g3, g4, g5, g6⟩ := hG
  obtain ⟨k1, k2, k3, k4⟩ := id c3
  rw [fX4_back, fX5_back, k1, m5.1]
  by_cases b : K.1 = 0
  · rw [b, ifT (by decide), ifT (by decide)]
    exact ⟨_, _, _, _, rfl, rfl, h⟩
  · have hK := g4.1
    have hne : ¬ nI K.1 = 0 := nI_ne0 (by omega) (by omega)
    have em : nI K.1 - 1 = nI (K.1 - 1) := pk_sub (b := 1) (by omega)
    have kk := g4.2 (K.1 - 1) (by omega)
    have e16 : o 16 (K.1 - 1) = nI (11 + (K.1 - 1)) := by
      rcases (show K.1 = 1 ∨ K.1 = 2 by omega) with e | e
      · rw [e]; exact k2
      · rw [e]; exact k3
    obtain ⟨Y', e, a, r⟩ := copyR (Y := Y) (o := u2 o 15 0 (nI (K.1 - 1))) (i0 := 0) (i1 := 11 + (K.1 - 1)) (by omega) (k4 (K.1 - 1) (by omega)) kk
    have et : fX1_take_k Y o 0 = some (Y', u2 o 15 0 (nI (K.1 - 1))) := by
      rw [fX1_take_k, k1, ifF (show ¬ nI K.1 ≤ 0 from nI_nle (by omega) (by omega)), ifF (show ¬ 2 < nI K.1 from fun e => absurd ((nI_ltI (a := 2) (by decide) (by omega)).mp e) (by omega)), em, gib (by omega) (by decide), nI_clamp (by omega), u2_eq, upd_s, u2_ne (by decide), nI_clamp (by omega), e16, g13 (by omega), gib (by omega) (by decide), g13 (by omega), nI_clamp (by omega), e, bs]
    obtain ⟨S', eS, oS, s1, -⟩ := m_backL (a := K.1 - 1) (by omega) 66 0 FU (u2 S 0 5 (nI (K.1 - 1))) (by omega) (FU_gt (by omega)) (by rw [u2_eq, upd_s])
    obtain ⟨p1, pr, p2, p3, p4⟩ := c2
    refine ⟨nI (K.1 - 1), Y', u2 (u2 o 15 0 (nI (K.1 - 1))) 13 0 0, u2 S' 0 3 0, ?_, ?_, K.2 (K.1 - 1), N, t, (0, P.2), (K.1 - 1, K.2), Z, X, ⟨r, ⟨by rw [u2_eq, upd_s]; rfl, pr, fun j hj => by rw [u2_ne (by decide), u2_ne (by decide)]; exact p2 j hj, p3, fun j hj => absurd hj (Nat.not_lt_zero j)⟩, ⟨by rw [u2_ne (by decide), u2_eq, upd_s], by rw [u2_ne (by decide), u2_ne (by decide)]; exact k2, by rw [u2_ne (by decide), u2_ne (by decide)]; exact k3, fun j hj => ?_⟩, c4.cg (by rw [u2_ne (by decide), u2_ne (by decide)]) (by rw [u2_ne (by decide), u2_ne (by decide)]) (by rw [u2_ne (by decide), u2_ne (by decide)]), c5.cg (by rw [u2_ne (by decide), u2_ne (by decide)]) (by rw [u2_ne (by decide), u2_ne (by decide)])⟩, ⟨fun k hk => ?_, ?_, ?_, ⟨by rw [u2_eq, upd_s]; rfl, fun j k hj hk => absurd hj (Nat.not_lt_zero j)⟩, ⟨?_, fun j k hj hk => ?_⟩, m6.cg ?_ ?_, m7.cg ?_ ?_⟩, kk, g2, ⟨Nat.zero_le _, fun j hj => absurd hj (Nat.not_lt_zero j)⟩, ⟨by show K.1 - 1 ≤ 2; omega, fun j hj => g4.2 j (by have hj : j < K.1 - 1 := hj; omega)⟩, g5, g6⟩
    · rw [ifF hne, et, bs, fX1_clear_p, bs]
      show some (u2 (u2 o 15 0 (nI (K.1 - 1))) 13 0 0 15 0, _, _) = _
      rw [u2_ne (by decide), u2_eq, upd_s]
    · rw [ifF hne, em]; exact eS
    · have hj : j < K.1 - 1 := hj
      rw [a _ (by omega)]; exact k4 j (by omega)
    · rw [u2_ne (by decide), s1 k (by omega) hk, u2_ne (by decide)]; exact m5.2 (K.1 - 1) k (by omega) hk
    · rw [u2_eq, upd_n (by decide), oS 0 (by decide), u2_eq, upd_n (by decide)]; exact m2
    · rw [u2_eq, upd_n (by decide), oS 0 (by decide), u2_eq, upd_n (by decide)]; exact m3
    · rw [u2_eq, upd_n (by decide), oS 0 (by decide), u2_eq, upd_s]
    · have hj : j < K.1 - 1 := hj
      rw [u2_ne (by decide), oS 3 (by decide), u2_ne (by decide)]; exact m5.2 j k (by omega) hk
    · rw [u2_eq, upd_n (by decide), oS 0 (by decide), u2_eq, upd_n (by decide)]
    · rw [u2_ne (by decide), oS 4 (by decide), u2_ne (by decide)]
    · rw [u2_eq, upd_n (by decide), oS 0 (by decide), u2_eq, upd_n (by decide)]
    · rw [u2_ne (by decide), oS 5 (by decide), u2_ne (by decide)]
