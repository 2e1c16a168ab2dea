/-! the whole text -/
theorem tell_all {X : Tx} (hX : GX X) : ∀ (j p c u u' : Nat) (Y : YS) (o S : OS) (f : Nat → Nat) (N t : Nat) (b : Bool), X.1 ≤ p + j → p ≤ X.1 → c ≤ p → j < u → j < u' → TG f N t b → TC Y o X f N t b p → TM S X f N t b p → ∃ r Y' o' S', fX2_tellAll_L16 2 u (nI c) Y o = some (r, Y', o') ∧ fX5_fault_L9 u' S = some (r, S') ∧ FC Y o Y' o' ∧ FM S S' ∧ ((r = -4 ∧ ∃ f' N' t' b' p', TG f' N' t' b' ∧ TC Y' o' X f' N' t' b' p' ∧ TM S' X f' N' t' b' p') ∨ ¬ r = -4) := by
  intro j
  induction j with
  | zero =>
    intro p c u u' Y o S f N t b hj hp hc hu hu' hg h1 h2
    have hb := hX.1
    cases u with
    | zero => omega
    | succ u =>
      cases u' with
      | zero => omega
      | succ u' =>
        refine ⟨-4, Y, o, S, ?_, ?_, ⟨fun _ _ => rfl, fun _ _ _ => rfl, rfl⟩, ⟨fun _ _ _ _ => rfl, fun _ _ _ _ _ => rfl⟩, Or.inl ⟨rfl, f, N, t, b, p, hg, h1, h2⟩⟩
        · rw [fX2_tellAll_L16, h1.2.1.1, h1.2.2.1, ifT (show nI X.1 ≤ nI p from (nI_leI (by omega) (by omega)).mpr (by omega))]
          split <;> rfl
        · rw [fX5_fault_L9, h2.2.1.1, h2.2.2.1, ifT (show nI X.1 ≤ nI p from (nI_leI (by omega) (by omega)).mpr (by omega))]
  | succ j ih =>
    intro p c u u' Y o S f N t b hj hp hc hu hu' hg h1 h2
    have hb := hX.1
    cases u with
    | zero => omega
    | succ u =>
      cases u' with
      | zero => omega
      | succ u' =>
        rcases Nat.lt_or_ge p X.1 with hl | hl
        · have a := c_step (u := u) (c := c) hX hg h1 hl (by omega)
          have d := m_step (u := u') hX hg h2 hl
          cases e : item X f N t b p with
          | none =>
            rw [e] at a d
            obtain ⟨Y', o', e1, fc⟩ := a
            obtain ⟨S', e2, fm⟩ := d
            exact ⟨nI p, Y', o', S', e1, e2, fc, fm, Or.inr (m4T (by omega))⟩
          | some q =>
            rw [e] at a d
            obtain ⟨Y1, o1, e1, fc, tc⟩ := a
            obtain ⟨S1, e2, fm, tm⟩ := d
            have ok := item_ok (f' := q.1) (N' := q.2.1) (t' := q.2.2.1) (b' := q.2.2.2.1) (p' := q.2.2.2.2) hg e
            obtain ⟨r, Y', o', S', k1, k2, k3, k4, k5⟩ := ih q.2.2.2.2 (c + 1) u u' Y1 o1 S1 q.1 q.2.1 q.2.2.1 q.2.2.2.1 (by omega) ok.2.2 (by omega) (by omega) (by omega) ok.1 tc tm
            exact ⟨r, Y', o', S', by rw [e1]; exact k1, by rw [e2]; exact k2, fc.tr k3, fm.tr k4, k5⟩
        · refine ⟨-4, Y, o, S, ?_, ?_, ⟨fun _ _ => rfl, fun _ _ _ => rfl, rfl⟩, ⟨fun _ _ _ _ => rfl, fun _ _ _ _ _ => rfl⟩, Or.inl ⟨rfl, f, N, t, b, p, hg, h1, h2⟩⟩
          · rw [fX2_tellAll_L16, h1.2.1.1, h1.2.2.1, ifT (show nI X.1 ≤ nI p from (nI_leI (by omega) (by omega)).mpr (by omega))]
            split <;> rfl
          · rw [fX5_fault_L9, h2.2.1.1, h2.2.2.1, ifT (show nI X.1 ≤ nI p from (nI_leI (by omega) (by omega)).mpr (by omega))]
theorem y_empty (y : OS) : ∃ y', fX3_empty y = some y' ∧ RY y' (an zr 6) 6 60 := by
  obtain ⟨y', e, r⟩ := y_freeAll (y := u2 (u2 (u2 (u2 y 0 0 6) 0 1 60) 0 2 0) 0 3 0) (f := zr) (N := 6) (t := 60) ⟨by
    rw [u2_eq, upd_n (by decide), u2_eq, upd_n (by decide), u2_eq, upd_n (by decide), u2_eq, upd_s]; rfl, by
    rw [u2_eq, upd_n (by decide), u2_eq, upd_n (by decide), u2_eq, upd_s]; rfl, by
    rw [u2_eq, upd_n (by decide), u2_eq, upd_s]; rfl, by
    rw [u2_eq, upd_s]; rfl, fun i hi => absurd hi (Nat.not_lt_zero i), fun i hi => absurd hi (Nat.not_lt_zero i)⟩ (Nat.zero_le _)
  exact ⟨y', by rw [fX3_empty, e]; rfl, by rw [an_0 (f := zr) (N := 6) rfl]; exact r⟩
theorem m_clearL : ∀ (j i u : Nat) (S : OS), i + j = 66 → j < u → ∃ S', fX5_clearTold_L19 u (nI i) S = some S' ∧ Eo S S' 7 ∧ (∀ k, i ≤ k → k < 66 → S' 7 k = 0) ∧ (∀ k, k < i → S' 7 k = S 7 k)
  | 0, i, u, S, hi, hu => by
    cases u with
    | zero => omega
    | succ u => exact ⟨S, by rw [fX5_clearTold_L19, ifT (by rw [show i = 66 by omega]; decide)], Eo.rf, fun k h1 h2 => by omega, fun _ _ => rfl⟩
  | j + 1, i, u, S, hi, hu => by
    cases u with
    | zero => omega
    | succ u =>
      obtain ⟨S', e, h1, h2, h3⟩ := m_clearL j (i + 1) u (u2 S 7 i 0) (by omega) (by omega)
      refine ⟨S', ?_, Eo.u2.tr h1, fun k hk1 hk2 => ?_, fun k hk => by rw [h3 k (by omega), u2_eq, upd_n (by omega)]⟩
      · rw [fX5_clearTold_L19, ifF (by rw [show (66 : Int32) = nI 66 from rfl, nI_leI (by decide) (by omega)]; omega), gib (by omega) (by decide), nI_clamp (by omega), show nI i + 1 = nI (i + 1) from nI_add i 1]
        exact e
      · by_cases c : k = i
        · subst c; rw [h3 k (by omega), u2_eq, upd_s]
        · exact h2 k (by omega) hk2
theorem tells {Y : YS} {o S : OS} {f : Nat → Nat} {N t : Nat} {P K : Tp} {Z : Tz} {X : Tx} (hC : CI Y o f N t P K Z X) (hM : MI S f N t P K Z X) (hG : GI f N t P K Z X) : ∃ r Y' o' S', fX2_tellAll Y o 2 = some (r, Y', o') ∧ fX5_fault S = some (r, S') ∧ FC Y o Y' o' ∧ FM S S' ∧ ((r = -4 ∧ ∃ f' N' t' b' p', TG f' N' t' b' ∧ TC Y' o' X f' N' t' b' p' ∧ TM S' X f' N' t' b' p') ∨ ¬ r = -4) := by
  have hX : GX X := hG.2.2.2.2.2
  have hb := hX.1
  have cx := hC.2.2.2.2
  have mx := hM.2.2.2.2.2.2
  obtain ⟨y', e1, r1⟩ := y_empty (Y 2)
  obtain ⟨S', e2, b1, b2, -⟩ := m_clearL 66 0 FU (u2 (u2 (u2 (u2 S 0 11 0) 0 13 6) 0 14 60) 0 15 0) (by omega) (FU_gt (by omega))
  have s0 : ∀ m, m ≠ 11 → m ≠ 13 → m ≠ 14 → m ≠ 15 → S' 0 m = S 0 m := fun m h1 h2 h3 h4 => by rw [b1 0 (by decide), u2_eq, upd_n h4, u2_eq, upd_n h3, u2_eq, upd_n h2, u2_eq, upd_n h1]
  have sc : ∀ c, c ≠ 0 → c ≠ 7 → S' c = S c := fun c h1 h2 => by rw [b1 c h2, u2_ne h1, u2_ne h1, u2_ne h1, u2_ne h1]
  obtain ⟨r, Y', o', S'', k1, k2, k3, k4, k5⟩ := tell_all hX X.1 0 0 FU FU (va_up Y 2 y') (u2 (u2 o 3 1 0) 3 2 1) S' zr 6 60 true (by omega) (by omega) (by omega) (FU_gt (by omega)) (FU_gt (by omega)) ⟨⟨⟨by omega, by omega⟩, Nat.zero_le _, Nat.zero_le _, fun i hi => absurd hi (Nat.not_lt_zero i), fun i hi => absurd hi (Nat.not_lt_zero i)⟩, ⟨by omega, by omega⟩, fun _ => ⟨rfl, rfl⟩⟩ ⟨by rw [vu_s]; exact r1, ⟨by rw [u2_eq, upd_n (by decide), u2_eq, upd_n (by decide)]; exact cx.1, fun j hj => by rw [u2_ne (by decide), u2_ne (by decide)]; exact cx.2 j hj⟩, by rw [u2_eq, upd_n (by decide), u2_eq, upd_s]; rfl, by rw [u2_eq, upd_s]; rfl⟩ ⟨fun j hj => by rw [b2 j (by omega) hj]; rfl, ⟨by rw [s0 10 (by decide) (by decide) (by decide) (by decide)]; exact mx.1, fun j hj => by rw [sc 5 (by decide) (by decide)]; exact mx.2 j hj⟩, by rw [b1 0 (by decide), u2_eq, upd_n (by decide), u2_eq, upd_n (by decide), u2_eq, upd_n (by decide), u2_eq, upd_s]; rfl, by rw [b1 0 (by decide), u2_eq, upd_n (by decide), u2_eq, upd_n (by decide), u2_eq, upd_s]; rfl, by rw [b1 0 (by decide), u2_eq, upd_n (by decide), u2_eq, upd_s]; rfl, by rw [b1 0 (by decide), u2_eq, upd_s]; rfl⟩
  refine ⟨r, Y', o', S'', ?_, ?_, FC.tr ⟨fun i hi => vu_n hi, fun c h1 _ => by rw [u2_ne h1, u2_ne h1], by rw [u2_eq, upd_n (by decide), u2_eq, upd_n (by decide)]⟩ k3, FM.tr ⟨fun c h1 _ h3 => sc c h1 h3, s0⟩ k4, k5⟩
  · rw [fX2_tellAll, e1, bs]; exact k1
  · rw [fX5_fault, fX5_clearTold, show fX5_clearTold_L19 FU 0 _ = _ from e2, bs]; exact k2
theorem FC.sc {Y Y' : YS} {o o' : OS} {f : Nat → Nat} {N t : Nat} {P K : Tp} {Z : Tz} {X : Tx} (h : FC Y o Y' o') (hC : CI Y o f N t P K Z X) (hP : P.1 ≤ 8) : CI Y' o' f N t P K Z X := hC.cg (fun i _ h2 => h.1 i h2) (fun c hc => h.2.1 c (by omega) (by omega)) h.2.2 hP
theorem FM.sc {S S' : OS} {f : Nat → Nat} {N t : Nat} {P K : Tp} {Z : Tz} {X : Tx} (h : FM S S') (hM : MI S f N t P K Z X) : MI S' f N t P K Z X := hM.cg (fun c h1 h2 => h.1 c (by omega) (by omega) (by omega)) (fun k hk => h.2 k (by omega) (by omega) (by omega) (by omega))
theorem op_fault {Y : YS} {o S : OS} (h : Inv Y o S) : OpW (fX4_fault Y o) (fX5_fault S) := by
  obtain ⟨f, N, t, P, K, Z, X, hC, hM, hG⟩ := h
  obtain ⟨r, Y', o', S', e1, e2, fc, fm, -⟩ := tells hC hM hG
  exact ⟨r, Y', o', S', by rw [fX4_fault, e1, bs], e2, f, N, t, P, K, Z, X, fc.sc hC hG.2.2.1.1, fm.sc hM, hG⟩
theorem op_lay {Y : YS} {o S : OS} (h : Inv Y o S) : OpW (fX4_lay Y o) (fX5_lay S) := by
  obtain ⟨f, N, t, P, K, Z, X, hC, hM, hG⟩ := h
  obtain ⟨r, Y', o', S', e1, e2, fc, fm, hr⟩ := tells hC hM hG
  have hC' := fc.sc hC hG.2.2.1.1
  have hM' := fm.sc hM
  rw [fX4_lay, fX5_lay, e1, e2, bs, bs]
  dsimp only
  rcases hr with ⟨rfl, f', N', t', b', p', hg, tc, tm⟩ | hr
  · have ka := okb_an hg.1
    have k12 := hg.1.2.1
    rw [ifT (show (-4 : Int32) = -4 from rfl), ifT (show (-4 : Int32) = -4 from rfl)]
    have y2 : Y' 2 0 2 = nI (f' 0) := by rw [tc.1.2.2.1, ka.2]
    have s7 : S' 7 (0 : Int32).toNatClampNeg = nI (f' 0) := by rw [z0]; exact tm.1 0 (by omega)
    by_cases c : f' 0 = 0
    · rw [ifT (show Y' 2 0 2 = 0 by rw [y2, c]; rfl), ifT (show S' 7 (0 : Int32).toNatClampNeg = 0 by rw [s7, c]; rfl)]
      exact ⟨_, _, _, _, rfl, rfl, f, N, t, P, K, Z, X, hC', hM', hG⟩
    · have c' : ¬ nI (f' 0) = 0 := fun e => c ((nI_eq (b := 0) (by omega) (by omega)).mp e)
      rw [ifF (show ¬ Y' 2 0 2 = 0 by rw [y2]; exact c'), ifF (show ¬ S' 7 (0 : Int32).toNatClampNeg = 0 by rw [s7]; exact c')]
      obtain ⟨Y2, d1, a1, a2⟩ := copyR (Y := Y') (o := o') (i0 := 0) (i1 := 2) (by decide) tc.1 ka.1
      have q0 : u2 (u2 S' 0 0 (S' 0 13)) 0 1 (u2 S' 0 0 (S' 0 13) 0 14) 0 0 = nI N' := by rw [u2_eq, upd_n (by decide), u2_eq, upd_s]; exact tm.2.2.2.1
      have q1 : u2 (u2 S' 0 0 (S' 0 13)) 0 1 (u2 S' 0 0 (S' 0 13) 0 14) 0 1 = nI t' := by rw [u2_eq, upd_s, u2_eq, upd_n (by decide)]; exact tm.2.2.2.2.1
      have qn : ∀ m, m ≠ 0 → m ≠ 1 → u2 (u2 S' 0 0 (S' 0 13)) 0 1 (u2 S' 0 0 (S' 0 13) 0 14) 0 m = S' 0 m := fun m h1 h2 => by rw [u2_eq, upd_n h2, u2_eq, upd_n h1]
      have qc : ∀ c, c ≠ 0 → u2 (u2 S' 0 0 (S' 0 13)) 0 1 (u2 S' 0 0 (S' 0 13) 0 14) c = S' c := fun c h1 => by rw [u2_ne h1, u2_ne h1]
      generalize hS1 : u2 (u2 S' 0 0 (S' 0 13)) 0 1 (u2 S' 0 0 (S' 0 13) 0 14) = S1 at q0 q1 qn qc
      obtain ⟨S2, d2, b1, b2⟩ := m_put66 (S := S1) (c1 := 8) (c3 := 7) (f := f') (by decide) rfl rfl (fun j hj => by rw [qc 7 (by decide)]; exact tm.1 j hj)
      obtain ⟨S3, d3, b3, b4⟩ := m_anew b2 (by rw [b1 0 (by decide)]; exact q0) hg.1
      obtain ⟨S4, d4, b5, b6⟩ := m_put66 (S := S3) (c1 := 1) (c3 := 8) (f := an f' N') (by decide) rfl rfl b3
      have s4 : ∀ c, c ≠ 1 → c ≠ 8 → S4 c = S1 c := fun c h1 h2 => by rw [b5 c h1, b4 c h2, b1 c h2]
      have w1 : fX5_settles S' = some (u2 (u2 (u2 S4 0 3 0) 0 5 0) 0 7 0) := by rw [fX5_settles, hS1, d2, bs, d3, bs, d4, bs]
      have w2 : ∀ m, m ≠ 3 → m ≠ 5 → m ≠ 7 → u2 (u2 (u2 S4 0 3 0) 0 5 0) 0 7 0 0 m = S4 0 m := fun m h1 h2 h3 => by rw [u2_eq, upd_n h3, u2_eq, upd_n h2, u2_eq, upd_n h1]
      have w3 : ∀ c, c ≠ 0 → u2 (u2 (u2 S4 0 3 0) 0 5 0) 0 7 0 c = S4 c := fun c h1 => by rw [u2_ne h1, u2_ne h1, u2_ne h1]
      rw [d1, bs]
      dsimp only
      rw [fX1_clear_p, bs, fX1_clear_k, bs, w1, bs]
      dsimp only
      have v2 : ∀ c, c ≠ 13 → c ≠ 15 → c ≠ 0 → u2 (u2 (u2 o' 13 0 0) 15 0 0) 0 9 0 c = o' c := fun c h1 h2 h3 => by rw [u2_ne h3, u2_ne h2, u2_ne h1]
      refine ⟨nI (f' 0), Y2, u2 (u2 (u2 o' 13 0 0) 15 0 0) 0 9 0, u2 (u2 (u2 S4 0 3 0) 0 5 0) 0 7 0, ?_, ?_, an f' N', N', t', (0, P.2), (0, K.2), (0, Z.2), X, ⟨a2, ⟨?_, ?_⟩, ⟨?_, ?_, ?_, ?_⟩, ⟨?_, ?_⟩, ?_, ?_⟩, ⟨?_, ?_, ?_, ⟨?_, ?_⟩, ⟨?_, ?_⟩, ⟨?_, ?_⟩, ?_, ?_⟩, ?_, hg.2.1, ⟨Nat.zero_le _, fun j hj => absurd hj (Nat.not_lt_zero j)⟩, ⟨Nat.zero_le _, fun j hj => absurd hj (Nat.not_lt_zero j)⟩, ⟨Nat.zero_le _, fun j hj => absurd hj (Nat.not_lt_zero j)⟩, hG.2.2.2.2.2⟩
      · rw [a2.2.2.1, ka.2]
      · rw [z0, w3 1 (by decide), b6 0 (by omega), ka.2]
      · rw [u2_ne (by decide), u2_ne (by decide), u2_eq, upd_s]; rfl
      · obtain ⟨pr, x1, x2, -⟩ := hC'.2.1.2
        exact ⟨pr, fun j hj => by rw [v2 14 (by decide) (by decide) (by decide)]; exact x1 j hj, x2, fun j hj => absurd hj (Nat.not_lt_zero j)⟩
      · rw [u2_ne (by decide), u2_eq, upd_s]; rfl
      · rw [v2 16 (by decide) (by decide) (by decide)]; exact hC'.2.2.1.2.1
      · rw [v2 16 (by decide) (by decide) (by decide)]; exact hC'.2.2.1.2.2.1
      · exact fun j hj => absurd hj (Nat.not_lt_zero j)
      · rw [u2_eq, upd_s]; rfl
      · exact fun j hj => absurd hj (Nat.not_lt_zero j)
      · rw [v2 3 (by decide) (by decide) (by decide)]; exact hC'.2.2.2.2.1
      · intro j hj; rw [v2 4 (by decide) (by decide) (by decide)]; exact hC'.2.2.2.2.2 j hj
      · intro j hj; rw [w3 1 (by decide)]; exact b6 j hj
      · rw [w2 0 (by decide) (by decide) (by decide), s4 0 (by decide) (by decide)]; exact q0
      · rw [w2 1 (by decide) (by decide) (by decide), s4 0 (by decide) (by decide)]; exact q1
      · rw [u2_eq, upd_n (by decide), u2_eq, upd_n (by decide), u2_eq, upd_s]; rfl
      · exact fun j k hj => absurd hj (Nat.not_lt_zero j)
      · rw [u2_eq, upd_n (by decide), u2_eq, upd_s]; rfl
      · exact fun j k hj => absurd hj (Nat.not_lt_zero j)
      · rw [u2_eq, upd_s]; rfl
      · exact fun j hj => absurd hj (Nat.not_lt_zero j)
      · rw [w2 10 (by decide) (by decide) (by decide), s4 0 (by decide) (by decide), qn 10 (by decide) (by decide)]; exact hM'.2.2.2.2.2.2.1
      · intro j hj; rw [w3 5 (by decide), s4 5 (by decide) (by decide), qc 5 (by decide)]; exact hM'.2.2.2.2.2.2.2 j hj
      · rw [ka.2]; exact ka.1
  · rw [ifF hr, ifF hr]
    exact ⟨_, _, _, _, rfl, rfl, f, N, t, P, K, Z, X, hC', hM', hG⟩
