/-! the reference's items -/
theorem z53 : (53 : Int32).toNatClampNeg = 53 := rfl
theorem m_told {S : OS} {k v : Nat} (lo hi : Int32) (hk : k < 3) (h : S 6 k = nI v) : fX5_isTold S (nI k) lo hi = some (b01 (iL (nI v) lo.toInt hi.toInt)) := by
  rw [fX5_isTold, gib (by omega) (by decide), nI_clamp (by omega), h, m_in, bs, b01_c, gB_t]
theorem m_tellsDead {S : OS} {f : Nat → Nat} {v k F : Nat} (h : RS S 7 f) (h12 : f 0 < 12) : ∃ S', fX5_tellsDead S (nI v) (nI k) (nI F) = some S' ∧ RS S' 7 (adn f v k F) ∧ Eo S S' 7 := by
  refine ⟨u2 (u2 (u2 (u2 S 7 (1 + 3 * f 0) (nI v)) 7 (2 + 3 * f 0) (nI k)) 7 (3 + 3 * f 0) (nI F)) 7 0 (nI (f 0 + 1)), ?_, (((h.put (k := 1 + 3 * f 0) (v := v)).put (k := 2 + 3 * f 0) (v := k)).put (k := 3 + 3 * f 0) (v := F)).put (k := 0) (v := f 0 + 1), ((Eo.u2.tr Eo.u2).tr Eo.u2).tr Eo.u2⟩
  have e0 : u2 (u2 (u2 S 7 (1 + 3 * f 0) (nI v)) 7 (2 + 3 * f 0) (nI k)) 7 (3 + 3 * f 0) (nI F) 7 0 = nI (f 0) := by
    rw [u2_eq, upd_n (by omega), u2_eq, upd_n (by omega), u2_eq, upd_n (by omega)]; exact h 0 (by omega)
  rw [fX5_tellsDead, z0, h 0 (by omega), ix3, ix2, ix1, gib (by omega) (by decide), gib (by omega) (by decide), gib (by omega) (by decide), nI_clamp (by omega), nI_clamp (by omega), nI_clamp (by omega), e0, show nI (f 0) + 1 = nI (f 0 + 1) from nI_add _ 1]
theorem ix4 (i : Nat) : (54 : Int32) + (2 * nI i) = nI (54 + 2 * i) := by
  rw [show (54 : Int32) = nI 54 from rfl, show (2 : Int32) = nI 2 from rfl, pk_mul, nI_add]
theorem ix5 (i : Nat) : ((54 : Int32) + (2 * nI i)) + 1 = nI (55 + 2 * i) := by
  rw [ix4, show (1 : Int32) = nI 1 from rfl, nI_add]; congr 1; omega
theorem m_tellsGuest {S : OS} {f : Nat → Nat} {v k : Nat} (h : RS S 7 f) (h6 : f 53 < 6) : ∃ S', fX5_tellsGuest S (nI v) (nI k) = some S' ∧ RS S' 7 (vis f v k) ∧ Eo S S' 7 := by
  refine ⟨u2 (u2 (u2 S 7 (54 + 2 * f 53) (nI v)) 7 (55 + 2 * f 53) (nI k)) 7 53 (nI (f 53 + 1)), ?_, ((h.put (k := 54 + 2 * f 53) (v := v)).put (k := 55 + 2 * f 53) (v := k)).put (k := 53) (v := f 53 + 1), (Eo.u2.tr Eo.u2).tr Eo.u2⟩
  have e0 : u2 (u2 S 7 (54 + 2 * f 53) (nI v)) 7 (55 + 2 * f 53) (nI k) 7 53 = nI (f 53) := by
    rw [u2_eq, upd_n (by omega), u2_eq, upd_n (by omega)]; exact h 53 (by omega)
  rw [fX5_tellsGuest, z53, h 53 (by omega), ix5, ix4, gib (by omega) (by decide), gib (by omega) (by decide), nI_clamp (by omega), nI_clamp (by omega), e0, show nI (f 53) + 1 = nI (f 53 + 1) from nI_add _ 1]
theorem m_num {X : Tx} (hX : GX X) {k : Nat} (hk : 0 < k) (hk3 : k ≤ 3) {S : OS} {p : Nat} (hp : p < X.1) (h : SX S X) (h11 : S 0 11 = nI (p + 1)) : ∃ S', fX5_readNumbers S (nI k) = some (b01 (rn X k 0 (p + 1) zr).isSome, S') ∧ (∀ c, c ≠ 0 → c ≠ 6 → S' c = S c) ∧ (∀ m, m ≠ 11 → S' 0 m = S 0 m) ∧ (∀ q, rn X k 0 (p + 1) zr = some q → S' 0 11 = nI q.1 ∧ ∀ m, m < k → S' 6 m = nI (q.2 m)) := by
  have hb := hX.1
  obtain ⟨S', e, a1, a2, a4⟩ := m_rn hX hk hk3 k 0 FU (p + 1) zr S (by omega) (FU_gt (by omega)) (by omega) h h11 (fun m hm => by omega)
  exact ⟨S', by rw [fX5_readNumbers]; exact e, a1, a2, fun q hq => a4 q.1 q.2 hq⟩
theorem it_y {X : Tx} {f : Nat → Nat} {N t p : Nat} (h : lt X p = 121) : item X f N t false p = none := by
  unfold item
  rw [if_pos h]
  cases rn X 1 0 (p + 1) zr with
  | none => rfl
  | some q => exact if_neg (fun e => by cases e.1)
theorem it_d {X : Tx} {f : Nat → Nat} {N t p : Nat} {b : Bool} (h : lt X p = 100) (h0 : f 0 = 12) : item X f N t b p = none := by
  unfold item
  rw [if_neg (by omega), if_pos h]
  cases rn X 3 0 (p + 1) zr with
  | none => rfl
  | some q => exact if_neg (fun e => by omega)
theorem it_v {X : Tx} {f : Nat → Nat} {N t p : Nat} {b : Bool} (h : lt X p = 118) (h0 : f 53 = 6) : item X f N t b p = none := by
  unfold item
  rw [if_neg (by omega), if_neg (by omega), if_pos h]
  cases rn X 2 0 (p + 1) zr with
  | none => rfl
  | some q => exact if_neg (fun e => by omega)
theorem fz {p u : Nat} {S' : OS} : (((some ((0 : Int32), S')).bind fun r => gB (isC .boolean r.1) (some (r.1, r.2))).bind fun r2 => if r2.1 = 0 then some (nI p, r2.2) else fX5_fault_L9 u r2.2) = some (nI p, S') := by
  rw [bs]
  dsimp only
  rw [show isC .boolean 0 = true by decide, gB_t, bs]; rfl
theorem fo1 {p u : Nat} {S' : OS} : (((some ((1 : Int32), S')).bind fun r => gB (isC .boolean r.1) (some (r.1, r.2))).bind fun r2 => if r2.1 = 0 then some (nI p, r2.2) else fX5_fault_L9 u r2.2) = fX5_fault_L9 u S' := by
  rw [bs]
  dsimp only
  rw [show isC .boolean 1 = true by decide, gB_t, bs]; rfl
def MR (S : OS) (X : Tx) (p u : Nat) (x : Option (Int32 × OS)) (r : Option ((Nat → Nat) × Nat × Nat × Bool × Nat)) : Prop := match r with
  | none => ∃ S', x = some (nI p, S') ∧ FM S S'
  | some q => ∃ S', x = fX5_fault_L9 u S' ∧ FM S S' ∧ TM S' X q.1 q.2.1 q.2.2.1 q.2.2.2.1 q.2.2.2.2
theorem m_step {X : Tx} (hX : GX X) {S : OS} {f : Nat → Nat} {N t p u : Nat} {b : Bool} (hg : TG f N t b) (h : TM S X f N t b p) (hp : p < X.1) : MR S X p u (fX5_fault_L9 (u + 1) S) (item X f N t b p) := by
  have hb := hX.1
  obtain ⟨h1, h2, h3, h4, h5, h6⟩ := h
  have hl := lt_b hX p
  have k12 := hg.1.2.1
  have k6 := hg.1.2.2.1
  have e1 : nI p + 1 = nI (p + 1) := nI_add p 1
  have neq : ∀ {c : Nat}, c < 127 → ¬ lt X p = c → ¬ nI (lt X p) = nI c := fun hc hn e => hn ((nI_eq (by omega) (by omega)).mp e)
  rw [fX5_fault_L9, h2.1, h3, ifF (by rw [nI_leI (by omega) (by omega)]; omega), fX5_readItem, h3, m_letter hX h2 (by omega), bs, lm_in hp, e1]
  generalize hS1 : u2 S 0 11 (nI (p + 1)) = S1
  have s1 : S1 0 11 = nI (p + 1) := by rw [← hS1, u2_eq, upd_s]
  have s2 : ∀ m, m ≠ 11 → S1 0 m = S 0 m := fun m hm => by rw [← hS1, u2_eq, upd_n hm]
  have s3 : ∀ c, c ≠ 0 → S1 c = S c := fun c hc => by rw [← hS1, u2_ne hc]
  generalize hS2 : u2 S1 0 15 1 = S2
  have r1 : S2 0 11 = nI (p + 1) := by rw [← hS2, u2_eq, upd_n (by decide)]; exact s1
  have r2 : ∀ m, m ≠ 11 → m ≠ 15 → S2 0 m = S 0 m := fun m hm hm2 => by rw [← hS2, u2_eq, upd_n hm2]; exact s2 m hm
  have r3 : ∀ c, c ≠ 0 → S2 c = S c := fun c hc => by rw [← hS2, u2_ne hc]; exact s3 c hc
  have r4 : S2 0 15 = b01 (!false) := by rw [← hS2, u2_eq, upd_s]; rfl
  have t1 : SX S1 X := h2.o (s2 10 (by decide)) (s3 5 (by decide))
  have t2 : SX S2 X := h2.o (r2 10 (by decide) (by decide)) (r3 5 (by decide))
  have fm2 : FM S S2 := ⟨fun c hc _ _ => r3 c hc, fun m h1 _ _ h4 => r2 m h1 h4⟩
  have fm1 : FM S S1 := ⟨fun c hc _ _ => s3 c hc, fun m h1 _ _ h4 => s2 m h1⟩
  have mf : ∀ {A B : OS}, (∀ c, c ≠ 0 → c ≠ 6 → B c = A c) → (∀ m, m ≠ 11 → B 0 m = A 0 m) → FM A B := fun h1 h2 => ⟨fun c a b _ => h1 c a b, fun m a _ _ _ => h2 m a⟩
  have mu : ∀ {A : OS} {k : Nat} {x : Int32}, (k = 13 ∨ k = 14) → FM A (u2 A 0 k x) := fun hk => ⟨fun c a _ _ => u2_ne a, fun m a b c d => by rw [u2_eq, upd_n (by omega)]⟩
  by_cases c1 : lt X p = 121
  · rw [ifT (show nI (lt X p) = 121 by rw [c1]; rfl), fX5_readPlotsOf, s2 15 (by decide), h6]
    cases b with
    | false =>
      rw [it_y c1]
      exact ⟨u2 S1 0 13 (S1 0 13), fz, fm1.tr (mu (Or.inl rfl))⟩
    | true =>
      obtain ⟨S', e, a1, a2, a4⟩ := m_num hX (k := 1) (by omega) (by omega) hp t1 s1
      unfold item
      rw [if_pos c1, ifT (show b01 (!true) = 0 from rfl), show (fX5_readNumbers S1 1) = _ from e, bs]
      have fm' : FM S S' := fm1.tr (mf a1 a2)
      cases r : rn X 1 0 (p + 1) zr with
      | none => exact ⟨u2 S' 0 13 (S' 0 13), fz, fm'.tr (mu (Or.inl rfl))⟩
      | some q =>
        obtain ⟨a5, a6⟩ := a4 q r
        have hv := (rn_b 1 0 (p + 1) zr q.1 q.2 r).2.1 0 (by omega) (by omega)
        have told := m_told (S := S') (k := 0) (v := q.2 0) 2 8 (by omega) (a6 0 (by omega))
        have told : fX5_isTold S' 0 2 8 = some (b01 (iL (nI (q.2 0)) 2 8)) := told
        rw [iL_nI (by omega)] at told
        dsimp only
        rw [show b01 (some q).isSome = 1 from rfl, ifF (show ¬ (1 : Int32) = 0 by decide), told, bs, z0, a6 0 (by omega)]
        by_cases c2 : 2 ≤ q.2 0 ∧ q.2 0 ≤ 8
        · rw [decide_eq_true (p := (2 : Int) ≤ (q.2 0 : Int) ∧ (q.2 0 : Int) ≤ 8) (by omega), ibt, if_pos ⟨rfl, c2⟩]
          refine ⟨u2 S' 0 13 (nI (q.2 0)), fo1, fm'.tr (mu (Or.inl rfl)), ?_, ?_, ?_, ?_, ?_, ?_⟩
          · intro j hj; rw [u2_ne (by decide), a1 7 (by decide) (by decide), s3 7 (by decide)]; exact h1 j hj
          · exact h2.o (by rw [u2_eq, upd_n (by decide), a2 10 (by decide), s2 10 (by decide)]) (by rw [u2_ne (by decide), a1 5 (by decide) (by decide), s3 5 (by decide)])
          · show u2 S' 0 13 (nI (q.2 0)) 0 11 = nI q.1; rw [u2_eq, upd_n (by decide)]; exact a5
          · show u2 S' 0 13 (nI (q.2 0)) 0 13 = nI (q.2 0); rw [u2_eq, upd_s]
          · show u2 S' 0 13 (nI (q.2 0)) 0 14 = nI t; rw [u2_eq, upd_n (by decide), a2 14 (by decide), s2 14 (by decide)]; exact h5
          · show u2 S' 0 13 (nI (q.2 0)) 0 15 = b01 (!true); rw [u2_eq, upd_n (by decide), a2 15 (by decide), s2 15 (by decide)]; exact h6
        · rw [decide_eq_false (p := (2 : Int) ≤ (q.2 0 : Int) ∧ (q.2 0 : Int) ≤ 8) (by omega), ibf, if_neg (fun e => c2 e.2)]
          exact ⟨u2 S' 0 13 (S' 0 13), fz, fm'.tr (mu (Or.inl rfl))⟩
  · rw [ifF (show ¬ nI (lt X p) = 121 from neq (c := 121) (by decide) c1)]
    by_cases c2 : lt X p = 100
    · rw [ifT (show nI (lt X p) = 100 by rw [c2]; rfl), fX5_readDeadOf, z0, r3 7 (by decide), h1 0 (by omega)]
      by_cases d2 : f 0 = 12
      · rw [it_d c2 d2, ifT (show nI (f 0) = 12 by rw [d2]; rfl)]
        exact ⟨S2, fz, fm2⟩
      · obtain ⟨S', e, a1, a2, a4⟩ := m_num hX (k := 3) (by omega) (by omega) hp t2 r1
        unfold item
        rw [if_neg c1, if_pos c2, ifF (show ¬ nI (f 0) = 12 from fun e => d2 ((nI_eq (b := 12) (by omega) (by decide)).mp e)), show (fX5_readNumbers S2 3) = _ from e, bs]
        have fm' : FM S S' := fm2.tr (mf a1 a2)
        cases r : rn X 3 0 (p + 1) zr with
        | none => exact ⟨S', fz, fm'⟩
        | some q =>
          obtain ⟨a5, a6⟩ := a4 q r
          have hv := (rn_b 3 0 (p + 1) zr q.1 q.2 r).2.1
          have hv0 := hv 0 (by omega) (by omega)
          have hv1 := hv 1 (by omega) (by omega)
          have hv2 := hv 2 (by omega) (by omega)
          have told0 : fX5_isTold S' 0 0 1 = some (b01 (iL (nI (q.2 0)) 0 1)) := m_told (S := S') (k := 0) (v := q.2 0) 0 1 (by omega) (a6 0 (by omega))
          have told1 : fX5_isTold S' 1 0 3 = some (b01 (iL (nI (q.2 1)) 0 3)) := m_told (S := S') (k := 1) (v := q.2 1) 0 3 (by omega) (a6 1 (by omega))
          have told2 : fX5_isTold S' 2 0 9 = some (b01 (iL (nI (q.2 2)) 0 9)) := m_told (S := S') (k := 2) (v := q.2 2) 0 9 (by omega) (a6 2 (by omega))
          rw [iL_nI (by omega)] at told0 told1 told2
          dsimp only
          rw [show b01 (some q).isSome = 1 from rfl, ifF (show ¬ (1 : Int32) = 0 by decide), told0, bs, told1, bs, told2, bs, z1, z2, a6 0 (by omega), a6 1 (by omega), a6 2 (by omega)]
          by_cases g0 : q.2 0 ≤ 1
          · rw [decide_eq_true (p := (0 : Int) ≤ (q.2 0 : Int) ∧ (q.2 0 : Int) ≤ 1) (by omega), ibt]
            by_cases g1 : q.2 1 ≤ 3
            · rw [decide_eq_true (p := (0 : Int) ≤ (q.2 1 : Int) ∧ (q.2 1 : Int) ≤ 3) (by omega), ibt]
              by_cases g2 : q.2 2 ≤ 9
              · obtain ⟨S4, e4, b1, b2⟩ := m_tellsDead (S := S') (f := f) (v := q.2 0) (k := q.2 1) (F := q.2 2) (fun j hj => by rw [a1 7 (by decide) (by decide), r3 7 (by decide)]; exact h1 j hj) (by omega)
                rw [decide_eq_true (p := (0 : Int) ≤ (q.2 2 : Int) ∧ (q.2 2 : Int) ≤ 9) (by omega), ibt, if_pos ⟨⟨g0, g1, g2⟩, by omega⟩, e4, bs]
                refine ⟨S4, fo1, fm'.tr ⟨fun c _ _ h3 => b2 c h3, fun m _ _ _ _ => by rw [b2 0 (by decide)]⟩, b1, ?_, ?_, ?_, ?_, ?_⟩
                · exact h2.o (by rw [b2 0 (by decide), a2 10 (by decide), r2 10 (by decide) (by decide)]) (by rw [b2 5 (by decide), a1 5 (by decide) (by decide), r3 5 (by decide)])
                · show S4 0 11 = nI q.1; rw [b2 0 (by decide)]; exact a5
                · show S4 0 13 = nI N; rw [b2 0 (by decide), a2 13 (by decide), r2 13 (by decide) (by decide)]; exact h4
                · show S4 0 14 = nI t; rw [b2 0 (by decide), a2 14 (by decide), r2 14 (by decide) (by decide)]; exact h5
                · show S4 0 15 = b01 (!false); rw [b2 0 (by decide), a2 15 (by decide)]; exact r4
              · rw [decide_eq_false (p := (0 : Int) ≤ (q.2 2 : Int) ∧ (q.2 2 : Int) ≤ 9) (by omega), ibf, if_neg (fun e => g2 e.1.2.2)]
                exact ⟨S', fz, fm'⟩
            · rw [decide_eq_false (p := (0 : Int) ≤ (q.2 1 : Int) ∧ (q.2 1 : Int) ≤ 3) (by omega), ibf, if_neg (fun e => g1 e.1.2.1)]
              exact ⟨S', fz, fm'⟩
          · rw [decide_eq_false (p := (0 : Int) ≤ (q.2 0 : Int) ∧ (q.2 0 : Int) ≤ 1) (by omega), ibf, if_neg (fun e => g0 e.1.1)]
            exact ⟨S', fz, fm'⟩
    · rw [ifF (show ¬ nI (lt X p) = 100 from neq (c := 100) (by decide) c2)]
      by_cases c4 : lt X p = 116
      · unfold item
        rw [if_neg c1, if_neg c2, if_neg (show ¬ lt X p = 118 by omega), if_pos c4, ifT (show nI (lt X p) = 116 by rw [c4]; rfl), fX5_readTruceOf]
        obtain ⟨S', e, a1, a2, a4⟩ := m_num hX (k := 1) (by omega) (by omega) hp t2 r1
        rw [show (fX5_readNumbers S2 1) = _ from e, bs]
        have fm' : FM S S' := fm2.tr (mf a1 a2)
        cases r : rn X 1 0 (p + 1) zr with
        | none => exact ⟨u2 S' 0 14 (S' 0 14), fz, fm'.tr (mu (Or.inr rfl))⟩
        | some q =>
          obtain ⟨a5, a6⟩ := a4 q r
          have hv := (rn_b 1 0 (p + 1) zr q.1 q.2 r).2.1 0 (by omega) (by omega)
          have told : fX5_isTold S' 0 1 99 = some (b01 (iL (nI (q.2 0)) 1 99)) := m_told (S := S') (k := 0) (v := q.2 0) 1 99 (by omega) (a6 0 (by omega))
          rw [iL_nI (by omega)] at told
          dsimp only
          rw [show b01 (some q).isSome = 1 from rfl, ifF (show ¬ (1 : Int32) = 0 by decide), told, bs, z0, a6 0 (by omega)]
          by_cases d1 : 1 ≤ q.2 0
          · rw [decide_eq_true (p := (1 : Int) ≤ (q.2 0 : Int) ∧ (q.2 0 : Int) ≤ 99) (by omega), ibt, if_pos d1]
            refine ⟨u2 S' 0 14 (nI (q.2 0)), fo1, fm'.tr (mu (Or.inr rfl)), ?_, ?_, ?_, ?_, ?_, ?_⟩
            · intro j hj; rw [u2_ne (by decide), a1 7 (by decide) (by decide), r3 7 (by decide)]; exact h1 j hj
            · exact h2.o (by rw [u2_eq, upd_n (by decide), a2 10 (by decide), r2 10 (by decide) (by decide)]) (by rw [u2_ne (by decide), a1 5 (by decide) (by decide), r3 5 (by decide)])
            · show u2 S' 0 14 (nI (q.2 0)) 0 11 = nI q.1; rw [u2_eq, upd_n (by decide)]; exact a5
            · show u2 S' 0 14 (nI (q.2 0)) 0 13 = nI N; rw [u2_eq, upd_n (by decide), a2 13 (by decide), r2 13 (by decide) (by decide)]; exact h4
            · show u2 S' 0 14 (nI (q.2 0)) 0 14 = nI (q.2 0); rw [u2_eq, upd_s]
            · show u2 S' 0 14 (nI (q.2 0)) 0 15 = b01 (!false); rw [u2_eq, upd_n (by decide), a2 15 (by decide)]; exact r4
          · rw [decide_eq_false (p := (1 : Int) ≤ (q.2 0 : Int) ∧ (q.2 0 : Int) ≤ 99) (by omega), ibf, if_neg d1]
            exact ⟨u2 S' 0 14 (S' 0 14), fz, fm'.tr (mu (Or.inr rfl))⟩
      · rw [ifF (show ¬ nI (lt X p) = 116 from neq (c := 116) (by decide) c4)]
        by_cases c3 : lt X p = 118
        · rw [ifT (show nI (lt X p) = 118 by rw [c3]; rfl), fX5_readGuestOf, z53, z0, r3 7 (by decide), h1 53 (by omega)]
          by_cases d2 : f 53 = 6
          · rw [it_v c3 d2, ifT (show nI (f 53) = 6 by rw [d2]; rfl)]
            exact ⟨S2, fz, fm2⟩
          · obtain ⟨S', e, a1, a2, a4⟩ := m_num hX (k := 2) (by omega) (by omega) hp t2 r1
            unfold item
            rw [if_neg c1, if_neg c2, if_pos c3, ifF (show ¬ nI (f 53) = 6 from fun e => d2 ((nI_eq (b := 6) (by omega) (by decide)).mp e)), show (fX5_readNumbers S2 2) = _ from e, bs]
            have fm' : FM S S' := fm2.tr (mf a1 a2)
            cases r : rn X 2 0 (p + 1) zr with
            | none => exact ⟨S', fz, fm'⟩
            | some q =>
              obtain ⟨a5, a6⟩ := a4 q r
              have hv := (rn_b 2 0 (p + 1) zr q.1 q.2 r).2.1
              have hv0 := hv 0 (by omega) (by omega)
              have hv1 := hv 1 (by omega) (by omega)
              have e7 : S' 7 0 = nI (f 0) := by rw [a1 7 (by decide) (by decide), r3 7 (by decide)]; exact h1 0 (by omega)
              have told0 : fX5_isTold S' 0 0 (nI (f 0) - 1) = some (b01 (iL (nI (q.2 0)) 0 (nI (f 0) - 1).toInt)) := m_told (S := S') (k := 0) (v := q.2 0) 0 (nI (f 0) - 1) (by omega) (a6 0 (by omega))
              have told1 : fX5_isTold S' 1 1 20 = some (b01 (iL (nI (q.2 1)) 1 20)) := m_told (S := S') (k := 1) (v := q.2 1) 1 20 (by omega) (a6 1 (by omega))
              rw [iL_nI (by omega)] at told0 told1
              rw [nm1 (by omega)] at told0
              dsimp only
              rw [show b01 (some q).isSome = 1 from rfl, ifF (show ¬ (1 : Int32) = 0 by decide), e7, told0, bs, told1, bs, z1, a6 0 (by omega), a6 1 (by omega)]
              by_cases g0 : q.2 0 < f 0
              · rw [decide_eq_true (p := (0 : Int) ≤ (q.2 0 : Int) ∧ (q.2 0 : Int) ≤ (f 0 : Int) - 1) (by omega), ibt]
                by_cases g1 : 1 ≤ q.2 1 ∧ q.2 1 ≤ 20
                · obtain ⟨S4, e4, b1, b2⟩ := m_tellsGuest (S := S') (f := f) (v := q.2 0) (k := q.2 1) (fun j hj => by rw [a1 7 (by decide) (by decide), r3 7 (by decide)]; exact h1 j hj) (by omega)
                  rw [decide_eq_true (p := (1 : Int) ≤ (q.2 1 : Int) ∧ (q.2 1 : Int) ≤ 20) (by omega), ibt, if_pos ⟨g0, g1, by omega⟩, e4, bs]
                  refine ⟨S4, fo1, fm'.tr ⟨fun c _ _ h3 => b2 c h3, fun m _ _ _ _ => by rw [b2 0 (by decide)]⟩, b1, ?_, ?_, ?_, ?_, ?_⟩
                  · exact h2.o (by rw [b2 0 (by decide), a2 10 (by decide), r2 10 (by decide) (by decide)]) (by rw [b2 5 (by decide), a1 5 (by decide) (by decide), r3 5 (by decide)])
                  · show S4 0 11 = nI q.1; rw [b2 0 (by decide)]; exact a5
                  · show S4 0 13 = nI N; rw [b2 0 (by decide), a2 13 (by decide), r2 13 (by decide) (by decide)]; exact h4
                  · show S4 0 14 = nI t; rw [b2 0 (by decide), a2 14 (by decide), r2 14 (by decide) (by decide)]; exact h5
                  · show S4 0 15 = b01 (!false); rw [b2 0 (by decide), a2 15 (by decide)]; exact r4
                · rw [decide_eq_false (p := (1 : Int) ≤ (q.2 1 : Int) ∧ (q.2 1 : Int) ≤ 20) (by omega), ibf, if_neg (fun e => g1 e.2.1)]
                  exact ⟨S', fz, fm'⟩
              · rw [decide_eq_false (p := (0 : Int) ≤ (q.2 0 : Int) ∧ (q.2 0 : Int) ≤ (f 0 : Int) - 1) (by omega), ibf, if_neg (fun e => g0 e.1)]
                exact ⟨S', fz, fm'⟩
        · unfold item
          rw [if_neg c1, if_neg c2, if_neg c3, if_neg c4, ifF (show ¬ nI (lt X p) = 118 from neq (c := 118) (by decide) c3)]
          exact ⟨S2, rfl, fm2⟩
