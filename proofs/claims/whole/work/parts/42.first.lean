/-! the first state -/
def TC0 (Y : YS) (o : OS) (X : Tx) (f : Nat → Nat) (N t : Nat) (b : Bool) (p : Nat) : Prop := RY (Y 0) (an f N) N t ∧ TX o X ∧ o 3 1 = nI p ∧ o 3 2 = b01 b
def FC0 (Y : YS) (o : OS) (Y' : YS) (o' : OS) : Prop := (∀ i, i ≠ 0 → Y' i = Y i) ∧ (∀ c, c ≠ 3 → c ≠ 5 → o' c = o c) ∧ o' 3 0 = o 3 0
theorem FC0.tr {Y Y' Y'' : YS} {o o' o'' : OS} (h : FC0 Y o Y' o') (k : FC0 Y' o' Y'' o'') : FC0 Y o Y'' o'' := ⟨fun i hi => (k.1 i hi).trans (h.1 i hi), fun c h1 h2 => (k.2.1 c h1 h2).trans (h.2.1 c h1 h2), k.2.2.trans h.2.2⟩
def CR0 (Y : YS) (o : OS) (X : Tx) (p c u : Nat) (x : Option (Int32 × YS × OS)) (r : Option ((Nat → Nat) × Nat × Nat × Bool × Nat)) : Prop := match r with
  | none => ∃ Y' o', x = some (nI p, Y', o') ∧ FC0 Y o Y' o'
  | some q => ∃ Y' o', x = fX2_tellAll_L16 0 u (nI (c + 1)) Y' o' ∧ FC0 Y o Y' o' ∧ TC0 Y' o' X q.1 q.2.1 q.2.2.1 q.2.2.2.1 q.2.2.2.2
theorem c_step0 {X : Tx} (hX : GX X) {Y : YS} {o : OS} {f : Nat → Nat} {N t p c u : Nat} {b : Bool} (hg : TG f N t b) (h : TC0 Y o X f N t b p) (hp : p < X.1) (hc : c < 200) : CR0 Y o X p c u (fX2_tellAll_L16 0 (u + 1) (nI c) Y o) (item X f N t b p) := by
  have hb := hX.1
  obtain ⟨h1, h2, h3, h4⟩ := h
  have hl := lt_b hX p
  have ka := okb_an hg.1
  have k12 := hg.1.2.1
  have k6 := hg.1.2.2.1
  have e53 : an f N 53 = f 53 := an_out hg.1 53 (by omega)
  rw [fX2_tellAll_L16, ifF (show ¬ 200 ≤ nI c from fun e => absurd ((nI_leI (a := 200) (by decide) (by omega)).mp e) (by omega)), h2.1, h3, ifF (by rw [nI_leI (by omega) (by omega)]; omega), c_letter hX h2 (by omega), bs, show nI p + 1 = nI (p + 1) from nI_add p 1, show nI c + 1 = nI (c + 1) from nI_add c 1]
  have fcO : ∀ {o' : OS}, (∀ c, c ≠ 3 → c ≠ 5 → o' c = o c) → o' 3 0 = o 3 0 → FC0 Y o Y o' := fun a1 a2 => ⟨fun _ _ => rfl, a1, a2⟩
  have neq : ∀ {c : Nat}, c < 127 → ¬ lt X p = c → ¬ nI (lt X p) = nI c := fun hc hn e => hn ((nI_eq (by omega) (by omega)).mp e)
  unfold item
  by_cases c1 : lt X p = 121
  · rw [if_pos c1, c1, show fX2_numbersBehind (nI 121) = some (nI 1) from rfl, bs]
    obtain ⟨o', e, a1, a2, a3, a4⟩ := c_num hX (k := 1) (by omega) (by omega) (Y := Y) hp h2
    rw [e, bs]
    cases r : rn X 1 0 (p + 1) zr with
    | none => exact ⟨Y, o', rfl, fcO a1 a2⟩
    | some q =>
      obtain ⟨a5, a6⟩ := a4 q r
      have hv := (rn_b 1 0 (p + 1) zr q.1 q.2 r).2.1 0 (by omega) (by omega)
      show CR0 Y o X p c u ((fX2_tellItem Y o' (nI 121) 0).bind _) _
      rw [fX2_tellItem, ifT (show nI 121 = 121 from rfl), a3, h4, z0, a6 0 (by omega)]
      dsimp only
      cases b with
      | false => exact ⟨Y, o', rfl, fcO a1 a2⟩
      | true =>
        rw [ibt]
        by_cases c2 : q.2 0 < 2
        · rw [ifT (show nI (q.2 0) < 2 from (nI_ltI (b := 2) (by omega) (by decide)).mpr c2), if_neg (by omega)]
          exact ⟨Y, o', rfl, fcO a1 a2⟩
        · rw [ifF (show ¬ nI (q.2 0) < 2 from fun e => c2 ((nI_ltI (b := 2) (by omega) (by decide)).mp e))]
          by_cases c3 : q.2 0 ≤ 8
          · rw [ifT (show nI (q.2 0) ≤ 8 from (nI_leI (b := 8) (by omega) (by decide)).mpr c3), if_pos ⟨rfl, by omega, c3⟩]
            have hf := hg.2.2 rfl
            refine ⟨va_up Y 0 (u2 (Y 0) 0 0 (nI (q.2 0))), o', rfl, ⟨fun i hi => vu_n hi, a1, a2⟩, ?_, ⟨a2.trans h2.1, fun j hj => by rw [a1 4 (by decide) (by decide)]; exact h2.2 j hj⟩, a5, by rw [a3]; exact h4⟩
            show RY (va_up Y 0 (u2 (Y 0) 0 0 (nI (q.2 0))) 0) (an f (q.2 0)) (q.2 0) t
            rw [vu_s, an_0 hf.1, ← an_0 (N := N) hf.1]
            obtain ⟨b1, b2, b3, b4, b5, b6, b7⟩ := h1
            have un : ∀ k, k ≠ 0 → u2 (Y 0) 0 0 (nI (q.2 0)) 0 k = Y 0 0 k := fun k hk => by rw [u2_eq, upd_n hk]
            have uo : ∀ k, k ≠ 0 → u2 (Y 0) 0 0 (nI (q.2 0)) k = Y 0 k := fun k hk => u2_ne hk
            exact ⟨by rw [u2_eq, upd_s], by rw [un 1 (by decide)]; exact b2, by rw [un 2 (by decide)]; exact b3, by rw [un 3 (by decide)]; exact b4, fun i hi => by rw [uo 1 (by decide), uo 2 (by decide), uo 3 (by decide)]; exact b5 i hi, fun k hk => by rw [uo 4 (by decide)]; exact b6 k hk, fun v hv => by rw [uo 5 (by decide), uo 6 (by decide)]; exact b7 v hv⟩
          · rw [ifF (show ¬ nI (q.2 0) ≤ 8 from fun e => c3 ((nI_leI (b := 8) (by omega) (by decide)).mp e)), if_neg (by omega)]
            exact ⟨Y, o', rfl, fcO a1 a2⟩
  · rw [if_neg c1]
    by_cases c2 : lt X p = 100
    · rw [if_pos c2, c2, show fX2_numbersBehind (nI 100) = some (nI 3) from rfl, bs]
      obtain ⟨o', e, a1, a2, a3, a4⟩ := c_num hX (k := 3) (by omega) (by omega) (Y := Y) hp h2
      rw [e, bs]
      cases r : rn X 3 0 (p + 1) zr with
      | none => exact ⟨Y, o', rfl, fcO a1 a2⟩
      | some q =>
        obtain ⟨a5, a6⟩ := a4 q r
        have hv := (rn_b 3 0 (p + 1) zr q.1 q.2 r).2.1
        have hv0 := hv 0 (by omega) (by omega)
        have hv1 := hv 1 (by omega) (by omega)
        have hv2 := hv 2 (by omega) (by omega)
        have fo : FC0 Y o Y (u2 o' 3 2 0) := ⟨fun _ _ => rfl, fun c h1 h2 => by rw [u2_ne h1, a1 c h1 h2], by rw [u2_eq, upd_n (by decide), a2]⟩
        show CR0 Y o X p c u ((fX2_tellItem Y o' (nI 100) 0).bind _) _
        rw [fX2_tellItem, ifF (show ¬ nI 100 = 121 by decide), ifT (show nI 100 = 100 from rfl), z0, z1, z2, u2_ne (by decide), a6 0 (by omega), a6 1 (by omega), a6 2 (by omega), c_isOne, bs, iL_nI (by omega), iL_nI (by omega), iL_nI (by omega)]
        dsimp only
        by_cases d1 : q.2 0 ≤ 1 ∧ q.2 1 ≤ 3 ∧ q.2 2 ≤ 9
        · rw [decide_eq_true (p := (0 : Int) ≤ (q.2 0 : Int) ∧ (q.2 0 : Int) ≤ 1) (by omega), decide_eq_true (p := (0 : Int) ≤ (q.2 1 : Int) ∧ (q.2 1 : Int) ≤ 3) (by omega), decide_eq_true (p := (0 : Int) ≤ (q.2 2 : Int) ∧ (q.2 2 : Int) ≤ 9) (by omega), show (true && true && true) = true from rfl, ibt, h1.2.2.1, ka.2]
          by_cases d2 : f 0 < 12
          · obtain ⟨y', e2, r2⟩ := y_addDead h1 (by rw [ka.2]; exact ka.1) (by rw [ka.2]; exact d2) d1.1 d1.2.1 d1.2.2
            rw [ifT (show nI (f 0) < 12 from (nI_ltI (b := 12) (by omega) (by decide)).mpr d2), if_pos ⟨d1, d2⟩, e2, bs]
            refine ⟨va_up Y 0 y', u2 o' 3 2 0, rfl, ⟨fun i hi => vu_n hi, fo.2.1, fo.2.2⟩, ?_, ⟨fo.2.2.trans h2.1, fun j hj => by rw [fo.2.1 4 (by decide) (by decide)]; exact h2.2 j hj⟩, by rw [u2_eq, upd_n (by decide)]; exact a5, by rw [u2_eq, upd_s]; rfl⟩
            show RY (va_up Y 0 y' 0) (an (adn f (q.2 0) (q.2 1) (q.2 2)) N) N t
            rw [vu_s, an_adn hg.1 d2]; exact r2
          · rw [ifF (show ¬ nI (f 0) < 12 from fun e => d2 ((nI_ltI (b := 12) (by omega) (by decide)).mp e)), if_neg (fun e => d2 e.2)]
            exact ⟨Y, _, rfl, fo⟩
        · have : (decide ((0 : Int) ≤ (q.2 0 : Int) ∧ (q.2 0 : Int) ≤ 1) && decide ((0 : Int) ≤ (q.2 1 : Int) ∧ (q.2 1 : Int) ≤ 3) && decide ((0 : Int) ≤ (q.2 2 : Int) ∧ (q.2 2 : Int) ≤ 9)) = false := by
            rw [← Bool.not_eq_true]
            intro z
            simp only [Bool.and_eq_true, decide_eq_true_eq] at z
            exact d1 (by omega)
          rw [this, ibf, if_neg (fun e => d1 e.1)]
          exact ⟨Y, _, rfl, fo⟩
    · rw [if_neg c2]
      by_cases c3 : lt X p = 118
      · rw [if_pos c3, c3, show fX2_numbersBehind (nI 118) = some (nI 2) from rfl, bs]
        obtain ⟨o', e, a1, a2, a3, a4⟩ := c_num hX (k := 2) (by omega) (by omega) (Y := Y) hp h2
        rw [e, bs]
        cases r : rn X 2 0 (p + 1) zr with
        | none => exact ⟨Y, o', rfl, fcO a1 a2⟩
        | some q =>
          obtain ⟨a5, a6⟩ := a4 q r
          have hv := (rn_b 2 0 (p + 1) zr q.1 q.2 r).2.1
          have hv0 := hv 0 (by omega) (by omega)
          have hv1 := hv 1 (by omega) (by omega)
          have fo : FC0 Y o Y (u2 o' 3 2 0) := ⟨fun _ _ => rfl, fun c h1 h2 => by rw [u2_ne h1, a1 c h1 h2], by rw [u2_eq, upd_n (by decide), a2]⟩
          show CR0 Y o X p c u ((fX2_tellItem Y o' (nI 118) 0).bind _) _
          rw [fX2_tellItem, ifF (show ¬ nI 118 = 121 by decide), ifF (show ¬ nI 118 = 100 by decide), ifT (show nI 118 = 118 from rfl), z0, z1, u2_ne (by decide), a6 0 (by omega), a6 1 (by omega), y_hasDead h1 ka.1, bs, c_isMinutes, bs, iL_nI (by omega), iL_nI (by omega), ka.2]
          dsimp only
          by_cases d1 : q.2 0 < f 0
          · rw [decide_eq_true (p := (0 : Int) ≤ (q.2 0 : Int) ∧ (q.2 0 : Int) ≤ (f 0 : Int) - 1) (by omega), ibt]
            by_cases d2 : 1 ≤ q.2 1 ∧ q.2 1 ≤ 20
            · rw [decide_eq_true (p := (1 : Int) ≤ (q.2 1 : Int) ∧ (q.2 1 : Int) ≤ 20) (by omega), ibt, h1.2.2.2.1, e53]
              by_cases d3 : f 53 < 6
              · obtain ⟨y', e2, r2⟩ := y_addV (i := q.2 0) (c := q.2 1) h1 (by rw [ka.2]; exact k12) (by rw [e53]; exact d3)
                rw [ifT (show nI (f 53) < 6 from (nI_ltI (b := 6) (by omega) (by decide)).mpr d3), if_pos ⟨d1, d2, d3⟩, e2, bs]
                refine ⟨va_up Y 0 y', u2 o' 3 2 0, rfl, ⟨fun i hi => vu_n hi, fo.2.1, fo.2.2⟩, ?_, ⟨fo.2.2.trans h2.1, fun j hj => by rw [fo.2.1 4 (by decide) (by decide)]; exact h2.2 j hj⟩, by rw [u2_eq, upd_n (by decide)]; exact a5, by rw [u2_eq, upd_s]; rfl⟩
                show RY (va_up Y 0 y' 0) (an (vis f (q.2 0) (q.2 1)) N) N t
                rw [vu_s, an_vis hg.1 d3]; exact r2
              · rw [ifF (show ¬ nI (f 53) < 6 from fun e => d3 ((nI_ltI (b := 6) (by omega) (by decide)).mp e)), if_neg (fun e => d3 e.2.2)]
                exact ⟨Y, _, rfl, fo⟩
            · rw [decide_eq_false (p := (1 : Int) ≤ (q.2 1 : Int) ∧ (q.2 1 : Int) ≤ 20) (by omega), ibf, if_neg (fun e => d2 e.2.1)]
              exact ⟨Y, _, rfl, fo⟩
          · rw [decide_eq_false (p := (0 : Int) ≤ (q.2 0 : Int) ∧ (q.2 0 : Int) ≤ (f 0 : Int) - 1) (by omega), ibf, if_neg (fun e => d1 e.1)]
            exact ⟨Y, _, rfl, fo⟩
      · rw [if_neg c3]
        by_cases c4 : lt X p = 116
        · rw [if_pos c4, c4, show fX2_numbersBehind (nI 116) = some (nI 1) from rfl, bs]
          obtain ⟨o', e, a1, a2, a3, a4⟩ := c_num hX (k := 1) (by omega) (by omega) (Y := Y) hp h2
          rw [e, bs]
          cases r : rn X 1 0 (p + 1) zr with
          | none => exact ⟨Y, o', rfl, fcO a1 a2⟩
          | some q =>
            obtain ⟨a5, a6⟩ := a4 q r
            have hv0 := (rn_b 1 0 (p + 1) zr q.1 q.2 r).2.1 0 (by omega) (by omega)
            have fo : FC0 Y o Y (u2 o' 3 2 0) := ⟨fun _ _ => rfl, fun c h1 h2 => by rw [u2_ne h1, a1 c h1 h2], by rw [u2_eq, upd_n (by decide), a2]⟩
            show CR0 Y o X p c u ((fX2_tellItem Y o' (nI 116) 0).bind _) _
            rw [fX2_tellItem, ifF (show ¬ nI 116 = 121 by decide), ifF (show ¬ nI 116 = 100 by decide), ifF (show ¬ nI 116 = 118 by decide), z0, a6 0 (by omega)]
            dsimp only
            by_cases d1 : 1 ≤ q.2 0
            · rw [ifF (show ¬ nI (q.2 0) < 1 from fun e => absurd ((nI_ltI (b := 1) (by omega) (by decide)).mp e) (by omega)), if_pos d1]
              refine ⟨va_up Y 0 (u2 (Y 0) 0 1 (nI (q.2 0))), u2 o' 3 2 0, rfl, ⟨fun i hi => vu_n hi, fo.2.1, fo.2.2⟩, ?_, ⟨fo.2.2.trans h2.1, fun j hj => by rw [fo.2.1 4 (by decide) (by decide)]; exact h2.2 j hj⟩, by rw [u2_eq, upd_n (by decide)]; exact a5, by rw [u2_eq, upd_s]; rfl⟩
              show RY (va_up Y 0 (u2 (Y 0) 0 1 (nI (q.2 0))) 0) (an f N) N (q.2 0)
              rw [vu_s]
              obtain ⟨b1, b2, b3, b4, b5, b6, b7⟩ := h1
              have un : ∀ k, k ≠ 1 → u2 (Y 0) 0 1 (nI (q.2 0)) 0 k = Y 0 0 k := fun k hk => by rw [u2_eq, upd_n hk]
              have uo : ∀ k, k ≠ 0 → u2 (Y 0) 0 1 (nI (q.2 0)) k = Y 0 k := fun k hk => u2_ne hk
              exact ⟨by rw [un 0 (by decide)]; exact b1, by rw [u2_eq, upd_s], by rw [un 2 (by decide)]; exact b3, by rw [un 3 (by decide)]; exact b4, fun i hi => by rw [uo 1 (by decide), uo 2 (by decide), uo 3 (by decide)]; exact b5 i hi, fun k hk => by rw [uo 4 (by decide)]; exact b6 k hk, fun v hv => by rw [uo 5 (by decide), uo 6 (by decide)]; exact b7 v hv⟩
            · rw [ifT (show nI (q.2 0) < 1 from (nI_ltI (b := 1) (by omega) (by decide)).mpr (by omega)), if_neg d1]
              exact ⟨va_up Y 0 (u2 (Y 0) 0 1 (nI (q.2 0))), _, rfl, fun i hi => vu_n hi, fo.2⟩
        · rw [if_neg c4, fX2_numbersBehind, ifF (show ¬ nI (lt X p) = 100 from neq (c := 100) (by decide) c2), ifF (show ¬ nI (lt X p) = 116 from neq (c := 116) (by decide) c4), ifF (show ¬ nI (lt X p) = 118 from neq (c := 118) (by decide) c3), ifF (show ¬ nI (lt X p) = 121 from neq (c := 121) (by decide) c1), bs]
          exact ⟨Y, u2 o 3 1 (nI (p + 1)), rfl, fun _ _ => rfl, fun c h1 _ => u2_ne h1, by rw [u2_eq, upd_n (by decide)]⟩
def itn (X : Tx) : Nat → ((Nat → Nat) × Nat × Nat × Bool × Nat) → Option ((Nat → Nat) × Nat × Nat × Bool × Nat)
  | 0, q => some q
  | k + 1, q => (item X q.1 q.2.1 q.2.2.1 q.2.2.2.1 q.2.2.2.2).bind (itn X k)
theorem itn_c {X : Tx} {k : Nat} {f : Nat → Nat} {N t p : Nat} {b : Bool} {q r : (Nat → Nat) × Nat × Nat × Bool × Nat} (h : item X f N t b p = some q) (h2 : itn X k q = some r) : itn X (k + 1) (f, N, t, b, p) = some r := by
  rw [itn, h]; exact h2
theorem c_tells0 {X : Tx} (hX : GX X) : ∀ (k c u : Nat) (Y : YS) (o : OS) (f : Nat → Nat) (N t : Nat) (b : Bool) (p : Nat) (q : (Nat → Nat) × Nat × Nat × Bool × Nat), itn X k (f, N, t, b, p) = some q → X.1 ≤ q.2.2.2.2 → p ≤ X.1 → c + k < 200 → k < u → TG f N t b → TC0 Y o X f N t b p → ∃ Y' o', fX2_tellAll_L16 0 u (nI c) Y o = some (-4, Y', o') ∧ FC0 Y o Y' o' ∧ TG q.1 q.2.1 q.2.2.1 q.2.2.2.1 ∧ TC0 Y' o' X q.1 q.2.1 q.2.2.1 q.2.2.2.1 q.2.2.2.2 := by
  intro k
  induction k with
  | zero =>
    intro c u Y o f N t b p q e hq hp hc hu hg h1
    cases e
    have hb := hX.1
    have hq : X.1 ≤ p := hq
    cases u with
    | zero => omega
    | succ u =>
      refine ⟨Y, o, ?_, ⟨fun _ _ => rfl, fun _ _ _ => rfl, rfl⟩, hg, h1⟩
      rw [fX2_tellAll_L16, h1.2.1.1, h1.2.2.1, ifT (show nI X.1 ≤ nI p from (nI_leI (by omega) (by omega)).mpr (by omega))]
      split <;> rfl
  | succ k ih =>
    intro c u Y o f N t b p q e hq hp hc hu hg h1
    have hb := hX.1
    cases u with
    | zero => omega
    | succ u =>
      rw [itn] at e
      dsimp only at e
      cases e1 : item X f N t b p with
      | none => rw [e1] at e; cases e
      | some g =>
        rw [e1] at e
        have ok := item_ok (f' := g.1) (N' := g.2.1) (t' := g.2.2.1) (b' := g.2.2.2.1) (p' := g.2.2.2.2) hg e1
        have st := c_step0 (u := u) (c := c) hX hg h1 (by omega) (by omega)
        rw [e1] at st
        obtain ⟨Y1, o1, e2, fc, tc⟩ := st
        obtain ⟨Y', o', e3, fc2, g2, tc2⟩ := ih (c + 1) u Y1 o1 g.1 g.2.1 g.2.2.1 g.2.2.2.1 g.2.2.2.2 q e hq ok.2.2 (by omega) (by omega) ok.1 tc
        exact ⟨Y', o', by rw [e2]; exact e3, fc.tr fc2, g2, tc2⟩
theorem item_yq {X : Tx} {f : Nat → Nat} {N t p p' v : Nat} (h : lt X p = 121) (hr : (rn X 1 0 (p + 1) zr).map (fun q => (q.1, q.2 0)) = some (p', v)) (hv : 2 ≤ v ∧ v ≤ 8) : item X f N t true p = some (f, v, t, true, p') := by
  unfold item
  rw [if_pos h]
  cases r : rn X 1 0 (p + 1) zr with
  | none => rw [r] at hr; cases hr
  | some q =>
    rw [r] at hr
    have hr : (q.1, q.2 0) = (p', v) := Option.some.inj hr
    cases hr
    exact if_pos ⟨rfl, hv⟩
theorem item_dq {X : Tx} {f : Nat → Nat} {N t p p' v k F : Nat} {b : Bool} (h : lt X p = 100) (hr : (rn X 3 0 (p + 1) zr).map (fun q => (q.1, q.2 0, q.2 1, q.2 2)) = some (p', v, k, F)) (hv : v ≤ 1 ∧ k ≤ 3 ∧ F ≤ 9) (h0 : f 0 < 12) : item X f N t b p = some (adn f v k F, N, t, false, p') := by
  unfold item
  rw [if_neg (by omega), if_pos h]
  cases r : rn X 3 0 (p + 1) zr with
  | none => rw [r] at hr; cases hr
  | some q =>
    rw [r] at hr
    have hr : (q.1, q.2 0, q.2 1, q.2 2) = (p', v, k, F) := Option.some.inj hr
    cases hr
    exact if_pos ⟨hv, h0⟩
theorem item_vq {X : Tx} {f : Nat → Nat} {N t p p' v k : Nat} {b : Bool} (h : lt X p = 118) (hr : (rn X 2 0 (p + 1) zr).map (fun q => (q.1, q.2 0, q.2 1)) = some (p', v, k)) (hv : v < f 0 ∧ (1 ≤ k ∧ k ≤ 20) ∧ f 53 < 6) : item X f N t b p = some (vis f v k, N, t, false, p') := by
  unfold item
  rw [if_neg (by omega), if_neg (by omega), if_pos h]
  cases r : rn X 2 0 (p + 1) zr with
  | none => rw [r] at hr; cases hr
  | some q =>
    rw [r] at hr
    have hr : (q.1, q.2 0, q.2 1) = (p', v, k) := Option.some.inj hr
    cases hr
    exact if_pos hv
theorem item_tq {X : Tx} {f : Nat → Nat} {N t p p' v : Nat} {b : Bool} (h : lt X p = 116) (hr : (rn X 1 0 (p + 1) zr).map (fun q => (q.1, q.2 0)) = some (p', v)) (hv : 1 ≤ v) : item X f N t b p = some (f, N, v, false, p') := by
  unfold item
  rw [if_neg (by omega), if_neg (by omega), if_neg (by omega), if_pos h]
  cases r : rn X 1 0 (p + 1) zr with
  | none => rw [r] at hr; cases hr
  | some q =>
    rw [r] at hr
    have hr : (q.1, q.2 0) = (p', v) := Option.some.inj hr
    cases hr
    exact if_pos hv
def XN : Nat → Nat := fun j => [121, 52, 59, 100, 48, 44, 48, 44, 55, 59, 100, 49, 44, 48, 44, 51, 59, 100, 48, 44, 49, 44, 50, 59, 100, 48, 44, 48, 44, 57, 59, 100, 49, 44, 51, 44, 53, 59, 100, 49, 44, 50, 44, 48, 59, 100, 48, 44, 48, 44, 54, 59, 118, 48, 44, 52, 59, 118, 49, 44, 51, 59, 118, 51, 44, 54, 59, 118, 53, 44, 50, 59, 116, 52, 48, 59].getD j 0
def X1 : Tx := (76, XN)
theorem X1_ok : GX X1 := ⟨by decide, by decide +kernel⟩
theorem chI_n : ∀ k, k < 76 → chI k = nI (XN k) := by decide +kernel
theorem chI_a : ∀ k, k < 76 → vp_nar .char (nI (XN k)) = nI (XN k) := by decide +kernel
def fF1 : Nat → Nat := adn zr 0 0 7
def fF2 : Nat → Nat := adn fF1 1 0 3
def fF3 : Nat → Nat := adn fF2 0 1 2
def fF4 : Nat → Nat := adn fF3 0 0 9
def fF5 : Nat → Nat := adn fF4 1 3 5
def fF6 : Nat → Nat := adn fF5 1 2 0
def fF7 : Nat → Nat := adn fF6 0 0 6
def fF8 : Nat → Nat := vis fF7 0 4
def fF9 : Nat → Nat := vis fF8 1 3
def fF10 : Nat → Nat := vis fF9 3 6
def fF11 : Nat → Nat := vis fF10 5 2
theorem X1_items : itn X1 13 (zr, 6, 60, true, 0) = some (fF11, 4, 40, false, 76) := itn_c (item_yq (p' := 3) (v := 4) (by decide +kernel) (by decide +kernel) (by decide)) (itn_c (item_dq (p' := 10) (v := 0) (k := 0) (F := 7) (by decide +kernel) (by decide +kernel) (by decide) (by decide +kernel)) (itn_c (item_dq (p' := 17) (v := 1) (k := 0) (F := 3) (by decide +kernel) (by decide +kernel) (by decide) (by decide +kernel)) (itn_c (item_dq (p' := 24) (v := 0) (k := 1) (F := 2) (by decide +kernel) (by decide +kernel) (by decide) (by decide +kernel)) (itn_c (item_dq (p' := 31) (v := 0) (k := 0) (F := 9) (by decide +kernel) (by decide +kernel) (by decide) (by decide +kernel)) (itn_c (item_dq (p' := 38) (v := 1) (k := 3) (F := 5) (by decide +kernel) (by decide +kernel) (by decide) (by decide +kernel)) (itn_c (item_dq (p' := 45) (v := 1) (k := 2) (F := 0) (by decide +kernel) (by decide +kernel) (by decide) (by decide +kernel)) (itn_c (item_dq (p' := 52) (v := 0) (k := 0) (F := 6) (by decide +kernel) (by decide +kernel) (by decide) (by decide +kernel)) (itn_c (item_vq (p' := 57) (v := 0) (k := 4) (by decide +kernel) (by decide +kernel) (by decide +kernel)) (itn_c (item_vq (p' := 62) (v := 1) (k := 3) (by decide +kernel) (by decide +kernel) (by decide +kernel)) (itn_c (item_vq (p' := 67) (v := 3) (k := 6) (by decide +kernel) (by decide +kernel) (by decide +kernel)) (itn_c (item_vq (p' := 72) (v := 5) (k := 2) (by decide +kernel) (by decide +kernel) (by decide +kernel)) (itn_c (item_tq (p' := 76) (v := 40) (by decide +kernel) (by decide +kernel) (by decide)) rfl))))))))))))
def P0 : Tp := (0, fun _ _ => 0)
def Z0 : Tz := (0, fun _ => 0, fun _ => 0)
def X0 : Tx := (0, fun _ => 0)
def o00 : OS := fun c j => if c = 14 then nI (3 + j) else if c = 16 then nI (11 + j) else 0
def Y00 : YS := fun _ => yE
def AI (o : OS) (i : Nat) : Prop := o 3 0 = nI i ∧ (∀ j, j < i → o 4 j = nI (XN j)) ∧ ∀ c, c ≠ 3 → c ≠ 4 → o c = o00 c
theorem AI_0 : AI o00 0 := ⟨rfl, fun j hj => absurd hj (Nat.not_lt_zero j), fun _ _ _ => rfl⟩
theorem AI_s {o : OS} {i : Nat} (h : AI o i) (hi : i < 76) : ∃ o', fX2_append Y00 o (chI i) = some (Y00, o') ∧ AI o' (i + 1) := by
  obtain ⟨h1, h2, h3⟩ := h
  refine ⟨u2 (u2 o 4 i (nI (XN i))) 3 0 (nI (i + 1)), ?_, by rw [u2_eq, upd_s], fun j hj => ?_, fun c a b => by rw [u2_ne a, u2_ne b]; exact h3 c a b⟩
  · rw [fX2_append, h1, ifF (nI_pos (by omega)), ifF (show ¬ 200 ≤ nI i from fun e => absurd ((nI_leI (a := 200) (by decide) (by omega)).mp e) (by omega)), gib (by omega) (by decide), nI_clamp (by omega), chI_n i hi, chI_a i hi, u2_ne (by decide), h1, show nI i + 1 = nI (i + 1) from nI_add i 1]
  · rw [u2_ne (by decide), u2_eq]
    by_cases c : j = i
    · subst c; rw [upd_s]
    · rw [upd_n c]; exact h2 j (by omega)
theorem TG_0 : TG zr 6 60 true := ⟨⟨⟨by omega, by omega⟩, Nat.zero_le _, Nat.zero_le _, fun i hi => absurd hi (Nat.not_lt_zero i), fun i hi => absurd hi (Nat.not_lt_zero i)⟩, ⟨by omega, by omega⟩, fun _ => ⟨rfl, rfl⟩⟩
theorem first_c {o : OS} (h : AI o 76) : ∃ Y' o', fX2_tellAll Y00 o 0 = some (-4, Y', o') ∧ CI Y' (u2 o' 3 0 0) (an fF11 4) 4 40 P0 P0 Z0 X0 ∧ TG fF11 4 40 false := by
  obtain ⟨h1, h2, h3⟩ := h
  obtain ⟨y', e1, r1⟩ := y_empty (Y00 0)
  obtain ⟨Y', o', e2, fc, tg, tc⟩ := c_tells0 X1_ok 13 0 FU (va_up Y00 0 y') (u2 (u2 o 3 1 0) 3 2 1) zr 6 60 true 0 _ X1_items (by decide) (by decide) (by decide) (FU_gt (by omega)) TG_0 ⟨by rw [vu_s]; exact r1, ⟨by rw [u2_eq, upd_n (by decide), u2_eq, upd_n (by decide)]; exact h1, fun j hj => by rw [u2_ne (by decide), u2_ne (by decide)]; exact h2 j hj⟩, by rw [u2_eq, upd_n (by decide), u2_eq, upd_s]; rfl, by rw [u2_eq, upd_s]; rfl⟩
  have oc : ∀ c, c ≠ 3 → c ≠ 4 → c ≠ 5 → u2 o' 3 0 0 c = o00 c := fun c a b d => by rw [u2_ne a, fc.2.1 c a d, u2_ne a, u2_ne a]; exact h3 c a b
  refine ⟨Y', o', by rw [fX2_tellAll, e1, bs]; exact e2, ⟨tc.1, ⟨by rw [oc 13 (by decide) (by decide) (by decide)]; rfl, fun j => 3 + j, fun j hj => ⟨by rw [oc 14 (by decide) (by decide) (by decide)]; rfl, by show 3 ≤ 3 + j; omega, by show 3 + j < 11; omega⟩, fun i j _ _ e => Nat.add_left_cancel e, fun j hj => absurd hj (Nat.not_lt_zero j)⟩, ⟨by rw [oc 15 (by decide) (by decide) (by decide)]; rfl, by rw [oc 16 (by decide) (by decide) (by decide)]; rfl, by rw [oc 16 (by decide) (by decide) (by decide)]; rfl, fun j hj => absurd hj (Nat.not_lt_zero j)⟩, ⟨by rw [oc 0 (by decide) (by decide) (by decide)]; rfl, fun j hj => absurd hj (Nat.not_lt_zero j)⟩, by rw [u2_eq, upd_s]; rfl, fun j hj => absurd hj (Nat.not_lt_zero j)⟩, tg⟩
theorem first_m (hg : TG fF11 4 40 false) : ∃ r, fX5_init = some r ∧ MI r (an fF11 4) 4 40 P0 P0 Z0 X0 := by
  obtain ⟨S0, e0, b1, b2, -⟩ := m_clearL 66 0 FU (u2 (u2 (u2 zO 0 13 6) 0 14 60) 0 15 0) (by omega) (FU_gt (by omega))
  have r0 : RS (u2 S0 0 13 4) 7 zr := fun j hj => by rw [u2_ne (by decide), b2 j (by omega) hj]; rfl
  have z0 : ∀ c, c ≠ 0 → c ≠ 7 → (u2 S0 0 13 4) c = zO c := fun c h1 h2 => by rw [u2_ne h1, b1 c h2, u2_ne h1, u2_ne h1, u2_ne h1]
  have w0 : ∀ m, m ≠ 13 → m ≠ 14 → m ≠ 15 → (u2 S0 0 13 4) 0 m = 0 := fun m h1 h2 h3 => by rw [u2_eq, upd_n h1, b1 0 (by decide), u2_eq, upd_n h3, u2_eq, upd_n h2, u2_eq, upd_n h1]; rfl
  have v0 : (u2 S0 0 13 4) 0 13 = nI 4 := by rw [u2_eq, upd_s]; rfl
  obtain ⟨S1, e1, r1, q1⟩ := m_tellsDead (v := 0) (k := 0) (F := 7) r0 (by decide +kernel)
  obtain ⟨S2, e2, r2, q2⟩ := m_tellsDead (v := 1) (k := 0) (F := 3) r1 (by decide +kernel)
  obtain ⟨S3, e3, r3, q3⟩ := m_tellsDead (v := 0) (k := 1) (F := 2) r2 (by decide +kernel)
  obtain ⟨S4, e4, r4, q4⟩ := m_tellsDead (v := 0) (k := 0) (F := 9) r3 (by decide +kernel)
  obtain ⟨S5, e5, r5, q5⟩ := m_tellsDead (v := 1) (k := 3) (F := 5) r4 (by decide +kernel)
  obtain ⟨S6, e6, r6, q6⟩ := m_tellsDead (v := 1) (k := 2) (F := 0) r5 (by decide +kernel)
  obtain ⟨S7, e7, r7, q7⟩ := m_tellsDead (v := 0) (k := 0) (F := 6) r6 (by decide +kernel)
  obtain ⟨S8, e8, r8, q8⟩ := m_tellsGuest (v := 0) (k := 4) r7 (by decide +kernel)
  obtain ⟨S9, e9, r9, q9⟩ := m_tellsGuest (v := 1) (k := 3) r8 (by decide +kernel)
  obtain ⟨S10, e10, r10, q10⟩ := m_tellsGuest (v := 3) (k := 6) r9 (by decide +kernel)
  obtain ⟨S11, e11, r11, q11⟩ := m_tellsGuest (v := 5) (k := 2) r10 (by decide +kernel)
  have ee : Eo (u2 S0 0 13 4) S11 7 := ((((((((((q1.tr q2).tr q3).tr q4).tr q5).tr q6).tr q7).tr q8).tr q9).tr q10).tr q11)
  have rr : RS S11 7 fF11 := r11
  rw [fX5_init, fX5_clearTold, show fX5_clearTold_L19 FU 0 _ = _ from e0, bs, show fX5_tellsDead (u2 S0 0 13 4) 0 0 7 = some S1 from e1, bs, show fX5_tellsDead S1 1 0 3 = some S2 from e2, bs, show fX5_tellsDead S2 0 1 2 = some S3 from e3, bs, show fX5_tellsDead S3 0 0 9 = some S4 from e4, bs, show fX5_tellsDead S4 1 3 5 = some S5 from e5, bs, show fX5_tellsDead S5 1 2 0 = some S6 from e6, bs, show fX5_tellsDead S6 0 0 6 = some S7 from e7, bs, show fX5_tellsGuest S7 0 4 = some S8 from e8, bs, show fX5_tellsGuest S8 1 3 = some S9 from e9, bs, show fX5_tellsGuest S9 3 6 = some S10 from e10, bs, show fX5_tellsGuest S10 5 2 = some S11 from e11, bs]
  generalize hT : u2 S11 0 14 40 = T
  have t7 : RS T 7 fF11 := fun j hj => by rw [← hT, u2_ne (by decide)]; exact rr j hj
  have tc : ∀ c, c ≠ 0 → c ≠ 7 → T c = zO c := fun c h1 h2 => by rw [← hT, u2_ne h1, ee c h2]; exact z0 c h1 h2
  have t0 : ∀ m, m ≠ 13 → m ≠ 14 → m ≠ 15 → T 0 m = 0 := fun m h1 h2 h3 => by rw [← hT, u2_eq, upd_n h2, ee 0 (by decide)]; exact w0 m h1 h2 h3
  have t13 : T 0 13 = nI 4 := by rw [← hT, u2_eq, upd_n (by decide), ee 0 (by decide)]; exact v0
  have t14 : T 0 14 = nI 40 := by rw [← hT, u2_eq, upd_s]; rfl
  have q0 : u2 (u2 T 0 0 (T 0 13)) 0 1 (u2 T 0 0 (T 0 13) 0 14) 0 0 = nI 4 := by rw [u2_eq, upd_n (by decide), u2_eq, upd_s]; exact t13
  have q1 : u2 (u2 T 0 0 (T 0 13)) 0 1 (u2 T 0 0 (T 0 13) 0 14) 0 1 = nI 40 := by rw [u2_eq, upd_s, u2_eq, upd_n (by decide)]; exact t14
  have qn : ∀ m, m ≠ 0 → m ≠ 1 → u2 (u2 T 0 0 (T 0 13)) 0 1 (u2 T 0 0 (T 0 13) 0 14) 0 m = T 0 m := fun m h1 h2 => by rw [u2_eq, upd_n h2, u2_eq, upd_n h1]
  have qc : ∀ c, c ≠ 0 → u2 (u2 T 0 0 (T 0 13)) 0 1 (u2 T 0 0 (T 0 13) 0 14) c = T c := fun c h1 => by rw [u2_ne h1, u2_ne h1]
  generalize hU1 : u2 (u2 T 0 0 (T 0 13)) 0 1 (u2 T 0 0 (T 0 13) 0 14) = U1 at q0 q1 qn qc
  obtain ⟨U2, d2, b1, b2⟩ := m_put66 (S := U1) (c1 := 8) (c3 := 7) (f := fF11) (by decide) rfl rfl (fun j hj => by rw [qc 7 (by decide)]; exact t7 j hj)
  obtain ⟨U3, d3, b3, b4⟩ := m_anew b2 (by rw [b1 0 (by decide)]; exact q0) hg.1
  obtain ⟨U4, d4, b5, b6⟩ := m_put66 (S := U3) (c1 := 1) (c3 := 8) (f := an fF11 4) (by decide) rfl rfl b3
  have s4 : ∀ c, c ≠ 1 → c ≠ 8 → U4 c = U1 c := fun c h1 h2 => by rw [b5 c h1, b4 c h2, b1 c h2]
  have w1 : fX5_settles T = some (u2 (u2 (u2 U4 0 3 0) 0 5 0) 0 7 0) := by rw [fX5_settles, hU1, d2, bs, d3, bs, d4, bs]
  have w2 : ∀ m, m ≠ 3 → m ≠ 5 → m ≠ 7 → u2 (u2 (u2 U4 0 3 0) 0 5 0) 0 7 0 0 m = U4 0 m := fun m h1 h2 h3 => by rw [u2_eq, upd_n h3, u2_eq, upd_n h2, u2_eq, upd_n h1]
  have w3 : ∀ c, c ≠ 0 → u2 (u2 (u2 U4 0 3 0) 0 5 0) 0 7 0 c = U4 c := fun c h1 => by rw [u2_ne h1, u2_ne h1, u2_ne h1]
  rw [w1, bs]
  refine ⟨_, rfl, ?_, ?_, ?_, ⟨?_, ?_⟩, ⟨?_, ?_⟩, ⟨?_, ?_⟩, ?_, ?_⟩
  · intro j hj; rw [w3 1 (by decide)]; exact b6 j hj
  · rw [w2 0 (by decide) (by decide) (by decide), s4 0 (by decide) (by decide)]; exact q0
  · rw [w2 1 (by decide) (by decide) (by decide), s4 0 (by decide) (by decide)]; exact q1
  · rw [u2_eq, upd_n (by decide), u2_eq, upd_n (by decide), u2_eq, upd_s]; rfl
  · exact fun j k hj => absurd hj (Nat.not_lt_zero j)
  · rw [u2_eq, upd_n (by decide), u2_eq, upd_s]; rfl
  · exact fun j k hj => absurd hj (Nat.not_lt_zero j)
  · rw [u2_eq, upd_s]; rfl
  · exact fun j hj => absurd hj (Nat.not_lt_zero j)
  · rw [w2 10 (by decide) (by decide) (by decide), s4 0 (by decide) (by decide), qn 10 (by decide) (by decide), t0 10 (by decide) (by decide) (by decide)]; rfl
  · exact fun j hj => absurd hj (Nat.not_lt_zero j)
theorem first_inv {Y' : YS} {o' r : OS} (h1 : CI Y' o' (an fF11 4) 4 40 P0 P0 Z0 X0) (h2 : MI r (an fF11 4) 4 40 P0 P0 Z0 X0) (hg : TG fF11 4 40 false) : Inv Y' o' r := by
  have ka := okb_an hg.1
  exact ⟨an fF11 4, 4, 40, P0, P0, Z0, X0, h1, h2, by rw [ka.2]; exact ka.1, by decide, ⟨Nat.zero_le _, fun j hj => absurd hj (Nat.not_lt_zero j)⟩, ⟨Nat.zero_le _, fun j hj => absurd hj (Nat.not_lt_zero j)⟩, ⟨Nat.zero_le _, fun j hj => absurd hj (Nat.not_lt_zero j)⟩, ⟨Nat.zero_le _, fun j hj => absurd hj (Nat.not_lt_zero j)⟩⟩
