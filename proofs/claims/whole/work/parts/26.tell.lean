/-! items of the text -/
def zr : Nat → Nat := fun _ => 0
def item (X : Tx) (f : Nat → Nat) (N t : Nat) (b : Bool) (p : Nat) : Option ((Nat → Nat) × Nat × Nat × Bool × Nat) :=
  if lt X p = 121 then (match rn X 1 0 (p + 1) zr with | none => none | some q => if b = true ∧ 2 ≤ q.2 0 ∧ q.2 0 ≤ 8 then some (f, q.2 0, t, b, q.1) else none)
  else if lt X p = 100 then (match rn X 3 0 (p + 1) zr with | none => none | some q => if (q.2 0 ≤ 1 ∧ q.2 1 ≤ 3 ∧ q.2 2 ≤ 9) ∧ f 0 < 12 then some (adn f (q.2 0) (q.2 1) (q.2 2), N, t, false, q.1) else none)
  else if lt X p = 118 then (match rn X 2 0 (p + 1) zr with | none => none | some q => if q.2 0 < f 0 ∧ (1 ≤ q.2 1 ∧ q.2 1 ≤ 20) ∧ f 53 < 6 then some (vis f (q.2 0) (q.2 1), N, t, false, q.1) else none)
  else if lt X p = 116 then (match rn X 1 0 (p + 1) zr with | none => none | some q => if 1 ≤ q.2 0 then some (f, N, q.2 0, false, q.1) else none)
  else none
def TG (f : Nat → Nat) (N t : Nat) (b : Bool) : Prop := Okb f N ∧ (1 ≤ t ∧ t ≤ 99) ∧ (b = true → f 0 = 0 ∧ f 53 = 0)
def TC (Y : YS) (o : OS) (X : Tx) (f : Nat → Nat) (N t : Nat) (b : Bool) (p : Nat) : Prop := RY (Y 2) (an f N) N t ∧ TX o X ∧ o 3 1 = nI p ∧ o 3 2 = b01 b
def TM (S : OS) (X : Tx) (f : Nat → Nat) (N t : Nat) (b : Bool) (p : Nat) : Prop := RS S 7 f ∧ SX S X ∧ S 0 11 = nI p ∧ S 0 13 = nI N ∧ S 0 14 = nI t ∧ S 0 15 = b01 (!b)
def FC (Y : YS) (o : OS) (Y' : YS) (o' : OS) : Prop := (∀ i, i ≠ 2 → Y' i = Y i) ∧ (∀ c, c ≠ 3 → c ≠ 5 → o' c = o c) ∧ o' 3 0 = o 3 0
def FM (S S' : OS) : Prop := (∀ c, c ≠ 0 → c ≠ 6 → c ≠ 7 → S' c = S c) ∧ ∀ m, m ≠ 11 → m ≠ 13 → m ≠ 14 → m ≠ 15 → S' 0 m = S 0 m
theorem FC.tr {Y Y' Y'' : YS} {o o' o'' : OS} (h : FC Y o Y' o') (k : FC Y' o' Y'' o'') : FC Y o Y'' o'' := ⟨fun i hi => (k.1 i hi).trans (h.1 i hi), fun c h1 h2 => (k.2.1 c h1 h2).trans (h.2.1 c h1 h2), k.2.2.trans h.2.2⟩
theorem FM.tr {S S' S'' : OS} (h : FM S S') (k : FM S' S'') : FM S S'' := ⟨fun c h1 h2 h3 => (k.1 c h1 h2 h3).trans (h.1 c h1 h2 h3), fun m h1 h2 h3 h4 => (k.2 m h1 h2 h3 h4).trans (h.2 m h1 h2 h3 h4)⟩
theorem adn_okb {f : Nat → Nat} {N v k F : Nat} (h : Okb f N) (h12 : f 0 < 12) (hv : v ≤ 1) (hk : k ≤ 3) (hF : F ≤ 9) : Okb (adn f v k F) N := by
  have c := okb_cl h
  have e : ∀ j, (j < 37 ∨ 53 ≤ j) → adn (cl f) v k F j = adn f v k F j := by
    intro j hj
    have e0 : cl f 0 = f 0 := cl_n (by omega)
    unfold adn
    rw [e0]
    unfold pt
    rw [cl_n hj]
  have a := (adn_ok (v := v) (k := k) (F := F) c (by rw [cl_n (by omega)]; exact h12) hv hk hF).b
  obtain ⟨a1, a2, a3, a4, a5⟩ := a
  rw [e 0 (by omega)] at a2 a4 a5
  rw [e 53 (by omega)] at a3 a5
  refine ⟨a1, a2, a3, fun i hi => ?_, fun v hv => ?_⟩
  · have := a4 i hi
    unfold vl kd fg at this ⊢
    rw [e _ (by omega), e _ (by omega), e _ (by omega)] at this
    exact this
  · have := a5 v hv
    rw [e _ (by omega), e _ (by omega)] at this
    exact this
theorem vis_okb {f : Nat → Nat} {N i c : Nat} (h : Okb f N) (h6 : f 53 < 6) (hi : i < f 0) (hc : 1 ≤ c ∧ c ≤ 20) : Okb (vis f i c) N := by
  obtain ⟨k1, k2, k3, k4, k5⟩ := h
  have e0 : vis f i c 0 = f 0 := vis_lo (by omega)
  refine ⟨k1, by rw [e0]; exact k2, by rw [vis_53]; omega, fun j hj => ?_, fun v hv => ?_⟩
  · rw [e0] at hj
    have := k4 j hj
    unfold vl kd fg at this ⊢
    rw [vis_lo (by omega), vis_lo (by omega), vis_lo (by omega)]
    exact this
  · rw [vis_53] at hv
    rw [e0]
    by_cases z : v = f 53
    · subst z
      have := vis_n f i c
      rw [this.1, this.2]; exact ⟨hi, hc⟩
    · have := vis_o (f := f) (i := i) (c := c) (v := v) (by omega)
      rw [this.1, this.2]; exact k5 v (by omega)
theorem item_ok {X : Tx} {f f' : Nat → Nat} {N t N' t' p p' : Nat} {b b' : Bool} (h : TG f N t b) (e : item X f N t b p = some (f', N', t', b', p')) : TG f' N' t' b' ∧ p + 1 < p' ∧ p' ≤ X.1 := by
  unfold item at e
  by_cases c1 : lt X p = 121
  · rw [if_pos c1] at e
    cases r : rn X 1 0 (p + 1) zr with
    | none => rw [r] at e; cases e
    | some q =>
      rw [r] at e
      have hr := rn_b 1 0 (p + 1) zr q.1 q.2 r
      dsimp only at e
      by_cases c : b = true ∧ 2 ≤ q.2 0 ∧ q.2 0 ≤ 8
      · rw [if_pos c] at e
        cases e
        exact ⟨⟨⟨c.2, h.1.2⟩, h.2⟩, by have := hr.2.2 (by omega); omega⟩
      · rw [if_neg c] at e; cases e
  · rw [if_neg c1] at e
    by_cases c2 : lt X p = 100
    · rw [if_pos c2] at e
      cases r : rn X 3 0 (p + 1) zr with
      | none => rw [r] at e; cases e
      | some q =>
        rw [r] at e
        have hr := rn_b 3 0 (p + 1) zr q.1 q.2 r
        dsimp only at e
        by_cases c : (q.2 0 ≤ 1 ∧ q.2 1 ≤ 3 ∧ q.2 2 ≤ 9) ∧ f 0 < 12
        · rw [if_pos c] at e
          cases e
          exact ⟨⟨adn_okb h.1 c.2 c.1.1 c.1.2.1 c.1.2.2, h.2.1, fun z => by cases z⟩, by have := hr.2.2 (by omega); omega⟩
        · rw [if_neg c] at e; cases e
    · rw [if_neg c2] at e
      by_cases c3 : lt X p = 118
      · rw [if_pos c3] at e
        cases r : rn X 2 0 (p + 1) zr with
        | none => rw [r] at e; cases e
        | some q =>
          rw [r] at e
          have hr := rn_b 2 0 (p + 1) zr q.1 q.2 r
          dsimp only at e
          by_cases c : q.2 0 < f 0 ∧ (1 ≤ q.2 1 ∧ q.2 1 ≤ 20) ∧ f 53 < 6
          · rw [if_pos c] at e
            cases e
            exact ⟨⟨vis_okb h.1 c.2.2 c.1 c.2.1, h.2.1, fun z => by cases z⟩, by have := hr.2.2 (by omega); omega⟩
          · rw [if_neg c] at e; cases e
      · rw [if_neg c3] at e
        by_cases c4 : lt X p = 116
        · rw [if_pos c4] at e
          cases r : rn X 1 0 (p + 1) zr with
          | none => rw [r] at e; cases e
          | some q =>
            rw [r] at e
            have hr := rn_b 1 0 (p + 1) zr q.1 q.2 r
            dsimp only at e
            by_cases c : 1 ≤ q.2 0
            · rw [if_pos c] at e
              cases e
              exact ⟨⟨h.1, ⟨c, hr.2.1 0 (by omega) (by omega)⟩, fun z => by cases z⟩, by have := hr.2.2 (by omega); omega⟩
            · rw [if_neg c] at e; cases e
        · rw [if_neg c4] at e; cases e
theorem c_num {X : Tx} (hX : GX X) {k : Nat} (hk : 0 < k) (hk3 : k ≤ 3) {Y : YS} {o : OS} {p : Nat} (hp : p < X.1) (h : TX o X) : ∃ o', fX2_readNumbers Y (u2 o 3 1 (nI (p + 1))) (nI k) = some (b01 (rn X k 0 (p + 1) zr).isSome, Y, o') ∧ (∀ c, c ≠ 3 → c ≠ 5 → o' c = o c) ∧ o' 3 0 = o 3 0 ∧ o' 3 2 = o 3 2 ∧ (∀ q, rn X k 0 (p + 1) zr = some q → o' 3 1 = nI q.1 ∧ ∀ m, m < k → o' 5 m = nI (q.2 m)) := by
  have hb := hX.1
  obtain ⟨o', e, a1, a2, a3, a4⟩ := c_rn hX hk hk3 k 0 FU (p + 1) zr Y (u2 o 3 1 (nI (p + 1))) (by omega) (FU_gt (by omega)) (by omega) ⟨by rw [u2_eq, upd_n (by decide)]; exact h.1, fun j hj => by rw [u2_ne (by decide)]; exact h.2 j hj⟩ (by rw [u2_eq, upd_s]) (fun m hm => by omega)
  refine ⟨o', by rw [fX2_readNumbers]; exact e, fun c h1 h2 => by rw [a1 c h1 h2, u2_ne h1], by rw [a2, u2_eq, upd_n (by decide)], by rw [a3, u2_eq, upd_n (by decide)], fun q hq => a4 q.1 q.2 hq⟩
theorem z1 : (1 : Int32).toNatClampNeg = 1 := rfl
theorem z2 : (2 : Int32).toNatClampNeg = 2 := rfl
def CR (Y : YS) (o : OS) (X : Tx) (p c u : Nat) (x : Option (Int32 × YS × OS)) (r : Option ((Nat → Nat) × Nat × Nat × Bool × Nat)) : Prop := match r with
  | none => ∃ Y' o', x = some (nI p, Y', o') ∧ FC Y o Y' o'
  | some q => ∃ Y' o', x = fX2_tellAll_L16 2 u (nI (c + 1)) Y' o' ∧ FC Y o Y' o' ∧ TC Y' o' X q.1 q.2.1 q.2.2.1 q.2.2.2.1 q.2.2.2.2
theorem c_step {X : Tx} (hX : GX X) {Y : YS} {o : OS} {f : Nat → Nat} {N t p c u : Nat} {b : Bool} (hg : TG f N t b) (h : TC Y o X f N t b p) (hp : p < X.1) (hc : c < 200) : CR Y o X p c u (fX2_tellAll_L16 2 (u + 1) (nI c) Y o) (item X f N t b p) := by
  have hb := hX.1
  obtain ⟨h1, h2, h3, h4⟩ := h
  have hl := lt_b hX p
  have ka := okb_an hg.1
  have k12 := hg.1.2.1
  have k6 := hg.1.2.2.1
  have e53 : an f N 53 = f 53 := an_out hg.1 53 (by omega)
  rw [fX2_tellAll_L16, ifF (show ¬ 200 ≤ nI c from fun e => absurd ((nI_leI (a := 200) (by decide) (by omega)).mp e) (by omega)), h2.1, h3, ifF (by rw [nI_leI (by omega) (by omega)]; omega), c_letter hX h2 (by omega), bs, show nI p + 1 = nI (p + 1) from nI_add p 1, show nI c + 1 = nI (c + 1) from nI_add c 1]
  have fcO : ∀ {o' : OS}, (∀ c, c ≠ 3 → c ≠ 5 → o' c = o c) → o' 3 0 = o 3 0 → FC Y o Y o' := fun a1 a2 => ⟨fun _ _ => rfl, a1, a2⟩
  have neq : ∀ {c : Nat}, c < 127 → ¬ lt X p = c → ¬ nI (lt X p) = nI c := fun hc hn e => hn ((nI_eq (by omega) (by omega)).mp e)
  unfold item
  by_cases c1 : lt X p = 121
  · rw [if_pos c1, c1, show fX2_numbersBehind (nI 121) = some (nI 1) from rfl, bs]
    obtain ⟨o', e, a1, a2, a3, a4⟩ := c_num hX (k := 1) (by omega) (by omega) (Y := Y) hp h2
    rw [e, bs]
    cases r : rn X 1 0 (p + 1) zr with
    | none => exact ⟨Y, o', rfl, fcO a1 a2⟩
    | some q =>
      obtain ⟨a5, a6⟩ := a4 q r
      have hv := (rn_b 1 0 (p + 1) zr q.1 q.2 r).2.1 0 (by omega) (by omega)
      show CR Y o X p c u ((fX2_tellItem Y o' (nI 121) 2).bind _) _
      rw [fX2_tellItem, ifT (show nI 121 = 121 from rfl), a3, h4, z0, a6 0 (by omega)]
      dsimp only
      cases b with
      | false => exact ⟨Y, o', rfl, fcO a1 a2⟩
      | true =>
        rw [ibt]
        by_cases c2 : q.2 0 < 2
        · rw [ifT (show nI (q.2 0) < 2 from (nI_ltI (b := 2) (by omega) (by decide)).mpr c2), if_neg (by omega)]
          exact ⟨Y, o', rfl, fcO a1 a2⟩
        · rw [ifF (show ¬ nI (q.2 0) < 2 from fun e => c2 ((nI_ltI (b := 2) (by omega) (by decide)).mp e))]
          by_cases c3 : q.2 0 ≤ 8
          · rw [ifT (show nI (q.2 0) ≤ 8 from (nI_leI (b := 8) (by omega) (by decide)).mpr c3), if_pos ⟨rfl, by omega, c3⟩]
            have hf := hg.2.2 rfl
            refine ⟨va_up Y 2 (u2 (Y 2) 0 0 (nI (q.2 0))), o', rfl, ⟨fun i hi => vu_n hi, a1, a2⟩, ?_, ⟨a2.trans h2.1, fun j hj => by rw [a1 4 (by decide) (by decide)]; exact h2.2 j hj⟩, a5, by rw [a3]; exact h4⟩
            show RY (va_up Y 2 (u2 (Y 2) 0 0 (nI (q.2 0))) 2) (an f (q.2 0)) (q.2 0) t
            rw [vu_s, an_0 hf.1, ← an_0 (N := N) hf.1]
            obtain ⟨b1, b2, b3, b4, b5, b6, b7⟩ := h1
            have un : ∀ k, k ≠ 0 → u2 (Y 2) 0 0 (nI (q.2 0)) 0 k = Y 2 0 k := fun k hk => by rw [u2_eq, upd_n hk]
            have uo : ∀ k, k ≠ 0 → u2 (Y 2) 0 0 (nI (q.2 0)) k = Y 2 k := fun k hk => u2_ne hk
            exact ⟨by rw [u2_eq, upd_s], by rw [un 1 (by decide)]; exact b2, by rw [un 2 (by decide)]; exact b3, by rw [un 3 (by decide)]; exact b4, fun i hi => by rw [uo 1 (by decide), uo 2 (by decide), uo 3 (by decide)]; exact b5 i hi, fun k hk => by rw [uo 4 (by decide)]; exact b6 k hk, fun v hv => by rw [uo 5 (by decide), uo 6 (by decide)]; exact b7 v hv⟩
          · rw [ifF (show ¬ nI (q.2 0) ≤ 8 from fun e => c3 ((nI_leI (b := 8) (by omega) (by decide)).mp e)), if_neg (by omega)]
            exact ⟨Y, o', rfl, fcO a1 a2⟩
  · rw [if_neg c1]
    by_cases c2 : lt X p = 100
    · rw [if_pos c2, c2, show fX2_numbersBehind (nI 100) = some (nI 3) from rfl, bs]
      obtain ⟨o', e, a1, a2, a3, a4⟩ := c_num hX (k := 3) (by omega) (by omega) (Y := Y) hp h2
      rw [e, bs]
      cases r : rn X 3 0 (p + 1) zr with
      | none => exact ⟨Y, o', rfl, fcO a1 a2⟩
      | some q =>
        obtain ⟨a5, a6⟩ := a4 q r
        have hv := (rn_b 3 0 (p + 1) zr q.1 q.2 r).2.1
        have hv0 := hv 0 (by omega) (by omega)
        have hv1 := hv 1 (by omega) (by omega)
        have hv2 := hv 2 (by omega) (by omega)
        have fo : FC Y o Y (u2 o' 3 2 0) := ⟨fun _ _ => rfl, fun c h1 h2 => by rw [u2_ne h1, a1 c h1 h2], by rw [u2_eq, upd_n (by decide), a2]⟩
        show CR Y o X p c u ((fX2_tellItem Y o' (nI 100) 2).bind _) _
        rw [fX2_tellItem, ifF (show ¬ nI 100 = 121 by decide), ifT (show nI 100 = 100 from rfl), z0, z1, z2, u2_ne (by decide), a6 0 (by omega), a6 1 (by omega), a6 2 (by omega), c_isOne, bs, iL_nI (by omega), iL_nI (by omega), iL_nI (by omega)]
        dsimp only
        by_cases d1 : q.2 0 ≤ 1 ∧ q.2 1 ≤ 3 ∧ q.2 2 ≤ 9
        · rw [decide_eq_true (p := (0 : Int) ≤ (q.2 0 : Int) ∧ (q.2 0 : Int) ≤ 1) (by omega), decide_eq_true (p := (0 : Int) ≤ (q.2 1 : Int) ∧ (q.2 1 : Int) ≤ 3) (by omega), decide_eq_true (p := (0 : Int) ≤ (q.2 2 : Int) ∧ (q.2 2 : Int) ≤ 9) (by omega), show (true && true && true) = true from rfl, ibt, h1.2.2.1, ka.2]
          by_cases d2 : f 0 < 12
          · obtain ⟨y', e2, r2⟩ := y_addDead h1 (by rw [ka.2]; exact ka.1) (by rw [ka.2]; exact d2) d1.1 d1.2.1 d1.2.2
            rw [ifT (show nI (f 0) < 12 from (nI_ltI (b := 12) (by omega) (by decide)).mpr d2), if_pos ⟨d1, d2⟩, e2, bs]
            refine ⟨va_up Y 2 y', u2 o' 3 2 0, rfl, ⟨fun i hi => vu_n hi, fo.2.1, fo.2.2⟩, ?_, ⟨fo.2.2.trans h2.1, fun j hj => by rw [fo.2.1 4 (by decide) (by decide)]; exact h2.2 j hj⟩, by rw [u2_eq, upd_n (by decide)]; exact a5, by rw [u2_eq, upd_s]; rfl⟩
            show RY (va_up Y 2 y' 2) (an (adn f (q.2 0) (q.2 1) (q.2 2)) N) N t
            rw [vu_s, an_adn hg.1 d2]; exact r2
          · rw [ifF (show ¬ nI (f 0) < 12 from fun e => d2 ((nI_ltI (b := 12) (by omega) (by decide)).mp e)), if_neg (fun e => d2 e.2)]
            exact ⟨Y, _, rfl, fo⟩
        · have : (decide ((0 : Int) ≤ (q.2 0 : Int) ∧ (q.2 0 : Int) ≤ 1) && decide ((0 : Int) ≤ (q.2 1 : Int) ∧ (q.2 1 : Int) ≤ 3) && decide ((0 : Int) ≤ (q.2 2 : Int) ∧ (q.2 2 : Int) ≤ 9)) = false := by
            rw [← Bool.not_eq_true]
            intro z
            simp only [Bool.and_eq_true, decide_eq_true_eq] at z
            exact d1 (by omega)
          rw [this, ibf, if_neg (fun e => d1 e.1)]
          exact ⟨Y, _, rfl, fo⟩
    · rw [if_neg c2]
      by_cases c3 : lt X p = 118
      · rw [if_pos c3, c3, show fX2_numbersBehind (nI 118) = some (nI 2) from rfl, bs]
        obtain ⟨o', e, a1, a2, a3, a4⟩ := c_num hX (k := 2) (by omega) (by omega) (Y := Y) hp h2
        rw [e, bs]
        cases r : rn X 2 0 (p + 1) zr with
        | none => exact ⟨Y, o', rfl, fcO a1 a2⟩
        | some q =>
          obtain ⟨a5, a6⟩ := a4 q r
          have hv := (rn_b 2 0 (p + 1) zr q.1 q.2 r).2.1
          have hv0 := hv 0 (by omega) (by omega)
          have hv1 := hv 1 (by omega) (by omega)
          have fo : FC Y o Y (u2 o' 3 2 0) := ⟨fun _ _ => rfl, fun c h1 h2 => by rw [u2_ne h1, a1 c h1 h2], by rw [u2_eq, upd_n (by decide), a2]⟩
          show CR Y o X p c u ((fX2_tellItem Y o' (nI 118) 2).bind _) _
          rw [fX2_tellItem, ifF (show ¬ nI 118 = 121 by decide), ifF (show ¬ nI 118 = 100 by decide), ifT (show nI 118 = 118 from rfl), z0, z1, u2_ne (by decide), a6 0 (by omega), a6 1 (by omega), y_hasDead h1 ka.1, bs, c_isMinutes, bs, iL_nI (by omega), iL_nI (by omega), ka.2]
          dsimp only
          by_cases d1 : q.2 0 < f 0
          · rw [decide_eq_true (p := (0 : Int) ≤ (q.2 0 : Int) ∧ (q.2 0 : Int) ≤ (f 0 : Int) - 1) (by omega), ibt]
            by_cases d2 : 1 ≤ q.2 1 ∧ q.2 1 ≤ 20
            · rw [decide_eq_true (p := (1 : Int) ≤ (q.2 1 : Int) ∧ (q.2 1 : Int) ≤ 20) (by omega), ibt, h1.2.2.2.1, e53]
              by_cases d3 : f 53 < 6
              · obtain ⟨y', e2, r2⟩ := y_addV (i := q.2 0) (c := q.2 1) h1 (by rw [ka.2]; exact k12) (by rw [e53]; exact d3)
                rw [ifT (show nI (f 53) < 6 from (nI_ltI (b := 6) (by omega) (by decide)).mpr d3), if_pos ⟨d1, d2, d3⟩, e2, bs]
                refine ⟨va_up Y 2 y', u2 o' 3 2 0, rfl, ⟨fun i hi => vu_n hi, fo.2.1, fo.2.2⟩, ?_, ⟨fo.2.2.trans h2.1, fun j hj => by rw [fo.2.1 4 (by decide) (by decide)]; exact h2.2 j hj⟩, by rw [u2_eq, upd_n (by decide)]; exact a5, by rw [u2_eq, upd_s]; rfl⟩
                show RY (va_up Y 2 y' 2) (an (vis f (q.2 0) (q.2 1)) N) N t
                rw [vu_s, an_vis hg.1 d3]; exact r2
              · rw [ifF (show ¬ nI (f 53) < 6 from fun e => d3 ((nI_ltI (b := 6) (by omega) (by decide)).mp e)), if_neg (fun e => d3 e.2.2)]
                exact ⟨Y, _, rfl, fo⟩
            · rw [decide_eq_false (p := (1 : Int) ≤ (q.2 1 : Int) ∧ (q.2 1 : Int) ≤ 20) (by omega), ibf, if_neg (fun e => d2 e.2.1)]
              exact ⟨Y, _, rfl, fo⟩
          · rw [decide_eq_false (p := (0 : Int) ≤ (q.2 0 : Int) ∧ (q.2 0 : Int) ≤ (f 0 : Int) - 1) (by omega), ibf, if_neg (fun e => d1 e.1)]
            exact ⟨Y, _, rfl, fo⟩
      · rw [if_neg c3]
        by_cases c4 : lt X p = 116
        · rw [if_pos c4, c4, show fX2_numbersBehind (nI 116) = some (nI 1) from rfl, bs]
          obtain ⟨o', e, a1, a2, a3, a4⟩ := c_num hX (k := 1) (by omega) (by omega) (Y := Y) hp h2
          rw [e, bs]
          cases r : rn X 1 0 (p + 1) zr with
          | none => exact ⟨Y, o', rfl, fcO a1 a2⟩
          | some q =>
            obtain ⟨a5, a6⟩ := a4 q r
            have hv0 := (rn_b 1 0 (p + 1) zr q.1 q.2 r).2.1 0 (by omega) (by omega)
            have fo : FC Y o Y (u2 o' 3 2 0) := ⟨fun _ _ => rfl, fun c h1 h2 => by rw [u2_ne h1, a1 c h1 h2], by rw [u2_eq, upd_n (by decide), a2]⟩
            show CR Y o X p c u ((fX2_tellItem Y o' (nI 116) 2).bind _) _
            rw [fX2_tellItem, ifF (show ¬ nI 116 = 121 by decide), ifF (show ¬ nI 116 = 100 by decide), ifF (show ¬ nI 116 = 118 by decide), z0, a6 0 (by omega)]
            dsimp only
            by_cases d1 : 1 ≤ q.2 0
            · rw [ifF (show ¬ nI (q.2 0) < 1 from fun e => absurd ((nI_ltI (b := 1) (by omega) (by decide)).mp e) (by omega)), if_pos d1]
              refine ⟨va_up Y 2 (u2 (Y 2) 0 1 (nI (q.2 0))), u2 o' 3 2 0, rfl, ⟨fun i hi => vu_n hi, fo.2.1, fo.2.2⟩, ?_, ⟨fo.2.2.trans h2.1, fun j hj => by rw [fo.2.1 4 (by decide) (by decide)]; exact h2.2 j hj⟩, by rw [u2_eq, upd_n (by decide)]; exact a5, by rw [u2_eq, upd_s]; rfl⟩
              show RY (va_up Y 2 (u2 (Y 2) 0 1 (nI (q.2 0))) 2) (an f N) N (q.2 0)
              rw [vu_s]
              obtain ⟨b1, b2, b3, b4, b5, b6, b7⟩ := h1
              have un : ∀ k, k ≠ 1 → u2 (Y 2) 0 1 (nI (q.2 0)) 0 k = Y 2 0 k := fun k hk => by rw [u2_eq, upd_n hk]
              have uo : ∀ k, k ≠ 0 → u2 (Y 2) 0 1 (nI (q.2 0)) k = Y 2 k := fun k hk => u2_ne hk
              exact ⟨by rw [un 0 (by decide)]; exact b1, by rw [u2_eq, upd_s], by rw [un 2 (by decide)]; exact b3, by rw [un 3 (by decide)]; exact b4, fun i hi => by rw [uo 1 (by decide), uo 2 (by decide), uo 3 (by decide)]; exact b5 i hi, fun k hk => by rw [uo 4 (by decide)]; exact b6 k hk, fun v hv => by rw [uo 5 (by decide), uo 6 (by decide)]; exact b7 v hv⟩
            · rw [ifT (show nI (q.2 0) < 1 from (nI_ltI (b := 1) (by omega) (by decide)).mpr (by omega)), if_neg d1]
              exact ⟨va_up Y 2 (u2 (Y 2) 0 1 (nI (q.2 0))), _, rfl, fun i hi => vu_n hi, fo.2⟩
        · rw [if_neg c4, fX2_numbersBehind, ifF (show ¬ nI (lt X p) = 100 from neq (c := 100) (by decide) c2), ifF (show ¬ nI (lt X p) = 116 from neq (c := 116) (by decide) c4), ifF (show ¬ nI (lt X p) = 118 from neq (c := 118) (by decide) c3), ifF (show ¬ nI (lt X p) = 121 from neq (c := 121) (by decide) c1), bs]
          exact ⟨Y, u2 o 3 1 (nI (p + 1)), rfl, fun _ _ => rfl, fun c h1 _ => u2_ne h1, by rw [u2_eq, upd_n (by decide)]⟩
