/-! the soonest -/
def trn (n : Nat) (L : Nat → Nat) : Nat → Nat := fun d => if d < n then L d else 0
theorem trn_cong {n : Nat} {L L' : Nat → Nat} (h : ∀ d, d < n → L d = L' d) : trn n L = trn n L' := by
  funext d
  unfold trn
  by_cases c : d < n
  · rw [if_pos c, if_pos c, h d c]
  · rw [if_neg c, if_neg c]
def F1 (f : Nat → Nat) (n : Nat) (L : Nat → Nat) (a : Option Nat) : Option Nat := if bl a (tmo f n L) then some (tmo f n L) else a
def F2 (f : Nat → Nat) (n : Nat) (L : Nat → Nat) (a : Option Nat × (Nat → Nat)) : Option Nat × (Nat → Nat) := if bl a.1 (tmo f n L) then (some (tmo f n L), trn n L) else a
/-- what is best of u -/
def D1 (f : Nat → Nat) (u : Nat → Bool) : Option Nat := df (cnt u (f 53)) (fun l a => F1 f (cnt u (f 53)) (fun d => en u (f 53) (l d)) a) (cnt u (f 53)) 0 zr none
def D2 (f : Nat → Nat) (u : Nat → Bool) : Option Nat × (Nat → Nat) := df (cnt u (f 53)) (fun l a => F2 f (cnt u (f 53)) (fun d => en u (f 53) (l d)) a) (cnt u (f 53)) 0 zr (none, trn (cnt u (f 53)) zr)
theorem D2_1 (f : Nat → Nat) (u : Nat → Bool) : (D2 f u).1 = D1 f u := by
  unfold D1 D2
  refine df_pr (φ := Prod.fst) (fun l a => ?_) _ 0 zr _
  unfold F1 F2
  split <;> rfl
theorem D1_some (f : Nat → Nat) (u : Nat → Bool) : D1 f u ≠ none := by
  unfold D1
  refine df_got (P := fun a => a ≠ none) (fun l a => ?_) _ 0 zr none (by omega) (fun d hd => absurd hd (Nat.not_lt_zero d))
  unfold F1
  cases a with
  | none => exact Option.some_ne_none _
  | some t =>
    split
    · exact Option.some_ne_none _
    · exact Option.some_ne_none _
theorem D_cong {f : Nat → Nat} {u u' : Nat → Bool} (h : ∀ v, v < f 53 → u v = u' v) : D1 f u = D1 f u' ∧ D2 f u = D2 f u' := by
  unfold D1 D2
  rw [cnt_cong h, en_cong _ h]; exact ⟨rfl, rfl⟩
def qu (f : Nat → Nat) (u : Nat → Bool) (v : Nat) : Bool := decide (v < f 53) && u v
def fin (f : Nat → Nat) : TS := cf (gr f) (f 53) (nte f) 6 0 zr (fun _ => none, zr)
theorem kn_qu {f : Nat → Nat} (h6 : f 53 ≤ 6) {u : Nat → Bool} {j : Nat} {L : Nat → Nat} (hL : ∀ d, d < j → L d < f 53) (h : ∀ v, v < f 53 → hs j L v = u v) : kn (hs j L) = kn (qu f u) := by
  refine kn_eq.mpr (fun i hi => ?_)
  unfold qu
  by_cases c : i < f 53
  · rw [h i c, decide_eq_true c]; rfl
  · rw [decide_eq_false c]
    cases e : hs j L i with
    | false => rfl
    | true =>
      obtain ⟨d, hd, z⟩ := (hs_in j).mp e
      have := hL d hd; omega
theorem kn_ne {f : Nat → Nat} (h6 : f 53 ≤ 6) {u : Nat → Bool} {j : Nat} {L : Nat → Nat} (h : ∃ v, v < f 53 ∧ ¬ hs j L v = u v) : ¬ kn (hs j L) = kn (qu f u) := by
  obtain ⟨v, hv, hne⟩ := h
  intro e
  have := kn_eq.mp e v (by omega)
  unfold qu at this
  rw [decide_eq_true hv, Bool.true_and] at this
  exact hne this
theorem fin_1 {f : Nat → Nat} (h6 : f 53 ≤ 6) {u : Nat → Bool} (hug : ∀ v, v < f 53 → u v = true → gr f v = true) : (fin f).1 (kn (qu f u)) = D1 f u := by
  have hl := cnt_le u (f 53)
  refine cf_in (u := u) (pr := fun s : TS => s.1 (kn (qu f u))) (F := F1 f (cnt u (f 53))) hug (fun j L s h => ?_) (fun L s h1 h2 => ?_) (fun L L' a h => ?_) 6 (cnt u (f 53)) 0 zr zr _ (by omega) (by omega) rfl (fun d hd => absurd hd (Nat.not_lt_zero d))
  · have := kn_ne h6 h
    show (nte f j L s).1 (kn (qu f u)) = s.1 (kn (qu f u))
    unfold nte
    split
    · show (if kn (qu f u) = kn (hs j L) then _ else _) = _
      rw [if_neg (fun e => this e.symm)]
    · rfl
  · have := kn_qu h6 h1 h2
    show (nte f (cnt u (f 53)) L s).1 (kn (qu f u)) = F1 f (cnt u (f 53)) L (s.1 (kn (qu f u)))
    unfold nte F1
    rw [this]
    by_cases c : bl (s.1 (kn (qu f u))) (tmo f (cnt u (f 53)) L) = true
    · rw [if_pos c, if_pos c]
      show (if kn (qu f u) = kn (qu f u) then _ else _) = _
      rw [if_pos rfl]
    · rw [if_neg c, if_neg c]
  · unfold F1 tmo; rw [stt_cong h]
theorem fin_2 {f : Nat → Nat} (h6 : f 53 ≤ 6) : ((fin f).1 (kn (gq f)), trn (cnt (gr f) (f 53)) (fin f).2) = D2 f (gr f) := by
  have hl := cnt_le (gr f) (f 53)
  refine cf_in (u := gr f) (pr := fun s : TS => (s.1 (kn (gq f)), trn (cnt (gr f) (f 53)) s.2)) (F := F2 f (cnt (gr f) (f 53))) (fun _ _ h => h) (fun j L s h => ?_) (fun L s h1 h2 => ?_) (fun L L' a h => ?_) 6 (cnt (gr f) (f 53)) 0 zr zr _ (by omega) (by omega) rfl (fun d hd => absurd hd (Nat.not_lt_zero d))
  · have := kn_ne h6 h
    have this : ¬ kn (hs j L) = kn (gq f) := this
    show ((nte f j L s).1 (kn (gq f)), trn _ (nte f j L s).2) = (s.1 (kn (gq f)), trn _ s.2)
    unfold nte
    by_cases c : bl (s.1 (kn (hs j L))) (tmo f j L) = true
    · rw [if_pos c]
      show ((if kn (gq f) = kn (hs j L) then _ else _), trn _ (if kn (hs j L) = kn (gq f) then _ else _)) = _
      rw [if_neg (fun e => this e.symm), if_neg this]
    · rw [if_neg c]
  · have := kn_qu h6 h1 h2
    have this : kn (hs (cnt (gr f) (f 53)) L) = kn (gq f) := this
    show ((nte f (cnt (gr f) (f 53)) L s).1 (kn (gq f)), trn _ (nte f (cnt (gr f) (f 53)) L s).2) = F2 f (cnt (gr f) (f 53)) L (s.1 (kn (gq f)), trn _ s.2)
    unfold nte F2
    rw [this]
    dsimp only
    by_cases c : bl (s.1 (kn (gq f))) (tmo f (cnt (gr f) (f 53)) L) = true
    · rw [if_pos c, if_pos c]
      show ((if kn (gq f) = kn (gq f) then _ else _), trn _ (if kn (gq f) = kn (gq f) then _ else _)) = _
      rw [if_pos rfl, if_pos rfl]
    · rw [if_neg c, if_neg c]
  · unfold F2 tmo; rw [stt_cong h, trn_cong h]
/-! the class -/
theorem c_allL {Y : YS} {f : Nat → Nat} {N m : Nat} (k : Ok f N m) : ∀ (r i u : Nat) (o : OS), i + r = 64 → r < u → CB o f → (∀ q, q < i → o 10 q = 1000000) → ∃ o', fX0_tryAllOrders_L2 u (nI i) Y o = some (Y, o') ∧ CT f o' (fin f) ∧ CB o' f ∧ (∀ c, (c < 6 ∨ 12 < c) → o' c = o c)
  | 0, i, u, o, hi, hu, hc, h10 => by
    cases u with
    | zero => omega
    | succ u =>
      have fb0 : FB o (u2 (u2 (u2 o 6 8 0) 6 9 (-4)) 6 10 0) := ((FB.u (Or.inl rfl)).tr (FB.u (Or.inr (Or.inl rfl)))).tr (FB.u (Or.inr (Or.inr rfl)))
      obtain ⟨o', e, t1, c1, -, fr⟩ := c_try (Y := Y) k 6 8 0 zr (u2 (u2 (u2 o 6 8 0) 6 9 (-4)) 6 10 0) (fun _ => none, zr) (by omega) (by omega) (fb0.cb hc) ⟨by rw [u2_eq, upd_n (by decide), u2_eq, upd_n (by decide), u2_eq, upd_s]; rfl, by rw [u2_eq, upd_n (by decide), u2_eq, upd_s]; rfl, by rw [u2_eq, upd_s]; rfl⟩ ⟨fun q hq => ⟨by rw [fb0.1 10 (by decide), h10 q (by omega)]; rfl, fun t ht => by cases ht⟩, fun hne => absurd rfl hne⟩ (fun d hd => absurd hd (Nat.not_lt_zero d))
      refine ⟨o', ?_, t1, c1, fun c hc => by rw [fr c hc, fb0.1 c (by omega)]⟩
      rw [fX0_tryAllOrders_L2, ifT (by rw [show i = 64 by omega]; decide), fX0_begin, bs]
      dsimp only
      rw [fX0_tryBehind, show fX0_tryBehindR 8 0 0 Y _ = _ from e]; rfl
  | r + 1, i, u, o, hi, hu, hc, h10 => by
    cases u with
    | zero => omega
    | succ u =>
      obtain ⟨o', e, a1, a2, a3⟩ := c_allL (Y := Y) k r (i + 1) u (u2 o 10 i 1000000) (by omega) (by omega) ⟨by rw [u2_ne (by decide)]; exact hc.1, by rw [u2_ne (by decide)]; exact hc.2.1, fun v hv => by rw [u2_ne (by decide), u2_ne (by decide), u2_ne (by decide)]; exact hc.2.2 v hv⟩ (fun q hq => by
        rw [u2_eq]
        by_cases z : q = i
        · subst z; rw [upd_s]
        · rw [upd_n z]; exact h10 q (by omega))
      refine ⟨o', ?_, a1, a2, fun c hc => by rw [a3 c hc, u2_ne (by omega)]⟩
      rw [fX0_tryAllOrders_L2, ifF (by rw [show (64 : Int32) = nI 64 from rfl, nI_leI (by decide) (by omega)]; omega), gib (by omega) (by decide), nI_clamp (by omega), show nI i + 1 = nI (i + 1) from nI_add i 1]
      exact e
theorem c_all {Y : YS} {o : OS} {f : Nat → Nat} {N m : Nat} (k : Ok f N m) (hc : CB o f) : ∃ o', fX0_tryAllOrders Y o = some (Y, o') ∧ CT f o' (fin f) ∧ CB o' f ∧ (∀ c, (c < 6 ∨ 12 < c) → o' c = o c) := by
  obtain ⟨o', e, h⟩ := c_allL (Y := Y) k 64 0 FU o (by omega) (FU_gt (by omega)) hc (fun q hq => absurd hq (Nat.not_lt_zero q))
  exact ⟨o', by rw [fX0_tryAllOrders]; exact e, h⟩
theorem c_soon {Y : YS} {o : OS} {f : Nat → Nat} {u : Nat → Bool} (h6 : f 53 ≤ 6) (ht : CT f o (fin f)) (hug : ∀ v, v < f 53 → u v = true → gr f v = true) : ∃ t, D1 f u = some t ∧ t ≤ 1000 ∧ fX0_soonestOf Y o (ms (qu f u) 6) = some (nI t) := by
  obtain ⟨kI, klt⟩ := kn_I (qu f u)
  have h := ht.1 _ klt
  rw [fin_1 h6 hug] at h
  cases e : D1 f u with
  | none => exact absurd e (D1_some f u)
  | some t =>
    rw [e] at h
    refine ⟨t, rfl, h.2 t rfl, ?_⟩
    rw [fX0_soonestOf, kI, ifF (nI_pos (by omega)), ifF (show ¬ 64 ≤ nI (kn (qu f u)) from fun e => absurd ((nI_leI (a := 64) (by decide) (by omega)).mp e) (by omega)), gib (by omega) (by decide), nI_clamp (by omega), h.1]; rfl
