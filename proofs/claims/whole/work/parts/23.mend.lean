/-! mend -/
def gl (f g : Nat → Nat) (N yd r : Nat) : Option Nat := if r < N then (if ly f yd r = 0 then none else pin g yd (ly f yd r - 1)) else none
theorem pin_in {g : Nat → Nat} {yd w q : Nat} (h : pin g yd w = some q) : q < 8 ∧ ly g yd q = w + 1 := by
  have := fnd_in 8 0 q h
  exact ⟨by omega, by simpa using this.2.2⟩
theorem pin_q {g : Nat → Nat} {N m yd q : Nat} (k : Ok g N m) (hy : yd < 2) (hq : q < 8) (h0 : ly g yd q ≠ 0) : pin g yd (ly g yd q - 1) = some q := by
  cases e : pin g yd (ly g yd q - 1) with
  | none =>
    have := (fnd_no 8 0).mp e q (by omega) (by omega)
    have e2 : ly g yd q ≠ ly g yd q - 1 + 1 := by simpa using this
    omega
  | some p =>
    have h1 := pin_in e
    rw [k.2.2.2.2.2.2.1 yd q p hy hq h1.1 h0 (by omega)]
theorem gl_some {f g : Nat → Nat} {N m yd r q : Nat} (k : Ok g N m) (hy : yd < 2) (h : gl f g N yd r = some q) : r < N ∧ q < N ∧ ly f yd r ≠ 0 ∧ ly g yd q = ly f yd r := by
  unfold gl at h
  by_cases c : r < N
  · rw [if_pos c] at h
    by_cases c0 : ly f yd r = 0
    · rw [if_pos c0] at h; cases h
    · rw [if_neg c0] at h
      have h1 := pin_in h
      refine ⟨c, ?_, c0, by omega⟩
      rcases Nat.lt_or_ge q N with hl | hl
      · exact hl
      · have := k.out hy h1.1 hl; omega
  · rw [if_neg c] at h; cases h
theorem gl_inj {f g : Nat → Nat} {N m m' yd p p' q : Nat} (kf : Ok f N m') (k : Ok g N m) (hy : yd < 2) (h : gl f g N yd p = some q) (h' : gl f g N yd p' = some q) : p = p' := by
  have a := gl_some k hy h
  have b := gl_some k hy h'
  have hN := k.1
  exact kf.2.2.2.2.2.2.1 yd p p' hy (by omega) (by omega) a.2.2.1 (by omega)
theorem gl_sw {f g : Nat → Nat} {N yd p q : Nat} (hN : N ≤ 8) (hp : p < N) (hq : q < N) : gl (sw f yd p q) g N yd = fun r => gl f g N yd (tau p q r) := by
  funext r
  unfold gl
  by_cases c : r < N
  · rw [if_pos c, if_pos (tau_lt hp hq c), sw_ly (by omega) (by omega) (by omega), if_pos rfl]
  · have : tau p q r = r := by unfold tau; rw [if_neg (by omega), if_neg (by omega)]
    rw [this, if_neg c, if_neg c]
theorem lpO {β : Type} {L : Nat → Int32 → Option β} {P : Nat → Bool} {n : Nat} {z : Option β} {g : Nat → Option β} (hx : ∀ k, L (k + 1) (nI n) = z) (hs : ∀ k i, i < n → L (k + 1) (nI i) = if P i then g i else L k (nI (i + 1))) : ∀ (m i k : Nat), i + m = n → m < k → L k (nI i) = match fnd P m i with | none => z | some p => g p
  | 0, i, k, hi, hk => by
    have e : i = n := by omega
    subst e
    cases k with
    | zero => omega
    | succ k => exact hx k
  | m + 1, i, k, hi, hk => by
    cases k with
    | zero => omega
    | succ k =>
      rw [hs k i (by omega), fnd]
      by_cases c : P i = true
      · rw [if_pos c, if_pos c]
      · rw [if_neg c, if_neg c]; exact lpO hx hs m (i + 1) k (by omega) (by omega)
/-- not the same lie here -/
def nsl (f g : Nat → Nat) (N yd r : Nat) : Bool := (!(ly f yd r == 0) && (gl f g N yd r == none)) || (!(ly g yd r == 0) && (gl g f N yd r == none))
section GL
variable {y d : OS} {f g : Nat → Nat} {N t m t' m' yd : Nat}
theorem gl_b {f g : Nat → Nat} {N m yd r : Nat} (k : Ok g N m) (hy : yd < 2) : ∀ p, gl f g N yd r = some p → p < 2 ^ 31 := fun p h => by have := (gl_some k hy h).2.1; have := k.1; omega
theorem y_goal (h : RY y f N t) (kf : Ok f N m) (h' : RY d g N t') (kg : Ok g N m') (hy : yd < 2) {r : Nat} (hr : r < N) : fX3_goalOf y d (nI yd) (nI r) = some (rI (gl f g N yd r)) := by
  have hN := kf.1
  have hl := kf.lt hy (show r < 8 by omega)
  rw [fX3_goalOf, y_who h kf hy (by omega), bs]
  unfold gl
  rw [if_pos hr]
  by_cases c : ly f yd r = 0
  · rw [ifT ((wI_m4 (by omega)).mpr c), if_pos c]; rfl
  · rw [ifF (fun e => c ((wI_m4 (by omega)).mp e)), if_neg c]
    obtain ⟨w, hw⟩ : ∃ w, ly f yd r = w + 1 := ⟨ly f yd r - 1, by omega⟩
    rw [hw, wI_s, y_place h' kg hy (by omega), bs]; rfl
theorem y_same (h : RY y f N t) (kf : Ok f N m) (h' : RY d g N t') (kg : Ok g N m') (hy : yd < 2) : fX3_sameLie y d (nI yd) = match fnd (nsl f g N yd) N 0 with | none => some 1 | some _ => some 0 := by
  have hN := kf.1
  rw [fX3_sameLie]
  refine lpO (L := fun k i => fX3_sameLie_L2 y d (nI yd) k i) (P := nsl f g N yd) (n := N) (z := some 1) (g := fun _ => some 0) (fun j => ?_) (fun j r hr => ?_) N 0 FU (by omega) (FU_gt (by omega))
  · show fX3_sameLie_L2 y d (nI yd) (j + 1) (nI N) = _
    rw [fX3_sameLie_L2, h.1, ifT ((nI_leI (by omega) (by omega)).mpr (Nat.le_refl _))]
  · show fX3_sameLie_L2 y d (nI yd) (j + 1) (nI r) = _
    have hl := kf.lt hy (show r < 8 by omega)
    have hl' := kg.lt hy (show r < 8 by omega)
    rw [fX3_sameLie_L2, h.1, ifF (by rw [nI_leI (by omega) (by omega)]; omega), y_who h kf hy (by omega), y_who h' kg hy (by omega), y_goal h kf h' kg hy hr, y_goal h' kg h kf hy hr, show nI r + 1 = nI (r + 1) from nI_add r 1]
    simp only [bs, wI_m4 (show ly f yd r < 2 ^ 31 by omega), wI_m4 (show ly g yd r < 2 ^ 31 by omega), rI_m4 (gl_b kg hy), rI_m4 (gl_b kf hy)]
    unfold nsl
    by_cases c1 : ly f yd r = 0 <;> by_cases c2 : ly g yd r = 0 <;> by_cases c3 : gl f g N yd r = none <;> by_cases c4 : gl g f N yd r = none <;> simp [c1, c2, c3, c4]
theorem y_lowL (h : RY y f N t) (kf : Ok f N m) (h' : RY d g N t') (kg : Ok g N m') (hy : yd < 2) {r : Nat} (hr : r < N) : ∀ (j i u : Nat) (x : Option Nat), i + j = N → j < u → (∀ s, x = some s → s < N) → fX3_isLowestOfRing_L12 y d (nI yd) (nI r) u (rI x) (nI i) = some (b01 (lw (gl f g N yd) j x r))
  | 0, i, u, x, hi, hu, hx => by
    have hN := kf.1
    cases u with
    | zero => omega
    | succ u =>
      rw [fX3_isLowestOfRing_L12, h.1, ifT ((nI_leI (by omega) (by omega)).mpr (by omega))]
      show _ = some (b01 (x == some r))
      have hb : ∀ p, x = some p → p < 2 ^ 31 := fun p hp => by have := hx p hp; omega
      by_cases c : x = some r
      · subst c; rw [ifT (show rI (some r) = nI r from rfl)]; simp; rfl
      · rw [ifF (show ¬ rI x = nI r from fun e => c ((rI_inj (b := some r) hb (fun p hp => by cases hp; omega)).mp e)), beq_false_of_ne c]; rfl
  | j + 1, i, u, x, hi, hu, hx => by
    have hN := kf.1
    cases u with
    | zero => omega
    | succ u =>
      rw [fX3_isLowestOfRing_L12, h.1, ifF (by rw [nI_leI (by omega) (by omega)]; omega)]
      cases x with
      | none =>
        rw [ifT (show rI none ≤ nI r from Int32.le_of_lt (m4lt (by omega))), ifF (show ¬ rI none = nI r from fun e => m4T (show r < 2 ^ 31 by omega) e.symm)]; rfl
      | some s =>
        have hs := hx s rfl
        show (if nI s ≤ nI r then (if nI s = nI r then some 1 else some 0) else _) = some (b01 (if r < s then lw (gl f g N yd) j (gl f g N yd s) r else s == r))
        by_cases c : r < s
        · rw [ifF (by rw [nI_leI (by omega) (by omega)]; omega), if_pos c]
          show (fX3_goalOf y d (nI yd) (nI s)).bind _ = _
          rw [y_goal h kf h' kg hy hs, bs, show nI i + 1 = nI (i + 1) from nI_add i 1]
          exact y_lowL h kf h' kg hy hr j (i + 1) u _ (by omega) (by omega) (fun q hq => (gl_some kg hy hq).2.1)
        · rw [ifT ((nI_leI (by omega) (by omega)).mpr (by omega)), if_neg c]
          by_cases c2 : s = r
          · rw [c2, ifT rfl]; simp; rfl
          · rw [ifF (fun e => c2 ((nI_eq (by omega) (by omega)).mp e)), beq_false_of_ne c2]; rfl
theorem y_few (h : RY y f N t) (kf : Ok f N m) (h' : RY d g N t') (kg : Ok g N m') (hy : yd < 2) : fX3_fewestChanges_L17 y d (nI yd) FU 0 0 = some (nI (cnt (uc (gl f g N yd) N) N)) := by
  have hN := kf.1
  rw [← sm_cnt]
  refine lpN (L := fun k a i => fX3_fewestChanges_L17 y d (nI yd) k a i) (n := N) (g := fun r => if uc (gl f g N yd) N r then 1 else 0) (fin := fun a => some a) (fun j a => ?_) (fun j r a hr => ?_) N 0 FU (by omega) (FU_gt (by omega))
  · show fX3_fewestChanges_L17 y d (nI yd) (j + 1) a (nI N) = _
    rw [fX3_fewestChanges_L17, h.1, ifT ((nI_leI (by omega) (by omega)).mpr (Nat.le_refl _))]
  · show fX3_fewestChanges_L17 y d (nI yd) (j + 1) (nI a) (nI r) = _
    rw [fX3_fewestChanges_L17, h.1, ifF (by rw [nI_leI (by omega) (by omega)]; omega), y_goal h kf h' kg hy hr, bs, show nI r + 1 = nI (r + 1) from nI_add r 1, show nI a + 1 = nI (a + 1) from nI_add a 1]
    have hL : fX3_isLowestOfRing y d (nI yd) (nI r) = some (b01 (lw (gl f g N yd) N (gl f g N yd r) r)) := by
      rw [fX3_isLowestOfRing, y_goal h kf h' kg hy hr, bs]
      exact y_lowL h kf h' kg hy hr N 0 FU _ (by omega) (FU_gt (by omega)) (fun q hq => (gl_some kg hy hq).2.1)
    rw [hL, bs]
    by_cases c : gl f g N yd r = none
    · rw [ifT ((rI_m4 (gl_b kg hy)).mpr c), uc_f (Or.inl c)]; rfl
    · rw [ifF (fun e => c ((rI_m4 (gl_b kg hy)).mp e))]
      by_cases c2 : gl f g N yd r = some r
      · rw [ifT (by rw [c2]; rfl), uc_f (Or.inr c2)]; rfl
      · rw [ifF (show ¬ rI (gl f g N yd r) = nI r from fun e => c2 ((rI_inj (b := some r) (gl_b kg hy) (fun p hp => by cases hp; omega)).mp e)), uc_t c c2]
        cases lw (gl f g N yd) N (gl f g N yd r) r with
        | true => rw [ibt]; rfl
        | false => rw [ibf]; rfl
end GL
theorem m_mendL {S0 : OS} {g : Nat → Nat} {N m yd : Nat} (kg : Ok g N m) (hy : yd < 2) : ∀ (j p u : Nat), p + j = N → j < u → ∀ (a : Nat) (f : Nat → Nat) (S : OS) (mf : Nat), Ok f N mf → RS S 9 f → RS S 8 g → S 0 0 = nI N → (∀ r, r < N → ly f yd r ≠ 0 → gl f g N yd r ≠ none) → (∀ r, r < p → gl f g N yd r = none ∨ gl f g N yd r = some r) → ∃ S', fX5_mend_L111 (nI yd) u (nI a) (nI p) S = some (nI (a + cnt (uc (gl f g N yd) N) N), S') ∧ Eo S S' 9
  | 0, p, u, hj, hu, a, f, S, mf, kf, h9, h8, h0, hc, hs => by
    have hN := kg.1
    cases u with
    | zero => omega
    | succ u =>
      refine ⟨S, ?_, Eo.rf⟩
      rw [fX5_mend_L111, h0, ifT ((nI_leI (by omega) (by omega)).mpr (by omega)), mend_none (fun r hr => hs r (by omega))]; rfl
  | j + 1, p, u, hj, hu, a, f, S, mf, kf, h9, h8, h0, hc, hs => by
    have hN := kg.1
    cases u with
    | zero => omega
    | succ u =>
      have ih := m_mendL (S0 := S0) kg hy j (p + 1) u (by omega) (by omega)
      have hl' := kg.lt hy (show p < 8 by omega)
      have inner : ∀ (c w : Nat), c < w → ∀ (a : Nat) (f : Nat → Nat) (S : OS) (mf : Nat), Ok f N mf → RS S 9 f → RS S 8 g → S 0 0 = nI N → (∀ r, r < N → ly f yd r ≠ 0 → gl f g N yd r ≠ none) → (∀ r, r < p → gl f g N yd r = none ∨ gl f g N yd r = some r) → cnt (uc (gl f g N yd) N) N = c → ∃ S', fX5_mend_L135 (fun kv2_111 kv3_111 kS_111 => fX5_mend_L111 (nI yd) u kv2_111 kv3_111 kS_111) (nI yd) (nI p) w (nI a) (nI (ly f yd p)) S = some (nI (a + cnt (uc (gl f g N yd) N) N), S') ∧ Eo S S' 9 := by
        intro c
        induction c with
        | zero =>
          intro w hw a f S mf kf h9 h8 h0 hc hs hcn
          have hl := kf.lt hy (show p < 8 by omega)
          cases w with
          | zero => omega
          | succ w =>
            rw [fX5_mend_L135, ixL, gib (by omega) (by decide), nI_clamp (by omega), h8 _ (by omega), show g (37 + (yd * 8 + p)) = ly g yd p from rfl, show nI p + 1 = nI (p + 1) from nI_add p 1]
            by_cases c0 : ly f yd p = 0
            · rw [ifT (by rw [c0]; rfl)]
              exact ih a f S mf kf h9 h8 h0 hc (fun r hr => by
                rcases Nat.lt_or_ge r p with q | q
                · exact hs r q
                · have : r = p := by omega
                  subst this
                  exact Or.inl (by unfold gl; rw [if_pos (by omega), if_pos c0]))
            · rw [ifF (show ¬ nI (ly f yd p) = 0 from fun e => c0 ((nI_eq (b := 0) (by omega) (by omega)).mp e))]
              cases e : gl f g N yd p with
              | none => exact absurd e (hc p (by omega) c0)
              | some q =>
                have hq := gl_some kg hy e
                by_cases c1 : q = p
                · subst c1
                  rw [ifT (by rw [hq.2.2.2])]
                  exact ih a f S mf kf h9 h8 h0 hc (fun r hr => by
                    rcases Nat.lt_or_ge r q with z | z
                    · exact hs r z
                    · have : r = q := by omega
                      subst this
                      exact Or.inr e)
                · have := mend_step (G := gl f g N yd) (n := N) (fun a b h => ⟨(gl_some kg hy h).1, (gl_some kg hy h).2.1⟩) (fun a b d h h' => gl_inj kf kg hy h h') hs e c1
                  omega
        | succ c ihc =>
          intro w hw a f S mf kf h9 h8 h0 hc hs hcn
          have hl := kf.lt hy (show p < 8 by omega)
          cases w with
          | zero => omega
          | succ w =>
            rw [fX5_mend_L135, ixL, gib (by omega) (by decide), nI_clamp (by omega), h8 _ (by omega), show g (37 + (yd * 8 + p)) = ly g yd p from rfl, show nI p + 1 = nI (p + 1) from nI_add p 1]
            by_cases c0 : ly f yd p = 0
            · rw [ifT (by rw [c0]; rfl)]
              exact ih a f S mf kf h9 h8 h0 hc (fun r hr => by
                rcases Nat.lt_or_ge r p with q | q
                · exact hs r q
                · have : r = p := by omega
                  subst this
                  exact Or.inl (by unfold gl; rw [if_pos (by omega), if_pos c0]))
            · rw [ifF (show ¬ nI (ly f yd p) = 0 from fun e => c0 ((nI_eq (b := 0) (by omega) (by omega)).mp e))]
              cases e : gl f g N yd p with
              | none => exact absurd e (hc p (by omega) c0)
              | some q =>
                have hq := gl_some kg hy e
                by_cases c1 : q = p
                · subst c1
                  rw [ifT (by rw [hq.2.2.2])]
                  exact ih a f S mf kf h9 h8 h0 hc (fun r hr => by
                    rcases Nat.lt_or_ge r q with z | z
                    · exact hs r z
                    · have : r = q := by omega
                      subst this
                      exact Or.inr e)
                · have st := mend_step (G := gl f g N yd) (n := N) (fun a b h => ⟨(gl_some kg hy h).1, (gl_some kg hy h).2.1⟩) (fun a b d h h' => gl_inj kf kg hy h h') hs e c1
                  have ne : ¬ nI (ly f yd p) = nI (ly g yd p) := by
                    intro z
                    have z := (nI_eq (by omega) (by omega)).mp z
                    have e3 : pin g yd (ly f yd p - 1) = some q := by
                      have := e; unfold gl at this; rw [if_pos (by omega), if_neg c0] at this; exact this
                    rw [z, pin_q kg hy (by omega) (by omega)] at e3
                    cases e3; exact c1 rfl
                  have e3 : pin g yd (ly f yd p - 1) = some q := by
                    have := e; unfold gl at this; rw [if_pos (by omega), if_neg c0] at this; exact this
                  obtain ⟨S2, d2, s2, o2⟩ := m_changes (S := S) (c := 9) (f := f) (yd := yd) (p := p) (q := q) h9 rfl hy (by omega) (by omega)
                  have kk := sw_ok kf hy (show p < N by omega) hq.2.1
                  have gs := gl_sw (f := f) (g := g) (yd := yd) hN.2 (show p < N by omega) hq.2.1
                  obtain ⟨S3, d3, o3⟩ := ihc w (by omega) (a + 1) (sw f yd p q) S2 mf kk s2 (h8.eo o2 (by decide)) (by rw [o2 0 (by decide)]; exact h0) (fun r hr hne => by
                      rw [gs]
                      rw [sw_ly (by omega) (by omega) (by omega), if_pos rfl] at hne
                      exact hc _ (tau_lt (by omega) hq.2.1 hr) hne) (fun r hr => by
                      rw [gs]
                      show gl f g N yd (tau p q r) = none ∨ gl f g N yd (tau p q r) = some r
                      by_cases tr : r = q
                      · subst tr
                        have : tau p r r = p := by unfold tau; rw [if_pos rfl]
                        rw [this]; exact Or.inr e
                      have : tau p q r = r := by unfold tau; rw [if_neg tr, if_neg (by omega)]
                      rw [this]; exact hs r hr) (by rw [gs]; omega)
                  refine ⟨S3, ?_, o2.tr o3⟩
                  rw [ifF ne, show nI (ly f yd p) - 1 = nI (ly f yd p - 1) from pk_sub (b := 1) (by omega), m_plotIn h8 rfl kg hy (by omega), e3, bs]
                  show (fX5_changes S 9 (nI yd) (nI p) (nI q)).bind _ = _
                  rw [d2, bs, gib (by omega) (by decide), s2 _ (by omega), show nI a + 1 = nI (a + 1) from nI_add a 1]
                  rw [gs] at d3
                  rw [show a + cnt (uc (gl f g N yd) N) N = a + 1 + cnt (uc (fun r => gl f g N yd (tau p q r)) N) N by omega]
                  exact d3
      have hcl := cnt_le (uc (gl f g N yd) N) N
      obtain ⟨S', e, o1⟩ := inner _ FU (FU_gt (by omega)) a f S mf kf h9 h8 h0 hc hs rfl
      refine ⟨S', ?_, o1⟩
      rw [fX5_mend_L111, h0, ifF (by rw [nI_leI (by omega) (by omega)]; omega), ixL, gib (by omega) (by decide), nI_clamp (by omega), h9 _ (by omega)]
      exact e
theorem op_mend {Y : YS} {o S : OS} (h : Inv Y o S) (x : Int32) : OpW (fX4_mend Y o x) (fX5_mend S x) := by
  obtain ⟨f, N, t, P, K, Z, X, hC, hM, hG⟩ := id h
  have c1 := hC.1
  have m1 := hM.1
  have g1 := hG.1
  have hN := g1.1
  rw [fX4_mend, fX5_mend, c_isSide, m_in, bs, bs, show (0 : Int32).toInt = 0 from rfl, show (1 : Int32).toInt = 1 from rfl]
  cases hx : iL x 0 1 with
  | false => exact ⟨_, _, _, _, rfl, rfl, h⟩
  | true =>
    obtain ⟨yd, -, hy, rfl⟩ := iL_b (lo := 0) (hi := 1) (by decide) hx
    have hy : yd < 2 := by omega
    obtain ⟨Y', e1, a1, r1⟩ := c_lbr (o := o) c1 g1 (by decide)
    obtain ⟨S', e2, s8, s9, so⟩ := m_byRight m1 hM.2.1 g1.b
    have ka := okb_an g1.b
    have r0 : RY (Y' 0) f N t := by rw [a1 0 (by decide)]; exact c1
    have h0 : S' 0 0 = nI N := by rw [so 0 (by decide) (by decide)]; exact hM.2.1
    have L21 : fX5_mend_L21 S' (nI yd) FU 0 = match fnd (nsl f (an f N) N yd) N 0 with | none => fX5_mend_L111 (nI yd) FU 0 0 S' | some _ => some (-4, S') := by
      refine lpO (L := fun k i => fX5_mend_L21 S' (nI yd) k i) (P := nsl f (an f N) N yd) (n := N) (z := fX5_mend_L111 (nI yd) FU 0 0 S') (g := fun _ => some (-4, S')) (fun j => ?_) (fun j r hr => ?_) N 0 FU (by omega) (FU_gt (by omega))
      · show fX5_mend_L21 S' (nI yd) (j + 1) (nI N) = _
        rw [fX5_mend_L21, h0, ifT ((nI_leI (by omega) (by omega)).mpr (Nat.le_refl _))]
      · show fX5_mend_L21 S' (nI yd) (j + 1) (nI r) = _
        have hl := g1.lt hy (show r < 8 by omega)
        have hl' := ka.1.lt hy (show r < 8 by omega)
        rw [fX5_mend_L21, h0, ifF (by rw [nI_leI (by omega) (by omega)]; omega), ixL, gib (by omega) (by decide), gib (by omega) (by decide), nI_clamp (by omega), s9 _ (by omega), s8 _ (by omega), show f (37 + (yd * 8 + r)) = ly f yd r from rfl, show an f N (37 + (yd * 8 + r)) = ly (an f N) yd r from rfl, show nI r + 1 = nI (r + 1) from nI_add r 1]
        have z1 : ∀ {k : Nat}, k < 2 ^ 31 → ((nI k = 0) ↔ k = 0) := fun hk => nI_eq (b := 0) hk (by omega)
        simp only [z1 (show ly f yd r < 2 ^ 31 by omega), z1 (show ly (an f N) yd r < 2 ^ 31 by omega)]
        have p8 : ly f yd r ≠ 0 → fX5_plotIn S' 8 (nI yd) (nI (ly f yd r) - 1) = some (rI (gl f (an f N) N yd r)) := fun hz => by
          rw [show nI (ly f yd r) - 1 = nI (ly f yd r - 1) from pk_sub (b := 1) (by omega), m_plotIn s8 rfl ka.1 hy (by omega)]
          unfold gl; rw [if_pos hr, if_neg hz]
        have p9 : ly (an f N) yd r ≠ 0 → fX5_plotIn S' 9 (nI yd) (nI (ly (an f N) yd r) - 1) = some (rI (gl (an f N) f N yd r)) := fun hz => by
          rw [show nI (ly (an f N) yd r) - 1 = nI (ly (an f N) yd r - 1) from pk_sub (b := 1) (by omega), m_plotIn s9 rfl g1 hy (by omega)]
          unfold gl; rw [if_pos hr, if_neg hz]
        unfold nsl
        by_cases k1 : ly f yd r = 0
        · by_cases k2 : ly (an f N) yd r = 0
          · simp [k1, k2]
          · rw [p9 k2]
            simp only [bs, rI_pos (gl_b g1 hy)]
            by_cases k4 : gl (an f N) f N yd r = none <;> simp [k1, k2, k4]
        · rw [p8 k1]
          simp only [bs, rI_neg (gl_b ka.1 hy)]
          by_cases k2 : ly (an f N) yd r = 0
          · by_cases k3 : gl f (an f N) N yd r = none <;> simp [k1, k2, k3]
          · rw [p9 k2]
            simp only [bs, rI_pos (gl_b g1 hy)]
            by_cases k3 : gl f (an f N) N yd r = none <;> by_cases k4 : gl (an f N) f N yd r = none <;> simp [k1, k2, k3, k4]
    rw [ibt, ibt, e1, bs, e2, bs]
    show OpW ((fX3_fewestChanges (Y' 0) (Y' 1) (nI yd)).bind _) _
    rw [fX3_fewestChanges, y_same r0 g1 r1 ka.1 hy, L21]
    cases q : fnd (nsl f (an f N) N yd) N 0 with
    | some r =>
      refine ⟨-4, Y', o, S', rfl, rfl, Inv.sc hC hM hG (fun i h1 h2 => a1 i h1) (fun _ _ => rfl) rfl (fun c h1 h2 => so c (by omega) (by omega)) (fun k _ => by rw [so 0 (by decide) (by decide)])⟩
    | none =>
      have hn := (fnd_no N 0).mp q
      obtain ⟨S2, d2, o2⟩ := m_mendL (S0 := S') ka.1 hy N 0 FU (by omega) (FU_gt (by omega)) 0 f S' (f 0) g1 s9 s8 h0 (fun r hr hz hg => by
        have := hn r (by omega) (by omega)
        unfold nsl at this
        simp [hz, hg] at this) (fun r hr => by omega)
      refine ⟨nI (cnt (uc (gl f (an f N) N yd) N) N), Y', o, S2, ?_, ?_, Inv.sc hC hM hG (fun i h1 h2 => a1 i h1) (fun _ _ => rfl) rfl (fun c h1 h2 => by rw [o2 c (by omega)]; exact so c (by omega) (by omega)) (fun k _ => by rw [o2 0 (by decide), so 0 (by decide) (by decide)])⟩
      · show ((some (1 : Int32)).bind _).bind _ = _
        rw [bs, ifF (show ¬ (1 : Int32) = 0 by decide), y_few r0 g1 r1 ka.1 hy]; rfl
      · show fX5_mend_L111 (nI yd) FU 0 0 S' = _
        have := d2
        rw [Nat.zero_add] at this
        exact this
