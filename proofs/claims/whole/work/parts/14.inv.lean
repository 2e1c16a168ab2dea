/-! copyFrom -/
theorem vu_s {α : Type} (f : Nat → α) (k : Nat) (v : α) : va_up f k v k = v := if_pos rfl
theorem vu_n {α : Type} {f : Nat → α} {k j : Nat} {v : α} (h : j ≠ k) : va_up f k v j = f j := if_neg h
theorem vu_u {α : Type} (f : Nat → α) (k : Nat) (v w : α) : va_up (va_up f k v) k w = va_up f k w := bx_uu f k v w
section CF
variable {o : OS} {i0 i1 : Nat}
theorem cf3 (hne : i1 ≠ i0) : ∀ (j i u : Nat) (Y : YS), i + j = 6 → j < u → ∃ Y', fX3_copyFrom_L110 i0 i1 u (nI i) Y o = some (Y', o) ∧ (∀ x, x ≠ i0 → Y' x = Y x) ∧ (∀ c, c ≠ 5 → c ≠ 6 → Y' i0 c = Y i0 c) ∧ (∀ k, i ≤ k → k < 6 → Y' i0 5 k = Y i1 5 k ∧ Y' i0 6 k = Y i1 6 k) ∧ (∀ k, k < i → Y' i0 5 k = Y i0 5 k ∧ Y' i0 6 k = Y i0 6 k)
  | 0, i, u, Y, hi, hu => by
    cases u with
    | zero => omega
    | succ u => exact ⟨Y, by rw [fX3_copyFrom_L110, ifT (by rw [show i = 6 by omega]; decide)], fun _ _ => rfl, fun _ _ _ => rfl, fun k h1 h2 => by omega, fun _ _ => ⟨rfl, rfl⟩⟩
  | j + 1, i, u, Y, hi, hu => by
    cases u with
    | zero => omega
    | succ u =>
      obtain ⟨Y', e, h1, h2, h3, h4⟩ := cf3 hne j (i + 1) u (va_up Y i0 (u2 (u2 (Y i0) 5 i (Y i1 5 i)) 6 i (Y i1 6 i))) (by omega) (by omega)
      refine ⟨Y', ?_, fun x hx => by rw [h1 x hx, vu_n hx], fun c a b => by rw [h2 c a b, vu_s, u2_ne b, u2_ne a], fun k a b => ?_, fun k a => ?_⟩
      · rw [fX3_copyFrom_L110, ifF (by rw [show (6 : Int32) = nI 6 from rfl, nI_leI (by decide) (by omega)]; omega), gib (by omega) (by decide), gib (by omega) (by decide), gib (by omega) (by decide), gib (by omega) (by decide), nI_clamp (by omega), show nI i + 1 = nI (i + 1) from nI_add i 1]
        simp only [vu_s, vu_n hne, vu_u]
        exact e
      · by_cases c : k = i
        · subst c
          rw [(h4 k (by omega)).1, (h4 k (by omega)).2, vu_s, u2_eq, upd_s, u2_ne (by decide), u2_eq, upd_s]; exact ⟨rfl, rfl⟩
        · rw [(h3 k (by omega) b).1, (h3 k (by omega) b).2, vu_n hne]; exact ⟨rfl, rfl⟩
      · refine ⟨?_, ?_⟩
        · rw [(h4 k (by omega)).1, vu_s, u2_ne (by decide), u2_eq, upd_n (by omega)]
        · rw [(h4 k (by omega)).2, vu_s, u2_eq, upd_n (by omega), u2_ne (by decide)]
theorem cf2 (hne : i1 ≠ i0) : ∀ (j i u : Nat) (Y : YS), i + j = 16 → j < u → ∃ Y1, fX3_copyFrom_L84 i0 i1 u (nI i) Y o = fX3_copyFrom_L110 i0 i1 FU 0 Y1 o ∧ (∀ x, x ≠ i0 → Y1 x = Y x) ∧ (∀ c, c ≠ 4 → Y1 i0 c = Y i0 c) ∧ (∀ k, i ≤ k → k < 16 → Y1 i0 4 k = Y i1 4 k) ∧ (∀ k, k < i → Y1 i0 4 k = Y i0 4 k)
  | 0, i, u, Y, hi, hu => by
    cases u with
    | zero => omega
    | succ u => exact ⟨Y, by rw [fX3_copyFrom_L84, ifT (by rw [show i = 16 by omega]; decide)], fun _ _ => rfl, fun _ _ => rfl, fun k h1 h2 => by omega, fun _ _ => rfl⟩
  | j + 1, i, u, Y, hi, hu => by
    cases u with
    | zero => omega
    | succ u =>
      obtain ⟨Y', e, h1, h2, h3, h4⟩ := cf2 hne j (i + 1) u (va_up Y i0 (u2 (Y i0) 4 i (Y i1 4 i))) (by omega) (by omega)
      refine ⟨Y', ?_, fun x hx => by rw [h1 x hx, vu_n hx], fun c a => by rw [h2 c a, vu_s, u2_ne a], fun k a b => ?_, fun k a => by rw [h4 k (by omega), vu_s, u2_eq, upd_n (by omega)]⟩
      · rw [fX3_copyFrom_L84, ifF (by rw [show (16 : Int32) = nI 16 from rfl, nI_leI (by decide) (by omega)]; omega), gib (by omega) (by decide), gib (by omega) (by decide), nI_clamp (by omega), show nI i + 1 = nI (i + 1) from nI_add i 1]
        exact e
      · by_cases c : k = i
        · subst c; rw [h4 k (by omega), vu_s, u2_eq, upd_s]
        · rw [h3 k (by omega) b, vu_n hne]
theorem cf1 (hne : i1 ≠ i0) : ∀ (j i u : Nat) (Y : YS), i + j = 12 → j < u → ∃ Y1, fX3_copyFrom_L34 i0 i1 u (nI i) Y o = fX3_copyFrom_L84 i0 i1 FU 0 Y1 o ∧ (∀ x, x ≠ i0 → Y1 x = Y x) ∧ (∀ c, c ≠ 1 → c ≠ 2 → c ≠ 3 → Y1 i0 c = Y i0 c) ∧ (∀ c k, 1 ≤ c → c ≤ 3 → i ≤ k → k < 12 → Y1 i0 c k = Y i1 c k) ∧ (∀ c k, 1 ≤ c → c ≤ 3 → k < i → Y1 i0 c k = Y i0 c k)
  | 0, i, u, Y, hi, hu => by
    cases u with
    | zero => omega
    | succ u => exact ⟨Y, by rw [fX3_copyFrom_L34, ifT (by rw [show i = 12 by omega]; decide)], fun _ _ => rfl, fun _ _ _ _ => rfl, fun c k _ _ h1 h2 => by omega, fun _ _ _ _ _ => rfl⟩
  | j + 1, i, u, Y, hi, hu => by
    cases u with
    | zero => omega
    | succ u =>
      obtain ⟨Y', e, h1, h2, h3, h4⟩ := cf1 hne j (i + 1) u (va_up Y i0 (u2 (u2 (u2 (Y i0) 1 i (Y i1 1 i)) 2 i (Y i1 2 i)) 3 i (Y i1 3 i))) (by omega) (by omega)
      have key : ∀ c, 1 ≤ c → c ≤ 3 → u2 (u2 (u2 (Y i0) 1 i (Y i1 1 i)) 2 i (Y i1 2 i)) 3 i (Y i1 3 i) c = upd (Y i0 c) i (Y i1 c i) := by
        intro c a b
        rcases (show c = 1 ∨ c = 2 ∨ c = 3 by omega) with rfl | rfl | rfl
        · rw [u2_ne (by decide), u2_ne (by decide), u2_eq]
        · rw [u2_ne (by decide), u2_eq, u2_ne (by decide)]
        · rw [u2_eq, u2_ne (by decide), u2_ne (by decide)]
      refine ⟨Y', ?_, fun x hx => by rw [h1 x hx, vu_n hx], fun c a b d => by rw [h2 c a b d, vu_s, u2_ne d, u2_ne b, u2_ne a], fun c k c1 c3 a b => ?_, fun c k c1 c3 a => by rw [h4 c k c1 c3 (by omega), vu_s, key c c1 c3, upd_n (by omega)]⟩
      · rw [fX3_copyFrom_L34, ifF (by rw [show (12 : Int32) = nI 12 from rfl, nI_leI (by decide) (by omega)]; omega), gib (by omega) (by decide), gib (by omega) (by decide), gib (by omega) (by decide), gib (by omega) (by decide), gib (by omega) (by decide), gib (by omega) (by decide), nI_clamp (by omega), show nI i + 1 = nI (i + 1) from nI_add i 1]
        simp only [vu_s, vu_n hne, vu_u]
        exact e
      · by_cases cc : k = i
        · subst cc; rw [h4 c k c1 c3 (by omega), vu_s, key c c1 c3, upd_s]
        · rw [h3 c k c1 c3 (by omega) b, vu_n hne]
theorem copyF {Y : YS} (hne : i1 ≠ i0) : ∃ Y', fX3_copyFrom Y o i0 i1 = some (Y', o) ∧ (∀ x, x ≠ i0 → Y' x = Y x) ∧ (∀ k, k < 4 → Y' i0 0 k = Y i1 0 k) ∧ (∀ c k, 1 ≤ c → c ≤ 3 → k < 12 → Y' i0 c k = Y i1 c k) ∧ (∀ k, k < 16 → Y' i0 4 k = Y i1 4 k) ∧ (∀ k, k < 6 → Y' i0 5 k = Y i1 5 k ∧ Y' i0 6 k = Y i1 6 k) := by
  rw [fX3_copyFrom]
  simp only [vu_s, vu_n hne, vu_u]
  obtain ⟨Y1, e1, a1, a2, a3, a4⟩ := cf1 (o := o) hne 12 0 FU (va_up Y i0 (u2 (u2 (u2 (u2 (Y i0) 0 0 (Y i1 0 0)) 0 1 (Y i1 0 1)) 0 2 (Y i1 0 2)) 0 3 (Y i1 0 3))) (by omega) (FU_gt (by omega))
  obtain ⟨Y2, e2, b1, b2, b3, b4⟩ := cf2 (o := o) hne 16 0 FU Y1 (by omega) (FU_gt (by omega))
  obtain ⟨Y3, e3, d1, d2, d3, d4⟩ := cf3 (o := o) hne 6 0 FU Y2 (by omega) (FU_gt (by omega))
  have k1 : Y1 i1 = Y i1 := by rw [a1 i1 hne, vu_n hne]
  have k2 : Y2 i1 = Y i1 := by rw [b1 i1 hne, k1]
  refine ⟨Y3, e1.trans (e2.trans e3), fun x hx => by rw [d1 x hx, b1 x hx, a1 x hx, vu_n hx], ?_, ?_, ?_, ?_⟩
  · intro k hk
    rw [d2 0 (by decide) (by decide), b2 0 (by decide), a2 0 (by decide) (by decide) (by decide), vu_s, u2_eq, u2_eq, u2_eq, u2_eq]
    rcases (show k = 0 ∨ k = 1 ∨ k = 2 ∨ k = 3 by omega) with rfl | rfl | rfl | rfl
    · rw [upd_n (by decide), upd_n (by decide), upd_n (by decide), upd_s]
    · rw [upd_n (by decide), upd_n (by decide), upd_s]
    · rw [upd_n (by decide), upd_s]
    · rw [upd_s]
  · intro c k c1 c3 hk
    rw [d2 c (by omega) (by omega), b2 c (by omega), a3 c k c1 c3 (by omega) hk, vu_n hne]
  · intro k hk
    rw [d2 4 (by decide) (by decide), b3 k (by omega) hk, k1]
  · intro k hk
    rw [(d3 k (by omega) hk).1, (d3 k (by omega) hk).2, k2]; exact ⟨rfl, rfl⟩
end CF
theorem RY.copy {y y' : OS} {f : Nat → Nat} {N t : Nat} (h : RY y f N t) (h12 : f 0 ≤ 12) (h6 : f 53 ≤ 6) (a : ∀ k, k < 4 → y' 0 k = y 0 k) (b : ∀ c k, 1 ≤ c → c ≤ 3 → k < 12 → y' c k = y c k) (d : ∀ k, k < 16 → y' 4 k = y 4 k) (e : ∀ k, k < 6 → y' 5 k = y 5 k ∧ y' 6 k = y 6 k) : RY y' f N t := by
  obtain ⟨h1, h2, h3, h4, h5, h7, h8⟩ := h
  refine ⟨by rw [a 0 (by omega)]; exact h1, by rw [a 1 (by omega)]; exact h2, by rw [a 2 (by omega)]; exact h3, by rw [a 3 (by omega)]; exact h4, fun i hi => ?_, fun k hk => by rw [d k hk]; exact h7 k hk, fun v hv => ?_⟩
  · rw [b 1 i (by omega) (by omega) (by omega), b 2 i (by omega) (by omega) (by omega), b 3 i (by omega) (by omega) (by omega)]; exact h5 i hi
  · rw [(e v (by omega)).1, (e v (by omega)).2]; exact h8 v hv
/-- copyFrom, with the row that it takes along -/
theorem copyR {Y : YS} {o : OS} {i0 i1 : Nat} {f : Nat → Nat} {N t m : Nat} (hne : i1 ≠ i0) (h : RY (Y i1) f N t) (k : Ok f N m) : ∃ Y', fX3_copyFrom Y o i0 i1 = some (Y', o) ∧ (∀ x, x ≠ i0 → Y' x = Y x) ∧ RY (Y' i0) f N t := by
  obtain ⟨Y', e, a, b1, b2, b3, b4⟩ := copyF (Y := Y) (o := o) hne
  exact ⟨Y', e, a, h.copy k.2.1 k.2.2.1 b1 b2 b3 b4⟩
/-! the invariant: f the row, N plots, t the truce; P those that can be undone, K those kept, Z what was seen, X the text -/
abbrev Tp : Type := Nat × (Nat → Nat → Nat)
abbrev Tz : Type := Nat × (Nat → Nat) × (Nat → Nat)
abbrev Tx : Type := Nat × (Nat → Nat)
def CP (Y : YS) (o : OS) (N t : Nat) (P : Tp) : Prop := o 13 0 = nI P.1 ∧ ∃ pr : Nat → Nat, (∀ j, j < 8 → o 14 j = nI (pr j) ∧ 3 ≤ pr j ∧ pr j < 11) ∧ (∀ i j, i < 8 → j < 8 → pr i = pr j → i = j) ∧ ∀ j, j < P.1 → RY (Y (pr j)) (P.2 j) N t
def CK (Y : YS) (o : OS) (N t : Nat) (K : Tp) : Prop := o 15 0 = nI K.1 ∧ o 16 0 = nI 11 ∧ o 16 1 = nI 12 ∧ ∀ j, j < K.1 → RY (Y (11 + j)) (K.2 j) N t
def CZ (o : OS) (Z : Tz) : Prop := o 0 9 = nI Z.1 ∧ ∀ j, j < Z.1 → o 1 j = nI (Z.2.1 j) ∧ o 2 j = nI (Z.2.2 j)
def CX (o : OS) (X : Tx) : Prop := o 3 0 = nI X.1 ∧ ∀ j, j < X.1 → o 4 j = nI (X.2 j)
def CI (Y : YS) (o : OS) (f : Nat → Nat) (N t : Nat) (P K : Tp) (Z : Tz) (X : Tx) : Prop := RY (Y 0) f N t ∧ CP Y o N t P ∧ CK Y o N t K ∧ CZ o Z ∧ CX o X
def MP (S : OS) (P : Tp) : Prop := S 0 3 = nI P.1 ∧ ∀ j k, j < P.1 → k < 66 → S 2 (66 * j + k) = nI (P.2 j k)
def MK (S : OS) (K : Tp) : Prop := S 0 5 = nI K.1 ∧ ∀ j k, j < K.1 → k < 66 → S 3 (66 * j + k) = nI (K.2 j k)
def MZ (S : OS) (Z : Tz) : Prop := S 0 7 = nI Z.1 ∧ ∀ j, j < Z.1 → S 4 (2 * j) = nI (Z.2.1 j) ∧ S 4 (2 * j + 1) = nI (Z.2.2 j)
def MX (S : OS) (X : Tx) : Prop := S 0 10 = nI X.1 ∧ ∀ j, j < X.1 → S 5 j = nI (X.2 j)
def MI (S : OS) (f : Nat → Nat) (N t : Nat) (P K : Tp) (Z : Tz) (X : Tx) : Prop := RS S 1 f ∧ S 0 0 = nI N ∧ S 0 1 = nI t ∧ MP S P ∧ MK S K ∧ MZ S Z ∧ MX S X
def GI (f : Nat → Nat) (N t : Nat) (P K : Tp) (Z : Tz) (X : Tx) : Prop := Ok f N (f 0) ∧ (1 ≤ t ∧ t ≤ 99) ∧ (P.1 ≤ 8 ∧ ∀ j, j < P.1 → Ok (P.2 j) N (P.2 j 0)) ∧ (K.1 ≤ 2 ∧ ∀ j, j < K.1 → Ok (K.2 j) N (K.2 j 0)) ∧ (Z.1 ≤ 8 ∧ ∀ j, j < Z.1 → Z.2.1 j < 12 ∧ Z.2.2 j < 8) ∧ (X.1 ≤ 200 ∧ ∀ j, j < X.1 → 32 ≤ X.2 j ∧ X.2 j ≤ 126)
def Inv (Y : YS) (o : OS) (S : OS) : Prop := ∃ (f : Nat → Nat) (N t : Nat) (P K : Tp) (Z : Tz) (X : Tx), CI Y o f N t P K Z X ∧ MI S f N t P K Z X ∧ GI f N t P K Z X
/-- the class's scratch does not matter -/
theorem CI.cg {Y Y' : YS} {o o' : OS} {f : Nat → Nat} {N t : Nat} {P K : Tp} {Z : Tz} {X : Tx} (h : CI Y o f N t P K Z X) (hY : ∀ i, i ≠ 1 → i ≠ 2 → Y' i = Y i) (ho : ∀ c, (c ≤ 2 ∨ c = 4 ∨ 13 ≤ c) → o' c = o c) (h3 : o' 3 0 = o 3 0) (hP : P.1 ≤ 8) : CI Y' o' f N t P K Z X := by
  obtain ⟨h1, ⟨p1, pr, p2, p3, p4⟩, ⟨k1, k2, k3, k4⟩, ⟨z1, z2⟩, ⟨x1, x2⟩⟩ := h
  refine ⟨by rw [hY 0 (by decide) (by decide)]; exact h1, ⟨by rw [ho 13 (by omega)]; exact p1, pr, fun j hj => by rw [ho 14 (by omega)]; exact p2 j hj, p3, fun j hj => ?_⟩, ⟨by rw [ho 15 (by omega)]; exact k1, by rw [ho 16 (by omega)]; exact k2, by rw [ho 16 (by omega)]; exact k3, fun j hj => by rw [hY _ (by omega) (by omega)]; exact k4 j hj⟩, ⟨by rw [ho 0 (by omega)]; exact z1, fun j hj => by rw [ho 1 (by omega), ho 2 (by omega)]; exact z2 j hj⟩, ⟨by rw [h3]; exact x1, fun j hj => by rw [ho 4 (by omega)]; exact x2 j hj⟩⟩
  have := p2 j (by omega)
  rw [hY _ (by omega) (by omega)]; exact p4 j hj
/-- the reference's scratch does not matter -/
theorem MI.cg {S S' : OS} {f : Nat → Nat} {N t : Nat} {P K : Tp} {Z : Tz} {X : Tx} (h : MI S f N t P K Z X) (hS : ∀ c, 1 ≤ c → c ≤ 5 → S' c = S c) (h0 : ∀ k, (k = 0 ∨ k = 1 ∨ k = 3 ∨ k = 5 ∨ k = 7 ∨ k = 10) → S' 0 k = S 0 k) : MI S' f N t P K Z X := by
  obtain ⟨h1, h2, h3, ⟨p1, p2⟩, ⟨k1, k2⟩, ⟨z1, z2⟩, ⟨x1, x2⟩⟩ := h
  refine ⟨fun j hj => by rw [hS 1 (by omega) (by omega)]; exact h1 j hj, by rw [h0 0 (by omega)]; exact h2, by rw [h0 1 (by omega)]; exact h3, ⟨by rw [h0 3 (by omega)]; exact p1, fun j k a b => by rw [hS 2 (by omega) (by omega)]; exact p2 j k a b⟩, ⟨by rw [h0 5 (by omega)]; exact k1, fun j k a b => by rw [hS 3 (by omega) (by omega)]; exact k2 j k a b⟩, ⟨by rw [h0 7 (by omega)]; exact z1, fun j a => by rw [hS 4 (by omega) (by omega)]; exact z2 j a⟩, ⟨by rw [h0 10 (by omega)]; exact x1, fun j a => by rw [hS 5 (by omega) (by omega)]; exact x2 j a⟩⟩
