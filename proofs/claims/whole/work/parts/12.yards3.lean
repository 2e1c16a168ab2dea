/-! writes of a Yards -/
theorem u2_ne {y : OS} {c c' i : Nat} {x : Int32} (h : c' ≠ c) : u2 y c i x c' = y c' := if_neg h
theorem u2_eq {y : OS} {c i : Nat} {x : Int32} : u2 y c i x c = upd (y c) i x := if_pos rfl
theorem upd_s {f : Nat → Int32} {k : Nat} {x : Int32} : upd f k x k = x := pk_us
theorem upd_n {f : Nat → Int32} {k j : Nat} {x : Int32} (h : j ≠ k) : upd f k x j = f j := pk_un h
def pt (f : Nat → Nat) (k v : Nat) : Nat → Nat := fun j => if j = k then v else f j
theorem pt_s (f : Nat → Nat) (k v : Nat) : pt f k v k = v := if_pos rfl
theorem pt_n {f : Nat → Nat} {k v j : Nat} (h : j ≠ k) : pt f k v j = f j := if_neg h
theorem ly_pt {f : Nat → Nat} {yd p w yd' p' : Nat} (hp : p < 8) (hp' : p' < 8) : ly (pt f (37 + (yd * 8 + p)) w) yd' p' = if yd' = yd ∧ p' = p then w else ly f yd' p' := by
  unfold ly pt
  by_cases c : yd' = yd ∧ p' = p
  · rw [if_pos c, if_pos (by rw [c.1, c.2])]
  · rw [if_neg c, if_neg (fun e => c ⟨by omega, by omega⟩)]
theorem RY.putw {y : OS} {f : Nat → Nat} {N t k w : Nat} (h : RY y f N t) (h12 : f 0 ≤ 12) (hk : k < 16) : RY (u2 y 4 k (wI w)) (pt f (37 + k) w) N t := by
  obtain ⟨h1, h2, h3, h4, h5, h6, h7⟩ := h
  have e0 : pt f (37 + k) w 0 = f 0 := pt_n (by omega)
  have e53 : pt f (37 + k) w 53 = f 53 := pt_n (by omega)
  refine ⟨by rw [u2_ne (by decide)]; exact h1, by rw [u2_ne (by decide)]; exact h2, by rw [u2_ne (by decide), e0]; exact h3, by rw [u2_ne (by decide), e53]; exact h4, ?_, ?_, ?_⟩
  · intro i hi
    rw [e0] at hi
    rw [u2_ne (by decide), u2_ne (by decide), u2_ne (by decide)]
    have := h5 i hi
    unfold vl kd fg at *
    rw [pt_n (by omega), pt_n (by omega), pt_n (by omega)]
    exact this
  · intro j hj
    rw [u2_eq]
    by_cases e : j = k
    · subst e; rw [upd_s, pt_s]
    · rw [upd_n e, pt_n (by omega)]; exact h6 j hj
  · intro v hv
    rw [e53] at hv
    rw [u2_ne (by decide), u2_ne (by decide), pt_n (by omega), pt_n (by omega)]
    exact h7 v hv
theorem Ok.put {f : Nat → Nat} {N m m' yd p w i : Nat} (k : Ok f N m) (hy : yd < 2) (hp : p < N) (h0 : ly f yd p = 0) (hm : m ≤ m') (hm' : m' ≤ f 0) (hi : i < m') (hw : (w = i + 1 ∧ vl f i = 1 - yd) ∨ (w = i + 21 ∧ vl f i = yd ∧ kd f i = 3)) (hu : ∀ p', p' < 8 → ly f yd p' ≠ w) : Ok (pt f (37 + (yd * 8 + p)) w) N m' := by
  obtain ⟨k1, k2, k3, k4, k5, k6, k7, k8⟩ := k
  have hp8 : p < 8 := by omega
  have e0 : pt f (37 + (yd * 8 + p)) w 0 = f 0 := pt_n (by omega)
  have e53 : pt f (37 + (yd * 8 + p)) w 53 = f 53 := pt_n (by omega)
  have ev : ∀ j, j < 12 → vl (pt f (37 + (yd * 8 + p)) w) j = vl f j ∧ kd (pt f (37 + (yd * 8 + p)) w) j = kd f j ∧ fg (pt f (37 + (yd * 8 + p)) w) j = fg f j := by
    intro j hj
    unfold vl kd fg
    rw [pt_n (by omega), pt_n (by omega), pt_n (by omega)]
    exact ⟨rfl, rfl, rfl⟩
  refine ⟨k1, by rw [e0]; exact k2, by rw [e53]; exact k3, ?_, ?_, ?_, ?_, by rw [e0]; exact hm'⟩
  · intro j hj
    rw [e0] at hj
    obtain ⟨a, b, c⟩ := ev j (by omega)
    rw [a, b, c]; exact k4 j hj
  · intro v hv
    rw [e53] at hv
    rw [e0, pt_n (by omega), pt_n (by omega)]; exact k5 v hv
  · intro yd' p' h1 h2
    rw [ly_pt hp8 h2]
    by_cases c : yd' = yd ∧ p' = p
    · rw [if_pos c]
      refine Or.inr ⟨by omega, i, hi, ?_⟩
      obtain ⟨a, b, -⟩ := ev i (by omega)
      rw [a, b, c.1]; exact hw
    · rw [if_neg c]
      rcases k6 yd' p' h1 h2 with e | ⟨hl, j, hj, e⟩
      · exact Or.inl e
      · refine Or.inr ⟨hl, j, by omega, ?_⟩
        obtain ⟨a, b, -⟩ := ev j (by omega)
        rw [a, b]; exact e
  · intro yd' p1 p2 h1 h2 h3
    rw [ly_pt hp8 h2, ly_pt hp8 h3]
    intro hne he
    by_cases c1 : yd' = yd ∧ p1 = p
    · by_cases c2 : yd' = yd ∧ p2 = p
      · omega
      · rw [if_pos c1, if_neg c2, c1.1] at he
        exact absurd he.symm (hu p2 h3)
    · by_cases c2 : yd' = yd ∧ p2 = p
      · rw [if_neg c1, if_pos c2, c2.1] at he
        exact absurd he (hu p1 h2)
      · rw [if_neg c1] at hne
        rw [if_neg c1, if_neg c2] at he
        exact k7 yd' p1 p2 h1 h2 h3 hne he
theorem y_put {y : OS} {f : Nat → Nat} {N t m : Nat} (h : RY y f N t) (k : Ok f N m) {yd p : Nat} (x : Int32) (hy : yd < 2) (hp : p < N) : fX3_put y (nI yd) (nI p) x = some (u2 y 4 (yd * 8 + p) x) := by
  have hN := k.1
  have e1 : iL (nI yd) 0 1 = true := by rw [iL_nI (by omega)]; exact decide_eq_true (by omega)
  rw [fX3_put, c_isSide, e1, bs, ifF (by decide), y_hasPlot h k, iLt hp (by omega), bs, ifF (by decide)]
  rw [show nI yd * 8 + nI p = nI (yd * 8 + p) from (by rw [show (8 : Int32) = nI 8 from rfl, pk_mul, nI_add]), gib (by omega) (by decide), nI_clamp (by omega)]
theorem y_put_no {y : OS} {f : Nat → Nat} {N t m : Nat} (h : RY y f N t) (k : Ok f N m) {yd : Nat} (x : Int32) (hy : yd < 2) : fX3_put y (nI yd) (-4) x = some y := by
  have e1 : iL (nI yd) 0 1 = true := by rw [iL_nI (by omega)]; exact decide_eq_true (by omega)
  have e2 : iL (-4) 0 ((N : Int) - 1) = false := decide_eq_false (fun hh => absurd hh.1 (by decide))
  rw [fX3_put, c_isSide, e1, bs, ifF (by decide), y_hasPlot h k, e2, bs]; rfl
/-- one is buried -/
def bur (f : Nat → Nat) (N i : Nat) : Option Nat × (Nat → Nat) := match fp f N (1 - vl f i) (kd f i) (fg f i) with
  | none => (none, f)
  | some p => (some p, if kd f i = 3 then match fp (pt f (37 + ((1 - vl f i) * 8 + p)) (i + 1)) N (vl f i) 3 (fg f i) with
    | none => pt f (37 + ((1 - vl f i) * 8 + p)) (i + 1)
    | some p2 => pt (pt f (37 + ((1 - vl f i) * 8 + p)) (i + 1)) (37 + (vl f i * 8 + p2)) (i + 21)
    else pt f (37 + ((1 - vl f i) * 8 + p)) (i + 1))
theorem bur_1 {f : Nat → Nat} {N i m p : Nat} (k : Ok f N m) (hm : m ≤ i) (hi : i < f 0) (e : fp f N (1 - vl f i) (kd f i) (fg f i) = some p) : Ok (pt f (37 + ((1 - vl f i) * 8 + p)) (i + 1)) N (i + 1) := by
  have hv := (k.2.2.2.1 i hi).1
  have h12 := k.2.1
  obtain ⟨a, b⟩ := fp_in k.1.1 k.1.2 e
  refine k.put (i := i) (by omega) a b (by omega) (by omega) (by omega) (Or.inl ⟨rfl, by omega⟩) ?_
  intro p' hp'
  rcases k.2.2.2.2.2.1 (1 - vl f i) p' (by omega) hp' with c | ⟨-, j, hj, c | c⟩ <;> omega
theorem vl_pt {f : Nat → Nat} {k v j : Nat} (hk : 37 ≤ k) (hj : j < 12) : vl (pt f k v) j = vl f j ∧ kd (pt f k v) j = kd f j ∧ fg (pt f k v) j = fg f j := by
  unfold vl kd fg
  rw [pt_n (by omega), pt_n (by omega), pt_n (by omega)]
  exact ⟨rfl, rfl, rfl⟩
theorem bur_ok {f : Nat → Nat} {N i m : Nat} (k : Ok f N m) (hm : m ≤ i) (hi : i < f 0) : Ok (bur f N i).2 N (i + 1) ∧ (bur f N i).2 0 = f 0 ∧ (bur f N i).2 53 = f 53 := by
  have hv := (k.2.2.2.1 i hi).1
  have h12 := k.2.1
  unfold bur
  cases e : fp f N (1 - vl f i) (kd f i) (fg f i) with
  | none =>
    obtain ⟨k1, k2, k3, k4, k5, k6, k7, k8⟩ := k
    refine ⟨⟨k1, k2, k3, k4, k5, ?_, k7, hi⟩, rfl, rfl⟩
    intro yd p h1 h2
    rcases k6 yd p h1 h2 with c | ⟨hl, j, hj, c⟩
    · exact Or.inl c
    · exact Or.inr ⟨hl, j, by omega, c⟩
  | some p =>
    obtain ⟨a, b⟩ := fp_in k.1.1 k.1.2 e
    have k1 := bur_1 k hm hi e
    have hN := k.1
    have e0 : pt f (37 + ((1 - vl f i) * 8 + p)) (i + 1) 0 = f 0 := pt_n (by omega)
    have e53 : pt f (37 + ((1 - vl f i) * 8 + p)) (i + 1) 53 = f 53 := pt_n (by omega)
    show Ok (if kd f i = 3 then _ else _) N (i + 1) ∧ _
    by_cases c3 : kd f i = 3
    · simp only [if_pos c3]
      cases e2 : fp (pt f (37 + ((1 - vl f i) * 8 + p)) (i + 1)) N (vl f i) 3 (fg f i) with
      | none => exact ⟨k1, e0, e53⟩
      | some p2 =>
        obtain ⟨a2, b2⟩ := fp_in k1.1.1 k1.1.2 e2
        have hvv := vl_pt (f := f) (k := 37 + ((1 - vl f i) * 8 + p)) (v := i + 1) (j := i) (by omega) (by omega)
        refine ⟨k1.put (i := i) (by omega) a2 b2 (Nat.le_refl _) (by rw [e0]; omega) (by omega) (Or.inr ⟨rfl, hvv.1, by rw [hvv.2.1]; exact c3⟩) ?_, ?_, ?_⟩
        · intro p' hp'
          rw [ly_pt (by omega) hp', if_neg (by omega)]
          rcases k.2.2.2.2.2.1 (vl f i) p' (by omega) hp' with c | ⟨-, j, hj, c | c⟩ <;> omega
        · show pt _ _ _ 0 = f 0
          rw [pt_n (by omega)]; exact e0
        · show pt _ _ _ 53 = f 53
          rw [pt_n (by omega)]; exact e53
    · simp only [if_neg c3]
      exact ⟨k1, e0, e53⟩
theorem fp_3 (f : Nat → Nat) (N yd F : Nat) : fp f N yd 3 F = fp f N yd 0 F := rfl
theorem y_dig {y : OS} {f : Nat → Nat} {N t m i : Nat} (h : RY y f N t) (k : Ok f N m) (hm : m ≤ i) (hi : i < f 0) : ∃ y', fX3_dig y (nI i) = some (rI (bur f N i).1, y') ∧ RY y' (bur f N i).2 N t := by
  obtain ⟨hv, hk3, hF⟩ := k.2.2.2.1 i hi
  have h12 := k.2.1
  have hN := k.1
  rw [fX3_dig, y_vil h k hi, bs, y_kind h k hi, bs, y_forg h k hi, bs, vs1 hv, y_free h k (by omega) (by omega) hF, bs]
  unfold bur
  cases e : fp f N (1 - vl f i) (kd f i) (fg f i) with
  | none => exact ⟨y, by rw [show rI none = (-4) from rfl, y_put_no h k _ (by omega), bs]; rfl, h⟩
  | some p =>
    obtain ⟨a, b⟩ := fp_in k.1.1 k.1.2 e
    have k1 := bur_1 k hm hi e
    have h1 := h.putw (k := (1 - vl f i) * 8 + p) (w := i + 1) h12 (by omega)
    rw [wI_s] at h1
    rw [show rI (some p) = nI p from rfl, y_put h k _ (by omega) a, bs, ifF (m4T (by omega))]
    by_cases c3 : kd f i = 3
    · rw [ifT (by rw [c3]; rfl), c3, y_free h1 k1 (by omega) (by omega) hF, bs]
      simp only [if_true]
      cases e2 : fp (pt f (37 + ((1 - vl f i) * 8 + p)) (i + 1)) N (vl f i) 3 (fg f i) with
      | none => exact ⟨_, by rw [show rI none = (-4) from rfl, y_put_no h1 k1 _ (by omega)]; rfl, h1⟩
      | some p2 =>
        obtain ⟨a2, b2⟩ := fp_in k1.1.1 k1.1.2 e2
        have h2 := h1.putw (k := vl f i * 8 + p2) (w := i + 21) (by rw [pt_n (by omega)]; exact h12) (by omega)
        rw [wI_s] at h2
        refine ⟨_, ?_, h2⟩
        rw [show rI (some p2) = nI p2 from rfl, y_put h1 k1 _ (by omega) a2, show nI i + 20 = nI (i + 20) from nI_add i 20]; rfl
    · rw [ifF (show ¬ nI (kd f i) = 3 from fun e => c3 ((nI_eq (b := 3) (by omega) (by decide)).mp e))]
      simp only [if_neg c3]
      exact ⟨_, rfl, h1⟩
/-- nobody lies -/
def cl (f : Nat → Nat) : Nat → Nat := fun j => if 37 ≤ j ∧ j < 53 then 0 else f j
theorem cl_n {f : Nat → Nat} {j : Nat} (h : j < 37 ∨ 53 ≤ j) : cl f j = f j := if_neg (by omega)
theorem cl_ly (f : Nat → Nat) {yd p : Nat} (hy : yd < 2) (hp : p < 8) : ly (cl f) yd p = 0 := if_pos (by omega)
theorem cl_v (f : Nat → Nat) {i : Nat} (hi : i < 12) : vl (cl f) i = vl f i ∧ kd (cl f) i = kd f i ∧ fg (cl f) i = fg f i := by
  unfold vl kd fg
  exact ⟨cl_n (by omega), cl_n (by omega), cl_n (by omega)⟩
/-- what a good row needs but for those who lie -/
def Okb (f : Nat → Nat) (N : Nat) : Prop := (2 ≤ N ∧ N ≤ 8) ∧ f 0 ≤ 12 ∧ f 53 ≤ 6 ∧ (∀ i, i < f 0 → vl f i ≤ 1 ∧ kd f i ≤ 3 ∧ fg f i ≤ 9) ∧ (∀ v, v < f 53 → f (54 + 2 * v) < f 0 ∧ 1 ≤ f (55 + 2 * v) ∧ f (55 + 2 * v) ≤ 20)
theorem Ok.b {f : Nat → Nat} {N m : Nat} (k : Ok f N m) : Okb f N := ⟨k.1, k.2.1, k.2.2.1, k.2.2.2.1, k.2.2.2.2.1⟩
theorem okb_cl {f : Nat → Nat} {N : Nat} (k : Okb f N) : Ok (cl f) N 0 := by
  obtain ⟨k1, k2, k3, k4, k5⟩ := k
  have e0 : cl f 0 = f 0 := cl_n (by omega)
  have e53 : cl f 53 = f 53 := cl_n (by omega)
  refine ⟨k1, by rw [e0]; exact k2, by rw [e53]; exact k3, ?_, ?_, fun yd p hy hp => Or.inl (cl_ly f hy hp), fun yd p p' hy hp _ h0 => absurd (cl_ly f hy hp) h0, Nat.zero_le _⟩
  · intro i hi
    rw [e0] at hi
    obtain ⟨a, b, c⟩ := cl_v f (show i < 12 by omega)
    rw [a, b, c]; exact k4 i hi
  · intro v hv
    rw [e53] at hv
    rw [e0, cl_n (by omega), cl_n (by omega)]; exact k5 v hv
/-- all are buried anew -/
def an (f : Nat → Nat) (N : Nat) : Nat → Nat := itr (fun i g => (bur g N i).2) (f 0) 0 (cl f)
theorem an_ok_aux {N n : Nat} : ∀ (j i : Nat) (g : Nat → Nat), i + j = n → g 0 = n → Ok g N i → Ok (itr (fun i g => (bur g N i).2) j i g) N n ∧ itr (fun i g => (bur g N i).2) j i g 0 = n
  | 0, i, g, hj, h0, k => by rw [show n = i by omega] at h0 ⊢; exact ⟨k, h0⟩
  | j + 1, i, g, hj, h0, k => by
    have := bur_ok k (Nat.le_refl _) (by omega)
    exact an_ok_aux j (i + 1) _ (by omega) (by show (bur g N i).2 0 = n; rw [this.2.1]; exact h0) this.1
theorem okb_an {f : Nat → Nat} {N : Nat} (k : Okb f N) : Ok (an f N) N (f 0) ∧ an f N 0 = f 0 :=
  an_ok_aux (f 0) 0 (cl f) (by omega) (cl_n (by omega)) (okb_cl k)
theorem y_freeAllL : ∀ (j i u : Nat) (y : OS), i + j = 16 → j < u → ∃ y', fX3_freeAll_L2 u (nI i) y = some y' ∧ (∀ c, c ≠ 4 → y' c = y c) ∧ (∀ k, i ≤ k → k < 16 → y' 4 k = -4) ∧ (∀ k, k < i → y' 4 k = y 4 k)
  | 0, i, u, y, hi, hu => by
    cases u with
    | zero => omega
    | succ u => exact ⟨y, by rw [fX3_freeAll_L2, ifT (by rw [show i = 16 by omega]; decide)], fun _ _ => rfl, fun k h1 h2 => by omega, fun _ _ => rfl⟩
  | j + 1, i, u, y, hi, hu => by
    cases u with
    | zero => omega
    | succ u =>
      obtain ⟨y', e, h1, h2, h3⟩ := y_freeAllL j (i + 1) u (u2 y 4 i (-4)) (by omega) (by omega)
      refine ⟨y', ?_, fun c hc => by rw [h1 c hc, u2_ne hc], fun k hk1 hk2 => ?_, fun k hk => by rw [h3 k (by omega), u2_eq, upd_n (by omega)]⟩
      · rw [fX3_freeAll_L2, ifF (by rw [show (16 : Int32) = nI 16 from rfl, nI_leI (by decide) (by omega)]; omega), gib (by omega) (by decide), nI_clamp (by omega), show nI i + 1 = nI (i + 1) from nI_add i 1]
        exact e
      · by_cases c : k = i
        · subst c; rw [h3 k (by omega), u2_eq, upd_s]
        · exact h2 k (by omega) hk2
/-- but for those who lie -/
def RYb (y : OS) (f : Nat → Nat) (N t : Nat) : Prop := y 0 0 = nI N ∧ y 0 1 = nI t ∧ y 0 2 = nI (f 0) ∧ y 0 3 = nI (f 53) ∧ (∀ i, i < f 0 → y 1 i = nI (vl f i) ∧ y 2 i = nI (kd f i) ∧ y 3 i = nI (fg f i)) ∧ (∀ v, v < f 53 → y 5 v = nI (f (54 + 2 * v)) ∧ y 6 v = nI (f (55 + 2 * v)))
theorem RY.b {y : OS} {f : Nat → Nat} {N t : Nat} (h : RY y f N t) : RYb y f N t := ⟨h.1, h.2.1, h.2.2.1, h.2.2.2.1, h.2.2.2.2.1, h.2.2.2.2.2.2⟩
theorem y_freeAll {y : OS} {f : Nat → Nat} {N t : Nat} (h : RYb y f N t) (h12 : f 0 ≤ 12) : ∃ y', fX3_freeAll y = some y' ∧ RY y' (cl f) N t := by
  obtain ⟨y', e, h1, h2, -⟩ := y_freeAllL 16 0 FU y (by omega) (FU_gt (by omega))
  obtain ⟨a1, a2, a3, a4, a5, a7⟩ := h
  have e0 : cl f 0 = f 0 := cl_n (by omega)
  have e53 : cl f 53 = f 53 := cl_n (by omega)
  refine ⟨y', e, ?_⟩
  refine ⟨by rw [h1 0 (by decide)]; exact a1, by rw [h1 0 (by decide)]; exact a2, by rw [h1 0 (by decide), e0]; exact a3, by rw [h1 0 (by decide), e53]; exact a4, ?_, ?_, ?_⟩
  · intro i hi
    rw [e0] at hi
    obtain ⟨b1, b2, b3⟩ := cl_v f (show i < 12 by omega)
    rw [h1 1 (by decide), h1 2 (by decide), h1 3 (by decide), b1, b2, b3]; exact a5 i hi
  · intro k hk
    rw [h2 k (by omega) hk, show cl f (37 + k) = 0 from if_pos (by omega)]; rfl
  · intro v hv
    rw [e53] at hv
    rw [h1 5 (by decide), h1 6 (by decide), cl_n (by omega), cl_n (by omega)]; exact a7 v hv
theorem y_digL {N t n : Nat} : ∀ (j i u : Nat) (y : OS) (g : Nat → Nat), i + j = n → j < u → g 0 = n → RY y g N t → Ok g N i → ∃ y', fX3_digAllAnew_L6 u (nI i) y = some y' ∧ RY y' (itr (fun i g => (bur g N i).2) j i g) N t
  | 0, i, u, y, g, hi, hu, h0, h, k => by
    have := k.2.1
    cases u with
    | zero => omega
    | succ u => exact ⟨y, by rw [fX3_digAllAnew_L6, h.2.2.1, ifT ((nI_leI (by omega) (by omega)).mpr (by omega))], h⟩
  | j + 1, i, u, y, g, hi, hu, h0, h, k => by
    have := k.2.1
    cases u with
    | zero => omega
    | succ u =>
      obtain ⟨y1, e1, h1⟩ := y_dig h k (Nat.le_refl _) (show i < g 0 by omega)
      have hb := bur_ok k (Nat.le_refl _) (show i < g 0 by omega)
      obtain ⟨y', e, h2⟩ := y_digL (n := n) j (i + 1) u y1 (bur g N i).2 (by omega) (by omega) (by rw [hb.2.1]; exact h0) h1 hb.1
      refine ⟨y', ?_, h2⟩
      rw [fX3_digAllAnew_L6, h.2.2.1, ifF (by rw [nI_leI (by omega) (by omega)]; omega), e1, bs, show nI i + 1 = nI (i + 1) from nI_add i 1]
      exact e
theorem y_digAll {y : OS} {f : Nat → Nat} {N t : Nat} (h : RYb y f N t) (k : Okb f N) : ∃ y', fX3_digAllAnew y = some y' ∧ RY y' (an f N) N t := by
  obtain ⟨y1, e1, h1⟩ := y_freeAll h k.2.1
  have h12 := k.2.1
  obtain ⟨y', e, h2⟩ := y_digL (f 0) 0 FU y1 (cl f) (by omega) (FU_gt (by omega)) (cl_n (by omega)) h1 (okb_cl k)
  exact ⟨y', by rw [fX3_digAllAnew, e1, bs]; exact e, h2⟩
