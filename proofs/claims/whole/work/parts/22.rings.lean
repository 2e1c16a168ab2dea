/-! mend: rings -/
theorem fb_holes : ∀ (m n : Nat) (f : Nat → Nat), (∀ i, i < n → f i < m) → (∀ i j, i < j → j < n → f i ≠ f j) → n ≤ m := by
  intro m
  induction m with
  | zero =>
    intro n f h1 _
    rcases Nat.eq_zero_or_pos n with h | h
    · omega
    · exact absurd (h1 0 h) (Nat.not_lt_zero _)
  | succ m ih =>
    intro n f h1 h2
    by_cases hx : ∃ i, i < n ∧ f i = m
    · obtain ⟨a, ha, hfa⟩ := hx
      have hg := ih (n - 1) (fun i => if i < a then f i else f (i + 1)) (by
        intro i hi
        by_cases q : i < a
        · simp only [if_pos q]
          have b1 := h1 i (by omega)
          have b2 := h2 i a q ha
          omega
        · simp only [if_neg q]
          have b1 := h1 (i + 1) (by omega)
          have b2 := h2 a (i + 1) (by omega) (by omega)
          omega) (by
        intro i j hij hj
        by_cases q : i < a
        · by_cases r : j < a
          · simp only [if_pos q, if_pos r]
            exact h2 i j hij (by omega)
          · simp only [if_pos q, if_neg r]
            exact h2 i (j + 1) (by omega) (by omega)
        · have r : ¬ j < a := by omega
          simp only [if_neg q, if_neg r]
          exact h2 (i + 1) (j + 1) (by omega) (by omega))
      omega
    · have hg := ih n f (fun i hi => by
        have b1 := h1 i hi
        have b2 : f i ≠ m := fun e => hx ⟨i, hi, e⟩
        omega) h2
      omega
theorem cnt_set (P : Nat → Bool) (k : Nat) (b : Bool) : ∀ {n : Nat}, k < n → cnt (fun r => if r = k then b else P r) n + (if P k then 1 else 0) = cnt P n + (if b then 1 else 0)
  | 0, h => absurd h (Nat.not_lt_zero k)
  | n + 1, h => by
    rw [cnt, cnt]
    by_cases c : k = n
    · subst c
      have e : cnt (fun r => if r = k then b else P r) k = cnt P k := cnt_cong (fun i hi => by rw [if_neg (by omega)])
      rw [e, if_pos rfl]; omega
    · have ih := cnt_set P k b (n := n) (by omega)
      rw [if_neg (show ¬ n = k from fun e => c e.symm)]; omega
/-- is r the lowest of its ring: by steps -/
def lw (G : Nat → Option Nat) : Nat → Option Nat → Nat → Bool
  | 0, x, r => x == some r
  | m + 1, x, r => match x with
    | none => false
    | some s => if r < s then lw G m (G s) r else s == r
theorem lw_none (G : Nat → Option Nat) (m r : Nat) : lw G m none r = false := by cases m <;> rfl
def sq (G : Nat → Option Nat) (x : Option Nat) : Nat → Option Nat
  | 0 => x
  | k + 1 => (sq G x k).bind G
theorem sq_s (G : Nat → Option Nat) (s : Nat) : ∀ k, sq G (some s) (k + 1) = sq G (G s) k
  | 0 => rfl
  | k + 1 => by rw [sq, sq_s G s k]; rfl
theorem lw_sq (G : Nat → Option Nat) (r : Nat) : ∀ (m : Nat) (x : Option Nat), lw G m x r = true ↔ ∃ k, k ≤ m ∧ sq G x k = some r ∧ ∀ i, i < k → ∃ s, sq G x i = some s ∧ r < s
  | 0, x => by
    constructor
    · intro h
      have h : x = some r := by simpa [lw] using h
      exact ⟨0, Nat.le_refl _, h, fun i hi => absurd hi (Nat.not_lt_zero i)⟩
    · rintro ⟨k, hk, h, -⟩
      have : k = 0 := by omega
      subst this
      have h : x = some r := h
      simp [lw, h]
  | m + 1, x => by
    cases x with
    | none =>
      constructor
      · intro h; cases h
      · rintro ⟨k, hk, h, h2⟩
        cases k with
        | zero => cases h
        | succ k => obtain ⟨s, e, -⟩ := h2 0 (by omega); cases e
    | some s =>
      show (if r < s then lw G m (G s) r else s == r) = true ↔ _
      by_cases c : r < s
      · rw [if_pos c, lw_sq G r m (G s)]
        constructor
        · rintro ⟨k, hk, h, h2⟩
          refine ⟨k + 1, by omega, by rw [sq_s]; exact h, fun i hi => ?_⟩
          cases i with
          | zero => exact ⟨s, rfl, c⟩
          | succ i => rw [sq_s]; exact h2 i (by omega)
        · rintro ⟨k, hk, h, h2⟩
          cases k with
          | zero => have h : some s = some r := h; cases h; omega
          | succ k =>
            refine ⟨k, by omega, by rw [← sq_s]; exact h, fun i hi => ?_⟩
            have := h2 (i + 1) (by omega)
            rw [sq_s] at this
            exact this
      · rw [if_neg c]
        constructor
        · intro h
          have h : s = r := by simpa using h
          subst h
          exact ⟨0, by omega, rfl, fun i hi => absurd hi (Nat.not_lt_zero i)⟩
        · rintro ⟨k, hk, h, h2⟩
          cases k with
          | zero => have h : some s = some r := h; cases h; simp
          | succ k => obtain ⟨s', e, hl⟩ := h2 0 (by omega); have e : some s = some s' := e; cases e; omega
/-- n steps are enough -/
theorem lw_enough {G : Nat → Option Nat} {n r : Nat} (hr : ∀ p q, G p = some q → q < n) (hi : ∀ p p' q, G p = some q → G p' = some q → p = p') {m : Nat} (h : lw G m (G r) r = true) : lw G n (G r) r = true := by
  obtain ⟨k, hk, h1, h2⟩ := (lw_sq G r m (G r)).mp h
  refine (lw_sq G r n (G r)).mpr ⟨k, ?_, h1, h2⟩
  have hv : ∀ i, i < k → ∃ s, sq G (G r) i = some s ∧ r < s := h2
  have hlt : ∀ i s, sq G (G r) i = some s → s < n := by
    intro i s e
    cases i with
    | zero => exact hr r s e
    | succ i =>
      rw [sq] at e
      cases q : sq G (G r) i with
      | none => rw [q] at e; cases e
      | some u => rw [q] at e; exact hr u s e
  have hback : ∀ d i, i + d < k → 0 < d → sq G (G r) i = sq G (G r) (i + d) → False := by
    intro d i
    induction i with
    | zero =>
      intro hd h0 e
      obtain ⟨d', rfl⟩ : ∃ d', d = d' + 1 := ⟨d - 1, by omega⟩
      obtain ⟨s, es, -⟩ := hv 0 (by omega)
      obtain ⟨u, eu, lu⟩ := hv d' (by omega)
      have e0 : sq G (G r) (d' + 1) = G u := by rw [sq, eu]; rfl
      rw [Nat.zero_add, e0] at e
      have e2 : G u = some s := by rw [← e]; exact es
      have es : G r = some s := es
      have := hi r u s es e2
      omega
    | succ i ih =>
      intro hd h0 e
      obtain ⟨a, ea, -⟩ := hv i (by omega)
      obtain ⟨b, eb, -⟩ := hv (i + d) (by omega)
      obtain ⟨s, es, -⟩ := hv (i + 1) (by omega)
      have e1 : G a = some s := by have := es; rw [sq, ea] at this; exact this
      have e2 : G b = some s := by
        have := es
        rw [e, show i + 1 + d = (i + d) + 1 by omega, sq, eb] at this
        exact this
      have : a = b := hi a b s e1 e2
      exact ih (by omega) h0 (by rw [ea, eb, this])
  refine fb_holes n k (fun i => (sq G (G r) i).getD 0) (fun i hik => ?_) (fun i j hij hj e => ?_)
  · obtain ⟨s, es, -⟩ := hv i hik
    show (sq G (G r) i).getD 0 < n
    rw [es]; exact hlt i s es
  · obtain ⟨s, es, -⟩ := hv i (by omega)
    obtain ⟨u, eu, -⟩ := hv j hj
    have e : (sq G (G r) i).getD 0 = (sq G (G r) j).getD 0 := e
    rw [es, eu] at e
    have e : s = u := e
    refine hback (j - i) i (by omega) (by omega) ?_
    rw [show i + (j - i) = j by omega, es, eu, e]
/-- unsettled, and not the lowest of a ring -/
def uc (G : Nat → Option Nat) (n p : Nat) : Bool := (!(G p == none) && !(G p == some p)) && !(lw G n (G p) p)
theorem uc_f {G : Nat → Option Nat} {n p : Nat} (h : G p = none ∨ G p = some p) : uc G n p = false := by
  unfold uc
  rcases h with h | h
  · rw [h]; rfl
  · rw [h]; simp
theorem uc_t {G : Nat → Option Nat} {n p : Nat} (h1 : G p ≠ none) (h2 : G p ≠ some p) : uc G n p = !(lw G n (G p) p) := by
  unfold uc
  rw [beq_false_of_ne h1, beq_false_of_ne h2]; rfl
theorem mend_step {G : Nat → Option Nat} {n p q : Nat} (hr : ∀ p q, G p = some q → p < n ∧ q < n) (hi : ∀ p p' q, G p = some q → G p' = some q → p = p') (hs : ∀ r, r < p → G r = none ∨ G r = some r) (e : G p = some q) (hne : q ≠ p) : cnt (uc G n) n = cnt (uc (fun r => G (tau p q r)) n) n + 1 := by
  have hp := (hr p q e).1
  have hq := (hr p q e).2
  have hr2 : ∀ p q, G p = some q → q < n := fun p q h => (hr p q h).2
  have tp : tau p q p = q := by unfold tau; rw [if_neg (fun z => hne z.symm), if_pos rfl]
  have tq : tau p q q = p := by unfold tau; rw [if_pos rfl]
  have to : ∀ r, r ≠ p → r ≠ q → tau p q r = r := fun r h1 h2 => by unfold tau; rw [if_neg h2, if_neg h1]
  have hr' : ∀ a b, (fun r => G (tau p q r)) a = some b → b < n := fun a b h => hr2 _ b h
  have hi' : ∀ a a' b, (fun r => G (tau p q r)) a = some b → (fun r => G (tau p q r)) a' = some b → a = a' := fun a a' b h1 h2 => tau_inj (hi _ _ b h1 h2)
  have hqs : G q ≠ some q := fun z => hne (hi q p q z e)
  -- same steps for all above p
  have key : ∀ (r : Nat), p ≤ r → ∀ (m : Nat) (x : Option Nat), x ≠ some q → lw G m x r = lw (fun r => G (tau p q r)) m x r := by
    intro r hpr m
    induction m with
    | zero => intro x _; rfl
    | succ m ih =>
      intro x hx
      cases x with
      | none => rfl
      | some s =>
        show (if r < s then lw G m (G s) r else s == r) = if r < s then lw (fun r => G (tau p q r)) m (G (tau p q s)) r else s == r
        by_cases c : r < s
        · have s1 : s ≠ p := by omega
          have s2 : s ≠ q := fun z => hx (by rw [z])
          rw [if_pos c, if_pos c, to s s1 s2]
          exact ih (G s) (fun z => s1 (hi s p q z e))
        · rw [if_neg c, if_neg c]
  have out : ∀ r, r < n → r ≠ p → r ≠ q → uc G n r = uc (fun r => G (tau p q r)) n r := by
    intro r hrn h1 h2
    have er : G (tau p q r) = G r := by rw [to r h1 h2]
    by_cases c : G r = none ∨ G r = some r
    · rw [uc_f c, uc_f (G := fun r => G (tau p q r)) (by show G (tau p q r) = none ∨ G (tau p q r) = some r; rw [er]; exact c)]
    · have c1 : G r ≠ none := fun z => c (Or.inl z)
      have c2 : G r ≠ some r := fun z => c (Or.inr z)
      have hpr : p ≤ r := by
        by_cases l : r < p
        · exact absurd (hs r l) c
        · omega
      rw [uc_t c1 c2, uc_t (G := fun r => G (tau p q r)) (by show G (tau p q r) ≠ none; rw [er]; exact c1) (by show G (tau p q r) ≠ some r; rw [er]; exact c2)]
      show (!lw G n (G r) r) = !lw (fun r => G (tau p q r)) n (G (tau p q r)) r
      rw [er, key r hpr n (G r) (fun z => h1 (hi r p q z e))]
  have e1 := cnt_set (uc G n) p (uc (fun r => G (tau p q r)) n p) hp
  have e2 := cnt_set (fun r => if r = p then uc (fun r => G (tau p q r)) n p else uc G n r) q (uc (fun r => G (tau p q r)) n q) hq
  have e3 : cnt (fun r => if r = q then uc (fun r => G (tau p q r)) n q else if r = p then uc (fun r => G (tau p q r)) n p else uc G n r) n = cnt (uc (fun r => G (tau p q r)) n) n := by
    apply cnt_cong
    intro r hrn
    by_cases a : r = q
    · rw [if_pos a, a]
    · rw [if_neg a]
      by_cases b : r = p
      · rw [if_pos b, b]
      · rw [if_neg b]; exact out r hrn b a
  have e4 : (if (if q = p then uc (fun r => G (tau p q r)) n p else uc G n q) = true then 1 else 0) = if uc G n q = true then 1 else 0 := by rw [if_neg hne]
  have e2 : cnt (fun r => if r = q then uc (fun r => G (tau p q r)) n q else if r = p then uc (fun r => G (tau p q r)) n p else uc G n r) n + (if uc G n q = true then 1 else 0) = cnt (fun r => if r = p then uc (fun r => G (tau p q r)) n p else uc G n r) n + (if uc (fun r => G (tau p q r)) n q = true then 1 else 0) := by
    rw [← e4]; exact e2
  rw [e3] at e2
  have uq' : uc (fun r => G (tau p q r)) n q = false := uc_f (G := fun r => G (tau p q r)) (Or.inr (by show G (tau p q q) = some q; rw [tq]; exact e))
  rw [uq'] at e2
  have up : G p ≠ none := by rw [e]; exact Option.some_ne_none q
  have up2 : G p ≠ some p := by rw [e]; intro z; cases z; exact hne rfl
  cases eq : G q with
  | none =>
    have u1 : uc G n q = false := uc_f (Or.inl eq)
    have u2' : uc (fun r => G (tau p q r)) n p = false := uc_f (G := fun r => G (tau p q r)) (Or.inl (by show G (tau p q p) = none; rw [tp]; exact eq))
    have u3 : uc G n p = true := by
      rw [uc_t up up2, e]
      cases n with
      | zero => omega
      | succ n =>
        show (!(if p < q then lw G n (G q) p else q == p)) = true
        by_cases c : p < q
        · rw [if_pos c, eq, lw_none]; rfl
        · rw [if_neg c, beq_false_of_ne hne]; rfl
    rw [u1, u2'] at e2
    rw [u2', u3] at e1
    simp only [Bool.false_eq_true, if_false, if_true] at e1 e2
    omega
  | some s =>
    have hsq : s ≠ q := fun z => hqs (by rw [eq, z])
    have hpq : p < q := by
      by_cases l : q < p
      · rcases hs q l with z | z
        · rw [eq] at z; cases z
        · exact absurd z hqs
      · omega
    have u1 : uc G n q = true := by
      rw [uc_t (by rw [eq]; exact Option.some_ne_none s) hqs]
      have : ∀ (m : Nat) (x : Option Nat), x ≠ some q → lw G m x q = false := by
        intro m
        induction m with
        | zero => intro x hx; show (x == some q) = false; exact beq_false_of_ne hx
        | succ m ih =>
          intro x hx
          cases x with
          | none => rfl
          | some u =>
            show (if q < u then lw G m (G u) q else u == q) = false
            by_cases c : q < u
            · rw [if_pos c]; exact ih (G u) (fun z => by have := hi u p q z e; omega)
            · rw [if_neg c]; exact beq_false_of_ne (fun z => hx (by rw [z]))
      rw [this n (G q) hqs]; rfl
    have u3 : uc G n p = uc (fun r => G (tau p q r)) n p := by
      have ep' : (fun r => G (tau p q r)) p = some s := by show G (tau p q p) = some s; rw [tp]; exact eq
      have ep'' : G (tau p q p) = some s := ep'
      rw [uc_t up up2]
      have st : ∀ m, lw G (m + 1) (G p) p = lw G m (some s) p := fun m => by
        rw [e]
        show (if p < q then lw G m (G q) p else q == p) = _
        rw [if_pos hpq, eq]
      by_cases c : s = p
      · have u : uc (fun r => G (tau p q r)) n p = false := uc_f (G := fun r => G (tau p q r)) (Or.inr (by show G (tau p q p) = some p; rw [ep'', c]))
        rw [u]
        have : lw G (1 + 1) (G p) p = true := by
          rw [st]
          show (if p < s then lw G 0 (G s) p else s == p) = true
          rw [if_neg (by omega), c]; simp
        rw [lw_enough hr2 hi this]; rfl
      · rw [uc_t (G := fun r => G (tau p q r)) (by show G (tau p q p) ≠ none; rw [ep'']; exact Option.some_ne_none s) (by show G (tau p q p) ≠ some p; rw [ep'']; intro z; cases z; exact c rfl)]
        have hx : (some s : Option Nat) ≠ some q := by intro z; cases z; exact hsq rfl
        have iff1 : lw G n (G p) p = true ↔ lw (fun r => G (tau p q r)) n (G (tau p q p)) p = true := by
          constructor
          · intro h
            have h2 : lw G (n - 1 + 1) (G p) p = true := by rw [show n - 1 + 1 = n by omega]; exact h
            rw [st, key p (Nat.le_refl _) _ _ hx, ← ep''] at h2
            exact lw_enough hr' hi' h2
          · intro h
            rw [ep'', ← key p (Nat.le_refl _) _ _ hx, ← st] at h
            exact lw_enough hr2 hi h
        cases a : lw G n (G p) p with
        | true => rw [iff1.mp a]
        | false =>
          cases b : lw (fun r => G (tau p q r)) n (G (tau p q p)) p with
          | false => rfl
          | true => rw [iff1.mpr b] at a; cases a
    rw [u1] at e2
    rw [u3] at e1
    simp only [Bool.false_eq_true, if_false, if_true] at e1 e2
    omega
theorem mend_none {G : Nat → Option Nat} {n : Nat} (h : ∀ r, r < n → G r = none ∨ G r = some r) : cnt (uc G n) n = 0 := by
  rw [← sm_cnt]
  apply sm_zero
  intro r hr
  show (if uc G n r = true then 1 else 0) = 0
  rw [uc_f (h r hr)]; rfl
