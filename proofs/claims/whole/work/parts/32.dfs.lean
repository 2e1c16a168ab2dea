/-! all orders -/
def hs : Nat → (Nat → Nat) → Nat → Bool
  | 0, _, _ => false
  | j + 1, L, v => hs j L v || (L j == v)
def nd : Nat → (Nat → Nat) → Bool
  | 0, _ => true
  | j + 1, L => nd j L && !(hs j L (L j))
theorem hs_cong {L L' : Nat → Nat} : ∀ (j : Nat), (∀ d, d < j → L d = L' d) → hs j L = hs j L'
  | 0, _ => rfl
  | j + 1, h => by funext v; rw [hs, hs, hs_cong j (fun d hd => h d (by omega)), h j (by omega)]
theorem nd_cong {L L' : Nat → Nat} : ∀ (j : Nat), (∀ d, d < j → L d = L' d) → nd j L = nd j L'
  | 0, _ => rfl
  | j + 1, h => by rw [nd, nd, nd_cong j (fun d hd => h d (by omega)), hs_cong j (fun d hd => h d (by omega)), h j (by omega)]
theorem hs_pt {L : Nat → Nat} {j v : Nat} : hs (j + 1) (pt L j v) = fun w => hs j L w || (v == w) := by
  funext w
  rw [hs, pt_s, hs_cong (L := pt L j v) (L' := L) j (fun d hd => pt_n (by omega))]
theorem nd_pt {L : Nat → Nat} {j v : Nat} : nd (j + 1) (pt L j v) = (nd j L && !(hs j L v)) := by
  rw [nd, pt_s, hs_cong (L := pt L j v) (L' := L) j (fun d hd => pt_n (by omega)), nd_cong (L := pt L j v) (L' := L) j (fun d hd => pt_n (by omega))]
theorem hs_in {L : Nat → Nat} {v : Nat} : ∀ (j : Nat), hs j L v = true ↔ ∃ d, d < j ∧ L d = v
  | 0 => ⟨fun h => (by cases h), fun ⟨d, h, _⟩ => absurd h (Nat.not_lt_zero d)⟩
  | j + 1 => by
    rw [hs, Bool.or_eq_true, hs_in j, beq_iff_eq]
    constructor
    · rintro (⟨d, h, e⟩ | e)
      · exact ⟨d, by omega, e⟩
      · exact ⟨j, by omega, e⟩
    · rintro ⟨d, h, e⟩
      by_cases c : d = j
      · subst c; exact Or.inr e
      · exact Or.inl ⟨d, by omega, e⟩
theorem hs_cnt {L : Nat → Nat} {n : Nat} : ∀ (j : Nat), (∀ d, d < j → L d < n) → cnt (hs j L) n ≤ j ∧ (cnt (hs j L) n = j ↔ nd j L = true)
  | 0, _ => by
    have e : cnt (hs 0 L) n = 0 := by
      rw [← sm_cnt]; exact sm_zero (fun i _ => rfl)
    rw [e]; exact ⟨Nat.le_refl _, fun _ => rfl, fun _ => rfl⟩
  | j + 1, h => by
    have ih := hs_cnt (L := L) (n := n) j (fun d hd => h d (by omega))
    have e : hs (j + 1) L = fun r => if r = L j then true else hs j L r := by
      funext r
      rw [hs]
      by_cases c : r = L j
      · rw [if_pos c, c]; simp
      · rw [if_neg c, beq_false_of_ne (fun z => c z.symm), Bool.or_false]
    have s := cnt_set (hs j L) (L j) true (n := n) (h j (by omega))
    rw [← e] at s
    rw [nd]
    cases c : hs j L (L j) with
    | true =>
      rw [c] at s
      simp only [if_true] at s
      refine ⟨by omega, fun z => by omega, fun z => ?_⟩
      simp at z
    | false =>
      rw [c] at s
      simp only [Bool.false_eq_true, if_false, if_true] at s
      simp only [Bool.not_false, Bool.and_true]
      exact ⟨by omega, fun z => ih.2.mp (by omega), fun z => by have := ih.2.mpr z; omega⟩
theorem cnt_full {P : Nat → Bool} : ∀ (n : Nat), cnt P n = n ↔ ∀ i, i < n → P i = true
  | 0 => ⟨fun _ i hi => absurd hi (Nat.not_lt_zero i), fun _ => rfl⟩
  | n + 1 => by
    have ih := cnt_full (P := P) n
    have hl := cnt_le P n
    cases c : P n with
    | true =>
      rw [cnt_t c]
      constructor
      · intro h i hi
        by_cases e : i = n
        · rw [e]; exact c
        · exact ih.mp (by omega) i (by omega)
      · intro h; have := ih.mpr (fun i hi => h i (by omega)); omega
    | false =>
      rw [cnt_f c]
      constructor
      · intro h; omega
      · intro h; have := h n (by omega); rw [c] at this; cases this
/-- depth first -/
def df {α : Type} (n : Nat) (F : (Nat → Nat) → α → α) : Nat → Nat → (Nat → Nat) → α → α
  | 0, _, L, a => F L a
  | r + 1, j, L, a => itr (fun d a => if hs j L d then a else df n F r (j + 1) (pt L j d) a) n 0 a
/-- by codes -/
def ds (n : Nat) : Nat → Nat → Nat → Nat
  | 0, _ => zr
  | k + 1, c => pt (ds n k (c / n)) k (c % n)
theorem itr_add {α : Type} (b : Nat → α → α) : ∀ (m k i : Nat) (a : α), itr b (m + k) i a = itr b k (i + m) (itr b m i a)
  | 0, k, i, a => by rw [Nat.zero_add]; rfl
  | m + 1, k, i, a => by
    rw [show m + 1 + k = (m + k) + 1 by omega, itr, itr_add b m k (i + 1), itr, show i + 1 + m = i + (m + 1) by omega]
theorem itr_sh {α : Type} (b : Nat → α → α) (s : Nat) : ∀ (m i : Nat) (a : α), itr b m (s + i) a = itr (fun n => b (s + n)) m i a
  | 0, _, _ => rfl
  | m + 1, i, a => by rw [itr, itr]; exact itr_sh b s m (i + 1) _
theorem itr_block {α : Type} (b : Nat → α → α) (n : Nat) : ∀ (m : Nat) (a : α), itr b (m * n) 0 a = itr (fun c a => itr (fun d a => b (c * n + d) a) n 0 a) m 0 a
  | 0, a => by rw [Nat.zero_mul]; rfl
  | m + 1, a => by
    rw [Nat.succ_mul, itr_add, itr_last, itr_block b n m a, Nat.zero_add, show m * n = m * n + 0 from rfl, itr_sh, Nat.zero_add]
theorem df_codes {α : Type} {n : Nat} (hn : 0 < n) (F : (Nat → Nat) → α → α) (a : α) : ∀ (k r : Nat), k + r = n → df n F n 0 zr a = itr (fun c a => if nd k (ds n k c) then df n F r k (ds n k c) a else a) (n ^ k) 0 a
  | 0, r, h => by
    have : r = n := by omega
    subst this
    rw [Nat.pow_zero]; rfl
  | k + 1, r, h => by
    rw [df_codes hn F a k (r + 1) (by omega), Nat.pow_succ, itr_block]
    refine itr_cong _ 0 _ (fun c x _ hc => ?_)
    have e : ∀ d, d < n → ds n (k + 1) (c * n + d) = pt (ds n k c) k d := fun d hd => by
      rw [ds, Nat.mul_comm, Nat.mul_add_div hn, Nat.mul_add_mod, Nat.div_eq_of_lt hd, Nat.mod_eq_of_lt hd, Nat.add_zero]
    cases b : nd k (ds n k c) with
    | true =>
      show df n F (r + 1) k (ds n k c) x = _
      rw [df]
      refine itr_cong _ 0 _ (fun d y _ hd => ?_)
      rw [e d (by omega), nd_pt, b]
      cases hs k (ds n k c) d <;> rfl
    | false =>
      show x = _
      have : ∀ (m i : Nat) (y : α), i + m ≤ n → itr (fun d a => if nd (k + 1) (ds n (k + 1) (c * n + d)) then df n F r (k + 1) (ds n (k + 1) (c * n + d)) a else a) m i y = y := by
        intro m
        induction m with
        | zero => intro i y _; rfl
        | succ m ih =>
          intro i y hi
          rw [itr, e i (by omega), nd_pt, b]
          exact ih (i + 1) y (by omega)
      exact (this n 0 x (by omega)).symm
theorem en_at {P : Nat → Bool} {v : Nat} (h : P v = true) : ∀ (V : Nat), v < V → en P V (cnt P v) = v
  | 0, hv => absurd hv (Nat.not_lt_zero v)
  | m + 1, hv => by
    by_cases c : v = m
    · subst c; rw [en_t h, pt_s]
    · cases b : P m with
      | true =>
        rw [en_t b]
        have hm := cnt_mono P (v + 1) (m - (v + 1))
        rw [show v + 1 + (m - (v + 1)) = m by omega, cnt_t h] at hm
        rw [pt_n (by omega)]; exact en_at h m (by omega)
      | false => rw [en_f b]; exact en_at h m (by omega)
theorem en_ix {P : Nat → Bool} : ∀ (V d : Nat), d < cnt P V → cnt P (en P V d) = d
  | 0, d, h => absurd h (Nat.not_lt_zero d)
  | m + 1, d, h => by
    cases b : P m with
    | true =>
      rw [cnt_t b] at h
      rw [en_t b]
      by_cases c : d = cnt P m
      · subst c; rw [pt_s]
      · rw [pt_n c]; exact en_ix m d (by omega)
    | false => rw [cnt_f b] at h; rw [en_f b]; exact en_ix m d h
theorem cnt_lt {P : Nat → Bool} {v V : Nat} (h : P v = true) (hv : v < V) : cnt P v < cnt P V := by
  have hm := cnt_mono P (v + 1) (V - (v + 1))
  rw [show v + 1 + (V - (v + 1)) = V by omega, cnt_t h] at hm
  omega
/-- the class's walk -/
def cf {σ : Type} (g : Nat → Bool) (V : Nat) (nt : Nat → (Nat → Nat) → σ → σ) : Nat → Nat → (Nat → Nat) → σ → σ
  | 0, j, L, s => nt j L s
  | r + 1, j, L, s => itr (fun v s => if g v && !hs j L v then cf g V nt r (j + 1) (pt L j v) s else s) V 0 (nt j L s)
theorem itr_pr {σ α : Type} {pr : σ → α} {b : Nat → σ → σ} {b' : Nat → α → α} : ∀ (m i : Nat) (s : σ), (∀ d x, i ≤ d → d < i + m → pr (b d x) = b' d (pr x)) → pr (itr b m i s) = itr b' m i (pr s)
  | 0, _, _, _ => rfl
  | m + 1, i, s, h => by
    rw [itr, itr, itr_pr m (i + 1) (b i s) (fun d x h1 h2 => h d x (by omega) (by omega)), h i s (by omega) (by omega)]
theorem itr_id {α : Type} : ∀ (m i : Nat) (a : α), itr (fun _ a => a) m i a = a
  | 0, _, _ => rfl
  | m + 1, i, a => itr_id m (i + 1) a
section PRJ
variable {σ α : Type} {g u : Nat → Bool} {V : Nat} {nt : Nat → (Nat → Nat) → σ → σ} {pr : σ → α} {F : (Nat → Nat) → α → α}
theorem cf_out (h0 : ∀ j L s, (∃ v, v < V ∧ ¬ hs j L v = u v) → pr (nt j L s) = pr s) : ∀ (r j : Nat) (L : Nat → Nat) (s : σ), (∃ d, d < j ∧ L d < V ∧ u (L d) = false) → pr (cf g V nt r j L s) = pr s := by
  intro r
  have bad : ∀ j L, (∃ d, d < j ∧ L d < V ∧ u (L d) = false) → ∃ v, v < V ∧ ¬ hs j L v = u v := by
    rintro j L ⟨d, h1, h2, h3⟩
    refine ⟨L d, h2, ?_⟩
    rw [(hs_in j).mpr ⟨d, h1, rfl⟩, h3]; decide
  induction r with
  | zero => intro j L s h; exact h0 j L s (bad j L h)
  | succ r ih =>
    intro j L s h
    rw [cf, itr_pr (pr := pr) (b' := fun _ a => a) V 0 _ (fun v x _ _ => ?_), itr_id, h0 j L s (bad j L h)]
    obtain ⟨d, h1, h2, h3⟩ := h
    cases c : (g v && !hs j L v) with
    | true =>
      show pr (cf g V nt r (j + 1) (pt L j v) x) = pr x
      exact ih (j + 1) (pt L j v) x ⟨d, by omega, by rw [pt_n (by omega)]; exact h2, by rw [pt_n (by omega)]; exact h3⟩
    | false => rfl
theorem cf_in (hug : ∀ v, v < V → u v = true → g v = true) (h0 : ∀ j L s, (∃ v, v < V ∧ ¬ hs j L v = u v) → pr (nt j L s) = pr s) (h1 : ∀ L s, (∀ d, d < cnt u V → L d < V) → (∀ v, v < V → hs (cnt u V) L v = u v) → pr (nt (cnt u V) L s) = F L (pr s)) (hF : ∀ L L' a, (∀ d, d < cnt u V → L d = L' d) → F L a = F L' a) : ∀ (r r' j : Nat) (L l : Nat → Nat) (s : σ), r' ≤ r → j + r' = cnt u V → nd j l = true → (∀ d, d < j → l d < cnt u V ∧ L d = en u V (l d)) → pr (cf g V nt r j L s) = df (cnt u V) (fun l a => F (fun d => en u V (l d)) a) r' j l (pr s) := by
  have nL : ∀ (j : Nat) (L l : Nat → Nat), nd j l = true → (∀ d, d < j → l d < cnt u V ∧ L d = en u V (l d)) → nd j L = true ∧ ∀ d, d < j → L d < V ∧ u (L d) = true := by
    intro j
    induction j with
    | zero => intro L l _ _; exact ⟨rfl, fun d hd => absurd hd (Nat.not_lt_zero d)⟩
    | succ j ih =>
      intro L l h1 h2
      rw [nd, Bool.and_eq_true] at h1
      obtain ⟨a, b⟩ := ih L l h1.1 (fun d hd => h2 d (by omega))
      have e : ∀ d, d < j + 1 → L d < V ∧ u (L d) = true := fun d hd => by rw [(h2 d hd).2]; exact en_in V _ (h2 d hd).1
      refine ⟨?_, e⟩
      rw [nd, a, Bool.true_and]
      cases c : hs j L (L j) with
      | false => rfl
      | true =>
        obtain ⟨d, hd, ed⟩ := (hs_in j).mp c
        have : l d = l j := by
          rw [(h2 d (by omega)).2, (h2 j (by omega)).2] at ed
          rw [← en_ix V (l d) (h2 d (by omega)).1, ed, en_ix V (l j) (h2 j (by omega)).1]
        have : hs j l (l j) = true := (hs_in j).mpr ⟨d, hd, this⟩
        rw [this] at h1
        exact absurd h1.2 (by decide)
  have sub : ∀ (j : Nat) (L : Nat → Nat), nd j L = true → (∀ d, d < j → L d < V ∧ u (L d) = true) → (∀ v, v < V → hs j L v = u v) ∨ (j < cnt u V ∧ ∃ v, v < V ∧ ¬ hs j L v = u v) := by
    intro j L h1 h2
    have hc := hs_cnt (L := L) (n := V) j (fun d hd => (h2 d hd).1)
    have hj := hc.2.mpr h1
    by_cases c : ∀ v, v < V → hs j L v = u v
    · exact Or.inl c
    · refine Or.inr ⟨?_, ?_⟩
      · -- some of u is missing
        have ex : ∃ v, v < V ∧ u v = true ∧ hs j L v = false := by
          apply Classical.byContradiction
          intro z
          apply c
          intro v hv
          cases a : hs j L v with
          | true =>
            obtain ⟨d, hd, e⟩ := (hs_in j).mp a
            rw [← e, (h2 d hd).2]
          | false =>
            cases b : u v with
            | false => rfl
            | true => exact absurd ⟨v, hv, b, a⟩ z
        obtain ⟨w, hw, hu, hh⟩ := ex
        have s := cnt_set (hs j L) w true hw
        rw [hh] at s
        simp only [Bool.false_eq_true, if_false, if_true] at s
        have le : ∀ (P Q : Nat → Bool) (n : Nat), (∀ i, i < n → P i = true → Q i = true) → cnt P n ≤ cnt Q n := by
          intro P Q n
          induction n with
          | zero => intro _; exact Nat.le_refl _
          | succ n ih =>
            intro h
            have := ih (fun i hi => h i (by omega))
            cases a : P n with
            | true => rw [cnt_t a, cnt_t (h n (by omega) a)]; omega
            | false => rw [cnt_f a]; have := cnt_mono Q n 1; omega
        have := le (fun r => if r = w then true else hs j L r) u V (fun i hi h => by
          by_cases z : i = w
          · rw [z]; exact hu
          · simp only [if_neg z] at h
            obtain ⟨d, hd, e⟩ := (hs_in j).mp h
            rw [← e]; exact (h2 d hd).2)
        omega
      · apply Classical.byContradiction
        intro z
        exact c (fun v hv => Classical.byContradiction (fun y => z ⟨v, hv, y⟩))
  intro r
  induction r with
  | zero =>
    intro r' j L l s hr hj hnd hl
    have : r' = 0 := by omega
    subst this
    have hj : j = cnt u V := by omega
    obtain ⟨a, b⟩ := nL j L l hnd hl
    rcases sub j L a b with c | ⟨c, -⟩
    · subst hj
      show pr (nt (cnt u V) L s) = _
      rw [h1 L s (fun d hd => (b d hd).1) c]
      exact hF _ _ _ (fun d hd => (hl d hd).2)
    · omega
  | succ r ih =>
    intro r' j L l s hr hj hnd hl
    obtain ⟨a, b⟩ := nL j L l hnd hl
    rcases sub j L a b with c | ⟨c, bad⟩
    · -- all of u
      have hcj : j = cnt u V := by
        have hc := (hs_cnt (L := L) (n := V) j (fun d hd => (b d hd).1)).2.mpr a
        rw [cnt_cong c] at hc
        exact hc.symm
      have : r' = 0 := by omega
      subst this
      subst hcj
      rw [cf, itr_pr (pr := pr) (b' := fun _ a => a) V 0 _ (fun v x _ hv => ?_), itr_id, h1 L s (fun d hd => (b d hd).1) c]
      · exact hF _ _ _ (fun d hd => (hl d hd).2)
      · cases q : (g v && !hs (cnt u V) L v) with
        | false => rfl
        | true =>
          show pr (cf g V nt r (cnt u V + 1) (pt L (cnt u V) v) x) = pr x
          rw [Bool.and_eq_true] at q
          have hu : u v = false := by
            rw [← c v (by omega)]
            cases z : hs (cnt u V) L v with
            | false => rfl
            | true => rw [z] at q; exact absurd q.2 (by decide)
          exact cf_out h0 r (cnt u V + 1) _ x ⟨cnt u V, by omega, by rw [pt_s]; omega, by rw [pt_s]; exact hu⟩
    · obtain ⟨r'', rfl⟩ : ∃ r'', r' = r'' + 1 := ⟨r' - 1, by omega⟩
      rw [cf, itr_pr (pr := pr) (b' := fun v a => if u v then (fun v a => if hs j L v then a else df (cnt u V) (fun l a => F (fun d => en u V (l d)) a) r'' (j + 1) (pt l j (cnt u v)) a) v a else a) V 0 _ (fun v x _ hv => ?_), itr_enum, h0 j L s bad, df]
      · refine itr_cong _ 0 _ (fun d x _ hd => ?_)
        have hd : d < cnt u V := by omega
        have e1 : hs j L (en u V d) = hs j l d := by
          cases z : hs j l d with
          | true =>
            obtain ⟨q, hq, e⟩ := (hs_in j).mp z
            exact (hs_in j).mpr ⟨q, hq, by rw [(hl q hq).2, e]⟩
          | false =>
            cases y : hs j L (en u V d) with
            | false => rfl
            | true =>
              obtain ⟨q, hq, e⟩ := (hs_in j).mp y
              rw [(hl q hq).2] at e
              have : l q = d := by rw [← en_ix V (l q) (hl q hq).1, e, en_ix V d hd]
              rw [(hs_in j).mpr ⟨q, hq, this⟩] at z; cases z
        show (if hs j L (en u V d) then x else _) = _
        rw [e1, en_ix V d hd]
      · have hv : v < V := by omega
        cases hu : u v with
        | false =>
          show pr (if (g v && !hs j L v) = true then cf g V nt r (j + 1) (pt L j v) x else x) = pr x
          by_cases q : (g v && !hs j L v) = true
          · rw [if_pos q]
            exact cf_out h0 r (j + 1) _ x ⟨j, by omega, by rw [pt_s]; exact hv, by rw [pt_s]; exact hu⟩
          · rw [if_neg q]
        | true =>
          rw [hug v hv hu, Bool.true_and]
          show pr (if (!hs j L v) = true then cf g V nt r (j + 1) (pt L j v) x else x) = if hs j L v = true then pr x else df (cnt u V) _ r'' (j + 1) (pt l j (cnt u v)) (pr x)
          cases z : hs j L v with
          | true => rfl
          | false =>
            show pr (cf g V nt r (j + 1) (pt L j v) x) = df (cnt u V) _ r'' (j + 1) (pt l j (cnt u v)) (pr x)
            refine ih r'' (j + 1) _ _ x (by omega) (by omega) ?_ (fun d hd => ?_)
            · rw [nd_pt, hnd, Bool.true_and]
              cases y : hs j l (cnt u v) with
              | false => rfl
              | true =>
                obtain ⟨q, hq, e⟩ := (hs_in j).mp y
                have : L q = v := by rw [(hl q hq).2, e, en_at hu V hv]
                rw [(hs_in j).mpr ⟨q, hq, this⟩] at z; cases z
            · by_cases y : d = j
              · subst y; rw [pt_s, pt_s, en_at hu V hv]; exact ⟨cnt_lt hu hv, rfl⟩
              · rw [pt_n y, pt_n y]; exact hl d (by omega)
end PRJ
theorem df_pr {α β : Type} {n : Nat} {φ : α → β} {F : (Nat → Nat) → α → α} {G : (Nat → Nat) → β → β} (h : ∀ l a, φ (F l a) = G l (φ a)) : ∀ (r j : Nat) (L : Nat → Nat) (a : α), φ (df n F r j L a) = df n G r j L (φ a)
  | 0, j, L, a => h L a
  | r + 1, j, L, a => by
    rw [df, df]
    refine itr_pr (pr := φ) n 0 a (fun d x _ _ => ?_)
    cases hs j L d with
    | true => rfl
    | false => exact df_pr h r (j + 1) (pt L j d) x
theorem itr_keep {α : Type} {P : α → Prop} {b : Nat → α → α} : ∀ (m i : Nat) (a : α), (∀ d x, P x → P (b d x)) → P a → P (itr b m i a)
  | 0, _, _, _, h => h
  | m + 1, i, a, hb, h => itr_keep m (i + 1) _ hb (hb i a h)
theorem df_keep {α : Type} {n : Nat} {P : α → Prop} {F : (Nat → Nat) → α → α} (h : ∀ l a, P (F l a)) : ∀ (r j : Nat) (L : Nat → Nat) (a : α), P a → P (df n F r j L a)
  | 0, j, L, a, _ => h L a
  | r + 1, j, L, a, ha => by
    rw [df]
    refine itr_keep (P := P) n 0 a (fun d x hx => ?_) ha
    cases hs j L d with
    | true => exact hx
    | false => exact df_keep h r (j + 1) (pt L j d) x hx
theorem df_got {α : Type} {n : Nat} {P : α → Prop} {F : (Nat → Nat) → α → α} (h : ∀ l a, P (F l a)) : ∀ (r j : Nat) (L : Nat → Nat) (a : α), j + r = n → (∀ d, d < j → L d < n) → P (df n F r j L a)
  | 0, j, L, a, _, _ => h L a
  | r + 1, j, L, a, hj, hL => by
    rw [df]
    have hc := (hs_cnt (L := L) (n := n) j hL).1
    have ex : ∃ d, d < n ∧ hs j L d = false := by
      apply Classical.byContradiction
      intro z
      have := (cnt_full (P := hs j L) n).mpr (fun i hi => by
        cases e : hs j L i with
        | true => rfl
        | false => exact absurd ⟨i, hi, e⟩ z)
      omega
    obtain ⟨d, hd, hh⟩ := ex
    rw [show n = d + (1 + (n - d - 1)) by omega, itr_add, itr_add, ← show n = d + (1 + (n - d - 1)) by omega]
    refine itr_keep (P := P) _ _ _ (fun q x hx => ?_) ?_
    · cases hs j L q with
      | true => exact hx
      | false => exact df_keep h r (j + 1) (pt L j q) x hx
    · show P (if hs j L (0 + d) = true then _ else _)
      rw [Nat.zero_add, hh]
      exact df_got h r (j + 1) (pt L j d) _ (by omega) (fun q hq => by
        by_cases z : q = j
        · subst z; rw [pt_s]; exact hd
        · rw [pt_n z]; exact hL q (by omega))
