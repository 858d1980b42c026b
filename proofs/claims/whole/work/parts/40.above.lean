/-! Who is above whom -/
theorem cnt_lt {p q : Nat → Bool} : ∀ {m : Nat}, (∀ i, i < m → p i = true → q i = true) → ∀ j, j < m → p j = false → q j = true → cnt p m < cnt q m := by
  have le : ∀ {m : Nat}, (∀ i, i < m → p i = true → q i = true) → cnt p m ≤ cnt q m := by
    intro m
    induction m with
    | zero => intro _; exact Nat.le_refl _
    | succ m ih =>
      intro h
      have a := ih (fun i hi => h i (by omega))
      show cnt p m + (if p m = true then 1 else 0) ≤ cnt q m + (if q m = true then 1 else 0)
      by_cases z : p m = true
      · rw [if_pos z, if_pos (h m (by omega) z)]; omega
      · rw [if_neg z]; omega
  intro m
  induction m with
  | zero => intro _ j hj; omega
  | succ m ih =>
    intro h j hj h1 h2
    show cnt p m + (if p m = true then 1 else 0) < cnt q m + (if q m = true then 1 else 0)
    by_cases e : j = m
    · subst e
      have := le (fun i hi => h i (by omega)) (m := j)
      rw [h1, h2, if_pos rfl, if_neg (by decide)]; omega
    · have a := ih (fun i hi => h i (by omega)) j (by omega) h1 h2
      by_cases z : p m = true
      · rw [if_pos z, if_pos (h m (by omega) z)]; omega
      · rw [if_neg z]; omega
theorem cnt_full {p : Nat → Bool} : ∀ {m : Nat}, m ≤ cnt p m → ∀ i, i < m → p i = true := by
  intro m
  induction m with
  | zero => intro _ i hi; omega
  | succ m ih =>
    intro h i hi
    have e : cnt p (m + 1) = cnt p m + (if p m = true then 1 else 0) := rfl
    have hl := cnt_le p m
    rw [e] at h
    by_cases z : p m = true
    · rw [if_pos z] at h
      by_cases y : i = m
      · subst y; exact z
      · exact ih (by omega) i (by omega)
    · rw [if_neg z] at h; omega
/-- closed under providers -/
def clo (n : Nat) (K : Nat → Nat → Nat) (S : Nat → Prop) : Prop := ∀ a b, a < n → b < n → K a b = 3 → S a → S b
section AB
variable {n : Nat} {K : Nat → Nat → Nat} {lk : Int32} {hol : Nat → Int32} {Sy : Nat → Nat → Bool} {σ τ : ZS}
theorem providersOf_ok (E : EC n K lk hol Sy σ) (G : GI n K hol Sy) (s : Int32) : Ok (f_X1_providersOf s σ) (fun r => ∀ b, b < 32 → (bt r b = true ↔ ∃ a, a < n ∧ b < n ∧ K a b = 3 ∧ bt s a = true)) := by
  have hn := G.1
  unfold f_X1_providersOf
  refine oLoop (fun i t => t.2 = nI i ∧ ∀ b, b < 32 → (bt t.1 b = true ↔ ∃ a, a < i ∧ b < n ∧ K a b = 3 ∧ bt s a = true)) n (by omega) ⟨rfl, fun b hb => ⟨fun q => (by rw [b_0] at q; cases q), fun q => (by obtain ⟨a, ha, -⟩ := q; omega)⟩⟩ ?_ ?_
  · intro i t hi hI
    obtain ⟨m, j⟩ := t
    obtain ⟨hj, h1⟩ := hI
    have hj : j = nI i := hj
    have h1 : ∀ b, b < 32 → (bt m b = true ↔ ∃ a, a < i ∧ b < n ∧ K a b = 3 ∧ bt s a = true) := h1
    subst hj
    unfold f_X1_providersOf_B4
    rw [E.1]
    refine oLe n i (by omega) (by omega) (fun z => by omega) (fun _ => ?_)
    -- the inner loop
    refine oLoop (fun k u => u.2 = nI k ∧ (∀ b, b < 32 → (bt u.1 b = true ↔ (∃ a, a < i ∧ b < n ∧ K a b = 3 ∧ bt s a = true) ∨ (b < k ∧ K i b = 3 ∧ bt s i = true)))) n (by omega) ⟨rfl, fun b hb => ⟨fun q => Or.inl ((h1 b hb).mp q), fun q => (by
      rcases q with q | q
      · exact (h1 b hb).mpr q
      · omega)⟩⟩ ?_ ?_
    · intro k u hk hJ
      obtain ⟨m', j'⟩ := u
      obtain ⟨hj', g1⟩ := hJ
      have hj' : j' = nI k := hj'
      have g1 : ∀ b, b < 32 → (bt m' b = true ↔ (∃ a, a < i ∧ b < n ∧ K a b = 3 ∧ bt s a = true) ∨ (b < k ∧ K i b = 3 ∧ bt s i = true)) := g1
      subst hj'
      have k4 := G.2.1 i k
      unfold f_X1_providersOf_B15
      rw [E.1]
      refine oLe n k (by omega) (by omega) (fun z => by omega) (fun _ => oBindE (hasBit_ok s (by omega)) ?_)
      cases hs : bt s i with
      | false =>
        refine oT rfl (oWi (oRet ⟨nI_1 i, fun b hb => ?_⟩))
        show bt m' b = true ↔ _
        rw [g1 b hb]
        constructor
        · rintro (⟨a, q⟩ | ⟨-, -, q⟩)
          · exact ⟨a, by omega, q.2⟩
          · rw [hs] at q; cases q
        · rintro ⟨a, a1, a2⟩
          by_cases e : a = i
          · subst e; rw [hs] at a2; cases a2.2.2
          · exact Or.inl ⟨a, by omega, a2⟩
      | true =>
        refine oF one_ne (oBindE (kind_ok E G (by omega) (by omega)) ?_)
        have keep : K i k ≠ 3 → (∀ b, b < 32 → (bt m' b = true ↔ (∃ a, a < i ∧ b < n ∧ K a b = 3 ∧ bt s a = true) ∨ (b < k + 1 ∧ K i b = 3 ∧ bt s i = true))) := fun z b hb => by
          rw [g1 b hb]
          constructor
          · rintro (q | ⟨q1, q2⟩)
            · exact Or.inl q
            · exact Or.inr ⟨by omega, q2⟩
          · rintro (q | ⟨q1, q2⟩)
            · exact Or.inl q
            · by_cases e : b = k
              · subst e; exact absurd q2.1 z
              · exact Or.inr ⟨by omega, q2⟩
        rw [hs] at keep g1
        refine oNe (K i k) 3 (by omega) (by omega) (fun z => oBindE (bit_ok (by omega)) (oRet ⟨nI_1 k, fun b hb => ?_⟩)) (fun z => oRet ⟨nI_1 k, fun b hb => ?_⟩)
        · show bt (m' ||| bm k) b = true ↔ _
          rw [b_or, Bool.or_eq_true, g1 b hb, b_bm k (by omega) b hb, decide_eq_true_eq]
          constructor
          · rintro ((q | ⟨q1, q2⟩) | q)
            · exact Or.inl q
            · exact Or.inr ⟨by omega, q2⟩
            · subst q; exact Or.inr ⟨by omega, z, rfl⟩
          · rintro (q | ⟨q1, q2⟩)
            · exact Or.inl (Or.inl q)
            · by_cases e : b = k
              · exact Or.inr e
              · exact Or.inl (Or.inr ⟨by omega, q2⟩)
        · exact keep z b hb
    · intro u hJ
      obtain ⟨m', j'⟩ := u
      obtain ⟨hj', g1⟩ := hJ
      have hj' : j' = nI n := hj'
      have g1 : ∀ b, b < 32 → (bt m' b = true ↔ (∃ a, a < i ∧ b < n ∧ K a b = 3 ∧ bt s a = true) ∨ (b < n ∧ K i b = 3 ∧ bt s i = true)) := g1
      subst hj'
      unfold f_X1_providersOf_B15
      rw [E.1]
      refine oLe n n (by omega) (by omega) (fun _ => oWi (oRet ⟨nI_1 i, fun b hb => ?_⟩)) (fun z => by omega)
      show bt m' b = true ↔ _
      rw [g1 b hb]
      constructor
      · rintro (⟨a, q1, q⟩ | ⟨q1, q2, q3⟩)
        · exact ⟨a, by omega, q⟩
        · exact ⟨i, by omega, q1, q2, q3⟩
      · rintro ⟨a, a1, a2⟩
        by_cases e : a = i
        · subst e; exact Or.inr a2
        · exact Or.inl ⟨a, by omega, a2⟩
  · intro t hI
    obtain ⟨m, j⟩ := t
    obtain ⟨hj, h1⟩ := hI
    have hj : j = nI n := hj
    subst hj
    unfold f_X1_providersOf_B4
    rw [E.1]
    exact oLe n n (by omega) (by omega) (fun _ => oWi (oRet h1)) (fun z => by omega)
/-- the class: above is what every closed set with the one has -/
theorem isAbove_ok (E : EC n K lk hol Sy σ) (G : GI n K hol Sy) {p c : Nat} (hp : p < n) (hc : c < n) : Ok (f_X1_isAbove (nI c) (nI p) σ) (fun r => ∃ b : Bool, r = bI b ∧ (b = true ↔ ∀ S : Nat → Prop, clo n K S → S p → S c)) := by
  have hn := G.1
  unfold f_X1_isAbove
  refine oBindE (bit_ok (by omega)) ?_
  refine oLoop (fun i t => t.2 = nI i ∧ bt t.1 p = true ∧ (∀ S : Nat → Prop, clo n K S → S p → ∀ x, x < 32 → bt t.1 x = true → S x) ∧ (clo n K (fun x => bt t.1 x = true) ∨ i + 1 ≤ cnt (bt t.1) n)) n (by omega) ⟨rfl, ?_, fun S _ hS x hx q => ?_, Or.inr ?_⟩ ?_ ?_
  · show bt (bm p) p = true
    rw [b_bm p (by omega) p (by omega)]; simp
  · have q : bt (bm p) x = true := q
    rw [b_bm p (by omega) x hx, decide_eq_true_eq] at q
    rw [q]; exact hS
  · have : cnt (fun _ => false) n < cnt (bt (bm p)) n := cnt_lt (fun _ _ q => (by cases q)) p hp rfl (by rw [b_bm p (by omega) p (by omega)]; simp)
    show 0 + 1 ≤ cnt (bt (bm p)) n
    omega
  · intro i t hi hI
    obtain ⟨m, j⟩ := t
    obtain ⟨hj, h1, h2, h3⟩ := hI
    have hj : j = nI i := hj
    have h1 : bt m p = true := h1
    have h2 : ∀ S : Nat → Prop, clo n K S → S p → ∀ x, x < 32 → bt m x = true → S x := h2
    have h3 : clo n K (fun x => bt m x = true) ∨ i + 1 ≤ cnt (bt m) n := h3
    subst hj
    unfold f_X1_isAbove_B8
    rw [E.1]
    refine oLe n i (by omega) (by omega) (fun z => by omega) (fun _ => oBind (providersOf_ok E G m) (fun r hr => oRet ⟨nI_1 i, ?_, fun S cS hS x hx q => ?_, ?_⟩))
    · show bt (m ||| r) p = true
      rw [b_or, h1]; rfl
    · have q : bt (m ||| r) x = true := q
      rw [b_or, Bool.or_eq_true] at q
      rcases q with q | q
      · exact h2 S cS hS x hx q
      · obtain ⟨a, a1, a2, a3, a4⟩ := (hr x hx).mp q
        exact cS a x a1 a2 a3 (h2 S cS hS a (by omega) a4)
    · show clo n K (fun x => bt (m ||| r) x = true) ∨ i + 1 + 1 ≤ cnt (bt (m ||| r)) n
      by_cases cl : clo n K (fun x => bt m x = true)
      · refine Or.inl (fun a b a1 b1 k q => ?_)
        have hin : ∀ x, x < n → bt (m ||| r) x = true → bt m x = true := fun x hx z => by
          rw [b_or, Bool.or_eq_true] at z
          rcases z with z | z
          · exact z
          · obtain ⟨y, y1, y2, y3, y4⟩ := (hr x (by omega)).mp z
            exact cl y x y1 y2 y3 y4
        show bt (m ||| r) b = true
        rw [b_or, Bool.or_eq_true]
        exact Or.inl (cl a b a1 b1 k (hin a a1 q))
      · refine Or.inr ?_
        rcases h3 with h3 | h3
        · exact absurd h3 cl
        · have : ∃ a b, a < n ∧ b < n ∧ K a b = 3 ∧ bt m a = true ∧ ¬ bt m b = true := by
            refine Classical.byContradiction (fun z => cl (fun a b a1 b1 k q => ?_))
            exact Classical.byContradiction (fun y => z ⟨a, b, a1, b1, k, q, y⟩)
          obtain ⟨a, b, a1, b1, k, q1, q2⟩ := this
          have lt := cnt_lt (p := bt m) (q := bt (m ||| r)) (m := n) (fun x _ z => by rw [b_or, z]; rfl) b b1 (by simpa using q2) (by
            rw [b_or, Bool.or_eq_true]
            exact Or.inr ((hr b (by omega)).mpr ⟨a, a1, b1, k, q1⟩))
          exact Nat.le_trans (Nat.succ_le_succ h3) lt
  · intro t hI
    obtain ⟨m, j⟩ := t
    obtain ⟨hj, h1, h2, h3⟩ := hI
    have hj : j = nI n := hj
    have h1 : bt m p = true := h1
    have h2 : ∀ S : Nat → Prop, clo n K S → S p → ∀ x, x < 32 → bt m x = true → S x := h2
    have h3 : clo n K (fun x => bt m x = true) ∨ n + 1 ≤ cnt (bt m) n := h3
    subst hj
    have cl : clo n K (fun x => bt m x = true) := by
      rcases h3 with h3 | h3
      · exact h3
      · exact absurd (Nat.le_trans h3 (cnt_le (bt m) n)) (Nat.not_succ_le_self n)
    unfold f_X1_isAbove_B8
    rw [E.1]
    refine oLe n n (by omega) (by omega) (fun _ => oBindE (hasBit_ok m (by omega)) (oCk (isB_bI _) (oWi (oRet ⟨bt m c, rfl, fun q S cS hS => h2 S cS hS c (by omega) q, fun q => q _ cl h1⟩)))) (fun z => by omega)
end AB

section AM
variable {n : Nat} {K : Nat → Nat → Nat} {τ : ZS}
/-- the model: the same -/
theorem above_ok (hn : n ≤ 10) (hK4 : ∀ i j, K i j < 4) (h0 : τ.1 0 = nI n) (hK : ∀ i j, i < 10 → j < 10 → τ.2.1 1 (10 * i + j) = nI (K i j)) {p c : Nat} (hp : p < n) (hc : c < n) (hpc : p ≠ c) : Ok (f_X7_above (nI p) τ) (fun r => bt r c = true ↔ ∀ S : Nat → Prop, clo n K S → S p → S c) := by
  unfold f_X7_above
  -- what every state of the set keeps
  refine oLoop (fun i t => t.2 = nI i ∧ (∀ S : Nat → Prop, clo n K S → S p → ∀ x, x < 32 → bt t.1 x = true → S x) ∧ (clo n K (fun x => x = p ∨ bt t.1 x = true) ∨ i ≤ cnt (bt t.1) n)) 10 (by omega) ⟨rfl, fun S _ _ x _ q => (by rw [b_0] at q; cases q), Or.inr (Nat.zero_le _)⟩ ?_ ?_
  · intro i t hi hI
    obtain ⟨m, j⟩ := t
    obtain ⟨hj, h1, h2⟩ := hI
    have hj : j = nI i := hj
    have h1' : ∀ S : Nat → Prop, clo n K S → S p → ∀ x, x < 32 → bt m x = true → S x := h1
    have h2' : clo n K (fun x => x = p ∨ bt m x = true) ∨ i ≤ cnt (bt m) n := h2
    clear h1 h2
    subst hj
    unfold f_X7_above_B4
    refine oLe 10 i (by omega) (by omega) (fun z => by omega) (fun _ => ?_)
    -- the end of a turn
    have fin : ∀ m' : Int32, (∀ x, x < 32 → bt m x = true → bt m' x = true) → (∀ S : Nat → Prop, clo n K S → S p → ∀ x, x < 32 → bt m' x = true → S x) → (∀ a b, a < n → b < n → K a b = 3 → (a = p ∨ bt m a = true) → bt m' b = true) → Sum.elim (fun t : Int32 × Int32 => t.2 = nI (i + 1) ∧ (∀ S : Nat → Prop, clo n K S → S p → ∀ x, x < 32 → bt t.1 x = true → S x) ∧ (clo n K (fun x => x = p ∨ bt t.1 x = true) ∨ i + 1 ≤ cnt (bt t.1) n)) (fun r => bt r c = true ↔ ∀ S : Nat → Prop, clo n K S → S p → S c) (.inl (m', nI i + 1)) := fun m' g1 g2 g3 => by
      refine ⟨nI_1 i, g2, ?_⟩
      show clo n K (fun x => x = p ∨ bt m' x = true) ∨ i + 1 ≤ cnt (bt m') n
      by_cases cl : clo n K (fun x => x = p ∨ bt m x = true)
      · refine Or.inl (fun a b a1 b1 k q => ?_)
        have hin : ∀ x, x < n → (x = p ∨ bt m' x = true) → (x = p ∨ bt m x = true) := fun x hx z => by
          rcases z with z | z
          · exact Or.inl z
          · exact g2 _ cl (Or.inl rfl) x (by omega) z
        rcases cl a b a1 b1 k (hin a a1 q) with z | z
        · exact Or.inl z
        · exact Or.inr (g1 b (by omega) z)
      · refine Or.inr ?_
        rcases h2' with h3 | h3
        · exact absurd h3 cl
        · have : ∃ a b, a < n ∧ b < n ∧ K a b = 3 ∧ (a = p ∨ bt m a = true) ∧ ¬ (b = p ∨ bt m b = true) := by
            refine Classical.byContradiction (fun z => cl (fun a b a1 b1 k q => ?_))
            exact Classical.byContradiction (fun y => z ⟨a, b, a1, b1, k, q, y⟩)
          obtain ⟨a, b, a1, b1, k, q1, q2⟩ := this
          have lt := cnt_lt (p := bt m) (q := bt m') (m := n) (fun x hx z => g1 x (by omega) z) b b1 (by simpa using fun z => q2 (Or.inr z)) (g3 a b a1 b1 k q1)
          exact Nat.le_trans (Nat.succ_le_succ h3) lt
    refine oLoop (fun a u => u.2 = nI a ∧ (∀ x, x < 32 → bt m x = true → bt u.1 x = true) ∧ (∀ S : Nat → Prop, clo n K S → S p → ∀ x, x < 32 → bt u.1 x = true → S x) ∧ ∀ a' b, a' < a → b < n → K a' b = 3 → (a' = p ∨ bt m a' = true) → bt u.1 b = true) n (by omega) ⟨rfl, fun _ _ q => q, h1', fun a' b q => by omega⟩ ?_ ?_
    · intro a u ha hJ
      obtain ⟨m1, j1⟩ := u
      obtain ⟨hj1, g1, g2, g3⟩ := hJ
      have hj1 : j1 = nI a := hj1
      have g1 : ∀ x, x < 32 → bt m x = true → bt m1 x = true := g1
      have g2 : ∀ S : Nat → Prop, clo n K S → S p → ∀ x, x < 32 → bt m1 x = true → S x := g2
      have g3 : ∀ a' b, a' < a → b < n → K a' b = 3 → (a' = p ∨ bt m a' = true) → bt m1 b = true := g3
      subst hj1
      unfold f_X7_above_B13
      rw [h0]
      refine oLe n a (by omega) (by omega) (fun z => by omega) (fun _ => ?_)
      refine oLoop (fun b w => w.2 = nI b ∧ (∀ x, x < 32 → bt m1 x = true → bt w.1 x = true) ∧ (∀ S : Nat → Prop, clo n K S → S p → ∀ x, x < 32 → bt w.1 x = true → S x) ∧ ∀ b', b' < b → K a b' = 3 → (a = p ∨ bt m a = true) → bt w.1 b' = true) n (by omega) ⟨rfl, fun _ _ q => q, g2, fun b' q => by omega⟩ ?_ ?_
      · intro b w hb hL
        obtain ⟨m2, j2⟩ := w
        obtain ⟨hj2, f1, f2, f3⟩ := hL
        have hj2 : j2 = nI b := hj2
        have f1 : ∀ x, x < 32 → bt m1 x = true → bt m2 x = true := f1
        have f2 : ∀ S : Nat → Prop, clo n K S → S p → ∀ x, x < 32 → bt m2 x = true → S x := f2
        have f3 : ∀ b', b' < b → K a b' = 3 → (a = p ∨ bt m a = true) → bt m2 b' = true := f3
        subst hj2
        have k4 := hK4 a b
        have keep : (K a b ≠ 3 ∨ ¬ (a = p ∨ bt m a = true)) → ∀ b', b' < b + 1 → K a b' = 3 → (a = p ∨ bt m a = true) → bt m2 b' = true := fun z b' hb' k q => by
          by_cases e : b' = b
          · subst e
            rcases z with z | z
            · exact absurd k z
            · exact absurd q z
          · exact f3 b' (by omega) k q
        have add : K a b = 3 → (a = p ∨ bt m2 a = true) → Ok (f_X7_above_J66 (nI p) m2 (nI i) (nI a) (nI b) τ) (Sum.elim (fun w : Int32 × Int32 => w.2 = nI (b + 1) ∧ (∀ x, x < 32 → bt m1 x = true → bt w.1 x = true) ∧ (∀ S : Nat → Prop, clo n K S → S p → ∀ x, x < 32 → bt w.1 x = true → S x) ∧ ∀ b', b' < b + 1 → K a b' = 3 → (a = p ∨ bt m a = true) → bt w.1 b' = true) (Sum.elim (fun u : Int32 × Int32 => u.2 = nI (a + 1) ∧ (∀ x, x < 32 → bt m x = true → bt u.1 x = true) ∧ (∀ S : Nat → Prop, clo n K S → S p → ∀ x, x < 32 → bt u.1 x = true → S x) ∧ ∀ a' b, a' < a + 1 → b < n → K a' b = 3 → (a' = p ∨ bt m a' = true) → bt u.1 b = true) (Sum.elim (fun t : Int32 × Int32 => t.2 = nI (i + 1) ∧ (∀ S : Nat → Prop, clo n K S → S p → ∀ x, x < 32 → bt t.1 x = true → S x) ∧ (clo n K (fun x => x = p ∨ bt t.1 x = true) ∨ i + 1 ≤ cnt (bt t.1) n)) (fun r => bt r c = true ↔ ∀ S : Nat → Prop, clo n K S → S p → S c)))) := fun k q => by
          unfold f_X7_above_J66
          refine oRet ⟨nI_1 b, fun x hx z => ?_, fun S cS hS x hx z => ?_, fun b' hb' k' q' => ?_⟩
          · show bt (m2 ||| bm b) x = true
            rw [b_or, f1 x hx z]; rfl
          · have z : bt (m2 ||| bm b) x = true := z
            rw [b_or, Bool.or_eq_true, b_bm b (by omega) x hx, decide_eq_true_eq] at z
            rcases z with z | z
            · exact f2 S cS hS x hx z
            · rw [z]
              refine cS a b ha hb k ?_
              rcases q with q | q
              · rw [q]; exact hS
              · exact f2 S cS hS a (by omega) q
          · show bt (m2 ||| bm b) b' = true
            rw [b_or, Bool.or_eq_true, b_bm b (by omega) b' (by omega), decide_eq_true_eq]
            by_cases e : b' = b
            · exact Or.inr e
            · exact Or.inl (f3 b' (by omega) k' q')
        unfold f_X7_above_B25
        rw [h0]
        refine oLe n b (by omega) (by omega) (fun z => by omega) (fun _ => ?_)
        show Ok (ld _ 100 (((10 : Int32) * nI a) + nI b) _) _
        rw [ix10]
        refine oLd (by omega) (by omega) ?_
        rw [hK a b (by omega) (by omega)]
        refine oNe (K a b) 3 (by omega) (by omega) (fun z => ?_) (fun z => oRet ⟨nI_1 b, f1, f2, keep (Or.inl z)⟩)
        refine oNe a p (by omega) (by omega) (fun y => add z (Or.inl y)) (fun y => oBindE (isOf_ok m2 (by omega)) ?_)
        cases hq : bt m2 a with
        | true => exact oF one_ne (add z (Or.inr hq))
        | false => exact oT rfl (oRet ⟨nI_1 b, f1, f2, keep (Or.inr (fun v => by
            rcases v with v | v
            · exact y v
            · have := f1 a (by omega) (g1 a (by omega) v)
              rw [hq] at this; cases this))⟩)
      · intro w hL
        obtain ⟨m2, j2⟩ := w
        obtain ⟨hj2, f1, f2, f3⟩ := hL
        have hj2 : j2 = nI n := hj2
        have f1 : ∀ x, x < 32 → bt m1 x = true → bt m2 x = true := f1
        have f3 : ∀ b', b' < n → K a b' = 3 → (a = p ∨ bt m a = true) → bt m2 b' = true := f3
        subst hj2
        unfold f_X7_above_B25
        rw [h0]
        refine oLe n n (by omega) (by omega) (fun _ => oWi (oRet ⟨nI_1 a, fun x hx z => f1 x hx (g1 x hx z), f2, fun a' b ha' hb k q => ?_⟩)) (fun z => by omega)
        by_cases e : a' = a
        · subst e; exact f3 b hb k q
        · exact f1 b (by omega) (g3 a' b (by omega) hb k q)
    · intro u hJ
      obtain ⟨m1, j1⟩ := u
      obtain ⟨hj1, g1, g2, g3⟩ := hJ
      have hj1 : j1 = nI n := hj1
      subst hj1
      unfold f_X7_above_B13
      rw [h0]
      exact oLe n n (by omega) (by omega) (fun _ => oWi (oRet (fin m1 g1 g2 g3))) (fun z => by omega)
  · intro t hI
    obtain ⟨m, j⟩ := t
    obtain ⟨hj, h1, h2⟩ := hI
    have hj : j = nI 10 := hj
    have h1' : ∀ S : Nat → Prop, clo n K S → S p → ∀ x, x < 32 → bt m x = true → S x := h1
    have h2' : clo n K (fun x => x = p ∨ bt m x = true) ∨ 10 ≤ cnt (bt m) n := h2
    subst hj
    have cl : clo n K (fun x => x = p ∨ bt m x = true) := by
      rcases h2' with h3 | h3
      · exact h3
      · intro a b _ b1 _ _
        exact Or.inr (cnt_full (p := bt m) (m := n) (by omega) b b1)
    unfold f_X7_above_B4
    refine oT (show (10 : Int32) ≤ nI 10 by decide) (oWi (oRet ?_))
    exact ⟨fun q S cS hS => h1' S cS hS c (by omega) q, fun q => by
      rcases q _ cl (Or.inl rfl) with z | z
      · exact absurd z.symm hpc
      · exact z⟩
end AM
