/-! Sets of houses by their size, then by number: the search of the first that passes -/
def key (s : Nat) : Nat := pop s * 1024 + s
theorem pop_le : ∀ n, n < 11 → ∀ u, u < 2 ^ n → pop u ≤ n := by decide +kernel
theorem pop_min : ∀ u, u < 1024 → 2 ^ pop u ≤ u + 1 := by decide +kernel
theorem pop_full : ∀ c, c < 10 → pop (2 ^ (c + 1) - 1) = c + 1 := by decide +kernel
theorem one_shl : ∀ n, n < 11 → (1 : Int32) <<< (nI n &&& 31) = nI (2 ^ n) := by decide +kernel
theorem two_shl : ∀ c, c < 11 → ((2 : Int32) <<< (nI c &&& 31)) - 1 = nI (2 ^ (c + 1) - 1) := by decide +kernel
theorem two10 {n : Nat} (hn : n ≤ 10) : 2 ^ n ≤ 1024 := Nat.pow_le_pow_right (n := 2) (by decide) hn
theorem pop10 {s : Nat} (hs : s < 1024) : pop s ≤ 10 := pop_le 10 (by decide) s hs
theorem key_inj {s t : Nat} (hs : s < 1024) (ht : t < 1024) (h : key s = key t) : s = t := by
  unfold key at h
  omega
theorem nextSet_ok {n : Nat} {σ : ZS} (hn : n ≤ 10) (hs0 : σ.1 0 = nI n) {s : Nat} (hs : s < 2 ^ n) : (∃ t, t < 2 ^ n ∧ f_X6_nextSet (nI s) σ = some (nI t) ∧ key s < key t ∧ ∀ u, u < 2 ^ n → key s < key u → key t ≤ key u) ∨ (f_X6_nextSet (nI s) σ = some (-1) ∧ ∀ u, u < 2 ^ n → key u ≤ key s) := by
  have h1024 := two10 hn
  have hb := bitCount_ok s (by omega)
  have hp : pop s ≤ n := pop_le n (by omega) s hs
  have hN : f_X1_number σ = some (nI n) := by
    show some (σ.1 0) = _
    rw [hs0]
  have hJ : f_X6_nextSet_J44 (nI (pop s)) σ = some (if n ≤ pop s then -1 else nI (2 ^ (pop s + 1) - 1)) := by
    unfold f_X6_nextSet_J44
    rw [hN]
    show (if nI n ≤ nI (pop s) then some (-1) else some (((2 : Int32) <<< (nI (pop s) &&& 31)) - 1)) = _
    by_cases c : n ≤ pop s
    · rw [if_pos c, if_pos (nI_le c (by omega))]
    · rw [if_neg c, if_neg (nI_ge (by omega) (by omega)), two_shl _ (by omega)]
  have e : f_X6_nextSet (nI s) σ = lp zF (f_X6_nextSet_B20 (nI (pop s)) (nI (2 ^ n)) σ) (nI (s + 1)) := by
    unfold f_X6_nextSet
    rw [hb, Option.bind_some, hN, Option.bind_some, one_shl n (by omega), nI_1]
  rw [e]
  have hl : Ok (lp zF (f_X6_nextSet_B20 (nI (pop s)) (nI (2 ^ n)) σ) (nI (s + 1))) (fun r => (∃ t, s < t ∧ t < 2 ^ n ∧ pop t = pop s ∧ r = nI t ∧ ∀ u, s < u → u < t → pop u ≠ pop s) ∨ ((∀ u, s < u → u < 2 ^ n → pop u ≠ pop s) ∧ r = (if n ≤ pop s then -1 else nI (2 ^ (pop s + 1) - 1)))) := by
    refine oLoop (fun i t => t = nI (s + 1 + i) ∧ s + 1 + i ≤ 2 ^ n ∧ ∀ u, s < u → u < s + 1 + i → pop u ≠ pop s) (2 ^ n - (s + 1)) (by omega) ⟨rfl, by omega, fun u h1 h2 => by omega⟩ ?_ ?_
    · rintro i t hi ⟨rfl, h1, h2⟩
      unfold f_X6_nextSet_B20
      refine oLe _ _ (by omega) (by omega) (fun q => by omega) (fun _ => ?_)
      refine oBindE (bitCount_ok _ (by omega)) ?_
      have hp1 := pop10 (s := s + 1 + i) (by omega)
      refine oNe _ _ (by omega) (by omega) (fun q => oWi (oRet (Or.inl ⟨s + 1 + i, by omega, by omega, q, rfl, h2⟩))) (fun q => oRet ⟨nI_1 _, by omega, fun u a b => ?_⟩)
      rcases Nat.lt_or_ge u (s + 1 + i) with c | c
      · exact h2 u a c
      · have : u = s + 1 + i := by omega
        rw [this]; exact q
    · rintro t ⟨rfl, h1, h2⟩
      have e2 : s + 1 + (2 ^ n - (s + 1)) = 2 ^ n := by omega
      rw [e2] at h2 ⊢
      unfold f_X6_nextSet_B20
      refine oLe _ _ (by omega) (by omega) (fun _ => ?_) (fun q => by omega)
      refine oWi ?_
      rw [hJ]
      exact oRet (Or.inr ⟨h2, rfl⟩)
  obtain ⟨r, er, h⟩ := hl
  rw [er]
  rcases h with ⟨t, h1, h2, h3, rfl, h5⟩ | ⟨h1, rfl⟩
  · refine Or.inl ⟨t, h2, rfl, by unfold key; omega, fun u hu hk => ?_⟩
    unfold key at hk ⊢
    rcases Nat.lt_or_ge (pop s) (pop u) with c | c
    · omega
    · have c2 : pop u = pop s := by omega
      rcases Nat.lt_or_ge u t with d | d
      · exact absurd c2 (h5 u (by omega) d)
      · omega
  · by_cases c : n ≤ pop s
    · rw [if_pos c]
      refine Or.inr ⟨rfl, fun u hu => ?_⟩
      have := pop_le n (by omega) u hu
      unfold key
      rcases Nat.lt_or_ge (pop u) (pop s) with d | d
      · omega
      · have d2 : pop u = pop s := by omega
        rcases Nat.lt_or_ge s u with d3 | d3
        · exact absurd d2 (h1 u d3 hu)
        · omega
    · rw [if_neg c]
      have hw : 2 ^ (pop s + 1) ≤ 2 ^ n := Nat.pow_le_pow_right (n := 2) (by decide) (by omega)
      have hw1 : 1 ≤ 2 ^ (pop s + 1) := Nat.one_le_two_pow
      have hf := pop_full (pop s) (by omega)
      refine Or.inl ⟨2 ^ (pop s + 1) - 1, by omega, rfl, by unfold key; rw [hf]; omega, fun u hu hk => ?_⟩
      unfold key at hk ⊢
      rw [hf]
      rcases Nat.lt_or_ge (pop s + 1) (pop u) with d | d
      · omega
      · rcases Nat.lt_or_ge (pop s) (pop u) with d1 | d1
        · have d2 : pop u = pop s + 1 := by omega
          have := pop_min u (by omega)
          rw [d2] at this
          omega
        · have d2 : pop u = pop s := by omega
          exact absurd d2 (h1 u (by omega) hu)
theorem cnt_none {p : Nat → Bool} : ∀ {m : Nat}, (∀ i, i < m → p i = false) → cnt p m = 0 := by
  intro m
  induction m with
  | zero => intro _; rfl
  | succ m ih =>
    intro h
    show cnt p m + (if p m = true then 1 else 0) = 0
    rw [ih (fun i hi => h i (by omega)), h m (by omega)]
    rfl
theorem cntEq {s : Nat} : ∀ {m : Nat}, s < m → cnt (fun u => decide (u = s)) m = 1 := by
  intro m
  induction m with
  | zero => intro h; omega
  | succ m ih =>
    intro h
    show cnt (fun u => decide (u = s)) m + (if decide (m = s) = true then 1 else 0) = 1
    rcases Nat.lt_or_ge s m with c | c
    · rw [ih c, if_neg (by rw [decide_eq_true_eq]; omega)]
    · rw [cnt_none (fun i hi => decide_eq_false (by omega)), if_pos (decide_eq_true (by omega))]
def below (n s : Nat) (u : Nat) : Bool := decide (u < 2 ^ n) && decide (key u < key s)
theorem below_iff {n s u : Nat} : below n s u = true ↔ u < 2 ^ n ∧ key u < key s := by
  unfold below
  rw [Bool.and_eq_true, decide_eq_true_eq, decide_eq_true_eq]
theorem below_lt {n s : Nat} (hn : n ≤ 10) (hs : s < 2 ^ n) : cnt (below n s) 1024 < 1024 := by
  have h1024 := two10 hn
  have h := cnt_split (p := fun u => below n s u || decide (u = s)) (q := below n s) (r := fun u => decide (u = s)) (fun i => ⟨by rw [Bool.or_eq_true], fun z => by
    have z1 := (below_iff.mp z.1).2
    have z2 := of_decide_eq_true z.2
    rw [z2] at z1
    omega⟩) 1024
  rw [cntEq (s := s) (m := 1024) (by omega)] at h
  have := cnt_le (fun u => below n s u || decide (u = s)) 1024
  omega
/-- the search stands at v at its i-th try -/
def SI (n : Nat) (P : Nat → Prop) (i : Nat) (v : Int32) : Prop := (∃ s, v = nI s ∧ s < 2 ^ n ∧ cnt (below n s) 1024 = i ∧ ∀ t, t < 2 ^ n → key t < key s → ¬ P t) ∨ (v = -1 ∧ ∀ t, t < 2 ^ n → ¬ P t)
/-- what it must come to -/
def Res (n : Nat) (P : Nat → Prop) (v : Int32) : Prop := (∃ s, v = nI s ∧ s < 2 ^ n ∧ P s ∧ ∀ t, t < 2 ^ n → P t → key s ≤ key t) ∨ (v = -1 ∧ ∀ t, t < 2 ^ n → ¬ P t)
theorem SI_0 {n : Nat} {P : Nat → Prop} : SI n P 0 0 := Or.inl ⟨0, rfl, Nat.two_pow_pos n, cnt_none (fun i _ => by
  have k0 : key 0 = 0 := by decide
  cases h : below n 0 i with
  | false => rfl
  | true => have := (below_iff.mp h).2; omega), fun t _ h => by
  have k0 : key 0 = 0 := by decide
  omega⟩
theorem SI_step {n : Nat} {P : Nat → Prop} {σ : ZS} {i s : Nat} (hn : n ≤ 10) (hs0 : σ.1 0 = nI n) (hs : s < 2 ^ n) (hc : cnt (below n s) 1024 = i) (hP : ∀ t, t < 2 ^ n → key t < key s → ¬ P t) (hp : ¬ P s) : Ok (f_X6_nextSet (nI s) σ) (SI n P (i + 1)) := by
  have h1024 := two10 hn
  have all : ∀ u, u < 2 ^ n → key u ≤ key s → ¬ P u := fun u hu hk => by
    rcases Nat.lt_or_ge (key u) (key s) with c | c
    · exact hP u hu c
    · rw [key_inj (by omega) (by omega) (show key u = key s by omega)]; exact hp
  rcases nextSet_ok hn hs0 hs with ⟨t, ht, e, k1, k2⟩ | ⟨e, k⟩
  · refine ⟨nI t, e, Or.inl ⟨t, rfl, ht, ?_, fun u hu hk => all u hu (Nat.le_of_not_lt (fun z => by have := k2 u hu z; omega))⟩⟩
    rw [cnt_split (p := below n t) (q := below n s) (r := fun u => decide (u = s)) (fun u => ⟨?_, fun z => ?_⟩) 1024, hc, cntEq (s := s) (m := 1024) (by omega)]
    · rw [below_iff, below_iff, decide_eq_true_eq]
      constructor
      · rintro ⟨a, b⟩
        rcases Nat.lt_or_ge (key u) (key s) with c | c
        · exact Or.inl ⟨a, c⟩
        · refine Or.inr (key_inj (by omega) (by omega) ?_)
          rcases Nat.lt_or_ge (key s) (key u) with d | d
          · have := k2 u a d; omega
          · omega
      · rintro (⟨a, b⟩ | rfl)
        · exact ⟨a, by omega⟩
        · exact ⟨hs, k1⟩
    · have z1 := (below_iff.mp z.1).2
      have z2 := of_decide_eq_true z.2
      rw [z2] at z1
      omega
  · exact ⟨-1, e, Or.inr ⟨rfl, fun u hu => all u hu (k u hu)⟩⟩
theorem Res_uniq {n : Nat} {P : Nat → Prop} {v w : Int32} (hn : n ≤ 10) (h1 : Res n P v) (h2 : Res n P w) : v = w := by
  have h1024 := two10 hn
  rcases h1 with ⟨s, rfl, a1, a2, a3⟩ | ⟨rfl, a⟩ <;> rcases h2 with ⟨t, rfl, b1, b2, b3⟩ | ⟨rfl, b⟩
  · rw [key_inj (by omega) (by omega) (Nat.le_antisymm (a3 t b1 b2) (b3 s a1 a2))]
  · exact absurd a2 (b s a1)
  · exact absurd b2 (a t b1)
  · rfl
