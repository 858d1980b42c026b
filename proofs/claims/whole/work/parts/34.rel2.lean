/-- the house nearest to the end that sent on what it should not -/
def bkF (K : Nat → Nat → Nat) (l : List Nat) : Nat → Option Nat
  | 0 => none
  | i + 1 => if K (l.getD (i + 1) 0) (l.getD i 0) ≠ 1 ∧ K (l.getD (i + 1) 0) (l.getD (i + 2) 0) ≠ 1 then some (l.getD (i + 1) 0) else bkF K l i
theorem gD {l : List Nat} {i : Nat} (h : i < l.length) : l[i]? = some (l.getD i 0) := by
  rw [List.getD_eq_getElem?_getD, List.getElem?_eq_getElem h]; rfl
section RB
variable {n : Nat} {K : Nat → Nat → Nat} {lk rf : Int32} {hol : Nat → Int32} {nr : Nat} {rb : Nat → Nat} {ns : Nat} {sb sh : Nat → Nat} {σ τ : ZS} {W : Nat → List Nat}
theorem breaker_ok {Sy : Nat → Nat → Bool} (E : EC n K lk hol Sy σ) (G : GI n K hol Sy) (hW : WI n W) (hN : eW σ 15 W) {y : Nat} (hy : y < n) : f_X4_breaker (nI y) σ = some (oI (bkF K (W y) ((W y).length - 2))) := by
  have hn := G.1
  have hlen := hW.len y
  obtain ⟨l, hl⟩ : ∃ l, l = W y := ⟨_, rfl⟩
  have hall : ∀ i, i < l.length → l.getD i 0 < n := fun i hi => by rw [hl] at hi ⊢; exact hW.lt (gD hi)
  have hat : ∀ i, i < l.length → f_X5_at_n (nI y) (nI i) σ = some (nI (l.getD i 0)) := fun i hi => by
    rw [at_n_ok hW hn hN (by omega) (by rw [hl] at hi; omega), ← hl, gD hi]; rfl
  apply oEq
  unfold f_X4_breaker
  refine oBindE (length_n_ok hW hn hN (by omega)) ?_
  rw [← hl]
  rw [← hl] at hlen
  by_cases c : l.length < 2
  · refine oDown (fun t => t = nI l.length - 2) (fun _ => 0) rfl (by omega) (fun t ht => ?_)
    subst ht
    unfold f_X4_breaker_B11
    refine oT ?_ (oWi (oRet ?_))
    · rcases (show l.length = 0 ∨ l.length = 1 by omega) with z | z <;> rw [z] <;> decide
    · rw [show l.length - 2 = 0 by omega]; rfl
  · rw [show nI l.length - 2 = nI (l.length - 2) from pk_sub (a := l.length) (b := 2) (by omega)]
    refine oDown (fun t => ∃ i, t = nI i ∧ i ≤ l.length - 2 ∧ bkF K l (l.length - 2) = bkF K l i) (fun t => t.toNatClampNeg) ⟨_, rfl, Nat.le_refl _, rfl⟩ (by rw [nI_clamp (by omega)]; omega) (fun t ht => ?_)
    obtain ⟨i, rfl, h1, h2⟩ := ht
    unfold f_X4_breaker_B11
    refine oLt i 1 (by omega) (by omega) (fun q => oWi (oRet ?_)) (fun q => ?_)
    · rw [h2, show i = 0 by omega]; rfl
    · obtain ⟨k, rfl⟩ : ∃ k, i = k + 1 := ⟨i - 1, by omega⟩
      have er : bkF K l (k + 1) = if K (l.getD (k + 1) 0) (l.getD k 0) ≠ 1 ∧ K (l.getD (k + 1) 0) (l.getD (k + 2) 0) ≠ 1 then some (l.getD (k + 1) 0) else bkF K l k := rfl
      have a0 := hall k (by omega)
      have a1 := hall (k + 1) (by omega)
      have a2 := hall (k + 2) (by omega)
      have k1 := G.2.1 (l.getD (k + 1) 0) (l.getD k 0)
      have k2 := G.2.1 (l.getD (k + 1) 0) (l.getD (k + 2) 0)
      have go : ¬ (K (l.getD (k + 1) 0) (l.getD k 0) ≠ 1 ∧ K (l.getD (k + 1) 0) (l.getD (k + 2) 0) ≠ 1) → Sum.elim (fun t' : Int32 => (∃ i, t' = nI i ∧ i ≤ l.length - 2 ∧ bkF K l (l.length - 2) = bkF K l i) ∧ t'.toNatClampNeg < (nI (k + 1)).toNatClampNeg) (fun r => r = oI (bkF K l (l.length - 2))) (.inl (nI (k + 1) + (-1))) := fun z => by
        rw [pk_m1]
        refine ⟨⟨k, rfl, by omega, by rw [h2, er, if_neg z]⟩, ?_⟩
        rw [nI_clamp (by omega), nI_clamp (by omega)]; omega
      have J84 : ∀ s0 s1 : Bool, (s0 = true ↔ K (l.getD (k + 1) 0) (l.getD k 0) = 1) → (s1 = true ↔ K (l.getD (k + 1) 0) (l.getD (k + 2) 0) = 1) → Ok (f_X4_breaker_J84 (nI y) (nI (k + 1)) (nI (l.getD (k + 1) 0)) (bI s0) (bI s1) σ) (Sum.elim (fun t' : Int32 => (∃ i, t' = nI i ∧ i ≤ l.length - 2 ∧ bkF K l (l.length - 2) = bkF K l i) ∧ t'.toNatClampNeg < (nI (k + 1)).toNatClampNeg) (fun r => r = oI (bkF K l (l.length - 2)))) := by
        intro s0 s1 e0 e1
        unfold f_X4_breaker_J84
        cases s0 with
        | true => exact oF one_ne (oRet (go (fun z => z.1 (e0.mp rfl))))
        | false =>
          refine oT rfl ?_
          cases s1 with
          | true => exact oF one_ne (oRet (go (fun z => z.2 (e1.mp rfl))))
          | false =>
            refine oT rfl (oWi (oRet ?_))
            rw [h2, er, if_pos ⟨fun z => (by have := e0.mpr z; cases this), fun z => (by have := e1.mpr z; cases this)⟩]; rfl
      have J54 : ∀ s0 : Bool, (s0 = true ↔ K (l.getD (k + 1) 0) (l.getD k 0) = 1) → Ok (f_X4_breaker_J54 (nI y) (nI (k + 1)) (nI (l.getD (k + 1) 0)) (bI s0) σ) (Sum.elim (fun t' : Int32 => (∃ i, t' = nI i ∧ i ≤ l.length - 2 ∧ bkF K l (l.length - 2) = bkF K l i) ∧ t'.toNatClampNeg < (nI (k + 1)).toNatClampNeg) (fun r => r = oI (bkF K l (l.length - 2)))) := by
        intro s0 e0
        unfold f_X4_breaker_J54
        rw [nI_1]
        refine oBindE (hat (k + 2) (by omega)) (oBindE (kind_ok E G (by omega) (by omega)) ?_)
        exact oNe _ 1 (by omega) (by omega) (fun z => J84 s0 true e0 ⟨fun _ => z, fun _ => rfl⟩) (fun z => J84 s0 false e0 ⟨fun w => (by cases w), fun w => absurd w z⟩)
      refine oBindE (hat (k + 1) (by omega)) ?_
      rw [nI_pred]
      refine oBindE (hat k (by omega)) (oBindE (kind_ok E G (by omega) (by omega)) ?_)
      exact oNe _ 1 (by omega) (by omega) (fun z => J54 true ⟨fun _ => z, fun _ => rfl⟩) (fun z => J54 false ⟨fun w => (by cases w), fun w => absurd w z⟩)
theorem broken_same (h : RX n K lk rf hol nr rb ns sb sh σ τ) (l f x : Int32) : Same (f_X6_broken l f x σ) (f_X7_broken l f x τ) := by
  have G := h.1
  have hn := G.1
  rcases has_ok h.2.1 G x with ⟨q1, q2⟩ | ⟨y, hy, rfl, q1⟩
  · rcases isHouse_ok h.2.2.1.1 hn x with ⟨z1, z2⟩ | ⟨y, hy, e, -⟩
    · refine h.same (v := -2) ?_ ?_
      · unfold f_X6_broken
        rcases blk_cases l f with ⟨a1, -⟩ | ⟨b, -, -, -, a1, -⟩ <;> exact oBindE a1 (oBindE q1 (oT rfl (oRet ⟨rfl, PD.rf⟩)))
      · unfold f_X7_broken
        exact oBindE z1 (oT rfl (oRet ⟨rfl, PN.rf⟩))
    · exact absurd e (q2 y hy)
  · have q3 := isHouse_1 h.2.2.1.1 hn hy
    rcases ask_ok h l f with ⟨v, v0, vn, ⟨q, a1, a2⟩, a3⟩ | ⟨b, hb, a1, a2, a3⟩
    · refine h.same (v := v) ?_ ?_
      · unfold f_X6_broken
        exact oBindE a1 (oBindE q1 (oF one_ne (oBindE a2 (oF vn (oRet ⟨rfl, PD.rf⟩)))))
      · unfold f_X7_broken
        exact oBindE q3 (oF one_ne (oBindE a3 (oF (neg_nle v0) (oRet ⟨rfl, PN.rf⟩))))
    · obtain ⟨l, hl⟩ : ∃ l, l = (sEnd n K lk hol (syOf sb sh ns) rf b).2 y := ⟨_, rfl⟩
      refine h.same (v := oI (bkF K l (l.length - 2))) ?_ ?_
      · unfold f_X6_broken
        refine oBindE a1 (oBindE q1 (oF one_ne (oBindE a2 (oT rfl (oBindE (v := rf) (by unfold f_X1_refusing; rw [h.2.2.2.1.1]) ?_)))))
        refine oBind (settle_ok h.2.1 G hb.1 hb.2 rf) (fun r hr => ?_)
        obtain ⟨r1, r2, r3, r4⟩ := hr
        rw [hl]
        exact oBindE (breaker_ok (h.2.1.pc r1) G r2 r3 hy) (oRet ⟨rfl, PD.of r1⟩)
      · unfold f_X7_broken
        refine oBindE q3 (oF one_ne (oBind a3 (fun r hr => ?_)))
        obtain ⟨r1, r2, r3, r4, r5, r6⟩ := hr
        obtain ⟨m1, m2⟩ := r4 y hy
        have hlen := r3.len y
        have M' := h.2.2.1.pm r2
        rw [← hl] at m1 m2 hlen
        have hall : ∀ i, i < l.length → l.getD i 0 < n := fun i hi => by rw [hl] at hi ⊢; exact r3.lt (gD hi)
        have hat : ∀ i, i < l.length → r.2.2.1 8 (10 * y + i) = nI (l.getD i 0) := fun i hi => m2 i _ (gD hi)
        refine oT (by rw [r1]; decide) (oLd (by omega) (by omega) ?_)
        rw [show r.2.2.1 9 y = nI l.length from m1]
        by_cases c : l.length < 2
        · refine oDown (fun t => t = nI l.length - 2) (fun _ => 0) rfl (by omega) (fun t ht => ?_)
          subst ht
          unfold f_X7_broken_B37
          refine oT ?_ (oWi (oRet ⟨?_, PN.of r2⟩))
          · rcases (show l.length = 0 ∨ l.length = 1 by omega) with z | z <;> rw [z] <;> decide
          · rw [show l.length - 2 = 0 by omega]; rfl
        · rw [show nI l.length - 2 = nI (l.length - 2) from pk_sub (a := l.length) (b := 2) (by omega)]
          refine oDown (fun t => ∃ i, t = nI i ∧ i ≤ l.length - 2 ∧ bkF K l (l.length - 2) = bkF K l i) (fun t => t.toNatClampNeg) ⟨_, rfl, Nat.le_refl _, rfl⟩ (by rw [nI_clamp (by omega)]; omega) (fun t ht => ?_)
          obtain ⟨i, rfl, h1, h2⟩ := ht
          unfold f_X7_broken_B37
          refine oLe i 0 (by omega) (by omega) (fun q => oWi (oRet ⟨?_, PN.of r2⟩)) (fun q => ?_)
          · rw [h2, show i = 0 by omega]; rfl
          · obtain ⟨k, rfl⟩ : ∃ k, i = k + 1 := ⟨i - 1, by omega⟩
            have er : bkF K l (k + 1) = if K (l.getD (k + 1) 0) (l.getD k 0) ≠ 1 ∧ K (l.getD (k + 1) 0) (l.getD (k + 2) 0) ≠ 1 then some (l.getD (k + 1) 0) else bkF K l k := rfl
            have a0 := hall k (by omega)
            have a1 := hall (k + 1) (by omega)
            have a2 := hall (k + 2) (by omega)
            have k1 := G.2.1 (l.getD (k + 1) 0) (l.getD k 0)
            have k2 := G.2.1 (l.getD (k + 1) 0) (l.getD (k + 2) 0)
            have go : ¬ (K (l.getD (k + 1) 0) (l.getD k 0) ≠ 1 ∧ K (l.getD (k + 1) 0) (l.getD (k + 2) 0) ≠ 1) → Sum.elim (fun t' : Int32 => (∃ i, t' = nI i ∧ i ≤ l.length - 2 ∧ bkF K l (l.length - 2) = bkF K l i) ∧ t'.toNatClampNeg < (nI (k + 1)).toNatClampNeg) (fun s : Int32 × ZS => s.1 = oI (bkF K l (l.length - 2)) ∧ PN τ s.2) (.inl (nI (k + 1) + (-1))) := fun z => by
              rw [pk_m1]
              refine ⟨⟨k, rfl, by omega, by rw [h2, er, if_neg z]⟩, ?_⟩
              rw [nI_clamp (by omega), nI_clamp (by omega)]; omega
            have e1 : (((10 : Int32) * nI y) + nI (k + 1)) - 1 = nI (10 * y + k) := by
              rw [ix10, show 10 * y + (k + 1) = (10 * y + k) + 1 by omega, nI_pred]
            have e2 : (((10 : Int32) * nI y) + nI (k + 1)) + 1 = nI (10 * y + (k + 2)) := by
              rw [ix10, nI_1]; rfl
            rw [e1, e2, ix10]
            refine oLd (by omega) (by omega) ?_
            rw [hat (k + 1) (by omega)]
            refine oLd (by omega) (by omega) ?_
            rw [hat k (by omega), ix10]
            refine oLd (by omega) (by omega) ?_
            rw [M'.2.2.1 _ _ (by omega) (by omega)]
            refine oNe _ 1 (by omega) (by omega) (fun z => oRet (go (fun w => w.1 z))) (fun z => oLd (by omega) (by omega) ?_)
            rw [hat (k + 2) (by omega), ix10]
            refine oLd (by omega) (by omega) ?_
            rw [M'.2.2.1 _ _ (by omega) (by omega)]
            refine oNe _ 1 (by omega) (by omega) (fun w => oRet (go (fun v => v.2 w))) (fun w => oWi (oRet ⟨?_, PN.of r2⟩))
            rw [h2, er, if_pos ⟨z, w⟩]; rfl
theorem rightful_same (h : RX n K lk rf hol nr rb ns sb sh σ τ) (l f : Int32) : SameP (f_X6_rightful l f σ) (f_X7_rightful l f τ) := by
  rcases blk_cases l f with ⟨a1, a2⟩ | ⟨b, hb, rfl, rfl, a1, a2⟩
  · refine ⟨-2, ?_, ?_⟩
    · unfold f_X6_rightful; rw [a1]; rfl
    · unfold f_X7_rightful; rw [a2]; rfl
  · have e0 : ¬ nI b = -2 := fun z => by
      have h1 := nI_toInt (n := b) (by omega)
      rw [z] at h1
      have h2 : (-2 : Int32).toInt = -2 := by decide
      omega
    refine ⟨own8 hol b, oEq ?_, oEq ?_⟩
    · unfold f_X6_rightful
      exact oBindE a1 (oF e0 (oBindE (owner_ok h.2.1 hb.2) (oRet rfl)))
    · unfold f_X7_rightful
      exact oBindE a2 (oF one_ne (oBindE (rightful_ok h.2.2.1.2.2.2.1 hb) (oRet rfl)))
/-- the number of a saying -/
theorem say_cases (h : RX n K lk rf hol nr rb ns sb sh σ τ) (x : Int32) : (f_X3_has x σ = some 0 ∧ f_X7_in x 0 ((τ.1 2) - 1) = some 0) ∨ ∃ k, k < ns ∧ x = nI k ∧ f_X3_has x σ = some 1 ∧ f_X7_in x 0 ((τ.1 2) - 1) = some 1 := by
  obtain ⟨G, E, M, -, -, -, h5, h6, -, -⟩ := h
  unfold f_X3_has f_X7_in
  rw [h5, M.2.2.2.2.1]
  by_cases c0 : x < 0
  · rw [if_pos c0, if_pos c0]; exact Or.inl ⟨rfl, rfl⟩
  · rw [if_neg c0, if_neg c0]
    obtain ⟨j, hj, rfl⟩ := nI_of c0
    by_cases c1 : ns ≤ j
    · rw [if_pos ((nI_leI (by omega) hj).mpr c1), if_pos]
      · exact Or.inl ⟨rfl, rfl⟩
      · cases ns with
        | zero =>
          rw [Int32.lt_iff_toInt_lt, nI_toInt hj]
          have : (nI 0 - 1).toInt = -1 := by decide
          omega
        | succ m => rw [nI_pred]; exact (nI_ltI (by omega) hj).mpr (by omega)
    · rw [if_neg (fun z => c1 ((nI_leI (by omega) hj).mp z)), if_neg (show ¬ (16 : Int32) ≤ nI j from nI_ge (b := 16) (by omega) (by omega)), if_neg]
      · exact Or.inr ⟨j, by omega, rfl, rfl, rfl⟩
      · obtain ⟨m, rfl⟩ : ∃ m, ns = m + 1 := ⟨ns - 1, by omega⟩
        rw [nI_pred]
        exact nI_nlt (by omega) (by omega)
/-- whether a saying is false -/
def flS (hol : Nat → Int32) (sb sh : Nat → Nat) (k : Nat) : Bool := !decide (own8 hol (sb k) = -1) && !decide (own8 hol (sb k) = nI (sh k))
theorem block_ok (h : RX n K lk rf hol nr rb ns sb sh σ τ) {k : Nat} (hk : k < ns) : f_X3_has (nI k) σ = some 1 ∧ f_X3_block (nI k) σ = some (nI (sb k)) ∧ f_X3_sayer (nI k) σ = some (nI (sh k)) := by
  have hs : f_X3_has (nI k) σ = some 1 := by
    rcases say_cases h (nI k) with ⟨-, b⟩ | ⟨j, -, -, a, -⟩
    · exfalso
      unfold f_X7_in at b
      rw [if_neg (nI_pos (by have := h.2.2.2.2.2.2.2.1; omega)), h.2.2.1.2.2.2.2.1] at b
      obtain ⟨m, e⟩ : ∃ m, ns = m + 1 := ⟨ns - 1, by omega⟩
      have := h.2.2.2.2.2.2.2.1
      rw [e, nI_pred, if_neg (nI_nlt (by omega) (by omega))] at b
      exact absurd (Option.some.inj b) (by decide)
    · exact a
  have h6 := h.2.2.2.2.2.2.2.1
  obtain ⟨c1, c2, c3⟩ := h.2.2.2.2.2.2.2.2.1 k hk
  refine ⟨hs, oEq ?_, oEq ?_⟩
  · unfold f_X3_block
    exact oBindE hs (oF one_ne (oLd (by omega) (by omega) (oRet c1)))
  · unfold f_X3_sayer
    exact oBindE hs (oF one_ne (oLd (by omega) (by omega) (oRet c2)))
theorem isFalse_ok (h : RX n K lk rf hol nr rb ns sb sh σ τ) {k : Nat} (hk : k < ns) : f_X6_isFalse (nI k) σ = some (bI (flS hol sb sh k)) ∧ f_X7_isFalse (nI k) τ = some (bI (flS hol sb sh k)) := by
  obtain ⟨b0, b1, b2⟩ := block_ok h hk
  have M := h.2.2.1.2.2.2.2
  obtain ⟨m1, m2, m3, m4, m5⟩ := M.2.2 k hk
  have h6 := h.2.2.2.2.2.2.2.1
  unfold flS
  constructor
  · apply oEq
    unfold f_X6_isFalse
    refine oBindE b1 (oBindE (owner_ok h.2.1 m1.2) (oIte (fun q => oRet (by rw [decide_eq_true q]; rfl)) (fun q => oBindE b2 (oIte (fun z => oRet (by rw [decide_eq_true z]; simp; rfl)) (fun z => oRet (by rw [decide_eq_false q, decide_eq_false z]; rfl))))))
  · apply oEq
    unfold f_X7_isFalse
    refine oLd (by omega) (by omega) ?_
    rw [m3]
    refine oLd (by omega) (by omega) ?_
    rw [m4]
    refine oBindE (rightful_ok h.2.2.1.2.2.2.1 m1) (oIte (fun q => oRet (by rw [decide_eq_true q]; rfl)) (fun q => oLd (by omega) (by omega) ?_))
    rw [m5]
    exact oIte (fun z => oRet (by rw [decide_eq_true z]; simp; rfl)) (fun z => oRet (by rw [decide_eq_false q, decide_eq_false z]; rfl))
end RB
