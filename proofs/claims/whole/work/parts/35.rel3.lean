/-- who sees a saying -/
def seeS (n : Nat) (K : Nat → Nat → Nat) (lk : Int32) (hol : Nat → Int32) (Sy : Nat → Nat → Bool) (rf : Int32) (sb sh : Nat → Nat) (k i : Nat) : Bool := decide (i < n) && (!decide (i = sh k) && decide (((sEnd n K lk hol Sy rf (sb k)).2 i).getLast? = some (sh k)))
section RC
variable {n : Nat} {K : Nat → Nat → Nat} {lk rf : Int32} {hol : Nat → Int32} {nr : Nat} {rb : Nat → Nat} {ns : Nat} {sb sh : Nat → Nat} {σ τ σ' τ' : ZS}
theorem seersOf_ok (h : RX n K lk rf hol nr rb ns sb sh σ τ) {k : Nat} (hk : k < ns) : Ok (f_X6_seersOf (nI k) σ) (fun r => PC σ r.2 ∧ ∀ i, i < 32 → bt r.1 i = seeS n K lk hol (syOf sb sh ns) rf sb sh k i) := by
  have G := h.1
  have hn := G.1
  obtain ⟨b0, b1, b2⟩ := block_ok h hk
  obtain ⟨m1, -⟩ := h.2.2.1.2.2.2.2.2.2 k hk
  have hsh := (h.2.2.2.2.2.2.2.2.1 k hk).2.2
  unfold f_X6_seersOf
  refine oBindE b2 (oBindE b1 (oBindE (v := rf) (by unfold f_X1_refusing; rw [h.2.2.2.1.1]) (oBind (settle_ok h.2.1 G m1.1 m1.2 rf) (fun r hr => ?_))))
  obtain ⟨r1, r2, r3, r4⟩ := hr
  have E' := h.2.1.pc r1
  refine oLoop (fun i t => t.2 = nI i ∧ ∀ x, x < 32 → bt t.1 x = (decide (x < i) && seeS n K lk hol (syOf sb sh ns) rf sb sh k x)) n (by omega) ⟨rfl, fun x hx => by rw [b_0]; simp⟩ ?_ ?_
  · intro i t hi hI
    obtain ⟨m, j⟩ := t
    obtain ⟨hj, h3⟩ := hI
    have hj : j = nI i := hj
    have h3 : ∀ x, x < 32 → bt m x = (decide (x < i) && seeS n K lk hol (syOf sb sh ns) rf sb sh k x) := h3
    subst hj
    have keep : seeS n K lk hol (syOf sb sh ns) rf sb sh k i = false → Sum.elim (fun t : Int32 × Int32 => t.2 = nI (i + 1) ∧ ∀ x, x < 32 → bt t.1 x = (decide (x < i + 1) && seeS n K lk hol (syOf sb sh ns) rf sb sh k x)) (fun r : Int32 × ZS => PC σ r.2 ∧ ∀ i, i < 32 → bt r.1 i = seeS n K lk hol (syOf sb sh ns) rf sb sh k i) (.inl (m, nI i + 1)) := fun z => ⟨nI_1 i, fun x hx => by
      show bt m x = _
      rw [h3 x hx]
      by_cases y : x = i
      · subst y; rw [z]; simp
      · congr 1
        rw [decide_eq_decide]; omega⟩
    have hlast : ∀ v, ((sEnd n K lk hol (syOf sb sh ns) rf (sb k)).2 i).getLast? = some v → v < 2 ^ 31 := fun v q => by have := getLast_lt r2 q; omega
    unfold f_X6_seersOf_B36
    refine oBindE (number_ok E') (oLe n i (by omega) (by omega) (fun z => by omega) (fun _ => ?_))
    refine oNe i (sh k) (by omega) (by omega) (fun z => oRet (keep ?_)) (fun z => oBindE (last_n_ok r2 hn r3 (by omega)) (oIte (fun w => ?_) (fun w => oRet (keep ?_))))
    · unfold seeS; rw [decide_eq_true z]; simp
    · have w' := (oI_eq (b := some (sh k)) hlast (fun v q => by cases q; omega)).mp w
      refine oBindE (bit_ok (by omega)) (oRet ⟨nI_1 i, fun x hx => ?_⟩)
      show bt (m ||| bm i) x = _
      rw [b_or, h3 x hx, b_bm i (by omega) x hx]
      by_cases y : x = i
      · subst y
        have e1 : seeS n K lk hol (syOf sb sh ns) rf sb sh k x = true := by
          unfold seeS
          rw [decide_eq_true hi, decide_eq_false z, decide_eq_true w']; rfl
        rw [e1]; simp
      · rw [decide_eq_false y, Bool.or_false]
        congr 1
        rw [decide_eq_decide]; omega
    · unfold seeS
      rw [decide_eq_false (p := ((sEnd n K lk hol (syOf sb sh ns) rf (sb k)).2 i).getLast? = some (sh k)) (fun y => w (by unfold lst; rw [y]; rfl))]; simp
  · intro t hI
    obtain ⟨m, j⟩ := t
    obtain ⟨hj, h3⟩ := hI
    have hj : j = nI n := hj
    have h3 : ∀ x, x < 32 → bt m x = (decide (x < n) && seeS n K lk hol (syOf sb sh ns) rf sb sh k x) := h3
    subst hj
    unfold f_X6_seersOf_B36
    refine oBindE (number_ok E') (oLe n n (by omega) (by omega) (fun _ => oWi (oRet ⟨r1, fun x hx => ?_⟩)) (fun z => by omega))
    show bt m x = _
    rw [h3 x hx]
    unfold seeS
    cases decide (x < n) <;> simp
theorem seenBy_ok (h : RX n K lk rf hol nr rb ns sb sh σ τ) {k : Nat} (hk : k < ns) : Ok (f_X7_seenBy (nI k) τ) (fun r => PM τ r.2 ∧ ∀ i, i < 32 → bt r.1 i = seeS n K lk hol (syOf sb sh ns) rf sb sh k i) := by
  have G := h.1
  have hn := G.1
  have h6 := h.2.2.2.2.2.2.2.1
  obtain ⟨m1, m2, m3, m4, m5⟩ := h.2.2.1.2.2.2.2.2.2 k hk
  have hsh := (h.2.2.2.2.2.2.2.2.1 k hk).2.2
  unfold f_X7_seenBy
  refine oLd (by omega) (by omega) ?_
  rw [m3]
  refine oLd (by omega) (by omega) ?_
  rw [m4, h.2.2.2.1.2]
  refine oBind (findWays_ok h.2.2.1 G m1 rf) (fun r hr => ?_)
  obtain ⟨r1, r2, r3, r4, r5⟩ := hr
  have M' := h.2.2.1.pm r1
  have m5' : r.2.1 7 k = nI (sh k) := by rw [r1.2 7 (by omega)]; exact m5
  refine oLoop (fun i t => t.2 = nI i ∧ ∀ x, x < 32 → bt t.1 x = (decide (x < i) && seeS n K lk hol (syOf sb sh ns) rf sb sh k x)) n (by omega) ⟨rfl, fun x hx => by rw [b_0]; simp⟩ ?_ ?_
  · intro i t hi hI
    obtain ⟨m, j⟩ := t
    obtain ⟨hj, h3⟩ := hI
    have hj : j = nI i := hj
    have h3 : ∀ x, x < 32 → bt m x = (decide (x < i) && seeS n K lk hol (syOf sb sh ns) rf sb sh k x) := h3
    subst hj
    have keep : seeS n K lk hol (syOf sb sh ns) rf sb sh k i = false → Ok (f_X7_seenBy_J85 (nI k) (nI i) m r) (Sum.elim (fun t : Int32 × Int32 => t.2 = nI (i + 1) ∧ ∀ x, x < 32 → bt t.1 x = (decide (x < i + 1) && seeS n K lk hol (syOf sb sh ns) rf sb sh k x)) (fun r : Int32 × ZS => PM τ r.2 ∧ ∀ i, i < 32 → bt r.1 i = seeS n K lk hol (syOf sb sh ns) rf sb sh k i)) := fun z => by
      unfold f_X7_seenBy_J85
      refine oRet ⟨nI_1 i, fun x hx => ?_⟩
      show bt (m ||| 0) x = _
      rw [b_or, b_0, Bool.or_false, h3 x hx]
      by_cases y : x = i
      · subst y; rw [z]; simp
      · congr 1
        rw [decide_eq_decide]; omega
    obtain ⟨w1, w2⟩ := r3 i hi
    have w1 : r.2.1 9 i = nI ((sEnd n K lk hol (syOf sb sh ns) rf (sb k)).2 i).length := w1
    have hlen := r2.len i
    unfold f_X7_seenBy_B24
    rw [M'.1]
    refine oLe n i (by omega) (by omega) (fun z => by omega) (fun _ => oLd (by omega) (by omega) ?_)
    rw [m5']
    refine oNe i (sh k) (by omega) (by omega) (fun z => keep ?_) (fun z => oLd (by omega) (by omega) ?_)
    · unfold seeS; rw [decide_eq_true z]; simp
    · show Ok (if r.2.1 9 i ≤ 0 then _ else _) _
      rw [w1]
      refine oLe _ 0 (by omega) (by omega) (fun y => keep ?_) (fun y => oLd (by omega) (by omega) ?_)
      · unfold seeS
        rw [List.length_eq_zero_iff.mp (Nat.le_zero.mp y)]; simp
      · show Ok (ld _ 100 ((((10 : Int32) * nI i) + r.2.1 9 i) - 1) _) _
        rw [w1]
        have hne : (sEnd n K lk hol (syOf sb sh ns) rf (sb k)).2 i ≠ [] := fun e => by rw [e] at y; exact absurd y (by decide)
        obtain ⟨v, v1, v2⟩ := mlast hne
        have hv := getLast_lt r2 v1
        have ei : (((10 : Int32) * nI i) + nI ((sEnd n K lk hol (syOf sb sh ns) rf (sb k)).2 i).length) - 1 = nI (10 * i + (((sEnd n K lk hol (syOf sb sh ns) rf (sb k)).2 i).length - 1)) := by
          rw [ix10, show 10 * i + ((sEnd n K lk hol (syOf sb sh ns) rf (sb k)).2 i).length = (10 * i + (((sEnd n K lk hol (syOf sb sh ns) rf (sb k)).2 i).length - 1)) + 1 by omega, nI_pred]
        rw [ei]
        refine oLd (by omega) (by omega) (oLd (by omega) (by omega) ?_)
        rw [m5', w2 _ v v2]
        refine oNe v (sh k) (by omega) (by omega) (fun e => oRet ⟨nI_1 i, fun x hx => ?_⟩) (fun e => keep ?_)
        · show bt (m ||| bm i) x = _
          rw [b_or, h3 x hx, b_bm i (by omega) x hx]
          by_cases y : x = i
          · subst y
            have e1 : seeS n K lk hol (syOf sb sh ns) rf sb sh k x = true := by
              unfold seeS
              rw [decide_eq_true hi, decide_eq_false z, decide_eq_true (by rw [v1, e])]; rfl
            rw [e1]; simp
          · rw [decide_eq_false y, Bool.or_false]
            congr 1
            rw [decide_eq_decide]; omega
        · unfold seeS
          rw [decide_eq_false (p := ((sEnd n K lk hol (syOf sb sh ns) rf (sb k)).2 i).getLast? = some (sh k)) (fun q => e (by rw [v1] at q; cases q; rfl))]; simp
  · intro t hI
    obtain ⟨m, j⟩ := t
    obtain ⟨hj, h3⟩ := hI
    have hj : j = nI n := hj
    have h3 : ∀ x, x < 32 → bt m x = (decide (x < n) && seeS n K lk hol (syOf sb sh ns) rf sb sh k x) := h3
    subst hj
    unfold f_X7_seenBy_B24
    rw [M'.1]
    refine oLe n n (by omega) (by omega) (fun _ => oWi (oRet ⟨r1, fun x hx => ?_⟩)) (fun z => by omega)
    show bt m x = _
    rw [h3 x hx]
    unfold seeS
    cases decide (x < n) <;> simp
theorem saying_same (h : RX n K lk rf hol nr rb ns sb sh σ τ) (x w : Int32) : Same (f_X6_saying x w σ) (f_X7_saying x w τ) := by
  have h6 := h.2.2.2.2.2.2.2.1
  rcases say_cases h x with ⟨a1, a2⟩ | ⟨k, hk, rfl, a1, a2⟩
  · refine h.same (v := -2) ?_ ?_
    · unfold f_X6_saying
      exact oBindE a1 (oT rfl (oRet ⟨rfl, PD.rf⟩))
    · unfold f_X7_saying
      exact oBindE a2 (oT rfl (oRet ⟨rfl, PN.rf⟩))
  · obtain ⟨b0, b1, b2⟩ := block_ok h hk
    obtain ⟨i1, i2⟩ := isFalse_ok h hk
    obtain ⟨m1, m2, m3, m4, m5⟩ := h.2.2.1.2.2.2.2.2.2 k hk
    have key : ∀ v : Int32, Ok (if w = 0 then Option.bind (f_X6_lengthOf (nI (sb k))) (fun q9 => some (q9, σ)) else (if w = 1 then Option.bind (f_X6_firstOf (nI (sb k))) (fun q8 => some (q8, σ)) else (if w = 2 then Option.bind (f_X3_sayer (nI k) σ) (fun q7 => some (q7, σ)) else (if w = 3 then Option.bind (f_X6_isFalse (nI k) σ) (fun q6 => (if q6 = 0 then some (0, σ) else some (1, σ))) else (if w = 4 then Option.bind (f_X6_isFalse (nI k) σ) (fun q4 => (if q4 = 0 then some (0, σ) else Option.bind (f_X2_holder (nI (sb k)) σ) (fun q5 => (if q5 = (-1) then some (1, σ) else some (0, σ))))) else (if w = 5 then Option.bind (f_X6_seersOf (nI k) σ) (fun q3 => some (q3.1, q3.2)) else some ((-2), σ))))))) (fun r => r.1 = v ∧ PD σ r.2) → Ok (f_X6_saying (nI k) w σ) (fun r => r.1 = v ∧ PD σ r.2) := fun v q => by
      unfold f_X6_saying
      exact oBindE a1 (oF one_ne (oBindE b1 q))
    have keyM : ∀ v : Int32, Ok (if w = 0 then ld (τ.2.1 5) 18 (nI k) (fun y10 => some (y10, τ)) else (if w = 1 then ld (τ.2.1 6) 18 (nI k) (fun y9 => some (y9, τ)) else (if w = 2 then ld (τ.2.1 7) 18 (nI k) (fun y8 => some (y8, τ)) else (if w = 3 then Option.bind (f_X7_isFalse (nI k) τ) (fun q7 => (if q7 = 0 then some (0, τ) else some (1, τ))) else (if w = 4 then Option.bind (f_X7_isFalse (nI k) τ) (fun q3 => (if q3 = 0 then some (0, τ) else ld (τ.2.1 5) 18 (nI k) (fun y4 => ld (τ.2.1 6) 18 (nI k) (fun y5 => Option.bind (f_X7_rightOf y4 y5 τ) (fun q6 => (if q6 = (-1) then some (1, τ) else some (0, τ))))))) else (if w = 5 then Option.bind (f_X7_seenBy (nI k) τ) (fun q2 => some (q2.1, q2.2)) else some ((-2), τ))))))) (fun r => r.1 = v ∧ PN τ r.2) → Ok (f_X7_saying (nI k) w τ) (fun r => r.1 = v ∧ PN τ r.2) := fun v q => by
      unfold f_X7_saying
      exact oBindE a2 (oF one_ne q)
    by_cases w0 : w = 0
    · refine h.same (v := nI (lenOf (sb k))) (key _ (oT w0 (oBindE (lengthOf_ok _ m1.2 m1.1) (oRet ⟨rfl, PD.rf⟩)))) (keyM _ (oT w0 (oLd (by omega) (by omega) (oRet ⟨m3, PN.rf⟩))))
    by_cases w1 : w = 1
    · refine h.same (v := nI (fstOf (sb k))) (key _ (oF w0 (oT w1 (oBindE (firstOf_ok _ m1.2 m1.1) (oRet ⟨rfl, PD.rf⟩))))) (keyM _ (oF w0 (oT w1 (oLd (by omega) (by omega) (oRet ⟨m4, PN.rf⟩)))))
    by_cases w2 : w = 2
    · refine h.same (v := nI (sh k)) (key _ (oF w0 (oF w1 (oT w2 (oBindE b2 (oRet ⟨rfl, PD.rf⟩)))))) (keyM _ (oF w0 (oF w1 (oT w2 (oLd (by omega) (by omega) (oRet ⟨m5, PN.rf⟩))))))
    by_cases w3 : w = 3
    · cases hf : flS hol sb sh k with
      | false =>
        rw [hf] at i1 i2
        exact h.same (v := 0) (key _ (oF w0 (oF w1 (oF w2 (oT w3 (oBindE i1 (oT rfl (oRet ⟨rfl, PD.rf⟩)))))))) (keyM _ (oF w0 (oF w1 (oF w2 (oT w3 (oBindE i2 (oT rfl (oRet ⟨rfl, PN.rf⟩))))))))
      | true =>
        rw [hf] at i1 i2
        exact h.same (v := 1) (key _ (oF w0 (oF w1 (oF w2 (oT w3 (oBindE i1 (oF one_ne (oRet ⟨rfl, PD.rf⟩)))))))) (keyM _ (oF w0 (oF w1 (oF w2 (oT w3 (oBindE i2 (oF one_ne (oRet ⟨rfl, PN.rf⟩))))))))
    by_cases w4 : w = 4
    · cases hf : flS hol sb sh k with
      | false =>
        rw [hf] at i1 i2
        exact h.same (v := 0) (key _ (oF w0 (oF w1 (oF w2 (oF w3 (oT w4 (oBindE i1 (oT rfl (oRet ⟨rfl, PD.rf⟩))))))))) (keyM _ (oF w0 (oF w1 (oF w2 (oF w3 (oT w4 (oBindE i2 (oT rfl (oRet ⟨rfl, PN.rf⟩)))))))))
      | true =>
        rw [hf] at i1 i2
        rcases rightOf_ok h.2.2.1.2.2.2.1 m1 with ⟨r1, r2⟩ | ⟨j, r1, r2, r3, r4⟩
        · refine h.same (v := 1) (key _ (oF w0 (oF w1 (oF w2 (oF w3 (oT w4 (oBindE i1 (oF one_ne (oBindE (holder_ok h.2.1 m1.1 m1.2) (oT r1 (oRet ⟨rfl, PD.rf⟩))))))))))) (keyM _ (oF w0 (oF w1 (oF w2 (oF w3 (oT w4 (oBindE i2 (oF one_ne (oLd (by omega) (by omega) ?_)))))))))
          rw [m3]
          refine oLd (by omega) (by omega) ?_
          rw [m4]
          exact oBindE r2 (oT rfl (oRet ⟨rfl, PN.rf⟩))
        · refine h.same (v := 0) (key _ (oF w0 (oF w1 (oF w2 (oF w3 (oT w4 (oBindE i1 (oF one_ne (oBindE (holder_ok h.2.1 m1.1 m1.2) (oF r3 (oRet ⟨rfl, PD.rf⟩))))))))))) (keyM _ (oF w0 (oF w1 (oF w2 (oF w3 (oT w4 (oBindE i2 (oF one_ne (oLd (by omega) (by omega) ?_)))))))))
          rw [m3]
          refine oLd (by omega) (by omega) ?_
          rw [m4]
          exact oBindE r4 (oF (nI_m1 (by have := h.2.2.1.2.2.2.1.2.1; omega)) (oRet ⟨rfl, PN.rf⟩))
    by_cases w5 : w = 5
    · obtain ⟨⟨v1, s1⟩, e1, p1, x1⟩ := seersOf_ok h hk
      obtain ⟨⟨v2, s2⟩, e2, p2, x2⟩ := seenBy_ok h hk
      have e : v1 = v2 := b_ext (fun i hi => (x1 i hi).trans (x2 i hi).symm)
      subst e
      exact h.same (v := v1) (key _ (oF w0 (oF w1 (oF w2 (oF w3 (oF w4 (oT w5 (oBindE e1 (oRet ⟨rfl, PD.of p1⟩))))))))) (keyM _ (oF w0 (oF w1 (oF w2 (oF w3 (oF w4 (oT w5 (oBindE e2 (oRet ⟨rfl, PN.of p2⟩)))))))))
    · exact h.same (v := -2) (key _ (oF w0 (oF w1 (oF w2 (oF w3 (oF w4 (oF w5 (oRet ⟨rfl, PD.rf⟩)))))))) (keyM _ (oF w0 (oF w1 (oF w2 (oF w3 (oF w4 (oF w5 (oRet ⟨rfl, PN.rf⟩))))))))
theorem count_same (h : RX n K lk rf hol nr rb ns sb sh σ τ) (w : Int32) : SameP (f_X6_count w σ) (f_X7_count w τ) := by
  have G := h.1
  have hn := G.1
  have h6 := h.2.2.2.2.2.2.2.1
  unfold f_X6_count f_X7_count
  by_cases w0 : w = 0
  · rw [if_pos w0, if_pos w0, number_ok h.2.1, h.2.2.1.1]; exact ⟨_, rfl, rfl⟩
  rw [if_neg w0, if_neg w0]
  by_cases w1 : w = 1
  · rw [if_pos w1, if_pos w1]
    refine ⟨nI (tieC K n), ?_, ?_⟩
    · unfold f_X1_ties
      rw [h.2.2.2.2.1]; rfl
    · apply oEq
      have hc := cnt_le (fun k => decide (k / 10 < k % 10) && (decide (k % 10 < n) && decide (K (k / 10) (k % 10) ≠ 0)))
      refine oLoop (fun i t => t.2 = nI i ∧ t.1 = nI (cnt (fun k => decide (k / 10 < k % 10) && (decide (k % 10 < n) && decide (K (k / 10) (k % 10) ≠ 0))) i)) 100 (by omega) ⟨rfl, rfl⟩ ?_ ?_
      · intro i t hi hI
        obtain ⟨c, j⟩ := t
        obtain ⟨hj, hcc⟩ := hI
        have hj : j = nI i := hj
        have hcc : c = _ := hcc
        subst hj
        subst hcc
        have ec : cnt (fun k => decide (k / 10 < k % 10) && (decide (k % 10 < n) && decide (K (k / 10) (k % 10) ≠ 0))) (i + 1) = cnt (fun k => decide (k / 10 < k % 10) && (decide (k % 10 < n) && decide (K (k / 10) (k % 10) ≠ 0))) i + (if (decide (i / 10 < i % 10) && (decide (i % 10 < n) && decide (K (i / 10) (i % 10) ≠ 0))) = true then 1 else 0) := rfl
        have no : (decide (i / 10 < i % 10) && (decide (i % 10 < n) && decide (K (i / 10) (i % 10) ≠ 0))) = false → Ok (f_X7_count_J85 (nI i) (nI (cnt (fun k => decide (k / 10 < k % 10) && (decide (k % 10 < n) && decide (K (k / 10) (k % 10) ≠ 0))) i)) τ) (Sum.elim (fun t : Int32 × Int32 => t.2 = nI (i + 1) ∧ t.1 = nI (cnt (fun k => decide (k / 10 < k % 10) && (decide (k % 10 < n) && decide (K (k / 10) (k % 10) ≠ 0))) (i + 1))) (fun r => r = nI (tieC K n))) := fun z => by
          unfold f_X7_count_J85
          refine oRet ⟨nI_1 i, ?_⟩
          rw [ec, z]
          exact nI_add _ 0
        have e1 : nI i / 10 = nI (i / 10) := pk_div (a := i) (d := 10) (by omega) (by omega) (by omega)
        have e2 : nI i - nI i / 10 * 10 = nI (i % 10) := pk_rem (a := i) (d := 10) (by omega) (by omega) (by omega)
        unfold f_X7_count_B43
        refine oLe 100 i (by omega) (by omega) (fun z => by omega) (fun _ => oCk (by decide) (oCk (by decide) ?_))
        show Ok (if (nI i - nI i / 10 * 10) ≤ (nI i / 10) then _ else ck _ (if (τ.1 0) ≤ (nI i - nI i / 10 * 10) then _ else _)) _
        rw [e2, e1, h.2.2.1.1]
        refine oLe (i % 10) (i / 10) (by omega) (by omega) (fun z => no (by rw [decide_eq_false (by omega), Bool.false_and])) (fun z => oCk (by decide) (oLe n (i % 10) (by omega) (by omega) (fun y => no (by rw [decide_eq_false (p := i % 10 < n) (by omega), Bool.false_and, Bool.and_false])) (fun y => oLd (by omega) (by omega) ?_)))
        have hk : τ.2.1 1 i = nI (K (i / 10) (i % 10)) := by
          have := h.2.2.1.2.2.1 (i / 10) (i % 10) (by omega) (by omega)
          rw [show 10 * (i / 10) + i % 10 = i by omega] at this
          exact this
        rw [hk]
        have k4 := G.2.1 (i / 10) (i % 10)
        refine oNe (K (i / 10) (i % 10)) 0 (by omega) (by omega) (fun x => no (by rw [x]; simp)) (fun x => oRet ⟨nI_1 i, ?_⟩)
        rw [ec, decide_eq_true z, decide_eq_true y, decide_eq_true x]
        exact nI_1 _
      · intro t hI
        obtain ⟨c, j⟩ := t
        obtain ⟨hj, hcc⟩ := hI
        have hj : j = nI 100 := hj
        subst hj
        unfold f_X7_count_B43
        exact oT (show (100 : Int32) ≤ nI 100 by decide) (oWi (oRet hcc))
  rw [if_neg w1, if_neg w1]
  by_cases w2 : w = 2
  · rw [if_pos w2, if_pos w2]
    unfold f_X2_number
    rw [h.2.2.2.2.2.1, h.2.2.1.2.2.2.1.1]; exact ⟨_, rfl, rfl⟩
  rw [if_neg w2, if_neg w2]
  by_cases w3 : w = 3
  · rw [if_pos w3, if_pos w3]
    unfold f_X3_number
    rw [h.2.2.2.2.2.2.1, h.2.2.1.2.2.2.2.1]; exact ⟨_, rfl, rfl⟩
  rw [if_neg w3, if_neg w3]
  by_cases w4 : w = 4
  · rw [if_pos w4, if_pos w4]
    have hc := cnt_le (flS hol sb sh)
    refine ⟨nI (cnt (flS hol sb sh) ns), oEq ?_, oEq ?_⟩
    · refine oBindE (oEq ?_) (oRet rfl)
      unfold f_X6_falseSayings
      refine oLoop (fun i t => t.2 = nI i ∧ t.1 = nI (cnt (flS hol sb sh) i)) ns (by omega) ⟨rfl, rfl⟩ ?_ ?_
      · intro i t hi hI
        obtain ⟨c, j⟩ := t
        obtain ⟨hj, hcc⟩ := hI
        have hj : j = nI i := hj
        have hcc : c = _ := hcc
        subst hj
        subst hcc
        have ec : cnt (flS hol sb sh) (i + 1) = cnt (flS hol sb sh) i + (if flS hol sb sh i = true then 1 else 0) := rfl
        unfold f_X6_falseSayings_B4 f_X3_number
        rw [h.2.2.2.2.2.2.1]
        refine oBindE rfl (oLe ns i (by omega) (by omega) (fun z => by omega) (fun _ => oBindE (isFalse_ok h hi).1 ?_))
        cases hf : flS hol sb sh i with
        | false => exact oT rfl (oRet ⟨nI_1 i, by rw [ec, hf]; rfl⟩)
        | true => exact oF one_ne (oRet ⟨nI_1 i, by rw [ec, hf]; exact nI_1 _⟩)
      · intro t hI
        obtain ⟨c, j⟩ := t
        obtain ⟨hj, hcc⟩ := hI
        have hj : j = nI ns := hj
        subst hj
        unfold f_X6_falseSayings_B4 f_X3_number
        rw [h.2.2.2.2.2.2.1]
        exact oBindE rfl (oLe ns ns (by omega) (by omega) (fun _ => oWi (oRet hcc)) (fun z => by omega))
    · refine oLoop (fun i t => t.2 = nI i ∧ t.1 = nI (cnt (flS hol sb sh) i)) ns (by omega) ⟨rfl, rfl⟩ ?_ ?_
      · intro i t hi hI
        obtain ⟨c, j⟩ := t
        obtain ⟨hj, hcc⟩ := hI
        have hj : j = nI i := hj
        have hcc : c = _ := hcc
        subst hj
        subst hcc
        have ec : cnt (flS hol sb sh) (i + 1) = cnt (flS hol sb sh) i + (if flS hol sb sh i = true then 1 else 0) := rfl
        unfold f_X7_count_B108
        rw [h.2.2.1.2.2.2.2.1]
        refine oLe ns i (by omega) (by omega) (fun z => by omega) (fun _ => oBindE (isFalse_ok h hi).2 ?_)
        cases hf : flS hol sb sh i with
        | false => exact oT rfl (oRet ⟨nI_1 i, by rw [ec, hf]; exact nI_add _ 0⟩)
        | true => exact oF one_ne (oRet ⟨nI_1 i, by rw [ec, hf]; exact nI_1 _⟩)
      · intro t hI
        obtain ⟨c, j⟩ := t
        obtain ⟨hj, hcc⟩ := hI
        have hj : j = nI ns := hj
        subst hj
        unfold f_X7_count_B108
        rw [h.2.2.1.2.2.2.2.1]
        exact oLe ns ns (by omega) (by omega) (fun _ => oWi (oRet hcc)) (fun z => by omega)
  rw [if_neg w4, if_neg w4]
  exact ⟨-2, rfl, rfl⟩
end RC
