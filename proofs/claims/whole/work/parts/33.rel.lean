/-! The relation of the two states, and the calls that only look -/
def tieC (K : Nat → Nat → Nat) (n : Nat) : Nat := cnt (fun k => decide (k / 10 < k % 10) && (decide (k % 10 < n) && decide (K (k / 10) (k % 10) ≠ 0))) 100
def RX (n : Nat) (K : Nat → Nat → Nat) (lk rf : Int32) (hol : Nat → Int32) (nr : Nat) (rb : Nat → Nat) (ns : Nat) (sb sh : Nat → Nat) (σ τ : ZS) : Prop :=
  GI n K hol (syOf sb sh ns) ∧ EC n K lk hol (syOf sb sh ns) σ ∧ EM n K lk hol nr rb ns sb sh τ ∧ (σ.1 3 = rf ∧ τ.1 4 = rf) ∧ σ.1 1 = nI (tieC K n) ∧ σ.1 4 = nI nr ∧ σ.1 5 = nI ns ∧ ns ≤ 16 ∧ (∀ k, k < ns → σ.2.1 9 k = nI (sb k) ∧ σ.2.1 10 k = nI (sh k) ∧ sh k < n) ∧ ∀ i j, i < ns → j < ns → sb i = sb j → sh i = sh j → i = j
def Rel (σ τ : ZS) : Prop := ∃ (n : Nat) (K : Nat → Nat → Nat) (lk rf : Int32) (hol : Nat → Int32) (nr : Nat) (rb : Nat → Nat) (ns : Nat) (sb sh : Nat → Nat), RX n K lk rf hol nr rb ns sb sh σ τ
/-- both answer the same, and stay related -/
def Same (o1 o2 : Option (Int32 × ZS)) : Prop := ∃ (v : Int32) (σ' τ' : ZS), o1 = some (v, σ') ∧ o2 = some (v, τ') ∧ Rel σ' τ'
def SameP (o1 o2 : Option Int32) : Prop := ∃ v : Int32, o1 = some v ∧ o2 = some v
theorem neg_nle {v : Int32} (h : v < 0) : ¬ 0 ≤ v := fun z => by
  rw [Int32.le_iff_toInt_le] at z
  rw [Int32.lt_iff_toInt_lt] at h
  omega
section RR
variable {n : Nat} {K : Nat → Nat → Nat} {lk rf : Int32} {hol : Nat → Int32} {nr : Nat} {rb : Nat → Nat} {ns : Nat} {sb sh : Nat → Nat} {σ τ σ' τ' : ZS}
theorem RX.keep (h : RX n K lk rf hol nr rb ns sb sh σ τ) (p : PD σ σ') (q : PN τ τ') : RX n K lk rf hol nr rb ns sb sh σ' τ' := by
  obtain ⟨G, E, M, ⟨h1, h2⟩, h3, h4, h5, h6, h7, h8⟩ := h
  refine ⟨G, E.pd p, M.pn q, ⟨(p.1 3 (by omega)).trans h1, (q.1 4 (by omega)).trans h2⟩, (p.1 1 (by omega)).trans h3, (p.1 4 (by omega)).trans h4, (p.1 5 (by omega)).trans h5, h6, fun k hk => ?_, h8⟩
  rw [p.2 9 (by omega), p.2 10 (by omega)]; exact h7 k hk
theorem RX.same (h : RX n K lk rf hol nr rb ns sb sh σ τ) {o1 o2 : Option (Int32 × ZS)} {v : Int32} (h1 : Ok o1 (fun r => r.1 = v ∧ PD σ r.2)) (h2 : Ok o2 (fun r => r.1 = v ∧ PN τ r.2)) : Same o1 o2 := by
  obtain ⟨⟨v1, s1⟩, e1, q1, p1⟩ := h1
  obtain ⟨⟨v2, s2⟩, e2, q2, p2⟩ := h2
  have q1 : v1 = v := q1
  have q2 : v2 = v := q2
  subst q1
  subst q2
  exact ⟨v2, s1, s2, e1, e2, n, K, lk, rf, hol, nr, rb, ns, sb, sh, h.keep p1 p2⟩
theorem blk_cases (l f : Int32) : (f_X6_blockNumber l f = some (-2) ∧ f_X7_isBlock l f = some 0) ∨ ∃ b, (1 ≤ b ∧ b < 128) ∧ l = nI (lenOf b) ∧ f = nI (fstOf b) ∧ f_X6_blockNumber l f = some (nI b) ∧ f_X7_isBlock l f = some 1 := by
  rcases pk_ix l (n := 7) (by decide) with h | h | ⟨L, hL, rfl⟩
  · refine Or.inl ⟨?_, ?_⟩
    · unfold f_X6_blockNumber; rw [if_pos h]
    · unfold f_X7_isBlock f_X7_in; rw [if_pos h]; rfl
  · have h6 : (6 : Int32) < l := by
      rw [Int32.lt_iff_toInt_lt]
      rw [Int32.le_iff_toInt_le] at h
      have a : (nI 7).toInt = 7 := by decide
      have b : (6 : Int32).toInt = 6 := by decide
      omega
    have h0 : ¬ l < 0 := by
      rw [Int32.lt_iff_toInt_lt]
      rw [Int32.le_iff_toInt_le] at h
      have a : (nI 7).toInt = 7 := by decide
      have b : (0 : Int32).toInt = 0 := by decide
      omega
    refine Or.inl ⟨?_, ?_⟩
    · unfold f_X6_blockNumber; rw [if_neg h0, if_pos h6]
    · unfold f_X7_isBlock f_X7_in; rw [if_neg h0, if_pos h6]; rfl
  · have l0 : ¬ nI L < 0 := nI_pos (by omega)
    have l6 : ¬ (6 : Int32) < nI L := nI_nlt (a := 6) (b := L) (by omega) (by omega)
    rcases pk_ix f (n := 64) (by decide) with h | h | ⟨F, hF, rfl⟩
    · refine Or.inl ⟨?_, ?_⟩
      · unfold f_X6_blockNumber f_X6_isAddress; rw [if_neg l0, if_neg l6, if_pos h]; rfl
      · unfold f_X7_isBlock f_X7_in; rw [if_neg l0, if_neg l6, if_pos h]; rfl
    · have h6 : (64 : Int32) ≤ f := h
      have h63 : (63 : Int32) < f := by
        rw [Int32.lt_iff_toInt_lt]
        rw [Int32.le_iff_toInt_le] at h
        have a : (nI 64).toInt = 64 := by decide
        have b : (63 : Int32).toInt = 63 := by decide
        omega
      have h0 : ¬ f < 0 := by
        rw [Int32.lt_iff_toInt_lt]
        rw [Int32.le_iff_toInt_le] at h
        have a : (nI 64).toInt = 64 := by decide
        have b : (0 : Int32).toInt = 0 := by decide
        omega
      refine Or.inl ⟨?_, ?_⟩
      · unfold f_X6_blockNumber f_X6_isAddress; rw [if_neg l0, if_neg l6, if_neg h0, if_pos h6]; rfl
      · unfold f_X7_isBlock f_X7_in; rw [if_neg l0, if_neg l6, if_neg h0, if_pos h63]; rfl
    · have e1 := blockNumber_ok L hL F hF
      have e2 := isBlock7_ok L hL F hF
      cases hc : okB L F with
      | false => rw [hc] at e1 e2; exact Or.inl ⟨e1, e2⟩
      | true =>
        rw [hc] at e1 e2
        obtain ⟨a, b, c, d⟩ := bn_len L hL F hF hc
        exact Or.inr ⟨bn L F, ⟨a, b⟩, by rw [c], by rw [d], e1, e2⟩
theorem said_mask (h : RX n K lk rf hol nr rb ns sb sh σ τ) {b : Nat} (hb : 1 ≤ b ∧ b < 128) : σ.2.1 11 b = 0 ↔ saidOf sb ns b = false := by
  rw [mask0 h.2.1 h.1 hb.1 hb.2]
  exact (said_iff ns).symm
/-- a block, asked for its ways: refused alike, or found alike -/
theorem ask_ok (h : RX n K lk rf hol nr rb ns sb sh σ τ) (l f : Int32) : (∃ v : Int32, v < 0 ∧ v ≠ 0 ∧ (∃ q, f_X6_blockNumber l f = some q ∧ f_X6_refusal q σ = some v) ∧ f_X7_asked l f τ = some (v, τ)) ∨ ∃ b, (1 ≤ b ∧ b < 128) ∧ f_X6_blockNumber l f = some (nI b) ∧ f_X6_refusal (nI b) σ = some 0 ∧ Ok (f_X7_asked l f τ) (fun r => r.1 = 0 ∧ PM τ r.2 ∧ WI n (sEnd n K lk hol (syOf sb sh ns) rf b).2 ∧ mW r.2 8 n (sEnd n K lk hol (syOf sb sh ns) rf b).2 ∧ r.2.1 5 = nI (sEnd n K lk hol (syOf sb sh ns) rf b).1 ∧ r.2.1 6 = bI (decide ((sEnd n K lk hol (syOf sb sh ns) rf b).1 = 50))) := by
  rcases blk_cases l f with ⟨a1, a2⟩ | ⟨b, hb, rfl, rfl, a1, a2⟩
  · refine Or.inl ⟨-2, by decide, by decide, ⟨-2, a1, rfl⟩, ?_⟩
    unfold f_X7_asked
    rw [a2]; rfl
  · have hm := said_mask h hb
    have sd := isSaid_ok h.2.2.1.2.2.2.2 hb
    have e0 : ¬ nI b = -2 := fun z => by
      have h1 := nI_toInt (n := b) (by omega)
      rw [z] at h1
      have h2 : (-2 : Int32).toInt = -2 := by decide
      omega
    cases hs : saidOf sb ns b with
    | false =>
      rw [hs] at sd
      refine Or.inl ⟨-5, by decide, by decide, ⟨nI b, a1, ?_⟩, ?_⟩
      · unfold f_X6_refusal
        rw [if_neg e0, sayers_ok h.2.1 hb.1 hb.2]
        show (if σ.2.1 11 b = 0 then some (-5) else some 0) = _
        rw [if_pos (hm.mpr hs)]
      · unfold f_X7_asked
        rw [a2, sd]; rfl
    | true =>
      rw [hs] at sd
      refine Or.inr ⟨b, hb, a1, ?_, ?_⟩
      · unfold f_X6_refusal
        rw [if_neg e0, sayers_ok h.2.1 hb.1 hb.2]
        show (if σ.2.1 11 b = 0 then some (-5) else some 0) = _
        rw [if_neg (fun z => by rw [hm.mp z] at hs; cases hs)]
      · unfold f_X7_asked
        refine oBindE a2 (oF one_ne (oBindE sd (oF one_ne ?_)))
        rw [h.2.2.2.1.2]
        refine oBind (findWays_ok h.2.2.1 h.1 hb rf) (fun r hr => oRet ?_)
        obtain ⟨r1, r2, r3, r4, r5⟩ := hr
        exact ⟨rfl, r1, r2, r3, r4, r5⟩
theorem sRun_le {S : Nat → Bool} {Rf : Int32} {ow : Option Nat} : ∀ (f : Nat) (W : Nat → List Nat), (sRun n K lk S Rf ow f W).1 ≤ f := by
  intro f
  induction f with
  | zero => intro W; exact Nat.le_refl _
  | succ f ih =>
    intro W
    have er : sRun n K lk S Rf ow (f + 1) W = if sChg n K lk S Rf ow W n = true then ((sRun n K lk S Rf ow f (sRnd n K lk S Rf ow W)).1 + 1, (sRun n K lk S Rf ow f (sRnd n K lk S Rf ow W)).2) else (0, W) := rfl
    rw [er]
    by_cases c : sChg n K lk S Rf ow W n = true
    · rw [if_pos c]; have := ih (sRnd n K lk S Rf ow W); show _ + 1 ≤ _; omega
    · rw [if_neg c]; exact Nat.zero_le _
theorem crounds_ok (h : RX n K lk rf hol nr rb ns sb sh σ τ) {l f : Int32} {b : Nat} (hb : 1 ≤ b ∧ b < 128) (a1 : f_X6_blockNumber l f = some (nI b)) (a2 : f_X6_refusal (nI b) σ = some 0) : Ok (f_X6_rounds l f σ) (fun r => r.1 = nI (sEnd n K lk hol (syOf sb sh ns) rf b).1 ∧ PD σ r.2) := by
  unfold f_X6_rounds
  refine oBindE a1 (oBindE a2 (oT rfl (oBindE (v := rf) (by unfold f_X1_refusing; rw [h.2.2.2.1.1]) ?_)))
  refine oBind (settle_ok h.2.1 h.1 hb.1 hb.2 rf) (fun r hr => oBindE (v := r.1 6) rfl (oRet ?_))
  obtain ⟨r1, r2, r3, r4⟩ := hr
  exact ⟨r4, PD.of r1⟩
theorem rounds_same (h : RX n K lk rf hol nr rb ns sb sh σ τ) (l f : Int32) : Same (f_X6_rounds l f σ) (f_X7_rounds l f τ) := by
  rcases ask_ok h l f with ⟨v, v0, vn, ⟨q, a1, a2⟩, a3⟩ | ⟨b, hb, a1, a2, a3⟩
  · refine h.same (v := v) ?_ ?_
    · unfold f_X6_rounds
      exact oBindE a1 (oBindE a2 (oF vn (oRet ⟨rfl, PD.rf⟩)))
    · unfold f_X7_rounds
      exact oBindE a3 (oF (neg_nle v0) (oRet ⟨rfl, PN.rf⟩))
  · refine h.same (v := nI (sEnd n K lk hol (syOf sb sh ns) rf b).1) (crounds_ok h hb a1 a2) ?_
    unfold f_X7_rounds
    refine oBind a3 (fun r hr => ?_)
    obtain ⟨r1, r2, r3, r4, r5, r6⟩ := hr
    exact oT (by rw [r1]; decide) (oRet ⟨r5, PN.of r2⟩)
theorem restless_same (h : RX n K lk rf hol nr rb ns sb sh σ τ) (l f : Int32) : Same (f_X6_restless l f σ) (f_X7_restless l f τ) := by
  rcases ask_ok h l f with ⟨v, v0, vn, ⟨q, a1, a2⟩, a3⟩ | ⟨b, hb, a1, a2, a3⟩
  · have nn : ¬ 0 ≤ v := fun z => by rw [Int32.le_iff_toInt_le] at z; rw [Int32.lt_iff_toInt_lt] at v0; omega
    refine h.same (v := v) ?_ ?_
    · unfold f_X6_restless f_X6_rounds
      exact oBind (P := fun r => r = (v, σ)) (oBindE a1 (oBindE a2 (oF vn (oRet rfl)))) (fun r hr => by rw [hr]; exact oF nn (oRet ⟨rfl, PD.rf⟩))
    · unfold f_X7_restless
      exact oBindE a3 (oF nn (oRet ⟨rfl, PN.rf⟩))
  · have hle : (sEnd n K lk hol (syOf sb sh ns) rf b).1 ≤ 50 := sRun_le 50 _
    refine h.same (v := bI (decide ((sEnd n K lk hol (syOf sb sh ns) rf b).1 = 50))) ?_ ?_
    · unfold f_X6_restless
      refine oBind (crounds_ok h hb a1 a2) (fun r hr => ?_)
      obtain ⟨r1, r2⟩ := hr
      rw [r1]
      refine oT (nI_pos' (by omega)) (oNe _ 50 (by omega) (by omega) (fun z => oRet ⟨by rw [decide_eq_true z]; rfl, r2⟩) (fun z => oRet ⟨by rw [decide_eq_false z]; rfl, r2⟩))
    · unfold f_X7_restless
      refine oBind a3 (fun r hr => ?_)
      obtain ⟨r1, r2, r3, r4, r5, r6⟩ := hr
      refine oT (by rw [r1]; decide) ?_
      rw [r6]
      by_cases z : (sEnd n K lk hol (syOf sb sh ns) rf b).1 = 50
      · rw [decide_eq_true z]; exact oF one_ne (oRet ⟨rfl, PN.of r2⟩)
      · rw [decide_eq_false z]; exact oT rfl (oRet ⟨rfl, PN.of r2⟩)
theorem way_same (h : RX n K lk rf hol nr rb ns sb sh σ τ) (l f x i : Int32) : Same (f_X6_way l f x i σ) (f_X7_way l f x i τ) := by
  have G := h.1
  have hn := G.1
  have bad : (f_X1_has x σ = some 0 ∧ f_X7_isHouse x τ = some 0) → Same (f_X6_way l f x i σ) (f_X7_way l f x i τ) := fun q => by
    refine h.same (v := -2) ?_ ?_
    · unfold f_X6_way
      rcases blk_cases l f with ⟨a1, -⟩ | ⟨b, -, -, -, a1, -⟩ <;> exact oBindE a1 (oBindE q.1 (oT rfl (oRet ⟨rfl, PD.rf⟩)))
    · unfold f_X7_way
      exact oBindE q.2 (oT rfl (oRet ⟨rfl, PN.rf⟩))
  rcases has_ok h.2.1 G x with ⟨q1, q2⟩ | ⟨y, hy, rfl, q1⟩
  · rcases isHouse_ok h.2.2.1.1 hn x with ⟨z1, z2⟩ | ⟨y, hy, e, -⟩
    · exact bad ⟨q1, z1⟩
    · exact absurd e (q2 y hy)
  · have q3 := isHouse_1 h.2.2.1.1 hn hy
    by_cases hi : 0 ≤ i
    · obtain ⟨k, hk, rfl⟩ := nI_of (x := i) (fun z => by rw [Int32.le_iff_toInt_le] at hi; rw [Int32.lt_iff_toInt_lt] at z; omega)
      rcases ask_ok h l f with ⟨v, v0, vn, ⟨q, a1, a2⟩, a3⟩ | ⟨b, hb, a1, a2, a3⟩
      · refine h.same (v := v) ?_ ?_
        · unfold f_X6_way
          exact oBindE a1 (oBindE q1 (oF one_ne (oT hi (oBindE a2 (oF vn (oRet ⟨rfl, PD.rf⟩))))))
        · unfold f_X7_way
          exact oBindE q3 (oF one_ne (oT hi (oBindE a3 (oF (neg_nle v0) (oRet ⟨rfl, PN.rf⟩)))))
      · refine h.same (v := oI ((sEnd n K lk hol (syOf sb sh ns) rf b).2 y)[k]?) ?_ ?_
        · unfold f_X6_way
          refine oBindE a1 (oBindE q1 (oF one_ne (oT hi (oBindE a2 (oT rfl (oBindE (v := rf) (by unfold f_X1_refusing; rw [h.2.2.2.1.1]) ?_))))))
          refine oBind (settle_ok h.2.1 G hb.1 hb.2 rf) (fun r hr => ?_)
          obtain ⟨r1, r2, r3, r4⟩ := hr
          exact oBindE (at_n_ok r2 hn r3 (by omega) hk) (oRet ⟨rfl, PD.of r1⟩)
        · unfold f_X7_way
          refine oBindE q3 (oF one_ne (oT hi (oBind a3 (fun r hr => ?_))))
          obtain ⟨r1, r2, r3, r4, r5, r6⟩ := hr
          obtain ⟨m1, m2⟩ := r4 y hy
          have hlen := r3.len y
          refine oT (by rw [r1]; decide) (oLd (by omega) (by omega) ?_)
          rw [show r.2.2.1 9 y = nI ((sEnd n K lk hol (syOf sb sh ns) rf b).2 y).length from m1]
          refine oLe _ k (by omega) hk (fun z => oRet ⟨by rw [List.getElem?_eq_none z]; rfl, PN.of r2⟩) (fun z => ?_)
          obtain ⟨w, hw⟩ : ∃ w, ((sEnd n K lk hol (syOf sb sh ns) rf b).2 y)[k]? = some w := ⟨_, List.getElem?_eq_getElem z⟩
          rw [ix10]
          refine oLd (by omega) (by omega) (oRet ⟨?_, PN.of r2⟩)
          rw [hw]; exact m2 k w hw
    · refine h.same (v := -2) ?_ ?_
      · unfold f_X6_way
        rcases blk_cases l f with ⟨a1, -⟩ | ⟨b, -, -, -, a1, -⟩ <;> exact oBindE a1 (oBindE q1 (oF one_ne (oF hi (oRet ⟨rfl, PD.rf⟩))))
      · unfold f_X7_way
        exact oBindE q3 (oF one_ne (oF hi (oRet ⟨rfl, PN.rf⟩)))
/-- addresses -/
theorem addr_cases (x : Int32) : (f_X6_isAddress x = some 0 ∧ f_X7_in x 0 63 = some 0) ∨ ∃ a, a < 64 ∧ x = nI a ∧ f_X6_isAddress x = some 1 ∧ f_X7_in x 0 63 = some 1 := by
  unfold f_X6_isAddress f_X7_in
  rcases pk_ix x (n := 64) (by decide) with h | h | ⟨F, hF, rfl⟩
  · rw [if_pos h, if_pos h]; exact Or.inl ⟨rfl, rfl⟩
  · have h6 : (64 : Int32) ≤ x := h
    have h63 : (63 : Int32) < x := by
      rw [Int32.lt_iff_toInt_lt]
      rw [Int32.le_iff_toInt_le] at h
      have a : (nI 64).toInt = 64 := by decide
      have b : (63 : Int32).toInt = 63 := by decide
      omega
    have h0 : ¬ x < 0 := by
      rw [Int32.lt_iff_toInt_lt]
      rw [Int32.le_iff_toInt_le] at h
      have a : (nI 64).toInt = 64 := by decide
      have b : (0 : Int32).toInt = 0 := by decide
      omega
    rw [if_neg h0, if_pos h6, if_neg h0, if_pos h63]; exact Or.inl ⟨rfl, rfl⟩
  · rw [if_neg (nI_pos (by omega)), if_neg (show ¬ (64 : Int32) ≤ nI F from nI_ge (b := 64) hF (by omega)), if_neg (nI_pos (by omega)), if_neg (show ¬ (63 : Int32) < nI F from nI_nlt (a := 63) (b := F) (by omega) (by omega))]
    exact Or.inr ⟨F, hF, rfl, rfl, rfl⟩
theorem goes_same (h : RX n K lk rf hol nr rb ns sb sh σ τ) (x a : Int32) : Same (f_X6_goes x a σ) (f_X7_goes x a τ) := by
  have G := h.1
  have hn := G.1
  rcases has_ok h.2.1 G x with ⟨q1, q2⟩ | ⟨y, hy, rfl, q1⟩
  · rcases isHouse_ok h.2.2.1.1 hn x with ⟨z1, z2⟩ | ⟨y, hy, e, -⟩
    · refine h.same (v := -2) ?_ ?_
      · unfold f_X6_goes
        exact oBindE q1 (oT rfl (oRet ⟨rfl, PD.rf⟩))
      · unfold f_X7_goes
        exact oBindE z1 (oT rfl (oRet ⟨rfl, PN.rf⟩))
    · exact absurd e (q2 y hy)
  · have q3 := isHouse_1 h.2.2.1.1 hn hy
    rcases addr_cases a with ⟨a1, a2⟩ | ⟨b, hb, rfl, a1, a2⟩
    · refine h.same (v := -2) ?_ ?_
      · unfold f_X6_goes
        exact oBindE q1 (oF one_ne (oBindE a1 (oT rfl (oRet ⟨rfl, PD.rf⟩))))
      · unfold f_X7_goes
        exact oBindE q3 (oF one_ne (oBindE a2 (oT rfl (oRet ⟨rfl, PN.rf⟩))))
    · refine h.same (v := endF (hopT n K lk hol (syOf sb sh ns) rf b 7) 10 y) ?_ ?_
      · unfold f_X6_goes
        refine oBindE q1 (oF one_ne (oBindE a1 (oF one_ne (oBindE (v := rf) (by unfold f_X1_refusing; rw [h.2.2.2.1.1]) (oBind (look_ok h.2.1 G hb rf) (fun r hr => ?_))))))
        obtain ⟨r1, r2⟩ := hr
        exact oBindE (cend_ok hn r2 (fun h x hh hx => hopT_lt G hh hx) hy) (oRet ⟨rfl, r1⟩)
      · unfold f_X7_goes
        rw [h.2.2.2.1.2]
        refine oBindE q3 (oF one_ne (oBindE a2 (oF one_ne (oBind (findHops_ok h.2.2.1 G hb rf) (fun r hr => ?_)))))
        obtain ⟨r1, r2⟩ := hr
        exact oBindE (mend_ok hn (fun h hh => nextOf_ok G r2 hh) (fun h x hh hx => hopT_lt G hh hx) hy) (oRet ⟨rfl, r1⟩)
theorem misled_same (h : RX n K lk rf hol nr rb ns sb sh σ τ) (a : Int32) : Same (f_X6_misled a σ) (f_X7_misled a τ) := by
  rcases addr_cases a with ⟨a1, a2⟩ | ⟨b, hb, rfl, a1, a2⟩
  · refine h.same (v := -2) ?_ ?_
    · unfold f_X6_misled
      exact oBindE a1 (oT rfl (oRet ⟨rfl, PD.rf⟩))
    · unfold f_X7_misled
      exact oBindE a2 (oT rfl (oRet ⟨rfl, PN.rf⟩))
  · obtain ⟨⟨v1, s1⟩, e1, p1, w1⟩ := astray_ok h.2.1 h.1 hb rf
    obtain ⟨⟨v2, s2⟩, e2, p2, w2⟩ := misledBy_ok h.2.2.1 h.1 hb rf
    have e : v1 = v2 := b_ext (fun i hi => (w1 i hi).trans (w2 i hi).symm)
    subst e
    refine h.same (v := v1) ?_ ?_
    · unfold f_X6_misled
      exact oBindE a1 (oF one_ne (oBindE (v := rf) (by unfold f_X1_refusing; rw [h.2.2.2.1.1]) (oBindE e1 (oRet ⟨rfl, p1⟩))))
    · unfold f_X7_misled
      rw [h.2.2.2.1.2]
      exact oBindE a2 (oF one_ne (oBindE e2 (oRet ⟨rfl, p2⟩)))
end RR
