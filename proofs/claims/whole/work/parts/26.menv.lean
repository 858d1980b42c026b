/-! The model: its rights and sayings, held against the spec. -/
def syOf (sb sh : Nat → Nat) : Nat → Nat → Nat → Bool
  | 0, _, _ => false
  | ns + 1, b, h => syOf sb sh ns b h || (decide (sb ns = b) && decide (sh ns = h))
def saidOf (sb : Nat → Nat) : Nat → Nat → Bool
  | 0, _ => false
  | ns + 1, b => saidOf sb ns b || decide (sb ns = b)
def MR (nr : Nat) (rb : Nat → Nat) (hol : Nat → Int32) (τ : ZS) : Prop := τ.1 1 = nI nr ∧ nr ≤ 12 ∧ (∀ k, k < nr → (1 ≤ rb k ∧ rb k < 128) ∧ hol (rb k) ≠ -1 ∧ τ.2.1 2 k = nI (lenOf (rb k)) ∧ τ.2.1 3 k = nI (fstOf (rb k)) ∧ τ.2.1 4 k = hol (rb k)) ∧ (∀ b, 1 ≤ b → b < 128 → hol b ≠ -1 → ∃ k, k < nr ∧ rb k = b) ∧ ∀ i j, i < nr → j < nr → rb i = rb j → i = j
def MS (ns : Nat) (sb sh : Nat → Nat) (τ : ZS) : Prop := τ.1 2 = nI ns ∧ ns ≤ 18 ∧ ∀ k, k < ns → (1 ≤ sb k ∧ sb k < 128) ∧ sh k < 10 ∧ τ.2.1 5 k = nI (lenOf (sb k)) ∧ τ.2.1 6 k = nI (fstOf (sb k)) ∧ τ.2.1 7 k = nI (sh k)
def EM (n : Nat) (K : Nat → Nat → Nat) (lk : Int32) (hol : Nat → Int32) (nr : Nat) (rb : Nat → Nat) (ns : Nat) (sb sh : Nat → Nat) (τ : ZS) : Prop := τ.1 0 = nI n ∧ τ.1 3 = lk ∧ (∀ i j, i < 10 → j < 10 → τ.2.1 1 (10 * i + j) = nI (K i j)) ∧ MR nr rb hol τ ∧ MS ns sb sh τ
def PN (τ τ' : ZS) : Prop := (∀ k, k < 5 → τ'.1 k = τ.1 k) ∧ ∀ k, 1 ≤ k ∧ k ≤ 7 → τ'.2.1 k = τ.2.1 k
theorem PN.rf {τ : ZS} : PN τ τ := ⟨fun _ _ => rfl, fun _ _ => rfl⟩
theorem PN.tr {a b c : ZS} (h1 : PN a b) (h2 : PN b c) : PN a c := ⟨fun k hk => (h2.1 k hk).trans (h1.1 k hk), fun k hk => (h2.2 k hk).trans (h1.2 k hk)⟩
theorem PN.A {σ : ZS} {k i : Nat} {v : Int32} (h : 8 ≤ k) : PN σ (setA σ k i v) := ⟨fun _ _ => rfl, fun j hj => by
  show (if j = k then _ else σ.2.1 j) = _
  rw [if_neg (by omega)]⟩
theorem PN.I {σ : ZS} {k : Nat} {v : Int32} (h : 5 ≤ k) : PN σ (setI σ k v) := ⟨fun j hj => by
  show upd σ.1 k v j = _
  exact pk_un (by omega), fun _ _ => rfl⟩
theorem MR.pn {nr : Nat} {rb : Nat → Nat} {hol : Nat → Int32} {τ τ' : ZS} (h : MR nr rb hol τ) (p : PN τ τ') : MR nr rb hol τ' := ⟨(p.1 1 (by omega)).trans h.1, h.2.1, fun k hk => by rw [p.2 2 (by omega), p.2 3 (by omega), p.2 4 (by omega)]; exact h.2.2.1 k hk, h.2.2.2⟩
theorem MS.pn {ns : Nat} {sb sh : Nat → Nat} {τ τ' : ZS} (h : MS ns sb sh τ) (p : PN τ τ') : MS ns sb sh τ' := ⟨(p.1 2 (by omega)).trans h.1, h.2.1, fun k hk => by rw [p.2 5 (by omega), p.2 6 (by omega), p.2 7 (by omega)]; exact h.2.2 k hk⟩
theorem EM.pn {n : Nat} {K : Nat → Nat → Nat} {lk : Int32} {hol : Nat → Int32} {nr : Nat} {rb : Nat → Nat} {ns : Nat} {sb sh : Nat → Nat} {τ τ' : ZS} (h : EM n K lk hol nr rb ns sb sh τ) (p : PN τ τ') : EM n K lk hol nr rb ns sb sh τ' := ⟨(p.1 0 (by omega)).trans h.1, (p.1 3 (by omega)).trans h.2.1, fun i j hi hj => by rw [p.2 1 (by omega)]; exact h.2.2.1 i j hi hj, h.2.2.2.1.pn p, h.2.2.2.2.pn p⟩
def PM (τ τ' : ZS) : Prop := (∀ k, k < 5 → τ'.1 k = τ.1 k) ∧ ∀ k, (1 ≤ k ∧ k ≤ 7) ∨ 12 ≤ k → τ'.2.1 k = τ.2.1 k
theorem PM.rf {τ : ZS} : PM τ τ := ⟨fun _ _ => rfl, fun _ _ => rfl⟩
theorem PM.tr {a b c : ZS} (h1 : PM a b) (h2 : PM b c) : PM a c := ⟨fun k hk => (h2.1 k hk).trans (h1.1 k hk), fun k hk => (h2.2 k hk).trans (h1.2 k hk)⟩
theorem PM.A {σ : ZS} {k i : Nat} {v : Int32} (h : 8 ≤ k ∧ k ≤ 11) : PM σ (setA σ k i v) := ⟨fun _ _ => rfl, fun j hj => by
  show (if j = k then _ else σ.2.1 j) = _
  rw [if_neg (by omega)]⟩
theorem PM.I {σ : ZS} {k : Nat} {v : Int32} (h : 5 ≤ k) : PM σ (setI σ k v) := ⟨fun j hj => by
  show upd σ.1 k v j = _
  exact pk_un (by omega), fun _ _ => rfl⟩
theorem PN.of {τ τ' : ZS} (h : PM τ τ') : PN τ τ' := ⟨h.1, fun k hk => h.2 k (Or.inl hk)⟩
theorem EM.pm {n : Nat} {K : Nat → Nat → Nat} {lk : Int32} {hol : Nat → Int32} {nr : Nat} {rb : Nat → Nat} {ns : Nat} {sb sh : Nat → Nat} {τ τ' : ZS} (h : EM n K lk hol nr rb ns sb sh τ) (p : PM τ τ') : EM n K lk hol nr rb ns sb sh τ' := h.pn (PN.of p)
theorem blk_eq {a b : Nat} (ha : 1 ≤ a ∧ a < 128) (hb : 1 ≤ b ∧ b < 128) (h1 : lenOf a = lenOf b) (h2 : fstOf a = fstOf b) : a = b := by
  have e1 := (bn_of a ha.2 ha.1).2.2.2
  have e2 := (bn_of b hb.2 hb.1).2.2.2
  rw [← e1, ← e2, h1, h2]
theorem len_lt {b : Nat} (hb : 1 ≤ b ∧ b < 128) : lenOf b < 7 := (bn_of b hb.2 hb.1).1
theorem fst_lt {b : Nat} (hb : 1 ≤ b ∧ b < 128) : fstOf b < 64 := (bn_of b hb.2 hb.1).2.1
section MV
variable {n : Nat} {K : Nat → Nat → Nat} {lk : Int32} {hol : Nat → Int32} {nr : Nat} {rb : Nat → Nat} {ns : Nat} {sb sh : Nat → Nat} {τ : ZS}
theorem says_ok (M : MS ns sb sh τ) {b h : Nat} (hb : 1 ≤ b ∧ b < 128) (hh : h < 2 ^ 31) : f_X7_says (nI (lenOf b)) (nI (fstOf b)) (nI h) τ = some (bI (syOf sb sh ns b h)) := by
  obtain ⟨m1, m2, m3⟩ := M
  have hl := len_lt hb
  have hf := fst_lt hb
  apply oEq
  unfold f_X7_says
  refine oLoop (fun i t => t.2 = nI i ∧ t.1 = bI (syOf sb sh i b h)) ns (by omega) ⟨rfl, rfl⟩ ?_ ?_
  · intro i t hi hI
    obtain ⟨c, j⟩ := t
    obtain ⟨hj, hc⟩ := hI
    have hj : j = nI i := hj
    have hc : c = bI (syOf sb sh i b h) := hc
    subst hj
    subst hc
    obtain ⟨a1, a2, a3, a4, a5⟩ := m3 i hi
    have hl2 := len_lt a1
    have hf2 := fst_lt a1
    have er : syOf sb sh (i + 1) b h = (syOf sb sh i b h || (decide (sb i = b) && decide (sh i = h))) := rfl
    unfold f_X7_says_B6
    rw [m1]
    refine oLe ns i (by omega) (by omega) (fun q => by omega) (fun _ => ?_)
    cases hs : syOf sb sh i b h with
    | true =>
      refine oF one_ne ?_
      unfold f_X7_says_J53
      exact oRet ⟨nI_1 i, by rw [er, hs]; rfl⟩
    | false =>
      have no : ¬ (sb i = b ∧ sh i = h) → Sum.elim (fun t : Int32 × Int32 => t.2 = nI (i + 1) ∧ t.1 = bI (syOf sb sh (i + 1) b h)) (fun r => r = bI (syOf sb sh ns b h)) (.inl (0, nI i + 1)) := fun q => ⟨nI_1 i, by
        show (0 : Int32) = _
        rw [er, hs, Bool.false_or]
        by_cases z : sb i = b
        · rw [decide_eq_false (fun y => q ⟨z, y⟩), Bool.and_false]; rfl
        · rw [decide_eq_false z, Bool.false_and]; rfl⟩
      refine oT rfl (oLd (by omega) (by omega) ?_)
      rw [a3]
      refine oNe (lenOf (sb i)) (lenOf b) (by omega) (by omega) (fun q1 => ?_) (fun q1 => oRet (no (fun z => q1 (by rw [z.1]))))
      refine oLd (by omega) (by omega) ?_
      rw [a4]
      refine oNe (fstOf (sb i)) (fstOf b) (by omega) (by omega) (fun q2 => ?_) (fun q2 => oRet (no (fun z => q2 (by rw [z.1]))))
      refine oLd (by omega) (by omega) ?_
      rw [a5]
      refine oNe (sh i) h (by omega) hh (fun q3 => ?_) (fun q3 => oRet (no (fun z => q3 z.2)))
      unfold f_X7_says_J53
      refine oRet ⟨nI_1 i, ?_⟩
      rw [er, decide_eq_true (blk_eq a1 hb q1 q2), decide_eq_true q3]; simp; rfl
  · intro t hI
    obtain ⟨c, j⟩ := t
    obtain ⟨hj, hc⟩ := hI
    have hj : j = nI ns := hj
    have hc : c = bI (syOf sb sh ns b h) := hc
    subst hj
    subst hc
    unfold f_X7_says_B6
    rw [m1]
    exact oLe ns ns (by omega) (by omega) (fun _ => oCk (isB_bI _) (oWi (oRet rfl))) (fun q => by omega)
theorem isSaid_ok (M : MS ns sb sh τ) {b : Nat} (hb : 1 ≤ b ∧ b < 128) : f_X7_isSaid (nI (lenOf b)) (nI (fstOf b)) τ = some (bI (saidOf sb ns b)) := by
  obtain ⟨m1, m2, m3⟩ := M
  have hl := len_lt hb
  have hf := fst_lt hb
  apply oEq
  unfold f_X7_isSaid
  refine oLoop (fun i t => t.2 = nI i ∧ t.1 = bI (saidOf sb i b)) ns (by omega) ⟨rfl, rfl⟩ ?_ ?_
  · intro i t hi hI
    obtain ⟨c, j⟩ := t
    obtain ⟨hj, hc⟩ := hI
    have hj : j = nI i := hj
    have hc : c = bI (saidOf sb i b) := hc
    subst hj
    subst hc
    obtain ⟨a1, a2, a3, a4, a5⟩ := m3 i hi
    have hl2 := len_lt a1
    have hf2 := fst_lt a1
    have er : saidOf sb (i + 1) b = (saidOf sb i b || decide (sb i = b)) := rfl
    unfold f_X7_isSaid_B5
    rw [m1]
    refine oLe ns i (by omega) (by omega) (fun q => by omega) (fun _ => ?_)
    cases hs : saidOf sb i b with
    | true =>
      refine oF one_ne ?_
      unfold f_X7_isSaid_J40
      exact oRet ⟨nI_1 i, by rw [er, hs]; rfl⟩
    | false =>
      have no : ¬ (sb i = b) → Sum.elim (fun t : Int32 × Int32 => t.2 = nI (i + 1) ∧ t.1 = bI (saidOf sb (i + 1) b)) (fun r => r = bI (saidOf sb ns b)) (.inl (0, nI i + 1)) := fun q => ⟨nI_1 i, by
        show (0 : Int32) = _
        rw [er, hs, decide_eq_false q]; rfl⟩
      refine oT rfl (oLd (by omega) (by omega) ?_)
      rw [a3]
      refine oNe (lenOf (sb i)) (lenOf b) (by omega) (by omega) (fun q1 => ?_) (fun q1 => oRet (no (fun z => q1 (by rw [z]))))
      refine oLd (by omega) (by omega) ?_
      rw [a4]
      refine oNe (fstOf (sb i)) (fstOf b) (by omega) (by omega) (fun q2 => ?_) (fun q2 => oRet (no (fun z => q2 (by rw [z]))))
      unfold f_X7_isSaid_J40
      refine oRet ⟨nI_1 i, ?_⟩
      rw [er, decide_eq_true (blk_eq a1 hb q1 q2)]; simp; rfl
  · intro t hI
    obtain ⟨c, j⟩ := t
    obtain ⟨hj, hc⟩ := hI
    have hj : j = nI ns := hj
    have hc : c = bI (saidOf sb ns b) := hc
    subst hj
    subst hc
    unfold f_X7_isSaid_B5
    rw [m1]
    exact oLe ns ns (by omega) (by omega) (fun _ => oCk (isB_bI _) (oWi (oRet rfl))) (fun q => by omega)
theorem rightOf_ok (M : MR nr rb hol τ) {b : Nat} (hb : 1 ≤ b ∧ b < 128) : (hol b = -1 ∧ f_X7_rightOf (nI (lenOf b)) (nI (fstOf b)) τ = some (-1)) ∨ ∃ k, k < nr ∧ rb k = b ∧ hol b ≠ -1 ∧ f_X7_rightOf (nI (lenOf b)) (nI (fstOf b)) τ = some (nI k) := by
  obtain ⟨m1, m2, m3, m4, m5⟩ := M
  have hl := len_lt hb
  have hf := fst_lt hb
  have key : Ok (f_X7_rightOf (nI (lenOf b)) (nI (fstOf b)) τ) (fun r => (r = -1 ∧ ∀ k, k < nr → rb k ≠ b) ∨ ∃ k, k < nr ∧ rb k = b ∧ r = nI k) := by
    unfold f_X7_rightOf
    refine oLoop (fun i t => t = nI i ∧ ∀ k, k < i → rb k ≠ b) nr (by omega) ⟨rfl, fun k hk => by omega⟩ ?_ ?_
    · intro i t hi hI
      obtain ⟨hj, hn⟩ := hI
      subst hj
      obtain ⟨a1, a2, a3, a4, a5⟩ := m3 i hi
      have hl2 := len_lt a1
      have hf2 := fst_lt a1
      unfold f_X7_rightOf_B2
      rw [m1]
      refine oLe nr i (by omega) (by omega) (fun q => by omega) (fun _ => ?_)
      have no : rb i ≠ b → Sum.elim (fun t => t = nI (i + 1) ∧ ∀ k, k < i + 1 → rb k ≠ b) (fun r => (r = -1 ∧ ∀ k, k < nr → rb k ≠ b) ∨ ∃ k, k < nr ∧ rb k = b ∧ r = nI k) (.inl (nI i + 1)) := fun q => ⟨nI_1 i, fun k hk => by
        rcases Nat.lt_or_ge k i with z | z
        · exact hn k z
        · have : k = i := by omega
          subst this; exact q⟩
      refine oLd (by omega) (by omega) ?_
      rw [a3]
      refine oNe (lenOf (rb i)) (lenOf b) (by omega) (by omega) (fun q1 => ?_) (fun q1 => oRet (no (fun z => q1 (by rw [z]))))
      refine oLd (by omega) (by omega) ?_
      rw [a4]
      refine oNe (fstOf (rb i)) (fstOf b) (by omega) (by omega) (fun q2 => ?_) (fun q2 => oRet (no (fun z => q2 (by rw [z]))))
      exact oWi (oRet (Or.inr ⟨i, hi, blk_eq a1 hb q1 q2, rfl⟩))
    · intro t hI
      obtain ⟨hj, hn⟩ := hI
      subst hj
      unfold f_X7_rightOf_B2
      rw [m1]
      exact oLe nr nr (by omega) (by omega) (fun _ => oWi (oRet (Or.inl ⟨rfl, hn⟩))) (fun q => by omega)
  obtain ⟨r, e, h⟩ := key
  rcases h with ⟨rfl, h⟩ | ⟨k, h1, h2, rfl⟩
  · refine Or.inl ⟨?_, e⟩
    by_cases z : hol b = -1
    · exact z
    · obtain ⟨k, h1, h2⟩ := m4 b hb.1 hb.2 z
      exact absurd h2 (h k h1)
  · exact Or.inr ⟨k, h1, h2, by have := (m3 k h1).2.1; rw [h2] at this; exact this, e⟩
theorem side_ok : ∀ l, l < 7 → ∀ F, F < 64 → ((nI F / ((1 : Int32) <<< (((6 : Int32) - nI l) &&& 31))) * ((1 : Int32) <<< (((6 : Int32) - nI l) &&& 31)) = nI (fstOf ((64 + F) / 2 ^ (6 - l))) ∧ lenOf ((64 + F) / 2 ^ (6 - l)) = l ∧ 1 ≤ (64 + F) / 2 ^ (6 - l) ∧ (64 + F) / 2 ^ (6 - l) < 128 ∧ decide (¬ ((1 : Int32) <<< (((6 : Int32) - nI l) &&& 31)) = 0) = true) := by decide +kernel
theorem side_dn {l F : Nat} (h : l < 6) : (64 + F) / 2 ^ (6 - (l + 1)) / 2 = (64 + F) / 2 ^ (6 - l) := by
  rw [Nat.div_div_eq_div_mul, ← Nat.pow_succ]
  congr 2
  omega
theorem own_fuel : ∀ (f j b : Nat), b < 2 ^ f → ownOf hol (f + 1 + j) b = ownOf hol (f + 1) b := by
  intro f
  induction f with
  | zero =>
    intro j b hb
    have : b = 0 := by omega
    subst this
    rw [show 0 + 1 + j = j + 1 by omega]
    rfl
  | succ f ih =>
    intro j b hb
    rw [show f + 1 + 1 + j = (f + 1 + j) + 1 by omega]
    have e1 : ownOf hol ((f + 1 + j) + 1) b = if b < 1 then -1 else if hol b = -1 then ownOf hol (f + 1 + j) (b / 2) else hol b := rfl
    have e2 : ownOf hol (f + 1 + 1) b = if b < 1 then -1 else if hol b = -1 then ownOf hol (f + 1) (b / 2) else hol b := rfl
    rw [e1, e2, ih j (b / 2) (by rw [Nat.pow_succ] at hb; omega)]
theorem rightfulFor_ok (M : MR nr rb hol τ) {b : Nat} (hb : 1 ≤ b ∧ b < 128) {F : Nat} (hF : F < 64) (hbF : (64 + F) / 2 ^ (6 - lenOf b) = b) : f_X7_rightfulFor (nI (lenOf b)) (nI F) τ = some (own8 hol b) := by
  have hlb := len_lt hb
  have key : ∀ (l G : Nat), l < 7 → l + 2 < G → lp G (f_X7_rightfulFor_B2 (nI F) τ) (nI l) = some (ownOf hol (l + 2) ((64 + F) / 2 ^ (6 - l))) := by
    intro l
    induction l with
    | zero =>
      intro G hl hG
      obtain ⟨G, rfl⟩ : ∃ H, G = H + 1 := ⟨G - 1, by omega⟩
      obtain ⟨G, rfl⟩ : ∃ H, G = H + 1 := ⟨G - 1, by omega⟩
      obtain ⟨s1, s2, s3, s4, s5⟩ := side_ok 0 hl F hF
      have c1 : (64 + F) / 2 ^ (6 - 0) = 1 := by omega
      apply oEq
      refine oStep ?_
      conv => arg 1; unfold f_X7_rightfulFor_B2
      refine oF (nI_pos (by omega)) (oCk s5 ?_)
      rw [s1]
      have e1 : ownOf hol (0 + 2) ((64 + F) / 2 ^ (6 - 0)) = if (64 + F) / 2 ^ (6 - 0) < 1 then -1 else if hol ((64 + F) / 2 ^ (6 - 0)) = -1 then ownOf hol 1 ((64 + F) / 2 ^ (6 - 0) / 2) else hol ((64 + F) / 2 ^ (6 - 0)) := rfl
      rw [e1, if_neg (by omega)]
      have r := rightOf_ok M ⟨s3, s4⟩
      rw [s2] at r
      rcases r with ⟨r1, r2⟩ | ⟨k, r1, r2, r3, r4⟩
      · refine oBindE r2 (oT rfl (oRet ?_))
        rw [if_pos r1]
        show Ok (lp (G + 1) (f_X7_rightfulFor_B2 (nI F) τ) (nI 0 + (-1))) _
        refine oStep ?_
        unfold f_X7_rightfulFor_B2
        refine oT (by decide) (oWi (oRet (oRet ?_)))
        rw [c1]; rfl
      · refine oBindE r4 (oF (nI_m1 (by have := M.2.1; omega)) (oLd (by have := M.2.1; omega) (by omega) (oWi (oRet (oRet ?_)))))
        rw [if_neg r3, (M.2.2.1 k r1).2.2.2.2, r2]
    | succ l ih =>
      intro G hl hG
      obtain ⟨G, rfl⟩ : ∃ H, G = H + 1 := ⟨G - 1, by omega⟩
      obtain ⟨s1, s2, s3, s4, s5⟩ := side_ok (l + 1) hl F hF
      apply oEq
      refine oStep ?_
      conv => arg 1; unfold f_X7_rightfulFor_B2
      refine oF (nI_pos (by omega)) (oCk s5 ?_)
      rw [s1]
      have e1 : ownOf hol (l + 1 + 2) ((64 + F) / 2 ^ (6 - (l + 1))) = if (64 + F) / 2 ^ (6 - (l + 1)) < 1 then -1 else if hol ((64 + F) / 2 ^ (6 - (l + 1))) = -1 then ownOf hol (l + 2) ((64 + F) / 2 ^ (6 - (l + 1)) / 2) else hol ((64 + F) / 2 ^ (6 - (l + 1))) := rfl
      rw [e1, if_neg (by omega)]
      have r := rightOf_ok M ⟨s3, s4⟩
      rw [s2] at r
      rcases r with ⟨r1, r2⟩ | ⟨k, r1, r2, r3, r4⟩
      · refine oBindE r2 (oT rfl (oRet ?_))
        rw [if_pos r1, side_dn (by omega)]
        show Ok (lp G (f_X7_rightfulFor_B2 (nI F) τ) (nI (l + 1) + (-1))) _
        rw [pk_m1]
        exact oOf (ih G (by omega) (by omega))
      · refine oBindE r4 (oF (nI_m1 (by have := M.2.1; omega)) (oLd (by have := M.2.1; omega) (by omega) (oWi (oRet (oRet ?_)))))
        rw [if_neg r3, (M.2.2.1 k r1).2.2.2.2, r2]
  have := key (lenOf b) zF hlb (by unfold zF; omega)
  unfold f_X7_rightfulFor
  rw [this, hbF]
  have hlt : b < 2 ^ (lenOf b + 1) := Nat.lt_log2_self
  have e := own_fuel (hol := hol) (lenOf b + 1) (6 - lenOf b) b hlt
  rw [show lenOf b + 1 + 1 + (6 - lenOf b) = 8 by omega] at e
  rw [← e]; rfl
theorem self_F {b : Nat} (hb : 1 ≤ b ∧ b < 128) : (64 + fstOf b) / 2 ^ (6 - lenOf b) = b := (bn_of b hb.2 hb.1).2.2.2
theorem rightful_ok (M : MR nr rb hol τ) {b : Nat} (hb : 1 ≤ b ∧ b < 128) : f_X7_rightfulFor (nI (lenOf b)) (nI (fstOf b)) τ = some (own8 hol b) := rightfulFor_ok M hb (fst_lt hb) (self_F hb)
end MV
