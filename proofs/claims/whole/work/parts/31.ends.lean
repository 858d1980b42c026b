/-- the houses misled for an address -/
def sMis (n : Nat) (K : Nat → Nat → Nat) (lk : Int32) (hol : Nat → Int32) (Sy : Nat → Nat → Bool) (Rf : Int32) (a i : Nat) : Bool := decide (i < n) && (!decide (own8 hol (64 + a) = -1) && (!decide (endF (hopT n K lk hol Sy Rf a 7) 10 i < 0) && !decide (endF (hopT n K lk hol Sy Rf a 7) 10 i = own8 hol (64 + a))))
theorem cend_ok {n : Nat} {σ : ZS} {H : Nat → Option Nat} (hn : n ≤ 10) (hH : ∀ h, h < n → σ.2.1 14 h = oL (H h)) (hlt : ∀ h x, h < n → H h = some x → x < n) {h : Nat} (hh : h < n) : f_X0_end (nI h) σ = some (endF H 10 h) := by
  apply oEq
  unfold f_X0_end
  refine oLoop (fun i t => t.2 = nI i ∧ ∃ y, y < n ∧ t.1 = nI y ∧ endF H 10 h = endF H (10 - i) y) 10 (by omega) ⟨rfl, h, hh, rfl, rfl⟩ ?_ ?_
  · intro i t hi hI
    obtain ⟨x, j⟩ := t
    obtain ⟨hj, y, hy, hx, he⟩ := hI
    have hj : j = nI i := hj
    have hx : x = nI y := hx
    subst hj
    subst hx
    obtain ⟨f, hf⟩ : ∃ f, 10 - i = f + 1 := ⟨10 - i - 1, by omega⟩
    rw [hf] at he
    have ee : endF H (f + 1) y = match H y with
      | none => -7
      | some x => if x = y then nI y else endF H f x := rfl
    unfold f_X0_end_B4
    refine oLe 10 i (by omega) (by omega) (fun q => by omega) (fun _ => ?_)
    refine oF (nI_pos (by omega)) (oLe 10 y (by omega) (by omega) (fun q => by omega) (fun _ => oLd (by omega) (by omega) ?_))
    rw [hH y hy]
    unfold f_X0_end_J34
    cases hc : H y with
    | none =>
      rw [hc] at ee
      refine oT rfl (oWi (oRet ?_))
      rw [he, ee]; rfl
    | some z =>
      rw [hc] at ee
      have ee : endF H (f + 1) y = if z = y then nI y else endF H f z := ee
      have hz := hlt y z hy hc
      refine oF (nI_m7 (by omega)) ?_
      refine oNe z y (by omega) (by omega) (fun q => oWi (oRet ?_)) (fun q => oRet ⟨nI_1 i, z, hz, rfl, ?_⟩)
      · subst q
        rw [he, ee, if_pos rfl]; rfl
      · rw [he, ee, if_neg q, show 10 - (i + 1) = f by omega]
  · intro t hI
    obtain ⟨x, j⟩ := t
    obtain ⟨hj, y, hy, hx, he⟩ := hI
    have hj : j = nI 10 := hj
    subst hj
    unfold f_X0_end_B4
    refine oT (show (10 : Int32) ≤ nI 10 by decide) (oWi (oRet ?_))
    rw [he]; rfl
section CA
variable {n : Nat} {K : Nat → Nat → Nat} {lk : Int32} {hol : Nat → Int32} {Sy : Nat → Nat → Bool} {σ : ZS}
theorem astray_ok (E : EC n K lk hol Sy σ) (G : GI n K hol Sy) {a : Nat} (ha : a < 64) (Rf : Int32) : Ok (f_X0_astray (nI a) Rf σ) (fun r => PD σ r.2 ∧ ∀ i, i < 32 → bt r.1 i = sMis n K lk hol Sy Rf a i) := by
  have hn := G.1
  unfold f_X0_astray
  rw [show (64 : Int32) + nI a = nI (64 + a) from nI_add 64 a]
  refine oBindE (owner_ok E (by omega)) (oIte (fun q => oRet ⟨PD.rf, fun i hi => ?_⟩) (fun q => ?_))
  · unfold sMis
    rw [b_0, decide_eq_true q]; simp
  · refine oBind (look_ok E G ha Rf) (fun τ hτ => ?_)
    obtain ⟨h1, h2⟩ := hτ
    have E' := E.pd h1
    have hend : ∀ i, i < n → f_X0_end (nI i) τ = some (endF (hopT n K lk hol Sy Rf a 7) 10 i) := fun i hi => cend_ok hn h2 (fun h x hh hx => hopT_lt G hh hx) hi
    refine oLoop (fun i t => t.2 = nI i ∧ ∀ x, x < 32 → bt t.1 x = (decide (x < i) && sMis n K lk hol Sy Rf a x)) n (by omega) ⟨rfl, fun x hx => by rw [b_0]; simp⟩ ?_ ?_
    · intro i t hi hI
      obtain ⟨m, j⟩ := t
      obtain ⟨hj, h3⟩ := hI
      have hj : j = nI i := hj
      have h3 : ∀ x, x < 32 → bt m x = (decide (x < i) && sMis n K lk hol Sy Rf a x) := h3
      subst hj
      have keep : sMis n K lk hol Sy Rf a i = false → Sum.elim (fun t : Int32 × Int32 => t.2 = nI (i + 1) ∧ ∀ x, x < 32 → bt t.1 x = (decide (x < i + 1) && sMis n K lk hol Sy Rf a x)) (fun r : Int32 × ZS => PD σ r.2 ∧ ∀ i, i < 32 → bt r.1 i = sMis n K lk hol Sy Rf a i) (.inl (m, nI i + 1)) := fun z => ⟨nI_1 i, fun x hx => by
        show bt m x = _
        rw [h3 x hx]
        by_cases y : x = i
        · subst y; rw [z]; simp
        · congr 1
          rw [decide_eq_decide]; omega⟩
      unfold f_X0_astray_B31
      refine oBindE (number_ok E') (oLe n i (by omega) (by omega) (fun z => by omega) (fun _ => ?_))
      refine oBindE (hend i hi) (oIte (fun z => oRet (keep ?_)) (fun z => oIte (fun w => oRet (keep ?_)) (fun w => ?_)))
      · unfold sMis; rw [decide_eq_true z]; simp
      · unfold sMis; rw [decide_eq_true w]; simp
      · refine oBindE (bit_ok (by omega)) (oRet ⟨nI_1 i, fun x hx => ?_⟩)
        show bt (m ||| bm i) x = _
        rw [b_or, h3 x hx, b_bm i (by omega) x hx]
        by_cases y : x = i
        · subst y
          have e1 : sMis n K lk hol Sy Rf a x = true := by
            unfold sMis
            rw [decide_eq_true hi, decide_eq_false q, decide_eq_false z, decide_eq_false w]; rfl
          rw [e1]; simp
        · rw [decide_eq_false y, Bool.or_false]
          congr 1
          rw [decide_eq_decide]; omega
    · intro t hI
      obtain ⟨m, j⟩ := t
      obtain ⟨hj, h3⟩ := hI
      have hj : j = nI n := hj
      have h3 : ∀ x, x < 32 → bt m x = (decide (x < n) && sMis n K lk hol Sy Rf a x) := h3
      subst hj
      unfold f_X0_astray_B31
      refine oBindE (number_ok E') (oLe n n (by omega) (by omega) (fun _ => oWi (oRet ⟨h1, fun x hx => ?_⟩)) (fun z => by omega))
      show bt m x = _
      rw [h3 x hx]
      unfold sMis
      cases decide (x < n) <;> simp
end CA
section MH
variable {n : Nat} {K : Nat → Nat → Nat} {lk : Int32} {hol : Nat → Int32} {nr : Nat} {rb : Nat → Nat} {ns : Nat} {sb sh : Nat → Nat} {τ : ZS} {Rf : Int32}
theorem said_iff {b : Nat} : ∀ ns, saidOf sb ns b = false ↔ ∀ h, syOf sb sh ns b h = false := by
  intro ns
  induction ns with
  | zero => exact ⟨fun _ _ => rfl, fun _ => rfl⟩
  | succ ns ih =>
    have e1 : saidOf sb (ns + 1) b = (saidOf sb ns b || decide (sb ns = b)) := rfl
    have e2 : ∀ h, syOf sb sh (ns + 1) b h = (syOf sb sh ns b h || (decide (sb ns = b) && decide (sh ns = h))) := fun _ => rfl
    rw [e1, Bool.or_eq_false_iff, ih]
    constructor
    · rintro ⟨a, c⟩ h
      rw [e2, a h, c]; rfl
    · intro a
      refine ⟨fun h => ?_, ?_⟩
      · have := a h
        rw [e2, Bool.or_eq_false_iff] at this
        exact this.1
      · have := a (sh ns)
        rw [e2, Bool.or_eq_false_iff, decide_eq_true rfl, Bool.and_true] at this
        exact this.2
theorem findHops_ok (E : EM n K lk hol nr rb ns sb sh τ) (G : GI n K hol (syOf sb sh ns)) {a : Nat} (ha : a < 64) (Rf : Int32) : Ok (f_X7_findHops (nI a) Rf τ) (fun r => PN τ r ∧ ∀ l, l < 7 → ∀ h, h < n → r.2.1 12 (10 * l + h) = oI (hopB n K lk hol (syOf sb sh ns) Rf ((64 + a) / 2 ^ (6 - l)) h)) := by
  have hn := G.1
  unfold f_X7_findHops
  refine oLoop (fun i t => t.1 = nI i ∧ PN τ t.2 ∧ ∀ l, l < i → ∀ h, h < n → t.2.2.1 12 (10 * l + h) = oI (hopB n K lk hol (syOf sb sh ns) Rf ((64 + a) / 2 ^ (6 - l)) h)) 7 (by omega) ⟨rfl, PN.rf, fun l hl => by omega⟩ ?_ ?_
  · intro i t hi hI
    obtain ⟨j, ρ⟩ := t
    obtain ⟨hj, h1, h2⟩ := hI
    have hj : j = nI i := hj
    have h1 : PN τ ρ := h1
    have h2 : ∀ l, l < i → ∀ h, h < n → ρ.2.1 12 (10 * l + h) = oI (hopB n K lk hol (syOf sb sh ns) Rf ((64 + a) / 2 ^ (6 - l)) h) := h2
    subst hj
    obtain ⟨s1, s2, s3, s4, s5⟩ := side_ok i hi a ha
    obtain ⟨b, hb⟩ : ∃ b, b = (64 + a) / 2 ^ (6 - i) := ⟨_, rfl⟩
    rw [← hb] at s1 s2 s3 s4
    have E' := E.pn h1
    -- the inner loop, over a state that has the ways of the block, or none says it
    have inner : ∀ υ : ZS, PN τ υ → υ.2.1 12 = ρ.2.1 12 → (saidOf sb ns b = true → mW υ 8 n (sEnd n K lk hol (syOf sb sh ns) Rf b).2) → Ok (f_X7_findHops_J43 (nI a) Rf (nI i) (nI (fstOf b)) υ) (Sum.elim (fun t : Int32 × ZS => t.1 = nI (i + 1) ∧ PN τ t.2 ∧ ∀ l, l < i + 1 → ∀ h, h < n → t.2.2.1 12 (10 * l + h) = oI (hopB n K lk hol (syOf sb sh ns) Rf ((64 + a) / 2 ^ (6 - l)) h)) (fun r : ZS => PN τ r ∧ ∀ l, l < 7 → ∀ h, h < n → r.2.1 12 (10 * l + h) = oI (hopB n K lk hol (syOf sb sh ns) Rf ((64 + a) / 2 ^ (6 - l)) h))) := by
      intro υ p0 p1 p2
      unfold f_X7_findHops_J43
      refine oLoop (fun k t => t.1 = nI k ∧ PN τ t.2 ∧ (∀ j, j ≠ 12 → t.2.2.1 j = υ.2.1 j) ∧ (∀ l, l < i → ∀ h, h < n → t.2.2.1 12 (10 * l + h) = oI (hopB n K lk hol (syOf sb sh ns) Rf ((64 + a) / 2 ^ (6 - l)) h)) ∧ ∀ h, h < k → t.2.2.1 12 (10 * i + h) = oI (hopB n K lk hol (syOf sb sh ns) Rf b h)) n (by omega) ⟨rfl, p0, fun _ _ => rfl, fun l hl h hh => by rw [show (υ.2.1 12) = ρ.2.1 12 from p1]; exact h2 l hl h hh, fun h hh => by omega⟩ ?_ ?_
      · intro k t hk hI
        obtain ⟨j, μ⟩ := t
        obtain ⟨hj, q1, q2, q3, q4⟩ := hI
        have hj : j = nI k := hj
        have q1 : PN τ μ := q1
        have q2 : ∀ j, j ≠ 12 → μ.2.1 j = υ.2.1 j := q2
        have q3 : ∀ l, l < i → ∀ h, h < n → μ.2.1 12 (10 * l + h) = oI (hopB n K lk hol (syOf sb sh ns) Rf ((64 + a) / 2 ^ (6 - l)) h) := q3
        have q4 : ∀ h, h < k → μ.2.1 12 (10 * i + h) = oI (hopB n K lk hol (syOf sb sh ns) Rf b h) := q4
        subst hj
        have EM' := E.pn q1
        have put : ∀ v : Int32, v = oI (hopB n K lk hol (syOf sb sh ns) Rf b k) → Sum.elim (fun t : Int32 × ZS => t.1 = nI (k + 1) ∧ PN τ t.2 ∧ (∀ j, j ≠ 12 → t.2.2.1 j = υ.2.1 j) ∧ (∀ l, l < i → ∀ h, h < n → t.2.2.1 12 (10 * l + h) = oI (hopB n K lk hol (syOf sb sh ns) Rf ((64 + a) / 2 ^ (6 - l)) h)) ∧ ∀ h, h < k + 1 → t.2.2.1 12 (10 * i + h) = oI (hopB n K lk hol (syOf sb sh ns) Rf b h)) (Sum.elim (fun t : Int32 × ZS => t.1 = nI (i + 1) ∧ PN τ t.2 ∧ ∀ l, l < i + 1 → ∀ h, h < n → t.2.2.1 12 (10 * l + h) = oI (hopB n K lk hol (syOf sb sh ns) Rf ((64 + a) / 2 ^ (6 - l)) h)) (fun r : ZS => PN τ r ∧ ∀ l, l < 7 → ∀ h, h < n → r.2.1 12 (10 * l + h) = oI (hopB n K lk hol (syOf sb sh ns) Rf ((64 + a) / 2 ^ (6 - l)) h))) (.inl (nI k + 1, setA μ 12 (10 * i + k) v)) := fun v hv => by
          refine ⟨nI_1 k, q1.tr (PN.A (by omega)), fun j hj => ?_, fun l hl h hh => ?_, fun h hh => ?_⟩
          · show (setA μ 12 _ _).2.1 j = _
            rw [setA_n hj]; exact q2 j hj
          · show (setA μ 12 _ _).2.1 12 _ = _
            rw [setA_s, pk_un (by omega)]; exact q3 l hl h hh
          · show (setA μ 12 _ _).2.1 12 _ = _
            rw [setA_s]
            by_cases y : h = k
            · subst y; rw [pk_us]; exact hv
            · rw [pk_un (by omega)]; exact q4 h (by omega)
        unfold f_X7_findHops_B46
        show Ok (if μ.1 0 ≤ nI k then _ else _) _
        rw [EM'.1, show ((10 : Int32) * nI i) + nI k = nI (10 * i + k) from ix10 i k, nI_clamp (show 10 * i + k < 2 ^ 31 by omega)]
        refine oLe n k (by omega) (by omega) (fun z => by omega) (fun _ => ?_)
        have sd := isSaid_ok EM'.2.2.2.2 (b := b) ⟨s3, s4⟩
        rw [s2] at sd
        have J86 : hopB n K lk hol (syOf sb sh ns) Rf b k = none → Ok (f_X7_findHops_J86 (nI a) Rf (nI i) (nI (fstOf b)) (nI k) (nI (10 * i + k)) μ) (Sum.elim (fun t : Int32 × ZS => t.1 = nI (k + 1) ∧ PN τ t.2 ∧ (∀ j, j ≠ 12 → t.2.2.1 j = υ.2.1 j) ∧ (∀ l, l < i → ∀ h, h < n → t.2.2.1 12 (10 * l + h) = oI (hopB n K lk hol (syOf sb sh ns) Rf ((64 + a) / 2 ^ (6 - l)) h)) ∧ ∀ h, h < k + 1 → t.2.2.1 12 (10 * i + h) = oI (hopB n K lk hol (syOf sb sh ns) Rf b h)) (Sum.elim (fun t : Int32 × ZS => t.1 = nI (i + 1) ∧ PN τ t.2 ∧ ∀ l, l < i + 1 → ∀ h, h < n → t.2.2.1 12 (10 * l + h) = oI (hopB n K lk hol (syOf sb sh ns) Rf ((64 + a) / 2 ^ (6 - l)) h)) (fun r : ZS => PN τ r ∧ ∀ l, l < 7 → ∀ h, h < n → r.2.1 12 (10 * l + h) = oI (hopB n K lk hol (syOf sb sh ns) Rf ((64 + a) / 2 ^ (6 - l)) h)))) := fun z => by
          unfold f_X7_findHops_J86
          rw [nI_clamp (show 10 * i + k < 2 ^ 31 by omega)]
          exact oCkI (by omega) (by omega) (oRet (put (-1) (by rw [z]; rfl)))
        refine oBindE sd ?_
        cases hsd : saidOf sb ns b with
        | false => exact oT rfl (J86 (hopB_none ((said_iff ns).mp hsd)))
        | true =>
          refine oF one_ne ?_
          have hm := p2 hsd k hk
          have hW := sEnd_WI (lk := lk) (Rf := Rf) G b
          have hlen := hW.len k
          have m1 : μ.2.1 9 k = nI ((sEnd n K lk hol (syOf sb sh ns) Rf b).2 k).length := by rw [q2 9 (by omega)]; exact hm.1
          refine oLd (by omega) (by omega) ?_
          show Ok (if μ.2.1 9 k = 0 then _ else _) _
          rw [m1]
          refine oNe _ 0 (by omega) (by omega) (fun z => J86 (hopL_0 z)) (fun z => oLd (by omega) (by omega) ?_)
          show Ok (if μ.2.1 9 k = 1 then _ else _) _
          rw [m1]
          refine oNe _ 1 (by omega) (by omega) (fun w => oCkI (by omega) (by omega) (oRet (put _ ?_))) (fun w => ?_)
          · rw [show hopB n K lk hol (syOf sb sh ns) Rf b k = some k from hopL_1 w]; rfl
          · obtain ⟨x, x1, x2⟩ := hopL_2 (h := k) (l := (sEnd n K lk hol (syOf sb sh ns) Rf b).2 k) (by omega)
            show Ok (ld (μ.2.1 8) 100 (((10 : Int32) * nI k) + 1) _) _
            rw [show ((10 : Int32) * nI k) + 1 = nI (10 * k + 1) from ix10 k 1]
            refine oLd (by omega) (by omega) (oCkI (by omega) (by omega) (oRet (put _ ?_)))
            rw [show hopB n K lk hol (syOf sb sh ns) Rf b k = some x from x2, q2 8 (by omega)]
            exact hm.2 1 x x1
      · intro t hI
        obtain ⟨j, μ⟩ := t
        obtain ⟨hj, q1, q2, q3, q4⟩ := hI
        have hj : j = nI n := hj
        have q1 : PN τ μ := q1
        subst hj
        unfold f_X7_findHops_B46
        show Ok (if μ.1 0 ≤ nI n then _ else _) _
        rw [(E.pn q1).1]
        refine oLe n n (by omega) (by omega) (fun _ => oWi (oRet ⟨nI_1 i, q1, fun l hl h hh => ?_⟩)) (fun z => by omega)
        rcases Nat.lt_or_ge l i with y | y
        · exact q3 l y h hh
        · have : l = i := by omega
          subst this
          rw [← hb]; exact q4 h hh
    unfold f_X7_findHops_B2
    refine oLe 7 i (by omega) (by omega) (fun q => by omega) (fun _ => oCk s5 ?_)
    show Ok (Option.bind (f_X7_isSaid (nI i) ((nI a / ((1 : Int32) <<< (((6 : Int32) - nI i) &&& 31))) * ((1 : Int32) <<< (((6 : Int32) - nI i) &&& 31))) ρ) _) _
    rw [s1]
    have sd := isSaid_ok E'.2.2.2.2 (b := b) ⟨s3, s4⟩
    rw [s2] at sd
    refine oBindE sd ?_
    cases hsd : saidOf sb ns b with
    | false => exact oT rfl (inner ρ h1 rfl (fun z => by rw [hsd] at z; cases z))
    | true =>
      refine oF one_ne ?_
      have fw := findWays_ok E' G (b := b) ⟨s3, s4⟩ Rf
      rw [s2] at fw
      refine oBind fw (fun υ hυ => ?_)
      obtain ⟨f1, f2, f3, f4, f5⟩ := hυ
      exact inner υ (h1.tr (PN.of f1)) (f1.2 12 (by omega)) (fun _ => f3)
  · intro t hI
    obtain ⟨j, ρ⟩ := t
    obtain ⟨hj, h1, h2⟩ := hI
    have hj : j = nI 7 := hj
    subst hj
    unfold f_X7_findHops_B2
    exact oT (show (7 : Int32) ≤ nI 7 by decide) (oWi (oRet ⟨h1, h2⟩))
end MH
