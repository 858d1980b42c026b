/-- none is -7 -/
def oL (o : Option Nat) : Int32 := match o with
  | none => -7
  | some v => nI v
theorem nI_m7 {a : Nat} (ha : a < 2 ^ 31) : ¬ nI a = -7 := fun h => by
  have h1 := nI_toInt ha
  rw [h] at h1
  have h2 : (-7 : Int32).toInt = -7 := by decide
  omega
def cnt (p : Nat → Bool) : Nat → Nat
  | 0 => 0
  | m + 1 => cnt p m + (if p m = true then 1 else 0)
theorem cnt_le (p : Nat → Bool) : ∀ m, cnt p m ≤ m := by
  intro m
  induction m with
  | zero => exact Nat.le_refl _
  | succ m ih =>
    show cnt p m + (if p m = true then 1 else 0) ≤ m + 1
    split <;> omega
theorem cnt_0 {p : Nat → Bool} : ∀ {m : Nat}, cnt p m = 0 → ∀ i, i < m → p i = false := by
  intro m
  induction m with
  | zero => intro _ i hi; omega
  | succ m ih =>
    intro h i hi
    have e : cnt p (m + 1) = cnt p m + (if p m = true then 1 else 0) := rfl
    rw [e] at h
    rcases Nat.lt_or_ge i m with q | q
    · exact ih (by omega) i q
    · have : i = m := by omega
      subst this
      cases hp : p i with
      | false => rfl
      | true => rw [hp, if_pos rfl] at h; omega
theorem cnt_split {p q r : Nat → Bool} (h : ∀ i, (p i = true ↔ q i = true ∨ r i = true) ∧ ¬ (q i = true ∧ r i = true)) : ∀ m, cnt p m = cnt q m + cnt r m := by
  intro m
  induction m with
  | zero => rfl
  | succ m ih =>
    show cnt p m + (if p m = true then 1 else 0) = (cnt q m + (if q m = true then 1 else 0)) + (cnt r m + (if r m = true then 1 else 0))
    rw [ih]
    have hm := h m
    by_cases a : q m = true
    · have b : ¬ r m = true := fun z => hm.2 ⟨a, z⟩
      rw [if_pos a, if_neg b, if_pos (hm.1.mpr (Or.inl a))]; omega
    · by_cases b : r m = true
      · rw [if_neg a, if_pos b, if_pos (hm.1.mpr (Or.inr b))]; omega
      · rw [if_neg a, if_neg b, if_neg (fun z => (hm.1.mp z).elim a b)]; omega
theorem cnt_congr {p q : Nat → Bool} : ∀ {m : Nat}, (∀ i, i < m → p i = q i) → cnt p m = cnt q m := by
  intro m
  induction m with
  | zero => intro _; rfl
  | succ m ih =>
    intro h
    show cnt p m + (if p m = true then 1 else 0) = cnt q m + (if q m = true then 1 else 0)
    rw [ih (fun i hi => h i (by omega)), h m (by omega)]
theorem hopL_0 {h : Nat} {l : List Nat} (q : l.length = 0) : hopL h l = none := by
  rw [List.length_eq_zero_iff.mp q]; rfl
theorem hopL_1 {h : Nat} {l : List Nat} (q : l.length = 1) : hopL h l = some h := by
  obtain ⟨a, rfl⟩ := List.length_eq_one_iff.mp q
  rfl
theorem hopL_2 {h : Nat} {l : List Nat} (q : 1 < l.length) : ∃ x, l[1]? = some x ∧ hopL h l = some x := by
  cases l with
  | nil => exact absurd q (by decide)
  | cons a l =>
    cases l with
    | nil => exact absurd q (Nat.lt_irrefl 1)
    | cons c l => exact ⟨c, rfl, rfl⟩
section CL
variable {n : Nat} {K : Nat → Nat → Nat} {lk : Int32} {hol : Nat → Int32} {Sy : Nat → Nat → Bool} {σ : ZS} {W : Nat → List Nat} {Rf : Int32}
/-- what a table of hops becomes by the ways to one more block -/
def fillH (n : Nat) (W : Nat → List Nat) (H : Nat → Option Nat) (h : Nat) : Option Nat := match H h with
  | some x => some x
  | none => if h < n then hopL h (W h) else none
theorem fillHops_ok (E : EC n K lk hol Sy σ) (hn : n ≤ 10) (hW : WI n W) (hN : eW σ 15 W) (H : Nat → Option Nat) (hH : ∀ h, h < 10 → σ.2.1 14 h = oL (H h)) (hl : ∀ h x, H h = some x → x < 2 ^ 31) : Ok (f_X0_fillHops σ) (fun r => r.1 = nI (cnt (fun h => decide (H h = none) && decide (hopL h (W h) ≠ none)) n) ∧ PD σ r.2 ∧ ∀ h, h < 10 → r.2.2.1 14 h = oL (fillH n W H h)) := by
  unfold f_X0_fillHops
  refine oLoop (fun i t => t.2.1 = nI i ∧ t.1 = nI (cnt (fun h => decide (H h = none) && decide (hopL h (W h) ≠ none)) i) ∧ PD σ t.2.2 ∧ eW t.2.2 15 W ∧ ∀ h, h < 10 → t.2.2.2.1 14 h = oL (if h < i then fillH n W H h else H h)) n (by omega) ⟨rfl, rfl, PD.rf, hN, fun h hh => by rw [if_neg (by omega)]; exact hH h hh⟩ ?_ ?_
  · intro i t hi hI
    obtain ⟨f, j, τ⟩ := t
    obtain ⟨hj, hf, h1, h2, h3⟩ := hI
    have hj : j = nI i := hj
    have hf : f = nI (cnt (fun h => decide (H h = none) && decide (hopL h (W h) ≠ none)) i) := hf
    have h1 : PD σ τ := h1
    have h2 : eW τ 15 W := h2
    have h3 : ∀ h, h < 10 → τ.2.1 14 h = oL (if h < i then fillH n W H h else H h) := h3
    subst hj
    subst hf
    have hlen := hW.len i
    have h3i := h3 i (by omega)
    rw [if_neg (by omega)] at h3i
    have ec : cnt (fun h => decide (H h = none) && decide (hopL h (W h) ≠ none)) (i + 1) = cnt (fun h => decide (H h = none) && decide (hopL h (W h) ≠ none)) i + (if (decide (H i = none) && decide (hopL i (W i) ≠ none)) = true then 1 else 0) := rfl
    have keep : (H i ≠ none ∨ hopL i (W i) = none) → Sum.elim (fun t : Int32 × Int32 × ZS => t.2.1 = nI (i + 1) ∧ t.1 = nI (cnt (fun h => decide (H h = none) && decide (hopL h (W h) ≠ none)) (i + 1)) ∧ PD σ t.2.2 ∧ eW t.2.2 15 W ∧ ∀ h, h < 10 → t.2.2.2.1 14 h = oL (if h < i + 1 then fillH n W H h else H h)) (fun r : Int32 × ZS => r.1 = nI (cnt (fun h => decide (H h = none) && decide (hopL h (W h) ≠ none)) n) ∧ PD σ r.2 ∧ ∀ h, h < 10 → r.2.2.1 14 h = oL (fillH n W H h)) (.inl (nI (cnt (fun h => decide (H h = none) && decide (hopL h (W h) ≠ none)) i), nI i + 1, τ)) := fun q => by
      refine ⟨nI_1 i, ?_, h1, h2, fun h hh => ?_⟩
      · have e0 : (decide (H i = none) && decide (hopL i (W i) ≠ none)) = false := by
          rcases q with q | q
          · rw [decide_eq_false q, Bool.false_and]
          · rw [decide_eq_false (p := hopL i (W i) ≠ none) (fun z => z q), Bool.and_false]
        rw [ec, e0]; rfl
      · show τ.2.1 14 h = _
        rw [h3 h hh]
        congr 1
        by_cases z : h = i
        · subst z
          rw [if_neg (by omega), if_pos (by omega)]
          unfold fillH
          cases hc : H h with
          | some x => rfl
          | none =>
            rcases q with q | q
            · exact absurd hc q
            · simp only; rw [if_pos hi, q]
        · by_cases y : h < i
          · rw [if_pos y, if_pos (by omega)]
          · rw [if_neg y, if_neg (by omega)]
    have fill : ∀ v x, H i = none → hopL i (W i) = some x → v = nI x → Sum.elim (fun t : Int32 × Int32 × ZS => t.2.1 = nI (i + 1) ∧ t.1 = nI (cnt (fun h => decide (H h = none) && decide (hopL h (W h) ≠ none)) (i + 1)) ∧ PD σ t.2.2 ∧ eW t.2.2 15 W ∧ ∀ h, h < 10 → t.2.2.2.1 14 h = oL (if h < i + 1 then fillH n W H h else H h)) (fun r : Int32 × ZS => r.1 = nI (cnt (fun h => decide (H h = none) && decide (hopL h (W h) ≠ none)) n) ∧ PD σ r.2 ∧ ∀ h, h < 10 → r.2.2.1 14 h = oL (fillH n W H h)) (.inl (nI (cnt (fun h => decide (H h = none) && decide (hopL h (W h) ≠ none)) i) + 1, nI i + 1, setA τ 14 i v)) := fun v x q1 q2 q3 => by
      refine ⟨nI_1 i, ?_, h1.tr (PD.A (by omega)), h2, fun h hh => ?_⟩
      · rw [ec, q1, q2, nI_1]; rfl
      · show (setA τ 14 i v).2.1 14 h = _
        rw [setA_s]
        by_cases z : h = i
        · subst z
          rw [pk_us, if_pos (by omega)]
          unfold fillH
          rw [q1]
          simp only
          rw [if_pos hi, q2, q3]; rfl
        · rw [pk_un z, h3 h hh]
          congr 1
          by_cases y : h < i
          · rw [if_pos y, if_pos (by omega)]
          · rw [if_neg y, if_neg (by omega)]
    unfold f_X0_fillHops_B4
    refine oBindE (number_ok (E.pd h1)) (oLe n i (by omega) (by omega) (fun q => by omega) (fun _ => ?_))
    refine oLe 10 i (by omega) (by omega) (fun q => by omega) (fun _ => ?_)
    refine oBindE (length_n_ok hW hn h2 (by omega)) (oLd (by omega) (by omega) ?_)
    show Ok (if τ.2.1 14 i = -7 then _ else _) _
    rw [h3i]
    cases hc : H i with
    | some x =>
      refine oF (nI_m7 (hl i x hc)) (oRet (keep (Or.inl (by rw [hc]; intro z; cases z))))
    | none =>
      refine oT rfl ?_
      refine oLe (W i).length 0 (by omega) (by omega) (fun q => oRet (keep (Or.inr (hopL_0 (by omega))))) (fun q => ?_)
      show Ok (if nI (W i).length = 1 then _ else _) _
      rw [nI_clamp (show i < 2 ^ 31 by omega)]
      refine oNe (W i).length 1 (by omega) (by omega) (fun z => oCkI (by omega) (by omega) (oRet (fill _ i hc (hopL_1 z) rfl))) (fun z => ?_)
      obtain ⟨x, x1, x2⟩ := hopL_2 (h := i) (l := W i) (by omega)
      refine oBindE (at_n_ok hW hn h2 (t := i) (i := 1) (by omega) (by omega)) ?_
      rw [x1]
      exact oCkI (by omega) (by omega) (oRet (fill _ x hc x2 rfl))
  · intro t hI
    obtain ⟨f, j, τ⟩ := t
    obtain ⟨hj, hf, h1, h2, h3⟩ := hI
    have hj : j = nI n := hj
    have h1 : PD σ τ := h1
    subst hj
    unfold f_X0_fillHops_B4
    refine oBindE (number_ok (E.pd h1)) (oLe n n (by omega) (by omega) (fun _ => oWi (oRet ⟨hf, h1, fun h hh => ?_⟩)) (fun q => by omega))
    show τ.2.1 14 h = _
    rw [show τ.2.1 14 h = oL (if h < n then fillH n W H h else H h) from h3 h hh]
    congr 1
    by_cases y : h < n
    · rw [if_pos y]
    · rw [if_neg y]
      unfold fillH
      cases H h with
      | some x => rfl
      | none => simp only; rw [if_neg y]
theorem hopT_some {a h x : Nat} : ∀ {i : Nat} (j : Nat), hopT n K lk hol Sy Rf a i h = some x → hopT n K lk hol Sy Rf a (i + j) h = some x := by
  intro i j
  induction j with
  | zero => intro q; exact q
  | succ j ih =>
    intro q
    have e : hopT n K lk hol Sy Rf a (i + (j + 1)) h = match hopT n K lk hol Sy Rf a (i + j) h with
      | some x => some x
      | none => hopB n K lk hol Sy Rf ((64 + a) / 2 ^ (i + j)) h := rfl
    rw [e, ih q]
theorem blk_in {a i : Nat} (ha : a < 64) (hi : i < 7) : 1 ≤ (64 + a) / 2 ^ i ∧ (64 + a) / 2 ^ i < 128 := by
  refine ⟨(Nat.le_div_iff_mul_le (Nat.two_pow_pos i)).mpr ?_, Nat.lt_of_le_of_lt (Nat.div_le_self _ _) (by omega)⟩
  have : (2 : Nat) ^ i ≤ 2 ^ 6 := Nat.pow_le_pow_right (by decide) (by omega)
  omega
theorem mask0 (E : EC n K lk hol Sy σ) (G : GI n K hol Sy) {b : Nat} (h1 : 1 ≤ b) (h2 : b < 128) : σ.2.1 11 b = 0 ↔ ∀ h, Sy b h = false := by
  have hn := G.1
  constructor
  · intro q h
    rcases Nat.lt_or_ge h n with z | z
    · rw [← E.2.2.2.2 b h1 h2 h (by omega), q, b_0]
    · exact G.S b h z
  · intro q
    refine b_ext (fun i hi => ?_)
    rw [E.2.2.2.2 b h1 h2 i hi, q, b_0]
theorem look_ok (E : EC n K lk hol Sy σ) (G : GI n K hol Sy) {a : Nat} (ha : a < 64) (Rf : Int32) : Ok (f_X0_look (nI a) Rf σ) (fun r => PD σ r ∧ ∀ h, h < n → r.2.1 14 h = oL (hopT n K lk hol Sy Rf a 7 h)) := by
  have hn := G.1
  have L2 : ∀ υ : ZS, PD σ υ → (∀ h, h < 10 → υ.2.1 14 h = -7) → Ok (f_X0_look_J22 (nI a) Rf υ) (fun r => PD σ r ∧ ∀ h, h < n → r.2.1 14 h = oL (hopT n K lk hol Sy Rf a 7 h)) := by
    intro υ p0 p1
    unfold f_X0_look_J22
    refine oBindE (number_ok (E.pd p0)) ?_
    rw [show (64 : Int32) + nI a = nI (64 + a) from nI_add 64 a]
    refine oLoop (fun i t => t.2.1 = nI ((64 + a) / 2 ^ i) ∧ t.1 = nI (cnt (fun h => decide (hopT n K lk hol Sy Rf a i h = none)) n) ∧ PD σ t.2.2 ∧ ∀ h, h < 10 → t.2.2.2.1 14 h = oL (if h < n then hopT n K lk hol Sy Rf a i h else none)) 7 (by omega) ⟨by rw [Nat.pow_zero, Nat.div_one], ?_, p0, fun h hh => ?_⟩ ?_ ?_
    · show nI n = _
      congr 1
      have : ∀ m, cnt (fun h => decide (hopT n K lk hol Sy Rf a 0 h = none)) m = m := by
        intro m
        induction m with
        | zero => rfl
        | succ m ih =>
          show cnt (fun h => decide (hopT n K lk hol Sy Rf a 0 h = none)) m + (if decide (hopT n K lk hol Sy Rf a 0 m = none) = true then 1 else 0) = m + 1
          rw [ih]; rfl
      exact (this n).symm
    · rw [show (υ.2.1 14 h) = -7 from p1 h hh]
      by_cases y : h < n
      · rw [if_pos y]; rfl
      · rw [if_neg y]; rfl
    · intro i t hi hI
      obtain ⟨f, j, τ⟩ := t
      obtain ⟨hj, hf, h1, h3⟩ := hI
      have hj : j = nI ((64 + a) / 2 ^ i) := hj
      have hf : f = nI (cnt (fun h => decide (hopT n K lk hol Sy Rf a i h = none)) n) := hf
      have h1 : PD σ τ := h1
      have h3 : ∀ h, h < 10 → τ.2.1 14 h = oL (if h < n then hopT n K lk hol Sy Rf a i h else none) := h3
      subst hj
      subst hf
      have hb := blk_in ha hi
      have hcl := cnt_le (fun h => decide (hopT n K lk hol Sy Rf a i h = none)) n
      have hdiv : nI ((64 + a) / 2 ^ i) >>> ((1 : Int32) &&& 31) = nI ((64 + a) / 2 ^ (i + 1)) := by
        rw [shr1 (by omega), Nat.div_div_eq_div_mul, ← Nat.pow_succ]
      have E' := E.pd h1
      unfold f_X0_look_B36
      refine oLt ((64 + a) / 2 ^ i) 1 (by omega) (by omega) (fun q => by omega) (fun _ => ?_)
      refine oLe (cnt (fun h => decide (hopT n K lk hol Sy Rf a i h = none)) n) 0 (by omega) (by omega) (fun q => oWi (oRet ⟨h1, fun h hh => ?_⟩)) (fun q => ?_)
      · have c0 := cnt_0 (Nat.le_zero.mp q) h hh
        have c0 := of_decide_eq_false c0
        show τ.2.1 14 h = _
        rw [h3 h (by omega), if_pos hh]
        cases hc : hopT n K lk hol Sy Rf a i h with
        | none => exact absurd hc c0
        | some x =>
          have := hopT_some (7 - i) hc
          rw [show i + (7 - i) = 7 by omega] at this
          rw [this]
      · refine oBindE (sayers_ok E' hb.1 hb.2) ?_
        refine oIte (fun z => ?_) (fun z => ?_)
        · have hS := (mask0 E' G hb.1 hb.2).mp z
          have es : ∀ h, hopT n K lk hol Sy Rf a (i + 1) h = hopT n K lk hol Sy Rf a i h := fun h => by
            have e : hopT n K lk hol Sy Rf a (i + 1) h = match hopT n K lk hol Sy Rf a i h with
              | some x => some x
              | none => hopB n K lk hol Sy Rf ((64 + a) / 2 ^ i) h := rfl
            rw [e, hopB_none hS]
            cases hopT n K lk hol Sy Rf a i h <;> rfl
          unfold f_X0_look_J82
          refine oRet ⟨hdiv, ?_, h1, fun h hh => ?_⟩
          · simp only [es]
          · rw [es]; exact h3 h hh
        · refine oBind (settle_ok E' G hb.1 hb.2 Rf) (fun τ1 hτ1 => ?_)
          obtain ⟨s1, s2, s3, s4⟩ := hτ1
          have hH : ∀ h, h < 10 → τ1.2.1 14 h = oL ((fun h => if h < n then hopT n K lk hol Sy Rf a i h else none) h) := fun h hh => ?_
          · refine oBind (fillHops_ok (E'.pc s1) hn s2 s3 _ hH (fun h x hx => ?_)) (fun r hr => ?_)
            · by_cases y : h < n
              · have hx : (if h < n then hopT n K lk hol Sy Rf a i h else none) = some x := hx
                rw [if_pos y] at hx; have := hopT_lt G y hx; omega
              · have hx : (if h < n then hopT n K lk hol Sy Rf a i h else none) = some x := hx
                rw [if_neg y] at hx; cases hx
            · obtain ⟨f2, τ2⟩ := r
              obtain ⟨r1, r2, r3⟩ := hr
              have r1 : f2 = _ := r1
              have r2 : PD τ1 τ2 := r2
              have r3 : ∀ h, h < 10 → τ2.2.1 14 h = oL (fillH n (sEnd n K lk hol Sy Rf ((64 + a) / 2 ^ i)).2 (fun h => if h < n then hopT n K lk hol Sy Rf a i h else none) h) := r3
              subst r1
              have es : ∀ h, h < n → hopT n K lk hol Sy Rf a (i + 1) h = fillH n (sEnd n K lk hol Sy Rf ((64 + a) / 2 ^ i)).2 (fun h => if h < n then hopT n K lk hol Sy Rf a i h else none) h := fun h hh => by
                have e : hopT n K lk hol Sy Rf a (i + 1) h = match hopT n K lk hol Sy Rf a i h with
                  | some x => some x
                  | none => hopB n K lk hol Sy Rf ((64 + a) / 2 ^ i) h := rfl
                unfold fillH
                simp only
                rw [e, if_pos hh, if_pos hh]
                rfl
              unfold f_X0_look_J82
              refine oRet ⟨hdiv, ?_, (h1.tr (PD.of s1)).tr r2, fun h hh => ?_⟩
              · show nI (cnt (fun h => decide (hopT n K lk hol Sy Rf a i h = none)) n) - nI _ = _
                have hsp := cnt_split (p := fun h => decide (h < n) && decide (hopT n K lk hol Sy Rf a i h = none)) (q := fun h => decide (h < n) && (decide (hopT n K lk hol Sy Rf a i h = none) && decide (hopB n K lk hol Sy Rf ((64 + a) / 2 ^ i) h ≠ none))) (r := fun h => decide (h < n) && decide (hopT n K lk hol Sy Rf a (i + 1) h = none)) (fun h => by
                  have e : hopT n K lk hol Sy Rf a (i + 1) h = match hopT n K lk hol Sy Rf a i h with
                    | some x => some x
                    | none => hopB n K lk hol Sy Rf ((64 + a) / 2 ^ i) h := rfl
                  rw [e]
                  cases hopT n K lk hol Sy Rf a i h with
                  | some x => simp
                  | none => cases hopB n K lk hol Sy Rf ((64 + a) / 2 ^ i) h <;> simp) n
                have c1 : cnt (fun h => decide (h < n) && decide (hopT n K lk hol Sy Rf a i h = none)) n = cnt (fun h => decide (hopT n K lk hol Sy Rf a i h = none)) n := cnt_congr (fun h hh => by rw [decide_eq_true hh, Bool.true_and])
                have c2 : cnt (fun h => decide (h < n) && (decide (hopT n K lk hol Sy Rf a i h = none) && decide (hopB n K lk hol Sy Rf ((64 + a) / 2 ^ i) h ≠ none))) n = cnt (fun h => decide ((if h < n then hopT n K lk hol Sy Rf a i h else none) = none) && decide (hopL h ((sEnd n K lk hol Sy Rf ((64 + a) / 2 ^ i)).2 h) ≠ none)) n := cnt_congr (fun h hh => by rw [decide_eq_true hh, Bool.true_and, if_pos hh]; rfl)
                have c3 : cnt (fun h => decide (h < n) && decide (hopT n K lk hol Sy Rf a (i + 1) h = none)) n = cnt (fun h => decide (hopT n K lk hol Sy Rf a (i + 1) h = none)) n := cnt_congr (fun h hh => by rw [decide_eq_true hh, Bool.true_and])
                rw [c1, c2, c3] at hsp
                rw [pk_sub (by omega)]
                congr 1
                omega
              · show τ2.2.1 14 h = _
                rw [r3 h hh]
                by_cases y : h < n
                · rw [if_pos y, es h y]
                · rw [if_neg y]
                  unfold fillH
                  simp only
                  rw [if_neg y, if_neg y]
          · rw [show τ1.2.1 14 = τ.2.1 14 from s1.2 14 (by omega)]
            exact h3 h hh
    · intro t hI
      obtain ⟨f, j, τ⟩ := t
      obtain ⟨hj, hf, h1, h3⟩ := hI
      have hj : j = nI ((64 + a) / 2 ^ 7) := hj
      have h1 : PD σ τ := h1
      subst hj
      have : (64 + a) / 2 ^ 7 = 0 := by omega
      rw [this]
      unfold f_X0_look_B36
      refine oT (by show nI 0 < 1; decide) (oWi (oRet ⟨h1, fun h hh => ?_⟩))
      show τ.2.1 14 h = _
      rw [show τ.2.1 14 h = oL (if h < n then hopT n K lk hol Sy Rf a 7 h else none) from h3 h (by omega), if_pos hh]
  unfold f_X0_look
  refine oLoop (fun i t => t.1 = nI i ∧ PD σ t.2 ∧ ∀ h, h < i → t.2.2.1 14 h = -7) 10 (by omega) ⟨rfl, PD.rf, fun h hh => by omega⟩ ?_ ?_
  · intro i t hi hI
    obtain ⟨j, τ⟩ := t
    obtain ⟨hj, h1, h3⟩ := hI
    have hj : j = nI i := hj
    have h1 : PD σ τ := h1
    have h3 : ∀ h, h < i → τ.2.1 14 h = -7 := h3
    subst hj
    unfold f_X0_look_B2
    refine oLe 10 i (by omega) (by omega) (fun q => by omega) (fun _ => ?_)
    rw [nI_clamp (show i < 2 ^ 31 by omega)]
    refine oCkI (by omega) (by omega) (oRet ⟨nI_1 i, h1.tr (PD.A (by omega)), fun h hh => ?_⟩)
    show (setA τ 14 i (-7)).2.1 14 h = _
    rw [setA_s]
    by_cases z : h = i
    · subst z; exact pk_us
    · rw [pk_un z]; exact h3 h (by omega)
  · intro t hI
    obtain ⟨j, τ⟩ := t
    obtain ⟨hj, h1, h3⟩ := hI
    have hj : j = nI 10 := hj
    subst hj
    unfold f_X0_look_B2
    exact oT (show (10 : Int32) ≤ nI 10 by decide) (oWi (L2 τ h1 h3))
end CL
