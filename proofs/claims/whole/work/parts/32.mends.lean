theorem endF_round {H : Nat → Option Nat} {s : List Nat} (hs : ∀ x ∈ s, ∃ y, H x = some y ∧ y ≠ x ∧ y ∈ s) : ∀ (f x : Nat), x ∈ s → endF H f x = -8 := by
  intro f
  induction f with
  | zero => intro x _; rfl
  | succ f ih =>
    intro x hx
    obtain ⟨y, h1, h2, h3⟩ := hs x hx
    have ee : endF H (f + 1) x = match H x with
      | none => -7
      | some z => if z = x then nI x else endF H f z := rfl
    rw [ee, h1]
    show (if y = x then nI x else endF H f y) = -8
    rw [if_neg h2]; exact ih y h3
theorem mend_ok {n : Nat} {τ : ZS} {H : Nat → Option Nat} (hn : n ≤ 10) (hH : ∀ h, h < n → f_X7_nextOf (nI h) τ = some (oI (H h))) (hlt : ∀ h x, h < n → H h = some x → x < n) {h : Nat} (hh : h < n) : f_X7_endOf (nI h) τ = some (endF H 10 h) := by
  apply oEq
  unfold f_X7_endOf
  have step : ∀ (i : Nat) (m : Int32) (y : Nat) (s : List Nat), s.length = i → s.Nodup → (∀ x ∈ s, x < n) → y < n → (∀ x ∈ s, ∃ z, H x = some z ∧ z ≠ x ∧ (z ∈ s ∨ z = y)) → (∀ x, x < 32 → bt m x = decide (x ∈ s)) → endF H 10 h = endF H (10 - i) y → (y ∈ s → Ok (f_X7_endOf_B4 τ (m, nI y)) (fun u => u = .inr (endF H 10 h))) ∧ (y ∉ s → i < n → Ok (f_X7_endOf_B4 τ (m, nI y)) (Sum.elim (fun t : Int32 × Int32 => ∃ (y' : Nat) (s' : List Nat), t.2 = nI y' ∧ s'.length = i + 1 ∧ s'.Nodup ∧ (∀ x ∈ s', x < n) ∧ y' < n ∧ (∀ x ∈ s', ∃ z, H x = some z ∧ z ≠ x ∧ (z ∈ s' ∨ z = y')) ∧ (∀ x, x < 32 → bt t.1 x = decide (x ∈ s')) ∧ endF H 10 h = endF H (10 - (i + 1)) y') (fun r => r = endF H 10 h))) := by
    intro i m y s h1 h2 h3 h4 h5 h6 h7
    constructor
    · intro hy
      unfold f_X7_endOf_B4
      refine oBindE (isOf_ok m (by omega)) ?_
      rw [h6 y (by omega), decide_eq_true hy]
      refine oF one_ne (oWi (oRet ?_))
      rw [h7, endF_round (s := s) (fun x hx => ?_) _ y hy]
      obtain ⟨z, z1, z2, z3⟩ := h5 x hx
      refine ⟨z, z1, z2, ?_⟩
      rcases z3 with z3 | z3
      · exact z3
      · rw [z3]; exact hy
    · intro hy hi
      obtain ⟨f, hf⟩ : ∃ f, 10 - i = f + 1 := ⟨10 - i - 1, by omega⟩
      rw [hf] at h7
      have ee : endF H (f + 1) y = match H y with
        | none => -7
        | some x => if x = y then nI y else endF H f x := rfl
      unfold f_X7_endOf_B4
      refine oBindE (isOf_ok m (by omega)) ?_
      rw [h6 y (by omega), decide_eq_false hy]
      refine oT rfl (oBindE (hH y h4) ?_)
      cases hc : H y with
      | none =>
        rw [hc] at ee
        refine oT rfl (oWi (oRet ?_))
        show (-7 : Int32) = _
        rw [h7, ee]
      | some z =>
        rw [hc] at ee
        have ee : endF H (f + 1) y = if z = y then nI y else endF H f z := ee
        have hz := hlt y z h4 hc
        refine oF (nI_m1 (by omega)) (oNe z y (by omega) (by omega) (fun q => oWi (oRet ?_)) (fun q => oRet ?_))
        · show nI y = _
          rw [h7, ee, if_pos q]
        · refine ⟨z, y :: s, rfl, by rw [List.length_cons, h1], List.nodup_cons.mpr ⟨hy, h2⟩, fun x hx => ?_, hz, fun x hx => ?_, fun x hx => ?_, ?_⟩
          · rcases List.mem_cons.mp hx with rfl | hx
            · exact h4
            · exact h3 x hx
          · rcases List.mem_cons.mp hx with rfl | hx
            · exact ⟨z, hc, q, Or.inr rfl⟩
            · obtain ⟨w, w1, w2, w3⟩ := h5 x hx
              refine ⟨w, w1, w2, Or.inl ?_⟩
              rcases w3 with w3 | w3
              · exact List.mem_cons_of_mem _ w3
              · rw [w3]; exact List.mem_cons_self
          · show bt (m ||| bm y) x = _
            rw [b_or, h6 x hx, b_bm y (by omega) x hx]
            by_cases w : x = y
            · simp [w]
            · simp [w]
          · rw [h7, ee, if_neg q, show 10 - (i + 1) = f by omega]
  refine oLoop (fun i t => ∃ (y : Nat) (s : List Nat), t.2 = nI y ∧ s.length = i ∧ s.Nodup ∧ (∀ x ∈ s, x < n) ∧ y < n ∧ (∀ x ∈ s, ∃ z, H x = some z ∧ z ≠ x ∧ (z ∈ s ∨ z = y)) ∧ (∀ x, x < 32 → bt t.1 x = decide (x ∈ s)) ∧ endF H 10 h = endF H (10 - i) y) n (by omega) ⟨h, [], rfl, rfl, List.nodup_nil, fun x hx => (by cases hx), hh, fun x hx => (by cases hx), fun x hx => by rw [b_0]; simp, rfl⟩ ?_ ?_
  · intro i t hi hI
    obtain ⟨m, j⟩ := t
    obtain ⟨y, s, hj, h1, h2, h3, h4, h5, h6, h7⟩ := hI
    have hj : j = nI y := hj
    subst hj
    have st := step i m y s h1 h2 h3 h4 h5 h6 h7
    by_cases q : y ∈ s
    · exact oMono (st.1 q) (fun u hu => by rw [hu]; exact rfl)
    · exact st.2 q hi
  · intro t hI
    obtain ⟨m, j⟩ := t
    obtain ⟨y, s, hj, h1, h2, h3, h4, h5, h6, h7⟩ := hI
    have hj : j = nI y := hj
    subst hj
    have st := step n m y s h1 h2 h3 h4 h5 h6 h7
    have q : y ∈ s := Decidable.byContradiction (fun q => by
      have hnd : (y :: s).Nodup := List.nodup_cons.mpr ⟨q, h2⟩
      have := nodup_len hnd (fun x hx => by
        rcases List.mem_cons.mp hx with rfl | hx
        · exact h4
        · exact h3 x hx)
      rw [List.length_cons, h1] at this
      omega)
    exact oMono (st.1 q) (fun u hu => by rw [hu]; exact rfl)
section MI
variable {n : Nat} {K : Nat → Nat → Nat} {lk : Int32} {hol : Nat → Int32} {nr : Nat} {rb : Nat → Nat} {ns : Nat} {sb sh : Nat → Nat} {τ : ZS} {Rf : Int32}
theorem nextOf_ok {Sy : Nat → Nat → Bool} (G : GI n K hol Sy) {a : Nat} (h12 : ∀ l, l < 7 → ∀ h, h < n → τ.2.1 12 (10 * l + h) = oI (hopB n K lk hol Sy Rf ((64 + a) / 2 ^ (6 - l)) h)) {h : Nat} (hh : h < n) : f_X7_nextOf (nI h) τ = some (oI (hopT n K lk hol Sy Rf a 7 h)) := by
  have hn := G.1
  apply oEq
  unfold f_X7_nextOf
  refine oLoop (fun i t => t = (if i < 7 then nI (6 - i) else -1) ∧ hopT n K lk hol Sy Rf a i h = none) 7 (by omega) ⟨rfl, rfl⟩ ?_ ?_
  · intro i t hi hI
    obtain ⟨hj, h1⟩ := hI
    rw [if_pos hi] at hj
    subst hj
    have e : hopT n K lk hol Sy Rf a (i + 1) h = hopB n K lk hol Sy Rf ((64 + a) / 2 ^ i) h := by
      have e' : hopT n K lk hol Sy Rf a (i + 1) h = match hopT n K lk hol Sy Rf a i h with
        | some x => some x
        | none => hopB n K lk hol Sy Rf ((64 + a) / 2 ^ i) h := rfl
      rw [e', h1]
    have hl := h12 (6 - i) (by omega) h hh
    rw [show 6 - (6 - i) = i by omega, ← e] at hl
    unfold f_X7_nextOf_B3
    refine oF (nI_pos (by omega)) ?_
    rw [ix10]
    refine oLd (by omega) (by omega) ?_
    rw [hl]
    cases hc : hopT n K lk hol Sy Rf a (i + 1) h with
    | none =>
      refine oT rfl (oRet ⟨?_, rfl⟩)
      by_cases q : i + 1 < 7
      · rw [if_pos q, show 6 - i = (6 - (i + 1)) + 1 by omega, pk_m1]
      · rw [if_neg q, show 6 - i = 0 by omega]; decide
    | some x =>
      have hx := hopT_lt G hh hc
      refine oF (nI_m1 (by omega)) (oWi ?_)
      unfold f_X7_nextOf_J22
      rw [ix10]
      refine oLd (by omega) (by omega) (oRet ?_)
      rw [hl, hc]
      have := hopT_some (7 - (i + 1)) hc
      rw [show i + 1 + (7 - (i + 1)) = 7 by omega] at this
      show oI (some x) = _
      rw [this]
  · intro t hI
    obtain ⟨hj, h1⟩ := hI
    rw [if_neg (by omega)] at hj
    subst hj
    unfold f_X7_nextOf_B3
    refine oT (by decide) (oWi (oRet ?_))
    rw [h1]; rfl
theorem misledBy_ok (E : EM n K lk hol nr rb ns sb sh τ) (G : GI n K hol (syOf sb sh ns)) {a : Nat} (ha : a < 64) (Rf : Int32) : Ok (f_X7_misledBy (nI a) Rf τ) (fun r => PN τ r.2 ∧ ∀ i, i < 32 → bt r.1 i = sMis n K lk hol (syOf sb sh ns) Rf a i) := by
  have hn := G.1
  obtain ⟨-, s2, -, -, -⟩ := side_ok 6 (by omega) a ha
  have s2 : lenOf (64 + a) = 6 := by simpa using s2
  unfold f_X7_misledBy
  have rf := rightfulFor_ok E.2.2.2.1 (b := 64 + a) ⟨by omega, by omega⟩ ha (by rw [s2]; simp)
  rw [s2] at rf
  refine oBindE rf (oBind (findHops_ok E G ha Rf) (fun ρ hρ => ?_))
  obtain ⟨h1, h2⟩ := hρ
  have E' := E.pn h1
  have hend : ∀ i, i < n → f_X7_endOf (nI i) ρ = some (endF (hopT n K lk hol (syOf sb sh ns) Rf a 7) 10 i) := fun i hi => mend_ok hn (fun h hh => nextOf_ok G h2 hh) (fun h x hh hx => hopT_lt G hh hx) hi
  by_cases q : own8 hol (64 + a) = -1
  · refine oLoop (fun i t => t = (0, 0)) 0 (by omega) rfl (fun i t hi => by omega) (fun t ht => ?_)
    subst ht
    have fin : Sum.elim (fun _ : Int32 × Int32 => False) (fun r : Int32 × ZS => PN τ r.2 ∧ ∀ i, i < 32 → bt r.1 i = sMis n K lk hol (syOf sb sh ns) Rf a i) (.inr (0, ρ)) := ⟨h1, fun i hi => by
      show bt 0 i = _
      rw [b_0]
      unfold sMis
      rw [decide_eq_true q]; simp⟩
    unfold f_X7_misledBy_B20
    exact oIte (fun _ => oWi (oRet fin)) (fun _ => oT q (oWi (oRet fin)))
  · refine oLoop (fun i t => t.2 = nI i ∧ ∀ x, x < 32 → bt t.1 x = (decide (x < i) && sMis n K lk hol (syOf sb sh ns) Rf a x)) n (by omega) ⟨rfl, fun x hx => by rw [b_0]; simp⟩ ?_ ?_
    · intro i t hi hI
      obtain ⟨m, j⟩ := t
      obtain ⟨hj, h3⟩ := hI
      have hj : j = nI i := hj
      have h3 : ∀ x, x < 32 → bt m x = (decide (x < i) && sMis n K lk hol (syOf sb sh ns) Rf a x) := h3
      subst hj
      have keep : sMis n K lk hol (syOf sb sh ns) Rf a i = false → Ok (f_X7_misledBy_J62 (own8 hol (64 + a)) (nI i) m ρ) (Sum.elim (fun t : Int32 × Int32 => t.2 = nI (i + 1) ∧ ∀ x, x < 32 → bt t.1 x = (decide (x < i + 1) && sMis n K lk hol (syOf sb sh ns) Rf a x)) (fun r : Int32 × ZS => PN τ r.2 ∧ ∀ i, i < 32 → bt r.1 i = sMis n K lk hol (syOf sb sh ns) Rf a i)) := fun z => by
        unfold f_X7_misledBy_J62
        refine oRet ⟨nI_1 i, fun x hx => ?_⟩
        show bt (m ||| 0) x = _
        rw [b_or, b_0, Bool.or_false, h3 x hx]
        by_cases y : x = i
        · subst y; rw [z]; simp
        · congr 1
          rw [decide_eq_decide]; omega
      unfold f_X7_misledBy_B20
      rw [E'.1]
      refine oLe n i (by omega) (by omega) (fun z => by omega) (fun _ => oF q ?_)
      refine oBindE (hend i hi) (oIte (fun z => keep ?_) (fun z => oIte (fun w => keep ?_) (fun w => oRet ⟨nI_1 i, fun x hx => ?_⟩)))
      · unfold sMis; rw [decide_eq_true z]; simp
      · unfold sMis; rw [decide_eq_true w]; simp
      · show bt (m ||| bm i) x = _
        rw [b_or, h3 x hx, b_bm i (by omega) x hx]
        by_cases y : x = i
        · subst y
          have e1 : sMis n K lk hol (syOf sb sh ns) Rf a x = true := by
            unfold sMis
            rw [decide_eq_true hi, decide_eq_false q, decide_eq_false z, decide_eq_false w]; rfl
          rw [e1]; simp
        · rw [decide_eq_false y, Bool.or_false]
          congr 1
          rw [decide_eq_decide]; omega
    · intro t hI
      obtain ⟨m, j⟩ := t
      obtain ⟨hj, h3⟩ := hI
      have hj : j = nI n := hj
      have h3 : ∀ x, x < 32 → bt m x = (decide (x < n) && sMis n K lk hol (syOf sb sh ns) Rf a x) := h3
      subst hj
      unfold f_X7_misledBy_B20
      rw [E'.1]
      refine oLe n n (by omega) (by omega) (fun _ => oWi (oRet ⟨h1, fun x hx => ?_⟩)) (fun z => by omega)
      show bt m x = _
      rw [h3 x hx]
      unfold sMis
      cases decide (x < n) <;> simp
end MI
