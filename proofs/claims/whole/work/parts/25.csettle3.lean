theorem isB_bI (b : Bool) : isB (bI b) = true := by cases b <;> decide
theorem one_ne : ¬ (1 : Int32) = 0 := by decide
theorem fin_wi {α ρ : Type} {b : α → Option (α ⊕ ρ)} {F : Nat} {r : ρ} {P : ρ → Prop} (h : P r) : Ok (wi (τ := α) (some r)) (fun u => Ok (lk F b u) P) := oWi (oRet (oRet h))
theorem setI_s {σ : ZS} {k : Nat} {v : Int32} : (setI σ k v).1 k = v := by
  show upd σ.1 k v k = v
  exact pk_us
section CG
variable {n : Nat} {K : Nat → Nat → Nat} {lk : Int32} {hol : Nat → Int32} {Sy : Nat → Nat → Bool} {σ : ZS} {S : Nat → Bool} {W : Nat → List Nat} {Rf : Int32} {ow : Option Nat}
theorem goRound_ok (E : EC n K lk hol Sy σ) (G : GI n K hol Sy) (hW : WI n W) (hN : eW σ 15 W) (hB : eW σ 19 W) (how : ∀ v, ow = some v → v < n) (sm : Int32) (hs : ∀ h, h < 32 → bt sm h = S h) : Ok (f_X4_goRound sm Rf (oI ow) σ) (fun r => r.1 = bI (sChg n K lk S Rf ow W n) ∧ PC σ r.2 ∧ r.2.1 = σ.1 ∧ eW r.2 15 (sRnd n K lk S Rf ow W)) := by
  have hn := G.1
  unfold f_X4_goRound
  refine oBind (openHouses_ok E G hW hB sm hs) (fun o ho => ?_)
  refine oLoop (fun i t => t.2.1 = nI i ∧ t.1 = bI (sChg n K lk S Rf ow W i) ∧ PC σ t.2.2 ∧ t.2.2.1 = σ.1 ∧ eW t.2.2 15 (sTo n K lk S Rf ow W i) ∧ eW t.2.2 19 W) n (by omega) ⟨rfl, rfl, PC.rf, rfl, by rw [sTo_0]; exact hN, hB⟩ ?_ ?_
  · intro i t hi hI
    obtain ⟨c, j, τ⟩ := t
    obtain ⟨hj, hc, h1, h2, h3, h4⟩ := hI
    have hj : j = nI i := hj
    have hc : c = bI (sChg n K lk S Rf ow W i) := hc
    subst hj
    subst hc
    have E' := E.pc h1
    have hto : ∀ x, x < 10 → x ≠ i → sTo n K lk S Rf ow W (i + 1) x = sTo n K lk S Rf ow W i x := fun x _ hx => by
      unfold sTo
      by_cases q : x < i
      · rw [if_pos q, if_pos (by omega)]
      · rw [if_neg q, if_neg (by omega)]
    have hold : sTo n K lk S Rf ow W i i = W i := by unfold sTo; rw [if_neg (by omega)]
    have hnw : sTo n K lk S Rf ow W (i + 1) i = sRnd n K lk S Rf ow W i := by unfold sTo; rw [if_pos (by omega)]
    unfold f_X4_goRound_B13
    refine oBindE (number_ok E') (oLe n i (by omega) (by omega) (fun q => by omega) (fun _ => ?_))
    refine oBindE (hasBit_ok sm (by omega)) ?_
    rw [hs i (by omega)]
    cases hS : S i with
    | true =>
      have er : sRnd n K lk S Rf ow W i = W i := by unfold sRnd; rw [if_neg (fun q => by rw [hS] at q; cases q.2)]
      refine oF (by decide) (oRet ⟨nI_1 i, ?_, h1, h2, fun x hx => ?_, h4⟩)
      · show bI _ = bI _
        conv => rhs; unfold sChg
        rw [er, decide_eq_false (fun z => z rfl), Bool.or_false]
      · by_cases q : x = i
        · subst q; rw [hnw, er, ← hold]; exact h3 x hx
        · rw [hto x hx q]; exact h3 x hx
    | false =>
      refine oT rfl ?_
      have er : sRnd n K lk S Rf ow W i = nW W i (sBest K lk S Rf ow W i n) := by
        unfold sRnd; rw [if_pos ⟨hi, hS⟩]; rfl
      have J : Ok (f_X4_goRound_J51 sm Rf (oI ow) o (bI (sChg n K lk S Rf ow W i)) (nI i) (if bt Rf i = true then oI ow else -1) τ) (Sum.elim (fun t : Int32 × Int32 × ZS => t.2.1 = nI (i + 1) ∧ t.1 = bI (sChg n K lk S Rf ow W (i + 1)) ∧ PC σ t.2.2 ∧ t.2.2.1 = σ.1 ∧ eW t.2.2 15 (sTo n K lk S Rf ow W (i + 1)) ∧ eW t.2.2 19 W) (fun r => r.1 = bI (sChg n K lk S Rf ow W n) ∧ PC σ r.2 ∧ r.2.1 = σ.1 ∧ eW r.2 15 (sRnd n K lk S Rf ow W))) := by
        unfold f_X4_goRound_J51
        refine oBindE (bestFor_ok E' G hW h4 how hi o _ ho rfl) ?_
        have hob := fun t (q : sBest K lk S Rf ow W i n = some t) => (⟨(sBest_may q).1, (sMay_spec (sBest_may q).2).2.2, (sMay_spec (sBest_may q).2).2.1⟩ : t < n ∧ i ∉ W t ∧ W t ≠ [])
        have hwok : (∀ x ∈ W i, x < 16) ∧ (W i).length ≤ 10 := ⟨fun x hx => by have := (hW.2 i).2 x hx; omega, by have := hW.len i; omega⟩
        obtain ⟨me, e, hm⟩ := follow_ok hW hn h4 hi _ hob (W i) (by rw [← hold]; exact h3 i (by omega)) hwok (sRnd n K lk S Rf ow W i) er
        refine oBindE e ?_
        have fin : ∀ c' : Int32, c' = bI (sChg n K lk S Rf ow W (i + 1)) → Sum.elim (fun t : Int32 × Int32 × ZS => t.2.1 = nI (i + 1) ∧ t.1 = bI (sChg n K lk S Rf ow W (i + 1)) ∧ PC σ t.2.2 ∧ t.2.2.1 = σ.1 ∧ eW t.2.2 15 (sTo n K lk S Rf ow W (i + 1)) ∧ eW t.2.2 19 W) (fun r : Int32 × ZS => r.1 = bI (sChg n K lk S Rf ow W n) ∧ PC σ r.2 ∧ r.2.1 = σ.1 ∧ eW r.2 15 (sRnd n K lk S Rf ow W)) (.inl (c', nI i + 1, w4 τ i (lN (enc (sRnd n K lk S Rf ow W i))) (nI (sRnd n K lk S Rf ow W i).length) (lst (sRnd n K lk S Rf ow W i)) me)) := fun c' hc' => ⟨nI_1 i, hc', h1.tr w4_pc, h2, fun x hx => by
            by_cases q : x = i
            · subst q; rw [hnw]; exact w4_in hm
            · rw [hto x hx q]; exact w4_out q (h3 x hx), h4⟩
        by_cases q : sRnd n K lk S Rf ow W i = W i
        · rw [decide_eq_false (fun z => z q)]
          refine oT rfl (oRet (fin _ ?_))
          conv => rhs; unfold sChg
          rw [decide_eq_false (fun z => z q), Bool.or_false]
        · rw [decide_eq_true q]
          refine oF one_ne (oRet (fin _ ?_))
          conv => rhs; unfold sChg
          rw [decide_eq_true q, Bool.or_true]; rfl
      refine oBindE (hasBit_ok Rf (by omega)) ?_
      cases hr : bt Rf i with
      | true => rw [hr] at J; exact oF (by decide) J
      | false => rw [hr] at J; exact oT rfl J
  · intro t hI
    obtain ⟨c, j, τ⟩ := t
    obtain ⟨hj, hc, h1, h2, h3, h4⟩ := hI
    have hj : j = nI n := hj
    have hc : c = bI (sChg n K lk S Rf ow W n) := hc
    subst hj
    subst hc
    unfold f_X4_goRound_B13
    refine oBindE (number_ok (E.pc h1)) (oLe n n (by omega) (by omega) (fun _ => ?_) (fun q => by omega))
    refine oCk (isB_bI _) (oWi (oRet ⟨rfl, h1, h2, ?_⟩))
    rw [← sTo_n]; exact h3
/-- the rounds, from the k-th on -/
theorem rounds_ok (E : EC n K lk hol Sy σ) (G : GI n K hol Sy) (how : ∀ v, ow = some v → v < n) (sm : Int32) (hs : ∀ h, h < 32 → bt sm h = S h) : ∀ (f k : Nat) (W : Nat → List Nat) (τ : ZS) (F : Nat), k + f = 50 → f + 3 < F → WI n W → PC σ τ → eW τ 15 W → τ.1 6 = nI k → Ok (lp F (f_X4_settle_B38 Rf sm (oI ow)) (1, nI (k + 1), τ)) (fun r => PC σ r ∧ WI n (sRun n K lk S Rf ow f W).2 ∧ eW r 15 (sRun n K lk S Rf ow f W).2 ∧ r.1 6 = nI (k + (sRun n K lk S Rf ow f W).1)) := by
  intro f
  induction f with
  | zero =>
    intro k W τ F hk hF hW hp hN h6
    obtain ⟨F, rfl⟩ : ∃ G, F = G + 1 := ⟨F - 1, by omega⟩
    refine oStep ?_
    unfold f_X4_settle_B38
    have : k = 50 := by omega
    subst this
    exact oT (show (50 : Int32) < nI (50 + 1) by decide) (oWi (oRet (oRet ⟨hp, hW, hN, h6⟩)))
  | succ f ih =>
    intro k W τ F hk hF hW hp hN h6
    obtain ⟨F, rfl⟩ : ∃ G, F = G + 1 := ⟨F - 1, by omega⟩
    refine oStep ?_
    conv => arg 1; unfold f_X4_settle_B38
    refine oF (show ¬ nI 50 < nI (k + 1) from nI_nlt (by omega) (by omega)) (oF one_ne ?_)
    refine oBind (copy_ok τ W hN) (fun τ1 h1 => ?_)
    obtain ⟨a1, a2, a3, a4⟩ := h1
    have hp1 := hp.tr a1
    refine oBind (goRound_ok (E.pc hp1) G hW a3 a4 how sm hs) (fun r hr => ?_)
    obtain ⟨c, τ2⟩ := r
    obtain ⟨b1, b2, b3, b4⟩ := hr
    have b1 : c = bI (sChg n K lk S Rf ow W n) := b1
    have b3 : τ2.1 = τ1.1 := b3
    have b4 : eW τ2 15 (sRnd n K lk S Rf ow W) := b4
    have b2 : PC τ1 τ2 := b2
    have h6' : τ2.1 6 = nI k := by rw [b3, a2]; exact h6
    subst b1
    have er : sRun n K lk S Rf ow (f + 1) W = if sChg n K lk S Rf ow W n = true then ((sRun n K lk S Rf ow f (sRnd n K lk S Rf ow W)).1 + 1, (sRun n K lk S Rf ow f (sRnd n K lk S Rf ow W)).2) else (0, W) := rfl
    cases hc : sChg n K lk S Rf ow W n with
    | false =>
      rw [er, hc]
      refine oT rfl (oRet ?_)
      have e2 := sChg_false hc
      rw [e2] at b4
      obtain ⟨F, rfl⟩ : ∃ G, F = G + 1 := ⟨F - 1, by omega⟩
      show Ok (lp (F + 1) _ _) _
      refine oStep ?_
      conv => arg 1; unfold f_X4_settle_B38
      have fin : PC σ τ2 ∧ WI n W ∧ eW τ2 15 W ∧ τ2.1 6 = nI (k + 0) := ⟨hp1.tr b2, hW, b4, h6'⟩
      exact oIte (fun _ => fin_wi fin) (fun _ => oT rfl (fin_wi fin))
    | true =>
      rw [er, hc]
      refine oF one_ne (oRet ?_)
      have := ih (k + 1) (sRnd n K lk S Rf ow W) (setI τ2 6 (nI (k + 1))) F (by omega) (by omega) hW.rnd ((hp1.tr b2).tr PC.I) b4 setI_s
      show Ok (lp F (f_X4_settle_B38 Rf sm (oI ow)) (bI true, nI (k + 1) + 1, setI τ2 6 (nI (k + 1)))) _
      rw [nI_1]
      refine oMono this (fun r hr => ?_)
      obtain ⟨c1, c2, c3, c4⟩ := hr
      refine ⟨c1, c2, c3, ?_⟩
      rw [c4]
      show nI _ = nI (k + (_ + 1))
      congr 1
      omega
/-- whose block it is: the first that has it among the block and the wider ones -/
def ownOf (hol : Nat → Int32) : Nat → Nat → Int32
  | 0, _ => -1
  | f + 1, b => if b < 1 then -1 else if hol b = -1 then ownOf hol f (b / 2) else hol b
def own8 (hol : Nat → Int32) (b : Nat) : Int32 := ownOf hol 8 b
theorem isBlock_ok {b : Nat} (h1 : 1 ≤ b) (h2 : b < 128) : f_X6_isBlock (nI b) = some 1 := by
  unfold f_X6_isBlock
  rw [if_neg (show ¬ nI b < 1 from nI_nlt (b := 1) h1 (by omega)), if_neg (show ¬ (128 : Int32) ≤ nI b from nI_ge (b := 128) h2 (by omega))]
theorem holder_ok (E : EC n K lk hol Sy σ) {b : Nat} (h1 : 1 ≤ b) (h2 : b < 128) : f_X2_holder (nI b) σ = some (hol b) := by
  unfold f_X2_holder
  apply oEq
  refine oBindE (isBlock_ok h1 h2) (oF (by decide) (oLd h2 (by omega) (oRet (E.2.2.2.1 b h1 h2))))
theorem sayers_ok (E : EC n K lk hol Sy σ) {b : Nat} (h1 : 1 ≤ b) (h2 : b < 128) : f_X3_sayers (nI b) σ = some (σ.2.1 11 b) := by
  unfold f_X3_sayers
  apply oEq
  exact oBindE (isBlock_ok h1 h2) (oF (by decide) (oLd h2 (by omega) (oRet rfl)))
theorem shr1 {b : Nat} (h : b < 2 ^ 31) : nI b >>> ((1 : Int32) &&& 31) = nI (b / 2) := by
  rw [pk_shrN h _ 1 (by decide)]
theorem owner_ok (E : EC n K lk hol Sy σ) {b : Nat} (h2 : b < 128) : f_X2_owner (nI b) σ = some (own8 hol b) := by
  have key : ∀ (f b F : Nat), b < 2 ^ f → b < 128 → f < F → lp F (f_X2_owner_B2 σ) (nI b) = some (ownOf hol (f + 1) b) := by
    intro f
    induction f with
    | zero =>
      intro b F hb _ hF
      obtain ⟨F, rfl⟩ : ∃ G, F = G + 1 := ⟨F - 1, by omega⟩
      have hb0 : b = 0 := by omega
      subst hb0
      apply oEq
      refine oStep ?_
      unfold f_X2_owner_B2
      exact oT (by decide) (oWi (oRet (oRet rfl)))
    | succ f ih =>
      intro b F hb hb2 hF
      obtain ⟨F, rfl⟩ : ∃ G, F = G + 1 := ⟨F - 1, by omega⟩
      apply oEq
      refine oStep ?_
      conv => arg 1; unfold f_X2_owner_B2
      have er : ownOf hol (f + 1 + 1) b = if b < 1 then -1 else if hol b = -1 then ownOf hol (f + 1) (b / 2) else hol b := rfl
      rw [er]
      refine oLt b 1 (by omega) (by omega) (fun q => ?_) (fun q => ?_)
      · rw [if_pos q]; exact oWi (oRet (oRet rfl))
      · rw [if_neg (by omega)]
        refine oBindE (holder_ok E q hb2) ?_
        refine oIte (fun z => oRet ?_) (fun z => oWi (oRet (oRet (by rw [if_neg z]))))
        rw [if_pos z, shr1 (by omega)]
        exact oOf (ih (b / 2) F (by rw [Nat.pow_succ] at hb; omega) (by omega) (by omega))
  exact key 7 b zF (by omega) h2 (by unfold zF; omega)
theorem own8_lt (G : GI n K hol Sy) (b : Nat) : own8 hol b = -1 ∨ ∃ h, h < n ∧ own8 hol b = nI h := by
  have key : ∀ f b, ownOf hol f b = -1 ∨ ∃ h, h < n ∧ ownOf hol f b = nI h := by
    intro f
    induction f with
    | zero => intro b; exact Or.inl rfl
    | succ f ih =>
      intro b
      have er : ownOf hol (f + 1) b = if b < 1 then -1 else if hol b = -1 then ownOf hol f (b / 2) else hol b := rfl
      rw [er]
      by_cases q : b < 1
      · rw [if_pos q]; exact Or.inl rfl
      · rw [if_neg q]
        by_cases z : hol b = -1
        · rw [if_pos z]; exact ih _
        · rw [if_neg z]; exact G.2.2.2.2.1 b
  exact key 8 b
/-- the same as a number or none -/
def owO (hol : Nat → Int32) (b : Nat) : Option Nat := if own8 hol b = -1 then none else some (own8 hol b).toNatClampNeg
theorem owO_ok (G : GI n K hol Sy) (b : Nat) : own8 hol b = oI (owO hol b) ∧ ∀ v, owO hol b = some v → v < n := by
  have hn := G.1
  unfold owO
  rcases own8_lt G b with h | ⟨h, hh, e⟩
  · rw [if_pos h]; exact ⟨h, fun v q => by cases q⟩
  · rw [e, if_neg (nI_m1 (by omega)), nI_clamp (by omega)]
    exact ⟨rfl, fun v q => by cases q; exact hh⟩
/-- how the ways to a block come to rest -/
abbrev sEnd (n : Nat) (K : Nat → Nat → Nat) (lk : Int32) (hol : Nat → Int32) (Sy : Nat → Nat → Bool) (Rf : Int32) (b : Nat) : Nat × (Nat → List Nat) := sRun n K lk (Sy b) Rf (owO hol b) 50 (sInit (Sy b))
theorem settle_ok (E : EC n K lk hol Sy σ) (G : GI n K hol Sy) {b : Nat} (h1 : 1 ≤ b) (h2 : b < 128) (Rf : Int32) : Ok (f_X4_settle (nI b) Rf σ) (fun r => PC σ r ∧ WI n (sEnd n K lk hol Sy Rf b).2 ∧ eW r 15 (sEnd n K lk hol Sy Rf b).2 ∧ r.1 6 = nI (sEnd n K lk hol Sy Rf b).1) := by
  unfold f_X4_settle
  refine oBindE (sayers_ok E h1 h2) (oBindE (owner_ok E h2) ?_)
  have hs := E.2.2.2.2 b h1 h2
  refine oBind (begin_ok (σ.2.1 11 b) (Sy b) hs σ) (fun τ hτ => ?_)
  obtain ⟨a1, a2, a3⟩ := hτ
  rw [(owO_ok G b).1]
  have hS : ∀ h, n ≤ h → Sy b h = false := fun h hh => by
    cases hc : Sy b h with
    | false => rfl
    | true => have := G.2.2.2.2.2 b h hc; omega
  have := rounds_ok E G (owO_ok G b).2 (σ.2.1 11 b) hs (Rf := Rf) 50 0 (sInit (Sy b)) (setI τ 6 0) zF (by omega) (by unfold zF; omega) (WI.init hS) (a1.tr PC.I) a3 setI_s
  refine oMono this (fun r hr => ?_)
  obtain ⟨c1, c2, c3, c4⟩ := hr
  refine ⟨c1, c2, c3, ?_⟩
  rw [c4, Nat.zero_add]
end CG
