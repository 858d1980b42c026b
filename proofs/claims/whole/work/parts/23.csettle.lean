section CS
variable {n : Nat} {K : Nat → Nat → Nat} {lk : Int32} {hol : Nat → Int32} {Sy : Nat → Nat → Bool} {σ : ZS} {S : Nat → Bool} {W : Nat → List Nat} {Rf : Int32} {ow : Option Nat}
theorem openHouses_ok (E : EC n K lk hol Sy σ) (G : GI n K hol Sy) (hW : WI n W) (hB : eW σ 19 W) (sm : Int32) (hs : ∀ h, h < 32 → bt sm h = S h) : Ok (f_X4_openHouses sm σ) (fun o => ∀ t, t < n → bt o t = sOpen K lk S W t) := by
  have hn := G.1
  unfold f_X4_openHouses
  refine oBindE (v := lk) (by unfold f_X1_leaking; rw [E.2.1]) ?_
  refine oLoop (fun i t => t.2 = nI i ∧ (∀ x, x < i → bt t.1 x = sOpen K lk S W x) ∧ ∀ x, i ≤ x → x < 32 → bt t.1 x = (S x || bt lk x)) n (by omega) ⟨rfl, fun x hx => by omega, fun x _ hx => by rw [b_or, hs x hx]⟩ ?_ ?_
  · intro i t hi hI
    obtain ⟨m, j⟩ := t
    obtain ⟨hj, h1, h2⟩ := hI
    have hj : j = nI i := hj
    subst hj
    unfold f_X4_openHouses_B12
    refine oBindE (number_ok E) (oLe n i (by omega) (by omega) (fun q => by omega) (fun _ => ?_))
    refine oBindE (at_b_ok hW hn hB (t := i) (i := 1) (by omega) (by omega)) ?_
    refine oBindE (kind_oI E G (by omega) (fun v q => by have := hW.lt q; omega)) ?_
    have h2i := h2 i (Nat.le_refl i) (by omega)
    have ext : ∀ m' : Int32, (∀ x, x < 32 → x ≠ i → bt m' x = bt m x) → bt m' i = sOpen K lk S W i → Sum.elim (fun t : Int32 × Int32 => t.2 = nI (i + 1) ∧ (∀ x, x < i + 1 → bt t.1 x = sOpen K lk S W x) ∧ ∀ x, i + 1 ≤ x → x < 32 → bt t.1 x = (S x || bt lk x)) (fun o => ∀ t, t < n → bt o t = sOpen K lk S W t) (.inl (m', nI i + 1)) := fun m' a b => ⟨nI_1 i, fun x hx => by
        rcases Nat.lt_or_ge x i with q | q
        · show bt m' x = _
          rw [a x (by omega) (by omega)]; exact h1 x q
        · have : x = i := by omega
          subst this; exact b, fun x hx hx2 => by
        show bt m' x = _
        rw [a x hx2 (by omega)]; exact h2 x (by omega) hx2⟩
    cases hw : (W i)[1]? with
    | none =>
      refine oF (show ¬ nI 0 = 1 by decide) (oRet (ext m (fun _ _ _ => rfl) ?_))
      rw [h2i]; unfold sOpen; rw [hw, Bool.or_false]
    | some v =>
      refine oNe (K i v) 1 (by have := G.2.1 i v; omega) (by omega) (fun q => ?_) (fun q => ?_)
      · refine oBindE (bit_ok (by omega)) (oRet (ext _ (fun x hx hne => ?_) ?_))
        · rw [b_or, b_bm i (by omega) x hx, decide_eq_false hne, Bool.or_false]
        · rw [b_or, b_bm i (by omega) i (by omega), decide_eq_true rfl, Bool.or_true]
          unfold sOpen; rw [hw]; simp [q]
      · refine oRet (ext m (fun _ _ _ => rfl) ?_)
        rw [h2i]; unfold sOpen; rw [hw]; simp [q]
  · intro t hI
    obtain ⟨m, j⟩ := t
    obtain ⟨hj, h1, h2⟩ := hI
    have hj : j = nI n := hj
    subst hj
    unfold f_X4_openHouses_B12
    refine oBindE (number_ok E) (oLe n n (by omega) (by omega) (fun _ => oWi (oRet ?_)) (fun q => by omega))
    exact h1
theorem sMay_iff {h t : Nat} : sMay K lk S Rf ow W h t = true ↔ (K h t ≠ 0 ∧ W t ≠ [] ∧ h ∉ W t) ∧ (K h t = 3 ∨ sOpen K lk S W t = true) ∧ (bt Rf h = false ∨ ow = none ∨ (W t).getLast? = ow) := by
  unfold sMay
  simp only [Bool.and_eq_true, Bool.or_eq_true, Bool.not_eq_true', decide_eq_true_eq, decide_eq_false_iff_not]
  constructor
  · rintro ⟨⟨⟨a, b⟩, c⟩, d, e | f⟩
    · rcases e with e | e
      · exact ⟨⟨a, b, c⟩, d, Or.inl e⟩
      · exact ⟨⟨a, b, c⟩, d, Or.inr (Or.inl e)⟩
    · exact ⟨⟨a, b, c⟩, d, Or.inr (Or.inr f)⟩
  · rintro ⟨⟨a, b, c⟩, d, e | e | f⟩
    · exact ⟨⟨⟨a, b⟩, c⟩, d, Or.inl (Or.inl e)⟩
    · exact ⟨⟨⟨a, b⟩, c⟩, d, Or.inl (Or.inr e)⟩
    · exact ⟨⟨⟨a, b⟩, c⟩, d, Or.inr f⟩
theorem sBest_lt {h m t : Nat} (q : sBest K lk S Rf ow W h m = some t) : t < m := (sBest_may q).1
theorem getLast_lt (hW : WI n W) {t v : Nat} (q : (W t).getLast? = some v) : v < n := (hW.2 t).2 v (List.mem_of_getLast? q)
theorem bestFor_ok (E : EC n K lk hol Sy σ) (G : GI n K hol Sy) (hW : WI n W) (hB : eW σ 19 W) (how : ∀ v, ow = some v → v < n) {h : Nat} (hh : h < n) (o w : Int32) (ho : ∀ t, t < n → bt o t = sOpen K lk S W t) (hw : w = if bt Rf h = true then oI ow else -1) : f_X4_bestFor (nI h) o w σ = some (oI (sBest K lk S Rf ow W h n)) := by
  have hn := G.1
  apply oEq
  unfold f_X4_bestFor
  refine oLoop (fun i t => t.2.2 = nI i ∧ t.1 = oI (sBest K lk S Rf ow W h i) ∧ ∀ b, sBest K lk S Rf ow W h i = some b → t.2.1 = nI (sRank K W h b)) n (by omega) ⟨rfl, rfl, fun b q => by cases q⟩ ?_ ?_
  · intro i t hi hI
    obtain ⟨be, rk, j⟩ := t
    obtain ⟨hj, h1, h2⟩ := hI
    have hj : j = nI i := hj
    have h1 : be = oI (sBest K lk S Rf ow W h i) := h1
    have h2' : ∀ b, sBest K lk S Rf ow W h i = some b → rk = nI (sRank K W h b) := h2
    clear h2
    subst hj
    subst h1
    have hk4 := G.2.1 h i
    have hlen := hW.len i
    have hbn : ∀ v, sBest K lk S Rf ow W h i = some v → v < 2 ^ 31 := fun v q => by have := sBest_lt q; omega
    -- the two ends of a turn
    have keep : sMay K lk S Rf ow W h i = false → Sum.elim (fun t : Int32 × Int32 × Int32 => t.2.2 = nI (i + 1) ∧ t.1 = oI (sBest K lk S Rf ow W h (i + 1)) ∧ ∀ b, sBest K lk S Rf ow W h (i + 1) = some b → t.2.1 = nI (sRank K W h b)) (fun r => r = oI (sBest K lk S Rf ow W h n)) (.inl (oI (sBest K lk S Rf ow W h i), rk, nI i + 1)) := fun q => by
      have e : sBest K lk S Rf ow W h (i + 1) = sBest K lk S Rf ow W h i := by
        conv => lhs; unfold sBest
        rw [q]; rfl
      refine ⟨nI_1 i, by rw [e], fun b hb => ?_⟩
      rw [e] at hb; exact h2' b hb
    have may : sMay K lk S Rf ow W h i = true → Ok (if oI (sBest K lk S Rf ow W h i) = (-1) then f_X4_bestFor_J150 (nI h) o w (nI i) (((16 : Int32) * nI (K h i)) + nI (W i).length) σ else (if rk ≤ (((16 : Int32) * nI (K h i)) + nI (W i).length) then some (.inl (oI (sBest K lk S Rf ow W h i), rk, nI i + 1)) else f_X4_bestFor_J150 (nI h) o w (nI i) (((16 : Int32) * nI (K h i)) + nI (W i).length) σ)) (Sum.elim (fun t : Int32 × Int32 × Int32 => t.2.2 = nI (i + 1) ∧ t.1 = oI (sBest K lk S Rf ow W h (i + 1)) ∧ ∀ b, sBest K lk S Rf ow W h (i + 1) = some b → t.2.1 = nI (sRank K W h b)) (fun r => r = oI (sBest K lk S Rf ow W h n))) := fun q => by
      have er : ((16 : Int32) * nI (K h i)) + nI (W i).length = nI (sRank K W h i) := by
        rw [show (16 : Int32) * nI (K h i) = nI (16 * K h i) from pk_mul 16 _, nI_add]; rfl
      have e : sBest K lk S Rf ow W h (i + 1) = sPick K W h i (sBest K lk S Rf ow W h i) := by
        conv => lhs; unfold sBest
        rw [q]; rfl
      have hr : sRank K W h i < 2 ^ 31 := by unfold sRank; omega
      rw [er]
      unfold f_X4_bestFor_J150
      cases hb : sBest K lk S Rf ow W h i with
      | none =>
        refine oT rfl (oRet ?_)
        have e' : sBest K lk S Rf ow W h (i + 1) = some i := by rw [e, hb]; rfl
        refine ⟨nI_1 i, by rw [e']; rfl, fun b hb' => ?_⟩
        rw [e'] at hb'; cases hb'; rfl
      | some b =>
        have hbl := sBest_lt hb
        have hlb := hW.len b
        have hkb := G.2.1 h b
        have hrb : sRank K W h b < 2 ^ 31 := by unfold sRank; omega
        refine oF (nI_m1 (by omega)) ?_
        rw [h2' b hb]
        refine oLe (sRank K W h b) (sRank K W h i) hrb hr (fun z => oRet ?_) (fun z => oRet ?_)
        · have e' : sBest K lk S Rf ow W h (i + 1) = some b := by rw [e, hb]; unfold sPick; simp only; rw [if_neg (by omega)]
          refine ⟨nI_1 i, by rw [e'], fun c hc => ?_⟩
          rw [e'] at hc; cases hc; rfl
        · have e' : sBest K lk S Rf ow W h (i + 1) = some i := by rw [e, hb]; unfold sPick; simp only; rw [if_pos z]
          refine ⟨nI_1 i, by rw [e']; rfl, fun c hc => ?_⟩
          rw [e'] at hc; cases hc; rfl
    have notm : ¬ ((K h i ≠ 0 ∧ W i ≠ [] ∧ h ∉ W i) ∧ (K h i = 3 ∨ sOpen K lk S W i = true) ∧ (bt Rf h = false ∨ ow = none ∨ (W i).getLast? = ow)) → sMay K lk S Rf ow W h i = false := fun q => by
      cases hm : sMay K lk S Rf ow W h i with
      | false => rfl
      | true => exact absurd (sMay_iff.mp hm) q
    unfold f_X4_bestFor_B9
    refine oBindE (number_ok E) (oLe n i (by omega) (by omega) (fun q => by omega) (fun _ => ?_))
    refine oBindE (kind_ok E G (by omega) (by omega)) (oBindE (length_b_ok hW hn hB (by omega)) ?_)
    refine oNe (K h i) 0 (by omega) (by omega) (fun q => oRet (keep (notm (fun z => z.1.1 q)))) (fun q1 => ?_)
    refine oNe (W i).length 0 (by omega) (by omega) (fun q => oRet (keep (notm (fun z => z.1.2.1 (List.length_eq_zero_iff.mp q))))) (fun q2 => ?_)
    refine oBindE (isOn_b_ok hW hn hB (by omega) (by omega)) ?_
    by_cases q3 : h ∈ W i
    · refine oF (by rw [decide_eq_true q3]; decide) (oRet (keep (notm (fun z => z.1.2.2 q3))))
    refine oT (by rw [decide_eq_false q3]; rfl) ?_
    have q2' : W i ≠ [] := fun z => q2 (by rw [z]; rfl)
    -- passes
    have J90 : ∀ pa : Bool, (pa = true ↔ (K h i = 3 ∨ sOpen K lk S W i = true)) → Ok (f_X4_bestFor_J90 (nI h) o w (oI (sBest K lk S Rf ow W h i)) rk (nI i) (nI (K h i)) (nI (W i).length) (bI pa) σ) (Sum.elim (fun t : Int32 × Int32 × Int32 => t.2.2 = nI (i + 1) ∧ t.1 = oI (sBest K lk S Rf ow W h (i + 1)) ∧ ∀ b, sBest K lk S Rf ow W h (i + 1) = some b → t.2.1 = nI (sRank K W h b)) (fun r => r = oI (sBest K lk S Rf ow W h n))) := by
      intro pa hpa
      have J115 : ∀ ta : Bool, (ta = true ↔ (bt Rf h = false ∨ ow = none ∨ (W i).getLast? = ow)) → Ok (f_X4_bestFor_J115 (nI h) o w (oI (sBest K lk S Rf ow W h i)) rk (nI i) (nI (K h i)) (nI (W i).length) (bI pa) (bI ta) σ) (Sum.elim (fun t : Int32 × Int32 × Int32 => t.2.2 = nI (i + 1) ∧ t.1 = oI (sBest K lk S Rf ow W h (i + 1)) ∧ ∀ b, sBest K lk S Rf ow W h (i + 1) = some b → t.2.1 = nI (sRank K W h b)) (fun r => r = oI (sBest K lk S Rf ow W h n))) := by
        intro ta hta
        unfold f_X4_bestFor_J115
        cases pa with
        | false => exact oT rfl (oRet (keep (notm (fun z => by have := hpa.mpr z.2.1; cases this))))
        | true =>
          refine oF (by decide) ?_
          cases ta with
          | false => exact oT rfl (oRet (keep (notm (fun z => by have := hta.mpr z.2.2; cases this))))
          | true =>
            refine oF (by decide) ?_
            exact may (sMay_iff.mpr ⟨⟨q1, q2', q3⟩, hpa.mp rfl, hta.mp rfl⟩)
      unfold f_X4_bestFor_J90
      have hlast : ∀ v, (W i).getLast? = some v → v < 2 ^ 31 := fun v q => by have := getLast_lt hW q; omega
      have hown : ∀ v, ow = some v → v < 2 ^ 31 := fun v q => by have := how v q; omega
      by_cases c : bt Rf h = true
      · rw [if_pos c] at hw
        subst hw
        refine oIte (fun q => ?_) (fun q => ?_)
        · exact J115 true ⟨fun _ => Or.inr (Or.inl ((oI_m1 hown).mp q)), fun _ => rfl⟩
        · refine oBindE (last_b_ok hW hn hB (by omega)) (oIte (fun z => ?_) (fun z => ?_))
          · exact J115 true ⟨fun _ => Or.inr (Or.inr ((oI_eq hlast hown).mp z)), fun _ => rfl⟩
          · exact J115 false ⟨fun y => (by cases y), fun y => by
              rcases y with y | y | y
              · rw [c] at y; cases y
              · exact absurd ((oI_m1 hown).mpr y) q
              · exact absurd ((oI_eq hlast hown).mpr y) z⟩
      · rw [if_neg c] at hw
        subst hw
        refine oT rfl ?_
        exact J115 true ⟨fun _ => Or.inl (by simpa using c), fun _ => rfl⟩
    refine oNe (K h i) 3 (by omega) (by omega) (fun q => ?_) (fun q => ?_)
    · exact J90 true ⟨fun _ => Or.inl q, fun _ => rfl⟩
    · refine oBindE (hasBit_ok o (by omega)) ?_
      rw [ho i hi]
      cases hso : sOpen K lk S W i with
      | false => exact oT rfl (J90 false ⟨fun y => (by cases y), fun y => by
          rcases y with y | y
          · exact absurd y q
          · rw [hso] at y; cases y⟩)
      | true => exact oF (by decide) (J90 true ⟨fun _ => Or.inr hso, fun _ => rfl⟩)
  · intro t hI
    obtain ⟨be, rk, j⟩ := t
    obtain ⟨hj, h1, -⟩ := hI
    have hj : j = nI n := hj
    have h1 : be = oI (sBest K lk S Rf ow W h n) := h1
    subst hj
    unfold f_X4_bestFor_B9
    refine oBindE (number_ok E) (oLe n n (by omega) (by omega) (fun _ => oWi (oRet h1)) (fun q => by omega))
end CS
