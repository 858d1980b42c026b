section MG
variable {n : Nat} {K : Nat → Nat → Nat} {lk : Int32} {hol : Nat → Int32} {nr : Nat} {rb : Nat → Nat} {ns : Nat} {sb sh : Nat → Nat} {τ : ZS} {W : Nat → List Nat} {Rf : Int32} {b : Nat}
theorem setA_s {σ : ZS} {k i : Nat} {v : Int32} : (setA σ k i v).2.1 k = upd (σ.2.1 k) i v := by
  show (if k = k then _ else _) = _
  rw [if_pos rfl]
theorem setA_n {σ : ZS} {k j i : Nat} {v : Int32} (h : j ≠ k) : (setA σ k i v).2.1 j = σ.2.1 j := by
  show (if j = k then _ else _) = _
  rw [if_neg h]
/-- the row of one house is written anew -/
theorem mrow_ok (n' : Nat) (hn' : n' ≤ 10) {h : Nat} (hh : h < 10) (t : Int32) (new : List Nat) (hnew : new.length ≤ 10) (τ : ZS) (l1 l2 l3 : Int32) (cc : Bool)
    (hv : ∀ i v, i < new.length → new[i]? = some v → (i = 0 ∧ v = h) ∨ (0 < i ∧ ∃ tt, t = nI tt ∧ tt < 10 ∧ i ≤ 10 ∧ 10 * tt + i - 1 < 100 ∧ τ.2.1 10 (10 * tt + (i - 1)) = nI v)) :
    Ok (lp zF (f_X7_goRound_B159 l1 l2 l3 (nI h) t (nI new.length)) (bI cc, 0, τ)) (fun r => ∃ (cd : Bool) (τ' : ZS), r = .inl (bI cd, nI (h + 1), τ') ∧ (cd = true ↔ cc = true ∨ ∃ k v, new[k]? = some v ∧ τ.2.1 8 (10 * h + k) ≠ nI v) ∧ τ'.1 = τ.1 ∧ (∀ j, j ≠ 8 → τ'.2.1 j = τ.2.1 j) ∧ (∀ k v, new[k]? = some v → τ'.2.1 8 (10 * h + k) = nI v) ∧ ∀ x, (x < 10 * h ∨ 10 * h + 10 ≤ x) → τ'.2.1 8 x = τ.2.1 8 x) := by
  refine oLoop (fun i u => u.2.1 = nI i ∧ (∃ cd : Bool, u.1 = bI cd ∧ (cd = true ↔ cc = true ∨ ∃ k v, k < i ∧ new[k]? = some v ∧ τ.2.1 8 (10 * h + k) ≠ nI v)) ∧ u.2.2.1 = τ.1 ∧ (∀ j, j ≠ 8 → u.2.2.2.1 j = τ.2.1 j) ∧ (∀ k v, k < i → new[k]? = some v → u.2.2.2.1 8 (10 * h + k) = nI v) ∧ ∀ x, (x < 10 * h ∨ 10 * h + i ≤ x) → u.2.2.2.1 8 x = τ.2.1 8 x) new.length (by omega) ⟨rfl, ⟨cc, rfl, ⟨Or.inl, fun q => by
      rcases q with q | ⟨k, v, q, -⟩
      · exact q
      · omega⟩⟩, rfl, fun _ _ => rfl, fun k v q => by omega, fun _ _ => rfl⟩ ?_ ?_
  · intro i u hi hI
    obtain ⟨c, j, υ⟩ := u
    obtain ⟨hj, ⟨cd, hc, hcd⟩, h1, h2, h3, h4⟩ := hI
    have hj : j = nI i := hj
    have hc : c = bI cd := hc
    have h2 : ∀ j, j ≠ 8 → υ.2.1 j = τ.2.1 j := h2
    have h3 : ∀ k v, k < i → new[k]? = some v → υ.2.1 8 (10 * h + k) = nI v := h3
    have h4 : ∀ x, (x < 10 * h ∨ 10 * h + i ≤ x) → υ.2.1 8 x = τ.2.1 8 x := h4
    have h1 : υ.1 = τ.1 := h1
    subst hj
    subst hc
    obtain ⟨v, hvv⟩ : ∃ v, new[i]? = some v := ⟨_, List.getElem?_eq_getElem hi⟩
    -- the write
    have wr : ∀ (s0 : Int32) (ce : Bool), s0 = bI ce → (ce = true ↔ cd = true ∨ τ.2.1 8 (10 * h + i) ≠ nI v) → Ok (f_X7_goRound_J221 l1 l2 l3 (nI h) t (nI new.length) (nI i) (nI v) s0 υ) (Sum.elim (fun u : Int32 × Int32 × ZS => u.2.1 = nI (i + 1) ∧ (∃ cd : Bool, u.1 = bI cd ∧ (cd = true ↔ cc = true ∨ ∃ k v, k < i + 1 ∧ new[k]? = some v ∧ τ.2.1 8 (10 * h + k) ≠ nI v)) ∧ u.2.2.1 = τ.1 ∧ (∀ j, j ≠ 8 → u.2.2.2.1 j = τ.2.1 j) ∧ (∀ k v, k < i + 1 → new[k]? = some v → u.2.2.2.1 8 (10 * h + k) = nI v) ∧ ∀ x, (x < 10 * h ∨ 10 * h + (i + 1) ≤ x) → u.2.2.2.1 8 x = τ.2.1 8 x) (fun r : ((Int32 × Int32 × ZS) ⊕ (Int32 × ZS)) => ∃ (cd : Bool) (τ' : ZS), r = .inl (bI cd, nI (h + 1), τ') ∧ (cd = true ↔ cc = true ∨ ∃ k v, new[k]? = some v ∧ τ.2.1 8 (10 * h + k) ≠ nI v) ∧ τ'.1 = τ.1 ∧ (∀ j, j ≠ 8 → τ'.2.1 j = τ.2.1 j) ∧ (∀ k v, new[k]? = some v → τ'.2.1 8 (10 * h + k) = nI v) ∧ ∀ x, (x < 10 * h ∨ 10 * h + 10 ≤ x) → τ'.2.1 8 x = τ.2.1 8 x)) := by
      intro s0 ce hs0 hce
      unfold f_X7_goRound_J221
      rw [ix10, nI_clamp (by omega)]
      refine oCkI (by omega) (by omega) (oRet ⟨nI_1 i, ⟨ce, hs0, ?_⟩, h1, fun j hj => ?_, fun k w hk hw => ?_, fun x hx => ?_⟩)
      · rw [hce, hcd]
        constructor
        · rintro ((q | ⟨k, w, q1, q2, q3⟩) | q)
          · exact Or.inl q
          · exact Or.inr ⟨k, w, by omega, q2, q3⟩
          · exact Or.inr ⟨i, v, by omega, hvv, q⟩
        · rintro (q | ⟨k, w, q1, q2, q3⟩)
          · exact Or.inl (Or.inl q)
          · rcases Nat.lt_or_ge k i with z | z
            · exact Or.inl (Or.inr ⟨k, w, z, q2, q3⟩)
            · have e : k = i := by omega
              subst e
              rw [hvv] at q2
              cases q2
              exact Or.inr q3
      · show (setA υ 8 _ _).2.1 j = _
        rw [setA_n hj]; exact h2 j hj
      · show (setA υ 8 _ _).2.1 8 _ = _
        rw [setA_s]
        rcases Nat.lt_or_ge k i with z | z
        · rw [pk_un (by omega)]; exact h3 k w z hw
        · have e : k = i := by omega
          subst e
          rw [hvv] at hw
          cases hw
          exact pk_us
      · show (setA υ 8 _ _).2.1 8 _ = _
        rw [setA_s, pk_un (by omega)]
        exact h4 x (by omega)
    have J191 : Ok (f_X7_goRound_J191 l1 l2 l3 (bI cd) (nI h) t (nI new.length) (nI i) (nI v) υ) (Sum.elim (fun u : Int32 × Int32 × ZS => u.2.1 = nI (i + 1) ∧ (∃ cd : Bool, u.1 = bI cd ∧ (cd = true ↔ cc = true ∨ ∃ k v, k < i + 1 ∧ new[k]? = some v ∧ τ.2.1 8 (10 * h + k) ≠ nI v)) ∧ u.2.2.1 = τ.1 ∧ (∀ j, j ≠ 8 → u.2.2.2.1 j = τ.2.1 j) ∧ (∀ k v, k < i + 1 → new[k]? = some v → u.2.2.2.1 8 (10 * h + k) = nI v) ∧ ∀ x, (x < 10 * h ∨ 10 * h + (i + 1) ≤ x) → u.2.2.2.1 8 x = τ.2.1 8 x) (fun r : ((Int32 × Int32 × ZS) ⊕ (Int32 × ZS)) => ∃ (cd : Bool) (τ' : ZS), r = .inl (bI cd, nI (h + 1), τ') ∧ (cd = true ↔ cc = true ∨ ∃ k v, new[k]? = some v ∧ τ.2.1 8 (10 * h + k) ≠ nI v) ∧ τ'.1 = τ.1 ∧ (∀ j, j ≠ 8 → τ'.2.1 j = τ.2.1 j) ∧ (∀ k v, new[k]? = some v → τ'.2.1 8 (10 * h + k) = nI v) ∧ ∀ x, (x < 10 * h ∨ 10 * h + 10 ≤ x) → τ'.2.1 8 x = τ.2.1 8 x)) := by
      unfold f_X7_goRound_J191 f_X7_goRound_J216
      cases cd with
      | true => exact oF one_ne (wr 1 true rfl ⟨fun _ => Or.inl rfl, fun _ => rfl⟩)
      | false =>
        refine oT rfl ?_
        rw [ix10]
        refine oLd (by omega) (by omega) ?_
        rw [h4 (10 * h + i) (by omega)]
        exact oIte (fun q => wr 0 false rfl ⟨fun z => (by cases z), fun z => by
            rcases z with z | z
            · cases z
            · exact absurd q z⟩) (fun q => wr 1 true rfl ⟨fun _ => Or.inr q, fun _ => rfl⟩)
    unfold f_X7_goRound_B159
    refine oLe new.length i (by omega) (by omega) (fun q => by omega) (fun _ => ?_)
    rcases hv i v hi hvv with ⟨z0, z1⟩ | ⟨z0, tt, z1, z2, z3, z5, z4⟩
    · subst z0
      subst z1
      exact oT rfl J191
    · refine oF (fun q => by have := (nI_eq (a := i) (b := 0) (by omega) (by omega)).mp q; omega) ?_
      subst z1
      show Ok (ld (υ.2.1 10) 100 ((((10 : Int32) * nI tt) + nI i) - 1) _) _
      have ei : (((10 : Int32) * nI tt) + nI i) - 1 = nI (10 * tt + (i - 1)) := by
        rw [ix10, show 10 * tt + i = (10 * tt + (i - 1)) + 1 by omega, nI_pred]
      rw [ei]
      refine oLd (by omega) (by omega) ?_
      rw [h2 10 (by omega), z4]
      exact J191
  · intro u hI
    obtain ⟨c, j, υ⟩ := u
    obtain ⟨hj, ⟨cd, hc, hcd⟩, h1, h2, h3, h4⟩ := hI
    have hj : j = nI new.length := hj
    have hc : c = bI cd := hc
    subst hj
    subst hc
    unfold f_X7_goRound_B159
    refine oLe new.length new.length (by omega) (by omega) (fun _ => oWi (oRet ⟨cd, υ, by rw [nI_1], ?_, h1, h2, fun k v hk => h3 k v (List.getElem?_eq_some_iff.mp hk).1 hk, fun x hx => h4 x (by omega)⟩)) (fun q => by omega)
    rw [hcd]
    constructor
    · rintro (q | ⟨k, v, q1, q2, q3⟩)
      · exact Or.inl q
      · exact Or.inr ⟨k, v, q2, q3⟩
    · rintro (q | ⟨k, v, q2, q3⟩)
      · exact Or.inl q
      · exact Or.inr ⟨k, v, (List.getElem?_eq_some_iff.mp q2).1, q2, q3⟩
theorem list_ne {a b : List Nat} {f : Nat → Int32} (hb : ∀ k v, b[k]? = some v → f k = nI v) (hs : ∀ x ∈ a ++ b, x < 2 ^ 31) : a ≠ b ↔ (a.length ≠ b.length ∨ ∃ k v, a[k]? = some v ∧ f k ≠ nI v) := by
  constructor
  · intro h
    by_cases q : a.length = b.length
    · refine Or.inr ?_
      by_cases z : ∃ k v, a[k]? = some v ∧ f k ≠ nI v
      · exact z
      · refine absurd (List.ext_getElem? (fun k => ?_)) h
        rcases Nat.lt_or_ge k a.length with y | y
        · obtain ⟨v, hv⟩ : ∃ v, a[k]? = some v := ⟨_, List.getElem?_eq_getElem y⟩
          obtain ⟨w, hw⟩ : ∃ w, b[k]? = some w := ⟨_, List.getElem?_eq_getElem (by omega)⟩
          have e1 : f k = nI v := Decidable.byContradiction (fun e => z ⟨k, v, hv, e⟩)
          have e2 := hb k w hw
          rw [e1] at e2
          have := (nI_eq (hs v (List.mem_append_left _ (List.mem_of_getElem? hv))) (hs w (List.mem_append_right _ (List.mem_of_getElem? hw)))).mp e2
          rw [hv, hw, this]
        · rw [List.getElem?_eq_none y, List.getElem?_eq_none (by omega)]
    · exact Or.inl q
  · rintro (q | ⟨k, v, q1, q2⟩) h
    · exact q (by rw [h])
    · rw [h] at q1
      exact q2 (hb k v q1)
theorem mgo_ok (E : EM n K lk hol nr rb ns sb sh τ) (G : GI n K hol (syOf sb sh ns)) (hW : WI n W) (hN : mW τ 8 n W) (hb : 1 ≤ b ∧ b < 128) : Ok (f_X7_goRound (nI (lenOf b)) (nI (fstOf b)) Rf τ) (fun r => r.1 = bI (sChg n K lk (syOf sb sh ns b) Rf (owO hol b) W n) ∧ PM τ r.2 ∧ r.2.1 = τ.1 ∧ mW r.2 8 n (sRnd n K lk (syOf sb sh ns b) Rf (owO hol b) W)) := by
  have hn := G.1
  -- the third loop
  have L3 : ∀ υ : ZS, PM τ υ → υ.1 = τ.1 → mW υ 8 n W → mW υ 10 n W → Ok (f_X7_goRound_J62 (nI (lenOf b)) (nI (fstOf b)) Rf υ) (fun r => r.1 = bI (sChg n K lk (syOf sb sh ns b) Rf (owO hol b) W n) ∧ PM τ r.2 ∧ r.2.1 = τ.1 ∧ mW r.2 8 n (sRnd n K lk (syOf sb sh ns b) Rf (owO hol b) W)) := by
    intro υ p0 p1 p2 p3
    unfold f_X7_goRound_J62
    refine oLoop (fun i t => t.2.1 = nI i ∧ t.1 = bI (sChg n K lk (syOf sb sh ns b) Rf (owO hol b) W i) ∧ PM τ t.2.2 ∧ t.2.2.1 = τ.1 ∧ mW t.2.2 8 n (sTo n K lk (syOf sb sh ns b) Rf (owO hol b) W i) ∧ mW t.2.2 10 n W) n (by omega) ⟨rfl, rfl, p0, p1, by rw [sTo_0]; exact p2, p3⟩ ?_ ?_
    · intro i t hi hI
      obtain ⟨c, j, ρ⟩ := t
      obtain ⟨hj, hc, h1, h2, h3, h4⟩ := hI
      have hj : j = nI i := hj
      have hc : c = bI (sChg n K lk (syOf sb sh ns b) Rf (owO hol b) W i) := hc
      have h3 : mW ρ 8 n (sTo n K lk (syOf sb sh ns b) Rf (owO hol b) W i) := h3
      have h4 : mW ρ 10 n W := h4
      have h1 : PM τ ρ := h1
      have h2 : ρ.1 = τ.1 := h2
      subst hj
      subst hc
      have E' := E.pm h1
      have hto : ∀ x, x ≠ i → sTo n K lk (syOf sb sh ns b) Rf (owO hol b) W (i + 1) x = sTo n K lk (syOf sb sh ns b) Rf (owO hol b) W i x := fun x hx => by
        unfold sTo
        by_cases q : x < i
        · rw [if_pos q, if_pos (by omega)]
        · rw [if_neg q, if_neg (by omega)]
      have hold : sTo n K lk (syOf sb sh ns b) Rf (owO hol b) W i i = W i := by unfold sTo; rw [if_neg (by omega)]
      have hnw : sTo n K lk (syOf sb sh ns b) Rf (owO hol b) W (i + 1) i = sRnd n K lk (syOf sb sh ns b) Rf (owO hol b) W i := by unfold sTo; rw [if_pos (by omega)]
      have ec : sChg n K lk (syOf sb sh ns b) Rf (owO hol b) W (i + 1) = (sChg n K lk (syOf sb sh ns b) Rf (owO hol b) W i || decide (sRnd n K lk (syOf sb sh ns b) Rf (owO hol b) W i ≠ W i)) := rfl
      unfold f_X7_goRound_B68
      show Ok (if ρ.1 0 ≤ nI i then _ else _) _
      rw [E'.1]
      refine oLe n i (by omega) (by omega) (fun q => by omega) (fun _ => ?_)
      refine oBindE (says_ok E'.2.2.2.2 hb (by omega)) ?_
      cases hS : syOf sb sh ns b i with
      | true =>
        have er : sRnd n K lk (syOf sb sh ns b) Rf (owO hol b) W i = W i := by unfold sRnd; rw [if_neg (fun q => by rw [hS] at q; cases q.2)]
        refine oF one_ne (oRet ⟨nI_1 i, ?_, h1, h2, fun x hx => ?_, h4⟩)
        · rw [ec, er, decide_eq_false (fun z => z rfl), Bool.or_false]
        · by_cases q : x = i
          · subst q; rw [hnw, er, ← hold]; exact h3 x hx
          · rw [hto x q]; exact h3 x hx
      | false =>
        refine oT rfl (oBindE (mbest_ok E' G hW h4 hb hi) ?_)
        have er : sRnd n K lk (syOf sb sh ns b) Rf (owO hol b) W i = nW W i (sBest K lk (syOf sb sh ns b) Rf (owO hol b) W i n) := by
          unfold sRnd; rw [if_pos ⟨hi, hS⟩]; rfl
        obtain ⟨o, ho⟩ : ∃ o, o = sBest K lk (syOf sb sh ns b) Rf (owO hol b) W i n := ⟨_, rfl⟩
        rw [← ho] at er ⊢
        obtain ⟨new, hnew⟩ : ∃ new, new = sRnd n K lk (syOf sb sh ns b) Rf (owO hol b) W i := ⟨_, rfl⟩
        have hWr : WI n (sRnd n K lk (syOf sb sh ns b) Rf (owO hol b) W) := hW.rnd
        have hnl : new.length ≤ n := by rw [hnew]; exact hWr.len i
        have hni : ∀ x ∈ new, x < n := by rw [hnew]; exact (hWr.2 i).2
        have hol2 := (h3 i hi)
        rw [hold] at hol2
        have hwl := hW.len i
        have hs9 : ρ.2.1 9 i = nI (W i).length := hol2.1
        -- the write of the row, behind the size
        have J145 : ∀ cb : Bool, (cb = true ↔ sChg n K lk (syOf sb sh ns b) Rf (owO hol b) W i = true ∨ new.length ≠ (W i).length) → Ok (f_X7_goRound_J145 (nI (lenOf b)) (nI (fstOf b)) Rf (nI i) (oI o) (nI new.length) (bI cb) ρ) (Sum.elim (fun t : Int32 × Int32 × ZS => t.2.1 = nI (i + 1) ∧ t.1 = bI (sChg n K lk (syOf sb sh ns b) Rf (owO hol b) W (i + 1)) ∧ PM τ t.2.2 ∧ t.2.2.1 = τ.1 ∧ mW t.2.2 8 n (sTo n K lk (syOf sb sh ns b) Rf (owO hol b) W (i + 1)) ∧ mW t.2.2 10 n W) (fun r => r.1 = bI (sChg n K lk (syOf sb sh ns b) Rf (owO hol b) W n) ∧ PM τ r.2 ∧ r.2.1 = τ.1 ∧ mW r.2 8 n (sRnd n K lk (syOf sb sh ns b) Rf (owO hol b) W))) := by
          intro cb hcb
          unfold f_X7_goRound_J145
          rw [nI_clamp (by omega)]
          refine oCkI (by omega) (by omega) ?_
          have hread : ∀ k, k ≠ 9 → (setA ρ 9 i (nI new.length)).2.1 k = ρ.2.1 k := fun k hk => setA_n hk
          refine oMono (mrow_ok n hn (by omega) (oI o) new (by omega) (setA ρ 9 i (nI new.length)) (nI (lenOf b)) (nI (fstOf b)) Rf cb ?_) (fun u hu => ?_)
          · intro k v hk hkv
            cases ho' : o with
            | none =>
              have : new = [] := by rw [hnew, er, ho']; rfl
              rw [this] at hk
              exact absurd hk (Nat.not_lt_zero k)
            | some t =>
              have e : new = i :: W t := by rw [hnew, er, ho']; rfl
              have hm := sBest_may (ho.symm.trans ho')
              cases k with
              | zero =>
                rw [e] at hkv
                exact Or.inl ⟨rfl, by simpa using hkv.symm⟩
              | succ k =>
                rw [e] at hkv
                have hkv' : (W t)[k]? = some v := by simpa using hkv
                have hkl := (List.getElem?_eq_some_iff.mp hkv').1
                have := hW.len t
                refine Or.inr ⟨by omega, t, rfl, by omega, by omega, by omega, ?_⟩
                rw [hread 10 (by omega), show k + 1 - 1 = k by omega]
                exact (h4 t (by omega)).2 k v hkv'
          · obtain ⟨cd, τ', rfl, u1, u2, u3, u4, u5⟩ := hu
            refine ⟨rfl, ?_, ?_, u2.trans h2, ?_, ?_⟩
            · show bI cd = _
              congr 1
              have hdec : ((sChg n K lk (syOf sb sh ns b) Rf (owO hol b) W i || decide (new ≠ W i)) = true) ↔ cd = true := by
                rw [u1, hcb, Bool.or_eq_true, decide_eq_true_eq]
                have hl := list_ne (a := new) (b := W i) (f := fun k => ρ.2.1 8 (10 * i + k)) hol2.2 (fun x hx => by
                  rcases List.mem_append.mp hx with y | y
                  · have := hni x y; omega
                  · have := (hW.2 i).2 x y; omega)
                rw [hl]
                simp only [hread 8 (by omega)]
                constructor
                · rintro (a | a | a)
                  · exact Or.inl (Or.inl a)
                  · exact Or.inl (Or.inr a)
                  · exact Or.inr a
                · rintro ((a | a) | a)
                  · exact Or.inl a
                  · exact Or.inr (Or.inl a)
                  · exact Or.inr (Or.inr a)
              rw [ec, ← hnew]
              cases cd with
              | true => exact (hdec.mpr rfl).symm
              | false =>
                cases hx : (sChg n K lk (syOf sb sh ns b) Rf (owO hol b) W i || decide (new ≠ W i)) with
                | false => rfl
                | true => exact absurd (hdec.mp hx) (by decide)
            · refine ⟨fun k hk => ?_, fun k hk => ?_⟩
              · show τ'.1 k = _
                rw [u2]; exact h1.1 k hk
              · show τ'.2.1 k = _
                rw [u3 k (by omega), hread k (by omega)]; exact h1.2 k hk
            · intro x hx
              by_cases q : x = i
              · subst q
                rw [hnw, ← hnew]
                refine ⟨?_, fun k v hk => u4 k v hk⟩
                show τ'.2.1 9 x = _
                rw [u3 9 (by omega), setA_s]
                exact pk_us
              · rw [hto x q]
                obtain ⟨w1, w2⟩ := h3 x hx
                refine ⟨?_, fun k v hk => ?_⟩
                · show τ'.2.1 9 x = _
                  rw [u3 9 (by omega), setA_s, pk_un q]; exact w1
                · show τ'.2.1 8 _ = _
                  have hlx : (sTo n K lk (syOf sb sh ns b) Rf (owO hol b) W i x).length ≤ n := by
                    unfold sTo
                    by_cases z : x < i
                    · rw [if_pos z]; exact hWr.len x
                    · rw [if_neg z]; exact hW.len x
                  have := (List.getElem?_eq_some_iff.mp hk).1
                  rw [u5 _ (by omega), hread 8 (by omega)]
                  exact w2 k v hk
            · intro x hx
              obtain ⟨w1, w2⟩ := h4 x hx
              refine ⟨?_, fun k v hk => ?_⟩
              · show τ'.2.1 11 x = _
                rw [u3 11 (by omega), hread 11 (by omega)]; exact w1
              · show τ'.2.1 10 _ = _
                rw [u3 10 (by omega), hread 10 (by omega)]; exact w2 k v hk
        have J121 : Ok (f_X7_goRound_J121 (nI (lenOf b)) (nI (fstOf b)) Rf (bI (sChg n K lk (syOf sb sh ns b) Rf (owO hol b) W i)) (nI i) (oI o) (nI new.length) ρ) (Sum.elim (fun t : Int32 × Int32 × ZS => t.2.1 = nI (i + 1) ∧ t.1 = bI (sChg n K lk (syOf sb sh ns b) Rf (owO hol b) W (i + 1)) ∧ PM τ t.2.2 ∧ t.2.2.1 = τ.1 ∧ mW t.2.2 8 n (sTo n K lk (syOf sb sh ns b) Rf (owO hol b) W (i + 1)) ∧ mW t.2.2 10 n W) (fun r => r.1 = bI (sChg n K lk (syOf sb sh ns b) Rf (owO hol b) W n) ∧ PM τ r.2 ∧ r.2.1 = τ.1 ∧ mW r.2 8 n (sRnd n K lk (syOf sb sh ns b) Rf (owO hol b) W))) := by
          unfold f_X7_goRound_J121 f_X7_goRound_J140
          cases hcc : sChg n K lk (syOf sb sh ns b) Rf (owO hol b) W i with
          | true => exact oF one_ne (J145 true ⟨fun _ => Or.inl hcc, fun _ => rfl⟩)
          | false =>
            refine oT rfl (oLd (by omega) (by omega) ?_)
            rw [hs9]
            exact oNe new.length (W i).length (by omega) (by omega) (fun q => J145 false ⟨fun z => (by cases z), fun z => by
              rcases z with z | z
              · rw [hcc] at z; cases z
              · exact absurd q z⟩) (fun q => J145 true ⟨fun _ => Or.inr q, fun _ => rfl⟩)
        cases ho' : o with
        | none =>
          have e : new.length = 0 := by rw [hnew, er, ho']; rfl
          refine oT rfl ?_
          rw [ho', e] at J121
          exact J121
        | some t =>
          have hm := sBest_may (ho.symm.trans ho')
          have e : new.length = (W t).length + 1 := by rw [hnew, er, ho']; rfl
          refine oF (nI_m1 (by omega)) ?_
          show Ok (ld (ρ.2.1 11) 10 (nI t) _) _
          refine oLd (by omega) (by omega) ?_
          rw [show ρ.2.1 11 t = nI (W t).length from (h4 t (by omega)).1, nI_1, ← e]
          rw [ho'] at J121
          exact J121
    · intro t hI
      obtain ⟨c, j, ρ⟩ := t
      obtain ⟨hj, hc, h1, h2, h3, h4⟩ := hI
      have hj : j = nI n := hj
      have hc : c = bI (sChg n K lk (syOf sb sh ns b) Rf (owO hol b) W n) := hc
      subst hj
      subst hc
      unfold f_X7_goRound_B68
      show Ok (if ρ.1 0 ≤ nI n then _ else _) _
      rw [(E.pm h1).1]
      refine oLe n n (by omega) (by omega) (fun _ => ?_) (fun q => by omega)
      refine oCk (isB_bI _) (oWi (oRet ⟨rfl, h1, h2, ?_⟩))
      rw [← sTo_n]; exact h3
  -- the second loop: sizes
  have L2 : ∀ υ : ZS, PM τ υ → υ.1 = τ.1 → mW υ 8 n W → (∀ x, x < 100 → υ.2.1 10 x = τ.2.1 8 x) → (∀ x, υ.2.1 8 x = τ.2.1 8 x) → Ok (f_X7_goRound_J30 (nI (lenOf b)) (nI (fstOf b)) Rf υ) (fun r => r.1 = bI (sChg n K lk (syOf sb sh ns b) Rf (owO hol b) W n) ∧ PM τ r.2 ∧ r.2.1 = τ.1 ∧ mW r.2 8 n (sRnd n K lk (syOf sb sh ns b) Rf (owO hol b) W)) := by
    intro υ p0 p1 p2 p3 p4
    unfold f_X7_goRound_J30
    refine oLoop (fun i t => t.1 = nI i ∧ PM τ t.2 ∧ t.2.1 = τ.1 ∧ (∀ k, k ≠ 11 → t.2.2.1 k = υ.2.1 k) ∧ ∀ x, x < i → t.2.2.1 11 x = υ.2.1 9 x) n (by omega) ⟨rfl, p0, p1, fun _ _ => rfl, fun x hx => by omega⟩ ?_ ?_
    · intro i t hi hI
      obtain ⟨j, ρ⟩ := t
      obtain ⟨hj, h1, h2, h3, h4⟩ := hI
      have hj : j = nI i := hj
      have h3 : ∀ k, k ≠ 11 → ρ.2.1 k = υ.2.1 k := h3
      have h4 : ∀ x, x < i → ρ.2.1 11 x = υ.2.1 9 x := h4
      have h1 : PM τ ρ := h1
      subst hj
      unfold f_X7_goRound_B33
      show Ok (if ρ.1 0 ≤ nI i then _ else _) _
      rw [(E.pm h1).1, nI_clamp (by omega)]
      refine oLe n i (by omega) (by omega) (fun q => by omega) (fun _ => oLd (by omega) (by omega) (oCkI (by omega) (by omega) (oRet ⟨nI_1 i, h1.tr (PM.A (by omega)), h2, fun k hk => ?_, fun x hx => ?_⟩)))
      · show (setA ρ 11 _ _).2.1 k = _
        rw [setA_n hk]; exact h3 k hk
      · show (setA ρ 11 _ _).2.1 11 x = _
        rw [setA_s]
        by_cases q : x = i
        · subst q
          rw [pk_us]; show ρ.2.1 9 x = _; rw [h3 9 (by omega)]
        · rw [pk_un q]; exact h4 x (by omega)
    · intro t hI
      obtain ⟨j, ρ⟩ := t
      obtain ⟨hj, h1, h2, h3, h4⟩ := hI
      have hj : j = nI n := hj
      have h3 : ∀ k, k ≠ 11 → ρ.2.1 k = υ.2.1 k := h3
      have h4 : ∀ x, x < n → ρ.2.1 11 x = υ.2.1 9 x := h4
      have h1 : PM τ ρ := h1
      subst hj
      unfold f_X7_goRound_B33
      show Ok (if ρ.1 0 ≤ nI n then _ else _) _
      rw [(E.pm h1).1]
      refine oLe n n (by omega) (by omega) (fun _ => oWi (oMono (L3 ρ h1 h2 (fun x hx => ?_) (fun x hx => ?_)) (fun r hr => hr))) (fun q => by omega)
      · obtain ⟨w1, w2⟩ := p2 x hx
        refine ⟨?_, fun k v hk => ?_⟩
        · show ρ.2.1 9 x = _
          rw [h3 9 (by omega)]; exact w1
        · show ρ.2.1 8 _ = _
          rw [h3 8 (by omega)]; exact w2 k v hk
      · obtain ⟨w1, w2⟩ := p2 x hx
        refine ⟨?_, fun k v hk => ?_⟩
        · show ρ.2.1 11 x = _
          rw [h4 x hx]; exact w1
        · show ρ.2.1 10 _ = _
          have := hW.len x
          have := (List.getElem?_eq_some_iff.mp hk).1
          rw [h3 10 (by omega), p3 _ (by omega), ← p4]
          exact w2 k v hk
  -- the first loop: rows
  unfold f_X7_goRound
  refine oLoop (fun i t => t.1 = nI i ∧ PM τ t.2 ∧ t.2.1 = τ.1 ∧ (∀ k, k ≠ 10 → t.2.2.1 k = τ.2.1 k) ∧ ∀ x, x < i → t.2.2.1 10 x = τ.2.1 8 x) 100 (by omega) ⟨rfl, PM.rf, rfl, fun _ _ => rfl, fun x hx => by omega⟩ ?_ ?_
  · intro i t hi hI
    obtain ⟨j, ρ⟩ := t
    obtain ⟨hj, h1, h2, h3, h4⟩ := hI
    have hj : j = nI i := hj
    have h3 : ∀ k, k ≠ 10 → ρ.2.1 k = τ.2.1 k := h3
    have h4 : ∀ x, x < i → ρ.2.1 10 x = τ.2.1 8 x := h4
    have h1 : PM τ ρ := h1
    subst hj
    unfold f_X7_goRound_B3
    rw [nI_clamp (by omega)]
    refine oLe 100 i (by omega) (by omega) (fun q => by omega) (fun _ => oLd (by omega) (by omega) (oCkI (by omega) (by omega) (oRet ⟨nI_1 i, h1.tr (PM.A (by omega)), h2, fun k hk => ?_, fun x hx => ?_⟩)))
    · show (setA ρ 10 _ _).2.1 k = _
      rw [setA_n hk]; exact h3 k hk
    · show (setA ρ 10 _ _).2.1 10 x = _
      rw [setA_s]
      by_cases q : x = i
      · subst q
        rw [pk_us]; show ρ.2.1 8 x = _; rw [h3 8 (by omega)]
      · rw [pk_un q]; exact h4 x (by omega)
  · intro t hI
    obtain ⟨j, ρ⟩ := t
    obtain ⟨hj, h1, h2, h3, h4⟩ := hI
    have hj : j = nI 100 := hj
    have h3 : ∀ k, k ≠ 10 → ρ.2.1 k = τ.2.1 k := h3
    have h4 : ∀ x, x < 100 → ρ.2.1 10 x = τ.2.1 8 x := h4
    have h1 : PM τ ρ := h1
    subst hj
    unfold f_X7_goRound_B3
    refine oT (show (100 : Int32) ≤ nI 100 by decide) (oWi (oMono (L2 ρ h1 h2 (fun x hx => ?_) h4 (fun x => by rw [h3 8 (by omega)])) (fun r hr => hr)))
    obtain ⟨w1, w2⟩ := hN x hx
    refine ⟨?_, fun k v hk => ?_⟩
    · show ρ.2.1 9 x = _
      rw [h3 9 (by omega)]; exact w1
    · show ρ.2.1 8 _ = _
      rw [h3 8 (by omega)]; exact w2 k v hk
end MG
