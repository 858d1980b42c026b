/-! The model's ways -/
/-- the model's table of ways: sizes at B + 1, rows at B -/
def mW (τ : ZS) (B n : Nat) (W : Nat → List Nat) : Prop := ∀ h, h < n → τ.2.1 (B + 1) h = nI (W h).length ∧ ∀ i v, (W h)[i]? = some v → τ.2.1 B (10 * h + i) = nI v
theorem ix10 (h i : Nat) : ((10 : Int32) * nI h) + nI i = nI (10 * h + i) := by
  rw [show (10 : Int32) * nI h = nI (10 * h) from pk_mul 10 h, nI_add]
theorem isHouse_ok {n : Nat} {τ : ZS} (h0 : τ.1 0 = nI n) (hn : n ≤ 10) (x : Int32) : f_X7_isHouse x τ = some 0 ∧ (∀ h, h < n → x ≠ nI h) ∨ ∃ h, h < n ∧ x = nI h ∧ f_X7_isHouse x τ = some 1 := by
  unfold f_X7_isHouse f_X7_in
  rw [h0]
  by_cases c0 : x < 0
  · rw [if_pos c0]
    exact Or.inl ⟨rfl, fun h hh q => nI_pos (n := h) (by omega) (q ▸ c0)⟩
  · rw [if_neg c0]
    obtain ⟨j, hj, rfl⟩ := nI_of c0
    by_cases c1 : nI n - 1 < nI j
    · rw [if_pos c1]
      refine Or.inl ⟨rfl, fun h hh q => ?_⟩
      obtain ⟨m, rfl⟩ : ∃ m, n = m + 1 := ⟨n - 1, by omega⟩
      rw [nI_pred] at c1
      have := (nI_ltI (by omega) hj).mp c1
      have := (nI_eq hj (by omega)).mp q
      omega
    · rw [if_neg c1]
      refine Or.inr ⟨j, ?_, rfl, rfl⟩
      cases n with
      | zero =>
        exact absurd (show nI 0 - 1 < nI j from by
          rw [Int32.lt_iff_toInt_lt, nI_toInt hj]
          have : (nI 0 - 1).toInt = -1 := by decide
          omega) c1
      | succ m =>
        rw [nI_pred] at c1
        have z : ¬ m < j := fun q => c1 ((nI_ltI (by omega) hj).mpr q)
        omega
theorem isHouse_1 {n : Nat} {τ : ZS} (h0 : τ.1 0 = nI n) (hn : n ≤ 10) {h : Nat} (hh : h < n) : f_X7_isHouse (nI h) τ = some 1 := by
  rcases isHouse_ok h0 hn (nI h) with ⟨-, q⟩ | ⟨_, -, -, q⟩
  · exact absurd rfl (q h hh)
  · exact q
section MY
variable {n : Nat} {K : Nat → Nat → Nat} {lk : Int32} {hol : Nat → Int32} {nr : Nat} {rb : Nat → Nat} {ns : Nat} {sb sh : Nat → Nat} {τ : ZS} {W : Nat → List Nat} {Rf : Int32} {b : Nat}
theorem misOn_ok (hW : WI n W) (hn : n ≤ 10) (hB : mW τ 10 n W) {t h : Nat} (ht : t < n) (hh : h < 2 ^ 31) : f_X7_isOn (nI t) (nI h) τ = some (bI (decide (h ∈ W t))) := by
  have hlen := hW.len t
  obtain ⟨b1, b2⟩ := hB t ht
  have b1 : τ.2.1 11 t = nI (W t).length := b1
  apply oEq
  unfold f_X7_isOn
  refine oLoop (fun i u => u.2 = nI i ∧ u.1 = bI (decide (h ∈ (W t).take i))) (W t).length (by omega) ⟨rfl, by simp; rfl⟩ ?_ ?_
  · intro i u hi hI
    obtain ⟨c, j⟩ := u
    obtain ⟨hj, hc⟩ := hI
    have hj : j = nI i := hj
    have hc : c = bI (decide (h ∈ (W t).take i)) := hc
    subst hj
    subst hc
    obtain ⟨v, hv⟩ : ∃ v, (W t)[i]? = some v := ⟨_, List.getElem?_eq_getElem hi⟩
    have hvn := hW.lt hv
    have etk : (W t).take (i + 1) = (W t).take i ++ [v] := by rw [List.take_add_one, hv]; rfl
    unfold f_X7_isOn_B5
    refine oLd (by omega) (by omega) ?_
    rw [b1]
    refine oLe (W t).length i (by omega) (by omega) (fun q => by omega) (fun _ => ?_)
    by_cases q : h ∈ (W t).take i
    · rw [decide_eq_true q]
      refine oF one_ne ?_
      unfold f_X7_isOn_J36
      refine oRet ⟨nI_1 i, ?_⟩
      rw [etk, decide_eq_true (List.mem_append_left _ q)]; rfl
    · rw [decide_eq_false q]
      refine oT rfl ?_
      show Ok (ld _ 100 (((10 : Int32) * nI t) + nI i) _) _
      rw [ix10]
      refine oLd (by omega) (by omega) ?_
      rw [b2 i v hv]
      refine oNe v h (by omega) hh (fun z => ?_) (fun z => oRet ⟨nI_1 i, ?_⟩)
      · unfold f_X7_isOn_J36
        refine oRet ⟨nI_1 i, ?_⟩
        rw [etk, decide_eq_true (by subst z; simp)]; rfl
      · rw [etk, decide_eq_false (fun y => by
          rcases List.mem_append.mp y with y | y
          · exact q y
          · exact z (List.mem_singleton.mp y).symm)]; rfl
  · intro u hI
    obtain ⟨c, j⟩ := u
    obtain ⟨hj, hc⟩ := hI
    have hj : j = nI (W t).length := hj
    have hc : c = bI (decide (h ∈ (W t).take (W t).length)) := hc
    subst hj
    subst hc
    unfold f_X7_isOn_B5
    refine oLd (by omega) (by omega) ?_
    rw [b1, List.take_length]
    exact oLe (W t).length (W t).length (by omega) (by omega) (fun _ => oCk (isB_bI _) (oWi (oRet rfl))) (fun q => by omega)
theorem bI_or {a b : Bool} : bI (a || b) = if a = true then 1 else bI b := by cases a <;> rfl
theorem passes_ok (E : EM n K lk hol nr rb ns sb sh τ) (G : GI n K hol (syOf sb sh ns)) (hW : WI n W) (hB : mW τ 10 n W) (hb : 1 ≤ b ∧ b < 128) {t h : Nat} (ht : t < n) (hh : h < n) : f_X7_passes (nI (lenOf b)) (nI (fstOf b)) (nI t) (nI h) τ = some (bI (decide (K h t = 3) || sOpen K lk (syOf sb sh ns b) W t)) := by
  have hn := G.1
  obtain ⟨e1, e2, e3, e4, e5⟩ := E
  obtain ⟨b1, b2⟩ := hB t ht
  have b1 : τ.2.1 11 t = nI (W t).length := b1
  have hlen := hW.len t
  have hk : K t h = 1 ↔ K h t = 3 := (G.2.2.2.1 h t).1.symm
  have hk4 := G.2.1 t h
  apply oEq
  unfold f_X7_passes
  rw [ix10]
  refine oLd (by omega) (by omega) ?_
  rw [e3 t h (by omega) (by omega)]
  refine oNe (K t h) 1 (by omega) (by omega) (fun q => oRet (by rw [decide_eq_true (hk.mp q)]; rfl)) (fun q => ?_)
  rw [decide_eq_false (fun z => q (hk.mpr z)), Bool.false_or, e2]
  refine oBindE (isOf_ok lk (by omega)) ?_
  unfold sOpen
  cases hl : bt lk t with
  | true => exact oF one_ne (oRet (by simp; rfl))
  | false =>
    refine oT rfl (oBindE (says_ok e5 hb (by omega)) ?_)
    cases hs : syOf sb sh ns b t with
    | true => exact oF one_ne (oRet (by simp; rfl))
    | false =>
      refine oT rfl (oLd (by omega) (by omega) ?_)
      rw [b1]
      refine oLe (W t).length 1 (by omega) (by omega) (fun z => oRet ?_) (fun z => ?_)
      · rw [List.getElem?_eq_none z]; rfl
      · obtain ⟨v, hv⟩ : ∃ v, (W t)[1]? = some v := ⟨_, List.getElem?_eq_getElem z⟩
        have hvn := hW.lt hv
        have hk5 := G.2.1 t v
        rw [hv, show ((10 : Int32) * nI t) + 1 = nI (10 * t + 1) from ix10 t 1]
        refine oLd (by omega) (by omega) ?_
        rw [b2 1 v hv, ix10]
        refine oLd (by omega) (by omega) ?_
        rw [e3 t v (by omega) (by omega)]
        exact oNe (K t v) 1 (by omega) (by omega) (fun y => oRet (by simp [y]; rfl)) (fun y => oRet (by simp [y]; rfl))
theorem mlast {l : List Nat} (h : l ≠ []) : ∃ v, l.getLast? = some v ∧ l[l.length - 1]? = some v := by
  refine ⟨l.getLast h, List.getLast?_eq_some_getLast h, ?_⟩
  rw [← List.getLast?_eq_getElem?]
  exact List.getLast?_eq_some_getLast h
theorem mayTake_ok (E : EM n K lk hol nr rb ns sb sh τ) (G : GI n K hol (syOf sb sh ns)) (hW : WI n W) (hB : mW τ 10 n W) (hb : 1 ≤ b ∧ b < 128) {t h : Nat} (ht : t < n) (hh : h < n) : f_X7_mayTake (nI (lenOf b)) (nI (fstOf b)) (nI h) (nI t) Rf τ = some (bI (sMay K lk (syOf sb sh ns b) Rf (owO hol b) W h t)) := by
  have hn := G.1
  obtain ⟨b1, b2⟩ := hB t ht
  have b1 : τ.2.1 11 t = nI (W t).length := b1
  have hlen := hW.len t
  have hk4 := G.2.1 h t
  have no : ¬ ((K h t ≠ 0 ∧ W t ≠ [] ∧ h ∉ W t) ∧ (K h t = 3 ∨ sOpen K lk (syOf sb sh ns b) W t = true) ∧ (bt Rf h = false ∨ owO hol b = none ∨ (W t).getLast? = owO hol b)) → (0 : Int32) = bI (sMay K lk (syOf sb sh ns b) Rf (owO hol b) W h t) := fun q => by
    cases hm : sMay K lk (syOf sb sh ns b) Rf (owO hol b) W h t with
    | false => rfl
    | true => exact absurd (sMay_iff.mp hm) q
  have yes : ((K h t ≠ 0 ∧ W t ≠ [] ∧ h ∉ W t) ∧ (K h t = 3 ∨ sOpen K lk (syOf sb sh ns b) W t = true) ∧ (bt Rf h = false ∨ owO hol b = none ∨ (W t).getLast? = owO hol b)) → (1 : Int32) = bI (sMay K lk (syOf sb sh ns b) Rf (owO hol b) W h t) := fun q => by rw [sMay_iff.mpr q]; rfl
  apply oEq
  unfold f_X7_mayTake
  rw [ix10]
  refine oLd (by omega) (by omega) ?_
  rw [E.2.2.1 h t (by omega) (by omega)]
  refine oNe (K h t) 0 (by omega) (by omega) (fun q => oRet (no (fun z => z.1.1 q))) (fun q1 => ?_)
  refine oLd (by omega) (by omega) ?_
  rw [b1]
  refine oNe (W t).length 0 (by omega) (by omega) (fun q => oRet (no (fun z => z.1.2.1 (List.length_eq_zero_iff.mp q)))) (fun q2 => ?_)
  have q2' : W t ≠ [] := fun z => q2 (by rw [z]; rfl)
  refine oBindE (misOn_ok hW hn hB ht (by omega)) ?_
  by_cases q3 : h ∈ W t
  · rw [decide_eq_true q3]
    exact oF one_ne (oRet (no (fun z => z.1.2.2 q3)))
  rw [decide_eq_false q3]
  refine oT rfl (oBindE (passes_ok E G hW hB hb ht hh) ?_)
  by_cases q4 : (K h t = 3 ∨ sOpen K lk (syOf sb sh ns b) W t = true)
  · have e4 : (decide (K h t = 3) || sOpen K lk (syOf sb sh ns b) W t) = true := by
      rw [Bool.or_eq_true, decide_eq_true_eq]; exact q4
    rw [e4]
    refine oF one_ne (oBindE (rightful_ok E.2.2.2.1 hb) (oBindE (isOf_ok Rf (by omega)) ?_))
    cases hr : bt Rf h with
    | false => exact oT rfl (oRet (yes ⟨⟨q1, q2', q3⟩, q4, Or.inl hr⟩))
    | true =>
      refine oF one_ne ?_
      rw [(owO_ok G b).1]
      have hown : ∀ v, owO hol b = some v → v < 2 ^ 31 := fun v q => by have := (owO_ok G b).2 v q; omega
      have hlast : ∀ v, (W t).getLast? = some v → v < 2 ^ 31 := fun v q => by have := getLast_lt hW q; omega
      refine oIte (fun z => oRet (yes ⟨⟨q1, q2', q3⟩, q4, Or.inr (Or.inl ((oI_m1 hown).mp z))⟩)) (fun z => ?_)
      obtain ⟨v, hv1, hv2⟩ := mlast q2'
      refine oLd (by omega) (by omega) ?_
      rw [b1]
      have ei : (((10 : Int32) * nI t) + nI (W t).length) - 1 = nI (10 * t + ((W t).length - 1)) := by
        rw [ix10, show 10 * t + (W t).length = (10 * t + ((W t).length - 1)) + 1 by omega, nI_pred]
      rw [ei]
      refine oLd (by omega) (by omega) ?_
      rw [b2 _ v hv2]
      refine oIte (fun y => oRet (yes ⟨⟨q1, q2', q3⟩, q4, Or.inr (Or.inr ?_)⟩)) (fun y => oRet (no (fun w => ?_)))
      · rw [hv1]
        exact (oI_eq (a := some v) (fun w q => hlast w (by rw [hv1]; exact q)) hown).mp y
      · rcases w.2.2 with w | w | w
        · rw [hr] at w; cases w
        · exact z ((oI_m1 hown).mpr w)
        · rw [hv1] at w
          exact y (by rw [← w]; rfl)
  · have e4 : (decide (K h t = 3) || sOpen K lk (syOf sb sh ns b) W t) = false := by
      cases hc : (decide (K h t = 3) || sOpen K lk (syOf sb sh ns b) W t) with
      | false => rfl
      | true => exact absurd (by rw [Bool.or_eq_true, decide_eq_true_eq] at hc; exact hc) q4
    rw [e4]
    exact oT rfl (oRet (no (fun z => q4 z.2.1)))
theorem mbest_ok (E : EM n K lk hol nr rb ns sb sh τ) (G : GI n K hol (syOf sb sh ns)) (hW : WI n W) (hB : mW τ 10 n W) (hb : 1 ≤ b ∧ b < 128) {h : Nat} (hh : h < n) : f_X7_bestFor (nI (lenOf b)) (nI (fstOf b)) (nI h) Rf τ = some (oI (sBest K lk (syOf sb sh ns b) Rf (owO hol b) W h n)) := by
  have hn := G.1
  apply oEq
  unfold f_X7_bestFor
  refine oLoop (fun i t => t.2 = nI i ∧ t.1 = oI (sBest K lk (syOf sb sh ns b) Rf (owO hol b) W h i)) n (by omega) ⟨rfl, rfl⟩ ?_ ?_
  · intro i t hi hI
    obtain ⟨be, j⟩ := t
    obtain ⟨hj, h1⟩ := hI
    have hj : j = nI i := hj
    have h1 : be = oI (sBest K lk (syOf sb sh ns b) Rf (owO hol b) W h i) := h1
    subst hj
    subst h1
    have hk4 := G.2.1 h i
    have hlen := hW.len i
    have b1 : τ.2.1 11 i = nI (W i).length := (hB i hi).1
    have er : sBest K lk (syOf sb sh ns b) Rf (owO hol b) W h (i + 1) = if sMay K lk (syOf sb sh ns b) Rf (owO hol b) W h i = true then sPick K W h i (sBest K lk (syOf sb sh ns b) Rf (owO hol b) W h i) else sBest K lk (syOf sb sh ns b) Rf (owO hol b) W h i := rfl
    unfold f_X7_bestFor_B6
    rw [E.1]
    refine oLe n i (by omega) (by omega) (fun q => by omega) (fun _ => ?_)
    refine oBindE (mayTake_ok E G hW hB hb hi hh) ?_
    cases hm : sMay K lk (syOf sb sh ns b) Rf (owO hol b) W h i with
    | false => exact oT rfl (oRet ⟨nI_1 i, by rw [er, hm]; rfl⟩)
    | true =>
      refine oF one_ne ?_
      rw [hm, if_pos rfl] at er
      cases hbe : sBest K lk (syOf sb sh ns b) Rf (owO hol b) W h i with
      | none =>
        refine oT rfl ?_
        unfold f_X7_bestFor_J64 f_X7_bestFor_J91
        refine oF (by decide) (oF (by decide) (oRet ⟨nI_1 i, ?_⟩))
        rw [er, hbe]; rfl
      | some c =>
        have hcl := sBest_lt hbe
        have hlc := hW.len c
        have hkc := G.2.1 h c
        have c1 : τ.2.1 11 c = nI (W c).length := (hB c (by omega)).1
        rw [hbe] at er
        have er : sBest K lk (syOf sb sh ns b) Rf (owO hol b) W h (i + 1) = if sRank K W h i < sRank K W h c then some i else some c := er
        refine oF (nI_m1 (by omega)) ?_
        show Ok (ld _ 100 (((10 : Int32) * nI h) + nI i) (fun y4 => ld _ 100 (((10 : Int32) * nI h) + nI c) _)) _
        rw [ix10, ix10]
        refine oLd (by omega) (by omega) (oLd (by omega) (by omega) ?_)
        rw [E.2.2.1 h i (by omega) (by omega), E.2.2.1 h c (by omega) (by omega)]
        have fin : ∀ (d : Int32) (x : Int), d.toInt = x → (x < 0 ↔ sRank K W h i < sRank K W h c) → Ok (f_X7_bestFor_J91 (nI (lenOf b)) (nI (fstOf b)) (nI h) Rf (nI c) (nI i) d τ) (Sum.elim (fun t : Int32 × Int32 => t.2 = nI (i + 1) ∧ t.1 = oI (sBest K lk (syOf sb sh ns b) Rf (owO hol b) W h (i + 1))) (fun r => r = oI (sBest K lk (syOf sb sh ns b) Rf (owO hol b) W h n))) := by
          intro d x hd hx
          unfold f_X7_bestFor_J91
          refine oIte (fun q => oRet ⟨nI_1 i, ?_⟩) (fun q => oRet ⟨nI_1 i, ?_⟩)
          · rw [Int32.le_iff_toInt_le] at q
            have z : (0 : Int32).toInt = 0 := by decide
            rw [er, if_neg (fun y => by have := hx.mpr y; omega)]; rfl
          · rw [Int32.le_iff_toInt_le] at q
            have z : (0 : Int32).toInt = 0 := by decide
            rw [er, if_pos (hx.mp (by omega))]; rfl
        have hd := pk_sub_toInt (a := K h i) (b := K h c) (by omega) (by omega)
        show Ok (f_X7_bestFor_J64 (nI (lenOf b)) (nI (fstOf b)) (nI h) Rf (nI c) (nI i) (nI (K h i) - nI (K h c)) τ) _
        unfold f_X7_bestFor_J64
        refine oIte (fun q => ?_) (fun q => ?_)
        · have z : (0 : Int32).toInt = 0 := by decide
          rw [q, z] at hd
          refine oLd (by omega) (by omega) (oLd (by omega) (by omega) ?_)
          rw [b1, c1]
          exact fin _ _ (pk_sub_toInt (by omega) (by omega)) (by unfold sRank; omega)
        · refine fin _ _ hd ?_
          have hne : K h i ≠ K h c := fun z => q (Int32.toInt_inj.mp (by
            have z0 : (0 : Int32).toInt = 0 := by decide
            rw [hd, z0]; omega))
          unfold sRank
          omega
  · intro t hI
    obtain ⟨be, j⟩ := t
    obtain ⟨hj, h1⟩ := hI
    have hj : j = nI n := hj
    have h1 : be = _ := h1
    subst hj
    unfold f_X7_bestFor_B6
    rw [E.1]
    exact oLe n n (by omega) (by omega) (fun _ => oWi (oRet h1)) (fun q => by omega)
end MY
