/-! The class: its houses and ways, held against the spec. -/
def GI (n : Nat) (K : Nat → Nat → Nat) (hol : Nat → Int32) (Sy : Nat → Nat → Bool) : Prop := n ≤ 10 ∧ (∀ i j, K i j < 4) ∧ (∀ i j, n ≤ i ∨ n ≤ j → K i j = 0) ∧ (∀ i j, (K i j = 3 ↔ K j i = 1) ∧ (K i j = 2 ↔ K j i = 2) ∧ K i i = 0) ∧ (∀ b, hol b = -1 ∨ ∃ h, h < n ∧ hol b = nI h) ∧ ∀ b h, Sy b h = true → h < n
def EC (n : Nat) (K : Nat → Nat → Nat) (lk : Int32) (hol : Nat → Int32) (Sy : Nat → Nat → Bool) (σ : ZS) : Prop := σ.1 0 = nI n ∧ σ.1 2 = lk ∧ (∀ i j, i < 10 → j < 10 → σ.2.1 (23 + i) j = nI (K i j)) ∧ (∀ b, 1 ≤ b → b < 128 → σ.2.1 8 b = hol b) ∧ ∀ b, 1 ≤ b → b < 128 → ∀ h, h < 32 → bt (σ.2.1 11 b) h = Sy b h
/-- what the rounds of one block leave as it is -/
def PC (σ σ' : ZS) : Prop := (∀ k, k < 6 → σ'.1 k = σ.1 k) ∧ ∀ k, k < 15 ∨ 23 ≤ k → σ'.2.1 k = σ.2.1 k
theorem PC.rf {σ : ZS} : PC σ σ := ⟨fun _ _ => rfl, fun _ _ => rfl⟩
theorem PC.tr {a b c : ZS} (h1 : PC a b) (h2 : PC b c) : PC a c := ⟨fun k hk => (h2.1 k hk).trans (h1.1 k hk), fun k hk => (h2.2 k hk).trans (h1.2 k hk)⟩
theorem PC.A {σ : ZS} {k i : Nat} {v : Int32} (h : 15 ≤ k ∧ k < 23) : PC σ (setA σ k i v) := ⟨fun _ _ => rfl, fun j hj => by
  show (if j = k then _ else σ.2.1 j) = _
  rw [if_neg (by omega)]⟩
theorem PC.R {σ : ZS} {k : Nat} {f : Nat → Int32} (h : 15 ≤ k ∧ k < 23) : PC σ (setR σ k f) := ⟨fun _ _ => rfl, fun j hj => by
  show (if j = k then _ else σ.2.1 j) = _
  rw [if_neg (by omega)]⟩
theorem PC.L {σ : ZS} {k i : Nat} {v : Int64} : PC σ (setL σ k i v) := ⟨fun _ _ => rfl, fun _ _ => rfl⟩
theorem PC.J {σ : ZS} {k : Nat} {f : Nat → Int64} : PC σ (setJ σ k f) := ⟨fun _ _ => rfl, fun _ _ => rfl⟩
theorem PC.I {σ : ZS} {v : Int32} : PC σ (setI σ 6 v) := ⟨fun k hk => by
  show upd σ.1 6 v k = _
  exact pk_un (by omega), fun _ _ => rfl⟩
/-- what every look leaves as it is -/
def PD (σ σ' : ZS) : Prop := (∀ k, k < 6 → σ'.1 k = σ.1 k) ∧ ∀ k, (8 ≤ k ∧ k ≤ 11) ∨ 23 ≤ k → σ'.2.1 k = σ.2.1 k
theorem PD.rf {σ : ZS} : PD σ σ := ⟨fun _ _ => rfl, fun _ _ => rfl⟩
theorem PD.tr {a b c : ZS} (h1 : PD a b) (h2 : PD b c) : PD a c := ⟨fun k hk => (h2.1 k hk).trans (h1.1 k hk), fun k hk => (h2.2 k hk).trans (h1.2 k hk)⟩
theorem PD.A {σ : ZS} {k i : Nat} {v : Int32} (h : k < 8 ∨ (12 ≤ k ∧ k < 23)) : PD σ (setA σ k i v) := ⟨fun _ _ => rfl, fun j hj => by
  show (if j = k then _ else σ.2.1 j) = _
  rw [if_neg (by omega)]⟩
theorem PD.of {σ σ' : ZS} (h : PC σ σ') : PD σ σ' := ⟨h.1, fun k hk => h.2 k (by omega)⟩
theorem EC.pd {n : Nat} {K : Nat → Nat → Nat} {lk : Int32} {hol : Nat → Int32} {Sy : Nat → Nat → Bool} {σ σ' : ZS} (h : EC n K lk hol Sy σ) (p : PD σ σ') : EC n K lk hol Sy σ' := ⟨(p.1 0 (by omega)).trans h.1, (p.1 2 (by omega)).trans h.2.1, fun i j hi hj => by rw [p.2 _ (by omega)]; exact h.2.2.1 i j hi hj, fun b h1 h2 => by rw [p.2 8 (by omega)]; exact h.2.2.2.1 b h1 h2, fun b h1 h2 => by rw [p.2 11 (by omega)]; exact h.2.2.2.2 b h1 h2⟩
theorem EC.pc {n : Nat} {K : Nat → Nat → Nat} {lk : Int32} {hol : Nat → Int32} {Sy : Nat → Nat → Bool} {σ σ' : ZS} (h : EC n K lk hol Sy σ) (p : PC σ σ') : EC n K lk hol Sy σ' := h.pd (PD.of p)
/-- none is -1 -/
def oI (o : Option Nat) : Int32 := match o with
  | none => -1
  | some v => nI v
theorem oI_m1 {o : Option Nat} (h : ∀ v, o = some v → v < 2 ^ 31) : oI o = -1 ↔ o = none := by
  cases o with
  | none => exact ⟨fun _ => rfl, fun _ => rfl⟩
  | some v => exact ⟨fun q => absurd q (nI_m1 (h v rfl)), fun q => by cases q⟩
theorem oI_eq {a b : Option Nat} (ha : ∀ v, a = some v → v < 2 ^ 31) (hb : ∀ v, b = some v → v < 2 ^ 31) : oI a = oI b ↔ a = b := by
  constructor
  · intro q
    cases a with
    | none => exact ((oI_m1 hb).mp q.symm).symm
    | some v =>
      cases b with
      | none => exact (oI_m1 ha).mp q
      | some w => rw [(nI_eq (ha v rfl) (hb w rfl)).mp q]
  · intro q; rw [q]
/-- what one is to another, if there is one -/
def kO (K : Nat → Nat → Nat) (i : Nat) (o : Option Nat) : Nat := match o with
  | none => 0
  | some v => K i v
section CW
variable {n : Nat} {K : Nat → Nat → Nat} {lk : Int32} {hol : Nat → Int32} {Sy : Nat → Nat → Bool} {σ : ZS}
theorem number_ok (E : EC n K lk hol Sy σ) : f_X1_number σ = some (nI n) := by
  unfold f_X1_number; rw [E.1]
theorem has_ok (E : EC n K lk hol Sy σ) (G : GI n K hol Sy) (x : Int32) : f_X1_has x σ = some 0 ∧ (∀ h, h < n → x ≠ nI h) ∨ ∃ h, h < n ∧ x = nI h ∧ f_X1_has x σ = some 1 := by
  have hn := G.1
  unfold f_X1_has
  rw [E.1]
  by_cases h0 : x < 0
  · rw [if_pos h0]
    exact Or.inl ⟨rfl, fun h hh q => nI_pos (n := h) (by omega) (q ▸ h0)⟩
  · rw [if_neg h0]
    obtain ⟨j, hj, rfl⟩ := nI_of h0
    by_cases h1 : nI n ≤ nI j
    · rw [if_pos h1]
      have := (nI_leI (by omega) hj).mp h1
      exact Or.inl ⟨rfl, fun h hh q => by have := (nI_eq hj (by omega)).mp q; omega⟩
    · rw [if_neg h1]
      exact Or.inr ⟨j, Nat.not_le.mp (fun q => h1 ((nI_leI (by omega) hj).mpr q)), rfl, rfl⟩
theorem has_1 (E : EC n K lk hol Sy σ) (G : GI n K hol Sy) {h : Nat} (hh : h < n) : f_X1_has (nI h) σ = some 1 := by
  rcases has_ok E G (nI h) with ⟨-, q⟩ | ⟨_, -, -, q⟩
  · exact absurd rfl (q h hh)
  · exact q
theorem kind_ok (E : EC n K lk hol Sy σ) (G : GI n K hol Sy) {i j : Nat} (hi : i < 2 ^ 31) (hj : j < 2 ^ 31) : f_X1_kind (nI i) (nI j) σ = some (nI (K i j)) := by
  have hn := G.1
  have z : f_X1_kind_J28 (nI i) (nI j) σ = some (nI 0) := by
    unfold f_X1_kind_J28 f_X1_kind_J29
    rfl
  unfold f_X1_kind
  rw [E.1, if_neg (nI_pos hi)]
  by_cases h1 : nI n ≤ nI i
  · rw [if_pos h1, z, G.2.2.1 i j (Or.inl ((nI_leI (by omega) hi).mp h1))]
  · have h1' : i < n := Nat.not_le.mp (fun q => h1 ((nI_leI (by omega) hi).mpr q))
    rw [if_neg h1, if_neg (nI_pos hj)]
    by_cases h2 : nI n ≤ nI j
    · rw [if_pos h2, z, G.2.2.1 i j (Or.inr ((nI_leI (by omega) hj).mp h2))]
    · have h2' : j < n := Nat.not_le.mp (fun q => h2 ((nI_leI (by omega) hj).mpr q))
      rw [if_neg h2]
      unfold f_X1_kind_J29
      apply oEq
      refine oF (by decide) (oCkI (by omega) (by omega) (oLd (by omega) (by omega) (oRet ?_)))
      rw [nI_clamp hi]
      exact E.2.2.1 i j (by omega) (by omega)
theorem kind_m1 (E : EC n K lk hol Sy σ) (G : GI n K hol Sy) {i : Nat} (hi : i < 2 ^ 31) : f_X1_kind (nI i) (-1) σ = some 0 := by
  have hn := G.1
  have z : f_X1_kind_J28 (nI i) (-1) σ = some 0 := by
    unfold f_X1_kind_J28 f_X1_kind_J29
    rfl
  unfold f_X1_kind
  rw [E.1, if_neg (nI_pos hi), z, if_pos (show (-1 : Int32) < 0 by decide)]
  by_cases h1 : nI n ≤ nI i
  · rw [if_pos h1]
  · rw [if_neg h1]
theorem kind_oI (E : EC n K lk hol Sy σ) (G : GI n K hol Sy) {i : Nat} {o : Option Nat} (hi : i < 2 ^ 31) (ho : ∀ v, o = some v → v < 2 ^ 31) : f_X1_kind (nI i) (oI o) σ = some (nI (kO K i o)) := by
  cases o with
  | none => exact kind_m1 E G hi
  | some v => exact kind_ok E G hi (ho v rfl)
end CW
/-- the last house of a way -/
def lst (l : List Nat) : Int32 := oI l.getLast?
/-- the table of ways at the places B .. B + 3 -/
def eW (σ : ZS) (B : Nat) (W : Nat → List Nat) : Prop := ∀ h, h < 10 → σ.2.2 B h = lN (enc (W h)) ∧ σ.2.1 (B + 1) h = nI (W h).length ∧ σ.2.1 (B + 2) h = lst (W h) ∧ ∀ i, i < 32 → bt (σ.2.1 (B + 3) h) i = decide (i ∈ W h)
theorem WI.lt {n : Nat} {W : Nat → List Nat} (hW : WI n W) {h i v : Nat} (q : (W h)[i]? = some v) : v < n := (hW.2 h).2 v (List.mem_of_getElem? q)
theorem WI.enc {n : Nat} {W : Nat → List Nat} (hW : WI n W) (hn : n ≤ 10) (h : Nat) : enc (W h) < 2 ^ 40 := Nat.lt_of_lt_of_le (enc_lt (fun x hx => by have := (hW.2 h).2 x hx; omega)) (pow16 (by have := hW.len h; omega))
section CX
variable {n : Nat} {W : Nat → List Nat} {σ : ZS}
theorem length_n_ok (hW : WI n W) (hn : n ≤ 10) (h : eW σ 15 W) {t : Nat} (ht : t < 10) : f_X5_length_n (nI t) σ = some (nI (W t).length) := by
  unfold f_X5_length_n
  rw [if_neg (nI_pos (by omega)), if_neg (show ¬ (10 : Int32) ≤ nI t from nI_ge (b := 10) ht (by omega))]
  exact oEq (oLd ht (by omega) (oRet (h t ht).2.1))
theorem last_n_ok (hW : WI n W) (hn : n ≤ 10) (h : eW σ 15 W) {t : Nat} (ht : t < 10) : f_X5_last_n (nI t) σ = some (lst (W t)) := by
  unfold f_X5_last_n
  rw [if_neg (nI_pos (by omega)), if_neg (show ¬ (10 : Int32) ≤ nI t from nI_ge (b := 10) ht (by omega))]
  exact oEq (oLd ht (by omega) (oRet (h t ht).2.2.1))
theorem at_n_ok (hW : WI n W) (hn : n ≤ 10) (h : eW σ 15 W) {t i : Nat} (ht : t < 10) (hi : i < 2 ^ 31) : f_X5_at_n (nI t) (nI i) σ = some (oI (W t)[i]?) := by
  have hlen := hW.len t
  unfold f_X5_at_n
  rw [if_neg (nI_pos (by omega)), if_neg (show ¬ (10 : Int32) ≤ nI t from nI_ge (b := 10) ht (by omega)), if_neg (nI_pos hi)]
  apply oEq
  refine oLd ht (by omega) ?_
  rw [show σ.2.1 16 t = nI (W t).length from (h t ht).2.1]
  refine oLt i (W t).length hi (by omega) (fun q => ?_) (fun q => ?_)
  · refine oLd ht (by omega) (oRet ?_)
    rw [show σ.2.2 15 t = lN (enc (W t)) from (h t ht).1, at_num (hW.enc hn t) (by omega)]
    obtain ⟨v, hv⟩ : ∃ v, (W t)[i]? = some v := ⟨_, List.getElem?_eq_getElem q⟩
    rw [hv, enc_at (fun x hx => by have := (hW.2 t).2 x hx; omega) hv]
    rfl
  · refine oRet ?_
    rw [List.getElem?_eq_none q]; rfl
theorem length_b_ok (hW : WI n W) (hn : n ≤ 10) (h : eW σ 19 W) {t : Nat} (ht : t < 10) : f_X5_length_b (nI t) σ = some (nI (W t).length) := by
  unfold f_X5_length_b
  rw [if_neg (nI_pos (by omega)), if_neg (show ¬ (10 : Int32) ≤ nI t from nI_ge (b := 10) ht (by omega))]
  exact oEq (oLd ht (by omega) (oRet (h t ht).2.1))
theorem last_b_ok (hW : WI n W) (hn : n ≤ 10) (h : eW σ 19 W) {t : Nat} (ht : t < 10) : f_X5_last_b (nI t) σ = some (lst (W t)) := by
  unfold f_X5_last_b
  rw [if_neg (nI_pos (by omega)), if_neg (show ¬ (10 : Int32) ≤ nI t from nI_ge (b := 10) ht (by omega))]
  exact oEq (oLd ht (by omega) (oRet (h t ht).2.2.1))
theorem at_b_ok (hW : WI n W) (hn : n ≤ 10) (h : eW σ 19 W) {t i : Nat} (ht : t < 10) (hi : i < 2 ^ 31) : f_X5_at_b (nI t) (nI i) σ = some (oI (W t)[i]?) := by
  have hlen := hW.len t
  unfold f_X5_at_b
  rw [if_neg (nI_pos (by omega)), if_neg (show ¬ (10 : Int32) ≤ nI t from nI_ge (b := 10) ht (by omega)), if_neg (nI_pos hi)]
  apply oEq
  refine oLd ht (by omega) ?_
  rw [show σ.2.1 20 t = nI (W t).length from (h t ht).2.1]
  refine oLt i (W t).length hi (by omega) (fun q => ?_) (fun q => ?_)
  · refine oLd ht (by omega) (oRet ?_)
    rw [show σ.2.2 19 t = lN (enc (W t)) from (h t ht).1, at_num (hW.enc hn t) (by omega)]
    obtain ⟨v, hv⟩ : ∃ v, (W t)[i]? = some v := ⟨_, List.getElem?_eq_getElem q⟩
    rw [hv, enc_at (fun x hx => by have := (hW.2 t).2 x hx; omega) hv]
    rfl
  · refine oRet ?_
    rw [List.getElem?_eq_none q]; rfl
theorem isOn_b_ok (hW : WI n W) (hn : n ≤ 10) (h : eW σ 19 W) {t i : Nat} (ht : t < 10) (hi : i < 10) : f_X5_isOn_b (nI t) (nI i) σ = some (bI (decide (i ∈ W t))) := by
  unfold f_X5_isOn_b
  rw [if_neg (nI_pos (by omega)), if_neg (show ¬ (10 : Int32) ≤ nI t from nI_ge (b := 10) ht (by omega))]
  apply oEq
  refine oLd ht (by omega) ?_
  have e := (h t ht).2.2.2 i (by omega)
  refine oIte (fun q => oRet ?_) (fun q => oRet ?_)
  · rw [← e, (b_tst _ (by omega)).mp q]; rfl
  · have : bt (σ.2.1 22 t) i = false := by
      rcases hb : bt (σ.2.1 22 t) i with _ | _
      · rfl
      · exact absurd ((b_tst _ (by omega)).mpr hb) q
    rw [← e]
    show (0 : Int32) = bI (bt (σ.2.1 22 t) i)
    rw [this]; rfl
end CX
