/-! Halves said against a false saying -/
theorem half_len : ∀ b, b < 64 → 1 ≤ b → (lenOf (2 * b) = lenOf b + 1 ∧ fstOf (2 * b) = fstOf b ∧ lenOf (2 * b + 1) = lenOf b + 1 ∧ nI (fstOf b) + ((1 : Int32) <<< (((5 : Int32) - nI (lenOf b)) &&& 31)) = nI (fstOf (2 * b + 1))) := by decide +kernel
theorem len_6 : ∀ b, b < 128 → 1 ≤ b → (lenOf b = 6 ↔ 64 ≤ b) := by decide +kernel
theorem half_not : ∀ b, b < 64 → 1 ≤ b → ∀ j, j < 7 → (64 + fstOf b) / 2 ^ j ≠ 2 * b + 1 := by decide +kernel
def syH (Sy : Nat → Nat → Bool) (b o : Nat) : Nat → Nat → Bool := fun c z => Sy c z || (decide (c = b) && decide (z = o))
def eX (f : Nat → Nat) (m v : Nat) : Nat → Nat := fun k => if k = m then v else f k
section HV
variable {n : Nat} {K : Nat → Nat → Nat} {lk rf : Int32} {hol : Nat → Int32} {nr : Nat} {rb : Nat → Nat} {ns : Nat} {sb sh : Nat → Nat} {σ τ σ' τ' : ZS} {Sy Sy' : Nat → Nat → Bool} {b o k : Nat}
theorem GI.half (G : GI n K hol Sy) (ho : o < n) : GI n K hol (syH Sy b o) := ⟨G.1, G.2.1, G.2.2.1, G.2.2.2.1, G.2.2.2.2.1, fun c z q => by
  unfold syH at q
  rw [Bool.or_eq_true, Bool.and_eq_true, decide_eq_true_eq, decide_eq_true_eq] at q
  rcases q with q | q
  · exact G.2.2.2.2.2 c z q
  · rw [q.2]; exact ho⟩
theorem EC.half (E : EC n K lk hol Sy σ) (ho : o < 10) (b : Nat) : EC n K lk hol (syH Sy b o) (setA σ 11 b (σ.2.1 11 b ||| bm o)) := by
  refine ⟨E.1, E.2.1, fun i j hi hj => ?_, fun c c1 c2 => ?_, fun c c1 c2 z hz => ?_⟩
  · rw [setA_n (by omega)]; exact E.2.2.1 i j hi hj
  · rw [setA_n (by omega)]; exact E.2.2.2.1 c c1 c2
  · rw [setA_s]
    unfold syH
    by_cases e : c = b
    · subst e
      rw [pk_us, b_or, E.2.2.2.2 c c1 c2 z hz, b_bm o (by omega) z hz, decide_eq_true rfl, Bool.true_and]
    · rw [pk_un e, decide_eq_false e, Bool.false_and, Bool.or_false]
      exact E.2.2.2.2 c c1 c2 z hz
theorem suppose_ok (hb : 1 ≤ b ∧ b < 128) (v : Int32) (ρ : ZS) : f_X3_suppose (nI b) v ρ = some (setA ρ 11 b v) := by
  apply oEq
  unfold f_X3_suppose
  rw [nI_clamp (show b < 2 ^ 31 by omega)]
  exact oBindE (isBlock_ok hb.1 hb.2) (oF one_ne (oCkI hb.2 (by omega) (oRet rfl)))
theorem small_mask {v : Int32} {f : Nat → Bool} (hv : ∀ i, i < 32 → bt v i = f i) (hf : ∀ i, f i = true → i < 10) : ∃ m, m < 1024 ∧ v = nI m := by
  refine ⟨v.toBitVec.toNat, ?_, b_ext (fun i hi => by rw [bt_nI hi]; rfl)⟩
  have : v.toBitVec.toNat < 2 ^ 10 := Nat.lt_pow_two_of_testBit _ (fun i hi => by
    show bt v i = false
    rcases Nat.lt_or_ge i 32 with c | c
    · rw [hv i c]
      cases hc : f i with
      | false => rfl
      | true => have := hf i hc; omega
    · exact b_big c)
  exact this
theorem sMis_lt {a i : Nat} (q : sMis n K lk hol Sy rf a i = true) : i < n := by
  unfold sMis at q
  rw [Bool.and_eq_true, decide_eq_true_eq] at q
  exact q.1
theorem chalves_ok (h : RX n K lk rf hol nr rb ns sb sh σ τ) (hk : k < ns) (hf : flS hol sb sh k = true) (hB : 1 ≤ sb k) (hb : sb k < 64) (ho : own8 hol (sb k) = nI o) (hon : o < n) : Ok (f_X6_halves (nI k) σ) (fun r => (∃ m, m < 1024 ∧ r.1 = nI (pop m) ∧ ∀ i, i < 32 → bt (nI m) i = sMis n K lk hol (syH (syOf sb sh ns) (2 * sb k) o) rf (fstOf (sb k)) i) ∧ PD σ r.2) := by
  have G := h.1
  have hn := G.1
  obtain ⟨q1, q2, q3⟩ := block_ok h hk
  have f1 := (isFalse_ok h hk).1
  rw [hf] at f1
  have b2 : 1 ≤ 2 * sb k ∧ 2 * sb k < 128 := ⟨by omega, by omega⟩
  have bB : 1 ≤ sb k ∧ sb k < 128 := ⟨hB, by omega⟩
  unfold f_X6_halves
  refine oBindE q1 (oF one_ne (oBindE q2 (oBindE f1 (oF one_ne ?_))))
  refine oT (show nI (sb k) < nI 64 from nI_lt hb (by omega)) ?_
  rw [show (2 : Int32) * nI (sb k) = nI (2 * sb k) from pk_mul 2 (sb k)]
  refine oBindE (sayers_ok h.2.1 b2.1 b2.2) (oBindE (owner_ok h.2.1 bB.2) ?_)
  rw [ho]
  refine oBindE (bit_ok (by omega)) (oBindE (suppose_ok b2 _ σ) (oBindE (firstOf_ok (sb k) bB.2 bB.1) ?_))
  refine oBindE (v := rf) (by
    unfold f_X1_refusing
    rw [show (setA σ 11 (2 * sb k) (σ.2.1 11 (2 * sb k) ||| bm o)).1 3 = rf from h.2.2.2.1.1]) ?_
  refine oBind (astray_ok (h.2.1.half (by omega) (2 * sb k)) (G.half (b := 2 * sb k) hon) (fst_lt bB) rf) ?_
  rintro ⟨v, ρ⟩ ⟨hp, hv⟩
  have hp : PD (setA σ 11 (2 * sb k) (σ.2.1 11 (2 * sb k) ||| bm o)) ρ := hp
  obtain ⟨m, hm, rfl⟩ := small_mask hv (fun i q => by have := sMis_lt q; omega)
  refine oBindE (suppose_ok b2 _ ρ) (oBindE (bitCount_ok m hm) (oRet ⟨⟨m, hm, rfl, hv⟩, fun j hj => hp.1 j hj, fun j hj => ?_⟩))
  show (setA ρ 11 (2 * sb k) (σ.2.1 11 (2 * sb k))).2.1 j = σ.2.1 j
  by_cases e : j = 11
  · subst e
    rw [setA_s, hp.2 11 (by omega), setA_s]
    funext x
    by_cases e : x = 2 * sb k
    · rw [e, pk_us]
    · rw [pk_un e, pk_un e]
  · rw [setA_n e, hp.2 j hj, setA_n e]
theorem addSaying_ok (h2 : τ.1 2 = nI ns) (hns : ns < 18) (p q r : Int32) : f_X7_addSaying p q r τ = some (setI (setA (setA (setA τ 5 ns p) 6 ns q) 7 ns r) 2 (nI (ns + 1))) := by
  apply oEq
  unfold f_X7_addSaying
  show Ok (ck (inb (τ.1 2) 18) (ck (inb (τ.1 2) 18) (ck (inb (τ.1 2) 18) (some (setI (setA (setA (setA τ 5 (Int32.toNatClampNeg (τ.1 2)) p) 6 (Int32.toNatClampNeg (τ.1 2)) q) 7 (Int32.toNatClampNeg (τ.1 2)) r) 2 ((τ.1 2) + 1)))))) _
  rw [h2, nI_clamp (show ns < 2 ^ 31 by omega), nI_1]
  exact oCkI (by omega) (by omega) (oCkI (by omega) (by omega) (oCkI (by omega) (by omega) (oRet rfl)))
theorem eX_s {f : Nat → Nat} {m v : Nat} : eX f m v m = v := if_pos rfl
theorem eX_n {f : Nat → Nat} {m v k : Nat} (h : k ≠ m) : eX f m v k = f k := if_neg h
theorem sy_add (c z : Nat) : syOf (eX sb ns b) (eX sh ns o) (ns + 1) c z = (syOf sb sh ns c z || (decide (c = b) && decide (z = o))) := bool_eq (by
  rw [sy_iff, Bool.or_eq_true, sy_iff, Bool.and_eq_true, decide_eq_true_eq, decide_eq_true_eq]
  constructor
  · rintro ⟨k, k1, k2, k3⟩
    by_cases e : k = ns
    · rw [e, eX_s] at k2 k3; exact Or.inr ⟨k2.symm, k3.symm⟩
    · rw [eX_n e] at k2 k3; exact Or.inl ⟨k, by omega, k2, k3⟩
  · rintro (⟨k, k1, k2, k3⟩ | ⟨k2, k3⟩)
    · exact ⟨k, by omega, by rw [eX_n (by omega)]; exact k2, by rw [eX_n (by omega)]; exact k3⟩
    · exact ⟨ns, by omega, by rw [eX_s]; exact k2.symm, by rw [eX_s]; exact k3.symm⟩)
theorem EM.add (M : EM n K lk hol nr rb ns sb sh τ) (hns : ns < 18) (hb : 1 ≤ b ∧ b < 128) (ho : o < 10) : EM n K lk hol nr rb (ns + 1) (eX sb ns b) (eX sh ns o) (setI (setA (setA (setA τ 5 ns (nI (lenOf b))) 6 ns (nI (fstOf b))) 7 ns (nI o)) 2 (nI (ns + 1))) := by
  refine ⟨(setI_n (by omega)).trans M.1, (setI_n (by omega)).trans M.2.1, fun i j hi hj => ?_, ⟨(setI_n (by omega)).trans M.2.2.2.1.1, M.2.2.2.1.2.1, fun k hk => ?_, M.2.2.2.1.2.2.2⟩, setI_s, by omega, fun k hk => ?_⟩
  · show (setA (setA (setA τ 5 _ _) 6 _ _) 7 _ _).2.1 1 _ = _
    rw [setA_n (by omega), setA_n (by omega), setA_n (by omega)]; exact M.2.2.1 i j hi hj
  · show (_ ∧ _) ∧ _ ∧ (setA (setA (setA τ 5 _ _) 6 _ _) 7 _ _).2.1 2 k = _ ∧ (setA (setA (setA τ 5 _ _) 6 _ _) 7 _ _).2.1 3 k = _ ∧ (setA (setA (setA τ 5 _ _) 6 _ _) 7 _ _).2.1 4 k = _
    rw [setA_n (by omega), setA_n (by omega), setA_n (by omega), setA_n (by omega), setA_n (by omega), setA_n (by omega), setA_n (by omega), setA_n (by omega), setA_n (by omega)]
    exact M.2.2.2.1.2.2.1 k hk
  · show (_ ∧ _) ∧ _ ∧ (setA (setA (setA τ 5 _ _) 6 _ _) 7 _ _).2.1 5 k = _ ∧ (setA (setA (setA τ 5 _ _) 6 _ _) 7 _ _).2.1 6 k = _ ∧ (setA (setA (setA τ 5 _ _) 6 _ _) 7 _ _).2.1 7 k = _
    have e5 : (setA (setA (setA τ 5 ns (nI (lenOf b))) 6 ns (nI (fstOf b))) 7 ns (nI o)).2.1 5 = upd (τ.2.1 5) ns (nI (lenOf b)) := by
      rw [setA_n (by omega), setA_n (by omega), setA_s]
    have e6 : (setA (setA (setA τ 5 ns (nI (lenOf b))) 6 ns (nI (fstOf b))) 7 ns (nI o)).2.1 6 = upd (τ.2.1 6) ns (nI (fstOf b)) := by
      rw [setA_n (by omega), setA_s, setA_n (by omega)]
    have e7 : (setA (setA (setA τ 5 ns (nI (lenOf b))) 6 ns (nI (fstOf b))) 7 ns (nI o)).2.1 7 = upd (τ.2.1 7) ns (nI o) := by
      rw [setA_s, setA_n (by omega), setA_n (by omega)]
    rw [e5, e6, e7]
    by_cases e : k = ns
    · subst e
      rw [eX_s, eX_s, pk_us, pk_us, pk_us]
      exact ⟨hb, ho, rfl, rfl, rfl⟩
    · rw [eX_n e, eX_n e, pk_un e, pk_un e, pk_un e]
      exact M.2.2.2.2.2.2 k (by omega)
theorem EM.drop {m : Nat} {sb' sh' : Nat → Nat} (M : EM n K lk hol nr rb m sb' sh' τ) (hm : ns ≤ m) (e1 : ∀ k, k < ns → sb' k = sb k) (e2 : ∀ k, k < ns → sh' k = sh k) : EM n K lk hol nr rb ns sb sh (setI τ 2 (nI ns)) := by
  have h18 := M.2.2.2.2.2.1
  refine ⟨(setI_n (by omega)).trans M.1, (setI_n (by omega)).trans M.2.1, M.2.2.1, ⟨(setI_n (by omega)).trans M.2.2.2.1.1, M.2.2.2.1.2⟩, setI_s, by omega, fun k hk => ?_⟩
  have := M.2.2.2.2.2.2 k (by omega)
  rw [e1 k hk, e2 k hk] at this
  exact this
theorem sEnd_sy {Rf : Int32} (e : Sy b = Sy' b) : sEnd n K lk hol Sy Rf b = sEnd n K lk hol Sy' Rf b := by
  show sRun n K lk (Sy b) Rf (owO hol b) 50 (sInit (Sy b)) = sRun n K lk (Sy' b) Rf (owO hol b) 50 (sInit (Sy' b))
  rw [e]
theorem mhalves_ok (h : RX n K lk rf hol nr rb ns sb sh σ τ) (hk : k < ns) (q1 : f_X7_in (nI k) 0 ((τ.1 2) - 1) = some 1) (hf : flS hol sb sh k = true) (hB : 1 ≤ sb k) (hb : sb k < 64) (ho : own8 hol (sb k) = nI o) (hon : o < n) : Ok (f_X7_halves (nI k) τ) (fun r => (∃ m, m < 1024 ∧ r.1 = nI (pop m) ∧ ∀ i, i < 32 → bt (nI m) i = sMis n K lk hol (syH (syOf sb sh ns) (2 * sb k) o) rf (fstOf (sb k)) i) ∧ EM n K lk hol nr rb ns sb sh r.2 ∧ r.2.1 4 = rf) := by
  have G := h.1
  have hn := G.1
  have M := h.2.2.1
  have h16 := h.2.2.2.2.2.2.2.1
  have f1 := (isFalse_ok h hk).2
  rw [hf] at f1
  have bB : 1 ≤ sb k ∧ sb k < 128 := ⟨hB, by omega⟩
  have b2 : 1 ≤ 2 * sb k ∧ 2 * sb k < 128 := ⟨by omega, by omega⟩
  have b3 : 1 ≤ 2 * sb k + 1 ∧ 2 * sb k + 1 < 128 := ⟨by omega, by omega⟩
  obtain ⟨l1, l2, l3, l4⟩ := half_len (sb k) hb hB
  obtain ⟨-, -, e5, e6, -⟩ := M.2.2.2.2.2.2 k hk
  have hl := len_lt bB
  unfold f_X7_halves
  refine oBindE q1 (oF one_ne (oLd (by omega) (by omega) (oLd (by omega) (by omega) (oBindE f1 (oF one_ne ?_)))))
  rw [e5, e6]
  refine oF (fun z => ?_) (oBindE (rightful_ok M.2.2.2.1 bB) ?_)
  · have := (len_6 (sb k) bB.2 hB).mp ((nI_eq (a := lenOf (sb k)) (b := 6) (by omega) (by omega)).mp z)
    omega
  rw [ho, l4, nI_1]
  have M1 := EM.add M (by omega) b2 (o := o) (by omega)
  have M2 := EM.add M1 (by omega) b3 (o := o) (by omega)
  rw [l1, l2] at M1 M2
  rw [l3] at M2
  refine oBindE (addSaying_ok M.2.2.2.2.1 (by omega) _ _ _) (oBindE (addSaying_ok M1.2.2.2.2.1 (by omega) _ _ _) ?_)
  have hS : ∀ c z, syOf (eX (eX sb ns (2 * sb k)) (ns + 1) (2 * sb k + 1)) (eX (eX sh ns o) (ns + 1) o) (ns + 1 + 1) c z = ((syOf sb sh ns c z || (decide (c = 2 * sb k) && decide (z = o))) || (decide (c = 2 * sb k + 1) && decide (z = o))) := fun c z => by
    rw [sy_add, sy_add]
  have G2 : GI n K hol (syOf (eX (eX sb ns (2 * sb k)) (ns + 1) (2 * sb k + 1)) (eX (eX sh ns o) (ns + 1) o) (ns + 1 + 1)) := by
    have e : syOf (eX (eX sb ns (2 * sb k)) (ns + 1) (2 * sb k + 1)) (eX (eX sh ns o) (ns + 1) o) (ns + 1 + 1) = syH (syH (syOf sb sh ns) (2 * sb k) o) (2 * sb k + 1) o := by
      funext c z
      exact hS c z
    rw [e]
    exact (G.half hon).half hon
  refine oBind (misledBy_ok M2 G2 (fst_lt bB) _) ?_
  rintro ⟨v, ρ⟩ ⟨hp, hv⟩
  have er : (setI (setA (setA (setA (setI (setA (setA (setA τ 5 ns (nI (lenOf (sb k) + 1))) 6 ns (nI (fstOf (sb k)))) 7 ns (nI o)) 2 (nI (ns + 1))) 5 (ns + 1) (nI (lenOf (sb k) + 1))) 6 (ns + 1) (nI (fstOf (2 * sb k + 1)))) 7 (ns + 1) (nI o)) 2 (nI (ns + 1 + 1))).1 4 = rf := by
    rw [setI_n (by omega)]
    show (setI (setA (setA (setA τ 5 ns (nI (lenOf (sb k) + 1))) 6 ns (nI (fstOf (sb k)))) 7 ns (nI o)) 2 (nI (ns + 1))).1 4 = rf
    rw [setI_n (by omega)]
    exact h.2.2.2.1.2
  rw [er] at hv
  have hv : ∀ i, i < 32 → bt v i = sMis n K lk hol (syH (syOf sb sh ns) (2 * sb k) o) rf (fstOf (sb k)) i := fun i hi => by
    rw [hv i hi]
    refine sMis_congr (fun j hj => sEnd_sy ?_) i
    funext z
    rw [hS, decide_eq_false (half_not (sb k) hb hB j hj), Bool.false_and, Bool.or_false]
    rfl
  have hp : PN _ ρ := hp
  obtain ⟨m, hm, rfl⟩ := small_mask hv (fun i q => by have := sMis_lt q; omega)
  have M3 := M2.pn hp
  have e2 : ρ.1 2 - 2 = nI ns := by
    rw [M3.2.2.2.2.1, show nI (ns + 1 + 1) - 2 = nI (ns + 1 + 1) - 1 - 1 from by rw [Int32.sub_sub]; rfl, nI_pred, nI_pred]
  refine oBindE (ones_ok m hm) (oRet ⟨⟨m, hm, rfl, hv⟩, ?_, ?_⟩)
  · show EM n K lk hol nr rb ns sb sh (setI ρ 2 (ρ.1 2 - 2))
    rw [e2]
    exact M3.drop (by omega) (fun j hj => by rw [eX_n (by omega), eX_n (by omega)]) (fun j hj => by rw [eX_n (by omega), eX_n (by omega)])
  · show (setI ρ 2 (ρ.1 2 - 2)).1 4 = rf
    rw [setI_n (by omega)]
    exact (hp.1 4 (by omega)).trans er
theorem halves_same (h : RX n K lk rf hol nr rb ns sb sh σ τ) (x : Int32) : Same (f_X6_halves x σ) (f_X7_halves x τ) := by
  have G := h.1
  have hn := G.1
  have M := h.2.2.1
  have h16 := h.2.2.2.2.2.2.2.1
  rcases say_cases h x with ⟨q1, q2⟩ | ⟨k, hk, rfl, q1, q2⟩
  · refine h.bad (v := -2) (oEq ?_) (oEq ?_)
    · unfold f_X6_halves; exact oBindE q1 (oT rfl (oRet rfl))
    · unfold f_X7_halves; exact oBindE q2 (oT rfl (oRet rfl))
  obtain ⟨-, q3, -⟩ := block_ok h hk
  obtain ⟨f1, f2⟩ := isFalse_ok h hk
  obtain ⟨bB, -, e5, e6, -⟩ := M.2.2.2.2.2.2 k hk
  have hl := len_lt bB
  cases hf : flS hol sb sh k with
  | false =>
    rw [hf] at f1 f2
    refine h.bad (v := -5) (oEq ?_) (oEq ?_)
    · unfold f_X6_halves
      exact oBindE q1 (oF one_ne (oBindE q3 (oBindE f1 (oT rfl (oRet rfl)))))
    · unfold f_X7_halves
      exact oBindE q2 (oF one_ne (oLd (by omega) (by omega) (oLd (by omega) (by omega) (oBindE f2 (oT rfl (oRet rfl))))))
  | true =>
    rcases Nat.lt_or_ge (sb k) 64 with hb | hb
    · have ho : own8 hol (sb k) ≠ -1 := fun z => by
        unfold flS at hf
        rw [z] at hf
        simp at hf
      rcases own8_lt G (sb k) with z | ⟨o, hon, ho⟩
      · exact absurd z ho
      obtain ⟨⟨v1, s1⟩, g1, ⟨m1, hm1, w1, x1⟩, p1⟩ := chalves_ok h hk hf bB.1 hb ho hon
      obtain ⟨⟨v2, s2⟩, g2, ⟨m2, hm2, w2, x2⟩, p2, p3⟩ := mhalves_ok h hk q2 hf bB.1 hb ho hon
      have em : nI m1 = nI m2 := b_ext (fun i hi => (x1 i hi).trans (x2 i hi).symm)
      have em : m1 = m2 := (nI_eq (by omega) (by omega)).mp em
      have w1 : v1 = nI (pop m1) := w1
      have w2 : v2 = nI (pop m2) := w2
      have p1 : PD σ s1 := p1
      have p2 : EM n K lk hol nr rb ns sb sh s2 := p2
      have p3 : s2.1 4 = rf := p3
      have hR := h.keep p1 (PN.rf (τ := τ))
      rw [← em, ← w1] at w2
      rw [w2] at g2
      exact ⟨v1, s1, s2, g1, g2, n, K, lk, rf, hol, nr, rb, ns, sb, sh, G, hR.2.1, p2, ⟨hR.2.2.2.1.1, p3⟩, hR.2.2.2.2⟩
    · rw [hf] at f1 f2
      refine h.bad (v := -5) (oEq ?_) (oEq ?_)
      · unfold f_X6_halves
        exact oBindE q1 (oF one_ne (oBindE q3 (oBindE f1 (oF one_ne (oF (show ¬ nI (sb k) < nI 64 from nI_nlt (a := sb k) (b := 64) (by omega) (by omega)) (oRet rfl))))))
      · unfold f_X7_halves
        refine oBindE q2 (oF one_ne (oLd (by omega) (by omega) (oLd (by omega) (by omega) (oBindE f2 (oF one_ne (oT ?_ (oRet rfl)))))))
        rw [e5, (len_6 (sb k) bB.2 bB.1).mpr hb]; rfl
end HV
