theorem setI_n {σ : ZS} {k j : Nat} {v : Int32} (h : j ≠ k) : (setI σ k v).1 j = σ.1 j := by
  show upd σ.1 k v j = _
  exact pk_un h
theorem b_get (x : Int32) {h : Nat} (hh : h < 31) : ((x >>> (nI h &&& 31)) &&& 1) = bI (bt x h) := by
  refine b_ext (fun i hi => ?_)
  rw [b_and, b_1 i hi, b_sshr h (by omega) x hi]
  by_cases h0 : i = 0
  · subst h0
    simp only [Nat.add_zero, decide_true, Bool.and_true]
    rw [if_pos (by omega)]
    cases bt x h <;> decide
  · rw [decide_eq_false h0, Bool.and_false]
    cases bt x h with
    | false => exact (b_0 i).symm
    | true =>
      show false = bt 1 i
      rw [b_1 i hi, decide_eq_false h0]
section RM
variable {n : Nat} {K : Nat → Nat → Nat} {lk rf : Int32} {hol : Nat → Int32} {nr : Nat} {rb : Nat → Nat} {ns : Nat} {sb sh : Nat → Nat} {σ τ : ZS}
theorem RX.bad (h : RX n K lk rf hol nr rb ns sb sh σ τ) {o1 o2 : Option (Int32 × ZS)} {v : Int32} (h1 : o1 = some (v, σ)) (h2 : o2 = some (v, τ)) : Same o1 o2 := ⟨v, σ, τ, h1, h2, n, K, lk, rf, hol, nr, rb, ns, sb, sh, h⟩
theorem house_same (h : RX n K lk rf hol nr rb ns sb sh σ τ) : Same (f_X6_house σ) (f_X7_house τ) := by
  have hG := h.1
  have hn := hG.1
  by_cases c : n = 10
  · refine h.bad (v := -6) (oEq ?_) (oEq ?_)
    · unfold f_X6_house f_X1_build
      rw [h.2.1.1]
      exact oBind (P := fun r => r = (-6, σ)) (oF (by rw [c]; decide) (oRet rfl)) (fun r hr => by rw [hr]; exact oRet rfl)
    · unfold f_X7_house
      rw [h.2.2.1.1]
      exact oT (by rw [c]; rfl) (oRet rfl)
  · obtain ⟨G, E, M, ⟨h1, h2⟩, h3, h4, h5, h6, h7, h8⟩ := h
    have eM : Ok (f_X7_house τ) (fun r => r.1 = nI n ∧ r.2.1 0 = nI (n + 1) ∧ (∀ k, k ≠ 0 → r.2.1 k = τ.1 k) ∧ (∀ k, k ≠ 1 → r.2.2.1 k = τ.2.1 k) ∧ ∀ i j, i < 10 → j < 10 → r.2.2.1 1 (10 * i + j) = nI (K i j)) := by
      unfold f_X7_house
      rw [M.1]
      refine oF (fun z => c ((nI_eq (a := n) (b := 10) (by omega) (by omega)).mp z)) ?_
      refine oLoop (fun x t => t.1 = nI x ∧ t.2.1 = τ.1 ∧ (∀ k, k ≠ 1 → t.2.2.1 k = τ.2.1 k) ∧ ∀ i j, i < 10 → j < 10 → t.2.2.1 1 (10 * i + j) = nI (K i j)) 10 (by omega) ⟨rfl, rfl, fun _ _ => rfl, M.2.2.1⟩ ?_ ?_
      · intro x t hx hI
        obtain ⟨j, υ⟩ := t
        obtain ⟨hj, q1, q2, q3⟩ := hI
        have hj : j = nI x := hj
        have q1 : υ.1 = τ.1 := q1
        have q2 : ∀ k, k ≠ 1 → υ.2.1 k = τ.2.1 k := q2
        have q3 : ∀ i j, i < 10 → j < 10 → υ.2.1 1 (10 * i + j) = nI (K i j) := q3
        subst hj
        have e0 : υ.1 0 = nI n := by rw [q1]; exact M.1
        unfold f_X7_house_B14
        refine oLe 10 x (by omega) (by omega) (fun z => by omega) (fun _ => ?_)
        show Ok (ck (inb (((10 : Int32) * (υ.1 0)) + nI x) 100) (ck (inb (((10 : Int32) * nI x) + (υ.1 0)) 100) (some (Sum.inl (nI x + 1, setA (setA υ 1 (Int32.toNatClampNeg (((10 : Int32) * (υ.1 0)) + nI x)) 0) 1 (Int32.toNatClampNeg (((10 : Int32) * nI x) + (υ.1 0))) 0))))) _
        rw [e0, ix10, ix10, nI_clamp (show 10 * n + x < 2 ^ 31 by omega), nI_clamp (show 10 * x + n < 2 ^ 31 by omega)]
        refine oCkI (by omega) (by omega) (oCkI (by omega) (by omega) (oRet ⟨nI_1 x, q1, fun k hk => ?_, fun i j hi hj => ?_⟩))
        · show (setA (setA υ 1 _ _) 1 _ _).2.1 k = _
          rw [setA_n hk, setA_n hk]; exact q2 k hk
        · show (setA (setA υ 1 _ _) 1 _ _).2.1 1 _ = _
          rw [setA_s]
          by_cases z : 10 * i + j = 10 * x + n
          · rw [z, pk_us, G.2.2.1 i j (Or.inr (by omega))]; rfl
          · rw [pk_un z, setA_s]
            by_cases y : 10 * i + j = 10 * n + x
            · rw [y, pk_us, G.2.2.1 i j (Or.inl (by omega))]; rfl
            · rw [pk_un y]; exact q3 i j hi hj
      · intro t hI
        obtain ⟨j, υ⟩ := t
        obtain ⟨hj, q1, q2, q3⟩ := hI
        have hj : j = nI 10 := hj
        have q1 : υ.1 = τ.1 := q1
        subst hj
        have e0 : υ.1 0 = nI n := by rw [q1]; exact M.1
        unfold f_X7_house_B14
        refine oT (show (10 : Int32) ≤ nI 10 by decide) (oWi ?_)
        unfold f_X7_house_J56
        refine oRet ⟨?_, ?_, fun k hk => ?_, q2, q3⟩
        · show (setI υ 0 (υ.1 0 + 1)).1 0 - 1 = _
          rw [setI_s, e0, nI_1, nI_pred]
        · show (setI υ 0 (υ.1 0 + 1)).1 0 = _
          rw [setI_s, e0, nI_1]
        · show (setI υ 0 (υ.1 0 + 1)).1 k = _
          rw [setI_n hk, q1]
    obtain ⟨⟨v2, τ'⟩, e2, r1, r2, r3, r4, r5⟩ := eM
    have r1 : v2 = nI n := r1
    have r2 : τ'.1 0 = nI (n + 1) := r2
    have r3 : ∀ k, k ≠ 0 → τ'.1 k = τ.1 k := r3
    have r4 : ∀ k, k ≠ 1 → τ'.2.1 k = τ.2.1 k := r4
    subst r1
    refine ⟨nI n, setI σ 0 (nI (n + 1)), τ', oEq ?_, e2, n + 1, K, lk, rf, hol, nr, rb, ns, sb, sh, ?_⟩
    · unfold f_X6_house f_X1_build
      rw [E.1]
      refine oBind (P := fun r => r = (nI n, setI σ 0 (nI (n + 1)))) (oT (show nI n < nI 10 from nI_lt (by omega) (by omega)) (oRet ?_)) (fun r hr => by rw [hr]; exact oRet rfl)
      rw [setI_s, nI_1, nI_pred]
    · refine ⟨⟨by omega, G.2.1, fun i j hij => G.2.2.1 i j (by omega), G.2.2.2.1, fun b => ?_, fun b x hx => by have := G.2.2.2.2.2 b x hx; omega⟩, ?_, ?_, ⟨?_, ?_⟩, ?_, ?_, ?_, h6, ?_, h8⟩
      · rcases G.2.2.2.2.1 b with z | ⟨x, z1, z2⟩
        · exact Or.inl z
        · exact Or.inr ⟨x, by omega, z2⟩
      · exact ⟨setI_s, (setI_n (by omega)).trans E.2.1, E.2.2⟩
      · refine ⟨r2, (r3 3 (by omega)).trans M.2.1, r5, ⟨(r3 1 (by omega)).trans M.2.2.2.1.1, M.2.2.2.1.2.1, fun k hk => ?_, M.2.2.2.1.2.2.2⟩, (r3 2 (by omega)).trans M.2.2.2.2.1, M.2.2.2.2.2.1, fun k hk => ?_⟩
        · rw [r4 2 (by omega), r4 3 (by omega), r4 4 (by omega)]; exact M.2.2.2.1.2.2.1 k hk
        · rw [r4 5 (by omega), r4 6 (by omega), r4 7 (by omega)]; exact M.2.2.2.2.2.2 k hk
      · exact (setI_n (by omega)).trans h1
      · exact (r3 4 (by omega)).trans h2
      · rw [setI_n (by omega), h3]
        refine congrArg nI ?_
        unfold tieC
        refine cnt_congr (fun k hk => ?_)
        by_cases z : k % 10 < n
        · rw [decide_eq_true z, decide_eq_true (show k % 10 < n + 1 by omega)]
        · rw [G.2.2.1 (k / 10) (k % 10) (Or.inr (by omega))]; simp
      · exact (setI_n (by omega)).trans h4
      · exact (setI_n (by omega)).trans h5
      · intro k hk
        obtain ⟨a, b, c⟩ := h7 k hk
        exact ⟨a, b, by omega⟩
theorem set_same (h : RX n K lk rf hol nr rb ns sb sh σ τ) (w x on : Int32) : Same (f_X6_set w x on σ) (f_X7_set w x on τ) := by
  have hG := h.1
  have hn := hG.1
  by_cases hw : w = 0 ∨ w = 1
  · have i1 : f_X7_in w 0 1 = some 1 := by rcases hw with rfl | rfl <;> decide
    have c1 : ∀ o : Option (Int32 × ZS), f_X6_set_J9 w x on σ = o → f_X6_set w x on σ = o := fun o q => by
      unfold f_X6_set
      rcases hw with rfl | rfl
      · rw [if_pos rfl]; exact q
      · rw [if_neg (by decide), if_pos rfl]; exact q
    rcases has_ok h.2.1 hG x with ⟨q1, q2⟩ | ⟨y, hy, rfl, q1⟩
    · rcases isHouse_ok h.2.2.1.1 hn x with ⟨z1, z2⟩ | ⟨y, hy, e, -⟩
      · refine h.bad (v := -2) (c1 _ (oEq ?_)) (oEq ?_)
        · unfold f_X6_set_J9
          exact oBindE q1 (oT rfl (oRet rfl))
        · unfold f_X7_set
          exact oBindE i1 (oF one_ne (oBindE z1 (oT rfl (oRet rfl))))
      · exact absurd e (q2 y hy)
    · have q3 := isHouse_1 h.2.2.1.1 hn hy
      obtain ⟨G, E, M, ⟨h1, h2⟩, h3, h4, h5, h6, h7, h8⟩ := h
      -- the new mask
      have nm : ∀ m : Int32, ((m &&& (bm y ^^^ (-1))) ||| bm y) = (m ||| bm y) := fun m => b_ext (fun i hi => by
        rw [b_or, b_or, b_and, b_not _ hi]
        cases bt m i <;> cases bt (bm y) i <;> rfl)
      have nz : ∀ m : Int32, (m ||| 0) = m := fun m => b_ext (fun i hi => by rw [b_or, b_0, Bool.or_false])
      obtain ⟨nu, hnu⟩ : ∃ nu : Int32 → Int32, nu = fun m => if on = 0 then m &&& (bm y ^^^ (-1)) else m ||| bm y := ⟨_, rfl⟩
      have nu0 : on = 0 → ∀ m, nu m = m &&& (bm y ^^^ (-1)) := fun z m => by rw [hnu]; simp only; rw [if_pos z]
      have nu1 : ¬ on = 0 → ∀ m, nu m = m ||| bm y := fun z m => by rw [hnu]; simp only; rw [if_neg z]
      have eS : f_X7_set w (nI y) on τ = some (if w = 0 then (bI (bt lk y), setI τ 3 (nu lk)) else (bI (bt rf y), setI τ 4 (nu rf))) := by
        apply oEq
        unfold f_X7_set
        refine oBindE i1 (oF one_ne (oBindE q3 (oF one_ne ?_)))
        by_cases w0 : w = 0
        · rw [if_pos w0, if_pos w0]
          unfold f_X7_set_J35
          rw [M.2.1, b_get lk (by omega)]
          refine oIte (fun z => ?_) (fun z => ?_)
          · unfold f_X7_set_J52
            refine oT w0 (oRet ?_)
            rw [M.2.1, nz, nu0 z]; rfl
          · unfold f_X7_set_J52
            refine oT w0 (oRet ?_)
            rw [M.2.1, show (1 : Int32) <<< (nI y &&& 31) = bm y from rfl, nm, nu1 z]
        · rw [if_neg w0, if_neg w0]
          unfold f_X7_set_J35
          rw [h2, b_get rf (by omega)]
          refine oIte (fun z => ?_) (fun z => ?_)
          · unfold f_X7_set_J52
            refine oF w0 (oRet ?_)
            rw [h2, nz, nu0 z]; rfl
          · unfold f_X7_set_J52
            refine oF w0 (oRet ?_)
            rw [h2, show (1 : Int32) <<< (nI y &&& 31) = bm y from rfl, nm, nu1 z]
      have eC : f_X6_set w (nI y) on σ = some (if w = 0 then (bI (bt lk y), setI σ 2 (nu lk)) else (bI (bt rf y), setI σ 3 (nu rf))) := by
        refine c1 _ (oEq ?_)
        unfold f_X6_set_J9
        refine oBindE q1 (oF one_ne ?_)
        by_cases w0 : w = 0
        · rw [if_pos w0, if_pos w0]
          refine oBind (P := fun r => r = (bI (bt lk y), setI σ 2 (nu lk))) ?_ (fun r hr => by rw [hr]; exact oRet rfl)
          have J : ∀ b : Bool, b = bt lk y → Ok (f_X1_turnLeak_J16 (nI y) on (bI b) σ) (fun r => r = (bI (bt lk y), setI σ 2 (nu lk))) := fun b hb => by
            unfold f_X1_turnLeak_J16
            rw [E.2.1]
            refine oIte (fun z => oBindE (bit_ok (by omega)) (oRet ?_)) (fun z => oBindE (bit_ok (by omega)) (oRet ?_))
            · rw [nu0 z, hb]
            · rw [nu1 z, hb]
          unfold f_X1_turnLeak
          rw [E.2.1]
          refine oBindE (hasBit_ok lk (by omega)) ?_
          cases hb : bt lk y with
          | false => rw [hb] at J; exact oT rfl (J false rfl)
          | true => rw [hb] at J; exact oF one_ne (J true rfl)
        · rw [if_neg w0, if_neg w0]
          refine oBind (P := fun r => r = (bI (bt rf y), setI σ 3 (nu rf))) ?_ (fun r hr => by rw [hr]; exact oRet rfl)
          have J : ∀ b : Bool, b = bt rf y → Ok (f_X1_turnRefusal_J16 (nI y) on (bI b) σ) (fun r => r = (bI (bt rf y), setI σ 3 (nu rf))) := fun b hb => by
            unfold f_X1_turnRefusal_J16
            rw [h1]
            refine oIte (fun z => oBindE (bit_ok (by omega)) (oRet ?_)) (fun z => oBindE (bit_ok (by omega)) (oRet ?_))
            · rw [nu0 z, hb]
            · rw [nu1 z, hb]
          unfold f_X1_turnRefusal
          rw [h1]
          refine oBindE (hasBit_ok rf (by omega)) ?_
          cases hb : bt rf y with
          | false => rw [hb] at J; exact oT rfl (J false rfl)
          | true => rw [hb] at J; exact oF one_ne (J true rfl)
      by_cases w0 : w = 0
      · rw [if_pos w0] at eS eC
        refine ⟨_, _, _, eC, eS, n, K, nu lk, rf, hol, nr, rb, ns, sb, sh, G, ⟨(setI_n (by omega)).trans E.1, setI_s, E.2.2⟩, ⟨(setI_n (by omega)).trans M.1, setI_s, M.2.2.1, ⟨(setI_n (by omega)).trans M.2.2.2.1.1, M.2.2.2.1.2⟩, (setI_n (by omega)).trans M.2.2.2.2.1, M.2.2.2.2.2⟩, ⟨(setI_n (by omega)).trans h1, (setI_n (by omega)).trans h2⟩, (setI_n (by omega)).trans h3, (setI_n (by omega)).trans h4, (setI_n (by omega)).trans h5, h6, h7, h8⟩
      · rw [if_neg w0] at eS eC
        refine ⟨_, _, _, eC, eS, n, K, lk, nu rf, hol, nr, rb, ns, sb, sh, G, ⟨(setI_n (by omega)).trans E.1, (setI_n (by omega)).trans E.2.1, E.2.2⟩, ⟨(setI_n (by omega)).trans M.1, (setI_n (by omega)).trans M.2.1, M.2.2.1, ⟨(setI_n (by omega)).trans M.2.2.2.1.1, M.2.2.2.1.2⟩, (setI_n (by omega)).trans M.2.2.2.2.1, M.2.2.2.2.2⟩, ⟨setI_s, setI_s⟩, (setI_n (by omega)).trans h3, (setI_n (by omega)).trans h4, (setI_n (by omega)).trans h5, h6, h7, h8⟩
  · have w0 : ¬ w = 0 := fun z => hw (Or.inl z)
    have w1 : ¬ w = 1 := fun z => hw (Or.inr z)
    refine h.bad (v := -2) (oEq ?_) (oEq ?_)
    · unfold f_X6_set
      exact oF w0 (oF w1 (oRet rfl))
    · unfold f_X7_set
      refine oBindE (v := 0) ?_ (oT rfl (oRet rfl))
      unfold f_X7_in
      rcases pk_ix w (n := 2) (by decide) with z | z | ⟨j, hj, e⟩
      · rw [if_pos z]
      · have h0 : ¬ w < 0 := by
          rw [Int32.lt_iff_toInt_lt]
          rw [Int32.le_iff_toInt_le] at z
          have a : (nI 2).toInt = 2 := by decide
          have b : (0 : Int32).toInt = 0 := by decide
          omega
        have h1 : (1 : Int32) < w := by
          rw [Int32.lt_iff_toInt_lt]
          rw [Int32.le_iff_toInt_le] at z
          have a : (nI 2).toInt = 2 := by decide
          have b : (1 : Int32).toInt = 1 := by decide
          omega
        rw [if_neg h0, if_pos h1]
      · rcases (show j = 0 ∨ j = 1 by omega) with rfl | rfl
        · exact absurd e w0
        · exact absurd e w1
end RM
