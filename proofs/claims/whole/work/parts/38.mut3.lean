theorem mF {τ : ZS} {d a b c : Int32} {k j : Nat} (h : j ≠ 1) : (setA (setA (setA (setI τ 1 d) 2 k a) 3 k b) 4 k c).1 j = τ.1 j := m234 h
section RO
variable {n : Nat} {K : Nat → Nat → Nat} {lk rf : Int32} {hol : Nat → Int32} {nr : Nat} {rb : Nat → Nat} {ns : Nat} {sb sh : Nat → Nat} {σ τ : ZS}
theorem free_same (h : RX n K lk rf hol nr rb ns sb sh σ τ) (l f : Int32) : Same (f_X6_free l f σ) (f_X7_free l f τ) := by
  have hG := h.1
  have hn := hG.1
  rcases blk_cases l f with ⟨a1, a2⟩ | ⟨b, hb, rfl, rfl, a1, a2⟩
  · refine h.bad (v := -2) (oEq ?_) (oEq ?_)
    · unfold f_X6_free; exact oBindE a1 (oT rfl (oRet rfl))
    · unfold f_X7_free; exact oBindE a2 (oT rfl (oRet rfl))
  have hhol := holder_ok h.2.1 hb.1 hb.2
  have MR0 := h.2.2.1.2.2.2.1
  rcases rightOf_ok MR0 hb with ⟨r1, r2⟩ | ⟨k, r1, r2, r3, r4⟩
  · refine h.bad (v := -5) (oEq ?_) (oEq ?_)
    · unfold f_X6_free; exact oBindE a1 (oF (nb_m2 hb.2) (oBindE hhol (oT r1 (oRet rfl))))
    · unfold f_X7_free; exact oBindE a2 (oF one_ne (oBindE r2 (oT rfl (oRet rfl))))
  · obtain ⟨G, E, M, ⟨h1, h2⟩, h3, h4, h5, h6, h7, h8⟩ := h
    obtain ⟨m1, m2, m3, m4, m5⟩ := MR0
    obtain ⟨e, he⟩ : ∃ e, nr = e + 1 := ⟨nr - 1, by omega⟩
    have h4k := (m3 k r1).2.2.2.2
    rw [r2] at h4k
    obtain ⟨c1, c2, c3, c4, c5⟩ := m3 e (by omega)
    have hd : nI e = nI nr + ((if (-1 : Int32) = -1 then 0 else 1) - (if hol b = -1 then 0 else 1)) := by
      rw [if_pos rfl, if_neg r3, he, ← nI_1, show ((0 : Int32) - 1) = -1 by decide, nI_1, pk_m1]
    refine ⟨hol b, setA (setI σ 4 (nI e)) 8 b (-1), setA (setA (setA (setI τ 1 (nI e)) 2 k (nI (lenOf (rb e)))) 3 k (nI (fstOf (rb e)))) 4 k (hol (rb e)), oEq ?_, oEq ?_, n, K, lk, rf, uH hol b (-1), e, (fun j => if j = k then rb e else rb j), ns, sb, sh, ?_⟩
    · unfold f_X6_free
      exact oBindE a1 (oF (nb_m2 hb.2) (oBindE hhol (oF r3 (oBindE (give_ok E h4 hb (-1) _ hd) (oRet rfl)))))
    · unfold f_X7_free
      refine oBindE a2 (oF one_ne (oBindE r4 (oF (nI_m1 (by omega)) (oLd (by omega) (by omega) ?_))))
      rw [h4k, m1, he, nI_pred, nI_clamp (show k < 2 ^ 31 by omega)]
      have s1 : (setI τ 1 (nI e)).1 1 = nI e := setI_s
      show Ok (ld (τ.2.1 2) 12 ((setI τ 1 (nI e)).1 1) (fun y4 => ck (inb (nI k) 12) (ld (τ.2.1 3) 12 ((setI τ 1 (nI e)).1 1) (fun y5 => ck (inb (nI k) 12) (ld (τ.2.1 4) 12 ((setI τ 1 (nI e)).1 1) (fun y6 => ck (inb (nI k) 12) (some (hol b, setA (setA (setA (setI τ 1 (nI e)) 2 k y4) 3 k y5) 4 k y6)))))))) _
      rw [s1]
      refine oLd (by omega) (by omega) (oCkI (by omega) (by omega) (oLd (by omega) (by omega) (oCkI (by omega) (by omega) (oLd (by omega) (by omega) (oCkI (by omega) (by omega) (oRet ?_))))))
      rw [c3, c4, c5]
    · have hkb : ∀ j, j < nr → j ≠ k → rb j ≠ b := fun j hj z y => z (m5 j k hj r1 (y.trans r2.symm))
      refine ⟨⟨G.1, G.2.1, G.2.2.1, G.2.2.2.1, fun x => ?_, G.2.2.2.2.2⟩, E.give, ⟨(m234 (by omega)).trans M.1, (m234 (by omega)).trans M.2.1, fun i j hi hj => ?_, ⟨m234s, by omega, fun j hj => ?_, fun x x1 x2 x3 => ?_, fun i j hi hj q => ?_⟩, (m234 (by omega)).trans M.2.2.2.2.1, M.2.2.2.2.2.1, fun k hk => ?_⟩, ⟨(a8 (by omega)).trans h1, (m234 (by omega)).trans h2⟩, (a8 (by omega)).trans h3, a8s, (a8 (by omega)).trans h5, h6, fun k hk => ?_, h8⟩
      · by_cases z : x = b
        · subst z; rw [uH_s]; exact Or.inl rfl
        · rw [uH_n z]; exact G.2.2.2.2.1 x
      · rw [setA_n (by omega), setA_n (by omega), setA_n (by omega)]; exact M.2.2.1 i j hi hj
      · dsimp only
        by_cases z : j = k
        · subst z
          rw [if_pos rfl, uH_n (hkb e (by omega) (by omega))]
          refine ⟨c1, c2, ?_, ?_, ?_⟩
          · rw [setA_n (by omega), setA_n (by omega), setA_s, pk_us]
          · rw [setA_n (by omega), setA_s, pk_us]
          · rw [setA_s, pk_us]
        · rw [if_neg z, uH_n (hkb j (by omega) z)]
          obtain ⟨d1, d2, d3, d4, d5⟩ := m3 j (by omega)
          refine ⟨d1, d2, ?_, ?_, ?_⟩
          · rw [setA_n (by omega), setA_n (by omega), setA_s, pk_un z]; exact d3
          · rw [setA_n (by omega), setA_s, pk_un z]
            show (setA _ 2 _ _).2.1 3 j = _
            rw [setA_n (by omega)]; exact d4
          · rw [setA_s, pk_un z]
            show (setA (setA _ 2 _ _) 3 _ _).2.1 4 j = _
            rw [setA_n (by omega), setA_n (by omega)]; exact d5
      · have xb : x ≠ b := fun z => by rw [z, uH_s] at x3; exact x3 rfl
        rw [uH_n xb] at x3
        obtain ⟨j, j1, j2⟩ := m4 x x1 x2 x3
        have jk : j ≠ k := fun z => xb (by rw [← j2, z, r2])
        by_cases z : j = e
        · refine ⟨k, ?_, ?_⟩
          · omega
          · show (if k = k then rb e else rb k) = x
            rw [if_pos rfl, ← z]; exact j2
        · refine ⟨j, by omega, ?_⟩
          show (if j = k then rb e else rb j) = x
          rw [if_neg jk]; exact j2
      · have q : (if i = k then rb e else rb i) = (if j = k then rb e else rb j) := q
        by_cases zi : i = k <;> by_cases zj : j = k
        · omega
        · rw [if_pos zi, if_neg zj] at q
          have := m5 e j (by omega) (by omega) q
          omega
        · rw [if_neg zi, if_pos zj] at q
          have := m5 i e (by omega) (by omega) q
          omega
        · rw [if_neg zi, if_neg zj] at q; exact m5 i j (by omega) (by omega) q
      · rw [setA_n (by omega), setA_n (by omega), setA_n (by omega), setA_n (by omega), setA_n (by omega), setA_n (by omega), setA_n (by omega), setA_n (by omega), setA_n (by omega)]
        exact M.2.2.2.2.2.2 k hk
      · rw [setA_n (by omega), setA_n (by omega)]; exact h7 k hk
theorem say_same (h : RX n K lk rf hol nr rb ns sb sh σ τ) (l f x : Int32) : Same (f_X6_say l f x σ) (f_X7_say l f x τ) := by
  have hG := h.1
  have hn := hG.1
  rcases blk_cases l f with ⟨a1, a2⟩ | ⟨b, hb, rfl, rfl, a1, a2⟩
  · refine h.bad (v := -2) (oEq ?_) (oEq ?_)
    · unfold f_X6_say; exact oBindE a1 (oT rfl (oRet rfl))
    · unfold f_X7_say; exact oBindE a2 (oT rfl (oRet rfl))
  rcases has_ok h.2.1 hG x with ⟨q1, q2⟩ | ⟨y, hy, rfl, q1⟩
  · rcases isHouse_ok h.2.2.1.1 hn x with ⟨z1, z2⟩ | ⟨y, hy, e, -⟩
    · refine h.bad (v := -2) (oEq ?_) (oEq ?_)
      · unfold f_X6_say; exact oBindE a1 (oF (nb_m2 hb.2) (oBindE q1 (oT rfl (oRet rfl))))
      · unfold f_X7_say; exact oBindE a2 (oF one_ne (oBindE z1 (oT rfl (oRet rfl))))
    · exact absurd e (q2 y hy)
  have q3 := isHouse_1 h.2.2.1.1 hn hy
  have hsay := sayers_ok h.2.1 hb.1 hb.2
  have hbit : f_X6_hasBit (σ.2.1 11 b) (nI y) = some (bI (syOf sb sh ns b y)) := by
    rw [hasBit_ok _ (by omega), h.2.1.2.2.2.2 b hb.1 hb.2 y (by omega)]
  have hsays := says_ok h.2.2.1.2.2.2.2 hb (h := y) (by omega)
  cases hs : syOf sb sh ns b y with
  | true =>
    rw [hs] at hbit hsays
    refine h.bad (v := -3) (oEq ?_) (oEq ?_)
    · unfold f_X6_say; exact oBindE a1 (oF (nb_m2 hb.2) (oBindE q1 (oF one_ne (oBindE hsay (oBindE hbit (oF one_ne (oRet rfl)))))))
    · unfold f_X7_say; exact oBindE a2 (oF one_ne (oBindE q3 (oF one_ne (oBindE hsays (oF one_ne (oRet rfl))))))
  | false =>
    rw [hs] at hbit hsays
    by_cases c : ns = 16
    · refine h.bad (v := -6) (oEq ?_) (oEq ?_)
      · unfold f_X6_say f_X3_add
        rw [h.2.2.2.2.2.2.1]
        refine oBindE a1 (oF (nb_m2 hb.2) (oBindE q1 (oF one_ne (oBindE hsay (oBindE hbit (oT rfl (oBind (P := fun r => r = (-6, σ)) (oF ?_ (oRet rfl)) (fun r hr => by rw [hr]; exact oRet rfl))))))))
        rw [c]; decide
      · unfold f_X7_say
        rw [h.2.2.1.2.2.2.2.1]
        exact oBindE a2 (oF one_ne (oBindE q3 (oF one_ne (oBindE hsays (oT rfl (oT (by rw [c]; rfl) (oRet rfl)))))))
    · obtain ⟨G, E, M, ⟨h1, h2⟩, h3, h4, h5, h6, h7, h8⟩ := h
      have hns : ns < 16 := by omega
      obtain ⟨o1, o2, o3⟩ := M.2.2.2.2
      obtain ⟨mk, hmk⟩ : ∃ mk, mk = (σ.2.1 11 b ||| bm y) := ⟨_, rfl⟩
      refine ⟨nI ns, setI (setA (setA (setA σ 9 ns (nI b)) 10 ns (nI y)) 11 b mk) 5 (nI (ns + 1)), setI (setA (setA (setA τ 5 ns (nI (lenOf b))) 6 ns (nI (fstOf b))) 7 ns (nI y)) 2 (nI (ns + 1)), oEq ?_, oEq ?_, n, K, lk, rf, hol, nr, rb, ns + 1, (fun k => if k = ns then b else sb k), (fun k => if k = ns then y else sh k), ?_⟩
      · unfold f_X6_say
        refine oBindE a1 (oF (nb_m2 hb.2) (oBindE q1 (oF one_ne (oBindE hsay (oBindE hbit (oT rfl ?_))))))
        refine oBind (P := fun r => r = (nI ns, setI (setA (setA (setA σ 9 ns (nI b)) 10 ns (nI y)) 11 b mk) 5 (nI (ns + 1)))) ?_ (fun r hr => by rw [hr]; exact oRet rfl)
        unfold f_X3_add
        show Ok (if σ.1 5 < 16 then ck (inb (σ.1 5) 16) (ck (inb (σ.1 5) 16) (Option.bind (f_X3_sayers (nI b) (setA (setA σ 9 (Int32.toNatClampNeg (σ.1 5)) (nI b)) 10 (Int32.toNatClampNeg (σ.1 5)) (nI y))) (fun q1 => Option.bind (f_X6_bit (nI y)) (fun q2 => Option.bind (f_X3_suppose (nI b) (q1 ||| q2) (setA (setA σ 9 (Int32.toNatClampNeg (σ.1 5)) (nI b)) 10 (Int32.toNatClampNeg (σ.1 5)) (nI y))) (fun q3 => some (((setI q3 5 ((q3.1 5) + 1)).1 5) - 1, setI q3 5 ((q3.1 5) + 1))))))) else _) _
        rw [h5, nI_clamp (show ns < 2 ^ 31 by omega)]
        refine oT (show nI ns < nI 16 from nI_lt hns (by omega)) (oCkI hns (by omega) (oCkI hns (by omega) ?_))
        have e1 : f_X3_sayers (nI b) (setA (setA σ 9 ns (nI b)) 10 ns (nI y)) = some (σ.2.1 11 b) := by
          apply oEq
          unfold f_X3_sayers
          exact oBindE (isBlock_ok hb.1 hb.2) (oF one_ne (oLd hb.2 (by omega) (oRet rfl)))
        refine oBindE e1 (oBindE (bit_ok (by omega)) ?_)
        rw [← hmk]
        have e2 : f_X3_suppose (nI b) mk (setA (setA σ 9 ns (nI b)) 10 ns (nI y)) = some (setA (setA (setA σ 9 ns (nI b)) 10 ns (nI y)) 11 b mk) := by
          apply oEq
          unfold f_X3_suppose
          rw [nI_clamp (show b < 2 ^ 31 by omega)]
          exact oBindE (isBlock_ok hb.1 hb.2) (oF one_ne (oCkI hb.2 (by omega) (oRet rfl)))
        refine oBindE e2 (oRet ?_)
        have e3 : (setA (setA (setA σ 9 ns (nI b)) 10 ns (nI y)) 11 b mk).1 5 = nI ns := h5
        rw [e3, setI_s, nI_1, nI_pred]
      · unfold f_X7_say
        refine oBindE a2 (oF one_ne (oBindE q3 (oF one_ne (oBindE hsays (oT rfl (oF ?_ ?_))))))
        · rw [o1]; exact fun z => c ((nI_eq (a := ns) (b := 16) (by omega) (by omega)).mp z)
        · have e1 : f_X7_addSaying (nI (lenOf b)) (nI (fstOf b)) (nI y) τ = some (setI (setA (setA (setA τ 5 ns (nI (lenOf b))) 6 ns (nI (fstOf b))) 7 ns (nI y)) 2 (nI (ns + 1))) := by
            apply oEq
            unfold f_X7_addSaying
            show Ok (ck (inb (τ.1 2) 18) (ck (inb (τ.1 2) 18) (ck (inb (τ.1 2) 18) (some (setI (setA (setA (setA τ 5 (Int32.toNatClampNeg (τ.1 2)) (nI (lenOf b))) 6 (Int32.toNatClampNeg (τ.1 2)) (nI (fstOf b))) 7 (Int32.toNatClampNeg (τ.1 2)) (nI y)) 2 ((τ.1 2) + 1)))))) _
            rw [o1, nI_clamp (show ns < 2 ^ 31 by omega), nI_1]
            exact oCkI (by omega) (by omega) (oCkI (by omega) (by omega) (oCkI (by omega) (by omega) (oRet rfl)))
          refine oBindE e1 (oRet ?_)
          rw [setI_s, nI_pred]
      · have hsy : ∀ c z, syOf (fun k => if k = ns then b else sb k) (fun k => if k = ns then y else sh k) (ns + 1) c z = (syOf sb sh ns c z || (decide (b = c) && decide (y = z))) := fun c z => bool_eq (by
          rw [sy_iff, Bool.or_eq_true, sy_iff, Bool.and_eq_true, decide_eq_true_eq, decide_eq_true_eq]
          constructor
          · rintro ⟨k, k1, k2, k3⟩
            by_cases e : k = ns
            · rw [if_pos e] at k2 k3; exact Or.inr ⟨k2, k3⟩
            · rw [if_neg e] at k2 k3; exact Or.inl ⟨k, by omega, k2, k3⟩
          · rintro (⟨k, k1, k2, k3⟩ | ⟨k2, k3⟩)
            · refine ⟨k, by omega, ?_, ?_⟩
              · rw [if_neg (by omega)]; exact k2
              · rw [if_neg (by omega)]; exact k3
            · refine ⟨ns, by omega, ?_, ?_⟩
              · rw [if_pos rfl]; exact k2
              · rw [if_pos rfl]; exact k3)
        refine ⟨⟨G.1, G.2.1, G.2.2.1, G.2.2.2.1, G.2.2.2.2.1, fun c z q => ?_⟩, ⟨(setI_n (by omega)).trans E.1, (setI_n (by omega)).trans E.2.1, fun i j hi hj => ?_, fun c c1 c2 => ?_, fun c c1 c2 z hz => ?_⟩, ⟨(setI_n (by omega)).trans M.1, (setI_n (by omega)).trans M.2.1, fun i j hi hj => ?_, ⟨(setI_n (by omega)).trans M.2.2.2.1.1, M.2.2.2.1.2.1, fun k hk => ?_, M.2.2.2.1.2.2.2⟩, setI_s, by omega, fun k hk => ?_⟩, ⟨(setI_n (by omega)).trans h1, (setI_n (by omega)).trans h2⟩, (setI_n (by omega)).trans h3, (setI_n (by omega)).trans h4, setI_s, by omega, fun k hk => ?_, fun i j hi hj e1 e2 => ?_⟩
        · rw [hsy, Bool.or_eq_true] at q
          rcases q with q | q
          · exact G.2.2.2.2.2 c z q
          · rw [Bool.and_eq_true, decide_eq_true_eq, decide_eq_true_eq] at q
            rw [← q.2]; exact hy
        · show (setA (setA (setA σ 9 _ _) 10 _ _) 11 _ _).2.1 (23 + i) j = _
          rw [setA_n (by omega), setA_n (by omega), setA_n (by omega)]; exact E.2.2.1 i j hi hj
        · show (setA (setA (setA σ 9 _ _) 10 _ _) 11 _ _).2.1 8 c = _
          rw [setA_n (by omega), setA_n (by omega), setA_n (by omega)]; exact E.2.2.2.1 c c1 c2
        · show bt ((setA (setA (setA σ 9 _ _) 10 _ _) 11 b mk).2.1 11 c) z = _
          rw [setA_s, hsy]
          by_cases e : c = b
          · subst e
            rw [pk_us, hmk, b_or, E.2.2.2.2 c c1 c2 z hz, b_bm y (by omega) z hz, decide_eq_true rfl, Bool.true_and]
            congr 1
            rw [decide_eq_decide]; exact ⟨Eq.symm, Eq.symm⟩
          · rw [pk_un e, decide_eq_false (fun q => e q.symm), Bool.false_and, Bool.or_false]
            show bt (σ.2.1 11 c) z = _
            exact E.2.2.2.2 c c1 c2 z hz
        · show (setA (setA (setA τ 5 _ _) 6 _ _) 7 _ _).2.1 1 _ = _
          rw [setA_n (by omega), setA_n (by omega), setA_n (by omega)]; exact M.2.2.1 i j hi hj
        · show (_ ∧ _) ∧ _ ∧ (setA (setA (setA τ 5 _ _) 6 _ _) 7 _ _).2.1 2 k = _ ∧ (setA (setA (setA τ 5 _ _) 6 _ _) 7 _ _).2.1 3 k = _ ∧ (setA (setA (setA τ 5 _ _) 6 _ _) 7 _ _).2.1 4 k = _
          rw [setA_n (by omega), setA_n (by omega), setA_n (by omega), setA_n (by omega), setA_n (by omega), setA_n (by omega), setA_n (by omega), setA_n (by omega), setA_n (by omega)]
          exact M.2.2.2.1.2.2.1 k hk
        · show (_ ∧ _) ∧ _ ∧ (setA (setA (setA τ 5 _ _) 6 _ _) 7 _ _).2.1 5 k = _ ∧ (setA (setA (setA τ 5 _ _) 6 _ _) 7 _ _).2.1 6 k = _ ∧ (setA (setA (setA τ 5 _ _) 6 _ _) 7 _ _).2.1 7 k = _
          dsimp only
          by_cases e : k = ns
          · rw [if_pos e, if_pos e, e]
            refine ⟨hb, by omega, ?_, ?_, ?_⟩
            · rw [setA_n (by omega), setA_n (by omega), setA_s, pk_us]
            · rw [setA_n (by omega), setA_s, pk_us]
            · rw [setA_s, pk_us]
          · rw [if_neg e, if_neg e]
            obtain ⟨d1, d2, d3, d4, d5⟩ := o3 k (by omega)
            refine ⟨d1, d2, ?_, ?_, ?_⟩
            · rw [setA_n (by omega), setA_n (by omega), setA_s, pk_un e]; exact d3
            · rw [setA_n (by omega), setA_s, pk_un e]
              show (setA τ 5 _ _).2.1 6 k = _
              rw [setA_n (by omega)]; exact d4
            · rw [setA_s, pk_un e]
              show (setA (setA τ 5 _ _) 6 _ _).2.1 7 k = _
              rw [setA_n (by omega), setA_n (by omega)]; exact d5
        · show (setA (setA (setA σ 9 _ _) 10 _ _) 11 _ _).2.1 9 k = _ ∧ (setA (setA (setA σ 9 _ _) 10 _ _) 11 _ _).2.1 10 k = _ ∧ _
          dsimp only
          rw [setA_n (by omega), setA_n (by omega), setA_s, setA_n (by omega), setA_s]
          by_cases e : k = ns
          · rw [if_pos e, if_pos e, e, pk_us, pk_us]; exact ⟨rfl, rfl, hy⟩
          · rw [if_neg e, if_neg e, pk_un e, pk_un e]
            obtain ⟨d1, d2, d3⟩ := h7 k (by omega)
            refine ⟨d1, ?_, d3⟩
            show (setA σ 9 _ _).2.1 10 k = _
            rw [setA_n (by omega)]; exact d2
        · dsimp only at e1 e2
          have no : ∀ k, k < ns → ¬ (sb k = b ∧ sh k = y) := fun k hk q => by
            have := sy_iff.mpr ⟨k, hk, q⟩
            rw [hs] at this; cases this
          by_cases zi : i = ns <;> by_cases zj : j = ns
          · omega
          · rw [if_pos zi, if_neg zj] at e1 e2; exact absurd ⟨e1.symm, e2.symm⟩ (no j (by omega))
          · rw [if_neg zi, if_pos zj] at e1 e2; exact absurd ⟨e1, e2⟩ (no i (by omega))
          · rw [if_neg zi, if_neg zj] at e1 e2; exact h8 i j (by omega) (by omega) e1 e2
end RO
