/-- one tie is another -/
def uK (K : Nat → Nat → Nat) (p c a b : Nat) : Nat → Nat → Nat := fun i j => if i = p ∧ j = c then a else if i = c ∧ j = p then b else K i j
theorem cnt_one {p q : Nat → Bool} {k : Nat} : ∀ {m : Nat}, k < m → p k = false → q k = true → (∀ i, i < m → i ≠ k → p i = q i) → cnt q m = cnt p m + 1 := by
  intro m
  induction m with
  | zero => intro h; omega
  | succ m ih =>
    intro hk h1 h2 h3
    show cnt q m + (if q m = true then 1 else 0) = cnt p m + (if p m = true then 1 else 0) + 1
    by_cases e : k = m
    · subst e
      rw [cnt_congr (p := q) (q := p) (fun i hi => (h3 i (by omega) (by omega)).symm), h1, h2, if_pos rfl, if_neg (by decide)]
    · rw [ih (by omega) h1 h2 (fun i hi hne => h3 i (by omega) hne), h3 m (by omega) (fun z => e z.symm)]; omega
section TI
variable {n : Nat} {K : Nat → Nat → Nat} {lk rf : Int32} {hol : Nat → Int32} {nr : Nat} {rb : Nat → Nat} {ns : Nat} {sb sh : Nat → Nat} {σ τ : ZS} {p c : Nat}
theorem uK_pc {a b : Nat} : uK K p c a b p c = a := by unfold uK; rw [if_pos ⟨rfl, rfl⟩]
theorem uK_cp {a b : Nat} (h : p ≠ c) : uK K p c a b c p = b := by unfold uK; rw [if_neg (fun z => h z.1.symm), if_pos ⟨rfl, rfl⟩]
theorem uK_o {a b i j : Nat} (h1 : ¬ (i = p ∧ j = c)) (h2 : ¬ (i = c ∧ j = p)) : uK K p c a b i j = K i j := by unfold uK; rw [if_neg h1, if_neg h2]
/-- the place of a tie among the hundred -/
theorem tie_place (hp : p < n) (hc : c < n) (hpc : p ≠ c) (hn : n ≤ 10) {a b : Nat} (ha : (a = 0 ↔ b = 0)) : ∃ k, k < 100 ∧ (decide (k / 10 < k % 10) && (decide (k % 10 < n) && decide (uK K p c a b (k / 10) (k % 10) ≠ 0))) = decide (a ≠ 0) ∧ ((K p c = 0 ↔ K c p = 0) → (decide (k / 10 < k % 10) && (decide (k % 10 < n) && decide (K (k / 10) (k % 10) ≠ 0))) = decide (K p c ≠ 0)) ∧ ∀ i, i < 100 → i ≠ k → (decide (i / 10 < i % 10) && (decide (i % 10 < n) && decide (uK K p c a b (i / 10) (i % 10) ≠ 0))) = (decide (i / 10 < i % 10) && (decide (i % 10 < n) && decide (K (i / 10) (i % 10) ≠ 0))) := by
  rcases Nat.lt_or_ge p c with h | h
  · refine ⟨10 * p + c, by omega, ?_, fun _ => ?_, fun i hi hne => ?_⟩
    · rw [show (10 * p + c) / 10 = p by omega, show (10 * p + c) % 10 = c by omega, uK_pc, decide_eq_true h, decide_eq_true hc]; rfl
    · rw [show (10 * p + c) / 10 = p by omega, show (10 * p + c) % 10 = c by omega, decide_eq_true h, decide_eq_true hc]; rfl
    · by_cases z : i / 10 < i % 10
      · rw [uK_o (fun q => hne (by omega)) (fun q => by omega)]
      · rw [decide_eq_false z, Bool.false_and, Bool.false_and]
  · have h : c < p := by omega
    refine ⟨10 * c + p, by omega, ?_, fun q => ?_, fun i hi hne => ?_⟩
    · rw [show (10 * c + p) / 10 = c by omega, show (10 * c + p) % 10 = p by omega, uK_cp hpc, decide_eq_true h, decide_eq_true hp, Bool.true_and, Bool.true_and, decide_eq_decide]
      exact not_congr ha.symm
    · rw [show (10 * c + p) / 10 = c by omega, show (10 * c + p) % 10 = p by omega, decide_eq_true h, decide_eq_true hp, Bool.true_and, Bool.true_and, decide_eq_decide]
      exact not_congr q.symm
    · by_cases z : i / 10 < i % 10
      · rw [uK_o (fun q => by omega) (fun q => hne (by omega))]
      · rw [decide_eq_false z, Bool.false_and, Bool.false_and]
theorem K0 (G : GI n K hol (syOf sb sh ns)) : K p c = 0 ↔ K c p = 0 := by
  have a := G.2.2.2.1 p c
  have b := G.2.2.2.1 c p
  have x := G.2.1 p c
  have y := G.2.1 c p
  omega
/-- the class puts one side -/
theorem put_ok (E : EC n K lk hol (syOf sb sh ns) σ) (G : GI n K hol (syOf sb sh ns)) (hp : p < n) (hc : c < n) (v : Int32) (υ : ZS) (hu : υ.1 = σ.1) : f_X1_put (nI p) (nI c) v υ = some (setA υ (23 + p) c v) := by
  have hn := G.1
  have hs : ∀ x, x < n → f_X1_has (nI x) υ = some 1 := fun x hx => by
    have := has_1 E G hx
    unfold f_X1_has at this ⊢
    rw [hu]; exact this
  apply oEq
  unfold f_X1_put
  rw [nI_clamp (show p < 2 ^ 31 by omega), nI_clamp (show c < 2 ^ 31 by omega)]
  exact oBindE (hs p hp) (oF one_ne (oBindE (hs c hc) (oF one_ne (oCkI (by omega) (by omega) (oCkI (by omega) (by omega) (oRet rfl))))))
/-- both states with another tie are related -/
theorem RX.tie (h : RX n K lk rf hol nr rb ns sb sh σ τ) (hp : p < n) (hc : c < n) (hpc : p ≠ c) {a b : Nat} (hab : (a = 1 ∧ b = 3) ∨ (a = 2 ∧ b = 2) ∨ (a = 0 ∧ b = 0)) {d : Int32} (hd : d = nI (tieC (uK K p c a b) n)) : Rel (setI (setA (setA σ (23 + p) c (nI a)) (23 + c) p (nI b)) 1 d) (setA (setA τ 1 (10 * p + c) (nI a)) 1 (10 * c + p) (nI b)) := by
  obtain ⟨G, E, M, ⟨h1, h2⟩, h3, h4, h5, h6, h7, h8⟩ := h
  have hn := G.1
  refine ⟨n, uK K p c a b, lk, rf, hol, nr, rb, ns, sb, sh, ⟨hn, fun i j => ?_, fun i j q => ?_, fun i j => ?_, G.2.2.2.2.1, G.2.2.2.2.2⟩, ⟨(setI_n (by omega)).trans E.1, (setI_n (by omega)).trans E.2.1, fun i j hi hj => ?_, fun x x1 x2 => ?_, fun x x1 x2 z hz => ?_⟩, ⟨M.1, M.2.1, fun i j hi hj => ?_, ⟨M.2.2.2.1.1, M.2.2.2.1.2.1, fun k hk => ?_, M.2.2.2.1.2.2.2⟩, M.2.2.2.2.1, M.2.2.2.2.2.1, fun k hk => ?_⟩, ⟨(setI_n (by omega)).trans h1, h2⟩, ?_, (setI_n (by omega)).trans h4, (setI_n (by omega)).trans h5, h6, fun k hk => ?_, h8⟩
  · unfold uK
    by_cases z1 : i = p ∧ j = c
    · rw [if_pos z1]; omega
    · rw [if_neg z1]
      by_cases z2 : i = c ∧ j = p
      · rw [if_pos z2]; omega
      · rw [if_neg z2]; exact G.2.1 i j
  · rw [uK_o (by omega) (by omega)]; exact G.2.2.1 i j q
  · have dg : uK K p c a b i i = 0 := by
      rw [uK_o (fun z => hpc (z.1.symm.trans z.2)) (fun z => hpc (z.2.symm.trans z.1))]; exact (G.2.2.2.1 i i).2.2
    have rest : (uK K p c a b i j = 3 ↔ uK K p c a b j i = 1) ∧ (uK K p c a b i j = 2 ↔ uK K p c a b j i = 2) := by
      by_cases z1 : i = p ∧ j = c
      · rw [z1.1, z1.2, uK_pc, uK_cp hpc]; omega
      · by_cases z2 : i = c ∧ j = p
        · rw [z2.1, z2.2, uK_pc, uK_cp hpc]; omega
        · rw [uK_o z1 z2, uK_o (fun z => z2 ⟨z.2, z.1⟩) (fun z => z1 ⟨z.2, z.1⟩)]; exact ⟨(G.2.2.2.1 i j).1, (G.2.2.2.1 i j).2.1⟩
    exact ⟨rest.1, rest.2, dg⟩
  · show (setA (setA σ (23 + p) c (nI a)) (23 + c) p (nI b)).2.1 (23 + i) j = _
    by_cases z2 : i = c
    · subst z2
      rw [setA_s, setA_n (by omega)]
      by_cases y : j = p
      · subst y; rw [pk_us, uK_cp hpc]
      · rw [pk_un y, uK_o (fun z => hpc z.1.symm) (fun z => y z.2)]; exact E.2.2.1 i j hi hj
    · rw [setA_n (by omega)]
      by_cases z1 : i = p
      · subst z1
        rw [setA_s]
        by_cases y : j = c
        · subst y; rw [pk_us, uK_pc]
        · rw [pk_un y, uK_o (fun z => y z.2) (fun z => z2 z.1)]; exact E.2.2.1 i j hi hj
      · rw [setA_n (by omega), uK_o (fun z => z1 z.1) (fun z => z2 z.1)]; exact E.2.2.1 i j hi hj
  · show (setA (setA σ (23 + p) c (nI a)) (23 + c) p (nI b)).2.1 8 x = _
    rw [setA_n (by omega), setA_n (by omega)]; exact E.2.2.2.1 x x1 x2
  · show bt ((setA (setA σ (23 + p) c (nI a)) (23 + c) p (nI b)).2.1 11 x) z = _
    rw [setA_n (by omega), setA_n (by omega)]; exact E.2.2.2.2 x x1 x2 z hz
  · show (setA (setA τ 1 (10 * p + c) (nI a)) 1 (10 * c + p) (nI b)).2.1 1 _ = _
    rw [setA_s]
    by_cases z2 : i = c ∧ j = p
    · rw [z2.1, z2.2, pk_us, uK_cp hpc]
    · rw [pk_un (by omega), setA_s]
      by_cases z1 : i = p ∧ j = c
      · rw [z1.1, z1.2, pk_us, uK_pc]
      · rw [pk_un (by omega), uK_o z1 z2]; exact M.2.2.1 i j hi hj
  · rw [setA_n (by omega), setA_n (by omega), setA_n (by omega), setA_n (by omega), setA_n (by omega), setA_n (by omega)]; exact M.2.2.2.1.2.2.1 k hk
  · rw [setA_n (by omega), setA_n (by omega), setA_n (by omega), setA_n (by omega), setA_n (by omega), setA_n (by omega)]; exact M.2.2.2.2.2.2 k hk
  · rw [setI_s]; exact hd
  · show (setA (setA σ (23 + p) c (nI a)) (23 + c) p (nI b)).2.1 9 k = _ ∧ (setA (setA σ (23 + p) c (nI a)) (23 + c) p (nI b)).2.1 10 k = _ ∧ _
    rw [setA_n (by omega), setA_n (by omega), setA_n (by omega), setA_n (by omega)]; exact h7 k hk
theorem tie_same (h : RX n K lk rf hol nr rb ns sb sh σ τ) (x y w : Int32) : Same (f_X6_tie x y w σ) (f_X7_tie x y w τ) := by
  have hG := h.1
  have hn := hG.1
  have hx : ∀ z : Int32, (f_X1_has z σ = some 0 ∧ f_X7_isHouse z τ = some 0) ∨ ∃ k, k < n ∧ z = nI k ∧ f_X1_has z σ = some 1 ∧ f_X7_isHouse z τ = some 1 := fun z => by
    rcases has_ok h.2.1 hG z with ⟨q1, q2⟩ | ⟨k, hk, rfl, q1⟩
    · rcases isHouse_ok h.2.2.1.1 hn z with ⟨z1, z2⟩ | ⟨y, hy, e, -⟩
      · exact Or.inl ⟨q1, z1⟩
      · exact absurd e (q2 y hy)
    · exact Or.inr ⟨k, hk, rfl, q1, isHouse_1 h.2.2.1.1 hn hk⟩
  rcases hx x with ⟨a1, a2⟩ | ⟨p, hp, rfl, a1, a2⟩
  · refine h.bad (v := -2) (oEq ?_) (oEq ?_)
    · unfold f_X6_tie; exact oBindE a1 (oT rfl (oRet rfl))
    · unfold f_X7_tie; exact oBindE a2 (oT rfl (oRet rfl))
  rcases hx y with ⟨b1, b2⟩ | ⟨c, hc, rfl, b1, b2⟩
  · refine h.bad (v := -2) (oEq ?_) (oEq ?_)
    · unfold f_X6_tie; exact oBindE a1 (oF one_ne (oBindE b1 (oT rfl (oRet rfl))))
    · unfold f_X7_tie; exact oBindE a2 (oF one_ne (oBindE b2 (oT rfl (oRet rfl))))
  by_cases hpc : p = c
  · subst hpc
    refine h.bad (v := -3) (oEq ?_) (oEq ?_)
    · unfold f_X6_tie; exact oBindE a1 (oF one_ne (oBindE b1 (oF one_ne (oT rfl (oRet rfl)))))
    · unfold f_X7_tie; exact oBindE a2 (oF one_ne (oBindE b2 (oF one_ne (oT rfl (oRet rfl)))))
  have npc : ¬ nI p = nI c := fun z => hpc ((nI_eq (by omega) (by omega)).mp z)
  have hk := kind_ok h.2.1 hG (i := p) (j := c) (by omega) (by omega)
  have k4 := hG.2.1 p c
  have hm := h.2.2.1.2.2.1 p c (by omega) (by omega)
  by_cases hK : K p c = 0
  · rw [hK] at hk hm
    -- both write
    have wr : Same (f_X6_tie_J64 (nI p) (nI c) w σ) (f_X7_tie_J60 (nI p) (nI c) w τ) := by
      have cc : ∀ a b : Nat, (a = 1 ∧ b = 3) ∨ (a = 2 ∧ b = 2) → f_X1_bind (nI p) (nI c) (nI a) (nI b) σ = some (setI (setA (setA σ (23 + p) c (nI a)) (23 + c) p (nI b)) 1 (nI (tieC (uK K p c a b) n))) := fun a b hab => by
        apply oEq
        unfold f_X1_bind
        refine oBindE (put_ok h.2.1 hG hp hc (nI a) σ rfl) (oBindE (put_ok h.2.1 hG hc hp (nI b) (setA σ (23 + p) c (nI a)) rfl) (oRet ?_))
        have e1 : (setA (setA σ (23 + p) c (nI a)) (23 + c) p (nI b)).1 1 = nI (tieC K n) := h.2.2.2.2.1
        rw [e1, nI_1]
        have : tieC (uK K p c a b) n = tieC K n + 1 := by
          obtain ⟨k, k1, k2, k3, k5⟩ := tie_place (K := K) hp hc hpc hn (a := a) (b := b) (by omega)
          have k3 := k3 (K0 hG)
          rw [hK] at k3
          unfold tieC
          exact cnt_one k1 k3 (by rw [k2]; exact decide_eq_true (by omega)) (fun i hi hne => (k5 i hi hne).symm)
        rw [this]
      have rl : ∀ a b : Nat, (hab : (a = 1 ∧ b = 3) ∨ (a = 2 ∧ b = 2)) → Rel (setI (setA (setA σ (23 + p) c (nI a)) (23 + c) p (nI b)) 1 (nI (tieC (uK K p c a b) n))) (setA (setA τ 1 (10 * p + c) (nI a)) 1 (10 * c + p) (nI b)) := fun a b hab => h.tie hp hc hpc (by omega) rfl
      by_cases w0 : w = 0
      · refine ⟨1, _, _, oEq ?_, oEq ?_, rl 1 3 (by omega)⟩
        · unfold f_X6_tie_J64
          exact oT w0 (oBindE (cc 1 3 (by omega)) (oRet rfl))
        · unfold f_X7_tie_J60 f_X7_tie_J79
          rw [ix10, ix10, nI_clamp (show 10 * p + c < 2 ^ 31 by omega), nI_clamp (show 10 * c + p < 2 ^ 31 by omega)]
          exact oT w0 (oCkI (by omega) (by omega) (oT w0 (oCkI (by omega) (by omega) (oRet rfl))))
      · refine ⟨1, _, _, oEq ?_, oEq ?_, rl 2 2 (by omega)⟩
        · unfold f_X6_tie_J64
          exact oF w0 (oBindE (cc 2 2 (by omega)) (oRet rfl))
        · unfold f_X7_tie_J60 f_X7_tie_J79
          rw [ix10, ix10, nI_clamp (show 10 * p + c < 2 ^ 31 by omega), nI_clamp (show 10 * c + p < 2 ^ 31 by omega)]
          exact oF w0 (oCkI (by omega) (by omega) (oF w0 (oCkI (by omega) (by omega) (oRet rfl))))
    have hC : ∀ v, Ok (if w = 0 then Option.bind (f_X1_isAbove (nI c) (nI p) σ) (fun q4 => (if q4 = 0 then f_X6_tie_J64 (nI p) (nI c) w σ else some ((-4), σ))) else f_X6_tie_J64 (nI p) (nI c) w σ) (fun r => r = v) → f_X6_tie (nI p) (nI c) w σ = some v := fun v q => oEq (by
      unfold f_X6_tie
      exact oBindE a1 (oF one_ne (oBindE b1 (oF one_ne (oF npc (oBindE hk (oT rfl q)))))))
    have hM : ∀ v, Ok (if w = 0 then Option.bind (f_X7_above (nI p) τ) (fun q4 => Option.bind (f_X7_isOf q4 (nI c)) (fun q5 => (if q5 = 0 then f_X7_tie_J60 (nI p) (nI c) w τ else some ((-4), τ)))) else f_X7_tie_J60 (nI p) (nI c) w τ) (fun r => r = v) → f_X7_tie (nI p) (nI c) w τ = some v := fun v q => oEq (by
      unfold f_X7_tie
      refine oBindE a2 (oF one_ne (oBindE b2 (oF one_ne (oF npc ?_))))
      rw [ix10]
      refine oLd (by omega) (by omega) ?_
      rw [hm]
      exact oT rfl q)
    by_cases w0 : w = 0
    · obtain ⟨r1, e1, t1, et1, t2⟩ := isAbove_ok h.2.1 hG hp hc
      obtain ⟨r2, e2, t3⟩ := above_ok hn hG.2.1 h.2.2.1.1 h.2.2.1.2.2.1 hp hc hpc
      have ee : bt r2 c = t1 := bool_eq (t3.trans t2.symm)
      have eo := isOf_ok r2 (h := c) (by omega)
      rw [ee] at eo
      cases ht : t1 with
      | true =>
        rw [ht] at et1 eo
        exact h.bad (v := -4) (hC _ (oT w0 (oBindE e1 (oF (by rw [et1]; exact one_ne) (oRet rfl))))) (hM _ (oT w0 (oBindE e2 (oBindE eo (oF one_ne (oRet rfl))))))
      | false =>
        rw [ht] at et1 eo
        obtain ⟨v, s1, s2, y1, y2, y3⟩ := wr
        exact ⟨v, s1, s2, hC _ (oT w0 (oBindE e1 (oT (by rw [et1]; rfl) (oOf y1)))), hM _ (oT w0 (oBindE e2 (oBindE eo (oT rfl (oOf y2))))), y3⟩
    · obtain ⟨v, s1, s2, y1, y2, y3⟩ := wr
      exact ⟨v, s1, s2, hC _ (oF w0 (oOf y1)), hM _ (oF w0 (oOf y2)), y3⟩
  · have nk : ¬ nI (K p c) = 0 := fun z => hK ((nI_eq (a := K p c) (b := 0) (by omega) (by omega)).mp z)
    refine h.bad (v := -3) (oEq ?_) (oEq ?_)
    · unfold f_X6_tie; exact oBindE a1 (oF one_ne (oBindE b1 (oF one_ne (oF npc (oBindE hk (oF nk (oRet rfl)))))))
    · unfold f_X7_tie
      refine oBindE a2 (oF one_ne (oBindE b2 (oF one_ne (oF npc ?_))))
      rw [ix10]
      refine oLd (by omega) (by omega) ?_
      rw [hm]
      exact oF nk (oRet rfl)
theorem untie_same (h : RX n K lk rf hol nr rb ns sb sh σ τ) (x y : Int32) : Same (f_X6_untie x y σ) (f_X7_untie x y τ) := by
  have hG := h.1
  have hn := hG.1
  have hx : ∀ z : Int32, (f_X1_has z σ = some 0 ∧ f_X7_isHouse z τ = some 0) ∨ ∃ k, k < n ∧ z = nI k ∧ f_X1_has z σ = some 1 ∧ f_X7_isHouse z τ = some 1 := fun z => by
    rcases has_ok h.2.1 hG z with ⟨q1, q2⟩ | ⟨k, hk, rfl, q1⟩
    · rcases isHouse_ok h.2.2.1.1 hn z with ⟨z1, z2⟩ | ⟨y, hy, e, -⟩
      · exact Or.inl ⟨q1, z1⟩
      · exact absurd e (q2 y hy)
    · exact Or.inr ⟨k, hk, rfl, q1, isHouse_1 h.2.2.1.1 hn hk⟩
  rcases hx x with ⟨a1, a2⟩ | ⟨p, hp, rfl, a1, a2⟩
  · refine h.bad (v := -2) (oEq ?_) (oEq ?_)
    · unfold f_X6_untie; exact oBindE a1 (oT rfl (oRet rfl))
    · unfold f_X7_untie; exact oBindE a2 (oT rfl (oRet rfl))
  rcases hx y with ⟨b1, b2⟩ | ⟨c, hc, rfl, b1, b2⟩
  · refine h.bad (v := -2) (oEq ?_) (oEq ?_)
    · unfold f_X6_untie; exact oBindE a1 (oF one_ne (oBindE b1 (oT rfl (oRet rfl))))
    · unfold f_X7_untie; exact oBindE a2 (oF one_ne (oBindE b2 (oT rfl (oRet rfl))))
  have hk := kind_ok h.2.1 hG (i := p) (j := c) (by omega) (by omega)
  have k4 := hG.2.1 p c
  have hm := h.2.2.1.2.2.1 p c (by omega) (by omega)
  by_cases hK : K p c = 0
  · rw [hK] at hk hm
    refine h.bad (v := -5) (oEq ?_) (oEq ?_)
    · unfold f_X6_untie; exact oBindE a1 (oF one_ne (oBindE b1 (oF one_ne (oBindE hk (oT rfl (oRet rfl))))))
    · unfold f_X7_untie
      refine oBindE a2 (oF one_ne (oBindE b2 (oF one_ne ?_)))
      rw [ix10]
      refine oLd (by omega) (by omega) ?_
      rw [hm]
      exact oT rfl (oRet rfl)
  · have nk : ¬ nI (K p c) = 0 := fun z => hK ((nI_eq (a := K p c) (b := 0) (by omega) (by omega)).mp z)
    have hpc : p ≠ c := fun z => hK (by rw [z]; exact (hG.2.2.2.1 c c).2.2)
    refine ⟨1, setI (setA (setA σ (23 + p) c (nI 0)) (23 + c) p (nI 0)) 1 (nI (tieC (uK K p c 0 0) n)), setA (setA τ 1 (10 * p + c) (nI 0)) 1 (10 * c + p) (nI 0), oEq ?_, oEq ?_, h.tie hp hc hpc (by omega) rfl⟩
    · unfold f_X6_untie f_X1_part
      refine oBindE a1 (oF one_ne (oBindE b1 (oF one_ne (oBindE hk (oF nk (oBindE (oEq (oBindE (put_ok h.2.1 hG hp hc 0 σ rfl) (oBindE (put_ok h.2.1 hG hc hp 0 (setA σ (23 + p) c 0) rfl) (oRet ?_)))) (oRet rfl)))))))
      have e1 : (setA (setA σ (23 + p) c 0) (23 + c) p 0).1 1 = nI (tieC K n) := h.2.2.2.2.1
      have : tieC K n = tieC (uK K p c 0 0) n + 1 := by
        obtain ⟨k, k1, k2, k3, k5⟩ := tie_place (K := K) hp hc hpc hn (a := 0) (b := 0) (by omega)
        have k3 := k3 (K0 hG)
        unfold tieC
        exact cnt_one k1 k2 (by rw [k3]; exact decide_eq_true hK) (fun i hi hne => k5 i hi hne)
      rw [e1, this, nI_pred]; rfl
    · unfold f_X7_untie
      refine oBindE a2 (oF one_ne (oBindE b2 (oF one_ne ?_)))
      rw [ix10, ix10, nI_clamp (show 10 * p + c < 2 ^ 31 by omega), nI_clamp (show 10 * c + p < 2 ^ 31 by omega)]
      refine oLd (by omega) (by omega) ?_
      rw [hm]
      exact oF nk (oCkI (by omega) (by omega) (oCkI (by omega) (by omega) (oRet rfl)))
end TI
