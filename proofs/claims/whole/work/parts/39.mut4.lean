section RU
variable {n : Nat} {K : Nat → Nat → Nat} {lk rf : Int32} {hol : Nat → Int32} {nr : Nat} {rb : Nat → Nat} {ns : Nat} {sb sh : Nat → Nat} {σ τ : ZS}
/-- one is taken out of a row -/
def dR (f : Nat → Nat) (k : Nat) : Nat → Nat := fun j => if j < k then f j else f (j + 1)
theorem unsay_same (h : RX n K lk rf hol nr rb ns sb sh σ τ) (x : Int32) : Same (f_X6_unsay x σ) (f_X7_unsay x τ) := by
  rcases say_cases h x with ⟨a1, a2⟩ | ⟨k, hk, rfl, a1, a2⟩
  · refine h.bad (v := -2) (oEq ?_) (oEq ?_)
    · unfold f_X6_unsay; exact oBindE a1 (oT rfl (oRet rfl))
    · unfold f_X7_unsay; exact oBindE a2 (oT rfl (oRet rfl))
  obtain ⟨G, E, M, ⟨h1, h2⟩, h3, h4, h5, h6, h7, h8⟩ := h
  have hn := G.1
  obtain ⟨o1, o2, o3⟩ := M.2.2.2.2
  obtain ⟨e, he⟩ : ∃ e, ns = e + 1 := ⟨ns - 1, by omega⟩
  obtain ⟨k1, k2, k3⟩ := h7 k hk
  obtain ⟨d1, d2, d3, d4, d5⟩ := o3 k hk
  obtain ⟨mk, hmk⟩ : ∃ mk, mk = (σ.2.1 11 (sb k) &&& (bm (sh k) ^^^ (-1))) := ⟨_, rfl⟩
  -- the class
  have eC : Ok (f_X3_drop (nI k) σ) (fun r => r.1 5 = nI e ∧ (∀ j, j ≠ 5 → r.1 j = σ.1 j) ∧ (∀ j, j ≠ 9 → j ≠ 10 → j ≠ 11 → r.2.1 j = σ.2.1 j) ∧ r.2.1 11 = upd (σ.2.1 11) (sb k) mk ∧ ∀ j, j < e → r.2.1 9 j = nI (dR sb k j) ∧ r.2.1 10 j = nI (dR sh k j)) := by
    unfold f_X3_drop
    refine oBindE a1 (oF one_ne (oLd (by omega) (by omega) (oLd (by omega) (by omega) ?_)))
    rw [k1]
    have es : f_X3_sayers (nI (sb k)) σ = some (σ.2.1 11 (sb k)) := sayers_ok E d1.1 d1.2
    refine oBindE es (oLd (by omega) (by omega) ?_)
    rw [k2]
    refine oBindE (bit_ok (by omega)) ?_
    rw [← hmk]
    have e2 : f_X3_suppose (nI (sb k)) mk σ = some (setA σ 11 (sb k) mk) := by
      apply oEq
      unfold f_X3_suppose
      rw [nI_clamp (show sb k < 2 ^ 31 by omega)]
      exact oBindE (isBlock_ok d1.1 d1.2) (oF one_ne (oCkI d1.2 (by omega) (oRet rfl)))
    refine oBindE e2 ?_
    rw [nI_1]
    refine oLoop (fun m t => t.1 = nI (k + 1 + m) ∧ t.2.1 = σ.1 ∧ (∀ j, j ≠ 9 → j ≠ 10 → t.2.2.1 j = (setA σ 11 (sb k) mk).2.1 j) ∧ ∀ j, j < ns → t.2.2.1 9 j = nI (if k ≤ j ∧ j < k + m then sb (j + 1) else sb j) ∧ t.2.2.1 10 j = nI (if k ≤ j ∧ j < k + m then sh (j + 1) else sh j)) (ns - (k + 1)) (by omega) ⟨rfl, rfl, fun _ _ _ => rfl, fun j hj => by
      rw [if_neg (by omega), if_neg (by omega)]
      obtain ⟨q1, q2, -⟩ := h7 j hj
      exact ⟨q1, q2⟩⟩ ?_ ?_
    · intro m t hm hI
      obtain ⟨j0, υ⟩ := t
      obtain ⟨hj, q1, q2, q3⟩ := hI
      have hj : j0 = nI (k + 1 + m) := hj
      have q1 : υ.1 = σ.1 := q1
      have q2 : ∀ j, j ≠ 9 → j ≠ 10 → υ.2.1 j = (setA σ 11 (sb k) mk).2.1 j := q2
      have q3 : ∀ j, j < ns → υ.2.1 9 j = nI (if k ≤ j ∧ j < k + m then sb (j + 1) else sb j) ∧ υ.2.1 10 j = nI (if k ≤ j ∧ j < k + m then sh (j + 1) else sh j) := q3
      subst hj
      have e5 : υ.1 5 = nI ns := by rw [q1]; exact h5
      obtain ⟨p1, p2⟩ := q3 (k + 1 + m) (by omega)
      rw [if_neg (by omega)] at p1 p2
      unfold f_X3_drop_B45
      show Ok (if υ.1 5 ≤ nI (k + 1 + m) then _ else _) _
      rw [e5, show nI (k + 1 + m) - 1 = nI (k + m) by rw [show k + 1 + m = (k + m) + 1 by omega, nI_pred], nI_clamp (show k + m < 2 ^ 31 by omega)]
      refine oLe ns (k + 1 + m) (by omega) (by omega) (fun z => by omega) (fun _ => oLe 16 (k + 1 + m) (by omega) (by omega) (fun z => by omega) (fun _ => oLd (by omega) (by omega) (oCkI (by omega) (by omega) (oLd (by omega) (by omega) (oCkI (by omega) (by omega) (oRet ⟨?_, q1, fun j j1 j2 => ?_, fun j hj => ?_⟩))))))
      · exact nI_1 (k + 1 + m)
      · show (setA (setA υ 9 _ _) 10 _ _).2.1 j = _
        rw [setA_n j2, setA_n j1]; exact q2 j j1 j2
      · show (setA (setA υ 9 (k + m) (υ.2.1 9 (k + 1 + m))) 10 (k + m) ((setA υ 9 (k + m) (υ.2.1 9 (k + 1 + m))).2.1 10 (k + 1 + m))).2.1 9 j = _ ∧ (setA (setA υ 9 (k + m) (υ.2.1 9 (k + 1 + m))) 10 (k + m) ((setA υ 9 (k + m) (υ.2.1 9 (k + 1 + m))).2.1 10 (k + 1 + m))).2.1 10 j = _
        rw [setA_n (by omega), setA_s, setA_s, setA_n (by omega), p1, p2]
        by_cases z : j = k + m
        · subst z
          rw [pk_us, pk_us, if_pos (by omega), if_pos (by omega), show k + m + 1 = k + 1 + m by omega]
          exact ⟨rfl, rfl⟩
        · rw [pk_un z, pk_un z]
          obtain ⟨w1, w2⟩ := q3 j hj
          rw [w1, w2]
          by_cases y : k ≤ j ∧ j < k + m
          · rw [if_pos y, if_pos y, if_pos (by omega), if_pos (by omega)]; exact ⟨rfl, rfl⟩
          · rw [if_neg y, if_neg y, if_neg (by omega), if_neg (by omega)]; exact ⟨rfl, rfl⟩
    · intro t hI
      obtain ⟨j0, υ⟩ := t
      obtain ⟨hj, q1, q2, q3⟩ := hI
      have hj : j0 = nI (k + 1 + (ns - (k + 1))) := hj
      have q1 : υ.1 = σ.1 := q1
      have q2 : ∀ j, j ≠ 9 → j ≠ 10 → υ.2.1 j = (setA σ 11 (sb k) mk).2.1 j := q2
      have q3 : ∀ j, j < ns → υ.2.1 9 j = nI (if k ≤ j ∧ j < k + (ns - (k + 1)) then sb (j + 1) else sb j) ∧ υ.2.1 10 j = nI (if k ≤ j ∧ j < k + (ns - (k + 1)) then sh (j + 1) else sh j) := q3
      rw [show k + 1 + (ns - (k + 1)) = ns by omega] at hj
      subst hj
      have e5 : υ.1 5 = nI ns := by rw [q1]; exact h5
      unfold f_X3_drop_B45
      show Ok (if υ.1 5 ≤ nI ns then _ else _) _
      rw [e5]
      refine oLe ns ns (by omega) (by omega) (fun _ => oWi ?_) (fun z => by omega)
      unfold f_X3_drop_J93
      refine oRet ⟨?_, fun j hj => ?_, fun j j1 j2 j3 => ?_, ?_, fun j hj => ?_⟩
      · show (setI υ 5 (υ.1 5 - 1)).1 5 = _
        rw [setI_s, e5, he, nI_pred]
      · show (setI υ 5 (υ.1 5 - 1)).1 j = _
        rw [setI_n hj, q1]
      · show υ.2.1 j = _
        rw [q2 j j1 j2, setA_n j3]
      · show υ.2.1 11 = _
        rw [q2 11 (by omega) (by omega), setA_s]
      · show υ.2.1 9 j = _ ∧ υ.2.1 10 j = _
        obtain ⟨w1, w2⟩ := q3 j (by omega)
        rw [w1, w2]
        unfold dR
        by_cases y : j < k
        · have y1 : ¬ (k ≤ j ∧ j < k + (ns - (k + 1))) := by omega
          rw [if_neg y1, if_neg y1, if_pos y, if_pos y]; exact ⟨rfl, rfl⟩
        · have y1 : k ≤ j ∧ j < k + (ns - (k + 1)) := by omega
          rw [if_pos y1, if_pos y1, if_neg y, if_neg y]; exact ⟨rfl, rfl⟩
  -- the model
  have eM : Ok (f_X7_unsay (nI k) τ) (fun r => r.1 = 1 ∧ r.2.1 2 = nI e ∧ (∀ j, j ≠ 2 → r.2.1 j = τ.1 j) ∧ (∀ j, j < 5 ∨ 8 ≤ j → r.2.2.1 j = τ.2.1 j) ∧ ∀ j, j < e → r.2.2.1 5 j = nI (lenOf (dR sb k j)) ∧ r.2.2.1 6 j = nI (fstOf (dR sb k j)) ∧ r.2.2.1 7 j = nI (dR sh k j)) := by
    unfold f_X7_unsay
    refine oBindE a2 (oF one_ne ?_)
    rw [o1, he, nI_pred]
    refine oLoop (fun m t => t.1 = nI (k + m) ∧ t.2.1 = (setI τ 2 (nI e)).1 ∧ (∀ j, j < 5 ∨ 8 ≤ j → t.2.2.1 j = τ.2.1 j) ∧ ∀ j, j < ns → t.2.2.1 5 j = nI (lenOf (if k ≤ j ∧ j < k + m then sb (j + 1) else sb j)) ∧ t.2.2.1 6 j = nI (fstOf (if k ≤ j ∧ j < k + m then sb (j + 1) else sb j)) ∧ t.2.2.1 7 j = nI (if k ≤ j ∧ j < k + m then sh (j + 1) else sh j)) (e - k) (by omega) ⟨rfl, rfl, fun _ _ => rfl, fun j hj => by
      rw [if_neg (by omega), if_neg (by omega)]
      obtain ⟨-, -, q3, q4, q5⟩ := o3 j hj
      exact ⟨q3, q4, q5⟩⟩ ?_ ?_
    · intro m t hm hI
      obtain ⟨j0, υ⟩ := t
      obtain ⟨hj, q1, q2, q3⟩ := hI
      have hj : j0 = nI (k + m) := hj
      have q1 : υ.1 = (setI τ 2 (nI e)).1 := q1
      have q2 : ∀ j, j < 5 ∨ 8 ≤ j → υ.2.1 j = τ.2.1 j := q2
      have q3 : ∀ j, j < ns → υ.2.1 5 j = nI (lenOf (if k ≤ j ∧ j < k + m then sb (j + 1) else sb j)) ∧ υ.2.1 6 j = nI (fstOf (if k ≤ j ∧ j < k + m then sb (j + 1) else sb j)) ∧ υ.2.1 7 j = nI (if k ≤ j ∧ j < k + m then sh (j + 1) else sh j) := q3
      subst hj
      have e5 : υ.1 2 = nI e := by rw [q1]; exact setI_s
      obtain ⟨p1, p2, p3⟩ := q3 (k + m + 1) (by omega)
      rw [if_neg (by omega)] at p1 p2 p3
      unfold f_X7_unsay_B29
      show Ok (if υ.1 2 ≤ nI (k + m) then _ else _) _
      rw [e5, nI_clamp (show k + m < 2 ^ 31 by omega), nI_1]
      refine oLe e (k + m) (by omega) (by omega) (fun z => by omega) (fun _ => oLd (by omega) (by omega) (oCkI (by omega) (by omega) (oLd (by omega) (by omega) (oCkI (by omega) (by omega) (oLd (by omega) (by omega) (oCkI (by omega) (by omega) (oRet ⟨rfl, q1, fun j hj => ?_, fun j hj => ?_⟩)))))))
      · show (setA (setA (setA υ 5 _ _) 6 _ _) 7 _ _).2.1 j = _
        rw [setA_n (by omega), setA_n (by omega), setA_n (by omega)]; exact q2 j hj
      · show (setA (setA (setA υ 5 (k + m) (υ.2.1 5 (k + m + 1))) 6 (k + m) (υ.2.1 6 (k + m + 1))) 7 (k + m) (υ.2.1 7 (k + m + 1))).2.1 5 j = _ ∧ (setA (setA (setA υ 5 (k + m) (υ.2.1 5 (k + m + 1))) 6 (k + m) (υ.2.1 6 (k + m + 1))) 7 (k + m) (υ.2.1 7 (k + m + 1))).2.1 6 j = _ ∧ (setA (setA (setA υ 5 (k + m) (υ.2.1 5 (k + m + 1))) 6 (k + m) (υ.2.1 6 (k + m + 1))) 7 (k + m) (υ.2.1 7 (k + m + 1))).2.1 7 j = _
        rw [setA_n (by omega), setA_n (by omega), setA_s, setA_n (by omega), setA_s, setA_s, setA_n (by omega), setA_n (by omega), setA_n (by omega), p1, p2, p3]
        by_cases z : j = k + m
        · subst z
          rw [pk_us, pk_us, pk_us, if_pos (by omega), if_pos (by omega)]
          exact ⟨rfl, rfl, rfl⟩
        · rw [pk_un z, pk_un z, pk_un z]
          obtain ⟨w1, w2, w3⟩ := q3 j hj
          rw [w1, w2, w3]
          by_cases y : k ≤ j ∧ j < k + m
          · rw [if_pos y, if_pos y, if_pos (by omega), if_pos (by omega)]; exact ⟨rfl, rfl, rfl⟩
          · rw [if_neg y, if_neg y, if_neg (by omega), if_neg (by omega)]; exact ⟨rfl, rfl, rfl⟩
    · intro t hI
      obtain ⟨j0, υ⟩ := t
      obtain ⟨hj, q1, q2, q3⟩ := hI
      have hj : j0 = nI (k + (e - k)) := hj
      have q1 : υ.1 = (setI τ 2 (nI e)).1 := q1
      have q3 : ∀ j, j < ns → υ.2.1 5 j = nI (lenOf (if k ≤ j ∧ j < k + (e - k) then sb (j + 1) else sb j)) ∧ υ.2.1 6 j = nI (fstOf (if k ≤ j ∧ j < k + (e - k) then sb (j + 1) else sb j)) ∧ υ.2.1 7 j = nI (if k ≤ j ∧ j < k + (e - k) then sh (j + 1) else sh j) := q3
      rw [show k + (e - k) = e by omega] at hj
      subst hj
      have e5 : υ.1 2 = nI e := by rw [q1]; exact setI_s
      unfold f_X7_unsay_B29
      show Ok (if υ.1 2 ≤ nI e then _ else _) _
      rw [e5]
      refine oLe e e (by omega) (by omega) (fun _ => oWi (oRet ⟨rfl, e5, fun j hj => ?_, q2, fun j hj => ?_⟩)) (fun z => by omega)
      · show υ.1 j = _
        rw [q1]; exact setI_n hj
      · show υ.2.1 5 j = _ ∧ υ.2.1 6 j = _ ∧ υ.2.1 7 j = _
        obtain ⟨w1, w2, w3⟩ := q3 j (by omega)
        rw [w1, w2, w3]
        unfold dR
        by_cases y : j < k
        · have y1 : ¬ (k ≤ j ∧ j < k + (e - k)) := by omega
          rw [if_neg y1, if_neg y1, if_pos y, if_pos y]; exact ⟨rfl, rfl, rfl⟩
        · have y1 : k ≤ j ∧ j < k + (e - k) := by omega
          rw [if_pos y1, if_pos y1, if_neg y, if_neg y]; exact ⟨rfl, rfl, rfl⟩
  obtain ⟨σ', c0, c1, c2, c3, c4, c5⟩ := eC
  obtain ⟨⟨v2, τ'⟩, g0, g1, g2, g3, g4, g5⟩ := eM
  have g1 : v2 = 1 := g1
  have g2 : τ'.1 2 = nI e := g2
  have g3 : ∀ j, j ≠ 2 → τ'.1 j = τ.1 j := g3
  have g4 : ∀ j, j < 5 ∨ 8 ≤ j → τ'.2.1 j = τ.2.1 j := g4
  have g5 : ∀ j, j < e → τ'.2.1 5 j = nI (lenOf (dR sb k j)) ∧ τ'.2.1 6 j = nI (fstOf (dR sb k j)) ∧ τ'.2.1 7 j = nI (dR sh k j) := g5
  subst g1
  have dRs : ∀ (f : Nat → Nat) j, j < e → ∃ i, i < ns ∧ i ≠ k ∧ dR f k j = f i ∧ i = (if j < k then j else j + 1) := fun f j hj => by
    by_cases y : j < k
    · exact ⟨j, by omega, by omega, by unfold dR; rw [if_pos y], by rw [if_pos y]⟩
    · exact ⟨j + 1, by omega, by omega, by unfold dR; rw [if_neg y], by rw [if_neg y]⟩
  have hsy : ∀ c z, syOf (dR sb k) (dR sh k) e c z = (syOf sb sh ns c z && !(decide (sb k = c) && decide (sh k = z))) := fun c z => bool_eq (by
    rw [sy_iff, Bool.and_eq_true, sy_iff, Bool.not_eq_true', Bool.and_eq_false_iff, decide_eq_false_iff_not, decide_eq_false_iff_not]
    constructor
    · rintro ⟨j, j1, j2, j3⟩
      obtain ⟨i, i1, i2, i3, i4⟩ := dRs sb j j1
      obtain ⟨i', _, _, i3', i4'⟩ := dRs sh j j1
      have ei : i' = i := by rw [i4, i4']
      subst ei
      refine ⟨⟨i', i1, by rw [← i3]; exact j2, by rw [← i3']; exact j3⟩, ?_⟩
      by_cases q : sb k = c
      · refine Or.inr (fun q2 => i2 (h8 i' k i1 hk ?_ ?_))
        · rw [← i3, j2, q]
        · rw [← i3', j3, q2]
      · exact Or.inl q
    · rintro ⟨⟨i, i1, i2, i3⟩, q⟩
      have ik : i ≠ k := fun y => by
        subst y
        rcases q with q | q
        · exact q i2
        · exact q i3
      by_cases y : i < k
      · refine ⟨i, by omega, ?_, ?_⟩
        · unfold dR; rw [if_pos y]; exact i2
        · unfold dR; rw [if_pos y]; exact i3
      · refine ⟨i - 1, by omega, ?_, ?_⟩
        · unfold dR; rw [if_neg (by omega), show i - 1 + 1 = i by omega]; exact i2
        · unfold dR; rw [if_neg (by omega), show i - 1 + 1 = i by omega]; exact i3)
  refine ⟨1, σ', τ', oEq ?_, g0, n, K, lk, rf, hol, nr, rb, e, dR sb k, dR sh k, ?_⟩
  · unfold f_X6_unsay
    exact oBindE a1 (oF one_ne (oBindE c0 (oRet rfl)))
  · refine ⟨⟨G.1, G.2.1, G.2.2.1, G.2.2.2.1, G.2.2.2.2.1, fun c z q => ?_⟩, ⟨(c2 0 (by omega)).trans E.1, (c2 2 (by omega)).trans E.2.1, fun i j hi hj => ?_, fun c x1 x2 => ?_, fun c x1 x2 z hz => ?_⟩, ⟨(g3 0 (by omega)).trans M.1, (g3 3 (by omega)).trans M.2.1, fun i j hi hj => ?_, ⟨(g3 1 (by omega)).trans M.2.2.2.1.1, M.2.2.2.1.2.1, fun j hj => ?_, M.2.2.2.1.2.2.2⟩, g2, by omega, fun j hj => ?_⟩, ⟨(c2 3 (by omega)).trans h1, (g3 4 (by omega)).trans h2⟩, (c2 1 (by omega)).trans h3, (c2 4 (by omega)).trans h4, c1, by omega, fun j hj => ?_, fun i j hi hj e1 e2 => ?_⟩
    · rw [hsy, Bool.and_eq_true] at q
      exact G.2.2.2.2.2 c z q.1
    · rw [c3 (23 + i) (by omega) (by omega) (by omega)]; exact E.2.2.1 i j hi hj
    · rw [c3 8 (by omega) (by omega) (by omega)]; exact E.2.2.2.1 c x1 x2
    · rw [c4, hsy]
      by_cases y : c = sb k
      · subst y
        rw [pk_us, hmk, b_and, E.2.2.2.2 _ x1 x2 z hz, b_bmn (sh k) (by omega) z hz, decide_eq_true rfl, Bool.true_and]
        congr 2
        rw [decide_eq_decide]; exact ⟨Eq.symm, Eq.symm⟩
      · rw [pk_un y, decide_eq_false (fun q => y q.symm), Bool.false_and, Bool.not_false, Bool.and_true]
        exact E.2.2.2.2 c x1 x2 z hz
    · rw [g4 1 (by omega)]; exact M.2.2.1 i j hi hj
    · rw [g4 2 (by omega), g4 3 (by omega), g4 4 (by omega)]; exact M.2.2.2.1.2.2.1 j hj
    · obtain ⟨w1, w2, w3⟩ := g5 j hj
      obtain ⟨i, i1, i2, i3, -⟩ := dRs sb j hj
      obtain ⟨i', i1', i2', i3', -⟩ := dRs sh j hj
      refine ⟨?_, ?_, w1, w2, w3⟩
      · rw [i3]; exact (o3 i i1).1
      · rw [i3']; exact (o3 i' i1').2.1
    · obtain ⟨w1, w2⟩ := c5 j hj
      obtain ⟨i', i1', i2', i3', -⟩ := dRs sh j hj
      exact ⟨w1, w2, by rw [i3']; exact (h7 i' i1').2.2⟩
    · obtain ⟨a, a1, a2, a3, a4⟩ := dRs sb i hi
      obtain ⟨b, b1, b2, b3, b4⟩ := dRs sb j hj
      obtain ⟨a', _, _, a3', a4'⟩ := dRs sh i hi
      obtain ⟨b', _, _, b3', b4'⟩ := dRs sh j hj
      have ea : a' = a := by rw [a4, a4']
      have eb : b' = b := by rw [b4, b4']
      subst ea
      subst eb
      have := h8 a' b' a1 b1 (by rw [← a3, ← b3]; exact e1) (by rw [← a3', ← b3']; exact e2)
      rw [a4, b4] at this
      by_cases y1 : i < k <;> by_cases y2 : j < k
      · rw [if_pos y1, if_pos y2] at this; exact this
      · rw [if_pos y1, if_neg y2] at this; omega
      · rw [if_neg y1, if_pos y2] at this; omega
      · rw [if_neg y1, if_neg y2] at this; omega
end RU
