/-! The fewest watchers: the model -/
theorem bt_full : ∀ n, n < 11 → ∀ i, i < n → bt (nI (2 ^ n - 1)) i = true := by decide +kernel
theorem nI_p1 {m : Nat} (h : 1 ≤ m) : nI m - 1 = nI (m - 1) := by
  have := nI_pred (m - 1)
  rwa [Nat.sub_add_cancel h] at this
theorem add_m1 (x : Int32) : x + (-1) = x - 1 := (Int32.sub_eq_add_neg x 1).symm
theorem key_aux {M x y z s b u : Nat} (hs : x ≤ y) (hu : u < M) (hsu : s ≤ u) (h : y * M + b ≤ z * M + u) : x * M + s ≤ z * M + u := by
  rcases Nat.lt_or_ge z x with c | c
  · have h1 : (z + 1) * M ≤ y * M := Nat.mul_le_mul_right M (by omega)
    rw [Nat.add_mul, Nat.one_mul] at h1
    omega
  · have h1 : x * M ≤ z * M := Nat.mul_le_mul_right M c
    omega
theorem key_le1 {s b u : Nat} (hs : pop s ≤ pop b) (hu : u < 1024) (hsu : s ≤ u) (h : key b ≤ key u) : key s ≤ key u := key_aux hs hu hsu h
section WM
variable {n : Nat} {K : Nat → Nat → Nat} {lk rf : Int32} {hol : Nat → Int32} {nr : Nat} {rb : Nat → Nat} {ns : Nat} {sb sh : Nat → Nat} {σ τ σ' τ' : ZS}
theorem pw_full (hn : n ≤ 10) : PW n K lk rf hol ns sb sh (2 ^ n - 1) := by
  intro k _
  by_cases c : ∃ i, i < 32 ∧ wS n K lk rf hol ns sb sh k i = true
  · obtain ⟨i, hi, hw⟩ := c
    refine Or.inr ⟨i, hi, hw, bt_full n (by omega) i ?_⟩
    unfold wS seeS at hw
    simp only [Bool.and_eq_true, decide_eq_true_eq] at hw
    exact hw.2.1
  · refine Or.inl (fun i hi => ?_)
    cases hw : wS n K lk rf hol ns sb sh k i with
    | false => rfl
    | true => exact absurd ⟨i, hi, hw⟩ c
theorem mfine_ok (h16 : ns ≤ 16) (h2 : τ.1 2 = nI ns) (h13 : ∀ k, k < ns → ∀ j, j < 32 → bt (τ.2.1 13 k) j = wS n K lk rf hol ns sb sh k j) {l1 : Int32} {s : Nat} (g : Bool) : Ok (f_X7_watchers_J70 l1 (nI s) (bI g) τ) (fun r => (r = .inl (nI s, nI s + (-1)) ∧ g = true ∧ PW n K lk rf hol ns sb sh s) ∨ (r = .inl (l1, nI s + (-1)) ∧ ¬ (g = true ∧ PW n K lk rf hol ns sb sh s))) := by
  unfold f_X7_watchers_J70
  refine oLoop (fun i t => t.2 = nI i ∧ ((t.1 = 1 ∧ g = true ∧ ∀ k, k < i → (∀ i, i < 32 → wS n K lk rf hol ns sb sh k i = false) ∨ ∃ i, i < 32 ∧ wS n K lk rf hol ns sb sh k i = true ∧ bt (nI s) i = true) ∨ (t.1 = 0 ∧ ¬ (g = true ∧ PW n K lk rf hol ns sb sh s)))) ns (by omega) ⟨rfl, ?_⟩ ?_ ?_
  · cases g with
    | true => exact Or.inl ⟨rfl, rfl, fun k hk => absurd hk (Nat.not_lt_zero k)⟩
    | false => exact Or.inr ⟨rfl, fun q => by cases q.1⟩
  · rintro i ⟨_, _⟩ hi ⟨rfl, ⟨rfl, hg, hk⟩ | ⟨rfl, hz⟩⟩
    · unfold f_X7_watchers_B74
      rw [h2]
      refine oLe _ _ (by omega) (by omega) (fun q => by omega) (fun _ => ?_)
      refine oF (show ¬ (1 : Int32) = 0 by decide) ?_
      refine oLd (by omega) (by omega) ?_
      refine oIte (fun z => ?_) (fun z => ?_)
      · unfold f_X7_watchers_J109
        refine oRet ⟨nI_1 i, Or.inl ⟨rfl, hg, fun k hk' => ?_⟩⟩
        rcases Nat.lt_or_ge k i with c | c
        · exact hk k c
        · have : k = i := by omega
          subst this
          exact Or.inl (fun j hj => by rw [← h13 k hi j hj]; exact b_zero.mp z j hj)
      · refine oLd (by omega) (by omega) ?_
        refine oIte (fun y => oRet ⟨nI_1 i, Or.inr ⟨rfl, fun q => ?_⟩⟩) (fun y => ?_)
        · rcases q.2 i hi with a | ⟨j, hj, a, b⟩
          · exact z (b_zero.mpr (fun j hj => by rw [h13 i hi j hj]; exact a j hj))
          · exact b_and0.mp y j hj ⟨by rw [h13 i hi j hj]; exact a, b⟩
        · unfold f_X7_watchers_J109
          refine oRet ⟨nI_1 i, Or.inl ⟨rfl, hg, fun k hk' => ?_⟩⟩
          rcases Nat.lt_or_ge k i with c | c
          · exact hk k c
          · have : k = i := by omega
            subst this
            by_cases c : ∃ j, j < 32 ∧ bt (τ.2.1 13 k) j = true ∧ bt (nI s) j = true
            · obtain ⟨j, hj, a, b⟩ := c
              exact Or.inr ⟨j, hj, by rw [← h13 k hi j hj]; exact a, b⟩
            · exact absurd (b_and0.mpr (fun j hj q => c ⟨j, hj, q⟩)) y
    · unfold f_X7_watchers_B74
      rw [h2]
      refine oLe _ _ (by omega) (by omega) (fun q => by omega) (fun _ => ?_)
      refine oT (show (0 : Int32) = 0 from rfl) (oWi ?_)
      unfold f_X7_watchers_J121
      exact oT (show (0 : Int32) = 0 from rfl) (oRet (Or.inr ⟨rfl, hz⟩))
  · rintro ⟨_, _⟩ ⟨rfl, ⟨rfl, hg, hk⟩ | ⟨rfl, hz⟩⟩
    · unfold f_X7_watchers_B74
      rw [h2]
      refine oLe _ _ (by omega) (by omega) (fun _ => oWi ?_) (fun q => by omega)
      unfold f_X7_watchers_J121
      exact oF (show ¬ (1 : Int32) = 0 by decide) (oRet (Or.inl ⟨rfl, hg, hk⟩))
    · unfold f_X7_watchers_B74
      rw [h2]
      refine oLe _ _ (by omega) (by omega) (fun _ => oWi ?_) (fun q => by omega)
      unfold f_X7_watchers_J121
      exact oT (show (0 : Int32) = 0 from rfl) (oRet (Or.inr ⟨rfl, hz⟩))
theorem mdown_ok (hn : n ≤ 10) (h16 : ns ≤ 16) (h0 : τ.1 0 = nI n) (h2 : τ.1 2 = nI ns) (h13 : ∀ k, k < ns → ∀ j, j < 32 → bt (τ.2.1 13 k) j = wS n K lk rf hol ns sb sh k j) : Ok (f_X7_watchers_J39 τ) (fun r => r.2 = τ ∧ Res n (PW n K lk rf hol ns sb sh) r.1) := by
  have h1024 := two10 hn
  have hpos : 1 ≤ 2 ^ n := Nat.one_le_two_pow
  unfold f_X7_watchers_J39
  rw [h0, one_shl n (by omega)]
  refine oLoop (fun i t => t.2 = nI (2 ^ n - i) - 1 ∧ ∃ b, t.1 = nI b ∧ b < 2 ^ n ∧ PW n K lk rf hol ns sb sh b ∧ ∀ u, 2 ^ n - i ≤ u → u < 2 ^ n → PW n K lk rf hol ns sb sh u → key b ≤ key u) (2 ^ n) (by omega) ⟨rfl, 2 ^ n - 1, nI_p1 hpos, by omega, pw_full hn, fun u h1 h2 => by omega⟩ ?_ ?_
  · rintro i ⟨_, _⟩ hi ⟨rfl, b, rfl, hb, hpb, hmin⟩
    have es : nI (2 ^ n - i) - 1 = nI (2 ^ n - (i + 1)) := by
      rw [nI_p1 (by omega)]
      rfl
    show Ok (f_X7_watchers_B50 τ (nI b, nI (2 ^ n - i) - 1)) _
    rw [es]
    generalize hs : 2 ^ n - (i + 1) = s
    have p1 := pop10 (s := s) (by omega)
    have p2 := pop10 (s := b) (by omega)
    unfold f_X7_watchers_B50
    refine oF (nI_pos (by omega)) ?_
    refine oBindE (ones_ok s (by omega)) ?_
    refine oBindE (ones_ok b (by omega)) ?_
    have fin : ∀ (g : Bool), (g = true ↔ pop s ≤ pop b) → Ok (f_X7_watchers_J70 (nI b) (nI s) (bI g) τ) (Sum.elim (fun t => t.2 = nI s - 1 ∧ ∃ b, t.1 = nI b ∧ b < 2 ^ n ∧ PW n K lk rf hol ns sb sh b ∧ ∀ u, s ≤ u → u < 2 ^ n → PW n K lk rf hol ns sb sh u → key b ≤ key u) (fun r : Int32 × ZS => r.2 = τ ∧ Res n (PW n K lk rf hol ns sb sh) r.1)) := by
      intro g hg
      refine oMono (mfine_ok h16 h2 h13 g) ?_
      rintro r (⟨rfl, g1, hp⟩ | ⟨rfl, hz⟩)
      · refine ⟨add_m1 _, s, rfl, by omega, hp, fun u h1 h2 h3 => ?_⟩
        have hps := hg.mp g1
        rcases Nat.lt_or_ge u (2 ^ n - i) with c | c
        · have : u = s := by omega
          rw [this]; exact Nat.le_refl _
        · exact key_le1 hps (by omega) (by omega) (hmin u c h2 h3)
      · refine ⟨add_m1 _, b, rfl, hb, hpb, fun u h1 h2 h3 => ?_⟩
        rcases Nat.lt_or_ge u (2 ^ n - i) with c | c
        · have : u = s := by omega
          subst this
          have hps : ¬ pop u ≤ pop b := fun q => hz ⟨hg.mpr q, h3⟩
          unfold key
          omega
        · exact hmin u c h2 h3
    refine oLt _ _ (by omega) (by omega) (fun q => ?_) (fun q => ?_)
    · exact fin false ⟨fun z => (by cases z), fun z => (by omega)⟩
    · exact fin true ⟨fun _ => q, fun _ => rfl⟩
  · rintro ⟨_, _⟩ ⟨rfl, b, rfl, hb, hpb, hmin⟩
    show Ok (f_X7_watchers_B50 τ (nI b, nI (2 ^ n - 2 ^ n) - 1)) _
    rw [Nat.sub_self]
    unfold f_X7_watchers_B50
    refine oT (show nI 0 - 1 < 0 by decide) (oWi (oRet ⟨rfl, Or.inl ⟨b, rfl, hb, hpb, fun u hu hp => hmin u (by omega) hu hp⟩⟩))
theorem mwatch_ok (h : RX n K lk rf hol nr rb ns sb sh σ τ) : Ok (f_X7_watchers τ) (fun r => PN τ r.2 ∧ Res n (PW n K lk rf hol ns sb sh) r.1) := by
  have hn := h.1.1
  have h16 := h.2.2.2.2.2.2.2.1
  unfold f_X7_watchers
  refine oLoop (fun i t => t.1 = nI i ∧ PN τ t.2 ∧ ∀ k, k < i → ∀ j, j < 32 → bt (t.2.2.1 13 k) j = wS n K lk rf hol ns sb sh k j) ns (by omega) ⟨rfl, PN.rf, fun k hk => absurd hk (Nat.not_lt_zero k)⟩ ?_ ?_
  · rintro i ⟨_, ρ⟩ hi ⟨rfl, hp, h13⟩
    have hp : PN τ ρ := hp
    have hR : RX n K lk rf hol nr rb ns sb sh σ ρ := h.keep PD.rf hp
    have e2 : ρ.1 2 = nI ns := hR.2.2.1.2.2.2.2.1
    unfold f_X7_watchers_B2
    show Ok (if ρ.1 2 ≤ nI i then _ else _) _
    rw [e2]
    refine oLe _ _ (by omega) (by omega) (fun q => by omega) (fun _ => ?_)
    refine oBindE (isFalse_ok hR hi).2 ?_
    have put : ∀ (ρ' : ZS) (v : Int32), PM ρ ρ' → (∀ j, j < 32 → bt v j = wS n K lk rf hol ns sb sh i j) → PN τ (setA ρ' 13 (nI i).toNatClampNeg v) ∧ ∀ k, k < i + 1 → ∀ j, j < 32 → bt ((setA ρ' 13 (nI i).toNatClampNeg v).2.1 13 k) j = wS n K lk rf hol ns sb sh k j := by
      intro ρ' v pm hv
      refine ⟨(hp.tr (PN.of pm)).tr (PN.A (by omega)), fun k hk j hj => ?_⟩
      rw [setA_s, nI_clamp (by omega)]
      rcases Nat.lt_or_ge k i with c | c
      · rw [pk_un (by omega), pm.2 13 (by omega)]
        exact h13 k c j hj
      · have : k = i := by omega
        subst this
        rw [show upd (ρ'.2.1 13) k v k = v from if_pos rfl]
        exact hv j hj
    refine oIte (fun q => ?_) (fun q => ?_)
    · have hf : flS hol sb sh i = false := bI_0.mp q
      refine oCkI (by omega) (by omega) (oRet ⟨nI_1 i, put ρ 0 PM.rf (fun j _ => ?_)⟩)
      unfold wS
      rw [hf, b_0]; rfl
    · have hf : flS hol sb sh i = true := by
        cases hc : flS hol sb sh i with
        | true => rfl
        | false => rw [hc] at q; exact absurd rfl q
      refine oBind (seenBy_ok hR hi) ?_
      rintro ⟨v, ρ'⟩ ⟨pm, hv⟩
      refine oCkI (by omega) (by omega) (oRet ⟨nI_1 i, put ρ' v pm (fun j hj => ?_)⟩)
      unfold wS
      rw [hf]; exact hv j hj
  · rintro ⟨_, ρ⟩ ⟨rfl, hp, h13⟩
    have hp : PN τ ρ := hp
    have hR : RX n K lk rf hol nr rb ns sb sh σ ρ := h.keep PD.rf hp
    have e2 : ρ.1 2 = nI ns := hR.2.2.1.2.2.2.2.1
    unfold f_X7_watchers_B2
    show Ok (if ρ.1 2 ≤ nI ns then _ else _) _
    rw [e2]
    refine oT (nI_le (Nat.le_refl _) (by omega)) (oWi ?_)
    refine oMono (mdown_ok hn h16 hR.2.2.1.1 e2 h13) ?_
    rintro ⟨v, _⟩ ⟨rfl, hr⟩
    exact ⟨hp, hr⟩
theorem watchers_same (h : RX n K lk rf hol nr rb ns sb sh σ τ) : Same (f_X6_watchers σ) (f_X7_watchers τ) := by
  obtain ⟨⟨v, σ1⟩, e1, p1, r1⟩ := cwatch_ok h
  obtain ⟨⟨w, τ1⟩, e2, p2, r2⟩ := mwatch_ok h
  have e : w = v := Res_uniq h.1.1 r2 r1
  exact h.same (v := v) ⟨_, e1, rfl, p1⟩ ⟨_, e2, e, p2⟩
end WM
