/-! The fewest watchers: the class -/
theorem b_zero {x : Int32} : x = 0 ↔ ∀ i, i < 32 → bt x i = false := ⟨fun h i _ => by rw [h]; exact b_0 i, fun h => b_ext (fun i hi => by rw [h i hi, b_0])⟩
theorem b_and0 {x y : Int32} : (x &&& y) = 0 ↔ ∀ i, i < 32 → ¬ (bt x i = true ∧ bt y i = true) := by
  rw [b_zero]
  constructor
  · intro h i hi q
    have := h i hi
    rw [b_and, q.1, q.2] at this
    cases this
  · intro h i hi
    rw [b_and]
    cases ha : bt x i with
    | false => rfl
    | true => cases hb : bt y i with
      | false => rfl
      | true => exact absurd ⟨ha, hb⟩ (h i hi)
/-- who sees the k-th saying, if it is a false one -/
def wS (n : Nat) (K : Nat → Nat → Nat) (lk rf : Int32) (hol : Nat → Int32) (ns : Nat) (sb sh : Nat → Nat) (k i : Nat) : Bool := flS hol sb sh k && seeS n K lk hol (syOf sb sh ns) rf sb sh k i
/-- the set meets all that are seen -/
def PW (n : Nat) (K : Nat → Nat → Nat) (lk rf : Int32) (hol : Nat → Int32) (ns : Nat) (sb sh : Nat → Nat) (s : Nat) : Prop := ∀ k, k < ns → (∀ i, i < 32 → wS n K lk rf hol ns sb sh k i = false) ∨ ∃ i, i < 32 ∧ wS n K lk rf hol ns sb sh k i = true ∧ bt (nI s) i = true
section WA
variable {n : Nat} {K : Nat → Nat → Nat} {lk rf : Int32} {hol : Nat → Int32} {nr : Nat} {rb : Nat → Nat} {ns : Nat} {sb sh : Nat → Nat} {σ τ σ' τ' : ZS}
def NS (n : Nat) (K : Nat → Nat → Nat) (lk rf : Int32) (hol : Nat → Int32) (ns : Nat) (sb sh : Nat → Nat) (k m : Nat) (g : Nat → Int32) : Prop := (∀ j, j < m → ∃ q, q < k ∧ g j ≠ 0 ∧ ∀ i, i < 32 → bt (g j) i = wS n K lk rf hol ns sb sh q i) ∧ ∀ q, q < k → (∀ i, i < 32 → wS n K lk rf hol ns sb sh q i = false) ∨ ∃ j, j < m ∧ ∀ i, i < 32 → bt (g j) i = wS n K lk rf hol ns sb sh q i
theorem NS.zero {k m : Nat} {g : Nat → Int32} (h : NS n K lk rf hol ns sb sh k m g) (hz : ∀ i, i < 32 → wS n K lk rf hol ns sb sh k i = false) : NS n K lk rf hol ns sb sh (k + 1) m g := by
  refine ⟨fun j hj => ?_, fun q hq => ?_⟩
  · obtain ⟨q, a, b, c⟩ := h.1 j hj
    exact ⟨q, by omega, b, c⟩
  · rcases Nat.lt_or_ge q k with c | c
    · exact h.2 q c
    · have : q = k := by omega
      subst this
      exact Or.inl hz
theorem NS.some {k m : Nat} {g : Nat → Int32} {v : Int32} (h : NS n K lk rf hol ns sb sh k m g) (hv : v ≠ 0) (hz : ∀ i, i < 32 → bt v i = wS n K lk rf hol ns sb sh k i) : NS n K lk rf hol ns sb sh (k + 1) (m + 1) (upd g m v) := by
  have e1 : upd g m v m = v := if_pos rfl
  have e2 : ∀ j, j < m → upd g m v j = g j := fun j hj => pk_un (by omega)
  refine ⟨fun j hj => ?_, fun q hq => ?_⟩
  · rcases Nat.lt_or_ge j m with c | c
    · obtain ⟨q, a, b, c⟩ := h.1 j c
      rw [e2 j (by omega)]
      exact ⟨q, by omega, b, c⟩
    · have : j = m := by omega
      subst this
      rw [e1]
      exact ⟨k, by omega, hv, hz⟩
  · rcases Nat.lt_or_ge q k with c | c
    · rcases h.2 q c with a | ⟨j, a, b⟩
      · exact Or.inl a
      · exact Or.inr ⟨j, by omega, by rw [e2 j a]; exact b⟩
    · have : q = k := by omega
      subst this
      exact Or.inr ⟨m, by omega, by rw [e1]; exact hz⟩
theorem noteSeers_ok (h : RX n K lk rf hol nr rb ns sb sh σ τ) : Ok (f_X6_noteSeersOfFalse σ) (fun r => ∃ m, m ≤ 16 ∧ r.1 = nI m ∧ PD σ r.2 ∧ NS n K lk rf hol ns sb sh ns m (r.2.2.1 6)) := by
  have h5 := h.2.2.2.2.2.2.1
  have h16 := h.2.2.2.2.2.2.2.1
  unfold f_X6_noteSeersOfFalse
  refine oLoop (fun i t => ∃ m, m ≤ i ∧ t.1 = nI m ∧ t.2.1 = nI i ∧ PD σ t.2.2 ∧ NS n K lk rf hol ns sb sh i m (t.2.2.2.1 6)) ns (by omega) ⟨0, Nat.le_refl _, rfl, rfl, PD.rf, fun j hj => absurd hj (Nat.not_lt_zero j), fun j hj => absurd hj (Nat.not_lt_zero j)⟩ ?_ ?_
  · rintro i ⟨_, _, ρ⟩ hi ⟨m, hm, rfl, rfl, hp, hN⟩
    have hR : RX n K lk rf hol nr rb ns sb sh ρ τ := h.keep hp PN.rf
    have e5 : f_X3_number ρ = some (nI ns) := by
      show some (ρ.1 5) = _
      rw [hR.2.2.2.2.2.2.1]
    unfold f_X6_noteSeersOfFalse_B4
    refine oBindE e5 ?_
    refine oLe _ _ (by omega) (by omega) (fun q => by omega) (fun _ => ?_)
    refine oF (show ¬ (16 : Int32) ≤ nI m from nI_ge (b := 16) (by omega) (by omega)) ?_
    refine oBindE (isFalse_ok hR hi).1 ?_
    refine oIte (fun q => ?_) (fun q => ?_)
    · have hf : flS hol sb sh i = false := bI_0.mp q
      unfold f_X6_noteSeersOfFalse_J41
      refine oT rfl (oRet ⟨m, by omega, rfl, nI_1 i, hp, hN.zero (fun j _ => ?_)⟩)
      unfold wS
      rw [hf]; rfl
    · have hf : flS hol sb sh i = true := by
        cases hc : flS hol sb sh i with
        | true => rfl
        | false => rw [hc] at q; exact absurd rfl q
      have hw : ∀ j, wS n K lk rf hol ns sb sh i j = seeS n K lk hol (syOf sb sh ns) rf sb sh i j := fun j => by
        unfold wS
        rw [hf]; rfl
      refine oBind (seersOf_ok hR hi) ?_
      rintro ⟨v, ρ'⟩ ⟨pc, hv⟩
      have hv : ∀ j, j < 32 → bt v j = wS n K lk rf hol ns sb sh i j := fun j hj => by rw [hw]; exact hv j hj
      have e6 : ρ'.2.1 6 = ρ.2.1 6 := pc.2 6 (by omega)
      have hp' : PD σ ρ' := hp.tr (PD.of pc)
      unfold f_X6_noteSeersOfFalse_J41
      refine oIte (fun z => oRet ⟨m, by omega, rfl, nI_1 i, hp', ?_⟩) (fun z => oCkI (by omega) (by omega) (oRet ⟨m + 1, by omega, nI_1 m, nI_1 i, ?_, ?_⟩))
      · show NS n K lk rf hol ns sb sh (i + 1) m (ρ'.2.1 6)
        rw [e6]
        exact hN.zero (fun j hj => by rw [← hv j hj]; exact b_zero.mp z j hj)
      · exact hp'.tr (PD.A (by omega))
      · show NS n K lk rf hol ns sb sh (i + 1) (m + 1) ((setA ρ' 6 (nI m).toNatClampNeg v).2.1 6)
        rw [setA_s, nI_clamp (by omega), e6]
        exact hN.some z hv
  · rintro ⟨_, _, ρ⟩ ⟨m, hm, rfl, rfl, hp, hN⟩
    have e5 : f_X3_number ρ = some (nI ns) := by
      show some (ρ.1 5) = _
      rw [(h.keep hp PN.rf).2.2.2.2.2.2.1]
    unfold f_X6_noteSeersOfFalse_B4
    refine oBindE e5 ?_
    refine oLe _ _ (by omega) (by omega) (fun _ => oWi (oRet ⟨m, by omega, rfl, hp, hN⟩)) (fun q => by omega)
theorem meetsAll_ok {x : Int32} {m : Nat} (hm : m ≤ 16) : Ok (f_X6_meetsAll x (nI m) σ) (fun r => (r = 0 ∧ ∃ j, j < m ∧ (σ.2.1 6 j &&& x) = 0) ∨ (r = 1 ∧ ∀ j, j < m → (σ.2.1 6 j &&& x) ≠ 0)) := by
  unfold f_X6_meetsAll
  refine oLoop (fun i t => t = nI i ∧ ∀ j, j < i → (σ.2.1 6 j &&& x) ≠ 0) m (by omega) ⟨rfl, fun j hj => absurd hj (Nat.not_lt_zero j)⟩ ?_ ?_
  · rintro i t hi ⟨rfl, hj⟩
    unfold f_X6_meetsAll_B2
    refine oLe _ _ (by omega) (by omega) (fun q => by omega) (fun _ => ?_)
    refine oF (show ¬ (16 : Int32) ≤ nI i from nI_ge (b := 16) (by omega) (by omega)) ?_
    refine oLd (by omega) (by omega) ?_
    refine oIte (fun z => oWi (oRet (Or.inl ⟨rfl, i, hi, z⟩))) (fun z => oRet ⟨nI_1 i, fun j hj' => ?_⟩)
    rcases Nat.lt_or_ge j i with c | c
    · exact hj j c
    · have : j = i := by omega
      subst this
      exact z
  · rintro t ⟨rfl, hj⟩
    unfold f_X6_meetsAll_B2
    refine oLe _ _ (by omega) (by omega) (fun _ => oWi (oRet (Or.inr ⟨rfl, hj⟩))) (fun q => by omega)
theorem NS.pw {m s : Nat} {g : Nat → Int32} (h : NS n K lk rf hol ns sb sh ns m g) : PW n K lk rf hol ns sb sh s ↔ ∀ j, j < m → (g j &&& nI s) ≠ 0 := by
  constructor
  · intro hP j hj hz
    obtain ⟨q, hq, hg, hb⟩ := h.1 j hj
    rcases hP q hq with a | ⟨i, hi, a, b⟩
    · exact hg (b_zero.mpr (fun i hi => by rw [hb i hi]; exact a i hi))
    · exact b_and0.mp hz i hi ⟨by rw [hb i hi]; exact a, b⟩
  · intro hg q hq
    rcases h.2 q hq with a | ⟨j, hj, hb⟩
    · exact Or.inl a
    · refine Or.inr ?_
      have := hg j hj
      by_cases c : ∃ i, i < 32 ∧ bt (g j) i = true ∧ bt (nI s) i = true
      · obtain ⟨i, hi, a, b⟩ := c
        exact ⟨i, hi, by rw [← hb i hi]; exact a, b⟩
      · exact absurd (b_and0.mpr (fun i hi q => c ⟨i, hi, q⟩)) this
theorem cwatch_ok (h : RX n K lk rf hol nr rb ns sb sh σ τ) : Ok (f_X6_watchers σ) (fun r => PD σ r.2 ∧ Res n (PW n K lk rf hol ns sb sh) r.1) := by
  have hn := h.1.1
  have h1024 := two10 hn
  unfold f_X6_watchers
  refine oBind (noteSeers_ok h) ?_
  rintro ⟨_, ρ⟩ ⟨m, hm, rfl, hp, hN⟩
  have hN : NS n K lk rf hol ns sb sh ns m (ρ.2.1 6) := hN
  have hR : RX n K lk rf hol nr rb ns sb sh ρ τ := h.keep hp PN.rf
  refine oLoop (fun i t => t.2 = nI i ∧ SI n (PW n K lk rf hol ns sb sh) i t.1) 1024 (by omega) ⟨rfl, SI_0⟩ ?_ ?_
  · rintro i ⟨v, _⟩ hi ⟨rfl, hS⟩
    unfold f_X6_watchers_B9
    refine oF (show ¬ (1024 : Int32) ≤ nI i from nI_ge (b := 1024) (by omega) (by omega)) ?_
    rcases hS with ⟨s, rfl, hs, hc, hP⟩ | ⟨rfl, hP⟩
    · refine oF (nI_m1 (by omega)) ?_
      refine oBind (meetsAll_ok hm) ?_
      rintro r (⟨rfl, j, hj, hz⟩ | ⟨rfl, hz⟩)
      · refine oT rfl ?_
        refine oBind (SI_step hn hR.2.1.1 hs hc hP (fun q => hN.pw.mp q j hj hz)) (fun v hv => oRet ⟨nI_1 i, hv⟩)
      · refine oF (by decide) (oWi (oRet ⟨hp, Or.inl ⟨s, rfl, hs, hN.pw.mpr hz, fun t ht hpt => ?_⟩⟩))
        rcases Nat.lt_or_ge (key t) (key s) with c | c
        · exact absurd hpt (hP t ht c)
        · exact c
    · exact oT rfl (oWi (oRet ⟨hp, Or.inr ⟨rfl, hP⟩⟩))
  · rintro ⟨v, _⟩ ⟨rfl, hS⟩
    unfold f_X6_watchers_B9
    refine oT (show (1024 : Int32) ≤ nI 1024 by decide) (oWi (oRet ⟨hp, ?_⟩))
    rcases hS with ⟨s, rfl, hs, hc, hP⟩ | ⟨rfl, hP⟩
    · have := below_lt hn hs
      omega
    · exact Or.inr ⟨rfl, hP⟩
end WA
