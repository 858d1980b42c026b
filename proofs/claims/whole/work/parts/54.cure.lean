/-! The fewest refusals that undo it: the class -/
def mayP (Sy : Nat → Nat → Bool) (a i : Nat) : Prop := ∃ j, j < 7 ∧ Sy ((64 + a) / 2 ^ j) i = true
def hzP (hol : Nat → Int32) (Sy : Nat → Nat → Bool) (a k i : Nat) : Prop := ∃ j, j < k ∧ HZ hol Sy ((64 + a) / 2 ^ j) ∧ Sy ((64 + a) / 2 ^ j) i = false
/-- with these refusing too, none is misled but such as say it -/
def PK (n : Nat) (K : Nat → Nat → Nat) (lk rf : Int32) (hol : Nat → Int32) (Sy : Nat → Nat → Bool) (a s : Nat) : Prop := ∀ i, i < 32 → sMis n K lk hol Sy (rf ||| nI s) a i = true → mayP Sy a i
def PH (n : Nat) (K : Nat → Nat → Nat) (lk rf : Int32) (hol : Nat → Int32) (Sy : Nat → Nat → Bool) (a s : Nat) : Prop := (∀ i, i < 32 → bt (nI s) i = true → (hzP hol Sy a 7 i ∧ bt rf i = false)) ∧ PK n K lk rf hol Sy a s
section CU
variable {n : Nat} {K : Nat → Nat → Nat} {lk rf : Int32} {hol : Nat → Int32} {nr : Nat} {rb : Nat → Nat} {ns : Nat} {sb sh : Nat → Nat} {σ τ σ' τ' : ZS} {Sy : Nat → Nat → Bool} {a : Nat}
theorem dn_blk (a i : Nat) : (64 + a) / 2 ^ i / 2 = (64 + a) / 2 ^ (i + 1) := by
  rw [Nat.div_div_eq_div_mul, Nat.pow_succ]
theorem dn_7 (ha : a < 64) : (64 + a) / 2 ^ 7 = 0 := Nat.div_eq_of_lt (by omega)
theorem allSayers_ok (E : EC n K lk hol Sy σ) (ha : a < 64) : Ok (f_X0_allSayers (nI a) σ) (fun r => ∀ i, i < 32 → (bt r i = true ↔ mayP Sy a i)) := by
  unfold f_X0_allSayers
  rw [show (64 : Int32) + nI a = nI (64 + a) from nI_add 64 a]
  refine oLoop (fun k t => t.2 = nI ((64 + a) / 2 ^ k) ∧ ∀ i, i < 32 → (bt t.1 i = true ↔ ∃ j, j < k ∧ Sy ((64 + a) / 2 ^ j) i = true)) 7 (by omega) ⟨by rw [Nat.pow_zero, Nat.div_one], fun i hi => ⟨fun q => (by rw [show bt (0, nI (64 + a)).1 i = false from b_0 i] at q; cases q), fun q => (by obtain ⟨j, hj, -⟩ := q; omega)⟩⟩ ?_ ?_
  · rintro k ⟨acc, _⟩ hk ⟨rfl, hacc⟩
    have hb := blk_in ha hk
    unfold f_X0_allSayers_B7
    refine oLt _ 1 (by omega) (by omega) (fun q => by omega) (fun _ => ?_)
    refine oBindE (sayers_ok E hb.1 hb.2) (oRet ⟨?_, fun i hi => ?_⟩)
    · show nI ((64 + a) / 2 ^ k) >>> ((1 : Int32) &&& 31) = _
      rw [shr1 (by omega), dn_blk]
    · show bt (acc ||| σ.2.1 11 ((64 + a) / 2 ^ k)) i = true ↔ _
      rw [b_or, Bool.or_eq_true, hacc i hi, E.2.2.2.2 _ hb.1 hb.2 i hi]
      constructor
      · rintro (⟨j, hj, q⟩ | q)
        · exact ⟨j, by omega, q⟩
        · exact ⟨k, by omega, q⟩
      · rintro ⟨j, hj, q⟩
        rcases Nat.lt_or_ge j k with c | c
        · exact Or.inl ⟨j, c, q⟩
        · have : j = k := by omega
          subst this
          exact Or.inr q
  · rintro ⟨acc, _⟩ ⟨rfl, hacc⟩
    unfold f_X0_allSayers_B7
    show Ok (if nI ((64 + a) / 2 ^ 7) < 1 then _ else _) _
    rw [dn_7 ha]
    exact oT (by decide) (oWi (oRet hacc))
theorem helpers_ok (E : EC n K lk hol Sy σ) (G : GI n K hol Sy) (h3 : σ.1 3 = rf) (ha : a < 64) : Ok (f_X0_helpers (nI a) σ) (fun r => ∀ i, i < 32 → (bt r i = true ↔ hzP hol Sy a 7 i ∧ bt rf i = false)) := by
  have hn := G.1
  unfold f_X0_helpers
  rw [show (64 : Int32) + nI a = nI (64 + a) from nI_add 64 a]
  refine oLoop (fun k t => t.2 = nI ((64 + a) / 2 ^ k) ∧ ∀ i, i < 32 → (bt t.1 i = true ↔ hzP hol Sy a k i)) 7 (by omega) ⟨by rw [Nat.pow_zero, Nat.div_one], fun i hi => ⟨fun q => (by rw [show bt (0, nI (64 + a)).1 i = false from b_0 i] at q; cases q), fun q => (by obtain ⟨j, hj, -⟩ := q; omega)⟩⟩ ?_ ?_
  · rintro k ⟨acc, _⟩ hk ⟨rfl, hacc⟩
    have hb := blk_in ha hk
    have next : ∀ {P : Int32 → Prop} (v : Int32), (∀ i, i < 32 → (bt v i = true ↔ bt acc i = true ∨ (HZ hol Sy ((64 + a) / 2 ^ k) ∧ Sy ((64 + a) / 2 ^ k) i = false))) → Ok (f_X0_helpers_J58 v (nI ((64 + a) / 2 ^ k)) σ) (Sum.elim (fun t : Int32 × Int32 => t.2 = nI ((64 + a) / 2 ^ (k + 1)) ∧ ∀ i, i < 32 → (bt t.1 i = true ↔ hzP hol Sy a (k + 1) i)) P) := by
      intro P v hv
      unfold f_X0_helpers_J58
      refine oRet ⟨?_, fun i hi => ?_⟩
      · show nI ((64 + a) / 2 ^ k) >>> ((1 : Int32) &&& 31) = _
        rw [shr1 (by omega), dn_blk]
      · show bt v i = true ↔ _
        rw [hv i hi, hacc i hi]
        constructor
        · rintro (⟨j, hj, q⟩ | q)
          · exact ⟨j, by omega, q⟩
          · exact ⟨k, by omega, q⟩
        · rintro ⟨j, hj, q⟩
          rcases Nat.lt_or_ge j k with c | c
          · exact Or.inl ⟨j, c, q⟩
          · have : j = k := by omega
            subst this
            exact Or.inr q
    have none : ¬ HZ hol Sy ((64 + a) / 2 ^ k) → ∀ i, i < 32 → (bt acc i = true ↔ bt acc i = true ∨ (HZ hol Sy ((64 + a) / 2 ^ k) ∧ Sy ((64 + a) / 2 ^ k) i = false)) := fun hz i _ => ⟨Or.inl, fun q => q.elim id (fun z => absurd z.1 hz)⟩
    unfold f_X0_helpers_B7
    refine oLt _ 1 (by omega) (by omega) (fun q => by omega) (fun _ => ?_)
    refine oBindE (owner_ok E hb.2) (oBindE (sayers_ok E hb.1 hb.2) ?_)
    rcases own8_lt G ((64 + a) / 2 ^ k) with ho | ⟨o, hon, ho⟩
    · refine oT ho (next acc (none ?_))
      rintro ⟨x, hx, -⟩
      unfold owO at hx
      rw [if_pos ho] at hx
      cases hx
    · rw [ho]
      have hO : owO hol ((64 + a) / 2 ^ k) = some o := by
        unfold owO
        rw [ho, if_neg (nI_m1 (by omega)), nI_clamp (by omega)]
      refine oF (nI_m1 (by omega)) (oBindE (bit_ok (by omega)) ?_)
      have hz : (σ.2.1 11 ((64 + a) / 2 ^ k) &&& (bm o ^^^ (-1))) = 0 ↔ ¬ HZ hol Sy ((64 + a) / 2 ^ k) := by
        rw [fine_iff (f := fun i => Sy ((64 + a) / 2 ^ k) i) (Q := fun i => i = o) (E.2.2.2.2 _ hb.1 hb.2) (fun i hi => by rw [b_bm o (by omega) i hi, decide_eq_true_eq])]
        constructor
        · rintro q ⟨x, hx, h, hh, hne⟩
          rw [hO] at hx
          cases hx
          exact hne (q h (by have := G.2.2.2.2.2 _ h hh; omega) hh)
        · intro q i _ hs
          by_cases c : i = o
          · exact c
          · exact absurd ⟨o, hO, i, hs, c⟩ q
      refine oIte (fun z => next acc (none (hz.mp z))) (fun z => next _ (fun i hi => ?_))
      have hzz : HZ hol Sy ((64 + a) / 2 ^ k) := Classical.byContradiction (fun q => z (hz.mpr q))
      rw [b_or, Bool.or_eq_true, b_not _ hi, E.2.2.2.2 _ hb.1 hb.2 i hi]
      constructor
      · rintro (q | q)
        · exact Or.inl q
        · exact Or.inr ⟨hzz, by simpa using q⟩
      · rintro (q | q)
        · exact Or.inl q
        · exact Or.inr (by rw [q.2]; rfl)
  · rintro ⟨acc, _⟩ ⟨rfl, hacc⟩
    unfold f_X0_helpers_B7
    show Ok (if nI ((64 + a) / 2 ^ 7) < 1 then _ else _) _
    rw [dn_7 ha]
    refine oT (by decide) (oWi ?_)
    unfold f_X0_helpers_J65
    refine oBindE (v := rf) (by unfold f_X1_refusing; rw [h3]) (oRet (fun i hi => ?_))
    show bt (acc &&& (rf ^^^ (-1))) i = true ↔ _
    rw [b_and, Bool.and_eq_true, hacc i hi, b_not _ hi]
    simp
/-- a set that does it holds one of helpers alone that does it, no greater -/
theorem PK.small {t : Nat} (hp : PK n K lk rf hol Sy a t) (h : Int32) (hh : ∀ i, i < 32 → (bt h i = true ↔ hzP hol Sy a 7 i ∧ bt rf i = false)) (hn : n ≤ 10) (ht : t < 2 ^ n) : ∃ u, u < 2 ^ n ∧ PH n K lk rf hol Sy a u ∧ key u ≤ key t := by
  have ey : ∀ i, bt h i = h.toBitVec.toNat.testBit i := fun i => rfl
  refine ⟨t &&& h.toBitVec.toNat, Nat.lt_of_le_of_lt Nat.and_le_left ht, ⟨fun i hi q => ?_, fun i hi q => hp i hi ?_⟩, key_and _ _⟩
  · rw [bt_nI hi, Nat.testBit_and, Bool.and_eq_true] at q
    exact (hh i hi).mp (by rw [ey]; exact q.2)
  · rw [← q]
    refine sMis_congr (fun j hj => sEnd_congr (fun x hx hs hd hz => hd ?_)) i
    have hx : x < 32 := by omega
    rw [b_or, b_or, bt_nI hx, bt_nI hx, Nat.testBit_and, ← ey]
    cases hr : bt rf x with
    | true => rfl
    | false =>
      rw [(hh x hx).mpr ⟨⟨j, hj, hz, hs⟩, hr⟩]
      simp
theorem Res.small {v : Int32} (hr : Res n (PH n K lk rf hol Sy a) v) (h : Int32) (hh : ∀ i, i < 32 → (bt h i = true ↔ hzP hol Sy a 7 i ∧ bt rf i = false)) (hn : n ≤ 10) : Res n (PK n K lk rf hol Sy a) v := by
  rcases hr with ⟨s, rfl, hs, hp, hm⟩ | ⟨rfl, hm⟩
  · refine Or.inl ⟨s, rfl, hs, hp.2, fun t ht hpt => ?_⟩
    obtain ⟨u, hu, hpu, hk⟩ := PK.small hpt h hh hn ht
    exact Nat.le_trans (hm u hu hpu) hk
  · refine Or.inr ⟨rfl, fun t ht hpt => ?_⟩
    obtain ⟨u, hu, hpu, -⟩ := PK.small hpt h hh hn ht
    exact hm u hu hpu
theorem ccure_ok (h : RX n K lk rf hol nr rb ns sb sh σ τ) (ha : a < 64) (hA : f_X6_isAddress (nI a) = some 1) : Ok (f_X6_cure (nI a) σ) (fun r => PD σ r.2 ∧ Res n (PK n K lk rf hol (syOf sb sh ns) a) r.1) := by
  have G := h.1
  have hn := G.1
  have h1024 := two10 hn
  unfold f_X6_cure
  refine oBindE hA (oF one_ne ?_)
  refine oBind (allSayers_ok h.2.1 ha) (fun m hm => ?_)
  refine oBind (helpers_ok h.2.1 G h.2.2.2.1.1 ha) (fun g hg => ?_)
  refine oMono (P := fun r => PD σ r.2 ∧ Res n (PH n K lk rf hol (syOf sb sh ns) a) r.1) ?_ (fun r hr => ⟨hr.1, hr.2.small g hg hn⟩)
  refine oLoop (fun i t => t.2.1 = nI i ∧ PD σ t.2.2 ∧ SI n (PH n K lk rf hol (syOf sb sh ns) a) i t.1) 1024 (by omega) ⟨rfl, PD.rf, SI_0⟩ ?_ ?_
  · rintro i ⟨v, _, ρ⟩ hi ⟨rfl, hp, hS⟩
    have hp : PD σ ρ := hp
    have hR : RX n K lk rf hol nr rb ns sb sh ρ τ := h.keep hp PN.rf
    unfold f_X6_cure_B34
    refine oF (show ¬ (1024 : Int32) ≤ nI i from nI_ge (b := 1024) (by omega) (by omega)) ?_
    rcases hS with ⟨s, rfl, hs, hc, hP⟩ | ⟨rfl, hP⟩
    · refine oF (nI_m1 (by omega)) ?_
      have next : ∀ ρ', PD σ ρ' → ¬ PH n K lk rf hol (syOf sb sh ns) a s → Ok (f_X6_cure_J97 (nI a) m g (nI s) (nI i) ρ') (Sum.elim (fun t : Int32 × Int32 × ZS => t.2.1 = nI (i + 1) ∧ PD σ t.2.2 ∧ SI n (PH n K lk rf hol (syOf sb sh ns) a) (i + 1) t.1) (fun r : Int32 × ZS => PD σ r.2 ∧ Res n (PH n K lk rf hol (syOf sb sh ns) a) r.1)) := by
        intro ρ' hp' hno
        unfold f_X6_cure_J97
        exact oBind (SI_step hn (h.keep hp' (PN.rf (τ := τ))).2.1.1 hs hc hP hno) (fun v hv => oRet ⟨nI_1 i, hp', hv⟩)
      have ht : (nI s &&& (g ^^^ (-1))) = 0 ↔ ∀ i, i < 32 → bt (nI s) i = true → (hzP hol (syOf sb sh ns) a 7 i ∧ bt rf i = false) := fine_iff (f := fun i => bt (nI s) i) (fun _ _ => rfl) hg
      refine oIte (fun z => ?_) (fun z => ?_)
      · unfold f_X6_cure_J62
        refine oF one_ne (oBindE (v := rf) (by unfold f_X1_refusing; rw [hR.2.2.2.1.1]) ?_)
        refine oBind (astray_ok hR.2.1 G ha (rf ||| nI s)) ?_
        rintro ⟨w, ρ'⟩ ⟨hp', hw⟩
        have hp' : PD ρ ρ' := hp'
        have ht2 : (w &&& (m ^^^ (-1))) = 0 ↔ PK n K lk rf hol (syOf sb sh ns) a s := fine_iff hw hm
        refine oIte (fun y => oWi (oRet ⟨hp.tr hp', Or.inl ⟨s, rfl, hs, ⟨ht.mp z, ht2.mp y⟩, fun t ht hpt => ?_⟩⟩)) (fun y => next ρ' (hp.tr hp') (fun q => y (ht2.mpr q.2)))
        rcases Nat.lt_or_ge (key t) (key s) with c | c
        · exact absurd hpt (hP t ht c)
        · exact c
      · unfold f_X6_cure_J62
        exact oT rfl (next ρ hp (fun q => z (ht.mpr q.1)))
    · exact oT rfl (oWi (oRet ⟨hp, Or.inr ⟨rfl, hP⟩⟩))
  · rintro ⟨v, _, ρ⟩ ⟨rfl, hp, hS⟩
    unfold f_X6_cure_B34
    refine oT (show (1024 : Int32) ≤ nI 1024 by decide) (oWi (oRet ⟨hp, ?_⟩))
    rcases hS with ⟨s, rfl, hs, hc, hP⟩ | ⟨rfl, hP⟩
    · have := below_lt hn hs
      omega
    · exact Or.inr ⟨rfl, hP⟩
end CU
/-! The same: the model -/
section CM
variable {n : Nat} {K : Nat → Nat → Nat} {lk rf : Int32} {hol : Nat → Int32} {nr : Nat} {rb : Nat → Nat} {ns : Nat} {sb sh : Nat → Nat} {σ τ σ' τ' : ZS} {a : Nat}
theorem mayP_iff (ha : a < 64) (hM : ∀ k, k < ns → 1 ≤ sb k ∧ sb k < 128) {i : Nat} : mayP (syOf sb sh ns) a i ↔ ∃ k, k < ns ∧ (64 + a) / 2 ^ (6 - lenOf (sb k)) = sb k ∧ sh k = i := by
  constructor
  · rintro ⟨j, hj, q⟩
    obtain ⟨k, hk, e1, e2⟩ := sy_iff.mp q
    refine ⟨k, hk, ?_, e2⟩
    have e3 : lenOf (sb k) = 6 - j := by
      have := (side_ok (6 - j) (by omega) a ha).2.1
      rw [show 6 - (6 - j) = j by omega] at this
      rw [e1, this]
    rw [e3, show 6 - (6 - j) = j by omega, e1]
  · rintro ⟨k, hk, e1, e2⟩
    have := len_lt (hM k hk)
    exact ⟨6 - lenOf (sb k), by omega, sy_iff.mpr ⟨k, hk, e1.symm, e2⟩⟩
theorem key_up {M x y s b : Nat} (h : x < y) (hs : s < M) : x * M + s ≤ y * M + b := by
  have h1 : (x + 1) * M ≤ y * M := Nat.mul_le_mul_right M (by omega)
  rw [Nat.add_mul, Nat.one_mul] at h1
  omega
theorem key_dn {M x y s b : Nat} (h : x ≤ y) (hs : s ≤ b) : x * M + s ≤ y * M + b := Nat.add_le_add (Nat.mul_le_mul_right M h) hs
theorem mscan_ok (h : RX n K lk rf hol nr rb ns sb sh σ τ) (ha : a < 64) {m : Int32} (hm : ∀ i, i < 32 → (bt m i = true ↔ mayP (syOf sb sh ns) a i)) : Ok (f_X7_cure_J75 (nI a) m τ) (fun r => PN τ r.2 ∧ Res n (PK n K lk rf hol (syOf sb sh ns) a) r.1) := by
  have G := h.1
  have hn := G.1
  have h1024 := two10 hn
  unfold f_X7_cure_J75
  refine oLoop (fun i t => t.2.1 = nI i ∧ PN τ t.2.2 ∧ ((t.1 = -1 ∧ ∀ u, u < i → ¬ PK n K lk rf hol (syOf sb sh ns) a u) ∨ ∃ b, t.1 = nI b ∧ b < i ∧ PK n K lk rf hol (syOf sb sh ns) a b ∧ ∀ u, u < i → PK n K lk rf hol (syOf sb sh ns) a u → key b ≤ key u)) (2 ^ n) (by omega) ⟨rfl, PN.rf, Or.inl ⟨rfl, fun u hu => absurd hu (Nat.not_lt_zero u)⟩⟩ ?_ ?_
  · rintro i ⟨v, _, ρ⟩ hi ⟨rfl, hp, hB⟩
    have hp : PN τ ρ := hp
    have hR : RX n K lk rf hol nr rb ns sb sh σ ρ := h.keep PD.rf hp
    have try_ : ∀ (P : Int32 × Int32 × ZS → Prop) (Q : Int32 × ZS → Prop), (∀ ρ', PN τ ρ' → PK n K lk rf hol (syOf sb sh ns) a i → P (nI i, nI i + 1, ρ')) → (∀ ρ', PN τ ρ' → ¬ PK n K lk rf hol (syOf sb sh ns) a i → P (v, nI i + 1, ρ')) → Ok (f_X7_cure_J108 (nI a) m v (nI i) ρ) (Sum.elim P Q) := by
      intro P Q h1 h2
      unfold f_X7_cure_J108
      rw [hR.2.2.2.1.2]
      refine oBind (misledBy_ok hR.2.2.1 G ha (rf ||| nI i)) ?_
      rintro ⟨w, ρ'⟩ ⟨hp', hw⟩
      have ht2 : (w &&& (m ^^^ (-1))) = 0 ↔ PK n K lk rf hol (syOf sb sh ns) a i := fine_iff hw hm
      exact oIte (fun y => oRet (h1 ρ' (hp.tr hp') (ht2.mp y))) (fun y => oRet (h2 ρ' (hp.tr hp') (fun q => y (ht2.mpr q))))
    unfold f_X7_cure_B80
    show Ok (if (1 : Int32) <<< (ρ.1 0 &&& 31) ≤ nI i then _ else _) _
    rw [hR.2.2.1.1, one_shl n (by omega)]
    refine oLe _ _ (by omega) (by omega) (fun q => by omega) (fun _ => ?_)
    rcases hB with ⟨rfl, hno⟩ | ⟨b, rfl, hb, hpb, hmin⟩
    · refine oT rfl (try_ _ _ (fun ρ' hp' q => ⟨nI_1 i, hp', Or.inr ⟨i, rfl, by omega, q, fun u hu hpu => ?_⟩⟩) (fun ρ' hp' q => ⟨nI_1 i, hp', Or.inl ⟨rfl, fun u hu => ?_⟩⟩))
      · rcases Nat.lt_or_ge u i with c | c
        · exact absurd hpu (hno u c)
        · rw [show u = i by omega]; exact Nat.le_refl _
      · rcases Nat.lt_or_ge u i with c | c
        · exact hno u c
        · rw [show u = i by omega]; exact q
    · have p1 := pop10 (s := i) (by omega)
      have p2 := pop10 (s := b) (by omega)
      refine oF (nI_m1 (by omega)) (oBindE (ones_ok i (by omega)) (oBindE (ones_ok b (by omega)) ?_))
      refine oLe _ _ (by omega) (by omega) (fun q => ?_) (fun q => ?_)
      · refine oRet ⟨nI_1 i, hp, Or.inr ⟨b, rfl, by omega, hpb, fun u hu hpu => ?_⟩⟩
        rcases Nat.lt_or_ge u i with c | c
        · exact hmin u c hpu
        · rw [show u = i by omega]; exact key_dn q (by omega)
      · refine try_ _ _ (fun ρ' hp' z => ⟨nI_1 i, hp', Or.inr ⟨i, rfl, by omega, z, fun u hu hpu => ?_⟩⟩) (fun ρ' hp' z => ⟨nI_1 i, hp', Or.inr ⟨b, rfl, by omega, hpb, fun u hu hpu => ?_⟩⟩)
        · rcases Nat.lt_or_ge u i with c | c
          · exact Nat.le_trans (key_up q (by omega)) (hmin u c hpu)
          · rw [show u = i by omega]; exact Nat.le_refl _
        · rcases Nat.lt_or_ge u i with c | c
          · exact hmin u c hpu
          · rw [show u = i by omega] at hpu
            exact absurd hpu z
  · rintro ⟨v, _, ρ⟩ ⟨rfl, hp, hB⟩
    have hp : PN τ ρ := hp
    have hR : RX n K lk rf hol nr rb ns sb sh σ ρ := h.keep PD.rf hp
    unfold f_X7_cure_B80
    show Ok (if (1 : Int32) <<< (ρ.1 0 &&& 31) ≤ nI (2 ^ n) then _ else _) _
    rw [hR.2.2.1.1, one_shl n (by omega)]
    refine oT (nI_le (Nat.le_refl _) (by omega)) (oWi (oRet ⟨hp, ?_⟩))
    rcases hB with ⟨rfl, hno⟩ | ⟨b, rfl, hb, hpb, hmin⟩
    · exact Or.inr ⟨rfl, hno⟩
    · exact Or.inl ⟨b, rfl, hb, hpb, hmin⟩
theorem mcure_ok (h : RX n K lk rf hol nr rb ns sb sh σ τ) (ha : a < 64) (hA : f_X7_in (nI a) 0 63 = some 1) : Ok (f_X7_cure (nI a) τ) (fun r => PN τ r.2 ∧ Res n (PK n K lk rf hol (syOf sb sh ns) a) r.1) := by
  have M := h.2.2.1.2.2.2.2
  have h18 := M.2.1
  unfold f_X7_cure
  refine oBindE hA (oF one_ne ?_)
  refine oLoop (fun k t => t.2 = nI k ∧ ∀ i, i < 32 → (bt t.1 i = true ↔ ∃ j, j < k ∧ (64 + a) / 2 ^ (6 - lenOf (sb j)) = sb j ∧ sh j = i)) ns (by omega) ⟨rfl, fun i hi => ⟨fun q => (by rw [show bt (0, (0 : Int32)).1 i = false from b_0 i] at q; cases q), fun q => (by obtain ⟨j, hj, -⟩ := q; omega)⟩⟩ ?_ ?_
  · rintro k ⟨acc, _⟩ hk ⟨rfl, hacc⟩
    obtain ⟨hb, hh, e5, e6, e7⟩ := M.2.2 k hk
    obtain ⟨s1, s2, s3, s4, s5⟩ := side_ok (lenOf (sb k)) (len_lt hb) a ha
    have next : ∀ {P : Int32 × ZS → Prop} (v : Int32), (∀ i, i < 32 → (bt v i = true ↔ bt acc i = true ∨ ((64 + a) / 2 ^ (6 - lenOf (sb k)) = sb k ∧ sh k = i))) → Ok (some (.inl (v, nI k + 1)) : Option ((Int32 × Int32) ⊕ (Int32 × ZS))) (Sum.elim (fun t : Int32 × Int32 => t.2 = nI (k + 1) ∧ ∀ i, i < 32 → (bt t.1 i = true ↔ ∃ j, j < k + 1 ∧ (64 + a) / 2 ^ (6 - lenOf (sb j)) = sb j ∧ sh j = i)) P) := by
      intro P v hv
      refine oRet ⟨nI_1 k, fun i hi => ?_⟩
      show bt v i = true ↔ _
      rw [hv i hi, hacc i hi]
      constructor
      · rintro (⟨j, hj, q⟩ | q)
        · exact ⟨j, by omega, q⟩
        · exact ⟨k, by omega, q⟩
      · rintro ⟨j, hj, q⟩
        rcases Nat.lt_or_ge j k with c | c
        · exact Or.inl ⟨j, c, q⟩
        · have : j = k := by omega
          subst this
          exact Or.inr q
    unfold f_X7_cure_B17
    show Ok (if τ.1 2 ≤ nI k then _ else _) _
    rw [M.1]
    refine oLe _ _ (by omega) (by omega) (fun q => by omega) (fun _ => ?_)
    refine oLd (by omega) (by omega) ?_
    rw [e5]
    refine oCk s5 (oLd (by omega) (by omega) ?_)
    rw [s1, e6]
    have f1 := fst_lt (b := (64 + a) / 2 ^ (6 - lenOf (sb k))) ⟨s3, s4⟩
    have f2 := fst_lt hb
    refine oNe _ _ (by omega) (by omega) (fun q => ?_) (fun q => ?_)
    · have eb : (64 + a) / 2 ^ (6 - lenOf (sb k)) = sb k := blk_eq ⟨s3, s4⟩ hb s2 q
      refine oLd (by omega) (by omega) ?_
      rw [e7]
      refine next _ (fun i hi => ?_)
      rw [b_or, Bool.or_eq_true, show bt ((1 : Int32) <<< (nI (sh k) &&& 31)) i = decide (i = sh k) from b_bm (sh k) (by omega) i hi, decide_eq_true_eq]
      exact ⟨fun z => z.imp id (fun y => ⟨eb, y.symm⟩), fun z => z.imp id (fun y => y.2.symm)⟩
    · refine next _ (fun i hi => ?_)
      rw [b_or, b_0, Bool.or_false]
      exact ⟨Or.inl, fun z => z.elim id (fun y => absurd (by rw [y.1]) q)⟩
  · rintro ⟨acc, _⟩ ⟨rfl, hacc⟩
    unfold f_X7_cure_B17
    show Ok (if τ.1 2 ≤ nI ns then _ else _) _
    rw [M.1]
    refine oT (nI_le (Nat.le_refl _) (by omega)) (oWi ?_)
    exact mscan_ok h ha (fun i hi => (hacc i hi).trans (mayP_iff ha (fun k hk => (M.2.2 k hk).1)).symm)
theorem cure_same (h : RX n K lk rf hol nr rb ns sb sh σ τ) (x : Int32) : Same (f_X6_cure x σ) (f_X7_cure x τ) := by
  rcases addr_cases x with ⟨a1, a2⟩ | ⟨b, hb, rfl, a1, a2⟩
  · refine h.same (v := -2) ?_ ?_
    · unfold f_X6_cure
      exact oBindE a1 (oT rfl (oRet ⟨rfl, PD.rf⟩))
    · unfold f_X7_cure
      exact oBindE a2 (oT rfl (oRet ⟨rfl, PN.rf⟩))
  · obtain ⟨⟨v, σ1⟩, e1, p1, r1⟩ := ccure_ok h hb a1
    obtain ⟨⟨w, τ1⟩, e2, p2, r2⟩ := mcure_ok h hb a2
    have e : w = v := Res_uniq h.1.1 r2 r1
    exact h.same (v := v) ⟨_, e1, rfl, p1⟩ ⟨_, e2, e, p2⟩
end CM
