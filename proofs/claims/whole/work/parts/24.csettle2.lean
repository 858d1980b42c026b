theorem lg_cmp_0 {x y : Int64} : lg_cmp x y = 0 ↔ x = y := lg_cmp_eq x y
/-- the way by one of the others -/
def nW (W : Nat → List Nat) (h : Nat) (o : Option Nat) : List Nat := match o with
  | none => []
  | some t => h :: W t
theorem oStep {τ ρ : Type} {body : τ → Option (τ ⊕ ρ)} {P : ρ → Prop} {F : Nat} {t : τ} (h : Ok (body t) (fun u => Ok (lk F body u) P)) : Ok (lp (F + 1) body t) P := by
  obtain ⟨u, hu, hk⟩ := h
  have e : lp (F + 1) body t = lk F body u := by
    conv => lhs; unfold lp
    rw [hu]
    cases u <;> rfl
  rw [e]; exact hk
/-- a way among the ways of a table -/
def eR (σ : ZS) (B h : Nat) (l : List Nat) : Prop := σ.2.2 B h = lN (enc l) ∧ σ.2.1 (B + 1) h = nI l.length ∧ σ.2.1 (B + 2) h = lst l ∧ ∀ i, i < 32 → bt (σ.2.1 (B + 3) h) i = decide (i ∈ l)
/-- one row of the table now is written -/
def w4 (σ : ZS) (h : Nat) (e : Int64) (n la me : Int32) : ZS := setA (setA (setA (setL σ 15 h e) 16 h n) 17 h la) 18 h me
theorem w4_in {σ : ZS} {h : Nat} {l : List Nat} {me : Int32} (hm : ∀ i, i < 32 → bt me i = decide (i ∈ l)) : eR (w4 σ h (lN (enc l)) (nI l.length) (lst l) me) 15 h l := ⟨pk_uLs, pk_us, pk_us, fun i hi => by
  show bt (upd (σ.2.1 18) h me h) i = _
  rw [pk_us]; exact hm i hi⟩
theorem w4_out {σ : ZS} {h x : Nat} {e : Int64} {n la me : Int32} {l : List Nat} (hx : x ≠ h) (q : eR σ 15 x l) : eR (w4 σ h e n la me) 15 x l := by
  obtain ⟨q1, q2, q3, q4⟩ := q
  refine ⟨(pk_uLn hx).trans q1, (pk_un hx).trans q2, (pk_un hx).trans q3, fun i hi => ?_⟩
  show bt (upd (σ.2.1 18) h me x) i = _
  rw [pk_un hx]; exact q4 i hi
theorem w4_b {σ : ZS} {h : Nat} {e : Int64} {n la me : Int32} {W : Nat → List Nat} (q : eW σ 19 W) : eW (w4 σ h e n la me) 19 W := q
theorem w4_pc {σ : ZS} {h : Nat} {e : Int64} {n la me : Int32} : PC σ (w4 σ h e n la me) := ((PC.L.tr (PC.A (by omega))).tr (PC.A (by omega))).tr (PC.A (by omega))
theorem begin_step (sm : Int32) (S : Nat → Bool) (hs : ∀ h, h < 32 → bt sm h = S h) (τ : ZS) {h : Nat} (hh : h < 10) : ∃ me, f_X5_begin_n_B2 sm (nI h, τ) = some (.inl (nI (h + 1), w4 τ h (lN (enc (sInit S h))) (nI (sInit S h).length) (lst (sInit S h)) me)) ∧ ∀ i, i < 32 → bt me i = decide (i ∈ sInit S h) := by
  have hc : (nI h).toNatClampNeg = h := nI_clamp (by omega)
  unfold f_X5_begin_n_B2
  rw [if_neg (show ¬ (10 : Int32) ≤ nI h from nI_ge (b := 10) hh (by omega))]
  cases hS : S h with
  | true =>
    have e : sInit S h = [h] := by unfold sInit; rw [hS]; rfl
    rw [e]
    refine ⟨bm h, ?_, fun i hi => by rw [b_bm h (by omega) i hi]; simp⟩
    apply oEq
    refine oBindE (hasBit_ok sm hh) ?_
    rw [hs h (by omega), hS]
    refine oF (by decide) ?_
    unfold f_X5_begin_n_J29 f_X5_begin_n_J44 f_X5_begin_n_J59
    refine oCkI hh (by omega) (oF (by decide) (oCkI hh (by omega) (oF (by decide) (oCkI hh (by omega) (oF (by decide) (oBindE (bit_ok hh) (oCkI hh (by omega) (oRet ?_))))))))
    have e1 : enc [h] = h := by show 0 * 16 + h = h; omega
    rw [hc, nI_1, nI_l (by omega), e1]
    rfl
  | false =>
    have e : sInit S h = [] := by unfold sInit; rw [hS]; rfl
    rw [e]
    refine ⟨0, ?_, fun i hi => by rw [b_0]; simp⟩
    apply oEq
    refine oBindE (hasBit_ok sm hh) ?_
    rw [hs h (by omega), hS]
    refine oT rfl ?_
    unfold f_X5_begin_n_J29 f_X5_begin_n_J44 f_X5_begin_n_J59
    refine oCkI hh (by omega) (oT rfl (oCkI hh (by omega) (oT rfl (oCkI hh (by omega) (oT rfl (oCkI hh (by omega) (oRet ?_)))))))
    rw [hc, nI_1]
    rfl
theorem begin_ok (sm : Int32) (S : Nat → Bool) (hs : ∀ h, h < 32 → bt sm h = S h) (σ : ZS) : Ok (f_X5_begin_n sm σ) (fun τ => PC σ τ ∧ τ.1 = σ.1 ∧ eW τ 15 (sInit S)) := by
  unfold f_X5_begin_n
  refine oLoop (fun i t => t.1 = nI i ∧ PC σ t.2 ∧ t.2.1 = σ.1 ∧ ∀ x, x < i → eR t.2 15 x (sInit S x)) 10 (by omega) ⟨rfl, PC.rf, rfl, fun x hx => by omega⟩ ?_ ?_
  · intro i t hi hI
    obtain ⟨j, τ⟩ := t
    obtain ⟨hj, h1, h2, h3⟩ := hI
    have hj : j = nI i := hj
    subst hj
    obtain ⟨me, e, hm⟩ := begin_step sm S hs τ hi
    refine ⟨_, e, rfl, h1.tr w4_pc, h2, fun x hx => ?_⟩
    rcases Nat.lt_or_ge x i with q | q
    · exact w4_out (by omega) (h3 x q)
    · have : x = i := by omega
      subst this
      exact w4_in hm
  · intro t hI
    obtain ⟨j, τ⟩ := t
    obtain ⟨hj, h1, h2, h3⟩ := hI
    have hj : j = nI 10 := hj
    subst hj
    unfold f_X5_begin_n_B2
    exact oT (show (10 : Int32) ≤ nI 10 by decide) (oWi (oRet ⟨h1, h2, h3⟩))
theorem cpy10 {α : Type} {f g : Nat → α} {x : Nat} (h : x < 10) : va_cpy f g (Int32.toNatClampNeg 0) (Int32.toNatClampNeg 0) (Int32.toNatClampNeg 10) x = f x := by
  have e0 : Int32.toNatClampNeg 0 = 0 := by decide
  have e1 : Int32.toNatClampNeg 10 = 10 := by decide
  rw [e0, e1, pk_cpy_in (by omega) (by omega)]
  congr 1
  omega
theorem copy_ok (σ : ZS) (W : Nat → List Nat) (h : eW σ 15 W) : Ok (f_X5_copy_b σ) (fun τ => PC σ τ ∧ τ.1 = σ.1 ∧ eW τ 15 W ∧ eW τ 19 W) := by
  unfold f_X5_copy_b
  refine oCk (by decide) (oCk (by decide) (oCk (by decide) (oCk (by decide) (oRet ⟨?_, rfl, ?_, ?_⟩))))
  · exact ((PC.J.tr (PC.R (by omega))).tr (PC.R (by omega))).tr (PC.R (by omega))
  · exact h
  · intro x hx
    obtain ⟨a, b, c, d⟩ := h x hx
    refine ⟨(cpy10 hx).trans a, (cpy10 hx).trans b, (cpy10 hx).trans c, fun i hi => ?_⟩
    show bt (va_cpy (σ.2.1 18) (σ.2.1 22) _ _ _ x) i = _
    rw [cpy10 hx]
    exact d i hi
section CF
variable {n : Nat} {W : Nat → List Nat} {σ : ZS}
theorem chg_iff {a b : List Nat} (ha : (∀ x ∈ a, x < 16) ∧ a.length ≤ 10) (hb : (∀ x ∈ b, x < 16) ∧ b.length ≤ 10) : (lN (enc a) = lN (enc b) ∧ nI a.length = nI b.length) ↔ a = b := by
  have h1 := Nat.lt_of_lt_of_le (enc_lt ha.1) (pow16 ha.2)
  have h2 := Nat.lt_of_lt_of_le (enc_lt hb.1) (pow16 hb.2)
  constructor
  · rintro ⟨q1, q2⟩
    exact enc_inj ha.1 hb.1 ((nI_eq (by omega) (by omega)).mp q2) ((pk_lEQ (by omega) (by omega)).mp q1)
  · intro q; rw [q]; exact ⟨rfl, rfl⟩
/-- follow: the row of h is written; whether it changed -/
theorem follow_ok (hW : WI n W) (hn : n ≤ 10) (hB : eW σ 19 W) {h : Nat} (hh : h < n) (o : Option Nat) (ho : ∀ t, o = some t → t < n ∧ h ∉ W t ∧ W t ≠ []) (old : List Nat) (hold : eR σ 15 h old) (hok : (∀ x ∈ old, x < 16) ∧ old.length ≤ 10) (new : List Nat) (hnew : new = nW W h o) : ∃ me, f_X5_follow_n (nI h) (oI o) σ = some (bI (decide (new ≠ old)), w4 σ h (lN (enc new)) (nI new.length) (lst new) me) ∧ ∀ i, i < 32 → bt me i = decide (i ∈ new) := by
  have hc : (nI h).toNatClampNeg = h := nI_clamp (by omega)
  have hnok : (∀ x ∈ new, x < 16) ∧ new.length ≤ 10 := by
    cases o with
    | none => subst hnew; exact ⟨fun x hx => (by cases hx), Nat.zero_le _⟩
    | some t =>
      subst hnew
      obtain ⟨t1, t2, t3⟩ := ho t rfl
      have hnd : (h :: W t).Nodup := List.nodup_cons.mpr ⟨t2, (hW.2 t).1⟩
      have hall : ∀ x ∈ h :: W t, x < n := fun x hx => by
        rcases List.mem_cons.mp hx with rfl | hx
        · exact hh
        · exact (hW.2 t).2 x hx
      exact ⟨fun x hx => by have := hall x hx; omega, by have h9 : (h :: W t).length ≤ n := nodup_len hnd hall; exact Nat.le_trans h9 hn⟩
  -- the part behind the row's numbers: J98
  have J98 : ∀ (l3 l4 s0 : Int32), isB s0 = true → (l4 = 0 ∧ new = [] ∨ ∃ t, t < n ∧ l4 = 1 ∧ l3 = nI t ∧ new = h :: W t ∧ W t ≠ []) → ∃ me, f_X5_follow_n_J98 (nI h) l3 l4 (lN (enc new)) (nI new.length) s0 σ = some (s0, w4 σ h (lN (enc new)) (nI new.length) (lst new) me) ∧ ∀ i, i < 32 → bt me i = decide (i ∈ new) := by
    intro l3 l4 s0 hs0 hcase
    rcases hcase with ⟨e1, e2⟩ | ⟨t, ht, e1, e2, e3, e4⟩
    · subst e1
      rw [e2]
      refine ⟨0, ?_, fun i hi => by rw [b_0]; simp⟩
      apply oEq
      unfold f_X5_follow_n_J98 f_X5_follow_n_J136
      refine oCkI (by omega) (by omega) (oCkI (by omega) (by omega) (oT rfl (oCkI (by omega) (by omega) (oT rfl (oCkI (by omega) (by omega) (oCk hs0 (oRet ?_)))))))
      rw [hc]; rfl
    · subst e1
      subst e2
      obtain ⟨a, b, c, d⟩ := hB t (by omega)
      have c' : σ.2.1 21 t = lst (W t) := c
      refine ⟨σ.2.1 22 t ||| bm h, ?_, fun i hi => ?_⟩
      · apply oEq
        unfold f_X5_follow_n_J98
        refine oCkI (by omega) (by omega) (oCkI (by omega) (by omega) (oF (by decide) (oLd (by omega) (by omega) ?_)))
        unfold f_X5_follow_n_J136
        refine oCkI (by omega) (by omega) (oF (by decide) (oLd (by omega) (by omega) (oBindE (bit_ok (by omega)) (oCkI (by omega) (by omega) (oCk hs0 (oRet ?_))))))
        have e5 : lst new = lst (W t) := by
          rw [e3]
          unfold lst
          rw [List.getLast?_cons_of_ne_nil e4]
        rw [hc, e5, ← c']
        rfl
      · rw [b_or, b_bm h (by omega) i hi, e3]
        have d' := d i hi
        have d' : bt (σ.2.1 22 t) i = decide (i ∈ W t) := d'
        rw [d']
        by_cases q : i = h
        · simp [q]
        · simp [q]
  -- J68: the compare
  have J68 : ∀ (l3 l4 : Int32), (l4 = 0 ∧ new = [] ∨ ∃ t, t < n ∧ l4 = 1 ∧ l3 = nI t ∧ new = h :: W t ∧ W t ≠ []) → ∃ me, f_X5_follow_n_J68 (nI h) l3 l4 (lN (enc new)) (nI new.length) σ = some (bI (decide (new ≠ old)), w4 σ h (lN (enc new)) (nI new.length) (lst new) me) ∧ ∀ i, i < 32 → bt me i = decide (i ∈ new) := by
    intro l3 l4 hcase
    obtain ⟨o1, o2, -, -⟩ := hold
    have o1 : σ.2.2 15 h = lN (enc old) := o1
    have o2 : σ.2.1 16 h = nI old.length := o2
    have ci := chg_iff hnok hok
    by_cases q : new = old
    · obtain ⟨me, e, hm⟩ := J98 l3 l4 0 (by decide) hcase
      refine ⟨me, ?_, hm⟩
      apply oEq
      unfold f_X5_follow_n_J68
      refine oLd (by omega) (by omega) ?_
      rw [o1]
      refine oT (lg_cmp_0.mpr (ci.mpr q).1) (oLd (by omega) (by omega) ?_)
      rw [o2]
      refine oT (ci.mpr q).2 ?_
      rw [e, decide_eq_false (fun z => z q)]
      exact oRet rfl
    · obtain ⟨me, e, hm⟩ := J98 l3 l4 1 (by decide) hcase
      refine ⟨me, ?_, hm⟩
      have fin : Ok (f_X5_follow_n_J93 (nI h) l3 l4 (lN (enc new)) (nI new.length) σ) (fun r => r = (bI (decide (new ≠ old)), w4 σ h (lN (enc new)) (nI new.length) (lst new) me)) := by
        unfold f_X5_follow_n_J93
        rw [e, decide_eq_true q]
        exact oRet rfl
      apply oEq
      unfold f_X5_follow_n_J68
      refine oLd (by omega) (by omega) ?_
      rw [o1]
      refine oIte (fun z => ?_) (fun _ => fin)
      refine oLd (by omega) (by omega) ?_
      rw [o2]
      refine oF (fun y => q (ci.mp ⟨lg_cmp_0.mp z, y⟩)) fin
  unfold f_X5_follow_n
  rw [if_neg (nI_pos (by omega)), if_pos (show nI h < 10 from nI_lt (b := 10) (by omega) (by omega))]
  cases o with
  | none =>
    have hnew : new = [] := hnew
    obtain ⟨me, e, hm⟩ := J68 (-1) 0 (Or.inl ⟨rfl, hnew⟩)
    refine ⟨me, ?_, hm⟩
    rw [show oI none = -1 from rfl, if_pos (show (-1 : Int32) < 0 by decide)]
    unfold f_X5_follow_n_J26 f_X5_follow_n_J27 f_X5_follow_n_J49
    rw [if_pos rfl, if_pos rfl]
    rw [hnew] at e ⊢
    exact e
  | some t =>
    obtain ⟨t1, t2, t3⟩ := ho t rfl
    have hnew : new = h :: W t := hnew
    obtain ⟨me, e, hm⟩ := J68 (nI t) 1 (Or.inr ⟨t, t1, rfl, rfl, hnew, t3⟩)
    refine ⟨me, ?_, hm⟩
    rw [show oI (some t) = nI t from rfl, if_neg (nI_pos (by omega)), if_neg (show ¬ (10 : Int32) ≤ nI t from nI_ge (b := 10) (by omega) (by omega))]
    obtain ⟨a, b, -, -⟩ := hB t (by omega)
    have a : σ.2.2 19 t = lN (enc (W t)) := a
    have b : σ.2.1 20 t = nI (W t).length := b
    apply oEq
    unfold f_X5_follow_n_J27
    refine oF (by decide) (oLd (by omega) (by omega) ?_)
    unfold f_X5_follow_n_J49
    refine oF (by decide) (oLd (by omega) (by omega) ?_)
    rw [a, b, shl4 (hW.enc hn t) (by omega), nI_1]
    have e1 : enc (W t) * 16 + h = enc new := by rw [hnew]; rfl
    have e2 : (W t).length + 1 = new.length := by rw [hnew]; rfl
    rw [e1, e2]
    exact oOf e
end CF
