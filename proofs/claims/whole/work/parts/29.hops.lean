section MF
variable {n : Nat} {K : Nat → Nat → Nat} {lk : Int32} {hol : Nat → Int32} {nr : Nat} {rb : Nat → Nat} {ns : Nat} {sb sh : Nat → Nat} {τ : ZS} {Rf : Int32} {b : Nat}
theorem mrounds_ok (E : EM n K lk hol nr rb ns sb sh τ) (G : GI n K hol (syOf sb sh ns)) (hb : 1 ≤ b ∧ b < 128) : ∀ (f k : Nat) (W : Nat → List Nat) (υ : ZS) (F : Nat), k + f = 50 → f + 3 < F → WI n W → PM τ υ → mW υ 8 n W → υ.1 5 = nI k → Ok (lp F (f_X7_findWays_B61 (nI (lenOf b)) (nI (fstOf b)) Rf) (1, υ)) (fun r => PM τ r ∧ WI n (sRun n K lk (syOf sb sh ns b) Rf (owO hol b) f W).2 ∧ mW r 8 n (sRun n K lk (syOf sb sh ns b) Rf (owO hol b) f W).2 ∧ r.1 5 = nI (k + (sRun n K lk (syOf sb sh ns b) Rf (owO hol b) f W).1) ∧ r.1 6 = bI (decide ((sRun n K lk (syOf sb sh ns b) Rf (owO hol b) f W).1 = f))) := by
  intro f
  induction f with
  | zero =>
    intro k W υ F hk hF hW hp hN h5
    obtain ⟨F, rfl⟩ : ∃ G, F = G + 1 := ⟨F - 1, by omega⟩
    refine oStep ?_
    unfold f_X7_findWays_B61
    have : k = 50 := by omega
    subst this
    refine oF one_ne ?_
    show Ok (if 50 ≤ υ.1 5 then _ else _) _
    rw [h5]
    refine oT (show (50 : Int32) ≤ nI 50 by decide) (oCk (isB_bI true) (fin_wi ⟨hp.tr (PM.I (by omega)), hW, hN, ?_, setI_s⟩))
    show upd υ.1 6 1 5 = _
    rw [pk_un (by omega)]; exact h5
  | succ f ih =>
    intro k W υ F hk hF hW hp hN h5
    obtain ⟨F, rfl⟩ : ∃ G, F = G + 1 := ⟨F - 1, by omega⟩
    refine oStep ?_
    conv => arg 1; unfold f_X7_findWays_B61
    refine oF one_ne ?_
    show Ok (if 50 ≤ υ.1 5 then _ else _) _
    rw [h5]
    refine oF (show ¬ (50 : Int32) ≤ nI k from nI_ge (b := 50) (by omega) (by omega)) ?_
    refine oBind (mgo_ok (E.pm hp) G hW hN hb (Rf := Rf)) (fun r hr => ?_)
    obtain ⟨c, τ2⟩ := r
    obtain ⟨b1, b2, b3, b4⟩ := hr
    have b1 : c = bI (sChg n K lk (syOf sb sh ns b) Rf (owO hol b) W n) := b1
    have b3 : τ2.1 = υ.1 := b3
    have b4 : mW τ2 8 n (sRnd n K lk (syOf sb sh ns b) Rf (owO hol b) W) := b4
    have b2 : PM υ τ2 := b2
    have h5' : τ2.1 5 = nI k := by rw [b3]; exact h5
    subst b1
    have er : sRun n K lk (syOf sb sh ns b) Rf (owO hol b) (f + 1) W = if sChg n K lk (syOf sb sh ns b) Rf (owO hol b) W n = true then ((sRun n K lk (syOf sb sh ns b) Rf (owO hol b) f (sRnd n K lk (syOf sb sh ns b) Rf (owO hol b) W)).1 + 1, (sRun n K lk (syOf sb sh ns b) Rf (owO hol b) f (sRnd n K lk (syOf sb sh ns b) Rf (owO hol b) W)).2) else (0, W) := rfl
    cases hc : sChg n K lk (syOf sb sh ns b) Rf (owO hol b) W n with
    | false =>
      rw [er, hc]
      refine oT rfl (oRet ?_)
      have e2 := sChg_false hc
      rw [e2] at b4
      obtain ⟨F, rfl⟩ : ∃ G, F = G + 1 := ⟨F - 1, by omega⟩
      show Ok (lp (F + 1) (f_X7_findWays_B61 (nI (lenOf b)) (nI (fstOf b)) Rf) (bI false, setI τ2 5 (τ2.1 5 + 0))) _
      refine oStep ?_
      conv => arg 1; unfold f_X7_findWays_B61
      refine oT rfl (oCk (isB_bI false) (fin_wi ⟨((hp.tr b2).tr (PM.I (by omega))).tr (PM.I (by omega)), hW, b4, ?_, ?_⟩))
      · show upd (upd τ2.1 5 (τ2.1 5 + 0)) 6 (bI false) 5 = _
        rw [pk_un (by omega), pk_us, h5']
        exact nI_add k 0
      · show upd (upd τ2.1 5 (τ2.1 5 + 0)) 6 (bI false) 6 = _
        rw [pk_us]
        rfl
    | true =>
      rw [er, hc]
      refine oF one_ne (oRet ?_)
      have e5 : (setI τ2 5 (nI (k + 1))).1 5 = nI (k + 1) := setI_s
      have := ih (k + 1) (sRnd n K lk (syOf sb sh ns b) Rf (owO hol b) W) (setI τ2 5 (nI (k + 1))) F (by omega) (by omega) hW.rnd ((hp.tr b2).tr (PM.I (by omega))) b4 e5
      show Ok (lp F (f_X7_findWays_B61 (nI (lenOf b)) (nI (fstOf b)) Rf) (bI true, setI τ2 5 (τ2.1 5 + 1))) _
      rw [h5', nI_1]
      refine oMono this (fun r hr => ?_)
      obtain ⟨c1, c2, c3, c4, c5⟩ := hr
      refine ⟨c1, c2, c3, ?_, ?_⟩
      · rw [c4]
        show nI _ = nI (k + (_ + 1))
        congr 1
        omega
      · rw [c5]
        congr 1
        rw [if_pos rfl]
        show decide (_ = f) = decide (_ + 1 = f + 1)
        rw [decide_eq_decide]
        omega
theorem findWays_ok (E : EM n K lk hol nr rb ns sb sh τ) (G : GI n K hol (syOf sb sh ns)) (hb : 1 ≤ b ∧ b < 128) (Rf : Int32) : Ok (f_X7_findWays (nI (lenOf b)) (nI (fstOf b)) Rf τ) (fun r => PM τ r ∧ WI n (sEnd n K lk hol (syOf sb sh ns) Rf b).2 ∧ mW r 8 n (sEnd n K lk hol (syOf sb sh ns) Rf b).2 ∧ r.1 5 = nI (sEnd n K lk hol (syOf sb sh ns) Rf b).1 ∧ r.1 6 = bI (decide ((sEnd n K lk hol (syOf sb sh ns) Rf b).1 = 50))) := by
  have hn := G.1
  have hS : ∀ h, n ≤ h → syOf sb sh ns b h = false := fun h hh => by
    cases hc : syOf sb sh ns b h with
    | false => rfl
    | true => have := G.2.2.2.2.2 b h hc; omega
  unfold f_X7_findWays
  refine oLoop (fun i t => t.1 = nI i ∧ PM τ t.2 ∧ mW t.2 8 i (sInit (syOf sb sh ns b))) n (by omega) ⟨rfl, PM.rf, fun h hh => by omega⟩ ?_ ?_
  · intro i t hi hI
    obtain ⟨j, ρ⟩ := t
    obtain ⟨hj, h1, h2⟩ := hI
    have hj : j = nI i := hj
    have h1 : PM τ ρ := h1
    have h2 : mW ρ 8 i (sInit (syOf sb sh ns b)) := h2
    subst hj
    have E' := E.pm h1
    unfold f_X7_findWays_B3
    show Ok (if ρ.1 0 ≤ nI i then _ else _) _
    rw [E'.1]
    refine oLe n i (by omega) (by omega) (fun q => by omega) (fun _ => ?_)
    have J34 : ∀ s : Int32, s = nI (sInit (syOf sb sh ns b) i).length → Ok (f_X7_findWays_J34 (nI (lenOf b)) (nI (fstOf b)) Rf (nI i) s (nI i) ρ) (Sum.elim (fun t : Int32 × ZS => t.1 = nI (i + 1) ∧ PM τ t.2 ∧ mW t.2 8 (i + 1) (sInit (syOf sb sh ns b))) (fun r => PM τ r ∧ WI n (sEnd n K lk hol (syOf sb sh ns) Rf b).2 ∧ mW r 8 n (sEnd n K lk hol (syOf sb sh ns) Rf b).2 ∧ r.1 5 = nI (sEnd n K lk hol (syOf sb sh ns) Rf b).1 ∧ r.1 6 = bI (decide ((sEnd n K lk hol (syOf sb sh ns) Rf b).1 = 50)))) := by
      intro s hs
      unfold f_X7_findWays_J34
      rw [show (10 : Int32) * nI i = nI (10 * i) from pk_mul 10 i, nI_clamp (by omega), nI_clamp (by omega)]
      refine oCkI (by omega) (by omega) (oCkI (by omega) (by omega) (oRet ⟨nI_1 i, (h1.tr (PM.A (by omega))).tr (PM.A (by omega)), fun x hx => ?_⟩))
      refine ⟨?_, fun k v hk => ?_⟩
      · show (setA (setA ρ 9 i s) 8 (10 * i) (nI i)).2.1 9 x = _
        rw [setA_n (by omega), setA_s]
        by_cases q : x = i
        · subst q; rw [pk_us]; exact hs
        · rw [pk_un q]; exact (h2 x (by omega)).1
      · show (setA (setA ρ 9 i s) 8 (10 * i) (nI i)).2.1 8 (10 * x + k) = _
        rw [setA_s]
        have hk0 : k = 0 ∧ v = x := by
          unfold sInit at hk
          by_cases c : syOf sb sh ns b x = true
          · rw [if_pos c] at hk
            cases k with
            | zero => exact ⟨rfl, by simpa using hk.symm⟩
            | succ k => simp at hk
          · rw [if_neg c] at hk; simp at hk
        obtain ⟨e1, e2⟩ := hk0
        subst e1
        subst e2
        by_cases q : v = i
        · subst q; exact pk_us
        · rw [pk_un (by omega)]
          show (setA ρ 9 i s).2.1 8 _ = _
          rw [setA_n (by omega)]
          exact (h2 v (by omega)).2 0 v hk
    refine oBindE (says_ok E'.2.2.2.2 hb (by omega)) ?_
    cases hs : syOf sb sh ns b i with
    | true => exact oF one_ne (J34 1 (by unfold sInit; rw [hs]; rfl))
    | false => exact oT rfl (J34 0 (by unfold sInit; rw [hs]; rfl))
  · intro t hI
    obtain ⟨j, ρ⟩ := t
    obtain ⟨hj, h1, h2⟩ := hI
    have hj : j = nI n := hj
    have h1 : PM τ ρ := h1
    subst hj
    unfold f_X7_findWays_B3
    show Ok (if ρ.1 0 ≤ nI n then _ else _) _
    rw [(E.pm h1).1]
    refine oLe n n (by omega) (by omega) (fun _ => oWi ?_) (fun q => by omega)
    unfold f_X7_findWays_J53
    have := mrounds_ok E G hb (Rf := Rf) 50 0 (sInit (syOf sb sh ns b)) (setI ρ 5 0) zF (by omega) (by unfold zF; omega) (WI.init hS) (h1.tr (PM.I (by omega))) h2 setI_s
    refine oMono this (fun r hr => ?_)
    obtain ⟨c1, c2, c3, c4, c5⟩ := hr
    refine ⟨c1, c2, c3, ?_, c5⟩
    rw [c4, Nat.zero_add]
end MF
/-! Where an address goes -/
def hopL (h : Nat) (l : List Nat) : Option Nat := match l with
  | [] => none
  | [_] => some h
  | _ :: x :: _ => some x
/-- the hop of a house by one block -/
def hopB (n : Nat) (K : Nat → Nat → Nat) (lk : Int32) (hol : Nat → Int32) (Sy : Nat → Nat → Bool) (Rf : Int32) (b h : Nat) : Option Nat := hopL h ((sEnd n K lk hol Sy Rf b).2 h)
/-- the hop by the i longest blocks -/
def hopT (n : Nat) (K : Nat → Nat → Nat) (lk : Int32) (hol : Nat → Int32) (Sy : Nat → Nat → Bool) (Rf : Int32) (a : Nat) : Nat → Nat → Option Nat
  | 0, _ => none
  | i + 1, h => match hopT n K lk hol Sy Rf a i h with
    | some x => some x
    | none => hopB n K lk hol Sy Rf ((64 + a) / 2 ^ i) h
def endF (H : Nat → Option Nat) : Nat → Nat → Int32
  | 0, _ => -8
  | f + 1, h => match H h with
    | none => -7
    | some x => if x = h then nI h else endF H f x
theorem hopL_lt {n : Nat} {W : Nat → List Nat} (hW : WI n W) {h x : Nat} (hh : h < n) (q : hopL h (W h) = some x) : x < n := by
  have := (hW.2 h).2
  revert q this
  cases W h with
  | nil => intro q _; cases q
  | cons a l =>
    cases l with
    | nil => intro q _; cases q; exact hh
    | cons c l => intro q t; cases q; exact t _ (by simp)
theorem sRun_WI {n : Nat} {K : Nat → Nat → Nat} {lk : Int32} {S : Nat → Bool} {Rf : Int32} {ow : Option Nat} : ∀ (f : Nat) (W : Nat → List Nat), WI n W → WI n (sRun n K lk S Rf ow f W).2 := by
  intro f
  induction f with
  | zero => intro W h; exact h
  | succ f ih =>
    intro W h
    have er : sRun n K lk S Rf ow (f + 1) W = if sChg n K lk S Rf ow W n = true then ((sRun n K lk S Rf ow f (sRnd n K lk S Rf ow W)).1 + 1, (sRun n K lk S Rf ow f (sRnd n K lk S Rf ow W)).2) else (0, W) := rfl
    rw [er]
    by_cases c : sChg n K lk S Rf ow W n = true
    · rw [if_pos c]; exact ih _ h.rnd
    · rw [if_neg c]; exact h
section HP
variable {n : Nat} {K : Nat → Nat → Nat} {lk : Int32} {hol : Nat → Int32} {Sy : Nat → Nat → Bool} {Rf : Int32}
theorem GI.S (G : GI n K hol Sy) (b : Nat) : ∀ h, n ≤ h → Sy b h = false := fun h hh => by
  cases hc : Sy b h with
  | false => rfl
  | true => have := G.2.2.2.2.2 b h hc; omega
theorem sEnd_WI (G : GI n K hol Sy) (b : Nat) : WI n (sEnd n K lk hol Sy Rf b).2 := sRun_WI 50 _ (WI.init (G.S b))
theorem hopB_lt (G : GI n K hol Sy) {b h x : Nat} (hh : h < n) (q : hopB n K lk hol Sy Rf b h = some x) : x < n := hopL_lt (sEnd_WI G b) hh q
theorem hopT_lt (G : GI n K hol Sy) {a h x : Nat} (hh : h < n) : ∀ {i : Nat}, hopT n K lk hol Sy Rf a i h = some x → x < n := by
  intro i
  induction i with
  | zero => intro q; cases q
  | succ i ih =>
    intro q
    unfold hopT at q
    cases hc : hopT n K lk hol Sy Rf a i h with
    | some y => rw [hc] at q; cases q; exact ih hc
    | none => rw [hc] at q; exact hopB_lt G hh q
/-- a block that nobody says has no ways -/
theorem sRun_empty {S : Nat → Bool} {ow : Option Nat} (hS : ∀ h, S h = false) : (sRun n K lk S Rf ow 50 (sInit S)).2 = fun _ => [] := by
  have e0 : sInit S = fun _ => [] := by
    funext h
    unfold sInit; rw [hS h]; rfl
  have hm : ∀ h t, sMay K lk S Rf ow (fun _ => []) h t = false := fun h t => by
    cases hc : sMay K lk S Rf ow (fun _ => []) h t with
    | false => rfl
    | true => exact absurd rfl (sMay_spec hc).2.1
  have hbst : ∀ h m, sBest K lk S Rf ow (fun _ => []) h m = none := by
    intro h m
    induction m with
    | zero => rfl
    | succ m ih =>
      have er : sBest K lk S Rf ow (fun _ => []) h (m + 1) = if sMay K lk S Rf ow (fun _ => []) h m = true then sPick K (fun _ => []) h m (sBest K lk S Rf ow (fun _ => []) h m) else sBest K lk S Rf ow (fun _ => []) h m := rfl
      rw [er, hm, if_neg (by decide)]; exact ih
  have hr : ∀ h, sRnd n K lk S Rf ow (fun _ => []) h = [] := fun h => by
    unfold sRnd sNew
    rw [hbst]
    by_cases c : h < n ∧ S h = false
    · rw [if_pos c]
    · rw [if_neg c]
  have hc : ∀ m, sChg n K lk S Rf ow (fun _ => []) m = false := by
    intro m
    induction m with
    | zero => rfl
    | succ m ih =>
      have er : sChg n K lk S Rf ow (fun _ => []) (m + 1) = (sChg n K lk S Rf ow (fun _ => []) m || decide (sRnd n K lk S Rf ow (fun _ => []) m ≠ [])) := rfl
      rw [er, ih, hr]; simp
  rw [e0]
  have er : sRun n K lk S Rf ow 50 (fun _ => []) = if sChg n K lk S Rf ow (fun _ => []) n = true then ((sRun n K lk S Rf ow 49 (sRnd n K lk S Rf ow (fun _ => []))).1 + 1, (sRun n K lk S Rf ow 49 (sRnd n K lk S Rf ow (fun _ => []))).2) else (0, fun _ => []) := rfl
  rw [er, hc]; rfl
theorem hopB_none {b h : Nat} (hS : ∀ h, Sy b h = false) : hopB n K lk hol Sy Rf b h = none := by
  unfold hopB
  rw [show (sEnd n K lk hol Sy Rf b).2 = fun _ => [] from sRun_empty hS]
  rfl
end HP
