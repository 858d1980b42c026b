/-! Refusals that change nothing -/
section RC
variable {n : Nat} {K : Nat → Nat → Nat} {lk : Int32} {hol : Nat → Int32} {S : Nat → Bool} {Sy Sy' : Nat → Nat → Bool} {Rf Rf' : Int32} {ow : Option Nat}
theorem sBest_congr {W : Nat → List Nat} {h : Nat} (hm : ∀ t, sMay K lk S Rf ow W h t = sMay K lk S Rf' ow W h t) : ∀ m, sBest K lk S Rf ow W h m = sBest K lk S Rf' ow W h m := by
  intro m
  induction m with
  | zero => rfl
  | succ m ih =>
    unfold sBest
    rw [hm m, ih]
theorem sRnd_congr {W : Nat → List Nat} (hm : ∀ h t, h < n → S h = false → sMay K lk S Rf ow W h t = sMay K lk S Rf' ow W h t) : sRnd n K lk S Rf ow W = sRnd n K lk S Rf' ow W := by
  funext h
  unfold sRnd
  by_cases c : h < n ∧ S h = false
  · rw [if_pos c, if_pos c]
    unfold sNew
    rw [sBest_congr (fun t => hm h t c.1 c.2)]
  · rw [if_neg c, if_neg c]
theorem sChg_congr {W : Nat → List Nat} (e : sRnd n K lk S Rf ow W = sRnd n K lk S Rf' ow W) : ∀ m, sChg n K lk S Rf ow W m = sChg n K lk S Rf' ow W m := by
  intro m
  induction m with
  | zero => rfl
  | succ m ih =>
    unfold sChg
    rw [ih, e]
theorem sRun_congr (J : (Nat → List Nat) → Prop) (hJ : ∀ W, J W → J (sRnd n K lk S Rf ow W)) (hm : ∀ W h t, J W → h < n → S h = false → sMay K lk S Rf ow W h t = sMay K lk S Rf' ow W h t) : ∀ (f : Nat) (W : Nat → List Nat), J W → sRun n K lk S Rf ow f W = sRun n K lk S Rf' ow f W := by
  intro f
  induction f with
  | zero => intro W _; rfl
  | succ f ih =>
    intro W hW
    have e := sRnd_congr (fun h t => hm W h t hW)
    have i1 := ih (sRnd n K lk S Rf ow W) (hJ W hW)
    unfold sRun
    rw [sChg_congr e n, i1, e]
/-- refusing can tell there: some house has the right, and another says -/
def HZ (hol : Nat → Int32) (Sy : Nat → Nat → Bool) (b : Nat) : Prop := ∃ o, owO hol b = some o ∧ ∃ h, Sy b h = true ∧ h ≠ o
theorem sEnd_congr {b : Nat} (hd : ∀ h, h < n → Sy b h = false → bt Rf h ≠ bt Rf' h → ¬ HZ hol Sy b) : sEnd n K lk hol Sy Rf b = sEnd n K lk hol Sy Rf' b := by
  by_cases hz : HZ hol Sy b
  · refine sRun_congr (fun _ => True) (fun _ _ => trivial) (fun W h t _ hh hs => ?_) 50 _ trivial
    have e : bt Rf h = bt Rf' h := by
      by_cases c : bt Rf h = bt Rf' h
      · exact c
      · exact absurd hz (hd h hh hs c)
    unfold sMay
    rw [e]
  · show sRun n K lk (Sy b) Rf (owO hol b) 50 (sInit (Sy b)) = sRun n K lk (Sy b) Rf' (owO hol b) 50 (sInit (Sy b))
    cases ho : owO hol b with
    | none =>
      refine sRun_congr (fun _ => True) (fun _ _ => trivial) (fun W h t _ hh hs => ?_) 50 _ trivial
      unfold sMay
      simp
    | some o =>
      have all : ∀ h, Sy b h = true → h = o := fun h hs => by
        by_cases c : h = o
        · exact c
        · exact absurd ⟨o, ho, h, hs, c⟩ hz
      refine sRun_congr (fun W => ∀ t, W t ≠ [] → (W t).getLast? = some o) (fun W hW t => ?_) (fun W h t hW hh hs => ?_) 50 _ (fun t => ?_)
      · unfold sRnd
        by_cases c : t < n ∧ Sy b t = false
        · rw [if_pos c]
          unfold sNew
          cases hb : sBest K lk (Sy b) Rf (some o) W t n with
          | none => intro q; exact absurd rfl q
          | some x =>
            intro _
            have hm := sMay_spec (sBest_may hb).2
            show (t :: W x).getLast? = some o
            rw [List.getLast?_cons, hW x hm.2.1]
            rfl
        · rw [if_neg c]; exact hW t
      · by_cases c : W t = []
        · unfold sMay
          rw [show decide (W t ≠ []) = false from decide_eq_false (fun q => q c)]
          simp
        · unfold sMay
          rw [hW t c]
          simp
      · unfold sInit
        by_cases c : Sy b t = true
        · rw [if_pos c]
          intro _
          rw [all t c]
          rfl
        · rw [if_neg c]
          intro q; exact absurd rfl q
theorem hopT_congr {a : Nat} : ∀ (m : Nat), (∀ j, j < m → sEnd n K lk hol Sy Rf ((64 + a) / 2 ^ j) = sEnd n K lk hol Sy' Rf' ((64 + a) / 2 ^ j)) → hopT n K lk hol Sy Rf a m = hopT n K lk hol Sy' Rf' a m := by
  intro m
  induction m with
  | zero => intro _; rfl
  | succ m ih =>
    intro hj
    have i1 := ih (fun j hjm => hj j (by omega))
    have i2 := hj m (by omega)
    funext h
    unfold hopT hopB
    rw [i1, i2]
theorem sMis_congr {a : Nat} (hj : ∀ j, j < 7 → sEnd n K lk hol Sy Rf ((64 + a) / 2 ^ j) = sEnd n K lk hol Sy' Rf' ((64 + a) / 2 ^ j)) (i : Nat) : sMis n K lk hol Sy Rf a i = sMis n K lk hol Sy' Rf' a i := by
  unfold sMis
  rw [hopT_congr 7 hj]
end RC
/-! Sets of bits, as numbers -/
theorem bt_nI {t i : Nat} (hi : i < 32) : bt (nI t) i = t.testBit i := by
  show (BitVec.ofNat 32 t).getLsbD i = _
  rw [BitVec.getLsbD_ofNat, decide_eq_true hi, Bool.true_and]
theorem shr_bit (x i : Nat) : (x >>> i) % 2 = (x.testBit i).toNat := by
  rw [Nat.toNat_testBit, Nat.shiftRight_eq_div_pow]
theorem fold_le {f g : Nat → Nat} (h : ∀ i, f i ≤ g i) : ∀ (l : List Nat) (a b : Nat), a ≤ b → l.foldl (fun x i => x + f i) a ≤ l.foldl (fun x i => x + g i) b := by
  intro l
  induction l with
  | nil => intro a b hab; exact hab
  | cons x l ih =>
    intro a b hab
    exact ih (a + f x) (b + g x) (by have := h x; omega)
theorem pop_and (t y : Nat) : pop (t &&& y) ≤ pop t := by
  unfold pop
  refine fold_le (f := fun i => ((t &&& y) >>> i) % 2) (g := fun i => (t >>> i) % 2) (fun i => ?_) _ 0 0 (Nat.le_refl 0)
  show ((t &&& y) >>> i) % 2 ≤ (t >>> i) % 2
  rw [shr_bit, shr_bit, Nat.testBit_and]
  cases t.testBit i <;> cases y.testBit i <;> decide
theorem key_and (t y : Nat) : key (t &&& y) ≤ key t := by
  have h1 := pop_and t y
  have h2 := Nat.and_le_left (n := t) (m := y)
  have h3 : pop (t &&& y) * 1024 ≤ pop t * 1024 := Nat.mul_le_mul_right 1024 h1
  exact Nat.add_le_add h3 h2
theorem fine_iff {v m : Int32} {f : Nat → Bool} {Q : Nat → Prop} (hv : ∀ i, i < 32 → bt v i = f i) (hm : ∀ i, i < 32 → (bt m i = true ↔ Q i)) : (v &&& (m ^^^ (-1))) = 0 ↔ ∀ i, i < 32 → f i = true → Q i := by
  rw [b_and0]
  constructor
  · intro h i hi hf
    have := h i hi
    rw [hv i hi, b_not m hi] at this
    refine (hm i hi).mp ?_
    cases hc : bt m i with
    | true => rfl
    | false => rw [hc] at this; exact absurd ⟨hf, rfl⟩ this
  · intro h i hi q
    rw [hv i hi, b_not m hi] at q
    rw [(hm i hi).mpr (h i hi q.1)] at q
    exact absurd q.2 (by decide)
