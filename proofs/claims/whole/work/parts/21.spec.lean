/-! The spec of ways: n houses, K their ties, lk who leaks, S who says, Rf who refuses (by bits), ow who is rightful, W the ways. -/
def sOpen (K : Nat → Nat → Nat) (lk : Int32) (S : Nat → Bool) (W : Nat → List Nat) (t : Nat) : Bool := (S t || bt lk t) || (match (W t)[1]? with
  | some b => decide (K t b = 1)
  | none => false)
def sMay (K : Nat → Nat → Nat) (lk : Int32) (S : Nat → Bool) (Rf : Int32) (ow : Option Nat) (W : Nat → List Nat) (h t : Nat) : Bool :=
  ((decide (K h t ≠ 0) && decide (W t ≠ [])) && !decide (h ∈ W t)) && ((decide (K h t = 3) || sOpen K lk S W t) && ((!bt Rf h || decide (ow = none)) || decide ((W t).getLast? = ow)))
def sRank (K : Nat → Nat → Nat) (W : Nat → List Nat) (h t : Nat) : Nat := 16 * K h t + (W t).length
def sPick (K : Nat → Nat → Nat) (W : Nat → List Nat) (h t : Nat) (o : Option Nat) : Option Nat := match o with
  | none => some t
  | some b => if sRank K W h t < sRank K W h b then some t else some b
def sBest (K : Nat → Nat → Nat) (lk : Int32) (S : Nat → Bool) (Rf : Int32) (ow : Option Nat) (W : Nat → List Nat) (h : Nat) : Nat → Option Nat
  | 0 => none
  | t + 1 => if sMay K lk S Rf ow W h t = true then sPick K W h t (sBest K lk S Rf ow W h t) else sBest K lk S Rf ow W h t
def sNew (n : Nat) (K : Nat → Nat → Nat) (lk : Int32) (S : Nat → Bool) (Rf : Int32) (ow : Option Nat) (W : Nat → List Nat) (h : Nat) : List Nat := match sBest K lk S Rf ow W h n with
  | none => []
  | some t => h :: W t
def sRnd (n : Nat) (K : Nat → Nat → Nat) (lk : Int32) (S : Nat → Bool) (Rf : Int32) (ow : Option Nat) (W : Nat → List Nat) (h : Nat) : List Nat := if h < n ∧ S h = false then sNew n K lk S Rf ow W h else W h
/-- the first i houses have gone the round -/
def sTo (n : Nat) (K : Nat → Nat → Nat) (lk : Int32) (S : Nat → Bool) (Rf : Int32) (ow : Option Nat) (W : Nat → List Nat) (i h : Nat) : List Nat := if h < i then sRnd n K lk S Rf ow W h else W h
def sChg (n : Nat) (K : Nat → Nat → Nat) (lk : Int32) (S : Nat → Bool) (Rf : Int32) (ow : Option Nat) (W : Nat → List Nat) : Nat → Bool
  | 0 => false
  | i + 1 => sChg n K lk S Rf ow W i || decide (sRnd n K lk S Rf ow W i ≠ W i)
def sInit (S : Nat → Bool) (h : Nat) : List Nat := if S h = true then [h] else []
def sRun (n : Nat) (K : Nat → Nat → Nat) (lk : Int32) (S : Nat → Bool) (Rf : Int32) (ow : Option Nat) : Nat → (Nat → List Nat) → Nat × (Nat → List Nat)
  | 0, W => (0, W)
  | f + 1, W => if sChg n K lk S Rf ow W n = true then ((sRun n K lk S Rf ow f (sRnd n K lk S Rf ow W)).1 + 1, (sRun n K lk S Rf ow f (sRnd n K lk S Rf ow W)).2) else (0, W)
/-- ways are rows of houses, none twice, from their own -/
def WI (n : Nat) (W : Nat → List Nat) : Prop := (∀ h, n ≤ h → W h = []) ∧ ∀ h, (W h).Nodup ∧ ∀ x ∈ W h, x < n
theorem sBest_may {K : Nat → Nat → Nat} {lk : Int32} {S : Nat → Bool} {Rf : Int32} {ow : Option Nat} {W : Nat → List Nat} {h : Nat} : ∀ {m t : Nat}, sBest K lk S Rf ow W h m = some t → t < m ∧ sMay K lk S Rf ow W h t = true := by
  intro m
  induction m with
  | zero => intro t q; cases q
  | succ m ih =>
    intro t q
    unfold sBest at q
    by_cases c : sMay K lk S Rf ow W h m = true
    · rw [if_pos c] at q
      unfold sPick at q
      split at q
      · cases q; exact ⟨by omega, c⟩
      · rename_i b hb
        by_cases d : sRank K W h m < sRank K W h b
        · rw [if_pos d] at q; cases q; exact ⟨by omega, c⟩
        · rw [if_neg d] at q; cases q
          have := ih hb; exact ⟨by omega, this.2⟩
    · rw [if_neg c] at q
      have := ih q; exact ⟨by omega, this.2⟩
theorem sMay_spec {K : Nat → Nat → Nat} {lk : Int32} {S : Nat → Bool} {Rf : Int32} {ow : Option Nat} {W : Nat → List Nat} {h t : Nat} (q : sMay K lk S Rf ow W h t = true) : K h t ≠ 0 ∧ W t ≠ [] ∧ h ∉ W t := by
  unfold sMay at q
  simp only [Bool.and_eq_true, Bool.not_eq_true', decide_eq_true_eq, decide_eq_false_iff_not] at q
  exact ⟨q.1.1.1, q.1.1.2, q.1.2⟩
theorem WI.rnd {n : Nat} {K : Nat → Nat → Nat} {lk : Int32} {S : Nat → Bool} {Rf : Int32} {ow : Option Nat} {W : Nat → List Nat} (hW : WI n W) : WI n (sRnd n K lk S Rf ow W) := by
  refine ⟨fun h hn => ?_, fun h => ?_⟩
  · unfold sRnd
    rw [if_neg (fun q => by omega)]
    exact hW.1 h hn
  · unfold sRnd
    by_cases c : h < n ∧ S h = false
    · rw [if_pos c]
      unfold sNew
      cases hb : sBest K lk S Rf ow W h n with
      | none => exact ⟨List.nodup_nil, fun x hx => by cases hx⟩
      | some t =>
        have hm := sMay_spec (sBest_may hb).2
        refine ⟨List.nodup_cons.mpr ⟨hm.2.2, (hW.2 t).1⟩, fun x hx => ?_⟩
        rcases List.mem_cons.mp hx with rfl | hx
        · exact c.1
        · exact (hW.2 t).2 x hx
    · rw [if_neg c]; exact hW.2 h
theorem WI.init {n : Nat} {S : Nat → Bool} (hS : ∀ h, n ≤ h → S h = false) : WI n (sInit S) := by
  refine ⟨fun h hn => ?_, fun h => ?_⟩
  · unfold sInit; rw [hS h hn]; rfl
  · unfold sInit
    by_cases c : S h = true
    · rw [if_pos c]
      refine ⟨by simp, fun x hx => ?_⟩
      rw [List.mem_singleton.mp hx]
      rcases Nat.lt_or_ge h n with q | q
      · exact q
      · rw [hS h q] at c; cases c
    · rw [if_neg c]; exact ⟨List.nodup_nil, fun x hx => by cases hx⟩
theorem nodup_len : ∀ {n : Nat} {l : List Nat}, l.Nodup → (∀ x ∈ l, x < n) → l.length ≤ n := by
  intro n
  induction n with
  | zero =>
    intro l _ h
    cases l with
    | nil => exact Nat.le_refl _
    | cons a l => have := h a List.mem_cons_self; omega
  | succ n ih =>
    intro l hl h
    by_cases hm : n ∈ l
    · have h1 : (l.erase n).Nodup := hl.erase n
      have h2 : ∀ x ∈ l.erase n, x < n := fun x hx => by
        have h3 := (hl.mem_erase_iff.mp hx)
        have := h x h3.2
        have := h3.1
        omega
      have h4 := ih h1 h2
      have h5 := List.length_erase_of_mem hm
      have h6 : 0 < l.length := List.length_pos_of_mem hm
      omega
    · have h2 : ∀ x ∈ l, x < n := fun x hx => by
        have := h x hx
        have : x ≠ n := fun q => hm (q ▸ hx)
        omega
      have := ih hl h2
      omega
theorem WI.len {n : Nat} {W : Nat → List Nat} (hW : WI n W) (h : Nat) : (W h).length ≤ n := nodup_len (hW.2 h).1 (hW.2 h).2
theorem sTo_0 {n : Nat} {K : Nat → Nat → Nat} {lk : Int32} {S : Nat → Bool} {Rf : Int32} {ow : Option Nat} {W : Nat → List Nat} : sTo n K lk S Rf ow W 0 = W := by
  funext h
  unfold sTo; rw [if_neg (by omega)]
theorem sTo_n {n : Nat} {K : Nat → Nat → Nat} {lk : Int32} {S : Nat → Bool} {Rf : Int32} {ow : Option Nat} {W : Nat → List Nat} : sTo n K lk S Rf ow W n = sRnd n K lk S Rf ow W := by
  funext h
  unfold sTo
  by_cases c : h < n
  · rw [if_pos c]
  · rw [if_neg c]; unfold sRnd; rw [if_neg (fun q => c q.1)]
theorem sChg_false {n : Nat} {K : Nat → Nat → Nat} {lk : Int32} {S : Nat → Bool} {Rf : Int32} {ow : Option Nat} {W : Nat → List Nat} (h : sChg n K lk S Rf ow W n = false) : sRnd n K lk S Rf ow W = W := by
  have key : ∀ m, sChg n K lk S Rf ow W m = false → ∀ i, i < m → sRnd n K lk S Rf ow W i = W i := by
    intro m
    induction m with
    | zero => intro _ i hi; omega
    | succ m ih =>
      intro q i hi
      unfold sChg at q
      rw [Bool.or_eq_false_iff] at q
      rcases Nat.lt_or_ge i m with a | a
      · exact ih q.1 i a
      · have : i = m := by omega
        subst this
        have := of_decide_eq_false q.2
        exact Decidable.not_not.mp this
  funext i
  rcases Nat.lt_or_ge i n with a | a
  · exact key n h i a
  · unfold sRnd; rw [if_neg (fun q => by omega)]
/-- a way as one number: four bits a house -/
def enc : List Nat → Nat
  | [] => 0
  | h :: t => enc t * 16 + h
theorem enc_lt : ∀ {l : List Nat}, (∀ x ∈ l, x < 16) → enc l < 16 ^ l.length := by
  intro l
  induction l with
  | nil => intro _; decide
  | cons a l ih =>
    intro h
    have h1 := ih (fun x hx => h x (List.mem_cons_of_mem _ hx))
    have h2 := h a List.mem_cons_self
    show enc l * 16 + a < 16 ^ (l.length + 1)
    rw [Nat.pow_succ]
    omega
theorem enc_at : ∀ {l : List Nat} (_ : ∀ x ∈ l, x < 16) {i v : Nat}, l[i]? = some v → enc l / 16 ^ i % 16 = v := by
  intro l
  induction l with
  | nil => intro _ i v h; simp at h
  | cons a l ih =>
    intro h i v hv
    have h2 := h a List.mem_cons_self
    cases i with
    | zero =>
      simp at hv
      subst hv
      show (enc l * 16 + a) / 16 ^ 0 % 16 = a
      rw [Nat.pow_zero, Nat.div_one]; omega
    | succ i =>
      have h1 := ih (fun x hx => h x (List.mem_cons_of_mem _ hx)) (i := i) (v := v) (by simpa using hv)
      show (enc l * 16 + a) / 16 ^ (i + 1) % 16 = v
      rw [Nat.pow_succ, Nat.mul_comm (16 ^ i) 16, ← Nat.div_div_eq_div_mul]
      have : (enc l * 16 + a) / 16 = enc l := by omega
      rw [this]; exact h1
theorem enc_inj : ∀ {a b : List Nat}, (∀ x ∈ a, x < 16) → (∀ x ∈ b, x < 16) → a.length = b.length → enc a = enc b → a = b := by
  intro a
  induction a with
  | nil => intro b _ _ hl _; exact (List.length_eq_zero_iff.mp hl.symm).symm
  | cons x a ih =>
    intro b ha hb hl he
    cases b with
    | nil => cases hl
    | cons y b =>
      have h1 := ha x List.mem_cons_self
      have h2 := hb y List.mem_cons_self
      have he : enc a * 16 + x = enc b * 16 + y := he
      have e1 : x = y := by omega
      have e2 : enc a = enc b := by omega
      rw [e1, ih (fun z hz => ha z (List.mem_cons_of_mem _ hz)) (fun z hz => hb z (List.mem_cons_of_mem _ hz)) (by simpa using hl) e2]
theorem pow16 {m : Nat} (h : m ≤ 10) : 16 ^ m ≤ 2 ^ 40 := by
  have : (16 : Nat) ^ m ≤ 16 ^ 10 := Nat.pow_le_pow_right (by decide) h
  exact this
theorem lN_shr {e k : Nat} (he : e < 2 ^ 40) (hk : k < 64) : lN e >>> ((nI k).toInt64 &&& 63) = lN (e / 2 ^ k) := by
  have hc : ((nI k).toInt64 &&& 63) = lN k := (by decide +kernel : ∀ k, k < 64 → ((nI k).toInt64 &&& 63) = lN k) k hk
  rw [hc]
  apply Int64.toBitVec_inj.mp
  rw [Int64.toBitVec_shiftRight]
  have hs : (lN k).toBitVec.smod 64 = BitVec.ofNat 64 k := (by decide +kernel : ∀ k, k < 64 → (BitVec.ofNat 64 k).smod 64 = BitVec.ofNat 64 k) k hk
  show (BitVec.ofNat 64 e).sshiftRight ((lN k).toBitVec.smod 64).toNat = BitVec.ofNat 64 (e / 2 ^ k)
  rw [hs]
  have hm : (BitVec.ofNat 64 e).msb = false := by
    rw [BitVec.msb_eq_false_iff_two_mul_lt, BitVec.toNat_ofNat, Nat.mod_eq_of_lt (by omega)]
    omega
  have hk2 : (BitVec.ofNat 64 k).toNat = k := by rw [BitVec.toNat_ofNat, Nat.mod_eq_of_lt (by omega)]
  rw [hk2, BitVec.sshiftRight_eq_of_msb_false hm]
  apply BitVec.eq_of_toNat_eq
  rw [BitVec.toNat_ushiftRight, BitVec.toNat_ofNat, BitVec.toNat_ofNat, Nat.mod_eq_of_lt (by omega), Nat.shiftRight_eq_div_pow, Nat.mod_eq_of_lt]
  exact Nat.lt_of_le_of_lt (Nat.div_le_self _ _) (by omega)
theorem at_num {e i : Nat} (he : e < 2 ^ 40) (hi : i < 10) : (Int64.toInt32 (lN e >>> ((Int32.toInt64 ((4 : Int32) * nI i)) &&& 63))) &&& 15 = nI (e / 16 ^ i % 16) := by
  have e4 : (4 : Int32) * nI i = nI (4 * i) := pk_mul 4 i
  rw [e4, lN_shr he (by omega), lN_i, pk_and _ 4 (by decide)]
  have e5 : (2 : Nat) ^ (4 * i) = 16 ^ i := by rw [Nat.pow_mul]
  rw [e5]
  have : (nI (e / 16 ^ i)).toBitVec.toNat = e / 16 ^ i % 2 ^ 32 := BitVec.toNat_ofNat _ _
  rw [this]
  congr 1
  omega
theorem shl4 {e h : Nat} (he : e < 2 ^ 40) (hh : h < 16) : ((lN e <<< ((Int32.toInt64 4) &&& 63)) ||| (Int32.toInt64 (nI h))) = lN (e * 16 + h) := by
  rw [nI_l (by omega)]
  have e1 : lN e <<< ((Int32.toInt64 4) &&& 63) = lN (e * 2 ^ 4) := by
    have hc : ((Int32.toInt64 4) &&& 63) = lN 4 := by decide +kernel
    rw [hc]
    apply Int64.toBitVec_inj.mp
    rw [Int64.toBitVec_shiftLeft]
    have hs : (lN 4).toBitVec.smod 64 = 4#64 := by decide +kernel
    show (BitVec.ofNat 64 e) <<< ((lN 4).toBitVec.smod 64).toNat = BitVec.ofNat 64 (e * 2 ^ 4)
    rw [hs]
    apply BitVec.eq_of_toNat_eq
    simp [BitVec.toNat_shiftLeft, Nat.shiftLeft_eq]
  rw [e1]
  apply Int64.toBitVec_inj.mp
  rw [Int64.toBitVec_or]
  apply BitVec.eq_of_toNat_eq
  show (BitVec.ofNat 64 (e * 2 ^ 4) ||| BitVec.ofNat 64 h).toNat = (BitVec.ofNat 64 (e * 16 + h)).toNat
  rw [BitVec.toNat_or, BitVec.toNat_ofNat, BitVec.toNat_ofNat, BitVec.toNat_ofNat, Nat.mod_eq_of_lt (by omega), Nat.mod_eq_of_lt (by omega), Nat.mod_eq_of_lt (by omega)]
  have := Nat.two_pow_add_eq_or_of_lt (i := 4) (b := h) (by omega) e
  rw [Nat.mul_comm] at this
  omega
