/-! Pure rows: what the functions f_.. answer. Ok o P: o answers, and P of the answer. -/
def Ok {ρ : Type} (o : Option ρ) (P : ρ → Prop) : Prop := ∃ r, o = some r ∧ P r
theorem oRet {ρ : Type} {r : ρ} {P : ρ → Prop} (h : P r) : Ok (some r) P := ⟨r, rfl, h⟩
theorem oMono {ρ : Type} {o : Option ρ} {P Q : ρ → Prop} (h : Ok o P) (k : ∀ r, P r → Q r) : Ok o Q := by
  obtain ⟨r, h1, h2⟩ := h
  exact ⟨r, h1, k r h2⟩
theorem oEq {ρ : Type} {o : Option ρ} {v : ρ} (h : Ok o (fun r => r = v)) : o = some v := by
  obtain ⟨r, h1, rfl⟩ := h
  exact h1
theorem oOf {ρ : Type} {o : Option ρ} {v : ρ} (h : o = some v) : Ok o (fun r => r = v) := ⟨v, h, rfl⟩
theorem oBind {α ρ : Type} {o : Option α} {f : α → Option ρ} {P : α → Prop} {Q : ρ → Prop} (h : Ok o P) (k : ∀ q, P q → Ok (f q) Q) : Ok (Option.bind o f) Q := by
  obtain ⟨q, h1, h2⟩ := h
  subst h1
  exact k q h2
theorem oBindE {α ρ : Type} {o : Option α} {f : α → Option ρ} {v : α} {Q : ρ → Prop} (h : o = some v) (k : Ok (f v) Q) : Ok (Option.bind o f) Q := by
  subst h
  exact k
theorem oIte {ρ : Type} {c : Prop} [Decidable c] {X Y : Option ρ} {P : ρ → Prop} (h1 : c → Ok X P) (h2 : ¬ c → Ok Y P) : Ok (if c then X else Y) P := by
  by_cases h : c
  · rw [if_pos h]; exact h1 h
  · rw [if_neg h]; exact h2 h
theorem oT {ρ : Type} {c : Prop} [Decidable c] {X Y : Option ρ} {P : ρ → Prop} (h : c) (h1 : Ok X P) : Ok (if c then X else Y) P := by
  rw [if_pos h]; exact h1
theorem oF {ρ : Type} {c : Prop} [Decidable c] {X Y : Option ρ} {P : ρ → Prop} (h : ¬ c) (h1 : Ok Y P) : Ok (if c then X else Y) P := by
  rw [if_neg h]; exact h1
theorem oLt {ρ : Type} {X Y : Option ρ} {P : ρ → Prop} (a b : Nat) (ha : a < 2 ^ 31) (hb : b < 2 ^ 31) (h1 : a < b → Ok X P) (h2 : b ≤ a → Ok Y P) : Ok (if nI a < nI b then X else Y) P :=
  oIte (fun h => h1 ((nI_ltI ha hb).mp h)) (fun h => h2 (Nat.not_lt.mp (fun q => h ((nI_ltI ha hb).mpr q))))
theorem oLe {ρ : Type} {X Y : Option ρ} {P : ρ → Prop} (a b : Nat) (ha : a < 2 ^ 31) (hb : b < 2 ^ 31) (h1 : a ≤ b → Ok X P) (h2 : b < a → Ok Y P) : Ok (if nI a ≤ nI b then X else Y) P :=
  oIte (fun h => h1 ((nI_leI ha hb).mp h)) (fun h => h2 (Nat.not_le.mp (fun q => h ((nI_leI ha hb).mpr q))))
theorem oNe {ρ : Type} {X Y : Option ρ} {P : ρ → Prop} (a b : Nat) (ha : a < 2 ^ 31) (hb : b < 2 ^ 31) (h1 : a = b → Ok X P) (h2 : a ≠ b → Ok Y P) : Ok (if nI a = nI b then X else Y) P :=
  oIte (fun h => h1 ((nI_eq ha hb).mp h)) (fun h => h2 (fun q => h ((nI_eq ha hb).mpr q)))
theorem nI_m1 {a : Nat} (ha : a < 2 ^ 31) : ¬ nI a = -1 := fun h => by
  have h1 := nI_toInt ha
  rw [h] at h1
  have h2 : (-1 : Int32).toInt = -1 := by decide
  omega
theorem inb_nI {i n : Nat} (hi : i < n) (hn : n < 2 ^ 31) : inb (nI i) n = true := by
  unfold inb
  rw [nI_clamp (by omega), decide_eq_true (nI_pos (by omega)), decide_eq_true hi]
  rfl
theorem oCk {ρ : Type} {b : Bool} {o : Option ρ} {P : ρ → Prop} (hb : b = true) (h : Ok o P) : Ok (ck b o) P := by
  unfold ck
  rw [if_pos hb]; exact h
theorem oCkI {ρ : Type} {i n : Nat} {o : Option ρ} {P : ρ → Prop} (hi : i < n) (hn : n < 2 ^ 31) (h : Ok o P) : Ok (ck (inb (nI i) n) o) P := oCk (inb_nI hi hn) h
theorem oLd {ρ β : Type} {f : Nat → β} {n i : Nat} {k : β → Option ρ} {P : ρ → Prop} (hi : i < n) (hn : n < 2 ^ 31) (h : Ok (k (f i)) P) : Ok (ld f n (nI i) k) P := by
  unfold ld
  rw [if_pos (inb_nI hi hn), nI_clamp (by omega)]; exact h
theorem oLdX {ρ β : Type} {f : Nat → β} {n : Nat} {x : Int32} {k : β → Option ρ} {P : ρ → Prop} (i : Nat) (hx : x = nI i) (hi : i < n) (hn : n < 2 ^ 31) (h : Ok (k (f i)) P) : Ok (ld f n x k) P := by
  subst hx; exact oLd hi hn h
theorem oWi {τ ρ : Type} {o : Option ρ} {P : τ ⊕ ρ → Prop} (h : Ok o (fun r => P (.inr r))) : Ok (wi o) P := by
  obtain ⟨r, h1, h2⟩ := h
  subst h1
  exact ⟨.inr r, rfl, h2⟩
/-- a loop with a counter: I i holds at the head at the i-th time, at most N times -/
theorem oLp {τ ρ : Type} {body : τ → Option (τ ⊕ ρ)} {P : ρ → Prop} (I : Nat → τ → Prop) (N : Nat) (hs : ∀ i t, i < N → I i t → Ok (body t) (Sum.elim (I (i + 1)) P)) (he : ∀ t, I N t → Ok (body t) (Sum.elim (fun _ => False) P)) : ∀ (F i : Nat) (t : τ), I i t → i ≤ N → N < F + i → Ok (lp F body t) P := by
  intro F
  induction F with
  | zero => intro i t _ h1 h2; omega
  | succ F ih =>
    intro i t hi h1 h2
    have key : ∀ u, body t = some u → Ok (lk F body u) P → Ok (lp (F + 1) body t) P := by
      intro u hu hk
      have e : lp (F + 1) body t = lk F body u := by
        conv => lhs; unfold lp
        rw [hu]
        cases u <;> rfl
      rw [e]; exact hk
    rcases Nat.lt_or_ge i N with h | h
    · obtain ⟨u, hu, hp⟩ := hs i t h hi
      refine key u hu ?_
      cases u with
      | inl t' => exact ih (i + 1) t' hp (by omega) (by omega)
      | inr r => exact ⟨r, rfl, hp⟩
    · have e : i = N := by omega
      subst e
      obtain ⟨u, hu, hp⟩ := he t hi
      refine key u hu ?_
      cases u with
      | inl t' => exact absurd hp id
      | inr r => exact ⟨r, rfl, hp⟩
/-- the same, from the head, with zF -/
theorem oLoop {τ ρ : Type} {body : τ → Option (τ ⊕ ρ)} {P : ρ → Prop} {t : τ} (I : Nat → τ → Prop) (N : Nat) (hN : N < 3000) (h0 : I 0 t) (hs : ∀ i t, i < N → I i t → Ok (body t) (Sum.elim (I (i + 1)) P)) (he : ∀ t, I N t → Ok (body t) (Sum.elim (fun _ => False) P)) : Ok (lp zF body t) P := oLp I N hs he zF 0 t h0 (Nat.zero_le _) (by unfold zF; omega)
/-- a loop that falls: I t, with a measure -/
theorem oDown {τ ρ : Type} {body : τ → Option (τ ⊕ ρ)} {P : ρ → Prop} {t : τ} (I : τ → Prop) (μ : τ → Nat) (h0 : I t) (hN : μ t < 3000) (hs : ∀ t, I t → Ok (body t) (Sum.elim (fun t' => I t' ∧ μ t' < μ t) P)) : Ok (lp zF body t) P := by
  have key : ∀ (F : Nat) (t : τ), I t → μ t < F → Ok (lp F body t) P := by
    intro F
    induction F with
    | zero => intro t _ h; omega
    | succ F ih =>
      intro t hi h
      obtain ⟨u, hu, hp⟩ := hs t hi
      have e : lp (F + 1) body t = lk F body u := by
        conv => lhs; unfold lp
        rw [hu]
        cases u <;> rfl
      rw [e]
      cases u with
      | inl t' => exact ih t' hp.1 (by have := hp.2; omega)
      | inr r => exact ⟨r, rfl, hp⟩
  exact key zF t h0 (by unfold zF; omega)
def bt (x : Int32) (i : Nat) : Bool := x.toBitVec.getLsbD i
theorem b_ext {x y : Int32} (h : ∀ i, i < 32 → bt x i = bt y i) : x = y := Int32.toBitVec_inj.mp (BitVec.eq_of_getLsbD_eq (fun i hi => h i hi))
theorem b_or (x y : Int32) (i : Nat) : bt (x ||| y) i = (bt x i || bt y i) := by unfold bt; rw [Int32.toBitVec_or, BitVec.getLsbD_or]
theorem b_and (x y : Int32) (i : Nat) : bt (x &&& y) i = (bt x i && bt y i) := by unfold bt; rw [Int32.toBitVec_and, BitVec.getLsbD_and]
theorem b_xor (x y : Int32) (i : Nat) : bt (x ^^^ y) i = (bt x i ^^ bt y i) := by unfold bt; rw [Int32.toBitVec_xor, BitVec.getLsbD_xor]
theorem b_big {x : Int32} {i : Nat} (h : 32 ≤ i) : bt x i = false := BitVec.getLsbD_of_ge _ _ h
theorem b_m1 : ∀ i, i < 32 → bt (-1) i = true := by decide +kernel
theorem b_0 (i : Nat) : bt 0 i = false := BitVec.getLsbD_zero
theorem s_l : ∀ n, n < 32 → ((nI n &&& 31).toBitVec.smod 32).toNat = n := by decide +kernel
theorem b_sshr (n : Nat) (hn : n < 32) (x : Int32) {i : Nat} (hi : i < 32) : bt (x >>> (nI n &&& 31)) i = if n + i < 32 then bt x (n + i) else bt x 31 := by
  unfold bt
  rw [Int32.toBitVec_shiftRight]
  show (x.toBitVec.sshiftRight ((nI n &&& 31).toBitVec.smod 32).toNat).getLsbD i = _
  rw [s_l n hn, BitVec.getLsbD_sshiftRight, BitVec.msb_eq_getLsbD_last]
  simp [hi]
theorem b_1 : ∀ i, i < 32 → bt 1 i = decide (i = 0) := by decide +kernel
/-- the bit of a house -/
def bm (h : Nat) : Int32 := (1 : Int32) <<< (nI h &&& 31)
theorem b_bm : ∀ h, h < 32 → ∀ i, i < 32 → bt (bm h) i = decide (i = h) := by decide +kernel
theorem b_bmn : ∀ h, h < 32 → ∀ i, i < 32 → bt (bm h ^^^ (-1)) i = !decide (i = h) := by decide +kernel
theorem b_not (x : Int32) {i : Nat} (hi : i < 32) : bt (x ^^^ (-1)) i = !bt x i := by rw [b_xor, b_m1 i hi]; simp
/-- the test of one bit, as both classes write it -/
theorem b_tst (x : Int32) {h : Nat} (hh : h < 31) : ((x >>> (nI h &&& 31)) &&& 1) = 1 ↔ bt x h = true := by
  have e : ∀ i, i < 32 → bt ((x >>> (nI h &&& 31)) &&& 1) i = (decide (i = 0) && bt x h) := fun i hi => by
    rw [b_and, b_1 i hi, b_sshr h (by omega) x hi]
    by_cases h0 : i = 0
    · subst h0; simp [show h < 32 by omega]
    · simp [h0]
  constructor
  · intro q
    have := e 0 (by omega)
    rw [q] at this
    have h1 : bt 1 0 = true := by decide
    rw [h1] at this
    simpa using this.symm
  · intro q
    refine b_ext (fun i hi => ?_)
    rw [e i hi, q, b_1 i hi]; simp
def bI (b : Bool) : Int32 := if b = true then 1 else 0
theorem hasBit_ok (x : Int32) {h : Nat} (hh : h < 10) : f_X6_hasBit x (nI h) = some (bI (bt x h)) := by
  unfold f_X6_hasBit
  rw [if_neg (nI_pos (by omega)), if_neg (show ¬ (10 : Int32) ≤ nI h from nI_ge (b := 10) hh (by omega))]
  by_cases hb : bt x h = true
  · rw [if_pos ((b_tst x (by omega)).mpr hb), hb]; rfl
  · rw [if_neg (fun q => hb ((b_tst x (by omega)).mp q))]
    have : bt x h = false := by simpa using hb
    rw [this]; rfl
theorem isOf_ok (x : Int32) {h : Nat} (hh : h < 31) : f_X7_isOf x (nI h) = some (bI (bt x h)) := by
  unfold f_X7_isOf
  by_cases hb : bt x h = true
  · rw [if_pos ((b_tst x hh).mpr hb), hb]; rfl
  · rw [if_neg (fun q => hb ((b_tst x hh).mp q))]
    have : bt x h = false := by simpa using hb
    rw [this]; rfl
theorem bit_ok {h : Nat} (hh : h < 10) : f_X6_bit (nI h) = some (bm h) := by
  unfold f_X6_bit
  rw [if_neg (nI_pos (by omega)), if_neg (show ¬ (10 : Int32) ≤ nI h from nI_ge (b := 10) hh (by omega))]
  rfl
theorem bI_0 {b : Bool} : bI b = 0 ↔ b = false := by cases b <;> decide
/-- a set of houses, all under n -/
def sub10 (m : Int32) (n : Nat) : Prop := ∀ i, n ≤ i → i < 32 → bt m i = false
theorem m_zero {m : Int32} {n : Nat} (h : sub10 m n) : m = 0 ↔ ∀ i, i < n → bt m i = false := by
  constructor
  · intro q i _; rw [q, b_0]
  · intro q
    refine b_ext (fun i hi => ?_)
    rw [b_0]
    rcases Nat.lt_or_ge i n with a | a
    · exact q i a
    · exact h i a hi
/-- blocks: their numbers -/
def bn (L F : Nat) : Nat := (64 + F) / 2 ^ (6 - L)
def okB (L F : Nat) : Bool := decide (F % 2 ^ (6 - L) = 0)
theorem blockNumber_ok : ∀ L, L < 7 → ∀ F, F < 64 → f_X6_blockNumber (nI L) (nI F) = some (if okB L F = true then nI (bn L F) else -2) := by decide +kernel
theorem isBlock7_ok : ∀ L, L < 7 → ∀ F, F < 64 → f_X7_isBlock (nI L) (nI F) = some (bI (okB L F)) := by decide +kernel
def lenOf (b : Nat) : Nat := Nat.log2 b
def fstOf (b : Nat) : Nat := b * 2 ^ (6 - Nat.log2 b) - 64
theorem lengthOf_ok : ∀ b, b < 128 → 1 ≤ b → f_X6_lengthOf (nI b) = some (nI (lenOf b)) := by decide +kernel
theorem firstOf_ok : ∀ b, b < 128 → 1 ≤ b → f_X6_firstOf (nI b) = some (nI (fstOf b)) := by decide +kernel
theorem bn_len : ∀ L, L < 7 → ∀ F, F < 64 → okB L F = true → (1 ≤ bn L F ∧ bn L F < 128 ∧ lenOf (bn L F) = L ∧ fstOf (bn L F) = F) := by decide +kernel
theorem bn_of : ∀ b, b < 128 → 1 ≤ b → (lenOf b < 7 ∧ fstOf b < 64 ∧ okB (lenOf b) (fstOf b) = true ∧ bn (lenOf b) (fstOf b) = b) := by decide +kernel
def pop (s : Nat) : Nat := (List.range 10).foldl (fun a i => a + (s >>> i) % 2) 0
theorem bitCount_ok : ∀ s, s < 1024 → f_J6_bitCount_0f7a4 (nI s) = some (nI (pop s)) := by decide +kernel
theorem ones_ok : ∀ s, s < 1024 → f_X7_ones (nI s) = some (nI (pop s)) := by decide +kernel
