theorem sy_iff {sb sh : Nat → Nat} {b h : Nat} : ∀ {ns : Nat}, syOf sb sh ns b h = true ↔ ∃ k, k < ns ∧ sb k = b ∧ sh k = h := by
  intro ns
  induction ns with
  | zero => exact ⟨fun q => (by cases q), fun q => (by obtain ⟨k, hk, -⟩ := q; omega)⟩
  | succ ns ih =>
    have e : syOf sb sh (ns + 1) b h = (syOf sb sh ns b h || (decide (sb ns = b) && decide (sh ns = h))) := rfl
    rw [e, Bool.or_eq_true, ih, Bool.and_eq_true, decide_eq_true_eq, decide_eq_true_eq]
    constructor
    · rintro (⟨k, k1, k2⟩ | q)
      · exact ⟨k, by omega, k2⟩
      · exact ⟨ns, by omega, q⟩
    · rintro ⟨k, k1, k2⟩
      by_cases z : k = ns
      · subst z; exact Or.inr k2
      · exact Or.inl ⟨k, by omega, k2⟩
theorem bool_eq {a b : Bool} (h : a = true ↔ b = true) : a = b := by
  cases a <;> cases b <;> simp at h <;> rfl
theorem nb_m2 {b : Nat} (hb : b < 128) : ¬ nI b = -2 := fun z => by
  have h1 := nI_toInt (n := b) (by omega)
  rw [z] at h1
  have h2 : (-2 : Int32).toInt = -2 := by decide
  omega
theorem a8 {σ : ZS} {d v : Int32} {b j : Nat} (h : j ≠ 4) : (setA (setI σ 4 d) 8 b v).1 j = σ.1 j := by
  show upd σ.1 4 d j = _
  exact pk_un h
theorem a8s {σ : ZS} {d v : Int32} {b : Nat} : (setA (setI σ 4 d) 8 b v).1 4 = d := by
  show upd σ.1 4 d 4 = _
  exact pk_us
theorem m234 {τ : ZS} {d a b c : Int32} {k j : Nat} (h : j ≠ 1) : (setA (setA (setA (setI τ 1 d) 2 k a) 3 k b) 4 k c).1 j = τ.1 j := by
  show upd τ.1 1 d j = _
  exact pk_un h
theorem m234s {τ : ZS} {d a b c : Int32} {k : Nat} : (setA (setA (setA (setI τ 1 d) 2 k a) 3 k b) 4 k c).1 1 = d := by
  show upd τ.1 1 d 1 = _
  exact pk_us
section RN
variable {n : Nat} {K : Nat → Nat → Nat} {lk rf : Int32} {hol : Nat → Int32} {nr : Nat} {rb : Nat → Nat} {ns : Nat} {sb sh : Nat → Nat} {σ τ : ZS}
/-- one block's holder is another -/
def uH (hol : Nat → Int32) (b : Nat) (v : Int32) : Nat → Int32 := fun x => if x = b then v else hol x
theorem uH_s {b : Nat} {v : Int32} : uH hol b v b = v := if_pos rfl
theorem uH_n {b x : Nat} {v : Int32} (h : x ≠ b) : uH hol b v x = hol x := if_neg h
theorem give_ok (E : EC n K lk hol (syOf sb sh ns) σ) (h4 : σ.1 4 = nI nr) {b : Nat} (hb : 1 ≤ b ∧ b < 128) (v : Int32) (d : Int32) (hd : d = nI nr + ((if v = -1 then 0 else 1) - (if hol b = -1 then 0 else 1))) : f_X2_give (nI b) v σ = some (setA (setI σ 4 d) 8 b v) := by
  have J38 : ∀ s0 s1 : Int32, nI nr + (s1 - s0) = d → Ok (f_X2_give_J38 (nI b) v s0 s1 (nI nr) σ) (fun r => r = setA (setI σ 4 d) 8 b v) := fun s0 s1 q => by
    unfold f_X2_give_J38
    rw [q, nI_clamp (show b < 2 ^ 31 by omega)]
    exact oCkI hb.2 (by omega) (oRet rfl)
  have J23 : ∀ s1 : Int32, s1 = (if v = -1 then 0 else 1) → Ok (f_X2_give_J23 (nI b) v s1 (nI nr) σ) (fun r => r = setA (setI σ 4 d) 8 b v) := fun s1 q => by
    unfold f_X2_give_J23
    refine oLd hb.2 (by omega) ?_
    rw [E.2.2.2.1 b hb.1 hb.2]
    refine oIte (fun z => J38 0 s1 ?_) (fun z => J38 1 s1 ?_)
    · rw [hd, if_pos z, q]
    · rw [hd, if_neg z, q]
  apply oEq
  unfold f_X2_give
  rw [h4]
  refine oBindE (isBlock_ok hb.1 hb.2) (oF one_ne (oIte (fun z => J23 0 (by rw [if_pos z])) (fun z => J23 1 (by rw [if_neg z]))))
/-- the class, with another holder -/
theorem EC.give (E : EC n K lk hol (syOf sb sh ns) σ) {b : Nat} {v d : Int32} : EC n K lk (uH hol b v) (syOf sb sh ns) (setA (setI σ 4 d) 8 b v) := by
  obtain ⟨e1, e2, e3, e4, e5⟩ := E
  refine ⟨(a8 (by omega)).trans e1, (a8 (by omega)).trans e2, fun i j hi hj => ?_, fun x h1 h2 => ?_, fun x h1 h2 => ?_⟩
  · rw [setA_n (by omega)]; exact e3 i j hi hj
  · rw [setA_s]
    by_cases z : x = b
    · subst z; rw [pk_us, uH_s]
    · rw [pk_un z, uH_n z]; exact e4 x h1 h2
  · rw [setA_n (by omega)]; exact e5 x h1 h2
theorem right_same (h : RX n K lk rf hol nr rb ns sb sh σ τ) (l f x : Int32) : Same (f_X6_right l f x σ) (f_X7_right l f x τ) := by
  have hG := h.1
  have hn := hG.1
  rcases blk_cases l f with ⟨a1, a2⟩ | ⟨b, hb, rfl, rfl, a1, a2⟩
  · refine h.bad (v := -2) (oEq ?_) (oEq ?_)
    · unfold f_X6_right; exact oBindE a1 (oT rfl (oRet rfl))
    · unfold f_X7_right; exact oBindE a2 (oT rfl (oRet rfl))
  rcases has_ok h.2.1 hG x with ⟨q1, q2⟩ | ⟨y, hy, rfl, q1⟩
  · rcases isHouse_ok h.2.2.1.1 hn x with ⟨z1, z2⟩ | ⟨y, hy, e, -⟩
    · refine h.bad (v := -2) (oEq ?_) (oEq ?_)
      · unfold f_X6_right; exact oBindE a1 (oF (nb_m2 hb.2) (oBindE q1 (oT rfl (oRet rfl))))
      · unfold f_X7_right; exact oBindE a2 (oF one_ne (oBindE z1 (oT rfl (oRet rfl))))
    · exact absurd e (q2 y hy)
  have q3 := isHouse_1 h.2.2.1.1 hn hy
  have hhol := holder_ok h.2.1 hb.1 hb.2
  have MR0 := h.2.2.1.2.2.2.1
  have ym1 : ¬ nI y = -1 := nI_m1 (by omega)
  rcases rightOf_ok MR0 hb with ⟨r1, r2⟩ | ⟨k, r1, r2, r3, r4⟩
  · -- none has it
    have hne : ¬ hol b = nI y := fun z => by rw [r1] at z; exact ym1 z.symm
    by_cases c : nr = 12
    · refine h.bad (v := -6) (oEq ?_) (oEq ?_)
      · unfold f_X6_right f_X2_number
        refine oBindE a1 (oF (nb_m2 hb.2) (oBindE q1 (oF one_ne (oBindE hhol (oF hne (oT r1 (oBindE rfl (oF ?_ (oRet rfl)))))))))
        rw [h.2.2.2.2.2.1, c]; decide
      · unfold f_X7_right
        refine oBindE a2 (oF one_ne (oBindE q3 (oF one_ne (oBindE r2 (oT rfl ?_)))))
        unfold f_X7_right_J47
        refine oT rfl (oT ?_ (oRet rfl))
        rw [MR0.1, c]; rfl
    · obtain ⟨G, E, M, ⟨h1, h2⟩, h3, h4, h5, h6, h7, h8⟩ := h
      obtain ⟨m1, m2, m3, m4, m5⟩ := MR0
      have hc : nr < 12 := by omega
      have hd : nI (nr + 1) = nI nr + ((if nI y = -1 then 0 else 1) - (if hol b = -1 then 0 else 1)) := by
        rw [if_neg ym1, if_pos r1, ← nI_1]; rfl
      refine ⟨-1, setA (setI σ 4 (nI (nr + 1))) 8 b (nI y), setA (setA (setA (setI τ 1 (nI (nr + 1))) 2 nr (nI (lenOf b))) 3 nr (nI (fstOf b))) 4 nr (nI y), oEq ?_, oEq ?_, n, K, lk, rf, uH hol b (nI y), nr + 1, (fun k => if k = nr then b else rb k), ns, sb, sh, ?_⟩
      · unfold f_X6_right f_X2_number f_X6_right_J69
        refine oBindE a1 (oF (nb_m2 hb.2) (oBindE q1 (oF one_ne (oBindE hhol (oF hne (oT r1 (oBindE rfl (oT ?_ (oBindE (give_ok E h4 hb (nI y) _ hd) (oRet ?_))))))))))
        · rw [h4]; exact nI_lt (b := 12) hc (by omega)
        · rw [r1]
      · unfold f_X7_right
        refine oBindE a2 (oF one_ne (oBindE q3 (oF one_ne (oBindE r2 (oT rfl ?_)))))
        unfold f_X7_right_J47
        refine oT rfl (oF ?_ ?_)
        · rw [m1]
          exact fun z => c ((nI_eq (a := nr) (b := 12) (by omega) (by omega)).mp z)
        · unfold f_X7_right_J65 f_X7_right_J82 f_X7_right_J99
          rw [m1]
          refine oT rfl (oT rfl (oT rfl ?_))
          unfold f_X7_right_J120
          rw [nI_clamp (show nr < 2 ^ 31 by omega), nI_1]
          exact oCkI hc (by omega) (oCkI hc (by omega) (oCkI hc (by omega) (oRet rfl)))
      · have hrb : ∀ k, k < nr → rb k ≠ b := fun k hk z => (m3 k hk).2.1 (by rw [z]; exact r1)
        refine ⟨⟨G.1, G.2.1, G.2.2.1, G.2.2.2.1, fun x => ?_, G.2.2.2.2.2⟩, E.give, ⟨(m234 (by omega)).trans M.1, (m234 (by omega)).trans M.2.1, fun i j hi hj => ?_, ⟨m234s, by omega, fun k hk => ?_, fun x x1 x2 x3 => ?_, fun i j hi hj e => ?_⟩, (m234 (by omega)).trans M.2.2.2.2.1, M.2.2.2.2.2.1, fun k hk => ?_⟩, ⟨(a8 (by omega)).trans h1, (m234 (by omega)).trans h2⟩, (a8 (by omega)).trans h3, a8s, (a8 (by omega)).trans h5, h6, fun k hk => ?_, h8⟩
        · by_cases z : x = b
          · subst z; rw [uH_s]; exact Or.inr ⟨y, hy, rfl⟩
          · rw [uH_n z]; exact G.2.2.2.2.1 x
        · rw [setA_n (by omega), setA_n (by omega), setA_n (by omega)]; exact M.2.2.1 i j hi hj
        · dsimp only
          by_cases z : k = nr
          · subst z
            rw [if_pos rfl]
            refine ⟨hb, by rw [uH_s]; exact ym1, ?_, ?_, ?_⟩
            · rw [setA_n (by omega), setA_n (by omega), setA_s, pk_us]
            · rw [setA_n (by omega), setA_s, pk_us]
            · rw [setA_s, pk_us, uH_s]
          · rw [if_neg z]
            have hk' : k < nr := by omega
            obtain ⟨c1, c2, c3, c4, c5⟩ := m3 k hk'
            rw [uH_n (hrb k hk')]
            refine ⟨c1, c2, ?_, ?_, ?_⟩
            · rw [setA_n (by omega), setA_n (by omega), setA_s, pk_un z]; exact c3
            · rw [setA_n (by omega), setA_s, pk_un z]
              show (setA _ 2 _ _).2.1 3 k = _
              rw [setA_n (by omega)]; exact c4
            · rw [setA_s, pk_un z]
              show (setA (setA _ 2 _ _) 3 _ _).2.1 4 k = _
              rw [setA_n (by omega), setA_n (by omega)]; exact c5
        · by_cases z : x = b
          · exact ⟨nr, by omega, by show (if nr = nr then b else rb nr) = x; rw [if_pos rfl, z]⟩
          · rw [uH_n z] at x3
            obtain ⟨k, k1, k2⟩ := m4 x x1 x2 x3
            exact ⟨k, by omega, by show (if k = nr then b else rb k) = x; rw [if_neg (by omega)]; exact k2⟩
        · have e : (if i = nr then b else rb i) = (if j = nr then b else rb j) := e
          by_cases zi : i = nr <;> by_cases zj : j = nr
          · omega
          · rw [if_pos zi, if_neg zj] at e; exact absurd e.symm (hrb j (by omega))
          · rw [if_neg zi, if_pos zj] at e; exact absurd e (hrb i (by omega))
          · rw [if_neg zi, if_neg zj] at e; exact m5 i j (by omega) (by omega) e
        · rw [setA_n (by omega), setA_n (by omega), setA_n (by omega), setA_n (by omega), setA_n (by omega), setA_n (by omega), setA_n (by omega), setA_n (by omega), setA_n (by omega)]
          exact M.2.2.2.2.2.2 k hk
        · rw [setA_n (by omega), setA_n (by omega)]; exact h7 k hk
  · -- one has it
    have hk12 := MR0.2.1
    have h4k := (MR0.2.2.1 k r1).2.2.2.2
    rw [r2] at h4k
    by_cases c : hol b = nI y
    · refine h.bad (v := -3) (oEq ?_) (oEq ?_)
      · unfold f_X6_right
        exact oBindE a1 (oF (nb_m2 hb.2) (oBindE q1 (oF one_ne (oBindE hhol (oT c (oRet rfl))))))
      · unfold f_X7_right
        refine oBindE a2 (oF one_ne (oBindE q3 (oF one_ne (oBindE r4 (oF (nI_m1 (by omega)) (oLd (by omega) (by omega) ?_))))))
        rw [h4k]
        exact oT c (oRet rfl)
    · obtain ⟨G, E, M, ⟨h1, h2⟩, h3, h4, h5, h6, h7, h8⟩ := h
      obtain ⟨m1, m2, m3, m4, m5⟩ := MR0
      have hd : nI nr = nI nr + ((if nI y = -1 then 0 else 1) - (if hol b = -1 then 0 else 1)) := by
        rw [if_neg ym1, if_neg r3]; exact (nI_add nr 0).symm
      refine ⟨hol b, setA (setI σ 4 (nI nr)) 8 b (nI y), setA (setA (setA (setI τ 1 (nI nr)) 2 k (nI (lenOf b))) 3 k (nI (fstOf b))) 4 k (nI y), oEq ?_, oEq ?_, n, K, lk, rf, uH hol b (nI y), nr, rb, ns, sb, sh, ?_⟩
      · unfold f_X6_right f_X6_right_J69
        exact oBindE a1 (oF (nb_m2 hb.2) (oBindE q1 (oF one_ne (oBindE hhol (oF c (oF r3 (oBindE (give_ok E h4 hb (nI y) _ hd) (oRet rfl))))))))
      · unfold f_X7_right
        refine oBindE a2 (oF one_ne (oBindE q3 (oF one_ne (oBindE r4 (oF (nI_m1 (by omega)) (oLd (by omega) (by omega) ?_))))))
        rw [h4k]
        refine oF c ?_
        unfold f_X7_right_J47 f_X7_right_J65
        refine oF (nI_m1 (by omega)) (oF (nI_m1 (by omega)) (oLd (by omega) (by omega) ?_))
        rw [h4k]
        unfold f_X7_right_J82 f_X7_right_J99
        rw [m1]
        refine oF (nI_m1 (by omega)) (oF (fun z => by have := (nI_eq (a := k) (b := nr) (by omega) (by omega)).mp z; omega) ?_)
        unfold f_X7_right_J120
        rw [nI_clamp (show k < 2 ^ 31 by omega), show nI nr + 0 = nI nr from nI_add nr 0]
        exact oCkI (by omega) (by omega) (oCkI (by omega) (by omega) (oCkI (by omega) (by omega) (oRet rfl)))
      · refine ⟨⟨G.1, G.2.1, G.2.2.1, G.2.2.2.1, fun x => ?_, G.2.2.2.2.2⟩, E.give, ⟨(m234 (by omega)).trans M.1, (m234 (by omega)).trans M.2.1, fun i j hi hj => ?_, ⟨m234s, m2, fun j hj => ?_, fun x x1 x2 x3 => ?_, m5⟩, (m234 (by omega)).trans M.2.2.2.2.1, M.2.2.2.2.2.1, fun k hk => ?_⟩, ⟨(a8 (by omega)).trans h1, (m234 (by omega)).trans h2⟩, (a8 (by omega)).trans h3, a8s, (a8 (by omega)).trans h5, h6, fun k hk => ?_, h8⟩
        · by_cases z : x = b
          · subst z; rw [uH_s]; exact Or.inr ⟨y, hy, rfl⟩
          · rw [uH_n z]; exact G.2.2.2.2.1 x
        · rw [setA_n (by omega), setA_n (by omega), setA_n (by omega)]; exact M.2.2.1 i j hi hj
        · obtain ⟨c1, c2, c3, c4, c5⟩ := m3 j hj
          by_cases z : j = k
          · subst z
            rw [r2, uH_s]
            refine ⟨hb, ym1, ?_, ?_, ?_⟩
            · rw [setA_n (by omega), setA_n (by omega), setA_s, pk_us]
            · rw [setA_n (by omega), setA_s, pk_us]
            · rw [setA_s, pk_us]
          · have hjb : rb j ≠ b := fun e => z (m5 j k hj r1 (e.trans r2.symm))
            rw [uH_n hjb]
            refine ⟨c1, c2, ?_, ?_, ?_⟩
            · rw [setA_n (by omega), setA_n (by omega), setA_s, pk_un z]; exact c3
            · rw [setA_n (by omega), setA_s, pk_un z]
              show (setA _ 2 _ _).2.1 3 j = _
              rw [setA_n (by omega)]; exact c4
            · rw [setA_s, pk_un z]
              show (setA (setA _ 2 _ _) 3 _ _).2.1 4 j = _
              rw [setA_n (by omega), setA_n (by omega)]; exact c5
        · by_cases z : x = b
          · exact ⟨k, r1, by rw [r2, z]⟩
          · rw [uH_n z] at x3
            exact m4 x x1 x2 x3
        · rw [setA_n (by omega), setA_n (by omega), setA_n (by omega), setA_n (by omega), setA_n (by omega), setA_n (by omega), setA_n (by omega), setA_n (by omega), setA_n (by omega)]
          exact M.2.2.2.2.2.2 k hk
        · rw [setA_n (by omega), setA_n (by omega)]; exact h7 k hk
end RN
