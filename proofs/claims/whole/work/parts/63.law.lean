/-! The law: its loop, its start -/
theorem sub5 {L : Nat} (hL : L ≤ 2560) : (nI L - 5).toInt = (L : Int) - 5 := by
  rw [Int32.toInt_sub, nI_toInt (by omega), show (5 : Int32).toInt = 5 from rfl]
  exact Int.bmod_eq_of_le (by omega) (by omega)
theorem sub5_lt {L i : Nat} (hL : L ≤ 2560) (hi : i ≤ 2565) : nI L - 5 < nI i ↔ ¬ i + 5 ≤ L := by
  rw [Int32.lt_iff_toInt_lt, sub5 hL, nI_toInt (by omega)]
  omega
section LX
variable {p : Program} {l : Launch} {e : Env} {s : State} {m : MethodId} {below : List Frame} {meth : Method} {c : Code} {cells slots : Nat} {D : va_G} {b L : Nat} {xs : Nat → Int32} {a bb : Nat → Nat} {x : ClassId × ClassId × ClassId}
theorem law_exit (C : zx_C p s m #[Value.ref b] c D (tyz x) RL code 4) (hr : meth.sig.returnType = ret) (hlk : meth.locks = false) (hcs : cells ≤ room_1.cells ∧ slots ≤ room_1.slots) (hX : va_X b L xs s s.heap) (hbl : b < s.heap.size) (hbA : ¬ s.heap.size ≤ b) (hL : L ≤ 2560) (σ τ : ZS) (i : Nat) (hi : i ≤ 2565) (h5 : ¬ i + 5 ≤ L) : zV p l e room_1 s m #[Value.ref b] below meth c cells slots (lw_Z below #[Value.ref b] s) D (fun q => s.heap.size ≤ q) 4 (wC a x σ ++ wM bb x τ) 18 [(3, .int (nI i)), (2, .ref (bb 0)), (1, .ref (a 0)), (0, .ref b)] [] := by
  refine z_iload_n C 0 rfl dL_18 ?_
  refine z_aload_n C 3 rfl dL_19 ?_
  refine z_slen C hX hbl hbA dL_20 ?_
  refine z_iconst C (v := 5) dL_21 (by decide) ?_
  refine z_isub C dL_22 ?_
  refine z_icmp_gt C 806 (by decide) dL_23 (X := some ()) (Y := none) (r := ()) (if_pos ((sub5_lt hL hi).mpr h5)) (fun _ => ?_) (fun h => by cases h)
  refine z_iconst C (v := 1) dL_806 (by decide) ?_
  exact z_end C hr hlk hcs.1 hcs.2 dL_807
theorem law_loop (C : zx_C p s m #[Value.ref b] c D (tyz x) RL code 4) (hr : meth.sig.returnType = ret) (hlk : meth.locks = false) (hcs : cells ≤ room_1.cells ∧ slots ≤ room_1.slots) (hX : va_X b L xs s s.heap) (hbl : b < s.heap.size) (hbA : ¬ s.heap.size ≤ b) (hL : L ≤ 2560) : ∀ (n i : Nat) (σ τ : ZS), L ≤ i + n → i ≤ 2565 → Rel σ τ → zV p l e room_1 s m #[Value.ref b] below meth c cells slots (lw_Z below #[Value.ref b] s) D (fun q => s.heap.size ≤ q) 4 (wC a x σ ++ wM bb x τ) 18 [(3, .int (nI i)), (2, .ref (bb 0)), (1, .ref (a 0)), (0, .ref b)] [] := by
  intro n
  induction n with
  | zero => exact fun i σ τ h1 h2 _ => law_exit C hr hlk hcs hX hbl hbA hL σ τ i h2 (by omega)
  | succ n ih =>
    intro i σ τ h1 h2 hR
    by_cases h5 : i + 5 ≤ L
    · refine z_iload_n C 0 rfl dL_18 ?_
      refine z_aload_n C 3 rfl dL_19 ?_
      refine z_slen C hX hbl hbA dL_20 ?_
      refine z_iconst C (v := 5) dL_21 (by decide) ?_
      refine z_isub C dL_22 ?_
      refine z_icmp_gt C 806 (by decide) dL_23 (X := none) (Y := some ()) (r := ()) (if_neg (fun h => (sub5_lt hL h2).mp h h5)) (fun h => by cases h) (fun _ => ?_)
      refine z_aload_n C 3 rfl dL_26 ?_
      refine z_iload_n C 0 rfl dL_27 ?_
      refine z_sld C hX hbl hbA (j := i) rfl (by omega) hL dL_28 ?_
      refine z_bipush C (v := 31) dL_29 (by decide) ?_
      refine z_iand C dL_31 ?_
      obtain ⟨k, hk, ek⟩ := and31 (xs i)
      rw [ek]
      have hn : ∀ σ' τ', Rel σ' τ' → zV p l e room_1 s m #[Value.ref b] below meth c cells slots (lw_Z below #[Value.ref b] s) D (fun q => s.heap.size ≤ q) 4 (wC a x σ' ++ wM bb x τ') 800 [(3, .int (nI i)), (2, .ref (bb 0)), (1, .ref (a 0)), (0, .ref b)] [] := fun σ' τ' R' => by
        refine z_iinc C (n := 5) (v := nI (i + 5)) [(3, .int (nI (i + 5))), (2, .ref (bb 0)), (1, .ref (a 0)), (0, .ref b)] 0 rfl (nI_add i 5) (by decide) rfl dL_800 ?_
        refine z_goto C 18 (by decide) dL_803 ?_
        exact ih (i + 5) σ' τ' (by omega) (by omega) R'
      by_cases h20 : k < 20
      · rcases (show k = 0 ∨ k = 1 ∨ k = 2 ∨ k = 3 ∨ k = 4 ∨ k = 5 ∨ k = 6 ∨ k = 7 ∨ k = 8 ∨ k = 9 ∨ k = 10 ∨ k = 11 ∨ k = 12 ∨ k = 13 ∨ k = 14 ∨ k = 15 ∨ k = 16 ∨ k = 17 ∨ k = 18 ∨ k = 19 by omega) with rfl | rfl | rfl | rfl | rfl | rfl | rfl | rfl | rfl | rfl | rfl | rfl | rfl | rfl | rfl | rfl | rfl | rfl | rfl | rfl
        · refine z_swIn (α := Unit) C 128 0 dL_32 (by decide) (by decide) (by decide) rfl (by decide) ?_
          exact law_0 C hcs hX hbl hbA hL h5 hR hn
        · refine z_swIn (α := Unit) C 141 1 dL_32 (by decide) (by decide) (by decide) rfl (by decide) ?_
          exact law_1 C hcs hX hbl hbA hL h5 hR hn
        · refine z_swIn (α := Unit) C 200 2 dL_32 (by decide) (by decide) (by decide) rfl (by decide) ?_
          exact law_2 C hcs hX hbl hbA hL h5 hR hn
        · refine z_swIn (α := Unit) C 233 3 dL_32 (by decide) (by decide) (by decide) rfl (by decide) ?_
          exact law_3 C hcs hX hbl hbA hL h5 hR hn
        · refine z_swIn (α := Unit) C 276 4 dL_32 (by decide) (by decide) (by decide) rfl (by decide) ?_
          exact law_4 C hcs hX hbl hbA hL h5 hR hn
        · refine z_swIn (α := Unit) C 309 5 dL_32 (by decide) (by decide) (by decide) rfl (by decide) ?_
          exact law_5 C hcs hX hbl hbA hL h5 hR hn
        · refine z_swIn (α := Unit) C 342 6 dL_32 (by decide) (by decide) (by decide) rfl (by decide) ?_
          exact law_6 C hcs hX hbl hbA hL h5 hR hn
        · refine z_swIn (α := Unit) C 385 7 dL_32 (by decide) (by decide) (by decide) rfl (by decide) ?_
          exact law_7 C hcs hX hbl hbA hL h5 hR hn
        · refine z_swIn (α := Unit) C 408 8 dL_32 (by decide) (by decide) (by decide) rfl (by decide) ?_
          exact law_8 C hcs hX hbl hbA hL h5 hR hn
        · refine z_swIn (α := Unit) C 467 9 dL_32 (by decide) (by decide) (by decide) rfl (by decide) ?_
          exact law_9 C hcs hX hbl hbA hL h5 hR hn
        · refine z_swIn (α := Unit) C 500 10 dL_32 (by decide) (by decide) (by decide) rfl (by decide) ?_
          exact law_10 C hcs hX hbl hbA hL h5 hR hn
        · refine z_swIn (α := Unit) C 533 11 dL_32 (by decide) (by decide) (by decide) rfl (by decide) ?_
          exact law_11 C hcs hX hbl hbA hL h5 hR hn
        · refine z_swIn (α := Unit) C 586 12 dL_32 (by decide) (by decide) (by decide) rfl (by decide) ?_
          exact law_12 C hcs hX hbl hbA hL h5 hR hn
        · refine z_swIn (α := Unit) C 629 13 dL_32 (by decide) (by decide) (by decide) rfl (by decide) ?_
          exact law_13 C hcs hX hbl hbA hL h5 hR hn
        · refine z_swIn (α := Unit) C 662 14 dL_32 (by decide) (by decide) (by decide) rfl (by decide) ?_
          exact law_14 C hcs hX hbl hbA hL h5 hR hn
        · refine z_swIn (α := Unit) C 685 15 dL_32 (by decide) (by decide) (by decide) rfl (by decide) ?_
          exact law_15 C hcs hX hbl hbA hL h5 hR hn
        · refine z_swIn (α := Unit) C 718 16 dL_32 (by decide) (by decide) (by decide) rfl (by decide) ?_
          exact law_16 C hcs hX hbl hbA hL h5 hR hn
        · refine z_swIn (α := Unit) C 731 17 dL_32 (by decide) (by decide) (by decide) rfl (by decide) ?_
          exact law_17 C hcs hX hbl hbA hL h5 hR hn
        · refine z_swIn (α := Unit) C 754 18 dL_32 (by decide) (by decide) (by decide) rfl (by decide) ?_
          exact law_18 C hcs hX hbl hbA hL h5 hR hn
        · refine z_swIn (α := Unit) C 777 19 dL_32 (by decide) (by decide) (by decide) rfl (by decide) ?_
          exact law_19 C hcs hX hbl hbA hL h5 hR hn
      · refine z_swOut C 800 dL_32 (Or.inr (by rw [nI_toInt (by omega)]; omega)) (by decide) ?_
        exact hn σ τ hR
    · exact law_exit C hr hlk hcs hX hbl hbA hL σ τ i h2 h5
end LX
def mkA (l : List Nat) (r : Nat → Nat) (k : Nat) : Nat := if k < 23 then l.getD k 0 else r (k - 23)
theorem z_perm {p : Program} {l : Launch} {e : Env} {R : Room} {s : State} {m : MethodId} {args : Array Value} {below : List Frame} {meth : Method} {c : Code} {cells slots : Nat} {Q : State → Prop} {D : va_G} {A : Nat → Prop} {nL : Nat} {ws ws' : va_W} {pc : Nat} {lv : List (Nat × Value)} {st : List Value} (is : List Nat) (hn : va_nd is = true) (hs : is.map (fun i => ws[i]?) = ws'.map some) (k : zV p l e R s m args below meth c cells slots Q D A nL ws' pc lv st) : zV p l e R s m args below meth c cells slots Q D A nL ws pc lv st := by
  intro H locs ls hP hD hS hl
  refine k H locs ls (fun j q hj => ?_) (hD.sub is hn hs) hS hl
  have h1 : (ws'.map some)[j]? = some (some q) := by rw [List.getElem?_map, hj]; rfl
  rw [← hs, List.getElem?_map] at h1
  cases h2 : is[j]? with
  | none => rw [h2] at h1; cases h1
  | some i =>
    rw [h2] at h1
    exact hP i q (Option.some.inj h1)
theorem rel0 (f : Nat → Int32) (hf : ∀ j, j < 128 → f j = -1) : Rel (fun _ => 0, fun k => if k = 8 then f else fun _ => 0, fun _ _ => 0) (fun _ => 0, fun _ _ => 0, fun _ _ => 0) := by
  refine ⟨0, fun _ _ => 0, 0, 0, fun _ => -1, 0, fun _ => 0, 0, fun _ => 0, fun _ => 0, ?_, ?_, ?_, ⟨rfl, rfl⟩, ?_, rfl, rfl, by decide, fun k hk => absurd hk (Nat.not_lt_zero k), fun i j hi => absurd hi (Nat.not_lt_zero i)⟩
  · exact ⟨by decide, fun _ _ => (show 0 < 4 by decide), fun _ _ _ => rfl, fun _ _ => ⟨⟨fun h => (by cases h), fun h => (by cases h)⟩, ⟨fun h => (by cases h), fun h => (by cases h)⟩, rfl⟩, fun _ => Or.inl rfl, fun b h hb => by cases hb⟩
  · refine ⟨rfl, rfl, fun i j hi hj => ?_, fun b h1 h2 => hf b h2, fun b h1 h2 h h3 => b_0 h⟩
    show (if 23 + i = 8 then f else fun _ => 0) j = nI 0
    rw [if_neg (by omega)]
    rfl
  · exact ⟨rfl, rfl, fun _ _ _ _ => rfl, ⟨rfl, by decide, fun k hk => absurd hk (Nat.not_lt_zero k), fun b _ _ h => absurd rfl h, fun i j hi => absurd hi (Nat.not_lt_zero i)⟩, ⟨rfl, by decide, fun k hk => absurd hk (Nat.not_lt_zero k)⟩⟩
  · show (0 : Int32) = nI (tieC (fun _ _ => 0) 0)
    decide +kernel
theorem nq_in : ∀ q ∈ nqs, Cond.methodLinkNest q.1 q.2.1 q.2.2.1 q.2.2.2 ∈ lw_tbl := by decide +kernel
theorem ao_in : Cond.arrayOver (.array .int) ∈ lw_tbl := by decide +kernel
theorem gt_in {w : Cond} (h : w ∈ gtbl) : w ∈ lw_tbl := (List.mem_filter.mp h).1
theorem whole_start {p : Program} {e : Env} {s : State} {m : MethodId} {below : List Frame} {meth : Method} {c : Code} (l : Launch) {b L : Nat} {xs : Nat → Int32} (hL : L ≤ 2560) (C0 : lw_At p s m meth c b L xs) : W p l e room_1 s m #[Value.ref b] below meth c s.heap [] 0 0 (lw_Z below #[Value.ref b] s) (entryFrame m ([Value.ref b] : List Value).toArray 4) := by
  obtain ⟨hx, hb, hr, hml, hown, hts, hX, hbl, hlk, hgv⟩ := id C0
  have hA : ∀ q : Nat, s.heap.size ≤ q → (fun q : Nat => s.heap.size ≤ q) q := fun _ h => h
  have hbA : ¬ s.heap.size ≤ b := Nat.not_le.mpr hbl
  have hg : ∀ w ∈ gtbl, w.before #[Value.ref b] s = true := fun w hw => hts w (gt_in hw)
  obtain ⟨c0, iS0, hKn0⟩ := u_known (C := RX0) (T := TX0) (N := 5) (n := 5) hg iRX0 (hg _ it_RX0)
  obtain ⟨c1, iS1, hKn1⟩ := u_known (C := RX1) (T := TX1) (N := 5) (n := 5) hg iRX1 (hg _ it_RX1)
  obtain ⟨c2, iS2, hKn2⟩ := u_known (C := RX2) (T := TX2) (N := 2) (n := 2) hg iRX2 (hg _ it_RX2)
  obtain ⟨c3, iS3, hKn3⟩ := u_known (C := RX3) (T := TX3) (N := 4) (n := 4) hg iRX3 (hg _ it_RX3)
  obtain ⟨c4, iS4, hKn4⟩ := u_known (C := RX4) (T := TX4) (N := 6) (n := 6) hg iRX4 (hg _ it_RX4)
  obtain ⟨c5, iS5, hKn5⟩ := u_known (C := RX5) (T := TX5) (N := 4) (n := 4) hg iRX5 (hg _ it_RX5)
  obtain ⟨c6, iS6, hKn6⟩ := u_known (C := RX6) (T := TX6) (N := 6) (n := 6) hg iRX6 (hg _ it_RX6)
  obtain ⟨c7, iS7, hKn7⟩ := u_known (C := RX7) (T := TX7) (N := 20) (n := 20) hg iRX7 (hg _ it_RX7)
  obtain ⟨D, hKc⟩ : ∃ D : va_G, ∀ (k : Nat) (q : vw_C), clz[k]? = some q → u_Kn s q.1 q.2.1 q.2.2 (D.1 k) (D.2 k) := by
    refine ⟨(fun k => match k with | 0 => c0 | 1 => c1 | 2 => c2 | 3 => c3 | 4 => c4 | 5 => c5 | 6 => c6 | _ => c7, fun k => match k with | 0 => iS0 | 1 => iS1 | 2 => iS2 | 3 => iS3 | 4 => iS4 | 5 => iS5 | 6 => iS6 | _ => iS7), ?_⟩
    intro k q hq
    match k, hq with
    | 0, hq => cases hq; exact hKn0
    | 1, hq => cases hq; exact hKn1
    | 2, hq => cases hq; exact hKn2
    | 3, hq => cases hq; exact hKn3
    | 4, hq => cases hq; exact hKn4
    | 5, hq => cases hq; exact hKn5
    | 6, hq => cases hq; exact hKn6
    | 7, hq => cases hq; exact hKn7
    | k + 8, hq => simp [clz] at hq
  obtain ⟨xI, kI, mI, fI, gI, hI⟩ := Cond.arrayClass_spec (hg _ ac_int)
  obtain ⟨xJ, kJ, mJ, fJ, gJ, hJ⟩ := Cond.arrayClass_spec (hg _ ac_long)
  have hO : va_AOA .int s := hts _ ao_in
  obtain ⟨mA, xA, kA, fM, gA, hAA, fA⟩ := Cond.arrayOver_specA hO
  have hK : va_K D clz (tyz (xI, xJ, xA)) s := ⟨hKc, fun k q hq => by
    match k, hq with
    | 0, hq => cases hq; exact ⟨fun N z => ⟨fun q hq => (by cases hq), kI, gI, mI, hI⟩, fI⟩
    | 1, hq => cases hq; exact ⟨fun N z => ⟨fun q hq => (by cases hq), kJ, gJ, mJ, hJ⟩, fJ⟩
    | 2, hq => cases hq; exact ⟨fun N z => ⟨fun q hq => (by cases hq), kA, gA, mA, hAA⟩, fA⟩
    | k + 3, hq => simp [tyz] at hq⟩
  have hN : zx_N s := fun q hq => va_Nw.of rfl (hts _ (nq_in q hq))
  have C : zx_C p s m #[Value.ref b] c D (tyz (xI, xJ, xA)) RL code 4 := ⟨hx, hb, hml, hown, hg, hK, hN⟩
  generalize (xI, xJ, xA) = x at C
  have hl := lv_entry ([.ref b]) (n := 4) (Nat.le_of_ble_eq_true rfl)
  rw [lg_entry_eq]
  refine (?_ : zV p l e room_1 s m #[Value.ref b] below meth c 0 0 (lw_Z below #[Value.ref b] s) D (fun q => s.heap.size ≤ q) 4 [] 0 [(0, .ref b)] []) s.heap [] _ (fun k q h => by simp at h) ⟨fun i j p q h => by simp at h, fun k q h => by simp at h⟩ va_S.rf hl
  refine z_new C hA (ci := 6) iRX6 tyX6 tyX6_ok kl_RL_7 it_RX6 in_RX6 rfl dfX6 (fun j hj => dfX6_ok j hj) (by decide) (by decide) dL_0 (fun q0 => ?_)
  refine z_dup C rfl dL_3 ?_
  refine z_callI C hO hA [] [.ref q0] rfl (n_X6 l D _ x [] q0) rfl cd_yX6_init in_RX6 ml_RL_9 im_yX6_init (n := 0) ⟨by decide +kernel, by decide +kernel, by decide +kernel⟩ (by decide) rfl (Nat.le_of_ble_eq_true rfl) (by decide) dL_4 (fun w hw => ?_)
  obtain ⟨b0, b1, r2, b3, b4, f5, b7, b8, b9, b10, b11, b12, b13, b14, b15, b16, b17, b18, b19, b20, b21, b22, b23, b24, hf5, rfl⟩ := hw
  refine z_astore_n C [(1, .ref q0), (0, .ref b)] rfl (by decide) rfl dL_7 ?_
  refine z_new C hA (ci := 7) iRX7 tyX7 tyX7_ok kl_RL_10 it_RX7 in_RX7 rfl dfX7 (fun j hj => dfX7_ok j hj) (by decide) (by decide) dL_8 (fun m0 => ?_)
  refine z_dup C rfl dL_11 ?_
  refine z_callI C hO hA [] [.ref m0] rfl (n_X7 l D _ x _ m0) rfl cd_yX7_init in_RX7 ml_RL_12 im_yX7_init (n := 0) ⟨by decide +kernel, by decide +kernel, by decide +kernel⟩ (by decide) rfl (Nat.le_of_ble_eq_true rfl) (by decide) dL_12 (fun w hw => ?_)
  obtain ⟨e0, e1, e2, e3, e4, e5, e6, e7, e8, e9, e10, e11, e12, rfl⟩ := hw
  refine z_astore_n C [(2, .ref m0), (1, .ref q0), (0, .ref b)] rfl (by decide) rfl dL_15 ?_
  refine z_iconst C (v := 0) dL_16 (by decide) ?_
  refine z_istore_n C [(3, .int 0), (2, .ref m0), (1, .ref q0), (0, .ref b)] rfl (by decide) rfl dL_17 ?_
  have hf : (fun i => if i < 10 then some (r2 i) else none) = fun j => if j < 10 then some (mkA [q0, b0, b3, b7, b11, b22, b24, b1, b4, b8, b9, b10, b12, b17, b23, b13, b14, b15, b16, b18, b19, b20, b21] r2 (23 + j)) else none := by
    funext j
    unfold mkA
    rw [if_neg (show ¬ 23 + j < 23 by omega), Nat.add_sub_cancel_left]
  rw [hf]
  refine z_perm (ws' := wC (mkA [q0, b0, b3, b7, b11, b22, b24, b1, b4, b8, b9, b10, b12, b17, b23, b13, b14, b15, b16, b18, b19, b20, b21] r2) x (fun _ => 0, fun k => if k = 8 then f5 else fun _ => 0, fun _ _ => 0) ++ wM (mkA [m0, e0, e1, e2, e3, e4, e5, e6, e7, e8, e9, e10, e11, e12] (fun _ => 0)) x (fun _ => 0, fun _ _ => 0, fun _ _ => 0)) [0, 1, 13, 15, 19, 30, 32, 2, 14, 16, 17, 18, 20, 25, 31, 21, 22, 23, 24, 26, 27, 28, 29, 3, 4, 5, 6, 7, 8, 9, 10, 11, 12, 33, 34, 35, 36, 37, 38, 39, 40, 41, 42, 43, 44, 45, 46] (by decide) rfl ?_
  exact law_loop (a := mkA [q0, b0, b3, b7, b11, b22, b24, b1, b4, b8, b9, b10, b12, b17, b23, b13, b14, b15, b16, b18, b19, b20, b21] r2) (bb := mkA [m0, e0, e1, e2, e3, e4, e5, e6, e7, e8, e9, e10, e11, e12] (fun _ => 0)) C hr hlk ⟨by decide, by decide⟩ hX hbl hbA hL L 0 _ _ (by omega) (by omega) (rel0 f5 hf5)
