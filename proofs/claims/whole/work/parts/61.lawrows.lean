/-! Rows of the law: calls on a part of the world, the script, the end -/
theorem va_D.addr {A : Nat → Prop} {ws ws' : va_W} (h : va_D A ws) (e : ws'.map Prod.fst = ws.map Prod.fst) : va_D A ws' := by
  have g : ∀ (k : Nat) (q : Nat × va_E), ws'[k]? = some q → ∃ q', ws[k]? = some q' ∧ q'.1 = q.1 := fun k q hk => by
    have h1 : (ws'.map Prod.fst)[k]? = some q.1 := by rw [List.getElem?_map, hk]; rfl
    rw [e, List.getElem?_map] at h1
    cases h2 : ws[k]? with
    | none => rw [h2] at h1; cases h1
    | some q' => rw [h2] at h1; exact ⟨q', rfl, Option.some.inj h1⟩
  refine ⟨fun i j p q hi hj hpq => ?_, fun k q hk => ?_⟩
  · obtain ⟨p', hp, ep⟩ := g i p hi
    obtain ⟨q', hq, eq⟩ := g j q hj
    exact h.1 i j p' q' hp hq (by rw [ep, eq, hpq])
  · obtain ⟨q', hq, eq⟩ := g k q hk
    rw [← eq]
    exact h.2 k q' hq
theorem va_P.appL {D : va_G} {cl : List vw_C} {X Y : va_W} {H : Heap} (h : va_P D cl (X ++ Y) H) : va_P D cl X H := fun k q hk => h k q (by
  rw [List.getElem?_append_left (List.getElem?_eq_some_iff.mp hk).1]; exact hk)
theorem va_P.appR {D : va_G} {cl : List vw_C} {X Y : va_W} {H : Heap} (h : va_P D cl (X ++ Y) H) : va_P D cl Y H := fun k q hk => h (X.length + k) q (by
  rw [List.getElem?_append_right (Nat.le_add_right _ _), Nat.add_sub_cancel_left]; exact hk)
theorem va_D.appL {A : Nat → Prop} {X Y : va_W} (h : va_D A (X ++ Y)) : va_D (fun q => q ∈ X.map Prod.fst) X := by
  have g : ∀ (k : Nat) (q : Nat × va_E), X[k]? = some q → (X ++ Y)[k]? = some q := fun k q hk => by
    rw [List.getElem?_append_left (List.getElem?_eq_some_iff.mp hk).1]; exact hk
  exact ⟨fun i j p q hi hj hpq => h.1 i j p q (g i p hi) (g j q hj) hpq, fun k q hk => List.mem_map.mpr ⟨q, List.mem_of_getElem? hk, rfl⟩⟩
theorem va_D.appR {A : Nat → Prop} {X Y : va_W} (h : va_D A (X ++ Y)) : va_D (fun q => q ∈ Y.map Prod.fst) Y := by
  have g : ∀ (k : Nat) (q : Nat × va_E), Y[k]? = some q → (X ++ Y)[X.length + k]? = some q := fun k q hk => by
    rw [List.getElem?_append_right (Nat.le_add_right _ _), Nat.add_sub_cancel_left]; exact hk
  exact ⟨fun i j p q hi hj hpq => by have := h.1 _ _ p q (g i p hi) (g j q hj) hpq; omega, fun k q hk => List.mem_map.mpr ⟨q, List.mem_of_getElem? hk, rfl⟩⟩
theorem va_D.mem {A : Nat → Prop} {X : va_W} (h : va_D A X) {q : Nat} (hq : q ∈ X.map Prod.fst) : A q := by
  obtain ⟨y, hy, rfl⟩ := List.mem_map.mp hq
  obtain ⟨i, hi⟩ := List.getElem?_of_mem hy
  exact h.2 i y hi
theorem va_D.apart {A : Nat → Prop} {X Y : va_W} (h : va_D A (X ++ Y)) {k : Nat} {x : Nat × va_E} (hx : Y[k]? = some x) : x.1 ∉ X.map Prod.fst := fun hq => by
  obtain ⟨y, hy, e⟩ := List.mem_map.mp hq
  obtain ⟨i, hi⟩ := List.getElem?_of_mem hy
  have hl := (List.getElem?_eq_some_iff.mp hi).1
  have := h.1 i (X.length + k) y x (by rw [List.getElem?_append_left hl]; exact hi) (by rw [List.getElem?_append_right (Nat.le_add_right _ _), Nat.add_sub_cancel_left]; exact hx) e
  omega
theorem va_D.apart' {A : Nat → Prop} {X Y : va_W} (h : va_D A (X ++ Y)) {k : Nat} {x : Nat × va_E} (hx : X[k]? = some x) : x.1 ∉ Y.map Prod.fst := fun hq => by
  obtain ⟨y, hy, e⟩ := List.mem_map.mp hq
  obtain ⟨i, hi⟩ := List.getElem?_of_mem hy
  have hl := (List.getElem?_eq_some_iff.mp hx).1
  have := h.1 k (X.length + i) x y (by rw [List.getElem?_append_left hl]; exact hx) (by rw [List.getElem?_append_right (Nat.le_add_right _ _), Nat.add_sub_cancel_left]; exact hi) e.symm
  omega
section ZL
variable {p : Program} {l : Launch} {e : Env} {R : Room} {s : State} {m : MethodId} {args : Array Value} {below : List Frame} {meth : Method} {c : Code} {cells slots : Nat} {Q : State → Prop} {D : va_G} {A : Nat → Prop} {tys : List (ClassId × FieldType)} {own : String} {cc : ByteArray} {nL : Nat}
variable {ws ws' : va_W} {pc : Nat} {lv : List (Nat × Value)} {st : List Value}
theorem zF_go {A1 : Nat → Prop} {ov : Option Value} {av : Array Value} {st0 rest : List Value} {w1' : va_W} (hsub : va_D A ws → ∀ q, A1 q → A q) (hr : ∀ (H : Heap) (locs : List Loc) (ls : Array Slot), va_P D clz ws H → va_D A ws → lv_has ls nL lv → va_Run p l e R s m args below meth c H locs cells slots 0 0 (F0 m pc ls st0) rest (zQ D A1 ov w1' av) A1) (hj : ∀ (H H1 : Heap), va_P D clz ws H → va_D A ws → va_P D clz w1' H1 → (∀ q, q < H.size → ¬ A1 q → H1[q]? = H[q]?) → va_P D clz ws' H1 ∧ va_D A ws') (k : zV p l e R s m args below meth c cells slots Q D A nL ws' (pc + 3) lv (ov.toList ++ rest)) : zV p l e R s m args below meth c cells slots Q D A nL ws pc lv st0 := by
  intro H locs ls hP hD hS hl T hT X
  obtain ⟨v, st₀, t, T', L, h0, X', hL, e1, e2, ⟨hv, ⟨hP1, hD1⟩, hz, hk⟩, stp⟩ := hr H locs ls hP hD hl T hT X
  cases hv
  rw [h0] at hz hk
  obtain ⟨hP2, hD2⟩ := hj H t.heap hP hD hP1 hk
  obtain ⟨t2, a1, b1⟩ := k T'.heap (locs ++ L) ls (by rw [e1]; exact hP2) hD2
    ⟨Nat.le_trans hS.1 (by rw [e1]; exact hz), fun q h1 h2 => by rw [e1, hk q (Nat.lt_of_lt_of_le h1 hS.1) (fun h9 => h2 (hsub hD q h9))]; exact hS.2.1 q h1 h2, fun q hq => by
      rcases List.mem_append.mp hq with h | h
      · exact hS.2.2 q h
      · exact hsub hD _ (hL q h)⟩ hl T' rfl X'
  exact ⟨t2, stp t2 a1, b1⟩
/-- a call on the first part of the world -/
theorem z_callC (C : zx_C p s m args c D tys own cc nL) (As rest : List Value) {v : Value} {a ci q0 : Nat} {fs : List Value} {T : u_T} {N : Nat} {y : MethodName} {bytes : ByteArray} {maxL index n : Nat} {ret : Option FieldType} {rm : Room} {w1 w1' w2 : va_W} {st0 : List Value} (hst : As.reverse ++ .ref a :: rest = st0) (hM : zM l y (.code y bytes maxL ret) rm D (fun q => q ∈ w1.map Prod.fst) tys (.ref a :: As) w1 (some v) w1') (hadr : w1'.map Prod.fst = w1.map Prod.fst) (hcd : Cond.code y bytes maxL ret ∈ gtbl) (hini : Cond.initialized y.cls ∈ gtbl) (hlk : Cond.methodLink own index y ∈ gtbl) (him : Cond.instanceMethod y ∈ gtbl) (hsl : Cond.selects y.cls y y ∈ gtbl) (he : w1[q0]? = some (a, .inr (ci, fs))) (hc : clz[ci]? = some (y.cls, T, N)) (hd : y.cls ≠ "java/lang/invoke/MethodHandle" ∧ y.cls ≠ "java/lang/invoke/VarHandle" ∧ (parseMethodDescriptor y.desc).map (fun d => d.parameters.length) = some n) (hR : (rm.frames + 1 ≤ R.frames ∧ 8 + (maxL + 11) + rm.locals ≤ R.locals) ∧ rm.cells = 0 ∧ rm.slots = 0) (hn : As.length = n) (hW : (rest.map fun v => v.category).sum ≤ 8) (hf : cells ≤ R.cells ∧ slots ≤ R.slots) (d : decode cc pc = .ok (.invokevirtual index, 3)) (k : zV p l e R s m args below meth c cells slots Q D A nL (w1' ++ w2) (pc + 3) lv (v :: rest)) : zV p l e R s m args below meth c cells slots Q D A nL (w1 ++ w2) pc lv st0 := by
  subst hst
  refine zF_go (A1 := fun q => q ∈ w1.map Prod.fst) (ov := some v) (av := (Value.ref a :: As).toArray) (fun hD q hq => hD.mem (by rw [List.map_append]; exact List.mem_append_left _ hq)) (fun H locs ls hP hD hl => va_runV (As := As) (rest := rest) ⟨C.1, C.2.1, C.2.2.1, C.2.2.2.1, C.2.2.2.2.1⟩ hM ⟨callB_of n C.2.2.2.2.1 (zx_GI _ hcd) rfl hR.2.1 hR.2.2 (C.2.2.2.2.1 _ hini) (C.2.2.2.2.1 _ hlk) hd hR.1, C.2.2.2.2.1 _ him, C.2.2.2.2.1 _ hsl⟩ ⟨zx_blind, va_recv C.2.2.2.2.2.1 hP.appL hc he, zx_pre C hP.appL hD.appL⟩ rfl hn hl.1 rfl (lv_room hW) d hf) (fun H H1 hP hD hP1 hk => ⟨hP1.app ((hP.appR).kept (fun k9 x hx => hk x.1 ((hP.appR) k9 x hx).lt (hD.apart hx))), hD.addr (by rw [List.map_append, List.map_append, hadr])⟩) k
/-- a call on the second part of the world -/
theorem z_callM (C : zx_C p s m args c D tys own cc nL) (As rest : List Value) {v : Value} {a ci q0 : Nat} {fs : List Value} {T : u_T} {N : Nat} {y : MethodName} {bytes : ByteArray} {maxL index n : Nat} {ret : Option FieldType} {rm : Room} {w1 w1' w2 : va_W} {st0 : List Value} (hst : As.reverse ++ .ref a :: rest = st0) (hM : zM l y (.code y bytes maxL ret) rm D (fun q => q ∈ w1.map Prod.fst) tys (.ref a :: As) w1 (some v) w1') (hadr : w1'.map Prod.fst = w1.map Prod.fst) (hcd : Cond.code y bytes maxL ret ∈ gtbl) (hini : Cond.initialized y.cls ∈ gtbl) (hlk : Cond.methodLink own index y ∈ gtbl) (him : Cond.instanceMethod y ∈ gtbl) (hsl : Cond.selects y.cls y y ∈ gtbl) (he : w1[q0]? = some (a, .inr (ci, fs))) (hc : clz[ci]? = some (y.cls, T, N)) (hd : y.cls ≠ "java/lang/invoke/MethodHandle" ∧ y.cls ≠ "java/lang/invoke/VarHandle" ∧ (parseMethodDescriptor y.desc).map (fun d => d.parameters.length) = some n) (hR : (rm.frames + 1 ≤ R.frames ∧ 8 + (maxL + 11) + rm.locals ≤ R.locals) ∧ rm.cells = 0 ∧ rm.slots = 0) (hn : As.length = n) (hW : (rest.map fun v => v.category).sum ≤ 8) (hf : cells ≤ R.cells ∧ slots ≤ R.slots) (d : decode cc pc = .ok (.invokevirtual index, 3)) (k : zV p l e R s m args below meth c cells slots Q D A nL (w2 ++ w1') (pc + 3) lv (v :: rest)) : zV p l e R s m args below meth c cells slots Q D A nL (w2 ++ w1) pc lv st0 := by
  subst hst
  refine zF_go (A1 := fun q => q ∈ w1.map Prod.fst) (ov := some v) (av := (Value.ref a :: As).toArray) (fun hD q hq => hD.mem (by rw [List.map_append]; exact List.mem_append_right _ hq)) (fun H locs ls hP hD hl => va_runV (As := As) (rest := rest) ⟨C.1, C.2.1, C.2.2.1, C.2.2.2.1, C.2.2.2.2.1⟩ hM ⟨callB_of n C.2.2.2.2.1 (zx_GI _ hcd) rfl hR.2.1 hR.2.2 (C.2.2.2.2.1 _ hini) (C.2.2.2.2.1 _ hlk) hd hR.1, C.2.2.2.2.1 _ him, C.2.2.2.2.1 _ hsl⟩ ⟨zx_blind, va_recv C.2.2.2.2.2.1 hP.appR hc he, zx_pre C hP.appR hD.appR⟩ rfl hn hl.1 rfl (lv_room hW) d hf) (fun H H1 hP hD hP1 hk => ⟨((hP.appL).kept (fun k9 x hx => hk x.1 ((hP.appL) k9 x hx).lt (hD.apart' hx))).app hP1, hD.addr (by rw [List.map_append, List.map_append, hadr])⟩) k
theorem z_sld (C : zx_C p s m args c D tys own cc nL) {b L : Nat} {xs : Nat → Int32} (hX : va_X b L xs s s.heap) (hbl : b < s.heap.size) (hbA : ¬ A b) {i : Int32} {j : Nat} (hi : i = nI j) (hj : j < L) (hL : L ≤ 2560) (d : decode cc pc = .ok (.iaload, 1)) (k : zV p l e R s m args below meth c cells slots Q D A nL ws (pc + 1) lv (.int (xs j) :: st)) : zV p l e R s m args below meth c cells slots Q D A nL ws pc lv (.int i :: .ref b :: st) := by
  intro H locs ls hP hD hS hl
  subst hi
  have e : (nI j).toNatClampNeg = j := nI_clamp (by omega)
  exact va_sld C.1 C.2.1 hX hbl hbA hS (inb_in (inb_nI hj (by omega))) d (by rw [e]; exact k H locs ls hP hD hS hl)
theorem z_slen (C : zx_C p s m args c D tys own cc nL) {b L : Nat} {xs : Nat → Int32} (hX : va_X b L xs s s.heap) (hbl : b < s.heap.size) (hbA : ¬ A b) (d : decode cc pc = .ok (.arraylength, 1)) (k : zV p l e R s m args below meth c cells slots Q D A nL ws (pc + 1) lv (.int (nI L) :: st)) : zV p l e R s m args below meth c cells slots Q D A nL ws pc lv (.ref b :: st) :=
  fun H locs ls hP hD hS hl => va_slen C.1 C.2.1 hX hbl hbA hS d (k H locs ls hP hD hS hl)
end ZL
theorem z_end {p : Program} {l : Launch} {e : Env} {s : State} {m : MethodId} {below : List Frame} {meth : Method} {c : Code} {cells slots : Nat} {D : va_G} {tys : List (ClassId × FieldType)} {nL b : Nat} {ws : va_W} {lv : List (Nat × Value)} (C : zx_C p s m #[Value.ref b] c D tys RL code nL) (hr : meth.sig.returnType = ret) (hlk : meth.locks = false) {pc : Nat} (hc : cells ≤ 600000) (hs : slots ≤ 7302250) (d : decode code pc = .ok (.ireturn, 1)) : zV p l e room_1 s m #[Value.ref b] below meth c cells slots (lw_Z below #[Value.ref b] s) D (fun q => s.heap.size ≤ q) nL ws pc lv [.int 1] :=
  fun H locs ls hP hD hS hl => va_forget (fun q hq => hS.2.2 q hq) (W.widen (k := 600000) (n := 7302250) hc hs (lw_ret C.1 C.2.1 hr hlk d))
theorem and31 (v : Int32) : ∃ k, k < 32 ∧ v &&& 31 = nI k := by
  have h : ∀ w : BitVec 32, w &&& 31#32 = BitVec.ofNat 32 (w.toNat % 32) := fun w => by
    apply BitVec.eq_of_toNat_eq
    rw [BitVec.toNat_and, BitVec.toNat_ofNat, BitVec.toNat_ofNat]
    rw [show (31 % 2 ^ 32 : Nat) = 2 ^ 5 - 1 from rfl, Nat.and_two_pow_sub_one_eq_mod]
    omega
  refine ⟨v.toBitVec.toNat % 32, Nat.mod_lt _ (by omega), ?_⟩
  apply Int32.toBitVec_inj.mp
  rw [Int32.toBitVec_and]
  exact h v.toBitVec
