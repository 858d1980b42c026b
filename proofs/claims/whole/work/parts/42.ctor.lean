/-! Constructors: worlds that grow -/
def va_AOA (ty : FieldType) (U : State) : Prop := (Cond.arrayOver (.array ty)).before #[] U = true
theorem va_AOA.use {ty : FieldType} {B : Array Value} {U : State} (h : va_AOA ty U) : (Cond.arrayOver (.array ty)).before B U = true := h
theorem va_AOA.moved {ty : FieldType} {u U : State} (hvm : u.vm.Alike U.vm) (h : va_AOA ty u) : va_AOA ty U := by
  unfold va_AOA Cond.before at h ⊢
  simp only [Cond.holds, Cond.value, beq_iff_eq] at h ⊢
  cases hc : u.vm.findClass (FieldType.array ty).toString with
  | none => simp [hc] at h
  | some comp =>
    simp only [hc, Option.bind_some, Option.bind_eq_some_iff, Option.map_eq_some_iff] at h
    obtain ⟨c, hi, k, hk, hb⟩ := h
    obtain ⟨k', hk', he⟩ := hvm.2.2 _ _ hk
    have hi' : (U.vm.classes.findIdx? fun (x : Class) => match x.kind with | .array component _ => component == comp | _ => false) = some c := by
      have e1 := va_idx_bare U.vm comp
      have e2 := va_idx_bare u.vm comp
      have eb : U.vm.bare = u.vm.bare := by first | exact hvm.bare_eq | exact hvm.bare_eq.symm
      rw [eb] at e1
      exact e1.symm.trans (e2.trans hi)
    rw [hvm.findClass, hc]
    simp only [Option.bind_some, Option.bind_eq_some_iff, Option.map_eq_some_iff]
    refine ⟨c, hi', k', hk', ?_⟩
    rw [hvm.findClass, he]
    exact hb
theorem ax_get (X : va_W) (c : Nat × va_E) (Y : va_W) : (X ++ c :: Y)[X.length]? = some c := by simp
theorem ax_set (X : va_W) (c c' : Nat × va_E) (Y : va_W) : (X ++ c :: Y).set X.length c' = X ++ c' :: Y := by simp
theorem ax_asc (X : va_W) (c : Nat × va_E) (Y Z : va_W) : (X ++ c :: Y) ++ Z = X ++ c :: (Y ++ Z) := by simp
theorem ax_get1 (X : va_W) (c n : Nat × va_E) (Y : va_W) : (X ++ c :: n :: Y)[X.length + 1]? = some n := by
  rw [List.getElem?_append_right (Nat.le_succ _), Nat.succ_sub (Nat.le_refl _), Nat.sub_self]
  rfl
theorem ax_set1 (X : va_W) (c n n' : Nat × va_E) (Y : va_W) : (X ++ c :: n :: Y).set (X.length + 1) n' = X ++ c :: n' :: Y := by
  rw [List.set_append_right _ _ (Nat.le_succ _), Nat.succ_sub (Nat.le_refl _), Nat.sub_self]
  rfl
theorem ax_push (X : va_W) (c n : Nat × va_E) (Y : va_W) : (X ++ c :: Y) ++ [n] = X ++ c :: (Y ++ [n]) := by simp
/-- a constructor's contract: from any such world to one that Post names, with mc new cells of ms slots -/
def zN (l : Launch) (y : MethodName) (cw : Cond) (rm : Room) (D : va_G) (A : Nat → Prop) (tys : List (ClassId × FieldType)) (mc ms : Nat) (av : List Value) (ws : va_W) (Post : va_W → Prop) : Prop :=
  Met l y (cw :: gtbl) rm (va_Pc av (fun U => va_P D clz ws U.heap ∧ va_D A ws ∧ va_K D clz tys U ∧ zx_N U ∧ va_AOA .int U ∧ ∀ q, U.heap.size ≤ q → A q)) (fun _ st oc t => oc = .returned none ∧ (∃ ws', Post ws' ∧ va_P D clz ws' t.heap ∧ va_D A ws') ∧ va_F A st t) mc ms A
section ZK
variable {p : Program} {l : Launch} {e : Env} {R : Room} {s : State} {m : MethodId} {args : Array Value} {below : List Frame} {meth : Method} {c : Code} {cells slots : Nat} {Q : State → Prop} {D : va_G} {A : Nat → Prop} {tys : List (ClassId × FieldType)} {own : String} {cc : ByteArray} {nL : Nat}
variable {ws ws' : va_W} {pc : Nat} {lv : List (Nat × Value)} {st : List Value}
theorem z_newI (C : zx_C p s m args c D tys own cc nL) (hA : ∀ q, s.heap.size ≤ q → A q) {x : ClassId} (ht : tys[0]? = some (x, .int)) {n : Int32} (N : Nat) (hn : ¬ n < 0) (hN : n.toNatClampNeg = N) (hb : N * 4 ≤ 536870912) (hcells : cells + 1 ≤ R.cells) (hslots : slots + N ≤ R.slots) (d : decode cc pc = .ok (.newarray .int, 2)) (k : ∀ q, zV p l e R s m args below meth c (cells + 1) (slots + N) Q D A nL (ws ++ [(q, .inl (x, N, .inl (fun _ => 0)))]) (pc + 2) lv (.ref q :: st)) : zV p l e R s m args below meth c cells slots Q D A nL ws pc lv (.int n :: st) := by
  intro H locs ls hP hD hS hl
  refine va_newa (atype := .int) (ty := .int) (a0 := (N, .inl (fun _ => 0))) C.1 C.2.1 (C.2.2.2.2.1 _ ac_int) rfl C.2.2.2.2.2.1 hP hD hS hA (fun cA => rfl) hn hN hb hcells hslots d (fun q cA H1 hK1 hP1 hD1 hS1 => ?_)
  have e1 : va_RA s cA .int := (hK1.2 tys.length (cA, .int) (by simp)).2
  have e2 : va_RA s x .int := (C.2.2.2.2.2.1.2 0 _ ht).2
  have e3 : cA = x := Option.some.inj (e1.symm.trans e2)
  subst e3
  exact k q H1 locs ls hP1 hD1 hS1 hl
theorem z_newL (C : zx_C p s m args c D tys own cc nL) (hA : ∀ q, s.heap.size ≤ q → A q) {x : ClassId} (ht : tys[1]? = some (x, .long)) {n : Int32} (N : Nat) (hn : ¬ n < 0) (hN : n.toNatClampNeg = N) (hb : N * 8 ≤ 536870912) (hcells : cells + 1 ≤ R.cells) (hslots : slots + N ≤ R.slots) (d : decode cc pc = .ok (.newarray .long, 2)) (k : ∀ q, zV p l e R s m args below meth c (cells + 1) (slots + N) Q D A nL (ws ++ [(q, .inl (x, N, .inr (.inl (fun _ => 0))))]) (pc + 2) lv (.ref q :: st)) : zV p l e R s m args below meth c cells slots Q D A nL ws pc lv (.int n :: st) := by
  intro H locs ls hP hD hS hl
  refine va_newa (atype := .long) (ty := .long) (a0 := (N, .inr (.inl (fun _ => 0)))) C.1 C.2.1 (C.2.2.2.2.1 _ ac_long) rfl C.2.2.2.2.2.1 hP hD hS hA (fun cA => rfl) hn hN hb hcells hslots d (fun q cA H1 hK1 hP1 hD1 hS1 => ?_)
  have e1 : va_RA s cA .long := (hK1.2 tys.length (cA, .long) (by simp)).2
  have e2 : va_RA s x .long := (C.2.2.2.2.2.1.2 1 _ ht).2
  have e3 : cA = x := Option.some.inj (e1.symm.trans e2)
  subst e3
  exact k q H1 locs ls hP1 hD1 hS1 hl
theorem z_new (C : zx_C p s m args c D tys own cc nL) (hA : ∀ q, s.heap.size ≤ q → A q) {Cn : String} {T : u_T} {N ci index : Nat} (hin : ∀ w ∈ u_ws Cn T N, w ∈ gtbl) (ty : Nat → FieldType) (hty : ∀ k, k < N → parseFieldDescriptor (T k).2.2.1 = some (ty k)) (hcl : Cond.classLink own index Cn ∈ gtbl) (hinst : Cond.instantiable Cn N ∈ gtbl) (hini : Cond.initialized Cn ∈ gtbl) (hc : clz[ci]? = some (Cn, T, N)) (fs : List Value) (hfs : ∀ j, j < N → defaultValue (ty j) = vp_V fs j) (hcells : cells + 1 ≤ R.cells) (hslots : slots + N ≤ R.slots) (d : decode cc pc = .ok (.new index, 3)) (k : ∀ q, zV p l e R s m args below meth c (cells + 1) (slots + N) Q D A nL (ws ++ [(q, .inr (ci, fs))]) (pc + 3) lv (.ref q :: st)) : zV p l e R s m args below meth c cells slots Q D A nL ws pc lv st :=
  fun H locs ls hP hD hS hl => va_new C.1 C.2.1 C.2.2.2.2.1 hin ty hty C.2.2.2.1 (C.2.2.2.2.1 _ hcl) (C.2.2.2.2.1 _ hinst) (C.2.2.2.2.1 _ hini) C.2.2.2.2.2.1 hP hD hS hA hc hfs hcells hslots d (fun q H1 hP1 hD1 hS1 => k q H1 locs ls hP1 hD1 hS1 hl)
theorem z_putF (C : zx_C p s m args c D tys own cc nL) (hinit : meth.name = "<init>") {T : u_T} {N ci index a : Nat} {fs : List Value} (hin : ∀ w ∈ u_ws own T N, w ∈ gtbl) (ty0 : Nat → FieldType) (hty : ∀ k, k < N → parseFieldDescriptor (T k).2.2.1 = some (ty0 k)) (hnm : ∀ a, a < N → ∀ b, b < N → a ≠ b → (T a).2.1 ≠ (T b).2.1) (q0 : Nat) (he : ws[q0]? = some (a, .inr (ci, fs))) (hc : clz[ci]? = some (own, T, N)) (f : Nat) (hk : f < N) (hown : (T f).1 = own) (hlink : Cond.fieldLink own index (T f).1 (T f).2.1 (T f).2.2.1 ∈ gtbl) (hfin : (T f).2.2.2 = true) {ty : FieldType} {v : Value} (hd : parseFieldDescriptor (T f).2.2.1 = some ty) (hn : narrow ty v = v ∧ fits ty v = true) (hlen : f < fs.length) (hw : ws.set q0 (a, .inr (ci, fs.set f v)) = ws') (d : decode cc pc = .ok (.putfield index, 3)) (k : zV p l e R s m args below meth c cells slots Q D A nL ws' (pc + 3) lv st) : zV p l e R s m args below meth c cells slots Q D A nL ws pc lv (v :: .ref a :: st) :=
  fun H locs ls hP hD hS hl => va_putF C.1 C.2.1 C.2.2.2.2.1 hin ty0 hty hnm C.2.2.2.1 C.2.2.2.2.2.1 hP hD hS q0 he hc f hk (C.2.2.2.2.1 _ hlink) (fun _ h9 => h9) hfin hinit hown hd hn.1 hn.2 hlen d (fun H locs hP hD hS => k H locs ls (hw ▸ hP) (hw ▸ hD) hS hl)
theorem z_objI (C : zx_C p s m args c D tys own cc nL) {a idx : Nat} (hlk : Cond.methodLink own idx objectInit ∈ gtbl) (hfr : 1 ≤ R.frames) (hlo : (st.map fun v => v.category).sum + 12 ≤ R.locals) (d : decode cc pc = .ok (.invokespecial idx, 3)) (k : zV p l e R s m args below meth c cells slots Q D A nL ws (pc + 3) lv st) : zV p l e R s m args below meth c cells slots Q D A nL ws pc lv (.ref a :: st) :=
  fun H locs ls hP hD hS hl => W.objInit C.1 C.2.1 C.2.2.2.1 (C.2.2.2.2.1 _ hlk) (C.2.2.2.2.1 _ im_objectInit) (C.2.2.2.2.1 _ cd_objectInit) rfl (by rw [C.2.2.1]; exact hl.1) rfl d hfr (by show 2 * 0 + _ + 12 ≤ _; omega) (k H locs ls hP hD hS hl)
theorem zN_start {y : MethodName} {cc : ByteArray} {maxL : Nat} {rm : Room} {mc ms : Nat} {Post : va_W → Prop} (av : List Value) {lv : List (Nat × Value)} (hy : plainName y.cls = true) (hyi : y.name = "<init>") (hlen : (lg_sl av).length ≤ maxL) (hlv : lv_args 0 av = lv)
    (k : ∀ (p : Program) (e : Env) (s : State) (m : MethodId) (args : Array Value) (below : List Frame) (meth : Method) (c : Code), zx_C p s m args c D tys y.cls cc maxL → meth.sig.returnType = none → meth.locks = false → meth.name = "<init>" → va_AOA .int s → (∀ q, s.heap.size ≤ q → A q) → zV p l e rm s m args below meth c 0 0 (MQ below (fun _ st oc t => oc = .returned none ∧ (∃ ws', Post ws' ∧ va_P D clz ws' t.heap ∧ va_D A ws') ∧ va_F A st t) args s mc ms A) D A maxL ws 0 lv []) : zN l y (.code y cc maxL none) rm D A tys mc ms av ws Post := by
  refine Met.ofW (cc := cc) (maxL := maxL) (ret := none) hy rfl ?_
  intro p e s m args below meth c s₁ B hml hv
  obtain ⟨rfl, hP, hD, hK, hN, hO, hA⟩ := hv
  have hts := atoms_spec (ws := .code y cc maxL none :: gtbl) B.pre
  have hin : meth.name = "<init>" := (name_of_methodNamed B.named B.method).1.trans hyi
  have h := k p e s m av.toArray below meth c ⟨B.exec, B.bytes, hml, findClass_of_methodNamed B.named, fun w hw => hts w (List.mem_cons_of_mem _ hw), hK, hN⟩ B.returns B.notSynchronized hin hO hA
  have hl := lv_entry av (n := maxL) hlen
  rw [lg_entry_eq]
  rw [hlv] at hl
  exact h s.heap [] _ hP hD va_S.rf hl
theorem zN_ret (C : zx_C p s m args c D tys own cc nL) {Post : va_W → Prop} (hr : meth.sig.returnType = none) (hlk : meth.locks = false) (h : Post ws) (d : decode cc pc = .ok (.return_, 1)) : zV p l e R s m args below meth c cells slots (MQ below (fun _ st oc t => oc = .returned none ∧ (∃ ws', Post ws' ∧ va_P D clz ws' t.heap ∧ va_D A ws') ∧ va_F A st t) args s cells slots A) D A nL ws pc lv [] :=
  fun H locs ls hP hD hS hl => W.vret C.1 C.2.1 hr (fun t ht hW => ⟨rfl, ⟨ws, h, by rw [ht]; exact hP, hD⟩, hS.F ht⟩) hS.2.2 d hlk
/-- a constructor is called -/
theorem zN_go {Post : va_W → Prop} {av : Array Value} {st0 rest : List Value} {mc ms : Nat} (hr : ∀ (H : Heap) (locs : List Loc) (ls : Array Slot), va_P D clz ws H → va_D A ws → va_S A s.heap H locs → lv_has ls nL lv → va_Run p l e R s m args below meth c H locs cells slots mc ms (F0 m pc ls st0) rest ((fun (_ : Array Value) st oc t => oc = .returned none ∧ (∃ ws', Post ws' ∧ va_P D clz ws' t.heap ∧ va_D A ws') ∧ va_F A st t) av) A) (k : ∀ ws', Post ws' → zV p l e R s m args below meth c (cells + mc) (slots + ms) Q D A nL ws' (pc + 3) lv rest) : zV p l e R s m args below meth c cells slots Q D A nL ws pc lv st0 := by
  intro H locs ls hP hD hS hl T hT X
  obtain ⟨v, st₀, t, T', L, h0, X', hL, e1, e2, ⟨hv, ⟨w1, hw1, hP1, hD1⟩, hz, hk⟩, stp⟩ := hr H locs ls hP hD hS hl T hT X
  cases hv
  rw [h0] at hz hk
  obtain ⟨t2, a1, b1⟩ := k w1 hw1 T'.heap (locs ++ L) ls (by rw [e1]; exact hP1) hD1
    ⟨Nat.le_trans hS.1 (by rw [e1]; exact hz), fun q h1 h2 => by rw [e1, hk q (Nat.lt_of_lt_of_le h1 hS.1) h2]; exact hS.2.1 q h1 h2, fun q hq => by
      rcases List.mem_append.mp hq with h | h
      · exact hS.2.2 q h
      · exact hL q h⟩ hl T' rfl X'
  exact ⟨t2, stp t2 a1, b1⟩
theorem zN_blind {av : List Value} : FrameBlind (va_Pc av (fun U => va_P D clz ws U.heap ∧ va_D A ws ∧ va_K D clz tys U ∧ zx_N U ∧ va_AOA .int U ∧ ∀ q, U.heap.size ≤ q → A q)) := fun a U g mk q => by
  obtain ⟨q0, qP, qD, qK, qN, qO, qA⟩ := q
  exact ⟨q0, qP, qD, va_K.moved (u := U) (U := U.calling g mk a) (Vm.Alike.refl U.vm) qK, qN.call, va_AOA.moved (u := U) (U := U.calling g mk a) (Vm.Alike.refl U.vm) qO, qA⟩
theorem zN_pre (C : zx_C p s m args c D tys own cc nL) (hO : va_AOA .int s) (hA : ∀ q, s.heap.size ≤ q → A q) {av : List Value} {H : Heap} {locs : List Loc} (hP : va_P D clz ws H) (hD : va_D A ws) (hS : va_S A s.heap H locs) : ∀ U : State, U.heap = H → s.WarmedH U.vm → va_Pc av (fun U => va_P D clz ws U.heap ∧ va_D A ws ∧ va_K D clz tys U ∧ zx_N U ∧ va_AOA .int U ∧ ∀ q, U.heap.size ≤ q → A q) av.toArray U := fun U hU hW => ⟨rfl, by rw [hU]; exact hP, hD, va_K.moved hW.alike C.2.2.2.2.2.1, C.2.2.2.2.2.2.warm hW, va_AOA.moved hW.alike hO, fun q hq => hA q (by rw [hU] at hq; exact Nat.le_trans hS.1 hq)⟩
theorem z_callI (C : zx_C p s m args c D tys own cc nL) (hO : va_AOA .int s) (hA : ∀ q, s.heap.size ≤ q → A q) (As rest : List Value) {y : MethodName} {bytes : ByteArray} {maxL index n mc ms a : Nat} {rm : Room} {Post : va_W → Prop} {st0 : List Value} (hst : As.reverse ++ .ref a :: rest = st0) (hM : zN l y (.code y bytes maxL none) rm D A tys mc ms (.ref a :: As) ws Post) (hyi : y.name = "<init>") (hcd : Cond.code y bytes maxL none ∈ gtbl) (hini : Cond.initialized y.cls ∈ gtbl) (hlk : Cond.methodLink own index y ∈ gtbl) (him : Cond.instanceMethod y ∈ gtbl) (hd : y.cls ≠ "java/lang/invoke/MethodHandle" ∧ y.cls ≠ "java/lang/invoke/VarHandle" ∧ (parseMethodDescriptor y.desc).map (fun d => d.parameters.length) = some n) (hR : (rm.frames + 1 ≤ R.frames ∧ 8 + (maxL + 11) + rm.locals ≤ R.locals) ∧ rm.cells = mc ∧ rm.slots = ms) (hn : As.length = n) (hW : (rest.map fun v => v.category).sum ≤ 8) (hf : cells + mc ≤ R.cells ∧ slots + ms ≤ R.slots) (d : decode cc pc = .ok (.invokespecial index, 3)) (k : ∀ ws', Post ws' → zV p l e R s m args below meth c (cells + mc) (slots + ms) Q D A nL ws' (pc + 3) lv rest) : zV p l e R s m args below meth c cells slots Q D A nL ws pc lv st0 := by
  subst hst
  exact zN_go (av := (Value.ref a :: As).toArray) (fun H locs ls hP hD hS hl => va_runI (As := As) (rest := rest) ⟨C.1, C.2.1, C.2.2.1, C.2.2.2.1, C.2.2.2.2.1⟩ hM ⟨callB_of n C.2.2.2.2.1 (zx_GI _ hcd) rfl hR.2.1 hR.2.2 (C.2.2.2.2.1 _ hini) (C.2.2.2.2.1 _ hlk) hd hR.1, hyi, C.2.2.2.2.1 _ him⟩ ⟨zN_blind, zN_pre C hO hA hP hD hS⟩ rfl hn hl.1 rfl (lv_room hW) d hf) k
theorem z_callIN (C : zx_C p s m args c D tys own cc nL) (hO : va_AOA .int s) (hA : ∀ q, s.heap.size ≤ q → A q) (As rest : List Value) {y : MethodName} {bytes : ByteArray} {maxL index n mc ms a : Nat} {rm : Room} {Post : va_W → Prop} {st0 : List Value} {host : String} (j : Nat) (hst : As.reverse ++ .ref a :: rest = st0) (hM : zN l y (.code y bytes maxL none) rm D A tys mc ms (.ref a :: As) ws Post) (hyi : y.name = "<init>") (hcd : Cond.code y bytes maxL none ∈ gtbl) (hini : Cond.initialized y.cls ∈ gtbl) (hlk : nqs[j]? = some (own, index, y, host)) (him : Cond.instanceMethod y ∈ gtbl) (hd : y.cls ≠ "java/lang/invoke/MethodHandle" ∧ y.cls ≠ "java/lang/invoke/VarHandle" ∧ (parseMethodDescriptor y.desc).map (fun d => d.parameters.length) = some n) (hR : (rm.frames + 1 ≤ R.frames ∧ 8 + (maxL + 11) + rm.locals ≤ R.locals) ∧ rm.cells = mc ∧ rm.slots = ms) (hn : As.length = n) (hW : (rest.map fun v => v.category).sum ≤ 8) (hf : cells + mc ≤ R.cells ∧ slots + ms ≤ R.slots) (d : decode cc pc = .ok (.invokespecial index, 3)) (k : ∀ ws', Post ws' → zV p l e R s m args below meth c (cells + mc) (slots + ms) Q D A nL ws' (pc + 3) lv rest) : zV p l e R s m args below meth c cells slots Q D A nL ws pc lv st0 := by
  subst hst
  exact zN_go (av := (Value.ref a :: As).toArray) (fun H locs ls hP hD hS hl => va_runIN (As := As) (rest := rest) (host := host) ⟨C.1, C.2.1, C.2.2.1, C.2.2.2.1, C.2.2.2.2.1⟩ hM ⟨va_cnB n C.2.2.2.2.1 (zx_GI _ hcd) rfl hR.2.1 hR.2.2 (C.2.2.2.2.2.2 _ (List.mem_of_getElem? hlk)) (C.2.2.2.2.1 _ hini) hd hR.1, hyi, C.2.2.2.2.1 _ him⟩ ⟨zN_blind, zN_pre C hO hA hP hD hS⟩ rfl hn hl.1 rfl (lv_room hW) d hf) k
end ZK
