-- Objects are born: a layer for constructors, over a world that grows
abbrev kK : Type := Room × (Nat → Prop) × (State → Prop)
def kCtx (G : zG) (M : zM) (K : kK) (X : zX) : Prop := (zp X).tables.exec = Jvm.exec ∧ (zc X).code = M.2.1 ∧ (zc X).maxLocals = M.2.2.1 ∧ (zmt X).sig.returnType = M.2.2.2 ∧ (zs X).vm.findClass M.1.cls = some (zm X).cls ∧ (∀ w ∈ zTbl, w.before (za X) (zs X) = true) ∧ zKK G (zs X) ∧ zNst (zs X) ∧ (zmt X).locks = false ∧ (∀ q, (zs X).heap.size ≤ q → K.2.1 q) ∧ (M.1.name = "<init>" → (zmt X).name = "<init>")
def kY (G : zG) (M : zM) (K : kK) (X : zX) (cells slots pc : Nat) (lv : List (Nat × Value)) (st : List Value) (ws : va_W) : Prop :=
  ∀ (ls : Array Slot) (H : Heap) (locs : List Loc), lv_has ls M.2.2.1 lv → va_P (zD G) zCl ws H → va_D K.2.1 ws → va_S K.2.1 (zs X).heap H locs →
    W (zp X) (zl G) (ze X) K.1 (zs X) (zm X) (za X) (zbl X) (zmt X) (zc X) H locs cells slots K.2.2 (F0 (zm X) pc ls st)
def kRoom (d mc ms : Nat) : Room := { frames := d, cells := mc, slots := ms, locals := 48 * d }
def kPre (G : zG) (ws : va_W) (sz : Nat) (U : State) : Prop := U.heap.size = sz ∧ va_P (zD G) zCl ws U.heap ∧ va_D (fun _ => True) ws ∧ zKK G U ∧ zNst U
def kQc (G : zG) (ws : va_W) (sz : Nat) (post : va_W → Prop) : Array Value → State → Outcome → State → Prop := va_Qv post (fun w1 t => va_P (zD G) zCl w1 t.heap ∧ va_D (va_A ws sz) w1) (va_A ws sz)
/-- M, called with as over the world ws, makes mc cells of ms slots, and leaves a world with post -/
def kSpec (G : zG) (d : Nat) (M : zM) (as : List Value) (ws : va_W) (mc ms : Nat) (post : va_W → Prop) : Prop := ∀ sz, Met (zl G) M.1 (zWs M) (kRoom d mc ms) (va_Pc as (kPre G ws sz)) (kQc G ws sz post) mc ms (va_A ws sz)
abbrev kKm (G : zG) (d : Nat) (X : zX) (ws : va_W) (mc ms : Nat) (post : va_W → Prop) : kK := (kRoom d mc ms, va_A ws (zs X).heap.size, MQ (zbl X) (kQc G ws (zs X).heap.size post) (za X) (zs X) mc ms (va_A ws (zs X).heap.size))
theorem kBlind (G : zG) (as : List Value) (ws : va_W) (sz : Nat) : FrameBlind (va_Pc as (kPre G ws sz)) := by
  intro a U g mk h
  obtain ⟨h0, h1, h2, h3, h4, h5⟩ := h
  exact ⟨h0, h1, h2, h3, va_K.moved (u := U) (U := U.calling g mk a) (Vm.Alike.refl U.vm) h4, zNst.same (s := U) (U := U.calling g mk a) rfl h5⟩
theorem kSpec.of {G : zG} {d : Nat} {M : zM} {as : List Value} {ws : va_W} {mc ms : Nat} {post : va_W → Prop} {lv : List (Nat × Value)} (hy : plainName M.1.cls = true) (hn : (lg_sl as).length ≤ M.2.2.1) (hlv : lv_args 0 as = lv)
    (body : ∀ X, kCtx G M (kKm G d X ws mc ms post) X → kY G M (kKm G d X ws mc ms post) X 0 0 0 lv [] ws) : kSpec G d M as ws mc ms post := by
  intro sz
  refine Met.ofW (cc := M.2.1) (maxL := M.2.2.1) (ret := M.2.2.2) hy rfl ?_
  intro p e s m args below meth c s₁ B hml hv
  obtain ⟨rfl, hsz, hP, hD, hK, hN⟩ := hv
  subst hsz
  have hts := atoms_spec (ws := zWs M) B.pre
  have hl := lv_entry as (n := M.2.2.1) hn
  rw [hlv] at hl
  rw [lg_entry_eq]
  exact body (p, e, s, m, as.toArray, below, meth, c) ⟨B.exec, B.bytes, hml, B.returns, findClass_of_methodNamed B.named, fun w hw => hts w (List.mem_cons_of_mem _ hw), hK, hN, B.notSynchronized, fun q hq => Or.inr hq, fun h => (name_of_methodNamed B.named B.method).1.trans h⟩ _ _ _ hl hP hD.self va_S.rf
theorem fm_of {α β : Type} {f : α → Option β} {l : List α} {m : List β} (h : l.map f = m.map some) : l.filterMap f = m := by
  induction l generalizing m with
  | nil =>
    cases m with
    | nil => rfl
    | cons b t => cases h
  | cons a t ih =>
    cases m with
    | nil => cases h
    | cons b u =>
      rw [List.map_cons, List.map_cons] at h
      obtain ⟨h1, h2⟩ := List.cons.inj h
      rw [List.filterMap_cons, h1]
      exact congrArg (List.cons b) (ih h2)
section KBORN
variable {G : zG} {M : zM} {K : kK} {X : zX} {cells slots pc : Nat} {lv : List (Nat × Value)} {st : List Value} {ws : va_W}
theorem k_aload (E : kCtx G M K X) (q : Nat) {k : Fin 4} {i x : Nat} (hd : decode M.2.1 pc = .ok (.aload_n k, 1)) (hi : (k : Nat) = i) (hq : lv[q]? = some (i, .ref x)) (kk : kY G M K X cells slots (pc + 1) lv (.ref x :: st) ws) : kY G M K X cells slots pc lv st ws := fun ls H locs h hP hD hS => lv_aload_n E.1 E.2.1 hd hi (lv_at h q hq) (kk ls H locs h hP hD hS)
theorem k_iload (E : kCtx G M K X) (q : Nat) {k : Fin 4} {i : Nat} {x : Int32} (hd : decode M.2.1 pc = .ok (.iload_n k, 1)) (hi : (k : Nat) = i) (hq : lv[q]? = some (i, .int x)) (kk : kY G M K X cells slots (pc + 1) lv (.int x :: st) ws) : kY G M K X cells slots pc lv st ws := fun ls H locs h hP hD hS => lv_iload_n E.1 E.2.1 hd hi (lv_at h q hq) (kk ls H locs h hP hD hS)
theorem k_iconst (E : kCtx G M K X) {n : Int} {v : Int32} (hd : decode M.2.1 pc = .ok (.iconst n, 1)) (hv : Int32.ofInt n = v) (kk : kY G M K X cells slots (pc + 1) lv (.int v :: st) ws) : kY G M K X cells slots pc lv st ws := fun ls H locs h hP hD hS => lv_iconst E.1 E.2.1 hd hv (kk ls H locs h hP hD hS)
theorem k_bipush (E : kCtx G M K X) {n : Int} {v : Int32} (hd : decode M.2.1 pc = .ok (.bipush n, 2)) (hv : (Int8.ofInt n).toInt32 = v) (kk : kY G M K X cells slots (pc + 2) lv (.int v :: st) ws) : kY G M K X cells slots pc lv st ws := fun ls H locs h hP hD hS => lv_bipush E.1 E.2.1 hd hv (kk ls H locs h hP hD hS)
theorem k_sipush (E : kCtx G M K X) {n : Int} {v : Int32} (hd : decode M.2.1 pc = .ok (.sipush n, 3)) (hv : (Int16.ofInt n).toInt32 = v) (kk : kY G M K X cells slots (pc + 3) lv (.int v :: st) ws) : kY G M K X cells slots pc lv st ws := fun ls H locs h hP hD hS => lv_sipush E.1 E.2.1 hd hv (kk ls H locs h hP hD hS)
theorem k_dup (E : kCtx G M K X) {v : Value} (hd : decode M.2.1 pc = .ok (.dup, 1)) (hv : v.category = 1) (kk : kY G M K X cells slots (pc + 1) lv (v :: v :: st) ws) : kY G M K X cells slots pc lv (v :: st) ws := fun ls H locs h hP hD hS => lv_dup E.1 E.2.1 hd hv (kk ls H locs h hP hD hS)
theorem k_obj (E : kCtx G M K X) {idx a : Nat} (hl : Cond.methodLink M.1.cls idx objectInit ∈ zTbl) (hi : Cond.instanceMethod objectInit ∈ zTbl) (hc : Cond.code objectInit ⟨#[0xb1]⟩ 1 none ∈ zTbl) (hR : 1 ≤ K.1.frames ∧ 12 ≤ K.1.locals) (hd : decode M.2.1 pc = .ok (.invokespecial idx, 3)) (kk : kY G M K X cells slots (pc + 3) lv [] ws) : kY G M K X cells slots pc lv [.ref a] ws := fun ls H locs h hP hD hS => W.objInit E.1 E.2.1 E.2.2.2.2.1 (E.2.2.2.2.2.1 _ hl) (E.2.2.2.2.2.1 _ hi) (E.2.2.2.2.2.1 _ hc) rfl (by rw [E.2.2.1]; exact h.1) rfl hd hR.1 hR.2 (kk ls H locs h hP hD hS)
theorem k_ret {d mc ms : Nat} {ws0 : va_W} {post : va_W → Prop} (E : kCtx G M (kKm G d X ws0 mc ms post) X) (hr : M.2.2.2 = none) (hd : decode M.2.1 pc = .ok (.return_, 1)) (hp : post ws) : kY G M (kKm G d X ws0 mc ms post) X mc ms pc lv [] ws := fun ls H locs h hP hD hS => W.vret E.1 E.2.1 (E.2.2.2.1.trans hr) (fun t ht _ => ⟨⟨ws, rfl, hp, by rw [ht]; exact hP, hD⟩, hS.F ht⟩) hS.2.2 hd E.2.2.2.2.2.2.2.2.1
def kZ : Nat → Int32 := fun _ => 0
theorem k_newa (E : kCtx G M K X) {atype : ArrayType} {ty : FieldType} (hty : newarray.typeOf atype = ty) (ht : ty = .int ∨ ty = .boolean) (harr : Cond.arrayClass ty ∈ zTbl) {n : Int32} {N : Nat} (hn : ¬ n < 0) (hN : n.toNatClampNeg = N) (hb : N ≤ 60000) (hc : cells + 1 ≤ K.1.cells) (hs : slots + N ≤ K.1.slots) (hd : decode M.2.1 pc = .ok (.newarray atype, 2))
    (kk : ∀ q : Nat, kY G M K X (cells + 1) (slots + N) (pc + 2) lv (.ref q :: st) (ws ++ [(q, .inl (zcA G ty, N, .inl kZ))])) : kY G M K X cells slots pc lv (.int n :: st) ws := by
  intro ls H locs h hP hD hS
  have hK := E.2.2.2.2.2.2.1
  refine va_newa (D := zD G) (cl := zCl) (tys := zTys G) (a0 := (N, .inl kZ)) E.1 E.2.1 (by rw [hty]; exact E.2.2.2.2.2.1 _ harr) hty hK hP hD hS E.2.2.2.2.2.2.2.2.2.1 (fun cA => ?_) hn hN ?_ hc hs hd (fun q cA H1 k1 k2 k3 k4 => ?_)
  · rcases ht with rfl | rfl <;> rfl
  · rcases ht with rfl | rfl
    · show N * 4 ≤ _; omega
    · show N * 1 ≤ _; omega
  · have e : cA = zcA G ty := by
      have r1 := (k1.2 2 (cA, ty) rfl).2
      rcases ht with rfl | rfl
      · have r2 := (hK.2 0 _ rfl).2
        exact Option.some.inj ((show (zs X).vm.findClass _ = some cA from r1).symm.trans r2)
      · have r2 := (hK.2 1 _ rfl).2
        exact Option.some.inj ((show (zs X).vm.findClass _ = some cA from r1).symm.trans r2)
    subst e
    exact kk q ls H1 locs h k2 k3 k4
theorem k_putF (E : kCtx G M K X) {index j N ci q0 a : Nat} {C : String} {T : u_T} {ty0 : Nat → FieldType} {fs : List Value} {ty : FieldType} {v : Value} (hcl : zCl[ci]? = some (C, T, N)) (hin : ∀ w ∈ u_ws C T N, w ∈ zTbl) (hty : ∀ k, k < N → parseFieldDescriptor (T k).2.2.1 = some (ty0 k)) (hnm : ∀ a, a < N → ∀ b, b < N → a ≠ b → (T a).2.1 ≠ (T b).2.1) (hl : Cond.fieldLink M.1.cls index (T j).1 (T j).2.1 (T j).2.2.1 ∈ zTbl) (hfin : (T j).2.2.2 = true) (hini : M.1.name = "<init>") (hdecl : (T j).1 = M.1.cls) (hj : j < N) (hp : parseFieldDescriptor (T j).2.2.1 = some ty) (hn : narrow ty v = v) (hfit : fits ty v = true) (he : ws[q0]? = some (a, .inr (ci, fs))) (hlen : j < fs.length) (hd : decode M.2.1 pc = .ok (.putfield index, 3))
    (kk : kY G M K X cells slots (pc + 3) lv st (ws.set q0 (a, .inr (ci, fs.set j v)))) : kY G M K X cells slots pc lv (v :: .ref a :: st) ws := fun ls H locs h hP hD hS => va_putF (D := zD G) (cl := zCl) E.1 E.2.1 E.2.2.2.2.2.1 hin ty0 hty hnm E.2.2.2.2.1 E.2.2.2.2.2.2.1 hP hD hS q0 he hcl j hj (E.2.2.2.2.2.1 _ hl) (fun _ q => q) hfin (E.2.2.2.2.2.2.2.2.2.2 hini) hdecl hp hn hfit hlen hd (fun H1 locs1 p1 p2 p3 => kk ls H1 locs1 h p1 p2 p3)
theorem k_put (E : kCtx G M K X) {index j N ci q0 a : Nat} {C : String} {T : u_T} {ty0 : Nat → FieldType} {fs : List Value} {ty : FieldType} {v : Value} (hcl : zCl[ci]? = some (C, T, N)) (hin : ∀ w ∈ u_ws C T N, w ∈ zTbl) (hty : ∀ k, k < N → parseFieldDescriptor (T k).2.2.1 = some (ty0 k)) (hnm : ∀ a, a < N → ∀ b, b < N → a ≠ b → (T a).2.1 ≠ (T b).2.1) (hl : Cond.fieldLink M.1.cls index (T j).1 (T j).2.1 (T j).2.2.1 ∈ zTbl) (hfin : (T j).2.2.2 = false) (hj : j < N) (hp : parseFieldDescriptor (T j).2.2.1 = some ty) (hn : narrow ty v = v) (hfit : fits ty v = true) (he : ws[q0]? = some (a, .inr (ci, fs))) (hlen : j < fs.length) (hd : decode M.2.1 pc = .ok (.putfield index, 3))
    (kk : kY G M K X cells slots (pc + 3) lv st (ws.set q0 (a, .inr (ci, fs.set j v)))) : kY G M K X cells slots pc lv (v :: .ref a :: st) ws := fun ls H locs h hP hD hS => va_put (D := zD G) (cl := zCl) E.1 E.2.1 E.2.2.2.2.2.1 hin ty0 hty hnm E.2.2.2.2.1 E.2.2.2.2.2.2.1 hP hD hS q0 he hcl j hj (E.2.2.2.2.2.1 _ hl) (fun _ q => q) hfin hp hn hfit hlen hd (fun H1 locs1 p1 p2 p3 => kk ls H1 locs1 h p1 p2 p3)
theorem k_get (E : kCtx G M K X) {index j N ci q0 a : Nat} {C : String} {T : u_T} {fs : List Value} {v : Value} (hcl : zCl[ci]? = some (C, T, N)) (hin : ∀ w ∈ u_ws C T N, w ∈ zTbl) (hl : Cond.fieldLink M.1.cls index (T j).1 (T j).2.1 (T j).2.2.1 ∈ zTbl) (hj : j < N) (he : ws[q0]? = some (a, .inr (ci, fs))) (hv : fs[j]? = some v) (hd : decode M.2.1 pc = .ok (.getfield index, 3))
    (kk : kY G M K X cells slots (pc + 3) lv (v :: st) ws) : kY G M K X cells slots pc lv (.ref a :: st) ws := fun ls H locs h hP hD hS => va_get (D := zD G) (cl := zCl) E.1 E.2.1 E.2.2.2.2.2.1 hin E.2.2.2.2.1 E.2.2.2.2.2.2.1 hP q0 he hcl j hj (E.2.2.2.2.2.1 _ hl) (fun _ q => q) hv hd (kk ls H locs h hP hD hS)
theorem k_new (E : kCtx G M K X) {index N ci : Nat} {C : String} {T : u_T} {ty0 : Nat → FieldType} {fs : List Value} (hcl : zCl[ci]? = some (C, T, N)) (hin : ∀ w ∈ u_ws C T N, w ∈ zTbl) (hty : ∀ k, k < N → parseFieldDescriptor (T k).2.2.1 = some (ty0 k)) (hl : Cond.classLink M.1.cls index C ∈ zTbl) (hi : Cond.instantiable C N ∈ zTbl) (hini : Cond.initialized C ∈ zTbl) (hfs : ∀ j, j < N → defaultValue (ty0 j) = vp_V fs j) (hc : cells + 1 ≤ K.1.cells) (hs : slots + N ≤ K.1.slots) (hd : decode M.2.1 pc = .ok (.new index, 3))
    (kk : ∀ q : Nat, kY G M K X (cells + 1) (slots + N) (pc + 3) lv (.ref q :: st) (ws ++ [(q, .inr (ci, fs))])) : kY G M K X cells slots pc lv st ws := fun ls H locs h hP hD hS => va_new (D := zD G) (cl := zCl) E.1 E.2.1 E.2.2.2.2.2.1 hin ty0 hty E.2.2.2.2.1 (E.2.2.2.2.2.1 _ hl) (E.2.2.2.2.2.1 _ hi) (E.2.2.2.2.2.1 _ hini) E.2.2.2.2.2.2.1 hP hD hS E.2.2.2.2.2.2.2.2.2.1 hcl hfs hc hs hd (fun q H1 k2 k3 k4 => kk q ls H1 locs h k2 k3 k4)
theorem k_preS {as : List Value} {H : Heap} {wc : va_W} {A : Nat → Prop} (E : kCtx G M K X) (hP : va_P (zD G) zCl wc H) (hD : va_D A wc) : PreS (zs X) H (va_Pc as (kPre G wc H.size)) as :=
  ⟨kBlind G as wc H.size, fun U hU hW => ⟨rfl, by rw [hU], by rw [hU]; exact hP, hD.weaken (fun _ _ _ _ => trivial), va_K.moved hW.alike E.2.2.2.2.2.2.1, (E.2.2.2.2.2.2.2.1).warm hW⟩⟩
/-- behind a call: the callee's world beside the rest -/
theorem k_back {as rest : List Value} {wc wr : va_W} {mc ms : Nat} {post : va_W → Prop} {ls : Array Slot} {H : Heap} {locs : List Loc} (E : kCtx G M K X) (h : lv_has ls M.2.2.1 lv) (hP : va_P (zD G) zCl ws H) (hD : va_D K.2.1 ws) (hS : va_S K.2.1 (zs X).heap H locs) (isC isR : List Nat) (hC : isC.map (fun i => ws[i]?) = wc.map some) (hR : isR.map (fun i => ws[i]?) = wr.map some) (hn : va_nd isR = true) (hdis : ∀ i ∈ isR, i ∉ isC)
    (hr : va_Run (zp X) (zl G) (ze X) K.1 (zs X) (zm X) (za X) (zbl X) (zmt X) (zc X) H locs cells slots mc ms (F0 (zm X) pc ls st) rest (kQc G wc H.size post as.toArray) (va_A wc H.size))
    (kk : ∀ w1, post w1 → kY G M K X (cells + mc) (slots + ms) (pc + 3) lv rest (wr ++ w1)) : W (zp X) (zl G) (ze X) K.1 (zs X) (zm X) (za X) (zbl X) (zmt X) (zc X) H locs cells slots K.2.2 (F0 (zm X) pc ls st) := by
  have hF := va_free hD hS E.2.2.2.2.2.2.2.2.2.1 isC hC
  refine va_callv hr hS (fun q _ h => hF q h) hF (fun w1 t H1 locs1 ht hvm hw hB hz1 hk1 hS1 => ?_)
  obtain ⟨hP1, hD1⟩ := hB
  rw [ht] at hP1
  obtain ⟨p1, p2⟩ := va_join hP hD isC isR hC hR hn hdis hk1 hF hP1 hD1
  exact kk w1 hw ls H1 locs1 h p1 p2 hS1
theorem k_callI {M' : zM} {d' index b mc ms : Nat} {rest : List Value} {wc wr : va_W} {post : va_W → Prop} (E : kCtx G M K X) (hM : kSpec G d' M' [.ref b] wc mc ms post) (hc : zCal M.1.cls index M' 0) (hin : M'.1.name = "<init>" ∧ Cond.instanceMethod M'.1 ∈ zTbl ∧ M'.2.2.2 = none) (hdd : d' + 1 ≤ K.1.frames ∧ 48 * (d' + 1) ≤ K.1.locals ∧ cells + mc ≤ K.1.cells ∧ slots + ms ≤ K.1.slots) (isC isR : List Nat) (hC : isC.map (fun i => ws[i]?) = wc.map some) (hCn : va_nd isC = true) (hR : isR.map (fun i => ws[i]?) = wr.map some) (hn : va_nd isR = true) (hdis : ∀ i ∈ isR, i ∉ isC) (hrm : (rest.map fun v => v.category).sum ≤ 8) (hd : decode M.2.1 pc = .ok (.invokespecial index, 3))
    (kk : ∀ w1, post w1 → kY G M K X (cells + mc) (slots + ms) (pc + 3) lv rest (wr ++ w1)) : kY G M K X cells slots pc lv (.ref b :: rest) ws := by
  intro ls H locs h hP hD hS
  obtain ⟨hl, hcode, hini, hy, hml⟩ := hc
  obtain ⟨i1, i2, i3⟩ := hin
  have hts := E.2.2.2.2.2.1
  have hRm : (kRoom d' mc ms).frames + 1 ≤ K.1.frames ∧ 8 + (M'.2.2.1 + 11) + (kRoom d' mc ms).locals ≤ K.1.locals := ⟨hdd.1, by have := hdd.2.1; show 8 + (M'.2.2.1 + 11) + 48 * d' ≤ _; omega⟩
  have hPc : va_P (zD G) zCl wc H := hP.sub isC (fm_of hC)
  have hDc := hD.sub isC hCn hC
  have hcode' : Cond.code M'.1 M'.2.1 M'.2.2.1 none ∈ zTbl := by rw [← i3]; exact hcode
  have hws : zWs M' = Cond.code M'.1 M'.2.1 M'.2.2.1 none :: zTbl := by unfold zWs; rw [i3]
  rcases hl with hl | ⟨host, hl⟩
  · exact k_back (as := [.ref b]) E h hP hD hS isC isR hC hR hn hdis (va_runI (g := F0 (zm X) pc ls (.ref b :: rest)) (As := []) ⟨E.1, E.2.1, E.2.2.1, E.2.2.2.2.1, hts⟩ (hM H.size) ⟨callB_of 0 hts (zGood hcode) hws rfl rfl (hts _ hini) (hts _ hl) hy hRm, i1, hts _ i2⟩ (k_preS E hPc hDc) rfl rfl h.1 rfl (lv_room hrm) hd ⟨hdd.2.2.1, hdd.2.2.2⟩) kk
  · exact k_back (as := [.ref b]) E h hP hD hS isC isR hC hR hn hdis (va_runIN (g := F0 (zm X) pc ls (.ref b :: rest)) (As := []) ⟨E.1, E.2.1, E.2.2.1, E.2.2.2.2.1, hts⟩ (hM H.size) ⟨va_cnB 0 hts (zGood hcode) hws rfl rfl (E.2.2.2.2.2.2.2.1 _ hl rfl) (hts _ hini) hy hRm, i1, hts _ i2⟩ (k_preS E hPc hDc) rfl rfl h.1 rfl (lv_room hrm) hd ⟨hdd.2.2.1, hdd.2.2.2⟩) kk
theorem k_callS {M' : zM} {d' n index mc ms : Nat} (as rest : List Value) {wc wr : va_W} {post : va_W → Prop} (E : kCtx G M K X) (hM : kSpec G d' M' as wc mc ms post) (hc : zCal M.1.cls index M' n) (hst : Cond.static M'.1 ∈ zTbl) (hn' : as.length = n) (hdd : d' + 1 ≤ K.1.frames ∧ 48 * (d' + 1) ≤ K.1.locals ∧ cells + mc ≤ K.1.cells ∧ slots + ms ≤ K.1.slots) (isC isR : List Nat) (hC : isC.map (fun i => ws[i]?) = wc.map some) (hCn : va_nd isC = true) (hR : isR.map (fun i => ws[i]?) = wr.map some) (hn : va_nd isR = true) (hdis : ∀ i ∈ isR, i ∉ isC) (hs : st = as.reverse ++ rest) (hrm : (rest.map fun v => v.category).sum ≤ 8) (hd : decode M.2.1 pc = .ok (.invokestatic index, 3))
    (kk : ∀ w1, post w1 → kY G M K X (cells + mc) (slots + ms) (pc + 3) lv rest (wr ++ w1)) : kY G M K X cells slots pc lv st ws := by
  intro ls H locs h hP hD hS
  obtain ⟨hl, hcode, hini, hy, hml⟩ := hc
  have hts := E.2.2.2.2.2.1
  have hRm : (kRoom d' mc ms).frames + 1 ≤ K.1.frames ∧ 8 + (M'.2.2.1 + 11) + (kRoom d' mc ms).locals ≤ K.1.locals := ⟨hdd.1, by have := hdd.2.1; show 8 + (M'.2.2.1 + 11) + 48 * d' ≤ _; omega⟩
  have hPc : va_P (zD G) zCl wc H := hP.sub isC (fm_of hC)
  have hDc := hD.sub isC hCn hC
  rcases hl with hl | ⟨host, hl⟩
  · exact k_back (as := as) E h hP hD hS isC isR hC hR hn hdis (va_runS (g := F0 (zm X) pc ls st) ⟨E.1, E.2.1, E.2.2.1, E.2.2.2.2.1, hts⟩ (hM H.size) ⟨callB_of n hts (zGood hcode) rfl rfl rfl (hts _ hini) (hts _ hl) hy hRm, hts _ hst⟩ (k_preS E hPc hDc) rfl hn' h.1 hs (lv_room hrm) hd ⟨hdd.2.2.1, hdd.2.2.2⟩) kk
  · exact k_back (as := as) E h hP hD hS isC isR hC hR hn hdis (va_runSN (g := F0 (zm X) pc ls st) ⟨E.1, E.2.1, E.2.2.1, E.2.2.2.2.1, hts⟩ (hM H.size) ⟨va_cnB n hts (zGood hcode) rfl rfl rfl (E.2.2.2.2.2.2.2.1 _ hl rfl) (hts _ hini) hy hRm, hts _ hst, trivial⟩ (k_preS E hPc hDc) rfl hn' h.1 hs (lv_room hrm) hd ⟨hdd.2.2.1, hdd.2.2.2⟩) kk
theorem k_callV {M' : zM} {d' n index b ci mc ms : Nat} {fs : List Value} {T : u_T} {N : Nat} (as rest : List Value) {wc wr : va_W} {post : va_W → Prop} (E : kCtx G M K X) (hM : kSpec G d' M' (.ref b :: as) wc mc ms post) (hc : zCal M.1.cls index M' n) (hrc : Cond.instanceMethod M'.1 ∈ zTbl ∧ Cond.selects M'.1.cls M'.1 M'.1 ∈ zTbl) (hb : wc[0]? = some (b, .inr (ci, fs))) (hcl : zCl[ci]? = some (M'.1.cls, T, N)) (hn' : as.length = n) (hdd : d' + 1 ≤ K.1.frames ∧ 48 * (d' + 1) ≤ K.1.locals ∧ cells + mc ≤ K.1.cells ∧ slots + ms ≤ K.1.slots) (isC isR : List Nat) (hC : isC.map (fun i => ws[i]?) = wc.map some) (hCn : va_nd isC = true) (hR : isR.map (fun i => ws[i]?) = wr.map some) (hn : va_nd isR = true) (hdis : ∀ i ∈ isR, i ∉ isC) (hs : st = as.reverse ++ .ref b :: rest) (hrm : (rest.map fun v => v.category).sum ≤ 8) (hd : decode M.2.1 pc = .ok (.invokevirtual index, 3))
    (kk : ∀ w1, post w1 → kY G M K X (cells + mc) (slots + ms) (pc + 3) lv rest (wr ++ w1)) : kY G M K X cells slots pc lv st ws := by
  intro ls H locs h hP hD hS
  obtain ⟨hl, hcode, hini, hy, hml⟩ := hc
  obtain ⟨hin, hsel⟩ := hrc
  have hts := E.2.2.2.2.2.1
  have hRm : (kRoom d' mc ms).frames + 1 ≤ K.1.frames ∧ 8 + (M'.2.2.1 + 11) + (kRoom d' mc ms).locals ≤ K.1.locals := ⟨hdd.1, by have := hdd.2.1; show 8 + (M'.2.2.1 + 11) + 48 * d' ≤ _; omega⟩
  have hPc : va_P (zD G) zCl wc H := hP.sub isC (fm_of hC)
  have hDc := hD.sub isC hCn hC
  have hpre : PreV (zs X) H M'.1.cls b (va_Pc (.ref b :: as) (kPre G wc H.size)) as := by
    refine ⟨kBlind G _ wc H.size, ?_, (k_preS (as := .ref b :: as) E hPc hDc).2⟩
    obtain ⟨r, g1, cell, q1, q2, q3, q4⟩ := hPc 0 _ hb
    have hr : r = (M'.1.cls, T, N) := Option.some.inj (g1.symm.trans hcl)
    subst hr
    obtain ⟨-, hfc, -⟩ := E.2.2.2.2.2.2.1.1 ci _ hcl
    exact ⟨cell, q1, by rw [q3]; rfl, by rw [hfc, q2]⟩
  rcases hl with hl | ⟨host, hl⟩
  · exact k_back (as := .ref b :: as) E h hP hD hS isC isR hC hR hn hdis (va_runV (g := F0 (zm X) pc ls st) ⟨E.1, E.2.1, E.2.2.1, E.2.2.2.2.1, hts⟩ (hM H.size) ⟨callB_of n hts (zGood hcode) rfl rfl rfl (hts _ hini) (hts _ hl) hy hRm, hts _ hin, hts _ hsel⟩ hpre rfl hn' h.1 hs (lv_room hrm) hd ⟨hdd.2.2.1, hdd.2.2.2⟩) kk
  · exact k_back (as := .ref b :: as) E h hP hD hS isC isR hC hR hn hdis (va_runVN (g := F0 (zm X) pc ls st) ⟨E.1, E.2.1, E.2.2.1, E.2.2.2.2.1, hts⟩ (hM H.size) ⟨va_cnB n hts (zGood hcode) rfl rfl rfl (E.2.2.2.2.2.2.2.1 _ hl rfl) (hts _ hini) hy hRm, hts _ hin, hts _ hsel⟩ hpre rfl hn' h.1 hs (lv_room hrm) hd ⟨hdd.2.2.1, hdd.2.2.2⟩) kk
end KBORN
