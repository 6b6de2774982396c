/-! The layer Z: one fixed world of cells (the class's and the reference's), a state that is a table of ints, one rule an instruction. -/
abbrev zSt : Type := Nat → Nat → Int32
def zup (σ : zSt) (c j : Nat) (v : Int32) : zSt := fun a b => if a = c ∧ b = j then v else σ a b
abbrev zSh : Type := (FieldType × Nat) ⊕ (Nat × List (Option Nat))
def zVal (ad : Nat → Nat) (σ : zSt) (k j : Nat) (o : Option Nat) : Value := match o with
  | none => .int (σ k j)
  | some r => .ref (ad r)
def zE (cA : FieldType → ClassId) (ad : Nat → Nat) (σ : zSt) (k : Nat) (sh : zSh) : va_E := match sh with
  | .inl (ty, n) => .inl (cA ty, n, .inl (σ k))
  | .inr (ci, fs) => .inr (ci, fs.mapIdx (fun j o => zVal ad σ k j o))
def zW (cA : FieldType → ClassId) (ad : Nat → Nat) (σ : zSt) : va_W := zS.mapIdx (fun k sh => (ad k, zE cA ad σ k sh))
theorem zW_at {cA : FieldType → ClassId} {ad : Nat → Nat} {σ : zSt} {k : Nat} {sh : zSh} (h : zS[k]? = some sh) : (zW cA ad σ)[k]? = some (ad k, zE cA ad σ k sh) := by
  unfold zW
  rw [List.getElem?_mapIdx, h]
  rfl
theorem zW_of {cA : FieldType → ClassId} {ad : Nat → Nat} {σ : zSt} {k : Nat} {q : Nat × va_E} (h : (zW cA ad σ)[k]? = some q) : k < zS.length ∧ q.1 = ad k := by
  unfold zW at h
  rw [List.getElem?_mapIdx] at h
  cases hs : zS[k]? with
  | none => rw [hs] at h; cases h
  | some sh =>
    rw [hs] at h
    have h1 := Option.some.inj h
    exact ⟨(List.getElem?_eq_some_iff.mp hs).1, by rw [← h1]⟩
theorem zup_self (σ : zSt) (c j : Nat) (v : Int32) : zup σ c j v c = upd (σ c) j v := by
  funext b
  unfold zup upd
  by_cases h : b = j <;> simp [h]
theorem zup_ne {σ : zSt} {c j : Nat} {v : Int32} {k : Nat} (h : k ≠ c) : zup σ c j v k = σ k := by
  funext b
  unfold zup
  simp [h]
theorem zE_ne {cA : FieldType → ClassId} {ad : Nat → Nat} {σ τ : zSt} {k : Nat} {sh : zSh} (h : σ k = τ k) : zE cA ad σ k sh = zE cA ad τ k sh := by
  cases sh with
  | inl a => unfold zE; simp only [h]
  | inr o => unfold zE zVal; simp only [h]
theorem zW_set {cA : FieldType → ClassId} {ad : Nat → Nat} {σ τ : zSt} {c : Nat} {sh : zSh} (hc : zS[c]? = some sh) (hn : ∀ k, k ≠ c → σ k = τ k) : (zW cA ad σ).set c (ad c, zE cA ad τ c sh) = zW cA ad τ := by
  apply List.ext_getElem?
  intro k
  have hl : c < (zW cA ad σ).length := (List.getElem?_eq_some_iff.mp (zW_at (cA := cA) (ad := ad) (σ := σ) hc)).1
  by_cases hk : k = c
  · subst hk
    rw [List.getElem?_set_self hl, zW_at hc]
  · rw [List.getElem?_set_ne (Ne.symm hk)]
    unfold zW
    rw [List.getElem?_mapIdx, List.getElem?_mapIdx]
    cases hs : zS[k]? with
    | none => rfl
    | some s2 =>
      show some (ad k, zE cA ad σ k s2) = some (ad k, zE cA ad τ k s2)
      rw [zE_ne (hn k hk)]
theorem zE_put {cA : FieldType → ClassId} {ad : Nat → Nat} {σ : zSt} {c ci j : Nat} {fs : List (Option Nat)} {v : Int32} (hj : fs[j]? = some none) : (Sum.inr (ci, (fs.mapIdx (fun j o => zVal ad σ c j o)).set j (.int v)) : va_E) = zE cA ad (zup σ c j v) c (.inr (ci, fs)) := by
  unfold zE
  congr 2
  apply List.ext_getElem?
  intro k
  have hl : j < (fs.mapIdx (fun j o => zVal ad σ c j o)).length := by
    rw [List.length_mapIdx]
    exact (List.getElem?_eq_some_iff.mp hj).1
  by_cases hk : k = j
  · subst hk
    rw [List.getElem?_set_self hl, List.getElem?_mapIdx, hj]
    show some (Value.int v) = some (Value.int (zup σ c k v c k))
    simp [zup]
  · rw [List.getElem?_set_ne (Ne.symm hk), List.getElem?_mapIdx, List.getElem?_mapIdx]
    cases hs : fs[k]? with
    | none => rfl
    | some o =>
      cases o with
      | none =>
        show some (Value.int (σ c k)) = some (Value.int (zup σ c j v c k))
        simp [zup, hk]
      | some r => rfl
theorem zE_sto {cA : FieldType → ClassId} {ad : Nat → Nat} {σ : zSt} {c i n : Nat} {ty : FieldType} {v : Int32} : (Sum.inl (cA ty, n, .inl (upd (σ c) i v)) : va_E) = zE cA ad (zup σ c i v) c (.inl (ty, n)) := by
  show _ = (Sum.inl (cA ty, n, .inl (zup σ c i v c)) : va_E)
  rw [zup_self]
/-! the machine's side -/
abbrev zG : Type := Launch × va_G × (FieldType → ClassId) × (Nat → Nat)
abbrev zM : Type := MethodName × ByteArray × Nat × Option FieldType
abbrev zX : Type := Program × Env × State × MethodId × Array Value × List Frame × Method × Code
abbrev zl (G : zG) : Launch := G.1
abbrev zD (G : zG) : va_G := G.2.1
abbrev zcA (G : zG) : FieldType → ClassId := G.2.2.1
abbrev zad (G : zG) : Nat → Nat := G.2.2.2
abbrev zf (G : zG) (k : Nat) : Value := .ref (G.2.2.2 k)
abbrev zp (X : zX) : Program := X.1
abbrev ze (X : zX) : Env := X.2.1
abbrev zs (X : zX) : State := X.2.2.1
abbrev zm (X : zX) : MethodId := X.2.2.2.1
abbrev za (X : zX) : Array Value := X.2.2.2.2.1
abbrev zbl (X : zX) : List Frame := X.2.2.2.2.2.1
abbrev zmt (X : zX) : Method := X.2.2.2.2.2.2.1
abbrev zc (X : zX) : Code := X.2.2.2.2.2.2.2
def zTys (G : zG) : List (ClassId × FieldType) := [(zcA G .int, .int), (zcA G .boolean, .boolean)]
def zKK (G : zG) (s : State) : Prop := va_K (zD G) zCl (zTys G) s
def zAd (G : zG) : Prop := ∀ i j, i < zS.length → j < zS.length → zad G i = zad G j → i = j
def zA (G : zG) (sz : Nat) : Nat → Prop := fun q => (∃ k, k < zS.length ∧ q = zad G k) ∨ sz ≤ q
def zTbl : List Cond := lw_tbl.filter goodWord
def zNestW : Cond → Bool
  | .fieldLinkNest _ _ _ _ _ _ => true
  | .methodLinkNest _ _ _ _ => true
  | _ => false
def zNst (U : State) : Prop := ∀ w ∈ lw_tbl, zNestW w = true → va_Nw w U
theorem zNst.warm {s U : State} (hW : s.WarmedH U.vm) (h : zNst s) : zNst U := by
  intro w hw hn
  have h1 := h w hw hn
  cases w <;> first | exact va_Nw.warmF hW h1 | exact va_Nw.warmM hW h1 | (exact absurd hn (by simp [zNestW]))
theorem zNst.same {s U : State} (hv : s.vm = U.vm) (h : zNst s) : zNst U := by
  intro w hw hn
  have h1 := h w hw hn
  cases w <;> first | exact va_Nw.same rfl hv h1 | (exact absurd hn (by simp [zNestW]))
def zWd (G : zG) (σ : zSt) (H : Heap) : Prop := va_P (zD G) zCl (zW (zcA G) (zad G) σ) H
def zPre (G : zG) (σ : zSt) (sz : Nat) (U : State) : Prop := U.heap.size = sz ∧ zWd G σ U.heap ∧ zKK G U ∧ zNst U ∧ zAd G
def zQc (G : zG) (sz : Nat) (post : Option Value → zSt → Prop) : Array Value → State → Outcome → State → Prop := fun _ st oc t => (∃ (r : Option Value) (τ : zSt), oc = .returned r ∧ post r τ ∧ zWd G τ t.heap) ∧ va_F (zA G sz) st t
def zRoom (d : Nat) : Room := { frames := d, cells := 0, slots := 0, locals := 48 * d }
def zWs (M : zM) : List Cond := .code M.1 M.2.1 M.2.2.1 M.2.2.2 :: zTbl
/-- M, called with as in the state σ, returns, with 'post answer state' -/
def zSpec (G : zG) (d : Nat) (M : zM) (as : List Value) (σ : zSt) (post : Option Value → zSt → Prop) : Prop := ∀ sz, Met (zl G) M.1 (zWs M) (zRoom d) (va_Pc as (zPre G σ sz)) (zQc G sz post) 0 0 (zA G sz)
abbrev zK : Type := Room × (Nat → Prop) × Nat × Nat × (State → Prop)
def zCtx (G : zG) (M : zM) (K : zK) (X : zX) : Prop := (zp X).tables.exec = Jvm.exec ∧ (zc X).code = M.2.1 ∧ (zc X).maxLocals = M.2.2.1 ∧ (zmt X).sig.returnType = M.2.2.2 ∧ (zs X).vm.findClass M.1.cls = some (zm X).cls ∧ (∀ w ∈ zTbl, w.before (za X) (zs X) = true) ∧ zKK G (zs X) ∧ zNst (zs X) ∧ zAd G ∧ (zmt X).locks = false ∧ (∀ k, k < zS.length → K.2.1 (zad G k)) ∧ (∀ q, (zs X).heap.size ≤ q → K.2.1 q)
def zQ (G : zG) (X : zX) (post : Option Value → zSt → Prop) : State → Prop := MQ (zbl X) (zQc G (zs X).heap.size post) (za X) (zs X) 0 0 (zA G (zs X).heap.size)
/-- the machine stands at pc of M with the locals lv, the stack st, the state σ, and comes to an end with K's Q -/
def zY (G : zG) (M : zM) (K : zK) (X : zX) (pc : Nat) (lv : List (Nat × Value)) (st : List Value) (σ : zSt) : Prop :=
  ∀ (ls : Array Slot) (H : Heap) (locs : List Loc), lv_has ls M.2.2.1 lv → zWd G σ H → va_S K.2.1 (zs X).heap H locs →
    W (zp X) (zl G) (ze X) K.1 (zs X) (zm X) (za X) (zbl X) (zmt X) (zc X) H locs K.2.2.1 K.2.2.2.1 K.2.2.2.2 (F0 (zm X) pc ls st)
/-- a method of depth d that is to end with post -/
abbrev zKm (G : zG) (d : Nat) (X : zX) (post : Option Value → zSt → Prop) : zK := (zRoom d, zA G (zs X).heap.size, 0, 0, zQ G X post)
abbrev zZ (G : zG) (M : zM) (d : Nat) (X : zX) (post : Option Value → zSt → Prop) (pc : Nat) (lv : List (Nat × Value)) (st : List Value) (σ : zSt) : Prop := zY G M (zKm G d X post) X pc lv st σ
theorem zD_of {G : zG} {A : Nat → Prop} (h : zAd G) (hA : ∀ k, k < zS.length → A (zad G k)) (σ : zSt) : va_D A (zW (zcA G) (zad G) σ) := by
  refine ⟨fun i j a b hi hj hab => ?_, fun k q hk => ?_⟩
  · have h1 := zW_of hi
    have h2 := zW_of hj
    exact h i j h1.1 h2.1 (by rw [← h1.2, ← h2.2]; exact hab)
  · have h1 := zW_of hk
    rw [h1.2]
    exact hA k h1.1
theorem zTbl_in {w : Cond} (h : w ∈ lw_tbl) (hg : goodWord w = true) : w ∈ zTbl := List.mem_filter.mpr ⟨h, hg⟩
theorem zGood {M : zM} (hc : Cond.code M.1 M.2.1 M.2.2.1 M.2.2.2 ∈ zTbl) : GoodIn zTbl (zWs M) := by
  intro w hw
  have h : w ∈ zTbl := by
    rcases List.mem_cons.mp hw with rfl | h
    · exact hc
    · exact h
  exact ⟨h, good_of_word (List.mem_filter.mp h).2⟩
theorem zBlind (G : zG) (as : List Value) (σ : zSt) (sz : Nat) : FrameBlind (va_Pc as (zPre G σ sz)) := by
  intro a U g mk h
  obtain ⟨h0, h1, h2, h3, h4, h5⟩ := h
  exact ⟨h0, h1, h2, va_K.moved (u := U) (U := U.calling g mk a) (Vm.Alike.refl U.vm) h3, zNst.same (s := U) (U := U.calling g mk a) rfl h4, h5⟩
theorem zSpec.of {G : zG} {d : Nat} {M : zM} {as : List Value} {σ : zSt} {post : Option Value → zSt → Prop} {lv : List (Nat × Value)} (hy : plainName M.1.cls = true) (hn : (lg_sl as).length ≤ M.2.2.1) (hlv : lv_args 0 as = lv)
    (body : ∀ X, zCtx G M (zKm G d X post) X → zZ G M d X post 0 lv [] σ) : zSpec G d M as σ post := by
  intro sz
  refine Met.ofW (cc := M.2.1) (maxL := M.2.2.1) (ret := M.2.2.2) hy rfl ?_
  intro p e s m args below meth c s₁ B hml hv
  obtain ⟨rfl, hsz, hP, hK, hN, hA⟩ := hv
  subst hsz
  have hts := atoms_spec (ws := zWs M) B.pre
  have hl := lv_entry as (n := M.2.2.1) hn
  rw [hlv] at hl
  rw [lg_entry_eq]
  exact body (p, e, s, m, as.toArray, below, meth, c) ⟨B.exec, B.bytes, hml, B.returns, findClass_of_methodNamed B.named, fun w hw => hts w (List.mem_cons_of_mem _ hw), hK, hN, hA, B.notSynchronized, fun k hk => Or.inl ⟨k, hk, rfl⟩, fun q hq => Or.inr hq⟩ _ _ _ hl hP va_S.rf
theorem zSpec.mono {G : zG} {d : Nat} {M : zM} {as : List Value} {σ : zSt} {post post' : Option Value → zSt → Prop} (h : zSpec G d M as σ post) (hp : ∀ r τ, post r τ → post' r τ) : zSpec G d M as σ post' := by
  intro sz p e ha hc hk s m args below hf hroom hP hK
  obtain ⟨k, o, h1, h2, h3, ⟨⟨⟨r, τ, g1, g2, g3⟩, g4⟩, g5⟩⟩ := h sz p e ha hc hk s m args below hf hroom hP hK
  exact ⟨k, o, h1, h2, h3, ⟨⟨⟨r, τ, g1, hp r τ g2, g3⟩, g4⟩, g5⟩⟩
section ZR
variable {G : zG} {M : zM} {K : zK} {d : Nat} {X : zX} {post : Option Value → zSt → Prop} {pc : Nat} {lv : List (Nat × Value)} {st : List Value} {σ : zSt}
theorem zZ.sub (ks : List Nat) {lv' : List (Nat × Value)} (hl : lv_pick lv ks = lv') (k : zY G M K X pc lv' st σ) : zY G M K X pc lv st σ := fun ls H locs h hP hS => k ls H locs (lv_sub h ks hl) hP hS
theorem zZ.to {pc' : Nat} {lv' : List (Nat × Value)} {st' : List Value} {τ : zSt} (k : zY G M K X pc' lv' st' τ) (h1 : pc = pc') (h2 : lv = lv') (h3 : st = st') (h4 : σ = τ) : zY G M K X pc lv st σ := by subst h1; subst h2; subst h3; subst h4; exact k
theorem z_iconst (E : zCtx G M K X) {n : Int} {v : Int32} (hd : decode M.2.1 pc = .ok (.iconst n, 1)) (hv : Int32.ofInt n = v) (k : zY G M K X (pc + 1) lv (.int v :: st) σ) : zY G M K X pc lv st σ := fun ls H locs h hP hS => lv_iconst E.1 E.2.1 hd hv (k ls H locs h hP hS)
theorem z_bipush (E : zCtx G M K X) {n : Int} {v : Int32} (hd : decode M.2.1 pc = .ok (.bipush n, 2)) (hv : (Int8.ofInt n).toInt32 = v) (k : zY G M K X (pc + 2) lv (.int v :: st) σ) : zY G M K X pc lv st σ := fun ls H locs h hP hS => lv_bipush E.1 E.2.1 hd hv (k ls H locs h hP hS)
theorem z_sipush (E : zCtx G M K X) {n : Int} {v : Int32} (hd : decode M.2.1 pc = .ok (.sipush n, 3)) (hv : (Int16.ofInt n).toInt32 = v) (k : zY G M K X (pc + 3) lv (.int v :: st) σ) : zY G M K X pc lv st σ := fun ls H locs h hP hS => lv_sipush E.1 E.2.1 hd hv (k ls H locs h hP hS)
theorem z_lconst (E : zCtx G M K X) {n : Fin 2} {v : Int64} (hd : decode M.2.1 pc = .ok (.lconst n, 1)) (hv : Int64.ofNat (n : Nat) = v) (k : zY G M K X (pc + 1) lv (.long v :: st) σ) : zY G M K X pc lv st σ := fun ls H locs h hP hS => lv_lconst E.1 E.2.1 hd hv (k ls H locs h hP hS)
theorem z_iload_n (E : zCtx G M K X) (q : Nat) {j : Fin 4} {i : Nat} {x : Int32} (hd : decode M.2.1 pc = .ok (.iload_n j, 1)) (hi : (j : Nat) = i) (hq : lv[q]? = some (i, .int x)) (k : zY G M K X (pc + 1) lv (.int x :: st) σ) : zY G M K X pc lv st σ := fun ls H locs h hP hS => lv_iload_n E.1 E.2.1 hd hi (lv_at h q hq) (k ls H locs h hP hS)
theorem z_iload (E : zCtx G M K X) (q : Nat) {i : Nat} {x : Int32} (hd : decode M.2.1 pc = .ok (.iload i, 2)) (hq : lv[q]? = some (i, .int x)) (k : zY G M K X (pc + 2) lv (.int x :: st) σ) : zY G M K X pc lv st σ := fun ls H locs h hP hS => lv_iload E.1 E.2.1 hd (lv_at h q hq) (k ls H locs h hP hS)
theorem z_lload_n (E : zCtx G M K X) (q : Nat) {j : Fin 4} {i : Nat} {x : Int64} (hd : decode M.2.1 pc = .ok (.lload_n j, 1)) (hi : (j : Nat) = i) (hq : lv[q]? = some (i, .long x)) (k : zY G M K X (pc + 1) lv (.long x :: st) σ) : zY G M K X pc lv st σ := fun ls H locs h hP hS => lv_lload_n E.1 E.2.1 hd hi (lv_at h q hq) (k ls H locs h hP hS)
theorem z_lload (E : zCtx G M K X) (q : Nat) {i : Nat} {x : Int64} (hd : decode M.2.1 pc = .ok (.lload i, 2)) (hq : lv[q]? = some (i, .long x)) (k : zY G M K X (pc + 2) lv (.long x :: st) σ) : zY G M K X pc lv st σ := fun ls H locs h hP hS => lv_lload E.1 E.2.1 hd (lv_at h q hq) (k ls H locs h hP hS)
theorem z_aload_n (E : zCtx G M K X) (q : Nat) {j : Fin 4} {i : Nat} {x : Nat} (hd : decode M.2.1 pc = .ok (.aload_n j, 1)) (hi : (j : Nat) = i) (hq : lv[q]? = some (i, .ref x)) (k : zY G M K X (pc + 1) lv (.ref x :: st) σ) : zY G M K X pc lv st σ := fun ls H locs h hP hS => lv_aload_n E.1 E.2.1 hd hi (lv_at h q hq) (k ls H locs h hP hS)
theorem z_aload (E : zCtx G M K X) (q : Nat) {i : Nat} {x : Nat} (hd : decode M.2.1 pc = .ok (.aload i, 2)) (hq : lv[q]? = some (i, .ref x)) (k : zY G M K X (pc + 2) lv (.ref x :: st) σ) : zY G M K X pc lv st σ := fun ls H locs h hP hS => lv_aload E.1 E.2.1 hd (lv_at h q hq) (k ls H locs h hP hS)
theorem z_istore_n (E : zCtx G M K X) (ks : List Nat) {j : Fin 4} {i : Nat} {x : Int32} {lv' : List (Nat × Value)} (hd : decode M.2.1 pc = .ok (.istore_n j, 1)) (hi : (j : Nat) = i) (hn : i < M.2.2.1) (hl : lv_pick ((i, Value.int x) :: lv.filter (fun q => !(q.1 == i) && !(q.1 + 1 == i && q.2.category == 2))) ks = lv') (k : zY G M K X (pc + 1) lv' st σ) : zY G M K X pc lv (.int x :: st) σ := fun ls H locs h hP hS => lv_istore_n E.1 E.2.1 hd hi h hn rfl (fun ls' h' => k ls' H locs (lv_sub h' ks hl) hP hS)
theorem z_istore (E : zCtx G M K X) (ks : List Nat) {i : Nat} {x : Int32} {lv' : List (Nat × Value)} (hd : decode M.2.1 pc = .ok (.istore i, 2)) (hn : i < M.2.2.1) (hl : lv_pick ((i, Value.int x) :: lv.filter (fun q => !(q.1 == i) && !(q.1 + 1 == i && q.2.category == 2))) ks = lv') (k : zY G M K X (pc + 2) lv' st σ) : zY G M K X pc lv (.int x :: st) σ := fun ls H locs h hP hS => lv_istore E.1 E.2.1 hd h hn rfl (fun ls' h' => k ls' H locs (lv_sub h' ks hl) hP hS)
theorem z_lstore_n (E : zCtx G M K X) (ks : List Nat) {j : Fin 4} {i : Nat} {x : Int64} {lv' : List (Nat × Value)} (hd : decode M.2.1 pc = .ok (.lstore_n j, 1)) (hi : (j : Nat) = i) (hn : i + 1 < M.2.2.1) (hl : lv_pick ((i, Value.long x) :: lv.filter (fun q => !(q.1 == i) && (!(q.1 == i + 1) && !(q.1 + 1 == i && q.2.category == 2)))) ks = lv') (k : zY G M K X (pc + 1) lv' st σ) : zY G M K X pc lv (.long x :: st) σ := fun ls H locs h hP hS => lv_lstore_n E.1 E.2.1 hd hi h hn rfl (fun ls' h' => k ls' H locs (lv_sub h' ks hl) hP hS)
theorem z_lstore (E : zCtx G M K X) (ks : List Nat) {i : Nat} {x : Int64} {lv' : List (Nat × Value)} (hd : decode M.2.1 pc = .ok (.lstore i, 2)) (hn : i + 1 < M.2.2.1) (hl : lv_pick ((i, Value.long x) :: lv.filter (fun q => !(q.1 == i) && (!(q.1 == i + 1) && !(q.1 + 1 == i && q.2.category == 2)))) ks = lv') (k : zY G M K X (pc + 2) lv' st σ) : zY G M K X pc lv (.long x :: st) σ := fun ls H locs h hP hS => lv_lstore E.1 E.2.1 hd h hn rfl (fun ls' h' => k ls' H locs (lv_sub h' ks hl) hP hS)
theorem z_astore_n (E : zCtx G M K X) (ks : List Nat) {j : Fin 4} {i : Nat} {x : Nat} {lv' : List (Nat × Value)} (hd : decode M.2.1 pc = .ok (.astore_n j, 1)) (hi : (j : Nat) = i) (hn : i < M.2.2.1) (hl : lv_pick ((i, Value.ref x) :: lv.filter (fun q => !(q.1 == i) && !(q.1 + 1 == i && q.2.category == 2))) ks = lv') (k : zY G M K X (pc + 1) lv' st σ) : zY G M K X pc lv (.ref x :: st) σ := fun ls H locs h hP hS => lv_astore_n E.1 E.2.1 hd hi h hn rfl (fun ls' h' => k ls' H locs (lv_sub h' ks hl) hP hS)
theorem z_astore (E : zCtx G M K X) (ks : List Nat) {i : Nat} {x : Nat} {lv' : List (Nat × Value)} (hd : decode M.2.1 pc = .ok (.astore i, 2)) (hn : i < M.2.2.1) (hl : lv_pick ((i, Value.ref x) :: lv.filter (fun q => !(q.1 == i) && !(q.1 + 1 == i && q.2.category == 2))) ks = lv') (k : zY G M K X (pc + 2) lv' st σ) : zY G M K X pc lv (.ref x :: st) σ := fun ls H locs h hP hS => lv_astore E.1 E.2.1 hd h hn rfl (fun ls' h' => k ls' H locs (lv_sub h' ks hl) hP hS)
theorem z_iinc (E : zCtx G M K X) (q : Nat) (ks : List Nat) {i : Nat} {n : Int} {x v : Int32} {lv' : List (Nat × Value)} (hd : decode M.2.1 pc = .ok (.iinc i n, 3)) (hq : lv[q]? = some (i, .int x)) (hv : x + Int32.ofInt n = v) (hn : i < M.2.2.1) (hl : lv_pick ((i, Value.int v) :: lv.filter (fun q => !(q.1 == i) && !(q.1 + 1 == i && q.2.category == 2))) ks = lv') (k : zY G M K X (pc + 3) lv' st σ) : zY G M K X pc lv st σ := fun ls H locs h hP hS => lv_iinc E.1 E.2.1 hd h hq hv hn rfl (fun ls' h' => k ls' H locs (lv_sub h' ks hl) hP hS)
theorem z_iadd (E : zCtx G M K X) {x y : Int32} (hd : decode M.2.1 pc = .ok (.iadd, 1)) (k : zY G M K X (pc + 1) lv (.int (x + y) :: st) σ) : zY G M K X pc lv (.int y :: .int x :: st) σ := fun ls H locs h hP hS => lv_iadd E.1 E.2.1 hd (k ls H locs h hP hS)
theorem z_isub (E : zCtx G M K X) {x y : Int32} (hd : decode M.2.1 pc = .ok (.isub, 1)) (k : zY G M K X (pc + 1) lv (.int (x - y) :: st) σ) : zY G M K X pc lv (.int y :: .int x :: st) σ := fun ls H locs h hP hS => lv_isub E.1 E.2.1 hd (k ls H locs h hP hS)
theorem z_imul (E : zCtx G M K X) {x y : Int32} (hd : decode M.2.1 pc = .ok (.imul, 1)) (k : zY G M K X (pc + 1) lv (.int (x * y) :: st) σ) : zY G M K X pc lv (.int y :: .int x :: st) σ := fun ls H locs h hP hS => lv_imul E.1 E.2.1 hd (k ls H locs h hP hS)
theorem z_iand (E : zCtx G M K X) {x y : Int32} (hd : decode M.2.1 pc = .ok (.iand, 1)) (k : zY G M K X (pc + 1) lv (.int (x &&& y) :: st) σ) : zY G M K X pc lv (.int y :: .int x :: st) σ := fun ls H locs h hP hS => lv_iand E.1 E.2.1 hd (k ls H locs h hP hS)
theorem z_ior (E : zCtx G M K X) {x y : Int32} (hd : decode M.2.1 pc = .ok (.ior, 1)) (k : zY G M K X (pc + 1) lv (.int (x ||| y) :: st) σ) : zY G M K X pc lv (.int y :: .int x :: st) σ := fun ls H locs h hP hS => lv_ior E.1 E.2.1 hd (k ls H locs h hP hS)
theorem z_ixor (E : zCtx G M K X) {x y : Int32} (hd : decode M.2.1 pc = .ok (.ixor, 1)) (k : zY G M K X (pc + 1) lv (.int (x ^^^ y) :: st) σ) : zY G M K X pc lv (.int y :: .int x :: st) σ := fun ls H locs h hP hS => lv_ixor E.1 E.2.1 hd (k ls H locs h hP hS)
theorem z_ladd (E : zCtx G M K X) {x y : Int64} (hd : decode M.2.1 pc = .ok (.ladd, 1)) (k : zY G M K X (pc + 1) lv (.long (x + y) :: st) σ) : zY G M K X pc lv (.long y :: .long x :: st) σ := fun ls H locs h hP hS => lv_ladd E.1 E.2.1 hd (k ls H locs h hP hS)
theorem z_lmul (E : zCtx G M K X) {x y : Int64} (hd : decode M.2.1 pc = .ok (.lmul, 1)) (k : zY G M K X (pc + 1) lv (.long (x * y) :: st) σ) : zY G M K X pc lv (.long y :: .long x :: st) σ := fun ls H locs h hP hS => lv_lmul E.1 E.2.1 hd (k ls H locs h hP hS)
theorem z_land (E : zCtx G M K X) {x y : Int64} (hd : decode M.2.1 pc = .ok (.land, 1)) (k : zY G M K X (pc + 1) lv (.long (x &&& y) :: st) σ) : zY G M K X pc lv (.long y :: .long x :: st) σ := fun ls H locs h hP hS => lv_land E.1 E.2.1 hd (k ls H locs h hP hS)
theorem z_ishl (E : zCtx G M K X) {x y : Int32} (hd : decode M.2.1 pc = .ok (.ishl, 1)) (k : zY G M K X (pc + 1) lv (.int (x <<< (y &&& 31)) :: st) σ) : zY G M K X pc lv (.int y :: .int x :: st) σ := fun ls H locs h hP hS => lv_ishl E.1 E.2.1 hd (k ls H locs h hP hS)
theorem z_ishr (E : zCtx G M K X) {x y : Int32} (hd : decode M.2.1 pc = .ok (.ishr, 1)) (k : zY G M K X (pc + 1) lv (.int (x >>> (y &&& 31)) :: st) σ) : zY G M K X pc lv (.int y :: .int x :: st) σ := fun ls H locs h hP hS => lv_ishr E.1 E.2.1 hd (k ls H locs h hP hS)
theorem z_irem (E : zCtx G M K X) {x y : Int32} (hd : decode M.2.1 pc = .ok (.irem, 1)) (hne : ¬ y = 0) (k : zY G M K X (pc + 1) lv (.int (x - x / y * y) :: st) σ) : zY G M K X pc lv (.int y :: .int x :: st) σ := fun ls H locs h hP hS => lv_irem E.1 E.2.1 hd hne (k ls H locs h hP hS)
theorem z_lrem (E : zCtx G M K X) {x y : Int64} (hd : decode M.2.1 pc = .ok (.lrem, 1)) (hne : ¬ y = 0) (k : zY G M K X (pc + 1) lv (.long (x - x / y * y) :: st) σ) : zY G M K X pc lv (.long y :: .long x :: st) σ := fun ls H locs h hP hS => lv_lrem E.1 E.2.1 hd hne (k ls H locs h hP hS)
theorem z_iushr (E : zCtx G M K X) {x y v : Int32} (hd : decode M.2.1 pc = .ok (.iushr, 1)) (hv : (x.toUInt32 >>> (y.toUInt32 &&& Int32.toUInt32 31)).toInt32 = v) (k : zY G M K X (pc + 1) lv (.int v :: st) σ) : zY G M K X pc lv (.int y :: .int x :: st) σ := fun ls H locs h hP hS => lv_iushr E.1 E.2.1 hd hv (k ls H locs h hP hS)
theorem z_i2l (E : zCtx G M K X) {x : Int32} (hd : decode M.2.1 pc = .ok (.i2l, 1)) (k : zY G M K X (pc + 1) lv (.long x.toInt64 :: st) σ) : zY G M K X pc lv (.int x :: st) σ := fun ls H locs h hP hS => lv_i2l E.1 E.2.1 hd rfl (k ls H locs h hP hS)
theorem z_l2i (E : zCtx G M K X) {x : Int64} (hd : decode M.2.1 pc = .ok (.l2i, 1)) (k : zY G M K X (pc + 1) lv (.int x.toInt32 :: st) σ) : zY G M K X pc lv (.long x :: st) σ := fun ls H locs h hP hS => lv_l2i E.1 E.2.1 hd rfl (k ls H locs h hP hS)
theorem z_dup (E : zCtx G M K X) {va : Value} (hd : decode M.2.1 pc = .ok (.dup, 1)) (hva : va.category = 1) (k : zY G M K X (pc + 1) lv (va :: va :: st) σ) : zY G M K X pc lv (va :: st) σ := fun ls H locs h hP hS => lv_dup E.1 E.2.1 hd hva (k ls H locs h hP hS)
theorem z_pop (E : zCtx G M K X) {va : Value} (hd : decode M.2.1 pc = .ok (.pop, 1)) (hva : va.category = 1) (k : zY G M K X (pc + 1) lv st σ) : zY G M K X pc lv (va :: st) σ := fun ls H locs h hP hS => lv_pop E.1 E.2.1 hd hva (k ls H locs h hP hS)
theorem z_dup2 (E : zCtx G M K X) {va vb : Value} (hd : decode M.2.1 pc = .ok (.dup2, 1)) (hva : va.category = 1) (hvb : vb.category = 1) (k : zY G M K X (pc + 1) lv (va :: vb :: va :: vb :: st) σ) : zY G M K X pc lv (va :: vb :: st) σ := fun ls H locs h hP hS => lv_dup2_11 E.1 E.2.1 hd hva hvb (k ls H locs h hP hS)
theorem z_if_eq (E : zCtx G M K X) {x : Int32} {off : Int} {tgt : Nat} (hd : decode M.2.1 pc = .ok (.ifCond .eq off, 3)) (ht : (pc : Int) + off = (tgt : Int)) (k : (x = 0 → zY G M K X tgt lv st σ) ∧ (¬ x = 0 → zY G M K X (pc + 3) lv st σ)) : zY G M K X pc lv (.int x :: st) σ := fun ls H locs h hP hS => lv_if_eq E.1 E.2.1 hd ht (fun q => k.1 q ls H locs h hP hS) (fun q => k.2 q ls H locs h hP hS)
theorem z_if_ne (E : zCtx G M K X) {x : Int32} {off : Int} {tgt : Nat} (hd : decode M.2.1 pc = .ok (.ifCond .ne off, 3)) (ht : (pc : Int) + off = (tgt : Int)) (k : (¬ x = 0 → zY G M K X tgt lv st σ) ∧ (x = 0 → zY G M K X (pc + 3) lv st σ)) : zY G M K X pc lv (.int x :: st) σ := fun ls H locs h hP hS => lv_if_ne E.1 E.2.1 hd ht (fun q => k.1 q ls H locs h hP hS) (fun q => k.2 q ls H locs h hP hS)
theorem z_if_lt (E : zCtx G M K X) {x : Int32} {off : Int} {tgt : Nat} (hd : decode M.2.1 pc = .ok (.ifCond .lt off, 3)) (ht : (pc : Int) + off = (tgt : Int)) (k : (x < 0 → zY G M K X tgt lv st σ) ∧ (¬ x < 0 → zY G M K X (pc + 3) lv st σ)) : zY G M K X pc lv (.int x :: st) σ := fun ls H locs h hP hS => lv_if_lt E.1 E.2.1 hd ht (fun q => k.1 q ls H locs h hP hS) (fun q => k.2 q ls H locs h hP hS)
theorem z_if_ge (E : zCtx G M K X) {x : Int32} {off : Int} {tgt : Nat} (hd : decode M.2.1 pc = .ok (.ifCond .ge off, 3)) (ht : (pc : Int) + off = (tgt : Int)) (k : (0 ≤ x → zY G M K X tgt lv st σ) ∧ (¬ 0 ≤ x → zY G M K X (pc + 3) lv st σ)) : zY G M K X pc lv (.int x :: st) σ := fun ls H locs h hP hS => lv_if_ge E.1 E.2.1 hd ht (fun q => k.1 q ls H locs h hP hS) (fun q => k.2 q ls H locs h hP hS)
theorem z_if_gt (E : zCtx G M K X) {x : Int32} {off : Int} {tgt : Nat} (hd : decode M.2.1 pc = .ok (.ifCond .gt off, 3)) (ht : (pc : Int) + off = (tgt : Int)) (k : (0 < x → zY G M K X tgt lv st σ) ∧ (¬ 0 < x → zY G M K X (pc + 3) lv st σ)) : zY G M K X pc lv (.int x :: st) σ := fun ls H locs h hP hS => lv_if_gt E.1 E.2.1 hd ht (fun q => k.1 q ls H locs h hP hS) (fun q => k.2 q ls H locs h hP hS)
theorem z_if_le (E : zCtx G M K X) {x : Int32} {off : Int} {tgt : Nat} (hd : decode M.2.1 pc = .ok (.ifCond .le off, 3)) (ht : (pc : Int) + off = (tgt : Int)) (k : (x ≤ 0 → zY G M K X tgt lv st σ) ∧ (¬ x ≤ 0 → zY G M K X (pc + 3) lv st σ)) : zY G M K X pc lv (.int x :: st) σ := fun ls H locs h hP hS => lv_if_le E.1 E.2.1 hd ht (fun q => k.1 q ls H locs h hP hS) (fun q => k.2 q ls H locs h hP hS)
theorem z_icmp_eq (E : zCtx G M K X) {x y : Int32} {off : Int} {tgt : Nat} (hd : decode M.2.1 pc = .ok (.if_icmp .eq off, 3)) (ht : (pc : Int) + off = (tgt : Int)) (k : (x = y → zY G M K X tgt lv st σ) ∧ (¬ x = y → zY G M K X (pc + 3) lv st σ)) : zY G M K X pc lv (.int y :: .int x :: st) σ := fun ls H locs h hP hS => lv_icmp_eq E.1 E.2.1 hd ht (fun q => k.1 q ls H locs h hP hS) (fun q => k.2 q ls H locs h hP hS)
theorem z_icmp_ne (E : zCtx G M K X) {x y : Int32} {off : Int} {tgt : Nat} (hd : decode M.2.1 pc = .ok (.if_icmp .ne off, 3)) (ht : (pc : Int) + off = (tgt : Int)) (k : (¬ x = y → zY G M K X tgt lv st σ) ∧ (x = y → zY G M K X (pc + 3) lv st σ)) : zY G M K X pc lv (.int y :: .int x :: st) σ := fun ls H locs h hP hS => lv_icmp_ne E.1 E.2.1 hd ht (fun q => k.1 q ls H locs h hP hS) (fun q => k.2 q ls H locs h hP hS)
theorem z_icmp_lt (E : zCtx G M K X) {x y : Int32} {off : Int} {tgt : Nat} (hd : decode M.2.1 pc = .ok (.if_icmp .lt off, 3)) (ht : (pc : Int) + off = (tgt : Int)) (k : (x < y → zY G M K X tgt lv st σ) ∧ (¬ x < y → zY G M K X (pc + 3) lv st σ)) : zY G M K X pc lv (.int y :: .int x :: st) σ := fun ls H locs h hP hS => lv_icmp_lt E.1 E.2.1 hd ht (fun q => k.1 q ls H locs h hP hS) (fun q => k.2 q ls H locs h hP hS)
theorem z_icmp_ge (E : zCtx G M K X) {x y : Int32} {off : Int} {tgt : Nat} (hd : decode M.2.1 pc = .ok (.if_icmp .ge off, 3)) (ht : (pc : Int) + off = (tgt : Int)) (k : (y ≤ x → zY G M K X tgt lv st σ) ∧ (¬ y ≤ x → zY G M K X (pc + 3) lv st σ)) : zY G M K X pc lv (.int y :: .int x :: st) σ := fun ls H locs h hP hS => lv_icmp_ge E.1 E.2.1 hd ht (fun q => k.1 q ls H locs h hP hS) (fun q => k.2 q ls H locs h hP hS)
theorem z_icmp_gt (E : zCtx G M K X) {x y : Int32} {off : Int} {tgt : Nat} (hd : decode M.2.1 pc = .ok (.if_icmp .gt off, 3)) (ht : (pc : Int) + off = (tgt : Int)) (k : (y < x → zY G M K X tgt lv st σ) ∧ (¬ y < x → zY G M K X (pc + 3) lv st σ)) : zY G M K X pc lv (.int y :: .int x :: st) σ := fun ls H locs h hP hS => lv_icmp_gt E.1 E.2.1 hd ht (fun q => k.1 q ls H locs h hP hS) (fun q => k.2 q ls H locs h hP hS)
theorem z_icmp_le (E : zCtx G M K X) {x y : Int32} {off : Int} {tgt : Nat} (hd : decode M.2.1 pc = .ok (.if_icmp .le off, 3)) (ht : (pc : Int) + off = (tgt : Int)) (k : (x ≤ y → zY G M K X tgt lv st σ) ∧ (¬ x ≤ y → zY G M K X (pc + 3) lv st σ)) : zY G M K X pc lv (.int y :: .int x :: st) σ := fun ls H locs h hP hS => lv_icmp_le E.1 E.2.1 hd ht (fun q => k.1 q ls H locs h hP hS) (fun q => k.2 q ls H locs h hP hS)
theorem z_goto (E : zCtx G M K X) {off : Int} {tgt : Nat} (hd : decode M.2.1 pc = .ok (.goto off, 3)) (ht : (pc : Int) + off = (tgt : Int)) (k : zY G M K X tgt lv st σ) : zY G M K X pc lv st σ := fun ls H locs h hP hS => lv_goto E.1 E.2.1 hd ht (k ls H locs h hP hS)
def zb (b : Bool) : Int32 := if b then 1 else 0
theorem zb_0 {b : Bool} : zb b = 0 ↔ b = false := by cases b <;> simp [zb]
theorem zb_nar (b : Bool) : narrow .boolean (.int (zb b)) = .int (zb b) := by cases b <;> rfl
theorem z_ifz_eq (E : zCtx G M K X) {b : Bool} {off : Int} {tgt : Nat} (hd : decode M.2.1 pc = .ok (.ifCond .eq off, 3)) (ht : (pc : Int) + off = (tgt : Int)) (k : (b = false → zY G M K X tgt lv st σ) ∧ (b = true → zY G M K X (pc + 3) lv st σ)) : zY G M K X pc lv (.int (zb b) :: st) σ := z_if_eq E hd ht ⟨fun q => k.1 (zb_0.mp q), fun q => k.2 (by cases b with | false => exact absurd rfl q | true => rfl)⟩
theorem z_ifz_ne (E : zCtx G M K X) {b : Bool} {off : Int} {tgt : Nat} (hd : decode M.2.1 pc = .ok (.ifCond .ne off, 3)) (ht : (pc : Int) + off = (tgt : Int)) (k : (b = true → zY G M K X tgt lv st σ) ∧ (b = false → zY G M K X (pc + 3) lv st σ)) : zY G M K X pc lv (.int (zb b) :: st) σ := z_if_ne E hd ht ⟨fun q => k.1 (by cases b with | false => exact absurd rfl q | true => rfl), fun q => k.2 (zb_0.mp q)⟩
theorem z_table (E : zCtx G M K X) {dflt lo hi : Int} {offs : Array Int} {len : Nat} {x : Int32} {tO : Nat} {tgts : List Nat} (hd : decode M.2.1 pc = .ok (.tableswitch dflt lo hi offs, len)) (hts : offs.toList.map (fun o => (pc : Int) + o) = tgts.map (fun t : Nat => (t : Int))) (hO : (pc : Int) + dflt = (tO : Int)) (hhi : hi = lo + offs.toList.length - 1) (k : (∀ (j t : Nat), tgts[j]? = some t → x.toInt = lo + j → zY G M K X t lv st σ) ∧ ((x.toInt < lo ∨ hi < x.toInt) → zY G M K X tO lv st σ)) : zY G M K X pc lv (.int x :: st) σ := by
  intro ls H locs h hP hS
  by_cases h1 : x.toInt < lo
  · exact lv_tableOut E.1 E.2.1 hd (Or.inl h1) hO (k.2 (Or.inl h1) ls H locs h hP hS)
  · by_cases h2 : hi < x.toInt
    · exact lv_tableOut E.1 E.2.1 hd (Or.inr h2) hO (k.2 (Or.inr h2) ls H locs h hP hS)
    · have hj : (x.toInt - lo).toNat < offs.toList.length := by omega
      have e1 : (offs.toList.map (fun o => (pc : Int) + o))[(x.toInt - lo).toNat]? = some ((pc : Int) + offs.toList[(x.toInt - lo).toNat]) := by
        rw [List.getElem?_map, List.getElem?_eq_getElem hj]; rfl
      rw [hts, List.getElem?_map] at e1
      cases ht : tgts[(x.toInt - lo).toNat]? with
      | none => rw [ht] at e1; cases e1
      | some t =>
        rw [ht] at e1
        have e2 : ((t : Nat) : Int) = (pc : Int) + offs.toList[(x.toInt - lo).toNat] := Option.some.inj e1
        refine lv_tableIn E.1 E.2.1 hd h1 h2 (off := offs.toList[(x.toInt - lo).toNat]) ?_ e2.symm (k.1 _ t ht (by omega) ls H locs h hP hS)
        rw [← Array.getElem?_toList]
        exact List.getElem?_eq_getElem hj
theorem z_tcons {P : Nat → Nat → Prop} {t : Nat} {l : List Nat} (h : P 0 t) (hl : ∀ (j u : Nat), l[j]? = some u → P (j + 1) u) : ∀ (j u : Nat), (t :: l)[j]? = some u → P j u := by
  intro j u hj
  cases j with
  | zero => cases hj; exact h
  | succ n => exact hl n u hj
theorem z_tnil {P : Nat → Nat → Prop} : ∀ (j u : Nat), ([] : List Nat)[j]? = some u → P j u := by
  intro j u hj
  cases hj
/-- the field of the pool's place 'index' in class own is slot j of the cell c: an int (none) or a reference to the cell r (some r) -/
def zFld (own : String) (index c j : Nat) (o : Option Nat) : Prop := ∃ (ci : Nat) (fs : List (Option Nat)) (C : String) (T : u_T) (N : Nat), zS[c]? = some (.inr (ci, fs)) ∧ zCl[ci]? = some (C, T, N) ∧ (∀ w ∈ u_ws C T N, w ∈ zTbl) ∧ fs[j]? = some o ∧ j < N ∧ (Cond.fieldLink own index (T j).1 (T j).2.1 (T j).2.2.1 ∈ zTbl ∨ ∃ host, Cond.fieldLinkNest own index (T j).1 (T j).2.1 (T j).2.2.1 host ∈ lw_tbl)
/-- .. and it may be written, with values of the type ty -/
def zFldW (own : String) (index c j : Nat) (ty : FieldType) : Prop := ∃ (ci : Nat) (fs : List (Option Nat)) (C : String) (T : u_T) (N : Nat) (ty0 : Nat → FieldType), zS[c]? = some (.inr (ci, fs)) ∧ zCl[ci]? = some (C, T, N) ∧ (∀ w ∈ u_ws C T N, w ∈ zTbl) ∧ fs[j]? = some none ∧ j < N ∧ (Cond.fieldLink own index (T j).1 (T j).2.1 (T j).2.2.1 ∈ zTbl ∨ ∃ host, Cond.fieldLinkNest own index (T j).1 (T j).2.1 (T j).2.2.1 host ∈ lw_tbl) ∧ (∀ k, k < N → parseFieldDescriptor (T k).2.2.1 = some (ty0 k)) ∧ (∀ a, a < N → ∀ b, b < N → a ≠ b → (T a).2.1 ≠ (T b).2.1) ∧ (T j).2.2.2 = false ∧ parseFieldDescriptor (T j).2.2.1 = some ty
theorem z_getI (E : zCtx G M K X) {index c j : Nat} (hf : zFld M.1.cls index c j none) (hd : decode M.2.1 pc = .ok (.getfield index, 3)) (k : zY G M K X (pc + 3) lv (.int (σ c j) :: st) σ) : zY G M K X pc lv (zf G c :: st) σ := by
  obtain ⟨ci, fs, C, T, N, h1, h2, h3, h4, h5, h6⟩ := hf
  intro ls H locs h hP hS
  have he := zW_at (cA := zcA G) (ad := zad G) (σ := σ) h1
  have hv : (fs.mapIdx (fun j o => zVal (zad G) σ c j o))[j]? = some (.int (σ c j)) := by
    rw [List.getElem?_mapIdx, h4]; rfl
  rcases h6 with h6 | ⟨host, h6⟩
  · exact va_get (D := zD G) (cl := zCl) E.1 E.2.1 E.2.2.2.2.2.1 h3 E.2.2.2.2.1 E.2.2.2.2.2.2.1 hP c he h2 j h5 (E.2.2.2.2.2.1 _ h6) (fun _ q => q) hv hd (k ls H locs h hP hS)
  · exact va_getN (D := zD G) (cl := zCl) E.1 E.2.1 E.2.2.2.2.2.1 h3 E.2.2.2.2.1 E.2.2.2.2.2.2.1 hP c he h2 j h5 (va_Nw.use rfl (E.2.2.2.2.2.2.2.1 _ h6 rfl)) (fun _ q => q) hv hd (k ls H locs h hP hS)
theorem z_getR (E : zCtx G M K X) {index c j r : Nat} (hf : zFld M.1.cls index c j (some r)) (hd : decode M.2.1 pc = .ok (.getfield index, 3)) (k : zY G M K X (pc + 3) lv (zf G r :: st) σ) : zY G M K X pc lv (zf G c :: st) σ := by
  obtain ⟨ci, fs, C, T, N, h1, h2, h3, h4, h5, h6⟩ := hf
  intro ls H locs h hP hS
  have he := zW_at (cA := zcA G) (ad := zad G) (σ := σ) h1
  have hv : (fs.mapIdx (fun j o => zVal (zad G) σ c j o))[j]? = some (zf G r) := by
    rw [List.getElem?_mapIdx, h4]; rfl
  rcases h6 with h6 | ⟨host, h6⟩
  · exact va_get (D := zD G) (cl := zCl) E.1 E.2.1 E.2.2.2.2.2.1 h3 E.2.2.2.2.1 E.2.2.2.2.2.2.1 hP c he h2 j h5 (E.2.2.2.2.2.1 _ h6) (fun _ q => q) hv hd (k ls H locs h hP hS)
  · exact va_getN (D := zD G) (cl := zCl) E.1 E.2.1 E.2.2.2.2.2.1 h3 E.2.2.2.2.1 E.2.2.2.2.2.2.1 hP c he h2 j h5 (va_Nw.use rfl (E.2.2.2.2.2.2.2.1 _ h6 rfl)) (fun _ q => q) hv hd (k ls H locs h hP hS)
theorem z_put (E : zCtx G M K X) {index c j : Nat} {ty : FieldType} {v : Int32} (hf : zFldW M.1.cls index c j ty) (hn : narrow ty (.int v) = .int v) (hfit : fits ty (.int v) = true) (hd : decode M.2.1 pc = .ok (.putfield index, 3)) (k : ∀ τ : zSt, τ = zup σ c j v → zY G M K X (pc + 3) lv st τ) : zY G M K X pc lv (.int v :: zf G c :: st) σ := by
  obtain ⟨ci, fs, C, T, N, ty0, h1, h2, h3, h4, h5, h6, h7, h8, h9, h10⟩ := hf
  intro ls H locs h hP hS
  have he := zW_at (cA := zcA G) (ad := zad G) (σ := σ) h1
  have hl : j < (fs.mapIdx (fun j o => zVal (zad G) σ c j o)).length := by
    rw [List.length_mapIdx]; exact (List.getElem?_eq_some_iff.mp h4).1
  have hset : (zW (zcA G) (zad G) σ).set c (zad G c, .inr (ci, (fs.mapIdx (fun j o => zVal (zad G) σ c j o)).set j (.int v))) = zW (zcA G) (zad G) (zup σ c j v) := by
    rw [zE_put (cA := zcA G) h4]
    exact zW_set h1 (fun k hk => (zup_ne hk).symm)
  have kk : ∀ (H1 : Heap) (locs1 : List Loc), va_P (zD G) zCl ((zW (zcA G) (zad G) σ).set c (zad G c, .inr (ci, (fs.mapIdx (fun j o => zVal (zad G) σ c j o)).set j (.int v)))) H1 → va_D K.2.1 ((zW (zcA G) (zad G) σ).set c (zad G c, .inr (ci, (fs.mapIdx (fun j o => zVal (zad G) σ c j o)).set j (.int v)))) → va_S K.2.1 (zs X).heap H1 locs1 → W (zp X) (zl G) (ze X) K.1 (zs X) (zm X) (za X) (zbl X) (zmt X) (zc X) H1 locs1 K.2.2.1 K.2.2.2.1 K.2.2.2.2 (F0 (zm X) (pc + 3) ls st) := by
    intro H1 locs1 q1 _ q3
    rw [hset] at q1
    exact k _ rfl ls H1 locs1 h q1 q3
  rcases h6 with h6 | ⟨host, h6⟩
  · exact va_put (D := zD G) (cl := zCl) E.1 E.2.1 E.2.2.2.2.2.1 h3 ty0 h7 h8 E.2.2.2.2.1 E.2.2.2.2.2.2.1 hP (zD_of E.2.2.2.2.2.2.2.2.1 E.2.2.2.2.2.2.2.2.2.2.1 σ) hS c he h2 j h5 (E.2.2.2.2.2.1 _ h6) (fun _ q => q) h9 h10 hn hfit hl hd kk
  · exact va_putN (D := zD G) (cl := zCl) E.1 E.2.1 E.2.2.2.2.2.1 h3 ty0 h7 h8 E.2.2.2.2.1 E.2.2.2.2.2.2.1 hP (zD_of E.2.2.2.2.2.2.2.2.1 E.2.2.2.2.2.2.2.2.2.2.1 σ) hS c he h2 j h5 (va_Nw.use rfl (E.2.2.2.2.2.2.2.1 _ h6 rfl)) (fun _ q => q) h9 h10 hn hfit hl hd kk
theorem z_putI (E : zCtx G M K X) {index c j : Nat} {v : Int32} (hf : zFldW M.1.cls index c j .int) (hd : decode M.2.1 pc = .ok (.putfield index, 3)) (k : ∀ τ : zSt, τ = zup σ c j v → zY G M K X (pc + 3) lv st τ) : zY G M K X pc lv (.int v :: zf G c :: st) σ := z_put E hf rfl rfl hd k
theorem z_putZ (E : zCtx G M K X) {index c j : Nat} {v : Int32} (hf : zFldW M.1.cls index c j .boolean) (hn : narrow .boolean (.int v) = .int v ∧ fits .boolean (.int v) = true) (hd : decode M.2.1 pc = .ok (.putfield index, 3)) (k : ∀ τ : zSt, τ = zup σ c j v → zY G M K X (pc + 3) lv st τ) : zY G M K X pc lv (.int v :: zf G c :: st) σ := z_put E hf hn.1 hn.2 hd k
theorem z_iald (E : zCtx G M K X) {c n : Nat} {i : Int32} (hc : zS[c]? = some (.inl (.int, n))) (hd : decode M.2.1 pc = .ok (.iaload, 1)) (k : vp_in i n ∧ zY G M K X (pc + 1) lv (.int (σ c i.toNatClampNeg) :: st) σ) : zY G M K X pc lv (.int i :: zf G c :: st) σ := fun ls H locs h hP hS => va_iald (D := zD G) (cl := zCl) E.1 E.2.1 E.2.2.2.2.2.2.1 hP c 0 (zW_at hc) rfl k.1 hd (k.2 ls H locs h hP hS)
theorem z_zald (E : zCtx G M K X) {c n : Nat} {i : Int32} (hc : zS[c]? = some (.inl (.boolean, n))) (hd : decode M.2.1 pc = .ok (.baload, 1)) (k : vp_in i n ∧ zY G M K X (pc + 1) lv (.int (σ c i.toNatClampNeg) :: st) σ) : zY G M K X pc lv (.int i :: zf G c :: st) σ := fun ls H locs h hP hS => va_zald (D := zD G) (cl := zCl) E.1 E.2.1 E.2.2.2.2.2.2.1 hP c 1 (zW_at hc) rfl k.1 hd (k.2 ls H locs h hP hS)
theorem z_iast (E : zCtx G M K X) {c n : Nat} {i x : Int32} (hc : zS[c]? = some (.inl (.int, n))) (hd : decode M.2.1 pc = .ok (.iastore, 1)) (k : vp_in i n ∧ ∀ τ : zSt, τ = zup σ c i.toNatClampNeg x → zY G M K X (pc + 1) lv st τ) : zY G M K X pc lv (.int x :: .int i :: zf G c :: st) σ := by
  intro ls H locs h hP hS
  refine va_iast (D := zD G) (cl := zCl) E.1 E.2.1 E.2.2.2.2.2.2.1 hP (zD_of E.2.2.2.2.2.2.2.2.1 E.2.2.2.2.2.2.2.2.2.2.1 σ) hS c 0 (zW_at hc) rfl k.1 hd (fun H1 locs1 q1 _ q3 => ?_)
  refine k.2 _ rfl ls H1 locs1 h ?_ q3
  rw [zE_sto (cA := zcA G) (ad := zad G), zW_set hc (fun k hk => (zup_ne hk).symm)] at q1
  exact q1
theorem z_zast (E : zCtx G M K X) {c n : Nat} {i x y : Int32} (hc : zS[c]? = some (.inl (.boolean, n))) (hd : decode M.2.1 pc = .ok (.bastore, 1)) (hy : vp_nar .boolean x = y) (k : vp_in i n ∧ ∀ τ : zSt, τ = zup σ c i.toNatClampNeg y → zY G M K X (pc + 1) lv st τ) : zY G M K X pc lv (.int x :: .int i :: zf G c :: st) σ := by
  subst hy
  intro ls H locs h hP hS
  refine va_zast (D := zD G) (cl := zCl) E.1 E.2.1 E.2.2.2.2.2.2.1 hP (zD_of E.2.2.2.2.2.2.2.2.1 E.2.2.2.2.2.2.2.2.2.2.1 σ) hS c 1 (zW_at hc) rfl k.1 hd (fun H1 locs1 q1 _ q3 => ?_)
  refine k.2 _ rfl ls H1 locs1 h ?_ q3
  rw [zE_sto (cA := zcA G) (ad := zad G), zW_set hc (fun k hk => (zup_ne hk).symm)] at q1
  exact q1
theorem z_alen (E : zCtx G M K X) {c n : Nat} {v : Int32} (hc : zS[c]? = some (.inl (.int, n))) (hv : Int32.ofNat n = v) (hd : decode M.2.1 pc = .ok (.arraylength, 1)) (k : zY G M K X (pc + 1) lv (.int v :: st) σ) : zY G M K X pc lv (zf G c :: st) σ := fun ls H locs h hP hS => va_alen (D := zD G) (cl := zCl) E.1 E.2.1 E.2.2.2.2.2.2.1 hP c 0 (zW_at hc) rfl hv hd (k ls H locs h hP hS)
theorem z_ireturn (E : zCtx G M (zKm G d X post) X) {v : Int32} (hr : M.2.2.2 = some .int) (hd : decode M.2.1 pc = .ok (.ireturn, 1)) (k : post (some (.int v)) σ) : zZ G M d X post pc lv [.int v] σ := fun ls H locs h hP hS => W.iret (v := v) E.1 E.2.1 (E.2.2.2.1.trans hr) (fun t ht _ => ⟨⟨_, σ, rfl, k, by rw [ht]; exact hP⟩, hS.F ht⟩) hS.2.2 hd E.2.2.2.2.2.2.2.2.2.1
theorem z_zreturn (E : zCtx G M (zKm G d X post) X) {v : Int32} (hr : M.2.2.2 = some .boolean) (hn : narrow .boolean (.int v) = .int v) (hd : decode M.2.1 pc = .ok (.ireturn, 1)) (k : post (some (.int v)) σ) : zZ G M d X post pc lv [.int v] σ := fun ls H locs h hP hS => W.zret (v := v) E.1 E.2.1 (E.2.2.2.1.trans hr) hn (fun t ht _ => ⟨⟨_, σ, rfl, k, by rw [ht]; exact hP⟩, hS.F ht⟩) hS.2.2 hd E.2.2.2.2.2.2.2.2.2.1
theorem z_return (E : zCtx G M (zKm G d X post) X) (hr : M.2.2.2 = none) (hd : decode M.2.1 pc = .ok (.return_, 1)) (k : post none σ) : zZ G M d X post pc lv [] σ := fun ls H locs h hP hS => W.vret E.1 E.2.1 (E.2.2.2.1.trans hr) (fun t ht _ => ⟨⟨_, σ, rfl, k, by rw [ht]; exact hP⟩, hS.F ht⟩) hS.2.2 hd E.2.2.2.2.2.2.2.2.2.1
/-- the method of the pool's place 'index' in class own is M', of n parameters; its words -/
def zCal (own : String) (index : Nat) (M' : zM) (n : Nat) : Prop := (Cond.methodLink own index M'.1 ∈ zTbl ∨ ∃ host, Cond.methodLinkNest own index M'.1 host ∈ lw_tbl) ∧ Cond.code M'.1 M'.2.1 M'.2.2.1 M'.2.2.2 ∈ zTbl ∧ Cond.initialized M'.1.cls ∈ zTbl ∧ (M'.1.cls ≠ "java/lang/invoke/MethodHandle" ∧ M'.1.cls ≠ "java/lang/invoke/VarHandle" ∧ (parseMethodDescriptor M'.1.desc).map (fun d => d.parameters.length) = some n) ∧ M'.2.2.1 ≤ 29
/-- behind a call -/
theorem z_back {as rest : List Value} {P : Option Value → zSt → Prop} {ls : Array Slot} {H : Heap} {locs : List Loc} (E : zCtx G M K X) (h : lv_has ls M.2.2.1 lv) (hS : va_S K.2.1 (zs X).heap H locs)
    (hr : va_Run (zp X) (zl G) (ze X) K.1 (zs X) (zm X) (za X) (zbl X) (zmt X) (zc X) H locs K.2.2.1 K.2.2.2.1 0 0 (F0 (zm X) pc ls st) rest (zQc G H.size P as.toArray) (zA G H.size))
    (k : ∀ r τ, P r τ → zY G M K X (pc + 3) lv (r.toList ++ rest) τ) : W (zp X) (zl G) (ze X) K.1 (zs X) (zm X) (za X) (zbl X) (zmt X) (zc X) H locs K.2.2.1 K.2.2.2.1 K.2.2.2.2 (F0 (zm X) pc ls st) := by
  intro T hT X0
  obtain ⟨v, st₀, t, T', L, h0, X', hL, e1, e2, ⟨⟨r, τ, hv, hp, hb⟩, hz, hk⟩, stp⟩ := hr T hT X0
  cases hv
  rw [h0] at hz hk
  have hA : ∀ q, zA G H.size q → K.2.1 q := by
    intro q hq
    rcases hq with ⟨k, h1, h2⟩ | hq
    · rw [h2]; exact E.2.2.2.2.2.2.2.2.2.2.1 k h1
    · exact E.2.2.2.2.2.2.2.2.2.2.2 q (Nat.le_trans hS.1 hq)
  have hS' : va_S K.2.1 (zs X).heap T'.heap (locs ++ L) := by
    refine ⟨Nat.le_trans hS.1 (by rw [e1]; exact hz), fun q h1 h2 => ?_, fun q hq => ?_⟩
    · rw [e1, hk q (Nat.lt_of_lt_of_le h1 hS.1) (fun z => h2 (hA q z))]
      exact hS.2.1 q h1 h2
    · rcases List.mem_append.mp hq with h | h
      · exact hS.2.2 q h
      · exact hA _ (hL q h)
  obtain ⟨t2, a1, b1⟩ := k v τ hp ls T'.heap (locs ++ L) h (by rw [e1]; exact hb) hS' T' rfl X'
  exact ⟨t2, stp t2 a1, b1⟩
theorem z_preS {as : List Value} {H : Heap} (E : zCtx G M K X) (hP : zWd G σ H) : PreS (zs X) H (va_Pc as (zPre G σ H.size)) as :=
  ⟨zBlind G as σ H.size, fun U hU hW => ⟨rfl, by rw [hU], by rw [hU]; exact hP, va_K.moved hW.alike E.2.2.2.2.2.2.1, (E.2.2.2.2.2.2.2.1).warm hW, E.2.2.2.2.2.2.2.2.1⟩⟩
theorem z_callS {M' : zM} {d' n index : Nat} (as rest : List Value) {P : Option Value → zSt → Prop} (E : zCtx G M K X) (hM : zSpec G d' M' as σ P) (hc : zCal M.1.cls index M' n) (hst : Cond.static M'.1 ∈ zTbl) (hn : as.length = n) (hdd : d' + 1 ≤ K.1.frames ∧ 48 * (d' + 1) ≤ K.1.locals ∧ K.2.2.1 ≤ K.1.cells ∧ K.2.2.2.1 ≤ K.1.slots) (hs : st = as.reverse ++ rest) (hrm : (rest.map fun v => v.category).sum ≤ 8) (hd : decode M.2.1 pc = .ok (.invokestatic index, 3))
    (k : ∀ r τ, P r τ → zY G M K X (pc + 3) lv (r.toList ++ rest) τ) : zY G M K X pc lv st σ := by
  intro ls H locs h hP hS
  obtain ⟨hl, hcode, hini, hy, hml⟩ := hc
  have hts := E.2.2.2.2.2.1
  have hR : (zRoom d').frames + 1 ≤ K.1.frames ∧ 8 + (M'.2.2.1 + 11) + (zRoom d').locals ≤ K.1.locals := ⟨hdd.1, by have := hdd.2.1; show 8 + (M'.2.2.1 + 11) + 48 * d' ≤ _; omega⟩
  rcases hl with hl | ⟨host, hl⟩
  · exact z_back (as := as) E h hS (va_runS (g := F0 (zm X) pc ls st) ⟨E.1, E.2.1, E.2.2.1, E.2.2.2.2.1, hts⟩ (hM H.size) ⟨callB_of n hts (zGood hcode) rfl rfl rfl (hts _ hini) (hts _ hl) hy hR, hts _ hst⟩ (z_preS E hP) rfl hn h.1 hs (lv_room hrm) hd ⟨hdd.2.2.1, hdd.2.2.2⟩) k
  · exact z_back (as := as) E h hS (va_runSN (g := F0 (zm X) pc ls st) ⟨E.1, E.2.1, E.2.2.1, E.2.2.2.2.1, hts⟩ (hM H.size) ⟨va_cnB n hts (zGood hcode) rfl rfl rfl (E.2.2.2.2.2.2.2.1 _ hl rfl) (hts _ hini) hy hR, hts _ hst, trivial⟩ (z_preS E hP) rfl hn h.1 hs (lv_room hrm) hd ⟨hdd.2.2.1, hdd.2.2.2⟩) k
/-- the cell c is an object of M''s class, and M' is chosen for it -/
def zRcv (M' : zM) (c : Nat) : Prop := (∃ (ci : Nat) (fs : List (Option Nat)) (T : u_T) (N : Nat), zS[c]? = some (.inr (ci, fs)) ∧ zCl[ci]? = some (M'.1.cls, T, N)) ∧ Cond.instanceMethod M'.1 ∈ zTbl ∧ Cond.selects M'.1.cls M'.1 M'.1 ∈ zTbl
theorem z_callV {M' : zM} {d' n index c : Nat} (as rest : List Value) {P : Option Value → zSt → Prop} (E : zCtx G M K X) (hM : zSpec G d' M' (zf G c :: as) σ P) (hc : zCal M.1.cls index M' n) (hrc : zRcv M' c) (hn : as.length = n) (hdd : d' + 1 ≤ K.1.frames ∧ 48 * (d' + 1) ≤ K.1.locals ∧ K.2.2.1 ≤ K.1.cells ∧ K.2.2.2.1 ≤ K.1.slots) (hs : st = as.reverse ++ zf G c :: rest) (hrm : (rest.map fun v => v.category).sum ≤ 8) (hd : decode M.2.1 pc = .ok (.invokevirtual index, 3))
    (k : ∀ r τ, P r τ → zY G M K X (pc + 3) lv (r.toList ++ rest) τ) : zY G M K X pc lv st σ := by
  intro ls H locs h hP hS
  obtain ⟨hl, hcode, hini, hy, hml⟩ := hc
  obtain ⟨⟨ci, fs, T, N, h1, h2⟩, hin, hsel⟩ := hrc
  have hts := E.2.2.2.2.2.1
  have hR : (zRoom d').frames + 1 ≤ K.1.frames ∧ 8 + (M'.2.2.1 + 11) + (zRoom d').locals ≤ K.1.locals := ⟨hdd.1, by have := hdd.2.1; show 8 + (M'.2.2.1 + 11) + 48 * d' ≤ _; omega⟩
  have hpre : PreV (zs X) H M'.1.cls (zad G c) (va_Pc (zf G c :: as) (zPre G σ H.size)) as := by
    refine ⟨zBlind G _ σ H.size, ?_, (z_preS (as := zf G c :: as) E hP).2⟩
    obtain ⟨r, g1, cell, q1, q2, q3, q4⟩ := hP c _ (zW_at h1)
    have hr : r = (M'.1.cls, T, N) := Option.some.inj (g1.symm.trans h2)
    subst hr
    obtain ⟨-, hfc, -⟩ := E.2.2.2.2.2.2.1.1 ci _ h2
    exact ⟨cell, q1, by rw [q3]; rfl, by rw [hfc, q2]⟩
  rcases hl with hl | ⟨host, hl⟩
  · exact z_back (as := zf G c :: as) E h hS (va_runV (g := F0 (zm X) pc ls st) ⟨E.1, E.2.1, E.2.2.1, E.2.2.2.2.1, hts⟩ (hM H.size) ⟨callB_of n hts (zGood hcode) rfl rfl rfl (hts _ hini) (hts _ hl) hy hR, hts _ hin, hts _ hsel⟩ hpre rfl hn h.1 hs (lv_room hrm) hd ⟨hdd.2.2.1, hdd.2.2.2⟩) k
  · exact z_back (as := zf G c :: as) E h hS (va_runVN (g := F0 (zm X) pc ls st) ⟨E.1, E.2.1, E.2.2.1, E.2.2.2.2.1, hts⟩ (hM H.size) ⟨va_cnB n hts (zGood hcode) rfl rfl rfl (E.2.2.2.2.2.2.2.1 _ hl rfl) (hts _ hini) hy hR, hts _ hin, hts _ hsel⟩ hpre rfl hn h.1 hs (lv_room hrm) hd ⟨hdd.2.2.1, hdd.2.2.2⟩) k
def zI (G : zG) (d : Nat) (M : zM) (as : List Value) (σ : zSt) (P : Int32 → zSt → Prop) : Prop := zSpec G d M as σ (fun r τ => ∃ x : Int32, r = some (.int x) ∧ P x τ)
def zB (G : zG) (d : Nat) (M : zM) (as : List Value) (σ : zSt) (P : Bool → zSt → Prop) : Prop := zSpec G d M as σ (fun r τ => ∃ b : Bool, r = some (.int (zb b)) ∧ P b τ)
def zV (G : zG) (d : Nat) (M : zM) (as : List Value) (σ : zSt) (P : zSt → Prop) : Prop := zSpec G d M as σ (fun r τ => r = none ∧ P τ)
theorem zI.mono {as : List Value} {P Q : Int32 → zSt → Prop} (h : zI G d M as σ P) (hp : ∀ x τ, P x τ → Q x τ) : zI G d M as σ Q := zSpec.mono h (fun _ τ ⟨x, e, p⟩ => ⟨x, e, hp x τ p⟩)
theorem zB.mono {as : List Value} {P Q : Bool → zSt → Prop} (h : zB G d M as σ P) (hp : ∀ x τ, P x τ → Q x τ) : zB G d M as σ Q := zSpec.mono h (fun _ τ ⟨x, e, p⟩ => ⟨x, e, hp x τ p⟩)
theorem zV.mono {as : List Value} {P Q : zSt → Prop} (h : zV G d M as σ P) (hp : ∀ τ, P τ → Q τ) : zV G d M as σ Q := zSpec.mono h (fun _ τ ⟨e, p⟩ => ⟨e, hp τ p⟩)
theorem z_callSI {M' : zM} {d' n index : Nat} (as rest : List Value) {P : Int32 → zSt → Prop} (E : zCtx G M K X) (hM : zI G d' M' as σ P) (hc : zCal M.1.cls index M' n) (hst : Cond.static M'.1 ∈ zTbl) (hn : as.length = n) (hdd : d' + 1 ≤ K.1.frames ∧ 48 * (d' + 1) ≤ K.1.locals ∧ K.2.2.1 ≤ K.1.cells ∧ K.2.2.2.1 ≤ K.1.slots) (hs : st = as.reverse ++ rest) (hrm : (rest.map fun v => v.category).sum ≤ 8) (hd : decode M.2.1 pc = .ok (.invokestatic index, 3)) (k : ∀ (x : Int32) (τ : zSt), P x τ → zY G M K X (pc + 3) lv (.int x :: rest) τ) : zY G M K X pc lv st σ := z_callS as rest E hM hc hst hn hdd hs hrm hd (fun r τ ⟨x, e, p⟩ => by subst e; exact k x τ p)
theorem z_callSB {M' : zM} {d' n index : Nat} (as rest : List Value) {P : Bool → zSt → Prop} (E : zCtx G M K X) (hM : zB G d' M' as σ P) (hc : zCal M.1.cls index M' n) (hst : Cond.static M'.1 ∈ zTbl) (hn : as.length = n) (hdd : d' + 1 ≤ K.1.frames ∧ 48 * (d' + 1) ≤ K.1.locals ∧ K.2.2.1 ≤ K.1.cells ∧ K.2.2.2.1 ≤ K.1.slots) (hs : st = as.reverse ++ rest) (hrm : (rest.map fun v => v.category).sum ≤ 8) (hd : decode M.2.1 pc = .ok (.invokestatic index, 3)) (k : ∀ (x : Bool) (τ : zSt), P x τ → zY G M K X (pc + 3) lv (.int (zb x) :: rest) τ) : zY G M K X pc lv st σ := z_callS as rest E hM hc hst hn hdd hs hrm hd (fun r τ ⟨x, e, p⟩ => by subst e; exact k x τ p)
theorem z_callSV {M' : zM} {d' n index : Nat} (as rest : List Value) {P : zSt → Prop} (E : zCtx G M K X) (hM : zV G d' M' as σ P) (hc : zCal M.1.cls index M' n) (hst : Cond.static M'.1 ∈ zTbl) (hn : as.length = n) (hdd : d' + 1 ≤ K.1.frames ∧ 48 * (d' + 1) ≤ K.1.locals ∧ K.2.2.1 ≤ K.1.cells ∧ K.2.2.2.1 ≤ K.1.slots) (hs : st = as.reverse ++ rest) (hrm : (rest.map fun v => v.category).sum ≤ 8) (hd : decode M.2.1 pc = .ok (.invokestatic index, 3)) (k : ∀ τ : zSt, P τ → zY G M K X (pc + 3) lv rest τ) : zY G M K X pc lv st σ := z_callS as rest E hM hc hst hn hdd hs hrm hd (fun r τ ⟨e, p⟩ => by subst e; exact k τ p)
theorem z_callSIp {M' : zM} {d' n index : Nat} (as rest : List Value) {v : Int32} (E : zCtx G M K X) (hM : zI G d' M' as σ (fun x τ => x = v ∧ τ = σ)) (hc : zCal M.1.cls index M' n) (hst : Cond.static M'.1 ∈ zTbl) (hn : as.length = n) (hdd : d' + 1 ≤ K.1.frames ∧ 48 * (d' + 1) ≤ K.1.locals ∧ K.2.2.1 ≤ K.1.cells ∧ K.2.2.2.1 ≤ K.1.slots) (hs : st = as.reverse ++ rest) (hrm : (rest.map fun v => v.category).sum ≤ 8) (hd : decode M.2.1 pc = .ok (.invokestatic index, 3)) (k : zY G M K X (pc + 3) lv (.int v :: rest) σ) : zY G M K X pc lv st σ := z_callSI as rest E hM hc hst hn hdd hs hrm hd (fun x τ ⟨e1, e2⟩ => by subst e1; subst e2; exact k)
theorem z_callSBp {M' : zM} {d' n index : Nat} (as rest : List Value) {v : Bool} (E : zCtx G M K X) (hM : zB G d' M' as σ (fun x τ => x = v ∧ τ = σ)) (hc : zCal M.1.cls index M' n) (hst : Cond.static M'.1 ∈ zTbl) (hn : as.length = n) (hdd : d' + 1 ≤ K.1.frames ∧ 48 * (d' + 1) ≤ K.1.locals ∧ K.2.2.1 ≤ K.1.cells ∧ K.2.2.2.1 ≤ K.1.slots) (hs : st = as.reverse ++ rest) (hrm : (rest.map fun v => v.category).sum ≤ 8) (hd : decode M.2.1 pc = .ok (.invokestatic index, 3)) (k : zY G M K X (pc + 3) lv (.int (zb v) :: rest) σ) : zY G M K X pc lv st σ := z_callSB as rest E hM hc hst hn hdd hs hrm hd (fun x τ ⟨e1, e2⟩ => by subst e1; subst e2; exact k)
theorem z_callVI {M' : zM} {d' n index c : Nat} (as rest : List Value) {P : Int32 → zSt → Prop} (E : zCtx G M K X) (hM : zI G d' M' (zf G c :: as) σ P) (hc : zCal M.1.cls index M' n) (hst : zRcv M' c) (hn : as.length = n) (hdd : d' + 1 ≤ K.1.frames ∧ 48 * (d' + 1) ≤ K.1.locals ∧ K.2.2.1 ≤ K.1.cells ∧ K.2.2.2.1 ≤ K.1.slots) (hs : st = as.reverse ++ zf G c :: rest) (hrm : (rest.map fun v => v.category).sum ≤ 8) (hd : decode M.2.1 pc = .ok (.invokevirtual index, 3)) (k : ∀ (x : Int32) (τ : zSt), P x τ → zY G M K X (pc + 3) lv (.int x :: rest) τ) : zY G M K X pc lv st σ := z_callV as rest E hM hc hst hn hdd hs hrm hd (fun r τ ⟨x, e, p⟩ => by subst e; exact k x τ p)
theorem z_callVB {M' : zM} {d' n index c : Nat} (as rest : List Value) {P : Bool → zSt → Prop} (E : zCtx G M K X) (hM : zB G d' M' (zf G c :: as) σ P) (hc : zCal M.1.cls index M' n) (hst : zRcv M' c) (hn : as.length = n) (hdd : d' + 1 ≤ K.1.frames ∧ 48 * (d' + 1) ≤ K.1.locals ∧ K.2.2.1 ≤ K.1.cells ∧ K.2.2.2.1 ≤ K.1.slots) (hs : st = as.reverse ++ zf G c :: rest) (hrm : (rest.map fun v => v.category).sum ≤ 8) (hd : decode M.2.1 pc = .ok (.invokevirtual index, 3)) (k : ∀ (x : Bool) (τ : zSt), P x τ → zY G M K X (pc + 3) lv (.int (zb x) :: rest) τ) : zY G M K X pc lv st σ := z_callV as rest E hM hc hst hn hdd hs hrm hd (fun r τ ⟨x, e, p⟩ => by subst e; exact k x τ p)
theorem z_callVV {M' : zM} {d' n index c : Nat} (as rest : List Value) {P : zSt → Prop} (E : zCtx G M K X) (hM : zV G d' M' (zf G c :: as) σ P) (hc : zCal M.1.cls index M' n) (hst : zRcv M' c) (hn : as.length = n) (hdd : d' + 1 ≤ K.1.frames ∧ 48 * (d' + 1) ≤ K.1.locals ∧ K.2.2.1 ≤ K.1.cells ∧ K.2.2.2.1 ≤ K.1.slots) (hs : st = as.reverse ++ zf G c :: rest) (hrm : (rest.map fun v => v.category).sum ≤ 8) (hd : decode M.2.1 pc = .ok (.invokevirtual index, 3)) (k : ∀ τ : zSt, P τ → zY G M K X (pc + 3) lv rest τ) : zY G M K X pc lv st σ := z_callV as rest E hM hc hst hn hdd hs hrm hd (fun r τ ⟨e, p⟩ => by subst e; exact k τ p)
theorem z_callVIp {M' : zM} {d' n index c : Nat} (as rest : List Value) {v : Int32} (E : zCtx G M K X) (hM : zI G d' M' (zf G c :: as) σ (fun x τ => x = v ∧ τ = σ)) (hc : zCal M.1.cls index M' n) (hst : zRcv M' c) (hn : as.length = n) (hdd : d' + 1 ≤ K.1.frames ∧ 48 * (d' + 1) ≤ K.1.locals ∧ K.2.2.1 ≤ K.1.cells ∧ K.2.2.2.1 ≤ K.1.slots) (hs : st = as.reverse ++ zf G c :: rest) (hrm : (rest.map fun v => v.category).sum ≤ 8) (hd : decode M.2.1 pc = .ok (.invokevirtual index, 3)) (k : zY G M K X (pc + 3) lv (.int v :: rest) σ) : zY G M K X pc lv st σ := z_callVI as rest E hM hc hst hn hdd hs hrm hd (fun x τ ⟨e1, e2⟩ => by subst e1; subst e2; exact k)
theorem z_callVBp {M' : zM} {d' n index c : Nat} (as rest : List Value) {v : Bool} (E : zCtx G M K X) (hM : zB G d' M' (zf G c :: as) σ (fun x τ => x = v ∧ τ = σ)) (hc : zCal M.1.cls index M' n) (hst : zRcv M' c) (hn : as.length = n) (hdd : d' + 1 ≤ K.1.frames ∧ 48 * (d' + 1) ≤ K.1.locals ∧ K.2.2.1 ≤ K.1.cells ∧ K.2.2.2.1 ≤ K.1.slots) (hs : st = as.reverse ++ zf G c :: rest) (hrm : (rest.map fun v => v.category).sum ≤ 8) (hd : decode M.2.1 pc = .ok (.invokevirtual index, 3)) (k : zY G M K X (pc + 3) lv (.int (zb v) :: rest) σ) : zY G M K X pc lv st σ := z_callVB as rest E hM hc hst hn hdd hs hrm hd (fun x τ ⟨e1, e2⟩ => by subst e1; subst e2; exact k)
theorem z_ldc2 (E : zCtx G M K X) {index : Nat} {v : Int64} (hk : Cond.constantLong M.1.cls index v ∈ zTbl) (hd : decode M.2.1 pc = .ok (.ldc2_w index, 3)) (k : zY G M K X (pc + 3) lv (.long v :: st) σ) : zY G M K X pc lv st σ := fun ls H locs h hP hS => lv_ldc2 E.1 E.2.1 E.2.2.2.2.1 (E.2.2.2.2.2.1 _ hk) hd (k ls H locs h hP hS)
theorem z_ldcw (E : zCtx G M K X) {index : Nat} {v : Int32} (hk : Cond.constant M.1.cls index v ∈ zTbl) (hd : decode M.2.1 pc = .ok (.ldc_w index, 3)) (k : zY G M K X (pc + 3) lv (.int v :: st) σ) : zY G M K X pc lv st σ := fun ls H locs h hP hS => lv_ldcw E.1 E.2.1 E.2.2.2.2.1 (E.2.2.2.2.2.1 _ hk) hd (k ls H locs h hP hS)
def zMth (own : String) (index : Nat) (y : MethodName) (b : ByteArray) : Prop := Cond.methodLink own index y ∈ zTbl ∧ Cond.static y ∈ zTbl ∧ Cond.initialized "java/lang/Math" ∈ zTbl ∧ Cond.code y b 2 (some .int) ∈ zTbl
theorem z_mmin (E : zCtx G M K X) {index : Nat} {x y : Int32} (hc : zMth M.1.cls index Lib.Math.min.name Lib.Math.min.code) (hf : 1 ≤ K.1.frames ∧ 48 ≤ K.1.locals ∧ K.2.2.1 ≤ K.1.cells ∧ K.2.2.2.1 ≤ K.1.slots) (hr : (st.map fun v => v.category).sum ≤ 8) (hd : decode M.2.1 pc = .ok (.invokestatic index, 3)) (k : zY G M K X (pc + 3) lv (.int (if y < x then y else x) :: st) σ) : zY G M K X pc lv (.int y :: .int x :: st) σ := fun ls H locs h hP hS => va_mmin E.1 E.2.1 (E.2.2.1.trans h.1.symm) E.2.2.2.2.1 (E.2.2.2.2.2.1 _ hc.1) (E.2.2.2.2.2.1 _ hc.2.1) (E.2.2.2.2.2.1 _ hc.2.2.1) (E.2.2.2.2.2.1 _ hc.2.2.2) hf.1 (by have := hf.2.1; omega) hf.2.2.1 hf.2.2.2 hd (k ls H locs h hP hS)
theorem z_mmax (E : zCtx G M K X) {index : Nat} {x y : Int32} (hc : zMth M.1.cls index Lib.Math.max.name Lib.Math.max.code) (hf : 1 ≤ K.1.frames ∧ 48 ≤ K.1.locals ∧ K.2.2.1 ≤ K.1.cells ∧ K.2.2.2.1 ≤ K.1.slots) (hr : (st.map fun v => v.category).sum ≤ 8) (hd : decode M.2.1 pc = .ok (.invokestatic index, 3)) (k : zY G M K X (pc + 3) lv (.int (if x < y then y else x) :: st) σ) : zY G M K X pc lv (.int y :: .int x :: st) σ := fun ls H locs h hP hS => va_mmax E.1 E.2.1 (E.2.2.1.trans h.1.symm) E.2.2.2.2.1 (E.2.2.2.2.2.1 _ hc.1) (E.2.2.2.2.2.1 _ hc.2.1) (E.2.2.2.2.2.1 _ hc.2.2.1) (E.2.2.2.2.2.1 _ hc.2.2.2) hf.1 (by have := hf.2.1; omega) hf.2.2.1 hf.2.2.2 hd (k ls H locs h hP hS)
def zCop (own : String) (index : Nat) : Prop := Cond.methodLink own index arraycopyName ∈ zTbl ∧ Cond.native arraycopyName ∈ zTbl ∧ Cond.static arraycopyName ∈ zTbl ∧ Cond.initialized "java/lang/System" ∈ zTbl
def zcpy (σ : zSt) (c sp dp n : Nat) : zSt := fun a b => if a = c then va_cpy (σ c) (σ c) sp dp n b else σ a b
theorem zcpy_self (σ : zSt) (c sp dp n : Nat) : zcpy σ c sp dp n c = va_cpy (σ c) (σ c) sp dp n := by
  funext b; simp [zcpy]
theorem zcpy_ne {σ : zSt} {c sp dp n k : Nat} (h : k ≠ c) : zcpy σ c sp dp n k = σ k := by
  funext b; simp [zcpy, h]
theorem z_copy (E : zCtx G M K X) {c n0 index : Nat} {sp dp n : Int32} (hm : zCop M.1.cls index) (hc : zS[c]? = some (.inl (.int, n0))) (hf : 1 ≤ K.1.frames ∧ 48 ≤ K.1.locals ∧ K.2.2.1 ≤ K.1.cells ∧ K.2.2.2.1 ≤ K.1.slots) (hd : decode M.2.1 pc = .ok (.invokestatic index, 3)) (k : (¬ sp < 0 ∧ ¬ dp < 0 ∧ ¬ n < 0 ∧ sp.toNatClampNeg + n.toNatClampNeg ≤ n0 ∧ dp.toNatClampNeg + n.toNatClampNeg ≤ n0) ∧ ∀ τ : zSt, τ = zcpy σ c sp.toNatClampNeg dp.toNatClampNeg n.toNatClampNeg → zY G M K X (pc + 3) lv [] τ) : zY G M K X pc lv [.int n, .int dp, zf G c, .int sp, zf G c] σ := by
  intro ls H locs h hP hS
  obtain ⟨⟨h1, h2, h3, h4, h5⟩, k⟩ := k
  have hts := E.2.2.2.2.2.1
  refine va_copyi (rest := []) (D := zD G) (cl := zCl) E.1 E.2.1 (E.2.2.1.trans h.1.symm) E.2.2.2.2.1 (hts _ hm.1) (hts _ hm.2.1) (hts _ hm.2.2.1) (hts _ hm.2.2.2) E.2.2.2.2.2.2.1 hP (zD_of E.2.2.2.2.2.2.2.2.1 E.2.2.2.2.2.2.2.2.2.2.1 σ) hS c c 0 0 (zW_at hc) (zW_at hc) rfl rfl rfl h1 h2 h3 h4 h5 (fun _ _ => rfl) hf.1 ?_ hd (fun H1 locs1 q1 _ q3 => ?_)
  · have e : nativeFrameWords "java/lang/System" "arraycopy" 5 = 7 := by decide +kernel
    have := hf.2.1
    rw [e]; show 0 + (7 + 11) ≤ _; omega
  · refine k _ rfl ls H1 locs1 h ?_ q3
    have e : (Sum.inl (zcA G .int, n0, .inl (va_cpy (σ c) (σ c) sp.toNatClampNeg dp.toNatClampNeg n.toNatClampNeg)) : va_E) = zE (zcA G) (zad G) (zcpy σ c sp.toNatClampNeg dp.toNatClampNeg n.toNatClampNeg) c (.inl (.int, n0)) := by
      show _ = (Sum.inl (zcA G .int, n0, .inl (zcpy σ c sp.toNatClampNeg dp.toNatClampNeg n.toNatClampNeg c)) : va_E)
      rw [zcpy_self]
    rw [e, zW_set hc (fun k hk => (zcpy_ne hk).symm)] at q1
    exact q1
theorem z_lookup2 (E : zCtx G M K X) {dflt o1 o2 : Int} {ps : Array (Int × Int)} {len : Nat} {x : Int32} {k1 k2 : Int} {t1 t2 tO : Nat} (hd : decode M.2.1 pc = .ok (.lookupswitch dflt ps, len)) (hps : ps.toList = [(k1, o1), (k2, o2)]) (hp : (ps.toList.zip (ps.toList.drop 1)).all (fun (a, next) => a.1 < next.1) = true) (h1 : (pc : Int) + o1 = (t1 : Int)) (h2 : (pc : Int) + o2 = (t2 : Int)) (h3 : (pc : Int) + dflt = (tO : Int)) (k : (x.toInt = k1 → zY G M K X t1 lv st σ) ∧ (x.toInt = k2 → zY G M K X t2 lv st σ) ∧ (¬ x.toInt = k1 ∧ ¬ x.toInt = k2 → zY G M K X tO lv st σ)) : zY G M K X pc lv (.int x :: st) σ := by
  intro ls H locs h hP hS
  by_cases e1 : x.toInt = k1
  · exact lv_lookup E.1 E.2.1 hd hp (off := o1) (by rw [hps, lookupswitch.offset_cons, if_pos e1.symm]) h1 (k.1 e1 ls H locs h hP hS)
  · by_cases e2 : x.toInt = k2
    · exact lv_lookup E.1 E.2.1 hd hp (off := o2) (by rw [hps, lookupswitch.offset_cons, if_neg (Ne.symm e1), lookupswitch.offset_cons, if_pos e2.symm]) h2 (k.2.1 e2 ls H locs h hP hS)
    · exact lv_lookup E.1 E.2.1 hd hp (off := dflt) (by rw [hps, lookupswitch.offset_cons, if_neg (Ne.symm e1), lookupswitch.offset_cons, if_neg (Ne.symm e2), lookupswitch.offset_nil]) h3 (k.2.2 ⟨e1, e2⟩ ls H locs h hP hS)
theorem zrm {d d' : Nat} (h : d' + 1 ≤ d := by decide) : d' + 1 ≤ (zKm G d X post).1.frames ∧ 48 * (d' + 1) ≤ (zKm G d X post).1.locals ∧ (zKm G d X post).2.2.1 ≤ (zKm G d X post).1.cells ∧ (zKm G d X post).2.2.2.1 ≤ (zKm G d X post).1.slots := ⟨h, by show 48 * (d' + 1) ≤ 48 * d; omega, Nat.le_refl 0, Nat.le_refl 0⟩
theorem zrm1 {d : Nat} (h : 1 ≤ d := by decide) : 1 ≤ (zKm G d X post).1.frames ∧ 48 ≤ (zKm G d X post).1.locals ∧ (zKm G d X post).2.2.1 ≤ (zKm G d X post).1.cells ∧ (zKm G d X post).2.2.2.1 ≤ (zKm G d X post).1.slots := ⟨h, by show 48 ≤ 48 * d; omega, Nat.le_refl 0, Nat.le_refl 0⟩
end ZR
