/-! methods that throw: contracts, the throw itself, what goes up, what is caught -/
/-- what the walk of a method that throws hands over at its end -/
def xFE (st : State) (o : Outcome) (t : State) (L : List Loc) (k n : Nat) : Prop :=
  (∃ x, o = .threw x) ∧ st.WarmedH t.vm ∧ st.sameButNew (t.setVm st.vm) L k n
def MetT (l : Launch) (y : MethodName) (ws : List Cond) (rm : Room) (Pc : Array Value → State → Prop) (Qc : Array Value → State → Outcome → State → Prop) (mc ms : Nat) (free : Addr → Prop) : Prop :=
  MetFree l y (headSpec ws rm) Pc (fun _ _ _ _ _ => True) (fun a st o t => Qc a st o t ∧ ∃ L, xFE st o t L mc ms ∧ ∀ q ∈ L, free q.base)
def MQT (below : List Frame) (Qc : Array Value → State → Outcome → State → Prop) (a : Array Value) (s : State) (mc ms : Nat) (free : Addr → Prop) : State → Prop := fun t =>
  ∃ o, t.status = .running ∧ Ended t below o ∧ Qc a s o t ∧ ∃ L, xFE s o t L mc ms ∧ ∀ q ∈ L, free q.base
def va_Qt (X : String) (B : State → Prop) (A : Nat → Prop) : Array Value → State → Outcome → State → Prop := fun _ st oc t =>
  (∃ (q : Addr) (cell : Cell), oc = .threw q ∧ t.heap[q]? = some cell ∧ cell.vm.isStatics = false ∧ st.vm.findClass X = some cell.cls ∧ B t) ∧ va_F A st t
def xBT (D : va_G) (cl : List vw_C) (A : Nat → Prop) (wc : va_W) (t : State) : Prop := va_P D cl wc t.heap ∧ va_D A wc
/-- a contract of a method that throws an X, and leaves its world as it was -/
def CtT (l : Launch) (y : MethodName) (wy : List Cond) (rm : Room) (D : va_G) (cl : List vw_C) (TY : List (ClassId × FieldType)) (G : (Nat → Prop) → State → Heap → Prop) (av : List Value) (wc : va_W) (mc ms : Nat) (X : String) : Prop :=
  ∀ sz : Nat, MetT l y wy rm (va_Pc av (xP D cl TY G wc sz)) (va_Qt X (xBT D cl (va_A wc sz) wc) (va_A wc sz)) mc ms (va_A wc sz)
theorem va_P.ns {D : va_G} {cl : List vw_C} {ws : va_W} {H : Heap} (hP : va_P D cl ws H) {k : Nat} {q : Nat × va_E} (h : ws[k]? = some q) {cell : Cell} (hc : H[q.1]? = some cell) : cell.vm.isStatics = false := by
  have h1 := hP k q h
  obtain ⟨a, e9⟩ := q
  cases e9 with
  | inl x =>
    have h2 : H[a]? = some (vp_cell x.1 x.2) := h1
    cases hc.symm.trans h2
    obtain ⟨c1, n1, f1⟩ := x
    show (vp_cell c1 (n1, f1)).vm.isStatics = false
    unfold vp_cell
    split <;> rfl
  | inr o =>
    obtain ⟨r, -, cell2, q1, -, q3, -⟩ := h1
    cases hc.symm.trans q1
    rw [q3]; rfl
section XTO
variable {l : Launch} {y : MethodName} {wy wy' : List Cond} {rm : Room} {D : va_G} {cl : List vw_C} {TY : List (ClassId × FieldType)} {G : (Nat → Prop) → State → Heap → Prop} {av : List Value} {wc : va_W} {mc ms : Nat} {cc : ByteArray} {maxL : Nat} {ret : Option FieldType}
theorem CtT.of {X : String} (hy : plainName y.cls = true) (hw : wy = Cond.code y cc maxL ret :: wy') (hav : (lg_sl av).length ≤ maxL)
    (body : ∀ (p : Program) (e : Env) (s : State) (m : MethodId) (args : Array Value) (below : List Frame) (meth : Method) (c : Code) (A : Nat → Prop) (ls : Array Slot), xF p s m args meth c cc maxL ret wy y → (∀ x ∈ c.exceptionTable.toList, ∀ pc, covers x pc = false) → (∀ q, A q → ∀ cell, s.heap[q]? = some cell → cell.vm.isStatics = false) → (∀ q : Nat, s.heap.size ≤ q → A q) → va_P D cl wc s.heap → va_K D cl TY s → va_D A wc → G A s s.heap → va_S A s.heap s.heap [] → lv_has ls maxL (lv_args 0 av) →
      W p l e rm s m args below meth c s.heap [] 0 0 (MQT below (va_Qt X (xBT D cl A wc) A) args s mc ms A) (F0 m 0 ls [])) : CtT l y wy rm D cl TY G av wc mc ms X := by
  intro sz
  refine MetFree.of_bodyS (code := cc) (maxLocals := maxL) (ret := ret) hy ?_ ?_
  · intro args s m h hn
    obtain ⟨meth, c, h1, h2, h3, h4, h5, h6, -, -⟩ := Cond.code_spec hn (atoms_spec (ws := wy) h _ (by rw [hw]; exact List.mem_cons_self))
    exact ⟨meth, c, h1, h2, h3, h4, h5, h6⟩
  · intro p e s m args below meth c s₁ B hml hv _
    have hh0 : s₁.heap = s.heap := by rw [B.state]; rfl
    obtain ⟨rfl, hsz, hP, hK, hD0, hg⟩ := hv
    subst hsz
    have hnoh := B.noHandlers (atoms_spec (ws := wy) B.pre _ (by rw [hw]; exact List.mem_cons_self))
    have K : W p l e (headSpec wy rm).room s m av.toArray below meth c s.heap [] 0 0 (MQT below (va_Qt X (xBT D cl (va_A wc s.heap.size) wc) (va_A wc s.heap.size)) av.toArray s mc ms (va_A wc s.heap.size)) (entryFrame m av.toArray maxL) := by
      rw [lg_entry_eq]
      exact body p e s m _ below meth c (va_A wc s.heap.size) _ ⟨B.exec, B.bytes, B.returns, B.notSynchronized, hml, findClass_of_methodNamed B.named, atoms_spec (ws := wy) B.pre, (name_of_methodNamed B.named B.method).1⟩
        (fun x hx => by rw [Array.isEmpty_iff.mp hnoh] at hx; cases hx) (fun q hq cell hc => by
          rcases hq with ⟨k, e9, h9⟩ | h9
          · exact hP.ns h9 hc
          · exact absurd (Array.getElem?_eq_some_iff.mp hc).1 (Nat.not_lt.mpr h9)) (fun q h => Or.inr h) hP hK hD0.self hg va_S.rf (lv_entry av hav)
    obtain ⟨t, a1, o, b1, b2, b3⟩ := K s₁ hh0 (Stand.of_body B)
    exact ⟨t, o, a1, b1, b2, ⟨b3.1, b3.2⟩⟩
/-- an int answer, of a method with an exception table -/
theorem CtI.ofW {S : Type} {w1 : S → va_W} {post : Int32 → S → Prop} {hh : List (Nat × Nat × Nat × Nat)} (hy : plainName y.cls = true) (hw : wy = Cond.codeWith y cc maxL ret hh :: wy') (hav : (lg_sl av).length ≤ maxL)
    (body : ∀ (p : Program) (e : Env) (s : State) (m : MethodId) (args : Array Value) (below : List Frame) (meth : Method) (c : Code) (A : Nat → Prop) (ls : Array Slot), xF p s m args meth c cc maxL ret wy y → c.exceptionTable.toList.map (fun h => (h.startPc, h.endPc, h.handlerPc, h.catchType)) = hh → (∀ q : Nat, s.heap.size ≤ q → A q) → va_P D cl wc s.heap → va_K D cl TY s → va_D A wc → G A s s.heap → va_S A s.heap s.heap [] → lv_has ls maxL (lv_args 0 av) →
      W p l e rm s m args below meth c s.heap [] 0 0 (MQ below (va_Qi post (xB D cl A w1) A) args s mc ms A) (F0 m 0 ls [])) : CtI l y wy rm D cl TY G av wc mc ms w1 post := by
  intro sz
  refine va_MetW (cc := cc) (maxL := maxL) (ret := ret) (hh := hh) hy hw ?_
  intro p e s m args below meth c s₁ B hml hv
  obtain ⟨rfl, hsz, hP, hK, hD0, hg⟩ := hv
  subst hsz
  obtain ⟨m9, meth9, c9, q1, q2, q3, q4, q5, q6, -⟩ := Cond.codeWith_spec (atoms_spec (ws := wy) B.pre _ (by rw [hw]; exact List.mem_cons_self))
  cases B.named.symm.trans q1
  cases B.method.symm.trans q2
  cases (Stand.of_body B).code.symm.trans q3
  rw [lg_entry_eq]
  exact body p e s m _ below meth c (va_A wc s.heap.size) _ ⟨B.exec, B.bytes, B.returns, B.notSynchronized, hml, findClass_of_methodNamed B.named, atoms_spec (ws := wy) B.pre, (name_of_methodNamed B.named B.method).1⟩ q6 (fun q h => Or.inr h) hP hK hD0.self hg va_S.rf (lv_entry av hav)
end XTO
section XTR
variable {p : Program} {l : Launch} {e : Env} {R : Room} {s : State} {m : MethodId} {args : Array Value} {below : List Frame} {meth : Method} {c : Code} {H : Heap} {locs : List Loc} {cells slots : Nat} {Q : State → Prop}
def va_RunT (p : Program) (l : Launch) (e : Env) (R : Room) (s : State) (m : MethodId) (args : Array Value) (below : List Frame) (meth : Method) (c : Code) (H : Heap) (locs : List Loc) (cells slots mc ms : Nat) (g : JFrame) (rest : List Value) (Qa : State → Outcome → State → Prop) (free : Addr → Prop) : Prop :=
  ∀ T : State, T.heap = H → Stand p l e R s m args below meth c T locs cells slots → ∃ (x : Addr) (st₀ t T' : State) (L : List Loc), st₀.heap = H ∧ s.WarmedH st₀.vm ∧ Stand p l e R s m args below meth c T' (locs ++ L) (cells + mc) (slots + ms) ∧ (∀ q ∈ L, free q.base) ∧ T'.heap = t.heap ∧ Qa st₀ (.threw x) t ∧
    ∀ tg, Steps p.tables e below ((T'.setTop { g with stack := rest }).pushFrame (.throwing x)) tg → Steps p.tables e below (T.setTop g) tg
variable {y : MethodName} {bytes cc : ByteArray} {maxL nL mc ms n index : Nat} {ret : Option FieldType} {ws : List Cond} {rm : Room} {Pc : Array Value → State → Prop} {Qc : Array Value → State → Outcome → State → Prop} {free : Addr → Prop} {Ts : List Cond} {own C : String} {b : Addr} {As rest : List Value} {g : JFrame}
/-- the heap, the room used and the tables of another state, under one's own frames -/
def xOv (T t : State) : State := ({ T with heap := t.heap, slotsUsed := t.slotsUsed } : State).setVm t.vm
/-- a callee that throws: from the call to the note over the caller's frame -/
theorem xt_into (hM : MetT l y ws rm Pc Qc mc ms free) (hbl : FrameBlind Pc) (cb : CallB R s args own index y bytes maxL ret ws rm mc ms n) {T : State} (X : Stand p l e R s m args below meth c T locs cells slots) {ig : Instr} {mk : MethodId} {a : Array Value}
    (hg : g.method = m) (hsize : g.locals.size = c.maxLocals) (hdg : decode c.code g.pc = .ok (ig, 3)) (hW : 2 * g.monitorRoom + (g.stack.map fun v => v.category).sum ≤ 8) (hn : T.methodNamed? y = some mk) (hf : cells + mc ≤ R.cells ∧ slots + ms ≤ R.slots) (hpc : Pc a T) :
    ∃ (x : Addr) (t : State) (L : List Loc), Stand p l e R s m args below meth c (xOv T t) (locs ++ L) (cells + mc) (slots + ms) ∧ (∀ q ∈ L, free q.base) ∧ Qc a (T.calling g mk a) (.threw x) t ∧
      Steps p.tables e below (doInvoke e (T.setTop g) [] mk a).1 (((xOv T t).setTop g).pushFrame (.throwing x)) := by
  obtain ⟨rfl, rfl, hfr, hlo, hws, hcw, -, hini, -⟩ := cb
  subst hg
  have hA : At T g.method c below := X.here
  obtain ⟨kY, hk, -⟩ := className_of_methodNamed hn
  obtain ⟨mY, cY, hm1, hc1, -, hl1, -⟩ := Cond.code_spec hn (hws _ hcw a T X.warmed)
  have hin : kY.init = .initialized := Cond.initialized_spec (findClass_of_methodNamed hn) hk (word_at (a' := a) X.warmed (Or.inl (by first | rfl | simp [Cond.onTables, Cond.keeps, Cond.steady])) hini)
  have hrm := X.room_calling (g := g) (args' := a) (R' := (headSpec ws rm).room) hsize hm1 hc1 hfr (by rw [hl1]; show _ + _ + rm.locals ≤ _; omega) hf.1 hf.2
  have hap : (headSpec ws rm).appliesLoose y e.platform (T.calling g mk a) = true := Spec.appliesLoose_calling hA hdg hn hk hin hrm (atoms_intro fun w hw => hws w hw _ _ X.warmed)
  obtain ⟨mid, hmid⟩ := hA.above
  have hff : (T.setTop g).frames = .java g :: T.frames.tail := State.frames_setTop' g hA.top
  obtain ⟨o, t, hst, -, hend, hq, L, ⟨⟨x, rfl⟩, hwt, hsm⟩, hL⟩ := Steps.callFree hM p X.admits X.cas X.clock (acts := []) (mid := .java g :: mid) (by rw [hff, hmid]; rfl) hap (hbl _ _ _ _ hpc) trivial
  have hft : t.frames = .throwing x :: .java g :: T.frames.tail := by
    have h9 : t.frames = .throwing x :: (T.setTop g).frames := hend
    rw [h9, hff]
  have hw2 : T.WarmedH t.vm := hwt
  obtain ⟨f0, hf0⟩ := Option.isSome_iff_exists.mp hA.top
  obtain ⟨r, hr⟩ := State.topJava?_eq_some.mp hf0
  have hro : (xOv T t).frames = .java f0 :: r := hr
  have hto : t = ((xOv T t).setTop g).pushFrame (.throwing x) := by
    have h0 : (T.calling g mk a).sameButNew (t.setVm (T.calling g mk a).vm) L rm.cells rm.slots := hsm
    have h1 : t = (t.setVm (T.calling g mk a).vm).setVm t.vm := rfl
    rw [h0.1, State.calling_eq hA.top] at h1
    refine h1.trans ?_
    show (({ (T.setFrames _).setFrames t.frames with heap := t.heap, slotsUsed := t.slotsUsed } : State)).setVm t.vm = _
    rw [hft, State.setFrames_setFrames, State.pushFrame, State.frames_setTop _ hro, State.setTop_of_frames _ hro, State.setFrames_setFrames, hr]
    rfl
  have hsn : T.sameButNew ((xOv T t).setVm T.vm) L rm.cells rm.slots := by
    obtain ⟨-, q2, q3, q4, q5, q6⟩ := hsm
    refine ⟨?_, q2, q3, q4, q5, q6⟩
    obtain ⟨th, hth, -⟩ := State.frames_cons hr
    show ({ T with heap := t.heap, slotsUsed := t.slotsUsed } : State) = { T.setFrames T.frames with heap := t.heap, slotsUsed := t.slotsUsed }
    rw [State.setFrames_self hth]
  refine ⟨x, t, L, X.moved ((hA.setHeapUsed t.heap t.slotsUsed).setVm hw2.alike) X.tail rfl rfl hw2 hsn, hL, hq, ?_⟩
  rw [← hto]
  exact hst
theorem va_runVT (S : CallFix p m c cc nL s args Ts own) (hM : MetT l y ws rm Pc Qc mc ms free) (cw : CallW R s args own C index y bytes maxL ret ws rm mc ms n) (hp : PreV s H C b Pc As)
    (hg : g.method = m) (hn : As.length = n) (hsize : g.locals.size = nL) (hstack : g.stack = As.reverse ++ .ref b :: rest) (hW : 2 * g.monitorRoom + (rest.map fun v => v.category).sum ≤ 8) (hdg : decode cc g.pc = .ok (.invokevirtual index, 3)) (hf : cells + mc ≤ R.cells ∧ slots + ms ≤ R.slots) :
    va_RunT p l e R s m args below meth c H locs cells slots mc ms g rest (Qc (Value.ref b :: As).toArray) free := by
  have hcb := cw.1
  obtain ⟨⟨-, -, -, -, -, -, hcode, -, hy, hlen, hl⟩, hin, hse⟩ := cw
  have hbl := hp.1
  obtain ⟨hx, hb, hml, ho, -⟩ := S
  obtain ⟨-, ⟨cellB, hcB, hoB, hclB⟩, hPc⟩ := hp
  intro T hT X
  obtain ⟨mk, methM, hnamed, hmethM, hstM, habM⟩ := Cond.instanceMethod_spec hin
  obtain ⟨methM', cM, hmethM', -, -, -, -, -, -, hsigM⟩ := Cond.code_spec hnamed hcode
  cases hmethM.symm.trans hmethM'
  obtain ⟨c2, r2, m2, q1, q2, q3, q4, kP, hkP, hkPi⟩ := Cond.selects_spec hse
  cases hclB.symm.trans q1
  cases (State.methodFound?_of_named hnamed hy).symm.trans q2
  cases hnamed.symm.trans q3
  have hselP : selectMethod e.platform s.vm cellB.cls mk = .method mk := by rw [Launch.admits_selectMethod X.admits]; exact q4
  obtain ⟨vm₁, X₁, hstep₁⟩ := X.invokevirtual hx ho hl hnamed hmethM hstM hkP hkPi hy (a := b) (cell := cellB) (by rw [hT]; exact hcB)
    (fun z h => by rw [h] at hoB; cases hoB) hselP hmethM habM hkP hkPi (g := g) hg (argsL := As) (rest := rest) (hn.trans (hlen _ hsigM)) hstack (by rw [hb]; exact hdg)
  obtain ⟨x, t, L, X2, hL, hq, hgo⟩ := xt_into (g := { g with stack := rest }) (ig := .invokevirtual index) (a := (Value.ref b :: As).toArray) hM hbl hcb X₁ hg (hsize.trans hml.symm) (by rw [hb]; exact hdg) hW (X₁.named hnamed) hf (hPc (T.setVm vm₁) hT X₁.warmed)
  exact ⟨x, (T.setVm vm₁).calling { g with stack := rest } mk (Value.ref b :: As).toArray, t, _, L, hT, X₁.warmed, X2, hL, rfl, hq, fun tg h => hstep₁ _ fun acts => by rw [doInvoke_state]; exact hgo.trans h⟩
theorem va_runST (S : CallFix p m c cc nL s args Ts own) (hM : MetT l y ws rm Pc Qc mc ms free) (cw : CallB R s args own index y bytes maxL ret ws rm mc ms n ∧ (Cond.static y).before args s = true) (hp : PreS s H Pc As)
    (hg : g.method = m) (hn : As.length = n) (hsize : g.locals.size = nL) (hstack : g.stack = As.reverse ++ rest) (hW : 2 * g.monitorRoom + (rest.map fun v => v.category).sum ≤ 8) (hdg : decode cc g.pc = .ok (.invokestatic index, 3)) (hf : cells + mc ≤ R.cells ∧ slots + ms ≤ R.slots) :
    va_RunT p l e R s m args below meth c H locs cells slots mc ms g rest (Qc As.toArray) free := by
  have hcb := cw.1
  obtain ⟨⟨-, -, -, -, -, -, hcode, hini, hy, hlen, hl⟩, hstt⟩ := cw
  obtain ⟨hx, hb, hml, ho, -⟩ := S
  intro T hT X
  obtain ⟨mk, hnamed⟩ := Cond.code_named hcode
  obtain ⟨methM, cM, hmethM, -, -, -, -, -, -, hsigM⟩ := Cond.code_spec hnamed hcode
  have hstatic : methM.isStatic = true := Cond.static_spec hnamed hmethM hstt
  obtain ⟨kP, hkP, -⟩ := className_of_methodNamed hnamed
  have hinitP : kP.init = .initialized := Cond.initialized_spec (findClass_of_methodNamed hnamed) hkP hini
  obtain ⟨vm₁, X₁, hstep₁⟩ := X.invokestatic hx ho hl hnamed hmethM hstatic hkP hinitP hy (g := g) hg (argsL := As) (rest := rest) (hn.trans (hlen _ hsigM)) hstack (by rw [hb]; exact hdg)
  obtain ⟨x, t, L, X2, hL, hq, hgo⟩ := xt_into (g := { g with stack := rest }) (ig := .invokestatic index) (a := As.toArray) hM hp.1 hcb X₁ hg (hsize.trans hml.symm) (by rw [hb]; exact hdg) hW (X₁.named hnamed) hf (hp.2 (T.setVm vm₁) hT X₁.warmed)
  exact ⟨x, (T.setVm vm₁).calling { g with stack := rest } mk As.toArray, t, _, L, hT, X₁.warmed, X2, hL, rfl, hq, fun tg h => hstep₁ _ fun acts => by rw [doInvoke_state]; exact hgo.trans h⟩
end XTR
section XTC
variable {p : Program} {l : Launch} {e : Env} {R : Room} {s : State} {m : MethodId} {args : Array Value} {below : List Frame} {meth : Method} {c : Code} {locs : List Loc} {cells slots : Nat}
/-- a row of a table of handlers links to a class, to which a class can be assigned, or can't -/
def xLk (pl : Platform) (s : State) (d thrown : ClassId) (y : ExceptionTableEntry) (b : Bool) : Prop :=
  y.catchType ≠ 0 ∧ ∃ k : ClassId, s.vm.ClassLinks pl d y.catchType k ∧ s.vm.assignable thrown k = b
theorem xLk.at_cls {pl : Platform} {d thrown : ClassId} {y : ExceptionTableEntry} (h : xLk pl s d thrown y true) : ∃ k, s.vm.classes[thrown]? = some k := by
  obtain ⟨-, k, hl, ha⟩ := h
  obtain ⟨-, -, -, kt, -, -, -, -, -, hkt, -⟩ := hl.here
  exact Vm.classAt_of_assignable ha ⟨kt, hkt⟩
/-- the search for a handler at a row that covers and links: the entry is noted; it ends there, or goes on -/
theorem xc_row {f : JFrame} {x : Addr} {cell : Cell} {S : State} {y : ExceptionTableEntry} {b : Bool} (hy : covers y f.pc = true) (h : xLk e.platform s f.method.cls cell.cls y b) (hw : s.WarmedH S.vm) (hc : S.heap[x]? = some cell) (hs : cell.vm.isStatics = false) (hk : ∃ k, s.vm.classes[cell.cls]? = some k) :
    ∃ v : Vm, s.WarmedH v ∧ ∀ (t : List ExceptionTableEntry) (Q : Handler → Pre) (E : CtlPost) (d : Bool) (acts : List Action),
      wp (findHandler.go f x (y :: t)) Q E e d acts S ↔ (cond b (Q (.found y.handlerPc) d acts (S.setVm v)) (wp (findHandler.go f x t) Q E e d acts (S.setVm v))) := by
  obtain ⟨h0, k, hl, hb⟩ := h
  obtain ⟨dk, -, -, kt, hd, -, -, -, -, hkt, -, hop⟩ := hl.here
  have hl2 : S.vm.ClassLinks e.platform f.method.cls y.catchType k := hw.classLinks hl
  have hv : s.WarmedH (S.vm.noted f.method.cls y.catchType (.cls k)) := hw.noted hd hop (State.rightAt_cls hl)
  obtain ⟨r1, r2⟩ := (resolveClass_links e.toSetting hl2).op (op := VmOp.resolveClass f.method.cls y.catchType) rfl
  obtain ⟨k1, hk1⟩ := hk
  obtain ⟨k2, hk2, -⟩ := hv.alike.2.2 _ _ hk1
  obtain ⟨k3, hk3, -⟩ := hv.alike.2.2 _ _ hkt
  have hns : ∀ z, cell.vm ≠ .statics z := VmData.ne_statics_of hs
  have hfit : (S.vm.noted f.method.cls y.catchType (.cls k)).assignable cell.cls k = b := by rw [hv.alike.assignable]; exact hb
  refine ⟨_, hv, fun t Q E d acts => ?_⟩
  have hy2 := hy
  simp only [covers] at hy2
  cases b <;> simp [findHandler.go, hy2, h0, r1, r2, hc, hns, hk2, hk3, hfit, VmOp.dirties, VmOp.acts]
/-- the search over rows that are passed, to the one that catches -/
theorem xc_search {f : JFrame} {x : Addr} {cell : Cell} {y : ExceptionTableEntry} {rest : List ExceptionTableEntry} (hy : covers y f.pc = true) (h : xLk e.platform s f.method.cls cell.cls y true) (hs : cell.vm.isStatics = false) :
    ∀ (pre : List ExceptionTableEntry) (S : State), (∀ z ∈ pre, xLk e.platform s f.method.cls cell.cls z false) → s.WarmedH S.vm → S.heap[x]? = some cell →
      ∃ v : Vm, s.WarmedH v ∧ ∀ (Q : Handler → Pre) (E : CtlPost) (d : Bool) (acts : List Action), wp (findHandler.go f x (pre ++ y :: rest)) Q E e d acts S ↔ Q (.found y.handlerPc) d acts (S.setVm v)
  | [], S, _, hw, hc => by
    obtain ⟨v, hv, hq⟩ := xc_row hy h hw hc hs h.at_cls
    exact ⟨v, hv, fun Q E d acts => hq rest Q E d acts⟩
  | z :: pre, S, hp, hw, hc => by
    cases hz : covers z f.pc with
    | false =>
      obtain ⟨v, hv, hq⟩ := xc_search hy h hs pre S (fun q hq => hp q (List.mem_cons_of_mem _ hq)) hw hc
      exact ⟨v, hv, fun Q E d acts => (W.findHandler_go_skip hz).trans (hq Q E d acts)⟩
    | true =>
      obtain ⟨v1, hv1, hq1⟩ := xc_row hz (hp z List.mem_cons_self) hw hc hs h.at_cls
      obtain ⟨v, hv, hq⟩ := xc_search hy h hs pre (S.setVm v1) (fun q hq => hp q (List.mem_cons_of_mem _ hq)) hv1 hc
      exact ⟨v, hv, fun Q E d acts => (hq1 _ Q E d acts).trans (hq Q E d acts)⟩
/-- an exception over a frame, caught there -/
theorem xc_caught {T : State} (X : Stand p l e R s m args below meth c T locs cells slots) {g : JFrame} (hg : g.method = m) {x : Addr} {cell : Cell} (hc : T.heap[x]? = some cell) (hs : cell.vm.isStatics = false) {pre rest : List ExceptionTableEntry} {y : ExceptionTableEntry}
    (htab : c.exceptionTable.toList = pre ++ y :: rest) (hp : ∀ z ∈ pre, xLk e.platform s m.cls cell.cls z false) (hy : covers y g.pc = true) (h : xLk e.platform s m.cls cell.cls y true) :
    ∃ v : Vm, Stand p l e R s m args below meth c (T.setVm v) locs cells slots ∧ ∀ tg, Steps p.tables e below ((T.setVm v).setTop { g with pc := y.handlerPc, stack := [.ref x] }) tg → Steps p.tables e below ((T.setTop g).pushFrame (.throwing x)) tg := by
  subst hg
  have hA : At T g.method c below := X.here
  obtain ⟨f0, hf0⟩ := Option.isSome_iff_exists.mp hA.top
  obtain ⟨r, hr⟩ := State.topJava?_eq_some.mp hf0
  have hmT : T.vm.method? g.method = some meth := by rw [X.warmed.alike.method?]; exact X.method
  obtain ⟨v, hv, hq⟩ := xc_search (f := g) (x := x) (rest := rest) hy h hs pre ((T.setTop g).pushFrame (.throwing x)) hp X.warmed hc
  have hfind : ∀ (Q : Handler → Pre) (E : CtlPost) (d : Bool) (acts : List Action), wp (findHandler g x) Q E e d acts ((T.setTop g).pushFrame (.throwing x)) ↔ Q (.found y.handlerPc) d acts (((T.setTop g).pushFrame (.throwing x)).setVm v) := fun Q E d acts => by
    refine (W.findHandler_eq (s := (T.setTop g).pushFrame (.throwing x)) (meth := meth) (code := c) hmT X.code).trans ?_
    rw [htab]
    exact hq Q E d acts
  refine ⟨v, X.noted hv, fun tg hgo => ?_⟩
  obtain ⟨hon, hwi⟩ := hA.throwing x
  refine Steps.head hon hwi ?_
  rw [stepThread_throwing (frames_entered hA.top _)]
  have hstep : (stepThrowing e ((T.setTop g).pushFrame (.throwing x)) x (.java g :: T.frames.tail)).1 = (((T.setTop g).pushFrame (.throwing x)).setVm v).setFrames (.java { g with pc := y.handlerPc, stack := [.ref x] } :: T.frames.tail) := by
    simp only [stepThrowing, searchFrame, vmDo]
    generalize hres : Sem.go _ e false [] ((T.setTop g).pushFrame (.throwing x)) = res
    obtain ⟨as, rfl, -⟩ := Sem.eq_ok_of hres (a := Handler.found y.handlerPc) (s' := ((T.setTop g).pushFrame (.throwing x)).setVm v) (acts' := []) (by simp [hfind _ _ _ _])
    rfl
  rw [hstep]
  have hrv : (T.setVm v).frames = .java f0 :: r := hr
  have hst : (((T.setTop g).pushFrame (.throwing x)).setVm v).setFrames (.java { g with pc := y.handlerPc, stack := [.ref x] } :: T.frames.tail) = (T.setVm v).setTop { g with pc := y.handlerPc, stack := [.ref x] } := by
    rw [State.setTop_of_frames _ hrv, State.setTop_of_frames _ hr, hr]
    show ((((T.setVm v).setFrames _).setFrames _).setFrames _ : State) = _
    rw [State.setFrames_setFrames, State.setFrames_setFrames]
    rfl
  rw [hst]
  exact hgo
theorem xLk.of {own nm X : String} {thrown : ClassId} {y : ExceptionTableEntry} {T : State} (X0 : Stand p l e R s m args below meth c T locs cells slots) (hown : s.vm.findClass own = some m.cls) (h0 : y.catchType ≠ 0) (hlk : (Cond.classLink own y.catchType nm).before args s = true) (hX : s.vm.findClass X = some thrown) :
    ((Cond.castable X nm).before args s = true → xLk e.platform s m.cls thrown y true) ∧ ((Cond.not (.castable X nm)).before args s = true → xLk e.platform s m.cls thrown y false) := by
  obtain ⟨k, hk, hl⟩ := Cond.classLink_spec hown hlk e.platform (by rw [X0.admits.platform])
  refine ⟨fun h => ?_, fun h => ?_⟩
  · obtain ⟨c3, c4, h3, h4, ha⟩ := Cond.castable_spec h
    cases h3.symm.trans hX
    cases h4.symm.trans hk
    exact ⟨h0, k, hl, ha⟩
  · have h1 := Cond.holds_not_iff.mp h
    simp only [Cond.value, hX, hk] at h1
    exact ⟨h0, k, hl, Option.some.inj h1⟩
end XTC
section XTS
variable {p : Program} {l : Launch} {e : Env} {R : Room} {s : State} {m : MethodId} {args : Array Value} {below : List Frame} {meth : Method} {c : Code} {H : Heap} {locs : List Loc} {cells slots : Nat} {Q : State → Prop}
/-- the same walk, said of a start that has the heap of now -/
theorem xrb {T : State} (X : Stand p l e R s m args below meth c T locs cells slots) (h1 : cells ≤ R.cells) (h2 : slots ≤ R.slots) : Stand p l e { R with cells := R.cells - cells, slots := R.slots - slots } ({ s with heap := T.heap, slotsUsed := T.slotsUsed } : State) m args below meth c T [] 0 0 := by
  have hr := X.room
  have hz := X.heapSize
  have hu := X.used
  have hbk := X.book
  refine ⟨X.admits, X.cas, X.clock, X.frames, ?_, X.hears, X.method, X.code, X.here, X.tail, X.warmed, X.limits, X.bytes, ?_⟩
  · simp only [State.hasRoom, Bool.and_eq_true, decide_eq_true_eq] at hr ⊢
    obtain ⟨⟨⟨⟨r1, r2⟩, r3⟩, r4⟩, r5⟩ := hr
    exact ⟨⟨⟨⟨r1, r2⟩, by omega⟩, by omega⟩, hbk⟩
  · obtain ⟨e1, -⟩ := X.same
    refine ⟨?_, Nat.le_refl _, Nat.le_refl _, ?_, ?_, ?_⟩
    · exact e1
    · show T.slotsUsed = T.slotsUsed + ((T.heap.toList.drop T.heap.size).map (·.slots.size)).sum
      rw [List.drop_of_length_le (by rw [Array.length_toList]; exact Nat.le_refl _)]
      simp
    · show ((T.heap.toList.drop T.heap.size).map (·.slots.size)).sum ≤ 0
      rw [List.drop_of_length_le (by rw [Array.length_toList]; exact Nat.le_refl _)]
      simp
    · intro a c0 h
      exact ⟨c0, h, rfl, rfl, fun _ _ => rfl⟩
/-- nothing written: the old cells are as they were -/
theorem xkeep {s t : State} {k n : Nat} (h : s.sameButNew t [] k n) : ∀ q : Nat, q < s.heap.size → t.heap[q]? = s.heap[q]? := by
  intro q hq
  obtain ⟨c0, hc⟩ : ∃ c0, s.heap[q]? = some c0 := ⟨s.heap[q], Array.getElem?_eq_getElem hq⟩
  obtain ⟨c1, h1, h2, h3, h4⟩ := h.2.2.2.2.2 q c0 hc
  rw [h1, hc]
  have hs : c1.slots = c0.slots := Array.ext_getElem? fun i => h4 i (by intro z; cases z)
  rw [h2, hs]
/-- over two stretches -/
theorem xtrans {T t : State} {k n : Nat} (X : Stand p l e R s m args below meth c T locs cells slots) (h : ({ s with heap := T.heap, slotsUsed := T.slotsUsed } : State).sameButNew ({ t with vm := s.vm } : State) [] k n) : s.sameButNew ({ t with vm := s.vm } : State) locs (cells + k) (slots + n) := by
  have hB : (T.setVm s.vm).sameButNew ({ t with vm := s.vm } : State) [] k n := by
    obtain ⟨e1, q2, q3, q4, q5, q6⟩ := h
    refine ⟨?_, q2, q3, q4, q5, q6⟩
    rw [X.same.1]
    refine e1.trans ?_
    have hs := State.setFrames_setFrames s T.frames t.frames
    show ({ s.setFrames t.frames with heap := t.heap, slotsUsed := t.slotsUsed } : State) = { (s.setFrames T.frames).setFrames t.frames with heap := t.heap, slotsUsed := t.slotsUsed }
    rw [hs]
  have h9 := X.same.trans hB
  rw [List.append_nil] at h9
  exact h9
theorem xrb2 {T : State} {H : Heap} (X : Stand p l e R s m args below meth c T locs cells slots) (hT : T.heap = H) (h1 : cells ≤ R.cells) (h2 : slots ≤ R.slots) : ∃ S' : State, Stand p l e { R with cells := R.cells - cells, slots := R.slots - slots } S' m args below meth c T [] 0 0 ∧ S'.vm = s.vm ∧ S'.heap = H ∧ (∀ vm, S'.WarmedH vm → s.WarmedH vm) ∧ ∀ (t : State) (k n : Nat), S'.sameButNew ({ t with vm := S'.vm } : State) [] k n → s.sameButNew ({ t with vm := s.vm } : State) locs (cells + k) (slots + n) :=
  ⟨_, xrb X h1 h2, rfl, hT, fun _ h => h, fun t k n h => xtrans X h⟩
variable {cc : ByteArray} {pc : Nat} {ls : Array Slot} {rest st : List Value} {D : va_G} {cl : List vw_C} {A : Nat → Prop} {a : Nat} {TY : List (ClassId × FieldType)} {ws wc wr w0 : va_W} {mc ms : Nat} {G : (Nat → Prop) → State → Heap → Prop} {maxL : Nat}
/-- the throw itself, in a walk that has written and made nothing -/
theorem xt_throw0 {S' : State} {own X tx : String} {ic ii ix : Nat} {names : List String} (htr : l.stackTraces = false) (hx : p.tables.exec = Jvm.exec) (hb : c.code = cc) (hlk : meth.locks = false) (hml : c.maxLocals = maxL) (hnoh : ∀ x ∈ c.exceptionTable.toList, ∀ pc, covers x pc = false) (hown : S'.vm.findClass own = some m.cls) (hfit : Bundle.fit X = true) (hfits : ∀ n ∈ names, Bundle.fit n = true)
    (hat : ∀ w ∈ Bundle.ownAtoms own ic X names, w.before args S' = true) (hcl : (Cond.classLink own ii X).before args S' = true) (hini : (Cond.initialized X).before args S' = true) (hstr : ∃ q : Nat, vk_R own ix tx q S') (hh : S'.heap = H) (hls : ls.size = maxL)
    (hfr : names.length + 3 < R.frames) (hlo : 13 * names.length + 60 ≤ R.locals) (hcells : 1 ≤ R.cells) (hslots : 6 ≤ R.slots)
    (d0 : decode cc pc = .ok (.new ii, 3)) (d3 : decode cc (pc + 3) = .ok (.dup, 1)) (d4 : decode cc (pc + 4) = .ok (.ldc ix, 2)) (d6 : decode cc (pc + 6) = .ok (.invokespecial ic, 3)) (d9 : decode cc (pc + 9) = .ok (.athrow, 1)) :
    W p l e R S' m args below meth c H [] 0 0 (fun U => U.status = .running ∧ Ended U below (.threw H.size) ∧ S'.WarmedH U.vm ∧ S'.sameButNew ({ U with vm := S'.vm } : State) [] 1 6 ∧ ∃ ce : Cell, U.heap[H.size]? = some ce ∧ ce.vm = .none ∧ S'.vm.findClass X = some ce.cls) (F0 m pc ls []) := by
  have hinst : (Cond.instantiable X 6).before args S' = true := hat _ (by unfold Bundle.ownAtoms; exact List.mem_append_right _ (List.mem_cons_of_mem _ List.mem_cons_self))
  obtain ⟨cX, kX, hcX, -⟩ := Cond.instantiable_spec hinst
  refine W.newcK (n := 6) hx hb hown hcl hinst hini rfl d0 (by omega) (by omega) hcX rfl fun H1 kC hkC e1 z1 o1 => ?_
  refine lv_dup hx hb d3 rfl ?_
  obtain ⟨q, hq⟩ := hstr
  refine va_ldcS (tx := tx) (q := q) hx hb hown hq d4 ?_
  intro T2 hT2 X2
  obtain ⟨U, st9, hrun, hend, hW, hsame, ce, hce, hO⟩ := X2.ctorThrowS hx (by rw [X2.admits.platform]; exact htr) hown hfit hfits hat (fun x hx => by cases hx) (a := H.size) hcX hkC (by rw [hT2]; exact e1) (by rw [hh]; exact Nat.le_refl _) (msg := .ref q) rfl
    (g := F0 m (pc + 3 + 1 + 2) ls [.ref q, .ref H.size, .ref H.size]) rfl (hls.trans hml.symm) rfl rfl rfl (by rw [hb]; exact d6) (by rw [hb]; exact d9) (fun x hx => hnoh x hx _) hfr (by show 2 * 0 + (1 + 0) + (13 * (names.length + 1) + 42) ≤ R.locals; omega) hlk
  exact ⟨U, st9, hrun, hend, hW, hsame, ce, hce, hO.vm, hO.cls⟩
/-- throw new X("..") -/
theorem xt_throw {own X tx : String} {ic ii ix : Nat} {names : List String} (htr : l.stackTraces = false) (hx : p.tables.exec = Jvm.exec) (hb : c.code = cc) (hlk : meth.locks = false) (hml : c.maxLocals = maxL) (hnoh : ∀ x ∈ c.exceptionTable.toList, ∀ pc, covers x pc = false)
    (hns : ∀ q, A q → ∀ cell, s.heap[q]? = some cell → cell.vm.isStatics = false) (hA : ∀ q, s.heap.size ≤ q → A q) (hown : s.vm.findClass own = some m.cls) (hfit : Bundle.fit X = true) (hfits : ∀ n ∈ names, Bundle.fit n = true)
    (hat : ∀ U : State, U.vm = s.vm → U.heap = H → ∀ w ∈ Bundle.ownAtoms own ic X names, w.before args U = true) (hcl : (Cond.classLink own ii X).before args s = true) (hini : (Cond.initialized X).before args s = true) (hstr : ∃ q : Nat, vk_R own ix tx q s)
    (hP : va_P D cl ws H) (hD : va_D A ws) (hS : va_S A s.heap H locs) (is : List Nat) (h2 : va_nd is = true) (h3 : is.map (fun i => ws[i]?) = wc.map some) (hls : ls.size = maxL)
    (hfr : names.length + 3 < R.frames) (hlo : 13 * names.length + 60 ≤ R.locals) (hcells : cells + 1 ≤ R.cells) (hslots : slots + 6 ≤ R.slots)
    (d0 : decode cc pc = .ok (.new ii, 3)) (d3 : decode cc (pc + 3) = .ok (.dup, 1)) (d4 : decode cc (pc + 4) = .ok (.ldc ix, 2)) (d6 : decode cc (pc + 6) = .ok (.invokespecial ic, 3)) (d9 : decode cc (pc + 9) = .ok (.athrow, 1)) :
    W p l e R s m args below meth c H locs cells slots (MQT below (va_Qt X (xBT D cl A wc) A) args s (cells + 1) (slots + 6) A) (F0 m pc ls []) := by
  intro T hT X0
  obtain ⟨S', X1, hv, hh, hWw, htr2⟩ := xrb2 X0 hT (by omega) (by omega)
  have hat2 := hat S' hv hh
  have hown' : S'.vm.findClass own = some m.cls := by rw [hv]; exact hown
  have hinst : (Cond.instantiable X 6).before args S' = true := hat2 _ (by unfold Bundle.ownAtoms; exact List.mem_append_right _ (List.mem_cons_of_mem _ List.mem_cons_self))
  obtain ⟨cX, kX, hcX, -⟩ := Cond.instantiable_spec hinst
  have KW := xt_throw0 (S' := S') (R := { R with cells := R.cells - cells, slots := R.slots - slots }) (below := below) (e := e) htr hx hb hlk hml hnoh hown' hfit hfits hat2 (va_tabs rfl hv.symm hcl) (va_tabs rfl hv.symm hini) (hstr.imp fun _ z => vk_R.same hv z) hh hls hfr hlo (show 1 ≤ R.cells - cells by omega) (show 6 ≤ R.slots - slots by omega) d0 d3 d4 d6 d9
  obtain ⟨U, st9, hrun, hend, hW, hsame, ce, hce, hvm, hcls⟩ := KW T hT X1
  have hkp : ∀ q : Nat, q < H.size → U.heap[q]? = H[q]? := by have h9 := xkeep hsame; rw [hh] at h9; exact h9
  have hsz : H.size ≤ U.heap.size := by have h9 := hsame.2.1; rw [hh] at h9; exact h9
  refine ⟨U, st9, .threw H.size, hrun, hend, ⟨⟨H.size, ce, rfl, hce, by rw [hvm]; rfl, by rw [← hv]; exact hcls, ?_, hD.sub is h2 h3⟩, Nat.le_trans hS.1 hsz, fun q h4 h5 => ?_⟩, locs, ⟨⟨_, rfl⟩, hWw _ hW, htr2 U 1 6 hsame⟩, hS.2.2⟩
  · exact (hP.kept (fun k x hk => hkp x.1 (hP k x hk).lt)).sub is (xx_fm h3)
  · rw [hkp q (Nat.lt_of_lt_of_le h4 hS.1)]
    exact hS.2.1 q h4 h5
/-- what a callee throws goes up -/
theorem xt_up {X : String} {av : List Value} (hG : xg_ok G) (hK : va_K D cl TY s) (hP : va_P D cl ws H) (hD : va_D A ws) (hS : va_S A s.heap H locs) (hA : ∀ q, s.heap.size ≤ q → A q) (hg : G A s s.heap) (hlk : meth.locks = false) (hnoh : ∀ x ∈ c.exceptionTable.toList, ∀ pc, covers x pc = false) (isC isR : List Nat) (hC : isC.map (fun i => ws[i]?) = wc.map some) (hR : isR.map (fun i => ws[i]?) = wr.map some) (n1 : va_nd isC = true) (n2 : va_nd isR = true) (n3 : ∀ i ∈ isR, i ∉ isC) (is : List Nat) (h2 : va_nd is = true) (h3 : is.map (fun i => (wr ++ wc)[i]?) = w0.map some)
    (hrun : FrameBlind (va_Pc av (xP D cl TY G wc H.size)) → (∀ U : State, U.heap = H → s.WarmedH U.vm → va_Pc av (xP D cl TY G wc H.size) av.toArray U) → va_RunT p l e R s m args below meth c H locs cells slots mc ms (F0 m pc ls st) rest (va_Qt X (xBT D cl (va_A wc H.size) wc) (va_A wc H.size) av.toArray) (va_A wc H.size)) :
    W p l e R s m args below meth c H locs cells slots (MQT below (va_Qt X (xBT D cl A w0) A) args s (cells + mc) (slots + ms) A) (F0 m pc ls st) := by
  have hPc := hP.sub (ws' := wc) isC (xx_fm hC)
  have hDc := hD.sub (ws' := wc) isC n1 hC
  have hFc := va_free (wc := wc) hD hS hA isC hC
  intro T hT X0
  obtain ⟨x, st₀, t, T', L, h0, hW0, X', hL, e1, ⟨⟨q, cell, hq, k1, k2, k3, hB1, hB2⟩, hz, hk⟩, st9⟩ := hrun (xP.blind hG) (fun U hU hW => ⟨rfl, by rw [hU], by rw [hU]; exact hPc, va_K.moved hW.alike hK, hDc.weaken (fun _ _ _ _ => trivial), hG.1 _ s U _ hW (by rw [hU]; exact hG.2.2 _ _ _ _ (hG.2.1 _ _ _ _ hg hS.2.1) hFc)⟩) T hT X0
  cases hq
  rw [h0] at hz hk
  obtain ⟨hP2, hD2⟩ := va_join (wr := wr) (w1 := wc) hP hD isC isR hC hR n2 n3 hk hFc hB1 hB2
  obtain ⟨hw, hrun9, hend, hWU, hsame⟩ := X'.leaveThrown x (g := F0 m pc ls rest) rfl rfl rfl (fun x hx => hnoh x hx _) hlk
  refine ⟨_, st9 _ hw, .threw x, hrun9, hend, ⟨⟨x, cell, rfl, ?_, k2, ?_, ?_, hD2.sub is h2 h3⟩, ?_, fun q a1 a2 => ?_⟩, locs ++ L, ⟨⟨_, rfl⟩, hWU, hsame⟩, fun q hq => ?_⟩
  · show T'.heap[x]? = some cell
    rw [e1]; exact k1
  · rw [← hW0.alike.findClass]; exact k3
  · show va_P D cl w0 T'.heap
    rw [e1]; exact hP2.sub is (xx_fm h3)
  · show s.heap.size ≤ T'.heap.size
    rw [e1]; exact Nat.le_trans hS.1 hz
  · show T'.heap[q]? = s.heap[q]?
    rw [e1, hk q (Nat.lt_of_lt_of_le a1 hS.1) (fun z => a2 (hFc q z))]
    exact hS.2.1 q a1 a2
  · rcases List.mem_append.mp hq with h | h
    · exact hS.2.2 q h
    · exact hFc _ (hL q h)
/-- what a callee throws is caught here -/
theorem xt_catch {X own : String} {av : List Value} {hh : List (Nat × Nat × Nat × Nat)} (hG : xg_ok G) (hK : va_K D cl TY s) (hP : va_P D cl ws H) (hD : va_D A ws) (hS : va_S A s.heap H locs) (hA : ∀ q, s.heap.size ≤ q → A q) (hg : G A s s.heap) (isC isR : List Nat) (hC : isC.map (fun i => ws[i]?) = wc.map some) (hR : isR.map (fun i => ws[i]?) = wr.map some) (n1 : va_nd isC = true) (n2 : va_nd isR = true) (n3 : ∀ i ∈ isR, i ∉ isC)
    (hrun : FrameBlind (va_Pc av (xP D cl TY G wc H.size)) → (∀ U : State, U.heap = H → s.WarmedH U.vm → va_Pc av (xP D cl TY G wc H.size) av.toArray U) → va_RunT p l e R s m args below meth c H locs cells slots mc ms (F0 m pc ls st) rest (va_Qt X (xBT D cl (va_A wc H.size) wc) (va_A wc H.size) av.toArray) (va_A wc H.size))
    (hown : s.vm.findClass own = some m.cls) (htab : c.exceptionTable.toList.map (fun h => (h.startPc, h.endPc, h.handlerPc, h.catchType)) = hh) (hp0 hp9 : List (Nat × Nat × Nat × Nat)) (lo hi hpc ct : Nat) (hsp : hh = hp0 ++ (lo, hi, hpc, ct) :: hp9) (hcov : lo ≤ pc ∧ pc < hi)
    (hpass : ∀ q ∈ hp0, q.2.2.2 ≠ 0 ∧ ∃ nm : String, (Cond.classLink own q.2.2.2 nm).before args s = true ∧ (Cond.not (.castable X nm)).before args s = true) (hct : ct ≠ 0) (hlink : (Cond.classLink own ct X).before args s = true) (hcast : (Cond.castable X X).before args s = true)
    (kk : ∀ (x : Nat) (H1 : Heap) (locs1 : List Loc), va_P D cl (wr ++ wc) H1 → va_D A (wr ++ wc) → va_S A s.heap H1 locs1 → W p l e R s m args below meth c H1 locs1 (cells + mc) (slots + ms) Q (F0 m hpc ls [.ref x])) :
    W p l e R s m args below meth c H locs cells slots Q (F0 m pc ls st) := by
  have hPc := hP.sub (ws' := wc) isC (xx_fm hC)
  have hDc := hD.sub (ws' := wc) isC n1 hC
  have hFc := va_free (wc := wc) hD hS hA isC hC
  intro T hT X0
  obtain ⟨x, st₀, t, T', L, h0, hW0, X', hL, e1, ⟨⟨q, cell, hq, k1, k2, k3, hB1, hB2⟩, hz, hk⟩, st9⟩ := hrun (xP.blind hG) (fun U hU hW => ⟨rfl, by rw [hU], by rw [hU]; exact hPc, va_K.moved hW.alike hK, hDc.weaken (fun _ _ _ _ => trivial), hG.1 _ s U _ hW (by rw [hU]; exact hG.2.2 _ _ _ _ (hG.2.1 _ _ _ _ hg hS.2.1) hFc)⟩) T hT X0
  cases hq
  rw [h0] at hz hk
  obtain ⟨hP2, hD2⟩ := va_join (wr := wr) (w1 := wc) hP hD isC isR hC hR n2 n3 hk hFc hB1 hB2
  have hcX : s.vm.findClass X = some cell.cls := by rw [← hW0.alike.findClass]; exact k3
  have htb : c.exceptionTable.toList = tableOf hp0 ++ (⟨lo, hi, hpc, ct⟩ : ExceptionTableEntry) :: tableOf hp9 := by
    rw [← table_eq c.exceptionTable.toList, htab, hsp]
    simp [tableOf]
  have hpa : ∀ z ∈ tableOf hp0, xLk e.platform s m.cls cell.cls z false := fun z hz => by
    unfold tableOf at hz
    obtain ⟨q9, hq9, rfl⟩ := List.mem_map.mp hz
    obtain ⟨z1, nm, z2, z3⟩ := hpass q9 hq9
    exact (xLk.of (y := ⟨q9.1, q9.2.1, q9.2.2.1, q9.2.2.2⟩) X' hown z1 z2 hcX).2 z3
  have hca : xLk e.platform s m.cls cell.cls ⟨lo, hi, hpc, ct⟩ true := (xLk.of (y := ⟨lo, hi, hpc, ct⟩) X' hown hct hlink hcX).1 hcast
  have hco : covers (⟨lo, hi, hpc, ct⟩ : ExceptionTableEntry) pc = true := by simp [covers, hcov.1, hcov.2]
  have hce : T'.heap[x]? = some cell := by rw [e1]; exact k1
  obtain ⟨vm', X2, hst⟩ := xc_caught X' (g := F0 m pc ls rest) rfl hce k2 htb hpa hco hca
  obtain ⟨t2, a1, b1⟩ := kk x T'.heap (locs ++ L) (by rw [e1]; exact hP2) hD2 ⟨Nat.le_trans hS.1 (by rw [e1]; exact hz), fun q a1 a2 => by rw [e1, hk q (Nat.lt_of_lt_of_le a1 hS.1) (fun z => a2 (hFc q z))]; exact hS.2.1 q a1 a2, fun q hq => by
      rcases List.mem_append.mp hq with h | h
      · exact hS.2.2 q h
      · exact hFc _ (hL q h)⟩ (T'.setVm vm') rfl X2
  exact ⟨t2, st9 _ (hst _ a1), b1⟩
end XTS
theorem xu_TB {args : Array Value} {s U : State} {x : Cond} (hts : ∀ w ∈ x :: TB, w.before args s = true) (hv : U.vm = s.vm) : ∀ w ∈ TB, w.before args U = true := fun w hw =>
  word_at (s := s) (by rw [hv]; exact State.WarmedH.refl s) (tb_good hw) (hts w (List.mem_cons_of_mem _ hw))
theorem xu_E {tF : Nat} {A : Nat → Prop} {s U : State} {H : Heap} {locs : List Loc} (hg : gG tF A s s.heap) (hS : va_S A s.heap H locs) (hv : U.vm = s.vm) (hh : U.heap = H) : gE A U U.heap := by
  have h1 : gG tF A U H := (gG_ok tF).1 A s U H (by rw [hv]; exact State.WarmedH.refl s) ((gG_ok tF).2.1 A s s.heap H hg hS.2.1)
  rw [hh]
  exact h1.2.2.2.2.2.2
