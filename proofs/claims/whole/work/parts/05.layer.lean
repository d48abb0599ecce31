/-! My layer over the kit's rows: contracts of one shape, calls in one row, numbers as nI of naturals. -/
theorem xx_fm {α : Type} {f : Nat → Option α} : ∀ {is : List Nat} {w : List α}, is.map f = w.map some → is.filterMap f = w
  | [], [], _ => rfl
  | [], _ :: _, h => by cases h
  | _ :: _, [], h => by cases h
  | i :: is, x :: w, h => by
    simp only [List.map_cons, List.cons.injEq] at h
    rw [List.filterMap_cons, h.1]
    exact congrArg (x :: ·) (xx_fm h.2)
/-- what a method takes of the heap outside its world (statics, constants): it stays -/
def xg_ok (G : (Nat → Prop) → State → Heap → Prop) : Prop :=
  (∀ (A : Nat → Prop) (u U : State) (H : Heap), u.WarmedH U.vm → G A u H → G A U H) ∧
  (∀ (A : Nat → Prop) (U : State) (H H1 : Heap), G A U H → (∀ a : Nat, a < H.size → ¬ A a → H1[a]? = H[a]?) → G A U H1) ∧
  ∀ (A B : Nat → Prop) (U : State) (H : Heap), G A U H → (∀ q, B q → A q) → G B U H
/-- the start of a contract -/
def xP (D : va_G) (cl : List vw_C) (TY : List (ClassId × FieldType)) (G : (Nat → Prop) → State → Heap → Prop) (wc : va_W) (sz : Nat) (U : State) : Prop :=
  U.heap.size = sz ∧ va_P D cl wc U.heap ∧ va_K D cl TY U ∧ va_D (fun _ => True) wc ∧ G (va_A wc sz) U U.heap
/-- the world at the end -/
def xB {S : Type} (D : va_G) (cl : List vw_C) (A : Nat → Prop) (w1 : S → va_W) (u : S) (t : State) : Prop := va_P D cl (w1 u) t.heap ∧ va_D A (w1 u)
/-- a contract with an int (or boolean) answer -/
def CtI (l : Launch) (y : MethodName) (wy : List Cond) (rm : Room) (D : va_G) (cl : List vw_C) (TY : List (ClassId × FieldType)) (G : (Nat → Prop) → State → Heap → Prop) (av : List Value) (wc : va_W) (mc ms : Nat) {S : Type} (w1 : S → va_W) (post : Int32 → S → Prop) : Prop :=
  ∀ sz : Nat, Met l y wy rm (va_Pc av (xP D cl TY G wc sz)) (va_Qi post (xB D cl (va_A wc sz) w1) (va_A wc sz)) mc ms (va_A wc sz)
/-- a contract of a void method -/
def CtV (l : Launch) (y : MethodName) (wy : List Cond) (rm : Room) (D : va_G) (cl : List vw_C) (TY : List (ClassId × FieldType)) (G : (Nat → Prop) → State → Heap → Prop) (av : List Value) (wc : va_W) (mc ms : Nat) {S : Type} (w1 : S → va_W) (post : S → Prop) : Prop :=
  ∀ sz : Nat, Met l y wy rm (va_Pc av (xP D cl TY G wc sz)) (va_Qv post (xB D cl (va_A wc sz) w1) (va_A wc sz)) mc ms (va_A wc sz)
theorem xP.blind {D : va_G} {cl : List vw_C} {TY : List (ClassId × FieldType)} {G : (Nat → Prop) → State → Heap → Prop} (hG : xg_ok G) {wc : va_W} {sz : Nat} {av : List Value} : FrameBlind (va_Pc av (xP D cl TY G wc sz)) := by
  intro a U g mk q
  obtain ⟨q0, q1, qP, qK, qD, qG⟩ := q
  exact ⟨q0, q1, qP, va_K.moved (u := U) (U := U.calling g mk a) (Vm.Alike.refl U.vm) qK, qD, hG.1 _ U (U.calling g mk a) _ (State.WarmedH.refl U) qG⟩
/-- the facts of a walk -/
def xF (p : Program) (s : State) (m : MethodId) (args : Array Value) (meth : Method) (c : Code) (cc : ByteArray) (maxL : Nat) (ret : Option FieldType) (wy : List Cond) (y : MethodName) : Prop :=
  p.tables.exec = Jvm.exec ∧ c.code = cc ∧ meth.sig.returnType = ret ∧ meth.locks = false ∧ c.maxLocals = maxL ∧ s.vm.findClass y.cls = some m.cls ∧ (∀ w ∈ wy, w.before args s = true) ∧ meth.name = y.name
section XOF
variable {l : Launch} {y : MethodName} {wy wy' : List Cond} {rm : Room} {D : va_G} {cl : List vw_C} {TY : List (ClassId × FieldType)} {G : (Nat → Prop) → State → Heap → Prop} {av : List Value} {wc : va_W} {mc ms : Nat} {S : Type} {w1 : S → va_W} {cc : ByteArray} {maxL : Nat} {ret : Option FieldType}
theorem CtI.of {post : Int32 → S → Prop} (hy : plainName y.cls = true) (hw : wy = Cond.code y cc maxL ret :: wy') (hav : (lg_sl av).length ≤ maxL)
    (body : ∀ (p : Program) (e : Env) (s : State) (m : MethodId) (args : Array Value) (below : List Frame) (meth : Method) (c : Code) (A : Nat → Prop) (ls : Array Slot), xF p s m args meth c cc maxL ret wy y → (∀ q : Nat, s.heap.size ≤ q → A q) → va_P D cl wc s.heap → va_K D cl TY s → va_D A wc → G A s s.heap → va_S A s.heap s.heap [] → lv_has ls maxL (lv_args 0 av) →
      W p l e rm s m args below meth c s.heap [] 0 0 (MQ below (va_Qi post (xB D cl A w1) A) args s mc ms A) (F0 m 0 ls [])) : CtI l y wy rm D cl TY G av wc mc ms w1 post := by
  intro sz
  refine Met.ofW (cc := cc) (maxL := maxL) (ret := ret) hy hw ?_
  intro p e s m args below meth c s₁ B hml hv
  obtain ⟨rfl, hsz, hP, hK, hD0, hg⟩ := hv
  subst hsz
  rw [lg_entry_eq]
  exact body p e s m _ below meth c (va_A wc s.heap.size) _ ⟨B.exec, B.bytes, B.returns, B.notSynchronized, hml, findClass_of_methodNamed B.named, atoms_spec (ws := wy) B.pre, (name_of_methodNamed B.named B.method).1⟩ (fun q h => Or.inr h) hP hK hD0.self hg va_S.rf (lv_entry av hav)
theorem CtV.of {post : S → Prop} (hy : plainName y.cls = true) (hw : wy = Cond.code y cc maxL ret :: wy') (hav : (lg_sl av).length ≤ maxL)
    (body : ∀ (p : Program) (e : Env) (s : State) (m : MethodId) (args : Array Value) (below : List Frame) (meth : Method) (c : Code) (A : Nat → Prop) (ls : Array Slot), xF p s m args meth c cc maxL ret wy y → (∀ q : Nat, s.heap.size ≤ q → A q) → va_P D cl wc s.heap → va_K D cl TY s → va_D A wc → G A s s.heap → va_S A s.heap s.heap [] → lv_has ls maxL (lv_args 0 av) →
      W p l e rm s m args below meth c s.heap [] 0 0 (MQ below (va_Qv post (xB D cl A w1) A) args s mc ms A) (F0 m 0 ls [])) : CtV l y wy rm D cl TY G av wc mc ms w1 post := by
  intro sz
  refine Met.ofW (cc := cc) (maxL := maxL) (ret := ret) hy hw ?_
  intro p e s m args below meth c s₁ B hml hv
  obtain ⟨rfl, hsz, hP, hK, hD0, hg⟩ := hv
  subst hsz
  rw [lg_entry_eq]
  exact body p e s m _ below meth c (va_A wc s.heap.size) _ ⟨B.exec, B.bytes, B.returns, B.notSynchronized, hml, findClass_of_methodNamed B.named, atoms_spec (ws := wy) B.pre, (name_of_methodNamed B.named B.method).1⟩ (fun q h => Or.inr h) hP hK hD0.self hg va_S.rf (lv_entry av hav)
end XOF
section XW
variable {p : Program} {l : Launch} {e : Env} {R : Room} {s : State} {m : MethodId} {args : Array Value} {below : List Frame} {meth : Method} {c : Code} {H : Heap} {locs : List Loc} {cells slots : Nat} {Q : State → Prop}
variable {cc : ByteArray} {pc : Nat} {ls : Array Slot} {rest st : List Value} {D : va_G} {cl : List vw_C} {A : Nat → Prop} {a : Nat} {TY : List (ClassId × FieldType)} {ws wc wr : va_W} {mc ms : Nat} {G : (Nat → Prop) → State → Heap → Prop} {S : Type} {w1 : S → va_W}
/-- the answer -/
theorem xr_i {post : Int32 → S → Prop} {r : Int32} {ty : FieldType} (hx : p.tables.exec = Jvm.exec) (hb : c.code = cc) (hr : meth.sig.returnType = some ty) (hlk : meth.locks = false) (hn : narrow ty (.int r) = .int r) (hP : va_P D cl ws H) (hD : va_D A ws) (hS : va_S A s.heap H locs) (u : S) (is : List Nat) (h2 : va_nd is = true) (h3 : is.map (fun i => ws[i]?) = (w1 u).map some) (hp : post r u) (hdg : decode cc pc = .ok (.ireturn, 1)) :
    W p l e R s m args below meth c H locs cells slots (MQ below (va_Qi post (xB D cl A w1) A) args s cells slots A) (F0 m pc ls [.int r]) :=
  W.zret hx hb hr hn (fun t ht _ => ⟨⟨r, u, rfl, hp, by rw [ht]; exact hP.sub is (xx_fm h3), hD.sub is h2 h3⟩, hS.F ht⟩) hS.2.2 hdg hlk
theorem xr_v {post : S → Prop} (hx : p.tables.exec = Jvm.exec) (hb : c.code = cc) (hr : meth.sig.returnType = none) (hlk : meth.locks = false) (hP : va_P D cl ws H) (hD : va_D A ws) (hS : va_S A s.heap H locs) (u : S) (is : List Nat) (h2 : va_nd is = true) (h3 : is.map (fun i => ws[i]?) = (w1 u).map some) (hp : post u) (hdg : decode cc pc = .ok (.return_, 1)) :
    W p l e R s m args below meth c H locs cells slots (MQ below (va_Qv post (xB D cl A w1) A) args s cells slots A) (F0 m pc ls []) :=
  W.vret hx hb hr (fun t ht _ => ⟨⟨u, rfl, hp, by rw [ht]; exact hP.sub is (xx_fm h3), hD.sub is h2 h3⟩, hS.F ht⟩) hS.2.2 hdg hlk
/-- a call -/
theorem xc_i {post : Int32 → S → Prop} {av : List Value} (hG : xg_ok G) (hK : va_K D cl TY s) (hP : va_P D cl ws H) (hD : va_D A ws) (hS : va_S A s.heap H locs) (hA : ∀ q, s.heap.size ≤ q → A q) (hg : G A s s.heap) (isC isR : List Nat) (hC : isC.map (fun i => ws[i]?) = wc.map some) (hR : isR.map (fun i => ws[i]?) = wr.map some) (n1 : va_nd isC = true) (n2 : va_nd isR = true) (n3 : ∀ i ∈ isR, i ∉ isC)
    (hrun : FrameBlind (va_Pc av (xP D cl TY G wc H.size)) → (∀ U : State, U.heap = H → s.WarmedH U.vm → va_Pc av (xP D cl TY G wc H.size) av.toArray U) → va_Run p l e R s m args below meth c H locs cells slots mc ms (F0 m pc ls st) rest (va_Qi post (xB D cl (va_A wc H.size) w1) (va_A wc H.size) av.toArray) (va_A wc H.size))
    (kk : ∀ (r : Int32) (u : S) (H1 : Heap) (locs1 : List Loc), post r u → va_P D cl (wr ++ w1 u) H1 → va_D A (wr ++ w1 u) → va_S A s.heap H1 locs1 → W p l e R s m args below meth c H1 locs1 (cells + mc) (slots + ms) Q (F0 m (pc + 3) ls (.int r :: rest))) : W p l e R s m args below meth c H locs cells slots Q (F0 m pc ls st) := by
  have hPc := hP.sub (ws' := wc) isC (xx_fm hC)
  have hDc := hD.sub (ws' := wc) isC n1 hC
  have hFc := va_free (wc := wc) hD hS hA isC hC
  refine va_calli (hrun (xP.blind hG) (fun U hU hW => ⟨rfl, by rw [hU], by rw [hU]; exact hPc, va_K.moved hW.alike hK, hDc.weaken (fun _ _ _ _ => trivial), hG.1 _ s U _ hW (by rw [hU]; exact hG.2.2 _ _ _ _ (hG.2.1 _ _ _ _ hg hS.2.1) hFc)⟩)) hS (fun q _ h => hFc q h) hFc (fun r u t H1 locs1 ht _ hw hB _ hk1 hS1 => ?_)
  obtain ⟨b1, b2⟩ := hB
  rw [ht] at b1
  obtain ⟨hP2, hD2⟩ := va_join (wr := wr) (w1 := w1 u) hP hD isC isR hC hR n2 n3 hk1 hFc b1 b2
  exact kk r u H1 locs1 hw hP2 hD2 hS1
theorem xc_v {post : S → Prop} {av : List Value} (hG : xg_ok G) (hK : va_K D cl TY s) (hP : va_P D cl ws H) (hD : va_D A ws) (hS : va_S A s.heap H locs) (hA : ∀ q, s.heap.size ≤ q → A q) (hg : G A s s.heap) (isC isR : List Nat) (hC : isC.map (fun i => ws[i]?) = wc.map some) (hR : isR.map (fun i => ws[i]?) = wr.map some) (n1 : va_nd isC = true) (n2 : va_nd isR = true) (n3 : ∀ i ∈ isR, i ∉ isC)
    (hrun : FrameBlind (va_Pc av (xP D cl TY G wc H.size)) → (∀ U : State, U.heap = H → s.WarmedH U.vm → va_Pc av (xP D cl TY G wc H.size) av.toArray U) → va_Run p l e R s m args below meth c H locs cells slots mc ms (F0 m pc ls st) rest (va_Qv post (xB D cl (va_A wc H.size) w1) (va_A wc H.size) av.toArray) (va_A wc H.size))
    (kk : ∀ (u : S) (H1 : Heap) (locs1 : List Loc), post u → va_P D cl (wr ++ w1 u) H1 → va_D A (wr ++ w1 u) → va_S A s.heap H1 locs1 → W p l e R s m args below meth c H1 locs1 (cells + mc) (slots + ms) Q (F0 m (pc + 3) ls rest)) : W p l e R s m args below meth c H locs cells slots Q (F0 m pc ls st) := by
  have hPc := hP.sub (ws' := wc) isC (xx_fm hC)
  have hDc := hD.sub (ws' := wc) isC n1 hC
  have hFc := va_free (wc := wc) hD hS hA isC hC
  refine va_callv (hrun (xP.blind hG) (fun U hU hW => ⟨rfl, by rw [hU], by rw [hU]; exact hPc, va_K.moved hW.alike hK, hDc.weaken (fun _ _ _ _ => trivial), hG.1 _ s U _ hW (by rw [hU]; exact hG.2.2 _ _ _ _ (hG.2.1 _ _ _ _ hg hS.2.1) hFc)⟩)) hS (fun q _ h => hFc q h) hFc (fun u t H1 locs1 ht _ hw hB _ hk1 hS1 => ?_)
  obtain ⟨b1, b2⟩ := hB
  rw [ht] at b1
  obtain ⟨hP2, hD2⟩ := va_join (wr := wr) (w1 := w1 u) hP hD isC isR hC hR n2 n3 hk1 hFc b1 b2
  exact kk u H1 locs1 hw hP2 hD2 hS1
/-- another name for the same number, the same place -/
theorem xn_i {x y : Int32} (h : x = y) (k : W p l e R s m args below meth c H locs cells slots Q (F0 m pc ls (.int y :: rest))) : W p l e R s m args below meth c H locs cells slots Q (F0 m pc ls (.int x :: rest)) := h ▸ k
theorem xn_pc {pc2 : Nat} (h : pc = pc2) (k : W p l e R s m args below meth c H locs cells slots Q (F0 m pc2 ls st)) : W p l e R s m args below meth c H locs cells slots Q (F0 m pc ls st) := h ▸ k
/-- arrays, at a place that is a natural number -/
theorem xa_iald (hx : p.tables.exec = Jvm.exec) (hb : c.code = cc) (hK : va_K D cl TY s) (hP : va_P D cl ws H) (q0 t0 : Nat) {cA : ClassId} {n : Nat} {f : Nat → Int32} (ha : ws[q0]? = some (a, .inl (cA, n, .inl f))) (ht : TY[t0]? = some (cA, .int)) {j : Nat} {v : Int32} (hj : j < n) (hn : n < 2147483648) (hv : f j = v) (hdg : decode cc pc = .ok (.iaload, 1))
    (kk : W p l e R s m args below meth c H locs cells slots Q (F0 m (pc + 1) ls (.int v :: rest))) : W p l e R s m args below meth c H locs cells slots Q (F0 m pc ls (.int (nI j) :: .ref a :: rest)) := by
  refine va_iald hx hb hK hP q0 t0 ha ht (vp_in_nI hj hn) hdg ?_
  rw [nI_clamp (Nat.lt_trans hj hn), hv]
  exact kk
theorem xa_zald (hx : p.tables.exec = Jvm.exec) (hb : c.code = cc) (hK : va_K D cl TY s) (hP : va_P D cl ws H) (q0 t0 : Nat) {cA : ClassId} {n : Nat} {f : Nat → Int32} (ha : ws[q0]? = some (a, .inl (cA, n, .inl f))) (ht : TY[t0]? = some (cA, .boolean)) {j : Nat} {v : Int32} (hj : j < n) (hn : n < 2147483648) (hv : f j = v) (hdg : decode cc pc = .ok (.baload, 1))
    (kk : W p l e R s m args below meth c H locs cells slots Q (F0 m (pc + 1) ls (.int v :: rest))) : W p l e R s m args below meth c H locs cells slots Q (F0 m pc ls (.int (nI j) :: .ref a :: rest)) := by
  refine va_zald hx hb hK hP q0 t0 ha ht (vp_in_nI hj hn) hdg ?_
  rw [nI_clamp (Nat.lt_trans hj hn), hv]
  exact kk
theorem xa_iast (hx : p.tables.exec = Jvm.exec) (hb : c.code = cc) (hK : va_K D cl TY s) (hP : va_P D cl ws H) (hD : va_D A ws) {H0 : Heap} (hS : va_S A H0 H locs) (q0 t0 : Nat) {cA : ClassId} {n : Nat} {f : Nat → Int32} (ha : ws[q0]? = some (a, .inl (cA, n, .inl f))) (ht : TY[t0]? = some (cA, .int)) {j : Nat} {x : Int32} (hj : j < n) (hn : n < 2147483648) (hdg : decode cc pc = .ok (.iastore, 1))
    (kk : ∀ (H1 : Heap) (locs1 : List Loc), va_P D cl (ws.set q0 (a, .inl (cA, n, .inl (upd f j x)))) H1 → va_D A (ws.set q0 (a, .inl (cA, n, .inl (upd f j x)))) → va_S A H0 H1 locs1 → W p l e R s m args below meth c H1 locs1 cells slots Q (F0 m (pc + 1) ls rest)) : W p l e R s m args below meth c H locs cells slots Q (F0 m pc ls (.int x :: .int (nI j) :: .ref a :: rest)) := by
  refine va_iast hx hb hK hP hD hS q0 t0 ha ht (vp_in_nI hj hn) hdg ?_
  rw [nI_clamp (Nat.lt_trans hj hn)]
  exact kk
/-- branches on natural numbers -/
theorem xb_cge {x y : Nat} (hx : p.tables.exec = Jvm.exec) (hb : c.code = cc) {off : Int} (tgt : Nat) (h1 : x < 2147483648) (h2 : y < 2147483648) (hdg : decode cc pc = .ok (.if_icmp .ge off, 3)) (ht : (pc : Int) + off = (tgt : Int)) (kt : y ≤ x → W p l e R s m args below meth c H locs cells slots Q (F0 m tgt ls rest)) (kf : x < y → W p l e R s m args below meth c H locs cells slots Q (F0 m (pc + 3) ls rest)) : W p l e R s m args below meth c H locs cells slots Q (F0 m pc ls (.int (nI y) :: .int (nI x) :: rest)) :=
  lv_icmp_ge hx hb hdg ht (fun h => kt ((nI_leI h2 h1).mp h)) (fun h => kf (Nat.lt_of_not_le fun q => h ((nI_leI h2 h1).mpr q)))
theorem xb_clt {x y : Nat} (hx : p.tables.exec = Jvm.exec) (hb : c.code = cc) {off : Int} (tgt : Nat) (h1 : x < 2147483648) (h2 : y < 2147483648) (hdg : decode cc pc = .ok (.if_icmp .lt off, 3)) (ht : (pc : Int) + off = (tgt : Int)) (kt : x < y → W p l e R s m args below meth c H locs cells slots Q (F0 m tgt ls rest)) (kf : y ≤ x → W p l e R s m args below meth c H locs cells slots Q (F0 m (pc + 3) ls rest)) : W p l e R s m args below meth c H locs cells slots Q (F0 m pc ls (.int (nI y) :: .int (nI x) :: rest)) :=
  lv_icmp_lt hx hb hdg ht (fun h => kt ((nI_ltI h1 h2).mp h)) (fun h => kf (Nat.le_of_not_lt fun q => h ((nI_ltI h1 h2).mpr q)))
theorem xb_cgt {x y : Nat} (hx : p.tables.exec = Jvm.exec) (hb : c.code = cc) {off : Int} (tgt : Nat) (h1 : x < 2147483648) (h2 : y < 2147483648) (hdg : decode cc pc = .ok (.if_icmp .gt off, 3)) (ht : (pc : Int) + off = (tgt : Int)) (kt : y < x → W p l e R s m args below meth c H locs cells slots Q (F0 m tgt ls rest)) (kf : x ≤ y → W p l e R s m args below meth c H locs cells slots Q (F0 m (pc + 3) ls rest)) : W p l e R s m args below meth c H locs cells slots Q (F0 m pc ls (.int (nI y) :: .int (nI x) :: rest)) :=
  lv_icmp_gt hx hb hdg ht (fun h => kt ((nI_ltI h2 h1).mp h)) (fun h => kf (Nat.le_of_not_lt fun q => h ((nI_ltI h2 h1).mpr q)))
theorem xb_cle {x y : Nat} (hx : p.tables.exec = Jvm.exec) (hb : c.code = cc) {off : Int} (tgt : Nat) (h1 : x < 2147483648) (h2 : y < 2147483648) (hdg : decode cc pc = .ok (.if_icmp .le off, 3)) (ht : (pc : Int) + off = (tgt : Int)) (kt : x ≤ y → W p l e R s m args below meth c H locs cells slots Q (F0 m tgt ls rest)) (kf : y < x → W p l e R s m args below meth c H locs cells slots Q (F0 m (pc + 3) ls rest)) : W p l e R s m args below meth c H locs cells slots Q (F0 m pc ls (.int (nI y) :: .int (nI x) :: rest)) :=
  lv_icmp_le hx hb hdg ht (fun h => kt ((nI_leI h1 h2).mp h)) (fun h => kf (Nat.lt_of_not_le fun q => h ((nI_leI h1 h2).mpr q)))
theorem xb_ceq {x y : Nat} (hx : p.tables.exec = Jvm.exec) (hb : c.code = cc) {off : Int} (tgt : Nat) (h1 : x < 2147483648) (h2 : y < 2147483648) (hdg : decode cc pc = .ok (.if_icmp .eq off, 3)) (ht : (pc : Int) + off = (tgt : Int)) (kt : x = y → W p l e R s m args below meth c H locs cells slots Q (F0 m tgt ls rest)) (kf : x ≠ y → W p l e R s m args below meth c H locs cells slots Q (F0 m (pc + 3) ls rest)) : W p l e R s m args below meth c H locs cells slots Q (F0 m pc ls (.int (nI y) :: .int (nI x) :: rest)) :=
  lv_icmp_eq hx hb hdg ht (fun h => kt ((nI_eq h1 h2).mp h)) (fun h => kf fun q => h ((nI_eq h1 h2).mpr q))
theorem xb_cne {x y : Nat} (hx : p.tables.exec = Jvm.exec) (hb : c.code = cc) {off : Int} (tgt : Nat) (h1 : x < 2147483648) (h2 : y < 2147483648) (hdg : decode cc pc = .ok (.if_icmp .ne off, 3)) (ht : (pc : Int) + off = (tgt : Int)) (kt : x ≠ y → W p l e R s m args below meth c H locs cells slots Q (F0 m tgt ls rest)) (kf : x = y → W p l e R s m args below meth c H locs cells slots Q (F0 m (pc + 3) ls rest)) : W p l e R s m args below meth c H locs cells slots Q (F0 m pc ls (.int (nI y) :: .int (nI x) :: rest)) :=
  lv_icmp_ne hx hb hdg ht (fun h => kt fun q => h ((nI_eq h1 h2).mpr q)) (fun h => kf ((nI_eq h1 h2).mp h))
theorem xb_eq {x : Nat} (hx : p.tables.exec = Jvm.exec) (hb : c.code = cc) {off : Int} (tgt : Nat) (h1 : x < 2147483648) (hdg : decode cc pc = .ok (.ifCond .eq off, 3)) (ht : (pc : Int) + off = (tgt : Int)) (kt : x = 0 → W p l e R s m args below meth c H locs cells slots Q (F0 m tgt ls rest)) (kf : x ≠ 0 → W p l e R s m args below meth c H locs cells slots Q (F0 m (pc + 3) ls rest)) : W p l e R s m args below meth c H locs cells slots Q (F0 m pc ls (.int (nI x) :: rest)) :=
  lv_if_eq hx hb hdg ht (fun h => kt ((nI_eq h1 (by decide)).mp (h.trans nI_0.symm))) (fun h => kf fun q => h (by rw [q]; exact nI_0))
theorem xb_ne {x : Nat} (hx : p.tables.exec = Jvm.exec) (hb : c.code = cc) {off : Int} (tgt : Nat) (h1 : x < 2147483648) (hdg : decode cc pc = .ok (.ifCond .ne off, 3)) (ht : (pc : Int) + off = (tgt : Int)) (kt : x ≠ 0 → W p l e R s m args below meth c H locs cells slots Q (F0 m tgt ls rest)) (kf : x = 0 → W p l e R s m args below meth c H locs cells slots Q (F0 m (pc + 3) ls rest)) : W p l e R s m args below meth c H locs cells slots Q (F0 m pc ls (.int (nI x) :: rest)) :=
  lv_if_ne hx hb hdg ht (fun h => kt fun q => h (by rw [q]; exact nI_0)) (fun h => kf ((nI_eq h1 (by decide)).mp (h.trans nI_0.symm)))
theorem xb_le {x : Nat} (hx : p.tables.exec = Jvm.exec) (hb : c.code = cc) {off : Int} (tgt : Nat) (h1 : x < 2147483648) (hdg : decode cc pc = .ok (.ifCond .le off, 3)) (ht : (pc : Int) + off = (tgt : Int)) (kt : x = 0 → W p l e R s m args below meth c H locs cells slots Q (F0 m tgt ls rest)) (kf : 0 < x → W p l e R s m args below meth c H locs cells slots Q (F0 m (pc + 3) ls rest)) : W p l e R s m args below meth c H locs cells slots Q (F0 m pc ls (.int (nI x) :: rest)) :=
  lv_if_le hx hb hdg ht (fun h => kt (Nat.le_zero.mp ((nI_leI h1 (by decide : 0 < 2 ^ 31)).mp (by rw [nI_0]; exact h)))) (fun h => kf (Nat.pos_of_ne_zero fun q => h (by rw [q, nI_0]; exact Int32.le_refl _)))
theorem xb_gt {x : Nat} (hx : p.tables.exec = Jvm.exec) (hb : c.code = cc) {off : Int} (tgt : Nat) (h1 : x < 2147483648) (hdg : decode cc pc = .ok (.ifCond .gt off, 3)) (ht : (pc : Int) + off = (tgt : Int)) (kt : 0 < x → W p l e R s m args below meth c H locs cells slots Q (F0 m tgt ls rest)) (kf : x = 0 → W p l e R s m args below meth c H locs cells slots Q (F0 m (pc + 3) ls rest)) : W p l e R s m args below meth c H locs cells slots Q (F0 m pc ls (.int (nI x) :: rest)) :=
  lv_if_gt hx hb hdg ht (fun h => kt ((nI_ltI (by decide : 0 < 2 ^ 31) h1).mp (by rw [nI_0]; exact h))) (fun h => kf (Nat.eq_zero_of_not_pos fun q => h (by have h2 := (nI_ltI (by decide : 0 < 2 ^ 31) h1).mpr q; rw [nI_0] at h2; exact h2)))
theorem xb_lt {x : Nat} (hx : p.tables.exec = Jvm.exec) (hb : c.code = cc) {off : Int} (tgt : Nat) (h1 : x < 2147483648) (hdg : decode cc pc = .ok (.ifCond .lt off, 3)) (ht : (pc : Int) + off = (tgt : Int)) (kf : W p l e R s m args below meth c H locs cells slots Q (F0 m (pc + 3) ls rest)) : W p l e R s m args below meth c H locs cells slots Q (F0 m pc ls (.int (nI x) :: rest)) :=
  lv_if_lt hx hb hdg ht (fun h => absurd h (nI_pos h1)) (fun _ => kf)
theorem xb_ge {x : Nat} (hx : p.tables.exec = Jvm.exec) (hb : c.code = cc) {off : Int} (tgt : Nat) (h1 : x < 2147483648) (hdg : decode cc pc = .ok (.ifCond .ge off, 3)) (ht : (pc : Int) + off = (tgt : Int)) (kt : W p l e R s m args below meth c H locs cells slots Q (F0 m tgt ls rest)) : W p l e R s m args below meth c H locs cells slots Q (F0 m pc ls (.int (nI x) :: rest)) :=
  lv_if_ge hx hb hdg ht (fun _ => kt) (fun h => absurd (nI_pos' h1) h)
end XW
section XWZ
variable {p : Program} {l : Launch} {e : Env} {R : Room} {s : State} {m : MethodId} {args : Array Value} {below : List Frame} {meth : Method} {c : Code} {H : Heap} {locs : List Loc} {cells slots : Nat} {Q : State → Prop}
variable {cc : ByteArray} {pc : Nat} {ls : Array Slot} {rest st : List Value} {D : va_G} {cl : List vw_C} {A : Nat → Prop} {a : Nat} {TY : List (ClassId × FieldType)} {ws wc wr : va_W}
/-- words that stay under warmer tables, but aren't on TB -/
def gxW : List Cond := [.declares (Bundle.initS "java/lang/RuntimeException"), .declares (Bundle.initS "java/lang/Exception"), .declares (Bundle.initS Bundle.tN),
  .castable "java/lang/IllegalStateException" "java/lang/IllegalStateException", .castable "java/lang/IllegalArgumentException" "java/lang/IllegalArgumentException", .castable "java/lang/UnsupportedOperationException" "java/lang/UnsupportedOperationException",
  .not (.castable "java/lang/IllegalArgumentException" "java/lang/IllegalStateException"), .not (.castable "java/lang/UnsupportedOperationException" "java/lang/IllegalStateException"), .not (.castable "java/lang/UnsupportedOperationException" "java/lang/IllegalArgumentException")]
theorem gx_keeps : ∀ w ∈ gxW, w.keepsCast = true := by
  simp only [gxW, List.forall_mem_cons]
  exact ⟨rfl, rfl, rfl, rfl, rfl, rfl, rfl, rfl, rfl, fun _ h => by cases h⟩
theorem gx_vm {a b : Array Value} {u U : State} : ∀ w ∈ gxW, w.before a (u.setVm U.vm) = w.before b U := by
  simp only [gxW, List.forall_mem_cons]
  exact ⟨rfl, rfl, rfl, rfl, rfl, rfl, rfl, rfl, rfl, fun _ h => by cases h⟩
def gX (U : State) : Prop := ∀ w ∈ gxW, w.before #[] U = true
theorem gX.warm {u U : State} (hW : u.WarmedH U.vm) (h : gX u) : gX U := fun w hw => by
  rw [← gx_vm (a := #[]) (u := u) w hw]
  exact Cond.before_shiftedCast (State.Shifted.of_warmed hW) w (gx_keeps w hw) (h w hw)
theorem gX.use {a : Array Value} {U : State} (h : gX U) {w : Cond} (hw : w ∈ gxW) : w.before a U = true := by
  have h1 := gx_vm (a := a) (b := #[]) (u := U) (U := U) w hw
  rw [State.setVm_self] at h1
  rw [h1]; exact h w hw
def gxS : List (Nat × String) := [(196, "there is no method"), (93, "no such call, or no mask for it"), (100, "the touch has 30 calls"), (142, "no such rank"), (199, "not 1 <= least <= most <= 720"), (201, "budget is not 1 .. 2000")]
def gStr (U : State) : Prop := ∀ q ∈ gxS, ∃ a : Nat, vk_R "RungTouches" q.1 q.2 a U
/-- a static that holds a reference or null, and that nobody writes -/
def gZ (C n d : String) (A : Nat → Prop) (U : State) (H : Heap) : Prop := ∃ (c : ClassId) (k : Class) (i : Nat) (f : Field) (a : Nat) (cell : Cell) (v : Value), U.vm.findClass C = some c ∧ U.fieldFound? C n d = some (c, k, i, f) ∧ f.isStatic = true ∧ k.statics = some a ∧ k.staticTypes[f.slot]? = some f.type ∧ H[a]? = some cell ∧ ¬ A a ∧ cell.vm.isStatics = true ∧ cell.cls = c ∧ f.slot < cell.slots.size ∧ cell.slots[f.slot]? = some v ∧ v.isRef = true
theorem gZ.moved {C n d : String} {A : Nat → Prop} {u U : State} {H : Heap} (hvm : u.vm.Alike U.vm) (h : gZ C n d A u H) : gZ C n d A U H := by
  obtain ⟨c, k, i, f, a, cell, v, h0, h1, h2, h3, h4, h5⟩ := h
  obtain ⟨k', hi', he⟩ := State.fieldFound?_setVm hvm h1
  exact ⟨c, k', i, f, a, cell, v, by rw [hvm.findClass]; exact h0, hi', h2, by rw [he]; exact h3, by rw [he]; exact h4, h5⟩
theorem gZ.kept {C n d : String} {A : Nat → Prop} {U : State} {H H1 : Heap} (h : gZ C n d A U H) (hq : ∀ a : Nat, a < H.size → ¬ A a → H1[a]? = H[a]?) : gZ C n d A U H1 := by
  obtain ⟨c, k, i, f, a, cell, v, h0, h1, h2, h3, h4, h5, h6, h7⟩ := h
  exact ⟨c, k, i, f, a, cell, v, h0, h1, h2, h3, h4, by rw [hq a (Array.getElem?_eq_some_iff.mp h5).1 h6]; exact h5, h6, h7⟩
theorem gZ.narrow {C n d : String} {A B : Nat → Prop} {U : State} {H : Heap} (h : gZ C n d A U H) (hAB : ∀ q, B q → A q) : gZ C n d B U H := by
  obtain ⟨c, k, i, f, a, cell, v, h0, h1, h2, h3, h4, h5, h6, h7⟩ := h
  exact ⟨c, k, i, f, a, cell, v, h0, h1, h2, h3, h4, h5, fun z => h6 (hAB a z), h7⟩
theorem gZ.lays {C n d : String} {A : Nat → Prop} {U : State} {args : Array Value} (h : gZ C n d A U U.heap) : (Cond.laysStatic C n d).before args U = true := by
  obtain ⟨c, k, i, f, a, cell, v, h0, h1, h2, h3, h4, h5, -, h7, h8, h9, -⟩ := h
  exact Cond.laysStatic_of h0 h1 h2 h3 h5 h7 h8 h9 h4
theorem gZ.ref {C n d : String} {A : Nat → Prop} {U : State} {args : Array Value} (h : gZ C n d A U U.heap) : (Cond.isRef (.static C n d)).before args U = true := by
  obtain ⟨c, k, i, f, a, cell, v, h0, h1, h2, h3, h4, h5, -, h7, h8, h9, h10, h11⟩ := h
  have ev : (Term.static C n d).eval args U none [] U = some v := by
    simp [Term.eval, State.fieldNamed?, h1, h2, h3, h5, h7, h10]
  simp only [Cond.before, Cond.holds, Cond.value, ev]
  cases v <;> simp_all [Value.isRef]
theorem gZ.of {C n d : String} {A : Nat → Prop} {U : State} {args : Array Value} (hl : (Cond.laysStatic C n d).before args U = true) (h : (Cond.isRef (.static C n d)).before args U = true) (hA : ∀ a : Nat, a < U.heap.size → ¬ A a) : gZ C n d A U U.heap := by
  obtain ⟨c, k, i, f, a, cell, hc, hi, hst, ha, hcell, hs, hcls, hlt, hty⟩ := Cond.laysStatic_spec hl
  cases hv : (Term.static C n d).eval args U none [] U with
  | none => simp [Cond.before, Cond.holds, Cond.value, hv] at h
  | some w =>
    simp only [Cond.before, Cond.holds, Cond.value, hv] at h
    obtain ⟨hst', a', cell', ha', hcell', -, hslot⟩ := Term.static_spec hi hv
    cases ha.symm.trans ha'
    cases hcell.symm.trans hcell'
    refine ⟨c, k, i, f, a, cell, w, hc, hi, hst, ha, hty, hcell, hA a (Array.getElem?_eq_some_iff.mp hcell).1, hs, hcls, hlt, hslot, ?_⟩
    cases w <;> simp_all [Value.isRef]
/-- what is given for exceptions -/
def gE (A : Nat → Prop) (U : State) (H : Heap) : Prop :=
  gZ Bundle.tN "UNASSIGNED_STACK" Bundle.steD A U H ∧ gZ Bundle.tN "SUPPRESSED_SENTINEL" Bundle.listD A U H ∧ gX U ∧ gStr U ∧ (Cond.arrayOver (.array .int)).before #[] U = true
/-- what is given of the statics, and the links to private members of nest mates -/
def gG (tF : Nat) (A : Nat → Prop) (U : State) (H : Heap) : Prop :=
  va_Z "RungTouches$Row" "FACTORIALS" "[I" (.ref tF) A U H ∧ va_T .int tF 7 (fun j => .int (nI (fa j))) A U H ∧
  va_Nw (.methodLinkNest "RungTouches" 9 ⟨"RungTouches$Row", "<init>", "()V"⟩ "RungTouches") U ∧ va_Nw (.methodLinkNest "RungTouches" 18 ⟨"RungTouches$Method", "<init>", "()V"⟩ "RungTouches") U ∧
  va_Nw (.methodLinkNest "RungTouches$Ringing" 11 ⟨"RungTouches$RowSet", "<init>", "()V"⟩ "RungTouches") U ∧ va_Nw (.methodLinkNest "RungTouches$Row" 32 ⟨"RungTouches", "hasInMask", "(II)Z"⟩ "RungTouches") U ∧ gE A U H
theorem gG_ok (tF : Nat) : xg_ok (gG tF) := by
  refine ⟨fun A u U H hW h => ?_, fun A U H H1 h hq => ?_, fun A B U H h hAB => ?_⟩
  · obtain ⟨h1, h2, h3, h4, h5, h6, h7, h8, h9, h10, h11⟩ := h
    exact ⟨va_Z.moved hW.alike h1, va_T.moved hW.alike h2, va_Nw.warmM hW h3, va_Nw.warmM hW h4, va_Nw.warmM hW h5, va_Nw.warmM hW h6, gZ.moved hW.alike h7, gZ.moved hW.alike h8, h9.warm hW, fun q hq => (h10 q hq).imp fun _ z => z.warm hW, over_moved hW.alike h11⟩
  · obtain ⟨h1, h2, h3, h4, h5, h6, h7, h8, h9⟩ := h
    exact ⟨h1.kept hq, h2.kept hq, h3, h4, h5, h6, h7.kept hq, h8.kept hq, h9⟩
  · obtain ⟨h1, h2, h3, h4, h5, h6, h7, h8, h9⟩ := h
    exact ⟨h1.narrow hAB, h2.narrow hAB, h3, h4, h5, h6, h7.narrow hAB, h8.narrow hAB, h9⟩
theorem xa_fact {tF j : Nat} (hx : p.tables.exec = Jvm.exec) (hb : c.code = cc) (hg : gG tF A s s.heap) (hS : va_S A s.heap H locs) (hj : j < 7) (hdg : decode cc pc = .ok (.iaload, 1))
    (kk : W p l e R s m args below meth c H locs cells slots Q (F0 m (pc + 1) ls (.int (nI (fa j)) :: rest))) : W p l e R s m args below meth c H locs cells slots Q (F0 m pc ls (.int (nI j) :: .ref tF :: rest)) :=
  va_ti hx hb hg.2.1 hS (vp_in_nI hj (by decide)) (by rw [nI_clamp (by omega)]) hdg kk
end XWZ
abbrev TYs (cI cZ cJ cG : ClassId) : List (ClassId × FieldType) := [(cI, .int), (cZ, .boolean), (cJ, .long), (cG, .array .int)]
theorem xi_1 (a : Nat) : nI a + Int32.ofInt 1 = nI (a + 1) := nI_1 a
theorem xi_2 (a : Nat) : nI a + Int32.ofInt 2 = nI (a + 2) := nI_add a 2
section XLP
variable {p : Program} {l : Launch} {e : Env} {R : Room} {s : State} {m : MethodId} {args : Array Value} {below : List Frame} {meth : Method} {c : Code} {H : Heap} {locs : List Loc} {cells slots : Nat} {Q : State → Prop} {pc : Nat} {ls : Array Slot} {st : List Value}
theorem xj_0 (I : Array Slot → Heap → List Loc → Prop) (pcj : Nat) (stj : List Value) (cells2 slots2 : Nat)
    (kk : ∀ (ls : Array Slot) (H : Heap) (locs : List Loc), I ls H locs → W p l e R s m args below meth c H locs cells2 slots2 Q (F0 m pcj ls stj))
    (body : (∀ (ls : Array Slot) (H : Heap) (locs : List Loc), I ls H locs → W p l e R s m args below meth c H locs cells2 slots2 Q (F0 m pcj ls stj)) → W p l e R s m args below meth c H locs cells slots Q (F0 m pc ls st)) : W p l e R s m args below meth c H locs cells slots Q (F0 m pc ls st) := body kk
theorem xl_1 {A1 : Type} (I : A1 → Array Slot → Heap → List Loc → Prop) (μ : A1 → Nat)
    (step : ∀ (a1 : A1) (ls : Array Slot) (H : Heap) (locs : List Loc), I a1 ls H locs → (∀ (b1 : A1) (ls : Array Slot) (H : Heap) (locs : List Loc), μ b1 < μ a1 → I b1 ls H locs → W p l e R s m args below meth c H locs cells slots Q (F0 m pc ls st)) → W p l e R s m args below meth c H locs cells slots Q (F0 m pc ls st))
    (a1 : A1) (h : I a1 ls H locs) : W p l e R s m args below meth c H locs cells slots Q (F0 m pc ls st) := by
  suffices hh : ∀ (n : Nat) (a1 : A1) (ls : Array Slot) (H : Heap) (locs : List Loc), μ a1 < n → I a1 ls H locs → W p l e R s m args below meth c H locs cells slots Q (F0 m pc ls st) from hh _ a1 ls H locs (Nat.lt_succ_self _) h
  intro n
  induction n with
  | zero => intro a1 ls H locs hn; exact absurd hn (Nat.not_lt_zero _)
  | succ n ih => intro a1 ls H locs hn hI; exact step a1 ls H locs hI (fun b1 ls H locs h1 h2 => ih b1 ls H locs (Nat.lt_of_lt_of_le h1 (Nat.le_of_lt_succ hn)) h2)
theorem xj_1 {A1 : Type} (I : A1 → Array Slot → Heap → List Loc → Prop) (pcj : Nat) (stj : A1 → List Value) (cells2 slots2 : Nat)
    (kk : ∀ (a1 : A1) (ls : Array Slot) (H : Heap) (locs : List Loc), I a1 ls H locs → W p l e R s m args below meth c H locs cells2 slots2 Q (F0 m pcj ls (stj a1)))
    (body : (∀ (a1 : A1) (ls : Array Slot) (H : Heap) (locs : List Loc), I a1 ls H locs → W p l e R s m args below meth c H locs cells2 slots2 Q (F0 m pcj ls (stj a1))) → W p l e R s m args below meth c H locs cells slots Q (F0 m pc ls st)) : W p l e R s m args below meth c H locs cells slots Q (F0 m pc ls st) := body kk
theorem xl_2 {A1 A2 : Type} (I : A1 → A2 → Array Slot → Heap → List Loc → Prop) (μ : A1 → A2 → Nat)
    (step : ∀ (a1 : A1) (a2 : A2) (ls : Array Slot) (H : Heap) (locs : List Loc), I a1 a2 ls H locs → (∀ (b1 : A1) (b2 : A2) (ls : Array Slot) (H : Heap) (locs : List Loc), μ b1 b2 < μ a1 a2 → I b1 b2 ls H locs → W p l e R s m args below meth c H locs cells slots Q (F0 m pc ls st)) → W p l e R s m args below meth c H locs cells slots Q (F0 m pc ls st))
    (a1 : A1) (a2 : A2) (h : I a1 a2 ls H locs) : W p l e R s m args below meth c H locs cells slots Q (F0 m pc ls st) := by
  suffices hh : ∀ (n : Nat) (a1 : A1) (a2 : A2) (ls : Array Slot) (H : Heap) (locs : List Loc), μ a1 a2 < n → I a1 a2 ls H locs → W p l e R s m args below meth c H locs cells slots Q (F0 m pc ls st) from hh _ a1 a2 ls H locs (Nat.lt_succ_self _) h
  intro n
  induction n with
  | zero => intro a1 a2 ls H locs hn; exact absurd hn (Nat.not_lt_zero _)
  | succ n ih => intro a1 a2 ls H locs hn hI; exact step a1 a2 ls H locs hI (fun b1 b2 ls H locs h1 h2 => ih b1 b2 ls H locs (Nat.lt_of_lt_of_le h1 (Nat.le_of_lt_succ hn)) h2)
theorem xj_2 {A1 A2 : Type} (I : A1 → A2 → Array Slot → Heap → List Loc → Prop) (pcj : Nat) (stj : A1 → A2 → List Value) (cells2 slots2 : Nat)
    (kk : ∀ (a1 : A1) (a2 : A2) (ls : Array Slot) (H : Heap) (locs : List Loc), I a1 a2 ls H locs → W p l e R s m args below meth c H locs cells2 slots2 Q (F0 m pcj ls (stj a1 a2)))
    (body : (∀ (a1 : A1) (a2 : A2) (ls : Array Slot) (H : Heap) (locs : List Loc), I a1 a2 ls H locs → W p l e R s m args below meth c H locs cells2 slots2 Q (F0 m pcj ls (stj a1 a2))) → W p l e R s m args below meth c H locs cells slots Q (F0 m pc ls st)) : W p l e R s m args below meth c H locs cells slots Q (F0 m pc ls st) := body kk
theorem xl_3 {A1 A2 A3 : Type} (I : A1 → A2 → A3 → Array Slot → Heap → List Loc → Prop) (μ : A1 → A2 → A3 → Nat)
    (step : ∀ (a1 : A1) (a2 : A2) (a3 : A3) (ls : Array Slot) (H : Heap) (locs : List Loc), I a1 a2 a3 ls H locs → (∀ (b1 : A1) (b2 : A2) (b3 : A3) (ls : Array Slot) (H : Heap) (locs : List Loc), μ b1 b2 b3 < μ a1 a2 a3 → I b1 b2 b3 ls H locs → W p l e R s m args below meth c H locs cells slots Q (F0 m pc ls st)) → W p l e R s m args below meth c H locs cells slots Q (F0 m pc ls st))
    (a1 : A1) (a2 : A2) (a3 : A3) (h : I a1 a2 a3 ls H locs) : W p l e R s m args below meth c H locs cells slots Q (F0 m pc ls st) := by
  suffices hh : ∀ (n : Nat) (a1 : A1) (a2 : A2) (a3 : A3) (ls : Array Slot) (H : Heap) (locs : List Loc), μ a1 a2 a3 < n → I a1 a2 a3 ls H locs → W p l e R s m args below meth c H locs cells slots Q (F0 m pc ls st) from hh _ a1 a2 a3 ls H locs (Nat.lt_succ_self _) h
  intro n
  induction n with
  | zero => intro a1 a2 a3 ls H locs hn; exact absurd hn (Nat.not_lt_zero _)
  | succ n ih => intro a1 a2 a3 ls H locs hn hI; exact step a1 a2 a3 ls H locs hI (fun b1 b2 b3 ls H locs h1 h2 => ih b1 b2 b3 ls H locs (Nat.lt_of_lt_of_le h1 (Nat.le_of_lt_succ hn)) h2)
theorem xj_3 {A1 A2 A3 : Type} (I : A1 → A2 → A3 → Array Slot → Heap → List Loc → Prop) (pcj : Nat) (stj : A1 → A2 → A3 → List Value) (cells2 slots2 : Nat)
    (kk : ∀ (a1 : A1) (a2 : A2) (a3 : A3) (ls : Array Slot) (H : Heap) (locs : List Loc), I a1 a2 a3 ls H locs → W p l e R s m args below meth c H locs cells2 slots2 Q (F0 m pcj ls (stj a1 a2 a3)))
    (body : (∀ (a1 : A1) (a2 : A2) (a3 : A3) (ls : Array Slot) (H : Heap) (locs : List Loc), I a1 a2 a3 ls H locs → W p l e R s m args below meth c H locs cells2 slots2 Q (F0 m pcj ls (stj a1 a2 a3))) → W p l e R s m args below meth c H locs cells slots Q (F0 m pc ls st)) : W p l e R s m args below meth c H locs cells slots Q (F0 m pc ls st) := body kk
theorem xl_4 {A1 A2 A3 A4 : Type} (I : A1 → A2 → A3 → A4 → Array Slot → Heap → List Loc → Prop) (μ : A1 → A2 → A3 → A4 → Nat)
    (step : ∀ (a1 : A1) (a2 : A2) (a3 : A3) (a4 : A4) (ls : Array Slot) (H : Heap) (locs : List Loc), I a1 a2 a3 a4 ls H locs → (∀ (b1 : A1) (b2 : A2) (b3 : A3) (b4 : A4) (ls : Array Slot) (H : Heap) (locs : List Loc), μ b1 b2 b3 b4 < μ a1 a2 a3 a4 → I b1 b2 b3 b4 ls H locs → W p l e R s m args below meth c H locs cells slots Q (F0 m pc ls st)) → W p l e R s m args below meth c H locs cells slots Q (F0 m pc ls st))
    (a1 : A1) (a2 : A2) (a3 : A3) (a4 : A4) (h : I a1 a2 a3 a4 ls H locs) : W p l e R s m args below meth c H locs cells slots Q (F0 m pc ls st) := by
  suffices hh : ∀ (n : Nat) (a1 : A1) (a2 : A2) (a3 : A3) (a4 : A4) (ls : Array Slot) (H : Heap) (locs : List Loc), μ a1 a2 a3 a4 < n → I a1 a2 a3 a4 ls H locs → W p l e R s m args below meth c H locs cells slots Q (F0 m pc ls st) from hh _ a1 a2 a3 a4 ls H locs (Nat.lt_succ_self _) h
  intro n
  induction n with
  | zero => intro a1 a2 a3 a4 ls H locs hn; exact absurd hn (Nat.not_lt_zero _)
  | succ n ih => intro a1 a2 a3 a4 ls H locs hn hI; exact step a1 a2 a3 a4 ls H locs hI (fun b1 b2 b3 b4 ls H locs h1 h2 => ih b1 b2 b3 b4 ls H locs (Nat.lt_of_lt_of_le h1 (Nat.le_of_lt_succ hn)) h2)
theorem xj_4 {A1 A2 A3 A4 : Type} (I : A1 → A2 → A3 → A4 → Array Slot → Heap → List Loc → Prop) (pcj : Nat) (stj : A1 → A2 → A3 → A4 → List Value) (cells2 slots2 : Nat)
    (kk : ∀ (a1 : A1) (a2 : A2) (a3 : A3) (a4 : A4) (ls : Array Slot) (H : Heap) (locs : List Loc), I a1 a2 a3 a4 ls H locs → W p l e R s m args below meth c H locs cells2 slots2 Q (F0 m pcj ls (stj a1 a2 a3 a4)))
    (body : (∀ (a1 : A1) (a2 : A2) (a3 : A3) (a4 : A4) (ls : Array Slot) (H : Heap) (locs : List Loc), I a1 a2 a3 a4 ls H locs → W p l e R s m args below meth c H locs cells2 slots2 Q (F0 m pcj ls (stj a1 a2 a3 a4))) → W p l e R s m args below meth c H locs cells slots Q (F0 m pc ls st)) : W p l e R s m args below meth c H locs cells slots Q (F0 m pc ls st) := body kk
theorem xl_5 {A1 A2 A3 A4 A5 : Type} (I : A1 → A2 → A3 → A4 → A5 → Array Slot → Heap → List Loc → Prop) (μ : A1 → A2 → A3 → A4 → A5 → Nat)
    (step : ∀ (a1 : A1) (a2 : A2) (a3 : A3) (a4 : A4) (a5 : A5) (ls : Array Slot) (H : Heap) (locs : List Loc), I a1 a2 a3 a4 a5 ls H locs → (∀ (b1 : A1) (b2 : A2) (b3 : A3) (b4 : A4) (b5 : A5) (ls : Array Slot) (H : Heap) (locs : List Loc), μ b1 b2 b3 b4 b5 < μ a1 a2 a3 a4 a5 → I b1 b2 b3 b4 b5 ls H locs → W p l e R s m args below meth c H locs cells slots Q (F0 m pc ls st)) → W p l e R s m args below meth c H locs cells slots Q (F0 m pc ls st))
    (a1 : A1) (a2 : A2) (a3 : A3) (a4 : A4) (a5 : A5) (h : I a1 a2 a3 a4 a5 ls H locs) : W p l e R s m args below meth c H locs cells slots Q (F0 m pc ls st) := by
  suffices hh : ∀ (n : Nat) (a1 : A1) (a2 : A2) (a3 : A3) (a4 : A4) (a5 : A5) (ls : Array Slot) (H : Heap) (locs : List Loc), μ a1 a2 a3 a4 a5 < n → I a1 a2 a3 a4 a5 ls H locs → W p l e R s m args below meth c H locs cells slots Q (F0 m pc ls st) from hh _ a1 a2 a3 a4 a5 ls H locs (Nat.lt_succ_self _) h
  intro n
  induction n with
  | zero => intro a1 a2 a3 a4 a5 ls H locs hn; exact absurd hn (Nat.not_lt_zero _)
  | succ n ih => intro a1 a2 a3 a4 a5 ls H locs hn hI; exact step a1 a2 a3 a4 a5 ls H locs hI (fun b1 b2 b3 b4 b5 ls H locs h1 h2 => ih b1 b2 b3 b4 b5 ls H locs (Nat.lt_of_lt_of_le h1 (Nat.le_of_lt_succ hn)) h2)
theorem xj_5 {A1 A2 A3 A4 A5 : Type} (I : A1 → A2 → A3 → A4 → A5 → Array Slot → Heap → List Loc → Prop) (pcj : Nat) (stj : A1 → A2 → A3 → A4 → A5 → List Value) (cells2 slots2 : Nat)
    (kk : ∀ (a1 : A1) (a2 : A2) (a3 : A3) (a4 : A4) (a5 : A5) (ls : Array Slot) (H : Heap) (locs : List Loc), I a1 a2 a3 a4 a5 ls H locs → W p l e R s m args below meth c H locs cells2 slots2 Q (F0 m pcj ls (stj a1 a2 a3 a4 a5)))
    (body : (∀ (a1 : A1) (a2 : A2) (a3 : A3) (a4 : A4) (a5 : A5) (ls : Array Slot) (H : Heap) (locs : List Loc), I a1 a2 a3 a4 a5 ls H locs → W p l e R s m args below meth c H locs cells2 slots2 Q (F0 m pcj ls (stj a1 a2 a3 a4 a5))) → W p l e R s m args below meth c H locs cells slots Q (F0 m pc ls st)) : W p l e R s m args below meth c H locs cells slots Q (F0 m pc ls st) := body kk
theorem xl_6 {A1 A2 A3 A4 A5 A6 : Type} (I : A1 → A2 → A3 → A4 → A5 → A6 → Array Slot → Heap → List Loc → Prop) (μ : A1 → A2 → A3 → A4 → A5 → A6 → Nat)
    (step : ∀ (a1 : A1) (a2 : A2) (a3 : A3) (a4 : A4) (a5 : A5) (a6 : A6) (ls : Array Slot) (H : Heap) (locs : List Loc), I a1 a2 a3 a4 a5 a6 ls H locs → (∀ (b1 : A1) (b2 : A2) (b3 : A3) (b4 : A4) (b5 : A5) (b6 : A6) (ls : Array Slot) (H : Heap) (locs : List Loc), μ b1 b2 b3 b4 b5 b6 < μ a1 a2 a3 a4 a5 a6 → I b1 b2 b3 b4 b5 b6 ls H locs → W p l e R s m args below meth c H locs cells slots Q (F0 m pc ls st)) → W p l e R s m args below meth c H locs cells slots Q (F0 m pc ls st))
    (a1 : A1) (a2 : A2) (a3 : A3) (a4 : A4) (a5 : A5) (a6 : A6) (h : I a1 a2 a3 a4 a5 a6 ls H locs) : W p l e R s m args below meth c H locs cells slots Q (F0 m pc ls st) := by
  suffices hh : ∀ (n : Nat) (a1 : A1) (a2 : A2) (a3 : A3) (a4 : A4) (a5 : A5) (a6 : A6) (ls : Array Slot) (H : Heap) (locs : List Loc), μ a1 a2 a3 a4 a5 a6 < n → I a1 a2 a3 a4 a5 a6 ls H locs → W p l e R s m args below meth c H locs cells slots Q (F0 m pc ls st) from hh _ a1 a2 a3 a4 a5 a6 ls H locs (Nat.lt_succ_self _) h
  intro n
  induction n with
  | zero => intro a1 a2 a3 a4 a5 a6 ls H locs hn; exact absurd hn (Nat.not_lt_zero _)
  | succ n ih => intro a1 a2 a3 a4 a5 a6 ls H locs hn hI; exact step a1 a2 a3 a4 a5 a6 ls H locs hI (fun b1 b2 b3 b4 b5 b6 ls H locs h1 h2 => ih b1 b2 b3 b4 b5 b6 ls H locs (Nat.lt_of_lt_of_le h1 (Nat.le_of_lt_succ hn)) h2)
theorem xj_6 {A1 A2 A3 A4 A5 A6 : Type} (I : A1 → A2 → A3 → A4 → A5 → A6 → Array Slot → Heap → List Loc → Prop) (pcj : Nat) (stj : A1 → A2 → A3 → A4 → A5 → A6 → List Value) (cells2 slots2 : Nat)
    (kk : ∀ (a1 : A1) (a2 : A2) (a3 : A3) (a4 : A4) (a5 : A5) (a6 : A6) (ls : Array Slot) (H : Heap) (locs : List Loc), I a1 a2 a3 a4 a5 a6 ls H locs → W p l e R s m args below meth c H locs cells2 slots2 Q (F0 m pcj ls (stj a1 a2 a3 a4 a5 a6)))
    (body : (∀ (a1 : A1) (a2 : A2) (a3 : A3) (a4 : A4) (a5 : A5) (a6 : A6) (ls : Array Slot) (H : Heap) (locs : List Loc), I a1 a2 a3 a4 a5 a6 ls H locs → W p l e R s m args below meth c H locs cells2 slots2 Q (F0 m pcj ls (stj a1 a2 a3 a4 a5 a6))) → W p l e R s m args below meth c H locs cells slots Q (F0 m pc ls st)) : W p l e R s m args below meth c H locs cells slots Q (F0 m pc ls st) := body kk
theorem xl_7 {A1 A2 A3 A4 A5 A6 A7 : Type} (I : A1 → A2 → A3 → A4 → A5 → A6 → A7 → Array Slot → Heap → List Loc → Prop) (μ : A1 → A2 → A3 → A4 → A5 → A6 → A7 → Nat)
    (step : ∀ (a1 : A1) (a2 : A2) (a3 : A3) (a4 : A4) (a5 : A5) (a6 : A6) (a7 : A7) (ls : Array Slot) (H : Heap) (locs : List Loc), I a1 a2 a3 a4 a5 a6 a7 ls H locs → (∀ (b1 : A1) (b2 : A2) (b3 : A3) (b4 : A4) (b5 : A5) (b6 : A6) (b7 : A7) (ls : Array Slot) (H : Heap) (locs : List Loc), μ b1 b2 b3 b4 b5 b6 b7 < μ a1 a2 a3 a4 a5 a6 a7 → I b1 b2 b3 b4 b5 b6 b7 ls H locs → W p l e R s m args below meth c H locs cells slots Q (F0 m pc ls st)) → W p l e R s m args below meth c H locs cells slots Q (F0 m pc ls st))
    (a1 : A1) (a2 : A2) (a3 : A3) (a4 : A4) (a5 : A5) (a6 : A6) (a7 : A7) (h : I a1 a2 a3 a4 a5 a6 a7 ls H locs) : W p l e R s m args below meth c H locs cells slots Q (F0 m pc ls st) := by
  suffices hh : ∀ (n : Nat) (a1 : A1) (a2 : A2) (a3 : A3) (a4 : A4) (a5 : A5) (a6 : A6) (a7 : A7) (ls : Array Slot) (H : Heap) (locs : List Loc), μ a1 a2 a3 a4 a5 a6 a7 < n → I a1 a2 a3 a4 a5 a6 a7 ls H locs → W p l e R s m args below meth c H locs cells slots Q (F0 m pc ls st) from hh _ a1 a2 a3 a4 a5 a6 a7 ls H locs (Nat.lt_succ_self _) h
  intro n
  induction n with
  | zero => intro a1 a2 a3 a4 a5 a6 a7 ls H locs hn; exact absurd hn (Nat.not_lt_zero _)
  | succ n ih => intro a1 a2 a3 a4 a5 a6 a7 ls H locs hn hI; exact step a1 a2 a3 a4 a5 a6 a7 ls H locs hI (fun b1 b2 b3 b4 b5 b6 b7 ls H locs h1 h2 => ih b1 b2 b3 b4 b5 b6 b7 ls H locs (Nat.lt_of_lt_of_le h1 (Nat.le_of_lt_succ hn)) h2)
theorem xj_7 {A1 A2 A3 A4 A5 A6 A7 : Type} (I : A1 → A2 → A3 → A4 → A5 → A6 → A7 → Array Slot → Heap → List Loc → Prop) (pcj : Nat) (stj : A1 → A2 → A3 → A4 → A5 → A6 → A7 → List Value) (cells2 slots2 : Nat)
    (kk : ∀ (a1 : A1) (a2 : A2) (a3 : A3) (a4 : A4) (a5 : A5) (a6 : A6) (a7 : A7) (ls : Array Slot) (H : Heap) (locs : List Loc), I a1 a2 a3 a4 a5 a6 a7 ls H locs → W p l e R s m args below meth c H locs cells2 slots2 Q (F0 m pcj ls (stj a1 a2 a3 a4 a5 a6 a7)))
    (body : (∀ (a1 : A1) (a2 : A2) (a3 : A3) (a4 : A4) (a5 : A5) (a6 : A6) (a7 : A7) (ls : Array Slot) (H : Heap) (locs : List Loc), I a1 a2 a3 a4 a5 a6 a7 ls H locs → W p l e R s m args below meth c H locs cells2 slots2 Q (F0 m pcj ls (stj a1 a2 a3 a4 a5 a6 a7))) → W p l e R s m args below meth c H locs cells slots Q (F0 m pc ls st)) : W p l e R s m args below meth c H locs cells slots Q (F0 m pc ls st) := body kk
theorem xl_8 {A1 A2 A3 A4 A5 A6 A7 A8 : Type} (I : A1 → A2 → A3 → A4 → A5 → A6 → A7 → A8 → Array Slot → Heap → List Loc → Prop) (μ : A1 → A2 → A3 → A4 → A5 → A6 → A7 → A8 → Nat)
    (step : ∀ (a1 : A1) (a2 : A2) (a3 : A3) (a4 : A4) (a5 : A5) (a6 : A6) (a7 : A7) (a8 : A8) (ls : Array Slot) (H : Heap) (locs : List Loc), I a1 a2 a3 a4 a5 a6 a7 a8 ls H locs → (∀ (b1 : A1) (b2 : A2) (b3 : A3) (b4 : A4) (b5 : A5) (b6 : A6) (b7 : A7) (b8 : A8) (ls : Array Slot) (H : Heap) (locs : List Loc), μ b1 b2 b3 b4 b5 b6 b7 b8 < μ a1 a2 a3 a4 a5 a6 a7 a8 → I b1 b2 b3 b4 b5 b6 b7 b8 ls H locs → W p l e R s m args below meth c H locs cells slots Q (F0 m pc ls st)) → W p l e R s m args below meth c H locs cells slots Q (F0 m pc ls st))
    (a1 : A1) (a2 : A2) (a3 : A3) (a4 : A4) (a5 : A5) (a6 : A6) (a7 : A7) (a8 : A8) (h : I a1 a2 a3 a4 a5 a6 a7 a8 ls H locs) : W p l e R s m args below meth c H locs cells slots Q (F0 m pc ls st) := by
  suffices hh : ∀ (n : Nat) (a1 : A1) (a2 : A2) (a3 : A3) (a4 : A4) (a5 : A5) (a6 : A6) (a7 : A7) (a8 : A8) (ls : Array Slot) (H : Heap) (locs : List Loc), μ a1 a2 a3 a4 a5 a6 a7 a8 < n → I a1 a2 a3 a4 a5 a6 a7 a8 ls H locs → W p l e R s m args below meth c H locs cells slots Q (F0 m pc ls st) from hh _ a1 a2 a3 a4 a5 a6 a7 a8 ls H locs (Nat.lt_succ_self _) h
  intro n
  induction n with
  | zero => intro a1 a2 a3 a4 a5 a6 a7 a8 ls H locs hn; exact absurd hn (Nat.not_lt_zero _)
  | succ n ih => intro a1 a2 a3 a4 a5 a6 a7 a8 ls H locs hn hI; exact step a1 a2 a3 a4 a5 a6 a7 a8 ls H locs hI (fun b1 b2 b3 b4 b5 b6 b7 b8 ls H locs h1 h2 => ih b1 b2 b3 b4 b5 b6 b7 b8 ls H locs (Nat.lt_of_lt_of_le h1 (Nat.le_of_lt_succ hn)) h2)
theorem xj_8 {A1 A2 A3 A4 A5 A6 A7 A8 : Type} (I : A1 → A2 → A3 → A4 → A5 → A6 → A7 → A8 → Array Slot → Heap → List Loc → Prop) (pcj : Nat) (stj : A1 → A2 → A3 → A4 → A5 → A6 → A7 → A8 → List Value) (cells2 slots2 : Nat)
    (kk : ∀ (a1 : A1) (a2 : A2) (a3 : A3) (a4 : A4) (a5 : A5) (a6 : A6) (a7 : A7) (a8 : A8) (ls : Array Slot) (H : Heap) (locs : List Loc), I a1 a2 a3 a4 a5 a6 a7 a8 ls H locs → W p l e R s m args below meth c H locs cells2 slots2 Q (F0 m pcj ls (stj a1 a2 a3 a4 a5 a6 a7 a8)))
    (body : (∀ (a1 : A1) (a2 : A2) (a3 : A3) (a4 : A4) (a5 : A5) (a6 : A6) (a7 : A7) (a8 : A8) (ls : Array Slot) (H : Heap) (locs : List Loc), I a1 a2 a3 a4 a5 a6 a7 a8 ls H locs → W p l e R s m args below meth c H locs cells2 slots2 Q (F0 m pcj ls (stj a1 a2 a3 a4 a5 a6 a7 a8))) → W p l e R s m args below meth c H locs cells slots Q (F0 m pc ls st)) : W p l e R s m args below meth c H locs cells slots Q (F0 m pc ls st) := body kk
end XLP
