section XNW
variable {p : Program} {l : Launch} {e : Env} {R : Room} {s : State} {m : MethodId} {args : Array Value} {below : List Frame} {meth : Method} {c : Code} {H : Heap} {locs : List Loc} {cells slots : Nat} {Q : State → Prop}
variable {cc : ByteArray} {pc : Nat} {ls : Array Slot} {rest st : List Value} {D : va_G} {cl : List vw_C} {A : Nat → Prop} {a : Nat} {TY : List (ClassId × FieldType)} {ws : va_W} {H0 : Heap}
/-- a new array, its class one that the walk knows -/
theorem xa_new (hx : p.tables.exec = Jvm.exec) (hb : c.code = cc) {atype : ArrayType} {ty : FieldType} {cA : ClassId} {k : Nat} {a0 : vp_A} (harr : (Cond.arrayClass (newarray.typeOf atype)).before args s = true) (hty : newarray.typeOf atype = ty) (hK : va_K D cl TY s) (hP : va_P D cl ws H) (hD : va_D A ws) (hS : va_S A H0 H locs) (hA : ∀ q, H0.size ≤ q → A q)
    (t0 : Nat) (ht : TY[t0]? = some (cA, ty)) (hra : ∀ cB : ClassId, va_RA s cB ty → s.vm.findClass ("[" ++ ty.toString) = some cB) (ha : ∀ cB : ClassId, vp_cell cB a0 = arrV cB k (fun _ => defaultValue ty)) (hk : k < 2147483648) (hbytes : k * componentBytes ty ≤ 536870912) (hcells : cells + 1 ≤ R.cells) (hslots : slots + k ≤ R.slots) (hdg : decode cc pc = .ok (.newarray atype, 2))
    (kk : ∀ (q : Nat) (H1 : Heap), va_P D cl (ws ++ [(q, .inl (cA, a0))]) H1 → va_D A (ws ++ [(q, .inl (cA, a0))]) → va_S A H0 H1 locs → W p l e R s m args below meth c H1 locs (cells + 1) (slots + k) Q (F0 m (pc + 2) ls (.ref q :: rest))) : W p l e R s m args below meth c H locs cells slots Q (F0 m pc ls (.int (nI k) :: rest)) := by
  refine va_newa hx hb harr hty hK hP hD hS hA ha (nI_pos hk) (nI_clamp hk) hbytes hcells hslots hdg (fun q cB H1 hK2 hP2 hD2 hS2 => ?_)
  have h1 := hra cB (hK2.2 TY.length (cB, ty) (by rw [List.getElem?_append_right (Nat.le_refl _), Nat.sub_self]; rfl)).2
  have h2 := hra cA (hK.2 t0 _ ht).2
  cases h1.symm.trans h2
  exact kk q H1 hP2 hD2 hS2
theorem xa_newI (hx : p.tables.exec = Jvm.exec) (hb : c.code = cc) {cA : ClassId} {k : Nat} (harr : (Cond.arrayClass .int).before args s = true) (hK : va_K D cl TY s) (hP : va_P D cl ws H) (hD : va_D A ws) (hS : va_S A H0 H locs) (hA : ∀ q, H0.size ≤ q → A q) (t0 : Nat) (ht : TY[t0]? = some (cA, .int)) (hk : k < 100000) (hcells : cells + 1 ≤ R.cells) (hslots : slots + k ≤ R.slots) (hdg : decode cc pc = .ok (.newarray .int, 2))
    (kk : ∀ (q : Nat) (H1 : Heap), va_P D cl (ws ++ [(q, .inl (cA, k, .inl (fun _ => nI 0)))]) H1 → va_D A (ws ++ [(q, .inl (cA, k, .inl (fun _ => nI 0)))]) → va_S A H0 H1 locs → W p l e R s m args below meth c H1 locs (cells + 1) (slots + k) Q (F0 m (pc + 2) ls (.ref q :: rest))) : W p l e R s m args below meth c H locs cells slots Q (F0 m pc ls (.int (nI k) :: rest)) :=
  xa_new (atype := .int) (ty := .int) (a0 := (k, .inl (fun _ => nI 0))) hx hb harr rfl hK hP hD hS hA t0 ht (fun _ h => h) (fun _ => rfl) (by omega) (by show k * 4 ≤ 536870912; omega) hcells hslots hdg kk
theorem xa_newZ (hx : p.tables.exec = Jvm.exec) (hb : c.code = cc) {cA : ClassId} {k : Nat} (harr : (Cond.arrayClass .boolean).before args s = true) (hK : va_K D cl TY s) (hP : va_P D cl ws H) (hD : va_D A ws) (hS : va_S A H0 H locs) (hA : ∀ q, H0.size ≤ q → A q) (t0 : Nat) (ht : TY[t0]? = some (cA, .boolean)) (hk : k < 100000) (hcells : cells + 1 ≤ R.cells) (hslots : slots + k ≤ R.slots) (hdg : decode cc pc = .ok (.newarray .boolean, 2))
    (kk : ∀ (q : Nat) (H1 : Heap), va_P D cl (ws ++ [(q, .inl (cA, k, .inl (fun _ => nI 0)))]) H1 → va_D A (ws ++ [(q, .inl (cA, k, .inl (fun _ => nI 0)))]) → va_S A H0 H1 locs → W p l e R s m args below meth c H1 locs (cells + 1) (slots + k) Q (F0 m (pc + 2) ls (.ref q :: rest))) : W p l e R s m args below meth c H locs cells slots Q (F0 m pc ls (.int (nI k) :: rest)) :=
  xa_new (atype := .boolean) (ty := .boolean) (a0 := (k, .inl (fun _ => nI 0))) hx hb harr rfl hK hP hD hS hA t0 ht (fun _ h => h) (fun _ => rfl) (by omega) (by show k * 1 ≤ 536870912; omega) hcells hslots hdg kk
theorem xa_newJ (hx : p.tables.exec = Jvm.exec) (hb : c.code = cc) {cA : ClassId} {k : Nat} (harr : (Cond.arrayClass .long).before args s = true) (hK : va_K D cl TY s) (hP : va_P D cl ws H) (hD : va_D A ws) (hS : va_S A H0 H locs) (hA : ∀ q, H0.size ≤ q → A q) (t0 : Nat) (ht : TY[t0]? = some (cA, .long)) (hk : k < 100000) (hcells : cells + 1 ≤ R.cells) (hslots : slots + k ≤ R.slots) (hdg : decode cc pc = .ok (.newarray .long, 2))
    (kk : ∀ (q : Nat) (H1 : Heap), va_P D cl (ws ++ [(q, .inl (cA, k, .inr (.inl (fun _ => 0))))]) H1 → va_D A (ws ++ [(q, .inl (cA, k, .inr (.inl (fun _ => 0))))]) → va_S A H0 H1 locs → W p l e R s m args below meth c H1 locs (cells + 1) (slots + k) Q (F0 m (pc + 2) ls (.ref q :: rest))) : W p l e R s m args below meth c H locs cells slots Q (F0 m pc ls (.int (nI k) :: rest)) :=
  xa_new (atype := .long) (ty := .long) (a0 := (k, .inr (.inl (fun _ => 0)))) hx hb harr rfl hK hP hD hS hA t0 ht (fun _ h => h) (fun _ => rfl) (by omega) (by show k * 8 ≤ 536870912; omega) hcells hslots hdg kk
theorem arrV_eq {cA : ClassId} {N : Nat} {f g : Nat → Value} (h : ∀ j, j < N → f j = g j) : arrV cA N f = arrV cA N g := by
  unfold arrV
  congr 1
  exact congrArg Array.ofFn (funext fun j => h j.val j.isLt)
theorem xo_outer (cA : ClassId) (h0 : Nat) : Jvm.Free.Multi.outerC cA 4 h0 4 = vp_cell cA (4, .inr (.inr (.inr (.inr (pO (h0 + 1) (h0 + 2) (h0 + 3) (h0 + 4)))))) := by
  rw [vp_cell_q]
  show (((((({ cls := cA, slots := Array.replicate 4 .null, vm := .none } : Cell).setSlot 0 (.ref (h0 + 1 + 0))).setSlot 1 (.ref (h0 + 1 + 1))).setSlot 2 (.ref (h0 + 1 + 2))).setSlot 3 (.ref (h0 + 1 + 3)))) = _
  rw [arrV_new, arrV_store, arrV_store, arrV_store, arrV_store]
  refine arrV_eq fun j hj => ?_
  match j, hj with
  | 0, _ => rfl
  | 1, _ => rfl
  | 2, _ => rfl
  | 3, _ => rfl
  | k + 4, h => exact absurd h (by omega)
/-- new int[4][6] -/
theorem xa_mna {cI cZ cJ cG : ClassId} {own : String} {index : Nat} (hx : p.tables.exec = Jvm.exec) (hb : c.code = cc) (hown : s.vm.findClass own = some m.cls) (hclink : (Cond.classLink own index "[[I").before args s = true) (hover : (Cond.arrayOver (.array .int)).before args s = true) (harr : (Cond.arrayClass .int).before args s = true)
    (hK : va_K D cl (TYs cI cZ cJ cG) s) (hP : va_P D cl ws H) (hD : va_D A ws) (hS : va_S A H0 H locs) (hA : ∀ q, H0.size ≤ q → A q) (hcells : cells + 5 ≤ R.cells) (hslots : slots + 28 ≤ R.slots) (hdg : decode cc pc = .ok (.multianewarray index 2, 4))
    (kk : ∀ (q r0 r1 r2 r3 : Nat) (H1 : Heap), va_P D cl (ws ++ [(q, .inl (cG, 4, .inr (.inr (.inr (.inr (pO r0 r1 r2 r3)))))), (r0, .inl (cI, 6, .inl (fun _ => nI 0))), (r1, .inl (cI, 6, .inl (fun _ => nI 0))), (r2, .inl (cI, 6, .inl (fun _ => nI 0))), (r3, .inl (cI, 6, .inl (fun _ => nI 0)))]) H1 → va_D A (ws ++ [(q, .inl (cG, 4, .inr (.inr (.inr (.inr (pO r0 r1 r2 r3)))))), (r0, .inl (cI, 6, .inl (fun _ => nI 0))), (r1, .inl (cI, 6, .inl (fun _ => nI 0))), (r2, .inl (cI, 6, .inl (fun _ => nI 0))), (r3, .inl (cI, 6, .inl (fun _ => nI 0)))]) → va_S A H0 H1 locs →
      W p l e R s m args below meth c H1 locs (cells + 5) (slots + 28) Q (F0 m (pc + 4) ls (.ref q :: rest))) : W p l e R s m args below meth c H locs cells slots Q (F0 m pc ls (.int (nI 6) :: .int (nI 4) :: rest)) := by
  intro T hT X0
  obtain ⟨vm₁, cA, comp, -, fA, fC, -, -, X', step⟩ := X0.multianewarray2F hx (ty := .int) hown hclink hover harr (g := F0 m pc ls (.int (nI 6) :: .int (nI 4) :: rest)) rfl (by rw [hb]; exact hdg) rfl (by decide) (by decide) (by decide) (by decide) (by decide) rfl rfl hcells hslots
  have e1 : s.vm.findClass "[I" = some cI := (hK.2 0 _ rfl).2
  have e2 : s.vm.findClass "[[I" = some cG := (hK.2 3 _ rfl).2
  have e3 : s.vm.findClass "[I" = some comp := fC
  have e4 : s.vm.findClass "[[I" = some cA := fA
  cases e1.symm.trans e3
  cases e2.symm.trans e4
  have hN : (nI 4).toNatClampNeg = 4 := nI_clamp (by decide)
  have hM : (nI 6).toNatClampNeg = 6 := nI_clamp (by decide)
  rw [hN, hM] at X' step
  generalize hF : Jvm.Free.Multi.fill (T.setVm vm₁) cG cI 4 6 (defaultValue .int) 4 = F at X' step
  have hTh : (T.setVm vm₁).heap = H := hT
  obtain ⟨f1, f2, -, -⟩ := Jvm.Free.Multi.fill_facts (T.setVm vm₁) cG cI 4 6 (defaultValue .int) 4
  rw [hF, hTh] at f1 f2
  rw [xo_outer] at f2
  have hold : ∀ x : Nat, x < H.size → F.heap[x]? = H[x]? := fun x hx => by
    have := Jvm.Free.Multi.fill_old (T.setVm vm₁) cG cI 4 6 (defaultValue .int) (a := x) (by rw [hTh]; exact hx) 4
    rw [hF, hTh] at this
    exact this
  have hrow : ∀ j : Nat, j < 4 → F.heap[H.size + 1 + j]? = some (vp_cell cI (6, .inl (fun _ => nI 0))) := fun j hj => by
    have := Jvm.Free.Multi.fill_inner (T.setVm vm₁) cG cI 4 6 (defaultValue .int) 4 j hj
    rw [hF, hTh] at this
    rw [this]
    exact congrArg some (arrV_new cI 6 (.int 0))
  have hP1 : va_P D cl (ws ++ [(H.size, .inl (cG, 4, .inr (.inr (.inr (.inr (pO (H.size + 1) (H.size + 2) (H.size + 3) (H.size + 4))))))), (H.size + 1, .inl (cI, 6, .inl (fun _ => nI 0))), (H.size + 2, .inl (cI, 6, .inl (fun _ => nI 0))), (H.size + 3, .inl (cI, 6, .inl (fun _ => nI 0))), (H.size + 4, .inl (cI, 6, .inl (fun _ => nI 0)))]) F.heap := by
    refine va_P.app (hP.kept (fun k9 x hx => hold x.1 ((hP k9 x hx).lt))) (fun k9 x hx => ?_)
    match k9, hx with
    | 0, hx => cases hx; exact f2
    | 1, hx => cases hx; exact hrow 0 (by decide)
    | 2, hx => cases hx; exact hrow 1 (by decide)
    | 3, hx => cases hx; exact hrow 2 (by decide)
    | 4, hx => cases hx; exact hrow 3 (by decide)
    | k + 5, hx => cases hx
  have hD1 : va_D A (ws ++ [(H.size, .inl (cG, 4, .inr (.inr (.inr (.inr (pO (H.size + 1) (H.size + 2) (H.size + 3) (H.size + 4))))))), (H.size + 1, .inl (cI, 6, .inl (fun _ => nI 0))), (H.size + 2, .inl (cI, 6, .inl (fun _ => nI 0))), (H.size + 3, .inl (cI, 6, .inl (fun _ => nI 0))), (H.size + 4, .inl (cI, 6, .inl (fun _ => nI 0)))]) := by
    have hat : ∀ (k9 : Nat) (x : Nat × va_E), ([(H.size, .inl (cG, 4, .inr (.inr (.inr (.inr (pO (H.size + 1) (H.size + 2) (H.size + 3) (H.size + 4))))))), (H.size + 1, .inl (cI, 6, .inl (fun _ => nI 0))), (H.size + 2, .inl (cI, 6, .inl (fun _ => nI 0))), (H.size + 3, .inl (cI, 6, .inl (fun _ => nI 0))), (H.size + 4, .inl (cI, 6, .inl (fun _ => nI 0)))] : va_W)[k9]? = some x → x.1 = H.size + k9 := fun k9 x hx => by
      match k9, hx with
      | 0, hx => cases hx; rfl
      | 1, hx => cases hx; rfl
      | 2, hx => cases hx; rfl
      | 3, hx => cases hx; rfl
      | 4, hx => cases hx; rfl
      | k + 5, hx => cases hx
    refine va_D.app hD ⟨fun i j x y hi hj hxy => ?_, fun k9 x hx => ?_⟩ (fun i j x y hi hj hxy => ?_)
    · rw [hat i x hi, hat j y hj] at hxy; omega
    · rw [hat k9 x hx]; exact hA _ (Nat.le_trans hS.1 (Nat.le_add_right _ _))
    · have h1 := (hP i x hi).lt
      rw [hxy, hat j y hj] at h1; omega
  obtain ⟨t2, a1, b1⟩ := kk H.size (H.size + 1) (H.size + 2) (H.size + 3) (H.size + 4) F.heap hP1 hD1 ⟨Nat.le_trans hS.1 (by rw [f1]; omega), fun x h1 h2 => (hold x (Nat.lt_of_lt_of_le h1 hS.1)).trans (hS.2.1 x h1 h2), hS.2.2⟩ F rfl X'
  exact ⟨t2, step t2 (by rw [hT]; exact a1), b1⟩
/-- long[] -/
theorem xa_last {cA : ClassId} {n : Nat} {f : Nat → Int64} (hx : p.tables.exec = Jvm.exec) (hb : c.code = cc) (hK : va_K D cl TY s) (hP : va_P D cl ws H) (hD : va_D A ws) (hS : va_S A H0 H locs) (q0 t0 : Nat) (ha : ws[q0]? = some (a, .inl (cA, n, .inr (.inl f)))) (ht : TY[t0]? = some (cA, .long)) {j : Nat} {x : Int64} (hj : j < n) (hn : n < 2147483648) (hdg : decode cc pc = .ok (.lastore, 1))
    (kk : ∀ (H1 : Heap) (locs1 : List Loc), va_P D cl (ws.set q0 (a, .inl (cA, n, .inr (.inl (vp_updL f j x))))) H1 → va_D A (ws.set q0 (a, .inl (cA, n, .inr (.inl (vp_updL f j x))))) → va_S A H0 H1 locs1 → W p l e R s m args below meth c H1 locs1 cells slots Q (F0 m (pc + 1) ls rest)) : W p l e R s m args below meth c H locs cells slots Q (F0 m pc ls (.long x :: .int (nI j) :: .ref a :: rest)) := by
  refine va_last hx hb hK hP hD hS q0 t0 ha ht (vp_in_nI hj hn) hdg ?_
  rw [nI_clamp (Nat.lt_trans hj hn)]
  exact kk
theorem xa_lald {cA : ClassId} {n : Nat} {f : Nat → Int64} (hx : p.tables.exec = Jvm.exec) (hb : c.code = cc) (hK : va_K D cl TY s) (hP : va_P D cl ws H) (q0 t0 : Nat) (ha : ws[q0]? = some (a, .inl (cA, n, .inr (.inl f)))) (ht : TY[t0]? = some (cA, .long)) {j : Nat} {v : Int64} (hj : j < n) (hn : n < 2147483648) (hv : f j = v) (hdg : decode cc pc = .ok (.laload, 1))
    (kk : W p l e R s m args below meth c H locs cells slots Q (F0 m (pc + 1) ls (.long v :: rest))) : W p l e R s m args below meth c H locs cells slots Q (F0 m pc ls (.int (nI j) :: .ref a :: rest)) := by
  refine va_lald hx hb hK hP q0 t0 ha ht (vp_in_nI hj hn) hdg ?_
  rw [nI_clamp (Nat.lt_trans hj hn), hv]
  exact kk
theorem xn_l {x y : Int64} (h : x = y) (k : W p l e R s m args below meth c H locs cells slots Q (F0 m pc ls (.long y :: rest))) : W p l e R s m args below meth c H locs cells slots Q (F0 m pc ls (.long x :: rest)) := h ▸ k
end XNW
theorem z_Look : ∀ j, j < 11 → defaultValue (t_Look j) = vp_V [.null, .null, .null, .int (nI 0), .int (nI 0), .int (nI 0), .int (nI 0), .int (nI false.toNat), .int (nI 0), .int (nI 0), .int (nI false.toNat)] j := by
  intro j hj
  match j, hj with
  | 0, _ => rfl
  | 1, _ => rfl
  | 2, _ => rfl
  | 3, _ => rfl
  | 4, _ => rfl
  | 5, _ => rfl
  | 6, _ => rfl
  | 7, _ => rfl
  | 8, _ => rfl
  | 9, _ => rfl
  | 10, _ => rfl
  | k + 11, h => exact absurd h (by omega)
theorem z_Met : ∀ j, j < 4 → defaultValue (t_Met j) = vp_V [.null, .int (nI 0), .int (nI 0), .int (nI 0)] j := by
  intro j hj
  match j, hj with
  | 0, _ => rfl
  | 1, _ => rfl
  | 2, _ => rfl
  | 3, _ => rfl
  | k + 4, h => exact absurd h (by omega)
theorem z_Ring : ∀ j, j < 3 → defaultValue (t_Ring j) = vp_V [.null, .null, .null] j := by
  intro j hj
  match j, hj with
  | 0, _ => rfl
  | 1, _ => rfl
  | 2, _ => rfl
  | k + 3, h => exact absurd h (by omega)
theorem z_Row : ∀ j, j < 2 → defaultValue (t_Row j) = vp_V [.null, .int (nI 0)] j := by
  intro j hj
  match j, hj with
  | 0, _ => rfl
  | 1, _ => rfl
  | k + 2, h => exact absurd h (by omega)
theorem z_Set : ∀ j, j < 3 → defaultValue (t_Set j) = vp_V [.null, .null, .int (nI 0)] j := by
  intro j hj
  match j, hj with
  | 0, _ => rfl
  | 1, _ => rfl
  | 2, _ => rfl
  | k + 3, h => exact absurd h (by omega)
theorem z_RT : ∀ j, j < 7 → defaultValue (t_RT j) = vp_V [.null, .null, .null, .null, .null, .null, .int (nI 0)] j := by
  intro j hj
  match j, hj with
  | 0, _ => rfl
  | 1, _ => rfl
  | 2, _ => rfl
  | 3, _ => rfl
  | 4, _ => rfl
  | 5, _ => rfl
  | 6, _ => rfl
  | k + 7, h => exact absurd h (by omega)
theorem z_M : ∀ j, j < 17 → defaultValue (t_M j) = vp_V [.int (nI 0), .int (nI 0), .null, .null, .int (nI 0), .null, .null, .int (nI 0), .null, .null, .int (nI 0), .null, .null, .null, .null, .null, .int (nI false.toNat)] j := by
  intro j hj
  match j, hj with
  | 0, _ => rfl
  | 1, _ => rfl
  | 2, _ => rfl
  | 3, _ => rfl
  | 4, _ => rfl
  | 5, _ => rfl
  | 6, _ => rfl
  | 7, _ => rfl
  | 8, _ => rfl
  | 9, _ => rfl
  | 10, _ => rfl
  | 11, _ => rfl
  | 12, _ => rfl
  | 13, _ => rfl
  | 14, _ => rfl
  | 15, _ => rfl
  | 16, _ => rfl
  | k + 17, h => exact absurd h (by omega)
