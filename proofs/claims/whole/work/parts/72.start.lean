theorem lw_in {w : Cond} (i : Nat) (h : tables_1[i]? = some w) : w ∈ lw_tbl := List.mem_append_right _ (List.mem_of_getElem? h)
theorem start_T {b : Nat} {s : State} (hts : ∀ w ∈ lw_tbl, w.before #[Value.ref b] s = true) : ∀ w ∈ Cond.tt :: TB, w.before #[Value.ref b] s = true :=
  List.forall_mem_cons.mpr ⟨by simp [Cond.before, Cond.holds, Cond.value], fun w hw => hts w (List.mem_filter.mp hw).1⟩
theorem start_K {b : Nat} {s : State} (hts : ∀ w ∈ lw_tbl, w.before #[Value.ref b] s = true) : ∃ (D : va_G) (cI cZ cJ cG : ClassId), va_K D vwCl (TYs cI cZ cJ cG) s := by
  have hT := start_T hts
  obtain ⟨c0, i0, k0⟩ := u_known (C := R_Look) (T := F_Look) (N := 11) (n := 11) hT in_Look (hts _ (lw_in 89 (by decide +kernel)))
  obtain ⟨c1, i1, k1⟩ := u_known (C := R_Met) (T := F_Met) (N := 4) (n := 4) hT in_Met (hts _ (lw_in 38 (by decide +kernel)))
  obtain ⟨c2, i2, k2⟩ := u_known (C := R_Ring) (T := F_Ring) (N := 3) (n := 3) hT in_Ring (hts _ (lw_in 57 (by decide +kernel)))
  obtain ⟨c3, i3, k3⟩ := u_known (C := R_Row) (T := F_Row) (N := 2) (n := 2) hT in_Row (hts _ (lw_in 24 (by decide +kernel)))
  obtain ⟨c4, i4, k4⟩ := u_known (C := R_Set) (T := F_Set) (N := 3) (n := 3) hT in_Set (hts _ (lw_in 63 (by decide +kernel)))
  obtain ⟨c5, i5, k5⟩ := u_known (C := R_RT) (T := F_RT) (N := 7) (n := 7) hT in_RT (hts _ (lw_in 16 (by decide +kernel)))
  obtain ⟨c6, i6, k6⟩ := u_known (C := R_M) (T := F_M) (N := 17) (n := 17) hT in_M (hts _ (lw_in 578 (by decide +kernel)))
  obtain ⟨cI, kI, pI, hI1, hI2, hI3⟩ := Cond.arrayClass_spec (type := .int) (hts _ (lw_in 36 (by decide +kernel)))
  obtain ⟨cZ, kZ, pZ, hZ1, hZ2, hZ3⟩ := Cond.arrayClass_spec (type := .boolean) (hts _ (lw_in 635 (by decide +kernel)))
  obtain ⟨cJ, kJ, pJ, hJ1, hJ2, hJ3⟩ := Cond.arrayClass_spec (type := .long) (hts _ (lw_in 776 (by decide +kernel)))
  obtain ⟨pG, cG, kG, hG0, hG9, hG2, hG3, hG1⟩ := arrayOverA_spec (t := .int) (hts _ (lw_in 129 (by decide +kernel)))
  refine ⟨(fun k => match k with | 0 => c0 | 1 => c1 | 2 => c2 | 3 => c3 | 4 => c4 | 5 => c5 | _ => c6, fun k => match k with | 0 => i0 | 1 => i1 | 2 => i2 | 3 => i3 | 4 => i4 | 5 => i5 | _ => i6), cI, cZ, cJ, cG, fun c q hq => ?_, fun k q hq => ?_⟩
  · match c, hq with
    | 0, hq => cases hq; exact k0
    | 1, hq => cases hq; exact k1
    | 2, hq => cases hq; exact k2
    | 3, hq => cases hq; exact k3
    | 4, hq => cases hq; exact k4
    | 5, hq => cases hq; exact k5
    | 6, hq => cases hq; exact k6
    | k + 7, hq => cases hq
  · match k, hq with
    | 0, hq => cases hq; exact ⟨fun n z => ⟨fun k h => (by cases h), kI, hI2, pI, hI3⟩, hI1⟩
    | 1, hq => cases hq; exact ⟨fun n z => ⟨fun k h => (by cases h), kZ, hZ2, pZ, hZ3⟩, hZ1⟩
    | 2, hq => cases hq; exact ⟨fun n z => ⟨fun k h => (by cases h), kJ, hJ2, pJ, hJ3⟩, hJ1⟩
    | 3, hq => cases hq; exact ⟨fun n z => ⟨fun k h => (by cases h), kG, hG2, pG, hG3⟩, hG1⟩
    | k + 4, hq => cases hq
theorem start_F {b : Nat} {s : State} (hts : ∀ w ∈ lw_tbl, w.before #[Value.ref b] s = true) (hgv : (Jvm.Cond.and given_1 narrow_1).before #[Value.ref b] s = true) {A : Nat → Prop} (hA : ∀ a : Nat, a < s.heap.size → ¬ A a) : ∃ tF : Nat, va_Z "RungTouches$Row" "FACTORIALS" "[I" (.ref tF) A s s.heap ∧ va_T .int tF 7 (fun j => .int (nI (fa j))) A s s.heap := by
  have hs := flat_of_before _ hgv
  have hel : ∀ j : Nat, j < 7 → (Term.elem (.static "RungTouches$Row" "FACTORIALS" "[I") (.int (Int32.ofNat j))).eval #[Value.ref b] s none [] s = some (.int (nI (fa j))) := fun j hj => by
    match j, hj with
    | 0, _ => exact va_eqt (hs (Cond.eq (.elem (.static "RungTouches$Row" "FACTORIALS" "[I") (.int 0)) (.int 1)) (by decide +kernel))
    | 1, _ => exact va_eqt (hs (Cond.eq (.elem (.static "RungTouches$Row" "FACTORIALS" "[I") (.int 1)) (.int 1)) (by decide +kernel))
    | 2, _ => exact va_eqt (hs (Cond.eq (.elem (.static "RungTouches$Row" "FACTORIALS" "[I") (.int 2)) (.int 2)) (by decide +kernel))
    | 3, _ => exact va_eqt (hs (Cond.eq (.elem (.static "RungTouches$Row" "FACTORIALS" "[I") (.int 3)) (.int 6)) (by decide +kernel))
    | 4, _ => exact va_eqt (hs (Cond.eq (.elem (.static "RungTouches$Row" "FACTORIALS" "[I") (.int 4)) (.int 24)) (by decide +kernel))
    | 5, _ => exact va_eqt (hs (Cond.eq (.elem (.static "RungTouches$Row" "FACTORIALS" "[I") (.int 5)) (.int 120)) (by decide +kernel))
    | 6, _ => exact va_eqt (hs (Cond.eq (.elem (.static "RungTouches$Row" "FACTORIALS" "[I") (.int 6)) (.int 720)) (by decide +kernel))
    | k + 7, h => exact absurd h (by omega)
  obtain ⟨tF, hv, hT⟩ := va_Tof (tm := .static "RungTouches$Row" "FACTORIALS" "[I") (ty := .int) (N := 7) (f := fun j => .int (nI (fa j))) (A := A) (by decide) (hs (Cond.arrayOf (.static "RungTouches$Row" "FACTORIALS" "[I") .int) (by decide +kernel)) (va_eqt (hs (Cond.eq (.length (.static "RungTouches$Row" "FACTORIALS" "[I")) (.int 7)) (by decide +kernel))) hel hA
  exact ⟨tF, va_Zref (hts _ (lw_in 224 (by decide +kernel))) (hts _ (lw_in 2 (by decide +kernel))) hv hA, hT⟩
theorem start_E {b : Nat} {s : State} (hts : ∀ w ∈ lw_tbl, w.before #[Value.ref b] s = true) (hgv : (Jvm.Cond.and given_1 narrow_1).before #[Value.ref b] s = true) {A : Nat → Prop} (hA : ∀ a : Nat, a < s.heap.size → ¬ A a) : gE A s s.heap := by
  have hs := flat_of_before _ hgv
  have hx : ∀ w ∈ gxW, w.before #[Value.ref b] s = true := by
    simp only [gxW, List.forall_mem_cons]
    exact ⟨(hts _ (lw_in 390 (by decide +kernel))), (hts _ (lw_in 392 (by decide +kernel))), (hts _ (lw_in 394 (by decide +kernel))), (hts _ (lw_in 388 (by decide +kernel))), (hts _ (lw_in 456 (by decide +kernel))), (hts _ (lw_in 472 (by decide +kernel))), (hs (Cond.not (.castable "java/lang/IllegalArgumentException" "java/lang/IllegalStateException")) (by decide +kernel)), (hs (Cond.not (.castable "java/lang/UnsupportedOperationException" "java/lang/IllegalStateException")) (by decide +kernel)), (hs (Cond.not (.castable "java/lang/UnsupportedOperationException" "java/lang/IllegalArgumentException")) (by decide +kernel)), fun _ h => by cases h⟩
  refine ⟨gZ.of (hts _ (lw_in 413 (by decide +kernel))) (hs (Cond.isRef (.static "java/lang/Throwable" "UNASSIGNED_STACK" "[Ljava/lang/StackTraceElement;")) (by decide +kernel)) hA, gZ.of (hts _ (lw_in 415 (by decide +kernel))) (hs (Cond.isRef (.static "java/lang/Throwable" "SUPPRESSED_SENTINEL" "Ljava/util/List;")) (by decide +kernel)) hA, fun w hw => ?_, ?_, over_moved (Vm.Alike.refl s.vm) (hts _ (lw_in 129 (by decide +kernel)))⟩
  · have h1 := gx_vm (a := #[Value.ref b]) (b := #[]) (u := s) (U := s) w hw
    rw [State.setVm_self] at h1
    rw [← h1]; exact hx w hw
  · have hk : ∀ (k : Nat) (tx : String), (Cond.stringRef "RungTouches" k tx).before #[Value.ref b] s = true → (Cond.exactly (.string "RungTouches" k) "java/lang/String").before #[Value.ref b] s = true → ∃ a : Nat, vk_R "RungTouches" k tx a s := fun k tx h1 h2 => by
      obtain ⟨a, c9, cell, k9, q1, -⟩ := Cond.exactly_spec h2
      exact ⟨a, vk_R.of h1 q1⟩
    unfold gStr gxS
    simp only [List.forall_mem_cons]
    exact ⟨hk 196 _ (hts _ (lw_in 427 (by decide +kernel))) (hs (Cond.exactly (.string "RungTouches" 196) "java/lang/String") (by decide +kernel)), hk 93 _ (hts _ (lw_in 463 (by decide +kernel))) (hs (Cond.exactly (.string "RungTouches" 93) "java/lang/String") (by decide +kernel)), hk 100 _ (hts _ (lw_in 479 (by decide +kernel))) (hs (Cond.exactly (.string "RungTouches" 100) "java/lang/String") (by decide +kernel)), hk 142 _ (hts _ (lw_in 504 (by decide +kernel))) (hs (Cond.exactly (.string "RungTouches" 142) "java/lang/String") (by decide +kernel)), hk 199 _ (hts _ (lw_in 519 (by decide +kernel))) (hs (Cond.exactly (.string "RungTouches" 199) "java/lang/String") (by decide +kernel)), hk 201 _ (hts _ (lw_in 520 (by decide +kernel))) (hs (Cond.exactly (.string "RungTouches" 201) "java/lang/String") (by decide +kernel)), fun _ h => by cases h⟩
theorem whole_start {p : Program} {e : Env} {s : State} {m : MethodId} {below : List Frame} {meth : Method} {c : Code} (l : Launch) (htr : l.stackTraces = false) {b L : Nat} {xs : Nat → Int32} (hL : L ≤ 2048) (C0 : lw_At p s m meth c b L xs) : W p l e room_1 s m #[Value.ref b] below meth c s.heap [] 0 0 (lw_Z below #[Value.ref b] s) (entryFrame m ([Value.ref b] : List Value).toArray 7) := by
  obtain ⟨hx, hb, hrt, hml, hown, hts, hX, hbl, hlk, hgv⟩ := C0
  have hA : ∀ a : Nat, a < s.heap.size → ¬ s.heap.size ≤ a := fun a h => Nat.not_le.mpr h
  obtain ⟨D, cI, cZ, cJ, cG, hK⟩ := start_K hts
  obtain ⟨tF, hZ, hT⟩ := start_F hts hgv (A := fun q => s.heap.size ≤ q) hA
  have hE := start_E hts hgv (A := fun q => s.heap.size ≤ q) hA
  have hg : gG tF (fun q => s.heap.size ≤ q) s s.heap := ⟨hZ, hT, va_Nw.of rfl (hts _ (lw_in 25 (by decide +kernel))), va_Nw.of rfl (hts _ (lw_in 39 (by decide +kernel))), va_Nw.of rfl (hts _ (lw_in 64 (by decide +kernel))), va_Nw.of rfl (hts _ (lw_in 237 (by decide +kernel))), hE⟩
  rw [lg_entry_eq]
  exact law_begin (A := fun q => s.heap.size ≤ q) ⟨hx, hb, hml, hown, start_T hts, hK, hg, fun _ h => h, hX, hbl, Nat.not_le.mpr hbl, hL, htr⟩ hrt hlk (fun _ h => h) (lv_entry [Value.ref b] (Nat.le_of_ble_eq_true rfl))
