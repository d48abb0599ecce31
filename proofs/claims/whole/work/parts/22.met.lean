section
variable {l : Launch} {D : va_G} {cI cZ cJ cG : ClassId} {tF : Nat}
set_option maxHeartbeats 4000000 in
set_option maxRecDepth 100000 in
theorem c_Met_forget (aM : Nat) (aK : Nat) (mk : Nat → Int32) (b1 : Int32) (b2 : Int32) (ln : Nat)  : CtV l y_Met_forget (w_Met_forget) ({ frames := 0, cells := 0, slots := 0, locals := 0 }) D vwCl (TYs cI cZ cJ cG) (gG tF) [.ref aM] [(aM, .inr (1, [.ref aK, .int b1, .int b2, .int (nI ln)])), (aK, .inl (cI, 24, .inl mk))] 0 0 (fun mk2 : (Nat → Int32) => [(aM, .inr (1, [.ref aK, .int (-1), .int (-1), .int (nI 0)])), (aK, .inl (cI, 24, .inl mk2))]) (fun mk2 : (Nat → Int32) => ∀ j, j < 24 → mk2 j = (-1)) := by
  refine CtV.of (cc := b_Met_forget) (maxL := 2) (ret := none) (by decide) rfl (Nat.le_of_ble_eq_true rfl) ?_
  intro p e s m args below meth c A ls hF hA hP hK hD hg hS hl
  obtain ⟨hx, hb, hrt, hlk, hml, hown, hts, hnm⟩ := hF
  have hown : s.vm.findClass R_Met = some m.cls := hown
  have hl : lv_has ls 2 [(0, .ref aM)] := hl
  refine lv_iconst (v := nI 0) hx hb d_Met_forget_0 (by decide) ?_
  refine lv_istore_n hx hb d_Met_forget_1 rfl hl (by decide) rfl (fun ls hl => ?_)
  have hl : lv_has ls 2 [(1, .int (nI 0)), (0, .ref aM)] := hl
  have hl : lv_has ls 2 [(0, .ref aM), (1, .int (nI 0))] := lv_sub hl [1, 0] rfl
  have hP := hP.sub (ws' := [(aM, .inr (1, [.ref aK, .int b1, .int b2, .int (nI ln)])), (aK, .inl (cI, 24, .inl mk))]) [0, 1] rfl
  have hD := hD.sub (ws' := [(aM, .inr (1, [.ref aK, .int b1, .int b2, .int (nI ln)])), (aK, .inl (cI, 24, .inl mk))]) [0, 1] (by decide) rfl
  refine xn_pc (pc2 := 2) rfl ?_
  refine xl_2 (fun (i : Nat) (g : Nat → Int32) ls H locs => (i ≤ 24) ∧ (∀ j, j < i → g j = (-1)) ∧ lv_has ls 2 [(0, .ref aM), (1, .int (nI i))] ∧ va_P D vwCl [(aM, .inr (1, [.ref aK, .int b1, .int b2, .int (nI ln)])), (aK, .inl (cI, 24, .inl g))] H ∧ va_D A [(aM, .inr (1, [.ref aK, .int b1, .int b2, .int (nI ln)])), (aK, .inl (cI, 24, .inl g))] ∧ va_S A s.heap H locs) (fun (i : Nat) (g : Nat → Int32) => 24 - i) (fun i g ls H locs hI ih => ?_) 0 mk ⟨Nat.zero_le 24, fun j hj => absurd hj (Nat.not_lt_zero j), hl, hP, hD, hS⟩
  obtain ⟨hi1, hi2, hl, hP, hD, hS⟩ := hI
  refine lv_iload_n hx hb d_Met_forget_2 rfl (lv_at hl 1 rfl) ?_
  refine lv_bipush (v := nI 24) hx hb d_Met_forget_3 (by decide) ?_
  refine xb_cge hx hb 21 (by omega) (by omega) d_Met_forget_5 rfl (fun h5 => ?_) (fun h5 => ?_)
  · skip
    refine lv_aload_n hx hb d_Met_forget_21 rfl (lv_at hl 0 rfl) ?_
    refine lv_iconst (v := (-1)) hx hb d_Met_forget_22 (by decide) ?_
    refine va_put (D := D) (ci := 1) (v := .int (-1)) (ty := .int) (C := R_Met) (T := F_Met) (N := 4) hx hb hts in_Met t_Met t_Met_ok n_Met hown hK hP hD hS 0 rfl rfl 1 (by decide) (hts _ (List.mem_cons_of_mem _ k_44)) (fun _ h9 => h9) rfl (by decide +kernel) rfl rfl (Nat.le_of_ble_eq_true rfl) d_Met_forget_23 (fun H locs hP hD hS => ?_)
    have hP : va_P D vwCl [(aM, .inr (1, [.ref aK, .int (-1), .int b2, .int (nI ln)])), (aK, .inl (cI, 24, .inl g))] H := hP
    have hD : va_D A [(aM, .inr (1, [.ref aK, .int (-1), .int b2, .int (nI ln)])), (aK, .inl (cI, 24, .inl g))] := hD
    refine lv_aload_n hx hb d_Met_forget_26 rfl (lv_at hl 0 rfl) ?_
    refine lv_iconst (v := (-1)) hx hb d_Met_forget_27 (by decide) ?_
    refine va_put (D := D) (ci := 1) (v := .int (-1)) (ty := .int) (C := R_Met) (T := F_Met) (N := 4) hx hb hts in_Met t_Met t_Met_ok n_Met hown hK hP hD hS 0 rfl rfl 2 (by decide) (hts _ (List.mem_cons_of_mem _ k_45)) (fun _ h9 => h9) rfl (by decide +kernel) rfl rfl (Nat.le_of_ble_eq_true rfl) d_Met_forget_28 (fun H locs hP hD hS => ?_)
    have hP : va_P D vwCl [(aM, .inr (1, [.ref aK, .int (-1), .int (-1), .int (nI ln)])), (aK, .inl (cI, 24, .inl g))] H := hP
    have hD : va_D A [(aM, .inr (1, [.ref aK, .int (-1), .int (-1), .int (nI ln)])), (aK, .inl (cI, 24, .inl g))] := hD
    refine lv_aload_n hx hb d_Met_forget_31 rfl (lv_at hl 0 rfl) ?_
    refine lv_iconst (v := nI 0) hx hb d_Met_forget_32 (by decide) ?_
    refine va_put (D := D) (ci := 1) (v := .int (nI 0)) (ty := .int) (C := R_Met) (T := F_Met) (N := 4) hx hb hts in_Met t_Met t_Met_ok n_Met hown hK hP hD hS 0 rfl rfl 3 (by decide) (hts _ (List.mem_cons_of_mem _ k_46)) (fun _ h9 => h9) rfl (by decide +kernel) rfl rfl (Nat.le_of_ble_eq_true rfl) d_Met_forget_33 (fun H locs hP hD hS => ?_)
    have hP : va_P D vwCl [(aM, .inr (1, [.ref aK, .int (-1), .int (-1), .int (nI 0)])), (aK, .inl (cI, 24, .inl g))] H := hP
    have hD : va_D A [(aM, .inr (1, [.ref aK, .int (-1), .int (-1), .int (nI 0)])), (aK, .inl (cI, 24, .inl g))] := hD
    exact xr_v hx hb hrt hlk hP hD hS g [0, 1] (by decide) rfl (fun j hj => hi2 j (by omega)) d_Met_forget_36
  refine lv_aload_n hx hb d_Met_forget_8 rfl (lv_at hl 0 rfl) ?_
  refine va_get (D := D) (ci := 1) (v := .ref aK) (C := R_Met) (T := F_Met) (N := 4) hx hb hts in_Met hown hK hP 0 rfl rfl 0 (by decide) (hts _ (List.mem_cons_of_mem _ k_43)) (fun _ h9 => h9) rfl d_Met_forget_9 ?_
  refine lv_iload_n hx hb d_Met_forget_12 rfl (lv_at hl 1 rfl) ?_
  refine lv_iconst (v := (-1)) hx hb d_Met_forget_13 (by decide) ?_
  refine xa_iast hx hb hK hP hD hS 1 0 rfl rfl (by omega) (by decide) d_Met_forget_14 (fun H locs hP hD hS => ?_)
  have hP : va_P D vwCl [(aM, .inr (1, [.ref aK, .int b1, .int b2, .int (nI ln)])), (aK, .inl (cI, 24, .inl (upd g i (-1))))] H := hP
  have hD : va_D A [(aM, .inr (1, [.ref aK, .int b1, .int b2, .int (nI ln)])), (aK, .inl (cI, 24, .inl (upd g i (-1))))] := hD
  refine lv_iinc (k := 1) (v := nI (i + 1)) hx hb d_Met_forget_15 hl rfl (xi_1 _) (by decide) rfl (fun ls hl => ?_)
  have hl : lv_has ls 2 [(1, .int (nI (i + 1))), (0, .ref aM)] := hl
  refine lv_goto (tgt := 2) hx hb d_Met_forget_18 rfl ?_
  have hl : lv_has ls 2 [(0, .ref aM), (1, .int (nI (i + 1)))] := lv_sub hl [1, 0] rfl
  have hP := hP.sub (ws' := [(aM, .inr (1, [.ref aK, .int b1, .int b2, .int (nI ln)])), (aK, .inl (cI, 24, .inl (upd g i (-1))))]) [0, 1] rfl
  have hD := hD.sub (ws' := [(aM, .inr (1, [.ref aK, .int b1, .int b2, .int (nI ln)])), (aK, .inl (cI, 24, .inl (upd g i (-1))))]) [0, 1] (by decide) rfl
  exact ih (i + 1) (upd g i (-1)) _ _ _ (by omega) ⟨h5, fun j hj => by unfold upd; split; rfl; exact hi2 j (by omega), hl, hP, hD, hS⟩
set_option maxHeartbeats 4000000 in
set_option maxRecDepth 100000 in
theorem c_Met_giveMask (aM : Nat) (aK : Nat) (mk : Nat → Int32) (b1 : Int32) (b2 : Int32) (ln : Nat) (i : Nat) (x : Int32) (hi : i < 24) : CtV l y_Met_giveMask (w_Met_giveMask) ({ frames := 0, cells := 0, slots := 0, locals := 0 }) D vwCl (TYs cI cZ cJ cG) (gG tF) [.ref aM, .int (nI i), .int x] [(aM, .inr (1, [.ref aK, .int b1, .int b2, .int (nI ln)])), (aK, .inl (cI, 24, .inl mk))] 0 0 (fun _ : Unit => [(aM, .inr (1, [.ref aK, .int b1, .int b2, .int (nI ln)])), (aK, .inl (cI, 24, .inl (upd mk i x)))]) (fun _ : Unit => True) := by
  refine CtV.of (cc := b_Met_giveMask) (maxL := 3) (ret := none) (by decide) rfl (Nat.le_of_ble_eq_true rfl) ?_
  intro p e s m args below meth c A ls hF hA hP hK hD hg hS hl
  obtain ⟨hx, hb, hrt, hlk, hml, hown, hts, hnm⟩ := hF
  have hown : s.vm.findClass R_Met = some m.cls := hown
  have hl : lv_has ls 3 [(0, .ref aM), (1, .int (nI i)), (2, .int x)] := hl
  refine lv_aload_n hx hb d_Met_giveMask_0 rfl (lv_at hl 0 rfl) ?_
  refine va_get (D := D) (ci := 1) (v := .ref aK) (C := R_Met) (T := F_Met) (N := 4) hx hb hts in_Met hown hK hP 0 rfl rfl 0 (by decide) (hts _ (List.mem_cons_of_mem _ k_43)) (fun _ h9 => h9) rfl d_Met_giveMask_1 ?_
  refine lv_iload_n hx hb d_Met_giveMask_4 rfl (lv_at hl 1 rfl) ?_
  refine lv_iload_n hx hb d_Met_giveMask_5 rfl (lv_at hl 2 rfl) ?_
  refine xa_iast hx hb hK hP hD hS 1 0 rfl rfl (by omega) (by decide) d_Met_giveMask_6 (fun H locs hP hD hS => ?_)
  have hP : va_P D vwCl [(aM, .inr (1, [.ref aK, .int b1, .int b2, .int (nI ln)])), (aK, .inl (cI, 24, .inl (upd mk i x)))] H := hP
  have hD : va_D A [(aM, .inr (1, [.ref aK, .int b1, .int b2, .int (nI ln)])), (aK, .inl (cI, 24, .inl (upd mk i x)))] := hD
  exact xr_v hx hb hrt hlk hP hD hS () [0, 1] (by decide) rfl trivial d_Met_giveMask_7
set_option maxHeartbeats 4000000 in
set_option maxRecDepth 100000 in
theorem c_Met_giveCallMask (aM : Nat) (aK : Nat) (mk : Nat → Int32) (b1 : Int32) (b2 : Int32) (ln : Nat) (kd : Nat) (x : Int32) (hk : kd ≤ 2) : CtV l y_Met_giveCallMask (w_Met_giveCallMask) ({ frames := 0, cells := 0, slots := 0, locals := 0 }) D vwCl (TYs cI cZ cJ cG) (gG tF) [.ref aM, .int (nI kd), .int x] [(aM, .inr (1, [.ref aK, .int b1, .int b2, .int (nI ln)])), (aK, .inl (cI, 24, .inl mk))] 0 0 (fun _ : Unit => [(aM, .inr (1, [.ref aK, .int (if kd = 1 then x else b1), .int (if kd = 1 then b2 else x), .int (nI ln)])), (aK, .inl (cI, 24, .inl mk))]) (fun _ : Unit => True) := by
  refine CtV.of (cc := b_Met_giveCallMask) (maxL := 3) (ret := none) (by decide) rfl (Nat.le_of_ble_eq_true rfl) ?_
  intro p e s m args below meth c A ls hF hA hP hK hD hg hS hl
  obtain ⟨hx, hb, hrt, hlk, hml, hown, hts, hnm⟩ := hF
  have hown : s.vm.findClass R_Met = some m.cls := hown
  have hl : lv_has ls 3 [(0, .ref aM), (1, .int (nI kd)), (2, .int x)] := hl
  refine lv_iload_n hx hb d_Met_giveCallMask_0 rfl (lv_at hl 1 rfl) ?_
  refine lv_iconst (v := nI 1) hx hb d_Met_giveCallMask_1 (by decide) ?_
  refine xb_cne hx hb 13 (by omega) (by omega) d_Met_giveCallMask_2 rfl (fun h2 => ?_) (fun h2 => ?_)
  · skip
    refine lv_aload_n hx hb d_Met_giveCallMask_13 rfl (lv_at hl 0 rfl) ?_
    refine lv_iload_n hx hb d_Met_giveCallMask_14 rfl (lv_at hl 2 rfl) ?_
    refine va_put (D := D) (ci := 1) (v := .int x) (ty := .int) (C := R_Met) (T := F_Met) (N := 4) hx hb hts in_Met t_Met t_Met_ok n_Met hown hK hP hD hS 0 rfl rfl 2 (by decide) (hts _ (List.mem_cons_of_mem _ k_45)) (fun _ h9 => h9) rfl (by decide +kernel) rfl rfl (Nat.le_of_ble_eq_true rfl) d_Met_giveCallMask_15 (fun H locs hP hD hS => ?_)
    have hP : va_P D vwCl [(aM, .inr (1, [.ref aK, .int b1, .int x, .int (nI ln)])), (aK, .inl (cI, 24, .inl mk))] H := hP
    have hD : va_D A [(aM, .inr (1, [.ref aK, .int b1, .int x, .int (nI ln)])), (aK, .inl (cI, 24, .inl mk))] := hD
    skip
    exact xr_v hx hb hrt hlk hP hD hS () [0, 1] (by decide) (by simp [h2]) trivial d_Met_giveCallMask_18
  refine lv_aload_n hx hb d_Met_giveCallMask_5 rfl (lv_at hl 0 rfl) ?_
  refine lv_iload_n hx hb d_Met_giveCallMask_6 rfl (lv_at hl 2 rfl) ?_
  refine va_put (D := D) (ci := 1) (v := .int x) (ty := .int) (C := R_Met) (T := F_Met) (N := 4) hx hb hts in_Met t_Met t_Met_ok n_Met hown hK hP hD hS 0 rfl rfl 1 (by decide) (hts _ (List.mem_cons_of_mem _ k_44)) (fun _ h9 => h9) rfl (by decide +kernel) rfl rfl (Nat.le_of_ble_eq_true rfl) d_Met_giveCallMask_7 (fun H locs hP hD hS => ?_)
  have hP : va_P D vwCl [(aM, .inr (1, [.ref aK, .int x, .int b2, .int (nI ln)])), (aK, .inl (cI, 24, .inl mk))] H := hP
  have hD : va_D A [(aM, .inr (1, [.ref aK, .int x, .int b2, .int (nI ln)])), (aK, .inl (cI, 24, .inl mk))] := hD
  refine lv_goto (tgt := 18) hx hb d_Met_giveCallMask_10 rfl ?_
  skip
  exact xr_v hx hb hrt hlk hP hD hS () [0, 1] (by decide) (by simp [h2]) trivial d_Met_giveCallMask_18
set_option maxHeartbeats 4000000 in
set_option maxRecDepth 100000 in
theorem c_Met_hasFirstMasks (aM : Nat) (aK : Nat) (mk : Nat → Int32) (b1 : Int32) (b2 : Int32) (ln : Nat) (len : Nat) (hlen : len ≤ 24) : CtI l y_Met_hasFirstMasks (w_Met_hasFirstMasks) ({ frames := 0, cells := 0, slots := 0, locals := 0 }) D vwCl (TYs cI cZ cJ cG) (gG tF) [.ref aM, .int (nI len)] [(aM, .inr (1, [.ref aK, .int b1, .int b2, .int (nI ln)])), (aK, .inl (cI, 24, .inl mk))] 0 0 (fun _ : Unit => [(aM, .inr (1, [.ref aK, .int b1, .int b2, .int (nI ln)])), (aK, .inl (cI, 24, .inl mk))]) (fun (r : Int32) (_ : Unit) => r = nI ((hfm mk len).toNat)) := by
  refine CtI.of (cc := b_Met_hasFirstMasks) (maxL := 3) (ret := (some .boolean)) (by decide) rfl (Nat.le_of_ble_eq_true rfl) ?_
  intro p e s m args below meth c A ls hF hA hP hK hD hg hS hl
  obtain ⟨hx, hb, hrt, hlk, hml, hown, hts, hnm⟩ := hF
  have hown : s.vm.findClass R_Met = some m.cls := hown
  have hl : lv_has ls 3 [(0, .ref aM), (1, .int (nI len))] := hl
  refine lv_iconst (v := nI 0) hx hb d_Met_hasFirstMasks_0 (by decide) ?_
  refine lv_istore_n hx hb d_Met_hasFirstMasks_1 rfl hl (by decide) rfl (fun ls hl => ?_)
  have hl : lv_has ls 3 [(2, .int (nI 0)), (0, .ref aM), (1, .int (nI len))] := hl
  have hl : lv_has ls 3 [(0, .ref aM), (1, .int (nI len)), (2, .int (nI 0))] := lv_sub hl [1, 2, 0] rfl
  have hP := hP.sub (ws' := [(aM, .inr (1, [.ref aK, .int b1, .int b2, .int (nI ln)])), (aK, .inl (cI, 24, .inl mk))]) [0, 1] rfl
  have hD := hD.sub (ws' := [(aM, .inr (1, [.ref aK, .int b1, .int b2, .int (nI ln)])), (aK, .inl (cI, 24, .inl mk))]) [0, 1] (by decide) rfl
  refine xn_pc (pc2 := 2) rfl ?_
  refine xl_1 (fun (i : Nat) ls H locs => (i ≤ len) ∧ (∀ j, j < i → mk j ≠ (-1)) ∧ lv_has ls 3 [(0, .ref aM), (1, .int (nI len)), (2, .int (nI i))] ∧ va_P D vwCl [(aM, .inr (1, [.ref aK, .int b1, .int b2, .int (nI ln)])), (aK, .inl (cI, 24, .inl mk))] H ∧ va_D A [(aM, .inr (1, [.ref aK, .int b1, .int b2, .int (nI ln)])), (aK, .inl (cI, 24, .inl mk))] ∧ va_S A s.heap H locs) (fun (i : Nat) => len - i) (fun i ls H locs hI ih => ?_) 0 ⟨Nat.zero_le len, fun j hj => absurd hj (Nat.not_lt_zero j), hl, hP, hD, hS⟩
  obtain ⟨hi1, hi2, hl, hP, hD, hS⟩ := hI
  refine lv_iload_n hx hb d_Met_hasFirstMasks_2 rfl (lv_at hl 2 rfl) ?_
  refine lv_iload_n hx hb d_Met_hasFirstMasks_3 rfl (lv_at hl 1 rfl) ?_
  refine xb_cge hx hb 25 (by omega) (by omega) d_Met_hasFirstMasks_4 rfl (fun h4 => ?_) (fun h4 => ?_)
  · skip
    refine lv_iconst (v := nI 1) hx hb d_Met_hasFirstMasks_25 (by decide) ?_
    exact xr_i hx hb hrt hlk rfl hP hD hS () [0, 1] (by decide) rfl (by rw [hfm, decide_eq_true (fun j hj => hi2 j (by omega))]; rfl) d_Met_hasFirstMasks_26
  refine lv_aload_n hx hb d_Met_hasFirstMasks_7 rfl (lv_at hl 0 rfl) ?_
  refine va_get (D := D) (ci := 1) (v := .ref aK) (C := R_Met) (T := F_Met) (N := 4) hx hb hts in_Met hown hK hP 0 rfl rfl 0 (by decide) (hts _ (List.mem_cons_of_mem _ k_43)) (fun _ h9 => h9) rfl d_Met_hasFirstMasks_8 ?_
  refine lv_iload_n hx hb d_Met_hasFirstMasks_11 rfl (lv_at hl 2 rfl) ?_
  refine xa_iald (v := mk i) hx hb hK hP 1 0 rfl rfl (by omega) (by decide) rfl d_Met_hasFirstMasks_12 ?_
  refine lv_iconst (v := (-1)) hx hb d_Met_hasFirstMasks_13 (by decide) ?_
  refine lv_icmp_ne (tgt := 19) hx hb d_Met_hasFirstMasks_14 rfl (fun h14 => ?_) (fun h14 => ?_)
  · skip
    refine lv_iinc (k := 2) (v := nI (i + 1)) hx hb d_Met_hasFirstMasks_19 hl rfl (xi_1 _) (by decide) rfl (fun ls hl => ?_)
    have hl : lv_has ls 3 [(2, .int (nI (i + 1))), (0, .ref aM), (1, .int (nI len))] := hl
    refine lv_goto (tgt := 2) hx hb d_Met_hasFirstMasks_22 rfl ?_
    have hl : lv_has ls 3 [(0, .ref aM), (1, .int (nI len)), (2, .int (nI (i + 1)))] := lv_sub hl [1, 2, 0] rfl
    have hP := hP.sub (ws' := [(aM, .inr (1, [.ref aK, .int b1, .int b2, .int (nI ln)])), (aK, .inl (cI, 24, .inl mk))]) [0, 1] rfl
    have hD := hD.sub (ws' := [(aM, .inr (1, [.ref aK, .int b1, .int b2, .int (nI ln)])), (aK, .inl (cI, 24, .inl mk))]) [0, 1] (by decide) rfl
    exact ih (i + 1) _ _ _ (by omega) ⟨h4, lt_s hi2 h14, hl, hP, hD, hS⟩
  refine lv_iconst (v := nI 0) hx hb d_Met_hasFirstMasks_17 (by decide) ?_
  exact xr_i hx hb hrt hlk rfl hP hD hS () [0, 1] (by decide) rfl (by rw [hfm, decide_eq_false (fun h => h i h4 h14)]; rfl) d_Met_hasFirstMasks_18
set_option maxHeartbeats 4000000 in
set_option maxRecDepth 100000 in
theorem c_Met_isDefined (aM : Nat) (aK : Nat) (mk : Nat → Int32) (b1 : Int32) (b2 : Int32) (ln : Nat) (hln : ln ≤ 24) : CtI l y_Met_isDefined (w_Met_isDefined) ({ frames := 0, cells := 0, slots := 0, locals := 0 }) D vwCl (TYs cI cZ cJ cG) (gG tF) [.ref aM] [(aM, .inr (1, [.ref aK, .int b1, .int b2, .int (nI ln)])), (aK, .inl (cI, 24, .inl mk))] 0 0 (fun _ : Unit => [(aM, .inr (1, [.ref aK, .int b1, .int b2, .int (nI ln)])), (aK, .inl (cI, 24, .inl mk))]) (fun (r : Int32) (_ : Unit) => r = nI ((decide (0 < ln)).toNat)) := by
  refine CtI.of (cc := b_Met_isDefined) (maxL := 1) (ret := (some .boolean)) (by decide) rfl (Nat.le_of_ble_eq_true rfl) ?_
  intro p e s m args below meth c A ls hF hA hP hK hD hg hS hl
  obtain ⟨hx, hb, hrt, hlk, hml, hown, hts, hnm⟩ := hF
  have hown : s.vm.findClass R_Met = some m.cls := hown
  have hl : lv_has ls 1 [(0, .ref aM)] := hl
  refine lv_aload_n hx hb d_Met_isDefined_0 rfl (lv_at hl 0 rfl) ?_
  refine va_get (D := D) (ci := 1) (v := .int (nI ln)) (C := R_Met) (T := F_Met) (N := 4) hx hb hts in_Met hown hK hP 0 rfl rfl 3 (by decide) (hts _ (List.mem_cons_of_mem _ k_46)) (fun _ h9 => h9) rfl d_Met_isDefined_1 ?_
  refine xb_le hx hb 11 (by omega) d_Met_isDefined_4 rfl (fun h4 => ?_) (fun h4 => ?_)
  · skip
    refine lv_iconst (v := nI 0) hx hb d_Met_isDefined_11 (by decide) ?_
    exact xr_i hx hb hrt hlk rfl hP hD hS () [0, 1] (by decide) rfl (by rw [h4]; rfl) d_Met_isDefined_12
  refine lv_iconst (v := nI 1) hx hb d_Met_isDefined_7 (by decide) ?_
  refine lv_goto (tgt := 12) hx hb d_Met_isDefined_8 rfl ?_
  exact xr_i hx hb hrt hlk rfl hP hD hS () [0, 1] (by decide) rfl (by rw [decide_eq_true h4]; rfl) d_Met_isDefined_12
set_option maxHeartbeats 4000000 in
set_option maxRecDepth 100000 in
theorem c_Met_leadLength (aM : Nat) (aK : Nat) (mk : Nat → Int32) (b1 : Int32) (b2 : Int32) (ln : Nat)  : CtI l y_Met_leadLength (w_Met_leadLength) ({ frames := 0, cells := 0, slots := 0, locals := 0 }) D vwCl (TYs cI cZ cJ cG) (gG tF) [.ref aM] [(aM, .inr (1, [.ref aK, .int b1, .int b2, .int (nI ln)])), (aK, .inl (cI, 24, .inl mk))] 0 0 (fun _ : Unit => [(aM, .inr (1, [.ref aK, .int b1, .int b2, .int (nI ln)])), (aK, .inl (cI, 24, .inl mk))]) (fun (r : Int32) (_ : Unit) => r = nI ln) := by
  refine CtI.of (cc := b_Met_leadLength) (maxL := 1) (ret := (some .int)) (by decide) rfl (Nat.le_of_ble_eq_true rfl) ?_
  intro p e s m args below meth c A ls hF hA hP hK hD hg hS hl
  obtain ⟨hx, hb, hrt, hlk, hml, hown, hts, hnm⟩ := hF
  have hown : s.vm.findClass R_Met = some m.cls := hown
  have hl : lv_has ls 1 [(0, .ref aM)] := hl
  refine lv_aload_n hx hb d_Met_leadLength_0 rfl (lv_at hl 0 rfl) ?_
  refine va_get (D := D) (ci := 1) (v := .int (nI ln)) (C := R_Met) (T := F_Met) (N := 4) hx hb hts in_Met hown hK hP 0 rfl rfl 3 (by decide) (hts _ (List.mem_cons_of_mem _ k_46)) (fun _ h9 => h9) rfl d_Met_leadLength_1 ?_
  exact xr_i hx hb hrt hlk rfl hP hD hS () [0, 1] (by decide) rfl rfl d_Met_leadLength_4
set_option maxHeartbeats 4000000 in
set_option maxRecDepth 100000 in
theorem c_Met_becomeOfLength (aM : Nat) (aK : Nat) (mk : Nat → Int32) (b1 : Int32) (b2 : Int32) (ln : Nat) (len : Nat)  : CtV l y_Met_becomeOfLength (w_Met_becomeOfLength) ({ frames := 0, cells := 0, slots := 0, locals := 0 }) D vwCl (TYs cI cZ cJ cG) (gG tF) [.ref aM, .int (nI len)] [(aM, .inr (1, [.ref aK, .int b1, .int b2, .int (nI ln)])), (aK, .inl (cI, 24, .inl mk))] 0 0 (fun _ : Unit => [(aM, .inr (1, [.ref aK, .int b1, .int b2, .int (nI len)])), (aK, .inl (cI, 24, .inl mk))]) (fun _ : Unit => True) := by
  refine CtV.of (cc := b_Met_becomeOfLength) (maxL := 2) (ret := none) (by decide) rfl (Nat.le_of_ble_eq_true rfl) ?_
  intro p e s m args below meth c A ls hF hA hP hK hD hg hS hl
  obtain ⟨hx, hb, hrt, hlk, hml, hown, hts, hnm⟩ := hF
  have hown : s.vm.findClass R_Met = some m.cls := hown
  have hl : lv_has ls 2 [(0, .ref aM), (1, .int (nI len))] := hl
  refine lv_aload_n hx hb d_Met_becomeOfLength_0 rfl (lv_at hl 0 rfl) ?_
  refine lv_iload_n hx hb d_Met_becomeOfLength_1 rfl (lv_at hl 1 rfl) ?_
  refine va_put (D := D) (ci := 1) (v := .int (nI len)) (ty := .int) (C := R_Met) (T := F_Met) (N := 4) hx hb hts in_Met t_Met t_Met_ok n_Met hown hK hP hD hS 0 rfl rfl 3 (by decide) (hts _ (List.mem_cons_of_mem _ k_46)) (fun _ h9 => h9) rfl (by decide +kernel) rfl rfl (Nat.le_of_ble_eq_true rfl) d_Met_becomeOfLength_2 (fun H locs hP hD hS => ?_)
  have hP : va_P D vwCl [(aM, .inr (1, [.ref aK, .int b1, .int b2, .int (nI len)])), (aK, .inl (cI, 24, .inl mk))] H := hP
  have hD : va_D A [(aM, .inr (1, [.ref aK, .int b1, .int b2, .int (nI len)])), (aK, .inl (cI, 24, .inl mk))] := hD
  exact xr_v hx hb hrt hlk hP hD hS () [0, 1] (by decide) rfl trivial d_Met_becomeOfLength_5
set_option maxHeartbeats 4000000 in
set_option maxRecDepth 100000 in
theorem c_Met_hasCall (aM : Nat) (aK : Nat) (mk : Nat → Int32) (b1 : Int32) (b2 : Int32) (ln : Nat) (x : Int32) (hln : ln ≤ 24) : CtI l y_Met_hasCall (w_Met_hasCall) ({ frames := 1, cells := 0, slots := 0, locals := 20 }) D vwCl (TYs cI cZ cJ cG) (gG tF) [.ref aM, .int x] [(aM, .inr (1, [.ref aK, .int b1, .int b2, .int (nI ln)])), (aK, .inl (cI, 24, .inl mk))] 0 0 (fun _ : Unit => [(aM, .inr (1, [.ref aK, .int b1, .int b2, .int (nI ln)])), (aK, .inl (cI, 24, .inl mk))]) (fun (r : Int32) (_ : Unit) => r = nI ((hcl ln b1 b2 x).toNat)) := by
  refine CtI.of (cc := b_Met_hasCall) (maxL := 2) (ret := (some .boolean)) (by decide) rfl (Nat.le_of_ble_eq_true rfl) ?_
  intro p e s m args below meth c A ls hF hA hP hK hD hg hS hl
  obtain ⟨hx, hb, hrt, hlk, hml, hown, hts, hnm⟩ := hF
  have hown : s.vm.findClass R_Met = some m.cls := hown
  have hl : lv_has ls 2 [(0, .ref aM), (1, .int x)] := hl
  refine lv_iload_n hx hb d_Met_hasCall_0 rfl (lv_at hl 1 rfl) ?_
  refine lv_if_ne (tgt := 11) hx hb d_Met_hasCall_1 rfl (fun h1 => ?_) (fun h1 => ?_)
  · skip
    refine lv_iload_n hx hb d_Met_hasCall_11 rfl (lv_at hl 1 rfl) ?_
    refine lv_iconst (v := nI 1) hx hb d_Met_hasCall_12 (by decide) ?_
    refine lv_icmp_ne (tgt := 24) hx hb d_Met_hasCall_13 rfl (fun h13 => ?_) (fun h13 => ?_)
    · skip
      refine lv_iload_n hx hb d_Met_hasCall_24 rfl (lv_at hl 1 rfl) ?_
      refine lv_iconst (v := nI 2) hx hb d_Met_hasCall_25 (by decide) ?_
      refine lv_icmp_ne (tgt := 41) hx hb d_Met_hasCall_26 rfl (fun h26 => ?_) (fun h26 => ?_)
      · skip
        refine lv_iconst (v := nI 0) hx hb d_Met_hasCall_41 (by decide) ?_
        exact xr_i hx hb hrt hlk rfl hP hD hS () [0, 1] (by decide) rfl (xp_f (fun h9 => by rcases of_decide_eq_true h9 with h | h | h <;> first | exact h1 h.1 | exact absurd (decide_eq_true h.2) (by rw [h8]; decide) | exact h13 h.1 | exact h.2 h21 | exact h26 h.1 | exact h.2 h34)) d_Met_hasCall_42
      refine lv_aload_n hx hb d_Met_hasCall_29 rfl (lv_at hl 0 rfl) ?_
      refine va_get (D := D) (ci := 1) (v := .int b2) (C := R_Met) (T := F_Met) (N := 4) hx hb hts in_Met hown hK hP 0 rfl rfl 2 (by decide) (hts _ (List.mem_cons_of_mem _ k_45)) (fun _ h9 => h9) rfl d_Met_hasCall_30 ?_
      refine lv_iconst (v := (-1)) hx hb d_Met_hasCall_33 (by decide) ?_
      refine lv_icmp_eq (tgt := 41) hx hb d_Met_hasCall_34 rfl (fun h34 => ?_) (fun h34 => ?_)
      · skip
        refine lv_iconst (v := nI 0) hx hb d_Met_hasCall_41 (by decide) ?_
        exact xr_i hx hb hrt hlk rfl hP hD hS () [0, 1] (by decide) rfl (xp_f (fun h9 => by rcases of_decide_eq_true h9 with h | h | h <;> first | exact h1 h.1 | exact absurd (decide_eq_true h.2) (by rw [h8]; decide) | exact h13 h.1 | exact h.2 h21 | exact h26 h.1 | exact h.2 h34)) d_Met_hasCall_42
      refine lv_iconst (v := nI 1) hx hb d_Met_hasCall_37 (by decide) ?_
      refine lv_goto (tgt := 42) hx hb d_Met_hasCall_38 rfl ?_
      exact xr_i hx hb hrt hlk rfl hP hD hS () [0, 1] (by decide) rfl (xp_t (decide_eq_true (by first | exact Or.inl ⟨h1, of_decide_eq_true h8⟩ | exact Or.inr (Or.inl ⟨h13, h21⟩) | exact Or.inr (Or.inr ⟨h26, h34⟩)))) d_Met_hasCall_42
    refine lv_aload_n hx hb d_Met_hasCall_16 rfl (lv_at hl 0 rfl) ?_
    refine va_get (D := D) (ci := 1) (v := .int b1) (C := R_Met) (T := F_Met) (N := 4) hx hb hts in_Met hown hK hP 0 rfl rfl 1 (by decide) (hts _ (List.mem_cons_of_mem _ k_44)) (fun _ h9 => h9) rfl d_Met_hasCall_17 ?_
    refine lv_iconst (v := (-1)) hx hb d_Met_hasCall_20 (by decide) ?_
    refine lv_icmp_ne (tgt := 37) hx hb d_Met_hasCall_21 rfl (fun h21 => ?_) (fun h21 => ?_)
    · skip
      refine lv_iconst (v := nI 1) hx hb d_Met_hasCall_37 (by decide) ?_
      refine lv_goto (tgt := 42) hx hb d_Met_hasCall_38 rfl ?_
      exact xr_i hx hb hrt hlk rfl hP hD hS () [0, 1] (by decide) rfl (xp_t (decide_eq_true (by first | exact Or.inl ⟨h1, of_decide_eq_true h8⟩ | exact Or.inr (Or.inl ⟨h13, h21⟩) | exact Or.inr (Or.inr ⟨h26, h34⟩)))) d_Met_hasCall_42
    refine lv_iload_n hx hb d_Met_hasCall_24 rfl (lv_at hl 1 rfl) ?_
    refine lv_iconst (v := nI 2) hx hb d_Met_hasCall_25 (by decide) ?_
    refine lv_icmp_ne (tgt := 41) hx hb d_Met_hasCall_26 rfl (fun h26 => ?_) (fun h26 => ?_)
    · skip
      refine lv_iconst (v := nI 0) hx hb d_Met_hasCall_41 (by decide) ?_
      exact xr_i hx hb hrt hlk rfl hP hD hS () [0, 1] (by decide) rfl (xp_f (fun h9 => by rcases of_decide_eq_true h9 with h | h | h <;> first | exact h1 h.1 | exact absurd (decide_eq_true h.2) (by rw [h8]; decide) | exact h13 h.1 | exact h.2 h21 | exact h26 h.1 | exact h.2 h34)) d_Met_hasCall_42
    refine lv_aload_n hx hb d_Met_hasCall_29 rfl (lv_at hl 0 rfl) ?_
    refine va_get (D := D) (ci := 1) (v := .int b2) (C := R_Met) (T := F_Met) (N := 4) hx hb hts in_Met hown hK hP 0 rfl rfl 2 (by decide) (hts _ (List.mem_cons_of_mem _ k_45)) (fun _ h9 => h9) rfl d_Met_hasCall_30 ?_
    refine lv_iconst (v := (-1)) hx hb d_Met_hasCall_33 (by decide) ?_
    refine lv_icmp_eq (tgt := 41) hx hb d_Met_hasCall_34 rfl (fun h34 => ?_) (fun h34 => ?_)
    · skip
      refine lv_iconst (v := nI 0) hx hb d_Met_hasCall_41 (by decide) ?_
      exact xr_i hx hb hrt hlk rfl hP hD hS () [0, 1] (by decide) rfl (xp_f (fun h9 => by rcases of_decide_eq_true h9 with h | h | h <;> first | exact h1 h.1 | exact absurd (decide_eq_true h.2) (by rw [h8]; decide) | exact h13 h.1 | exact h.2 h21 | exact h26 h.1 | exact h.2 h34)) d_Met_hasCall_42
    refine lv_iconst (v := nI 1) hx hb d_Met_hasCall_37 (by decide) ?_
    refine lv_goto (tgt := 42) hx hb d_Met_hasCall_38 rfl ?_
    exact xr_i hx hb hrt hlk rfl hP hD hS () [0, 1] (by decide) rfl (xp_t (decide_eq_true (by first | exact Or.inl ⟨h1, of_decide_eq_true h8⟩ | exact Or.inr (Or.inl ⟨h13, h21⟩) | exact Or.inr (Or.inr ⟨h26, h34⟩)))) d_Met_hasCall_42
  refine lv_aload_n hx hb d_Met_hasCall_4 rfl (lv_at hl 0 rfl) ?_
  refine xc_i (wc := [(aM, .inr (1, [.ref aK, .int b1, .int b2, .int (nI ln)])), (aK, .inl (cI, 24, .inl mk))]) (wr := []) (gG_ok tF) hK hP hD hS hA hg [0, 1] [] rfl rfl (by decide) (by decide) (by decide) (fun h1 h2 => va_runV (As := []) (rest := []) ⟨hx, hb, hml, hown, hts⟩ (c_Met_isDefined aM aK mk b1 b2 ln hln _) (cwV 0 hts (gV k_254 k_177 k_178 k_3 k_179) rfl rfl rfl (by decide +kernel) ⟨Nat.le_of_ble_eq_true rfl, Nat.le_of_ble_eq_true rfl⟩) ⟨h1, va_recv (q0 := 0) (ci := 1) hK hP rfl rfl, h2⟩ rfl rfl hl.1 rfl (lv_room (Nat.le_of_ble_eq_true rfl)) d_Met_hasCall_5 ⟨Nat.zero_le _, Nat.zero_le _⟩) (fun r u H locs hq9 hP hD hS => ?_)
  obtain rfl := hq9
  have hP : va_P D vwCl [(aM, .inr (1, [.ref aK, .int b1, .int b2, .int (nI ln)])), (aK, .inl (cI, 24, .inl mk))] H := hP
  have hD : va_D A [(aM, .inr (1, [.ref aK, .int b1, .int b2, .int (nI ln)])), (aK, .inl (cI, 24, .inl mk))] := hD
  refine xb_neB (x := decide (0 < ln)) hx hb 37 d_Met_hasCall_8 rfl (fun h8 => ?_) (fun h8 => ?_)
  · skip
    refine lv_iconst (v := nI 1) hx hb d_Met_hasCall_37 (by decide) ?_
    refine lv_goto (tgt := 42) hx hb d_Met_hasCall_38 rfl ?_
    exact xr_i hx hb hrt hlk rfl hP hD hS () [0, 1] (by decide) rfl (xp_t (decide_eq_true (by first | exact Or.inl ⟨h1, of_decide_eq_true h8⟩ | exact Or.inr (Or.inl ⟨h13, h21⟩) | exact Or.inr (Or.inr ⟨h26, h34⟩)))) d_Met_hasCall_42
  refine lv_iload_n hx hb d_Met_hasCall_11 rfl (lv_at hl 1 rfl) ?_
  refine lv_iconst (v := nI 1) hx hb d_Met_hasCall_12 (by decide) ?_
  refine lv_icmp_ne (tgt := 24) hx hb d_Met_hasCall_13 rfl (fun h13 => ?_) (fun h13 => ?_)
  · skip
    refine lv_iload_n hx hb d_Met_hasCall_24 rfl (lv_at hl 1 rfl) ?_
    refine lv_iconst (v := nI 2) hx hb d_Met_hasCall_25 (by decide) ?_
    refine lv_icmp_ne (tgt := 41) hx hb d_Met_hasCall_26 rfl (fun h26 => ?_) (fun h26 => ?_)
    · skip
      refine lv_iconst (v := nI 0) hx hb d_Met_hasCall_41 (by decide) ?_
      exact xr_i hx hb hrt hlk rfl hP hD hS () [0, 1] (by decide) rfl (xp_f (fun h9 => by rcases of_decide_eq_true h9 with h | h | h <;> first | exact h1 h.1 | exact absurd (decide_eq_true h.2) (by rw [h8]; decide) | exact h13 h.1 | exact h.2 h21 | exact h26 h.1 | exact h.2 h34)) d_Met_hasCall_42
    refine lv_aload_n hx hb d_Met_hasCall_29 rfl (lv_at hl 0 rfl) ?_
    refine va_get (D := D) (ci := 1) (v := .int b2) (C := R_Met) (T := F_Met) (N := 4) hx hb hts in_Met hown hK hP 0 rfl rfl 2 (by decide) (hts _ (List.mem_cons_of_mem _ k_45)) (fun _ h9 => h9) rfl d_Met_hasCall_30 ?_
    refine lv_iconst (v := (-1)) hx hb d_Met_hasCall_33 (by decide) ?_
    refine lv_icmp_eq (tgt := 41) hx hb d_Met_hasCall_34 rfl (fun h34 => ?_) (fun h34 => ?_)
    · skip
      refine lv_iconst (v := nI 0) hx hb d_Met_hasCall_41 (by decide) ?_
      exact xr_i hx hb hrt hlk rfl hP hD hS () [0, 1] (by decide) rfl (xp_f (fun h9 => by rcases of_decide_eq_true h9 with h | h | h <;> first | exact h1 h.1 | exact absurd (decide_eq_true h.2) (by rw [h8]; decide) | exact h13 h.1 | exact h.2 h21 | exact h26 h.1 | exact h.2 h34)) d_Met_hasCall_42
    refine lv_iconst (v := nI 1) hx hb d_Met_hasCall_37 (by decide) ?_
    refine lv_goto (tgt := 42) hx hb d_Met_hasCall_38 rfl ?_
    exact xr_i hx hb hrt hlk rfl hP hD hS () [0, 1] (by decide) rfl (xp_t (decide_eq_true (by first | exact Or.inl ⟨h1, of_decide_eq_true h8⟩ | exact Or.inr (Or.inl ⟨h13, h21⟩) | exact Or.inr (Or.inr ⟨h26, h34⟩)))) d_Met_hasCall_42
  refine lv_aload_n hx hb d_Met_hasCall_16 rfl (lv_at hl 0 rfl) ?_
  refine va_get (D := D) (ci := 1) (v := .int b1) (C := R_Met) (T := F_Met) (N := 4) hx hb hts in_Met hown hK hP 0 rfl rfl 1 (by decide) (hts _ (List.mem_cons_of_mem _ k_44)) (fun _ h9 => h9) rfl d_Met_hasCall_17 ?_
  refine lv_iconst (v := (-1)) hx hb d_Met_hasCall_20 (by decide) ?_
  refine lv_icmp_ne (tgt := 37) hx hb d_Met_hasCall_21 rfl (fun h21 => ?_) (fun h21 => ?_)
  · skip
    refine lv_iconst (v := nI 1) hx hb d_Met_hasCall_37 (by decide) ?_
    refine lv_goto (tgt := 42) hx hb d_Met_hasCall_38 rfl ?_
    exact xr_i hx hb hrt hlk rfl hP hD hS () [0, 1] (by decide) rfl (xp_t (decide_eq_true (by first | exact Or.inl ⟨h1, of_decide_eq_true h8⟩ | exact Or.inr (Or.inl ⟨h13, h21⟩) | exact Or.inr (Or.inr ⟨h26, h34⟩)))) d_Met_hasCall_42
  refine lv_iload_n hx hb d_Met_hasCall_24 rfl (lv_at hl 1 rfl) ?_
  refine lv_iconst (v := nI 2) hx hb d_Met_hasCall_25 (by decide) ?_
  refine lv_icmp_ne (tgt := 41) hx hb d_Met_hasCall_26 rfl (fun h26 => ?_) (fun h26 => ?_)
  · skip
    refine lv_iconst (v := nI 0) hx hb d_Met_hasCall_41 (by decide) ?_
    exact xr_i hx hb hrt hlk rfl hP hD hS () [0, 1] (by decide) rfl (xp_f (fun h9 => by rcases of_decide_eq_true h9 with h | h | h <;> first | exact h1 h.1 | exact absurd (decide_eq_true h.2) (by rw [h8]; decide) | exact h13 h.1 | exact h.2 h21 | exact h26 h.1 | exact h.2 h34)) d_Met_hasCall_42
  refine lv_aload_n hx hb d_Met_hasCall_29 rfl (lv_at hl 0 rfl) ?_
  refine va_get (D := D) (ci := 1) (v := .int b2) (C := R_Met) (T := F_Met) (N := 4) hx hb hts in_Met hown hK hP 0 rfl rfl 2 (by decide) (hts _ (List.mem_cons_of_mem _ k_45)) (fun _ h9 => h9) rfl d_Met_hasCall_30 ?_
  refine lv_iconst (v := (-1)) hx hb d_Met_hasCall_33 (by decide) ?_
  refine lv_icmp_eq (tgt := 41) hx hb d_Met_hasCall_34 rfl (fun h34 => ?_) (fun h34 => ?_)
  · skip
    refine lv_iconst (v := nI 0) hx hb d_Met_hasCall_41 (by decide) ?_
    exact xr_i hx hb hrt hlk rfl hP hD hS () [0, 1] (by decide) rfl (xp_f (fun h9 => by rcases of_decide_eq_true h9 with h | h | h <;> first | exact h1 h.1 | exact absurd (decide_eq_true h.2) (by rw [h8]; decide) | exact h13 h.1 | exact h.2 h21 | exact h26 h.1 | exact h.2 h34)) d_Met_hasCall_42
  refine lv_iconst (v := nI 1) hx hb d_Met_hasCall_37 (by decide) ?_
  refine lv_goto (tgt := 42) hx hb d_Met_hasCall_38 rfl ?_
  exact xr_i hx hb hrt hlk rfl hP hD hS () [0, 1] (by decide) rfl (xp_t (decide_eq_true (by first | exact Or.inl ⟨h1, of_decide_eq_true h8⟩ | exact Or.inr (Or.inl ⟨h13, h21⟩) | exact Or.inr (Or.inr ⟨h26, h34⟩)))) d_Met_hasCall_42
set_option maxHeartbeats 4000000 in
set_option maxRecDepth 100000 in
theorem c_Met_maskFor (aM : Nat) (aK : Nat) (mk : Nat → Int32) (b1 : Int32) (b2 : Int32) (ln : Nat) (kd : Nat) (j : Nat) (hk : kd ≤ 2) (hj : j < 24) (hln : 1 ≤ ln ∧ ln ≤ 24) : CtI l y_Met_maskFor (w_Met_maskFor) ({ frames := 0, cells := 0, slots := 0, locals := 0 }) D vwCl (TYs cI cZ cJ cG) (gG tF) [.ref aM, .int (nI kd), .int (nI j)] [(aM, .inr (1, [.ref aK, .int b1, .int b2, .int (nI ln)])), (aK, .inl (cI, 24, .inl mk))] 0 0 (fun _ : Unit => [(aM, .inr (1, [.ref aK, .int b1, .int b2, .int (nI ln)])), (aK, .inl (cI, 24, .inl mk))]) (fun (r : Int32) (_ : Unit) => r = mkf ln mk b1 b2 kd j) := by
  refine CtI.of (cc := b_Met_maskFor) (maxL := 3) (ret := (some .int)) (by decide) rfl (Nat.le_of_ble_eq_true rfl) ?_
  intro p e s m args below meth c A ls hF hA hP hK hD hg hS hl
  obtain ⟨hx, hb, hrt, hlk, hml, hown, hts, hnm⟩ := hF
  have hown : s.vm.findClass R_Met = some m.cls := hown
  have hl : lv_has ls 3 [(0, .ref aM), (1, .int (nI kd)), (2, .int (nI j))] := hl
  obtain ⟨hl1, hl2⟩ := hln
  refine lv_iload_n hx hb d_Met_maskFor_0 rfl (lv_at hl 1 rfl) ?_
  refine xb_eq hx hb 14 (by omega) d_Met_maskFor_1 rfl (fun h1 => ?_) (fun h1 => ?_)
  · skip
    refine lv_aload_n hx hb d_Met_maskFor_14 rfl (lv_at hl 0 rfl) ?_
    refine va_get (D := D) (ci := 1) (v := .ref aK) (C := R_Met) (T := F_Met) (N := 4) hx hb hts in_Met hown hK hP 0 rfl rfl 0 (by decide) (hts _ (List.mem_cons_of_mem _ k_43)) (fun _ h9 => h9) rfl d_Met_maskFor_15 ?_
    refine lv_iload_n hx hb d_Met_maskFor_18 rfl (lv_at hl 2 rfl) ?_
    refine xa_iald (v := mk j) hx hb hK hP 1 0 rfl rfl (by omega) (by decide) rfl d_Met_maskFor_19 ?_
    exact xr_i hx hb hrt hlk rfl hP hD hS () [0, 1] (by decide) rfl (by unfold mkf; first | rw [if_pos h1] | rw [if_neg h1, if_neg h11]) d_Met_maskFor_20
  refine lv_iload_n hx hb d_Met_maskFor_4 rfl (lv_at hl 2 rfl) ?_
  refine lv_aload_n hx hb d_Met_maskFor_5 rfl (lv_at hl 0 rfl) ?_
  refine va_get (D := D) (ci := 1) (v := .int (nI ln)) (C := R_Met) (T := F_Met) (N := 4) hx hb hts in_Met hown hK hP 0 rfl rfl 3 (by decide) (hts _ (List.mem_cons_of_mem _ k_46)) (fun _ h9 => h9) rfl d_Met_maskFor_6 ?_
  refine lv_iconst (v := nI 1) hx hb d_Met_maskFor_9 (by decide) ?_
  refine lv_isub hx hb d_Met_maskFor_10 ?_
  refine xn_i (y := nI (ln - 1)) (pk_sub (by omega)) ?_
  refine xb_ceq hx hb 21 (by omega) (by omega) d_Met_maskFor_11 rfl (fun h11 => ?_) (fun h11 => ?_)
  · skip
    refine lv_iload_n hx hb d_Met_maskFor_21 rfl (lv_at hl 1 rfl) ?_
    refine lv_iconst (v := nI 1) hx hb d_Met_maskFor_22 (by decide) ?_
    refine xb_cne hx hb 33 (by omega) (by omega) d_Met_maskFor_23 rfl (fun h23 => ?_) (fun h23 => ?_)
    · skip
      refine lv_aload_n hx hb d_Met_maskFor_33 rfl (lv_at hl 0 rfl) ?_
      refine va_get (D := D) (ci := 1) (v := .int b2) (C := R_Met) (T := F_Met) (N := 4) hx hb hts in_Met hown hK hP 0 rfl rfl 2 (by decide) (hts _ (List.mem_cons_of_mem _ k_45)) (fun _ h9 => h9) rfl d_Met_maskFor_34 ?_
      exact xr_i hx hb hrt hlk rfl hP hD hS () [0, 1] (by decide) rfl (by unfold mkf; rw [if_neg h1, if_pos h11]; first | rw [if_pos h23] | rw [if_neg h23]) d_Met_maskFor_37
    refine lv_aload_n hx hb d_Met_maskFor_26 rfl (lv_at hl 0 rfl) ?_
    refine va_get (D := D) (ci := 1) (v := .int b1) (C := R_Met) (T := F_Met) (N := 4) hx hb hts in_Met hown hK hP 0 rfl rfl 1 (by decide) (hts _ (List.mem_cons_of_mem _ k_44)) (fun _ h9 => h9) rfl d_Met_maskFor_27 ?_
    refine lv_goto (tgt := 37) hx hb d_Met_maskFor_30 rfl ?_
    exact xr_i hx hb hrt hlk rfl hP hD hS () [0, 1] (by decide) rfl (by unfold mkf; rw [if_neg h1, if_pos h11]; first | rw [if_pos h23] | rw [if_neg h23]) d_Met_maskFor_37
  refine lv_aload_n hx hb d_Met_maskFor_14 rfl (lv_at hl 0 rfl) ?_
  refine va_get (D := D) (ci := 1) (v := .ref aK) (C := R_Met) (T := F_Met) (N := 4) hx hb hts in_Met hown hK hP 0 rfl rfl 0 (by decide) (hts _ (List.mem_cons_of_mem _ k_43)) (fun _ h9 => h9) rfl d_Met_maskFor_15 ?_
  refine lv_iload_n hx hb d_Met_maskFor_18 rfl (lv_at hl 2 rfl) ?_
  refine xa_iald (v := mk j) hx hb hK hP 1 0 rfl rfl (by omega) (by decide) rfl d_Met_maskFor_19 ?_
  exact xr_i hx hb hrt hlk rfl hP hD hS () [0, 1] (by decide) rfl (by unfold mkf; first | rw [if_pos h1] | rw [if_neg h1, if_neg h11]) d_Met_maskFor_20
set_option maxHeartbeats 4000000 in
set_option maxRecDepth 100000 in
theorem c_Met_maskFor0 (aM : Nat) (aK : Nat) (mk : Nat → Int32) (b1 : Int32) (b2 : Int32) (ln : Nat) (j : Nat) (hj : j < 24) : CtI l y_Met_maskFor (w_Met_maskFor) ({ frames := 0, cells := 0, slots := 0, locals := 0 }) D vwCl (TYs cI cZ cJ cG) (gG tF) [.ref aM, .int (nI 0), .int (nI j)] [(aM, .inr (1, [.ref aK, .int b1, .int b2, .int (nI ln)])), (aK, .inl (cI, 24, .inl mk))] 0 0 (fun _ : Unit => [(aM, .inr (1, [.ref aK, .int b1, .int b2, .int (nI ln)])), (aK, .inl (cI, 24, .inl mk))]) (fun (r : Int32) (_ : Unit) => r = mk j) := by
  refine CtI.of (cc := b_Met_maskFor) (maxL := 3) (ret := (some .int)) (by decide) rfl (Nat.le_of_ble_eq_true rfl) ?_
  intro p e s m args below meth c A ls hF hA hP hK hD hg hS hl
  obtain ⟨hx, hb, hrt, hlk, hml, hown, hts, hnm⟩ := hF
  have hown : s.vm.findClass R_Met = some m.cls := hown
  have hl : lv_has ls 3 [(0, .ref aM), (1, .int (nI 0)), (2, .int (nI j))] := hl
  refine lv_iload_n hx hb d_Met_maskFor_0 rfl (lv_at hl 1 rfl) ?_
  refine xb_eq hx hb 14 (by decide) d_Met_maskFor_1 rfl (fun _ => ?_) (fun h => absurd h (by decide))
  refine lv_aload_n hx hb d_Met_maskFor_14 rfl (lv_at hl 0 rfl) ?_
  refine va_get (D := D) (ci := 1) (v := .ref aK) (C := R_Met) (T := F_Met) (N := 4) hx hb hts in_Met hown hK hP 0 rfl rfl 0 (by decide) (hts _ (List.mem_cons_of_mem _ k_43)) (fun _ h9 => h9) rfl d_Met_maskFor_15 ?_
  refine lv_iload_n hx hb d_Met_maskFor_18 rfl (lv_at hl 2 rfl) ?_
  refine xa_iald (v := mk j) hx hb hK hP 1 0 rfl rfl (by omega) (by decide) rfl d_Met_maskFor_19 ?_
  exact xr_i hx hb hrt hlk rfl hP hD hS () [0, 1] (by decide) rfl rfl d_Met_maskFor_20
set_option maxHeartbeats 4000000 in
set_option maxRecDepth 100000 in
theorem c_Set_length (aS : Nat) (aQ : Nat) (aN : Nat) (rk : Nat → Int32) (nu : Nat → Int32) (z : Nat)  : CtI l y_Set_length (w_Set_length) ({ frames := 0, cells := 0, slots := 0, locals := 0 }) D vwCl (TYs cI cZ cJ cG) (gG tF) [.ref aS] [(aS, .inr (4, [.ref aQ, .ref aN, .int (nI z)])), (aQ, .inl (cI, 720, .inl rk)), (aN, .inl (cI, 720, .inl nu))] 0 0 (fun _ : Unit => [(aS, .inr (4, [.ref aQ, .ref aN, .int (nI z)])), (aQ, .inl (cI, 720, .inl rk)), (aN, .inl (cI, 720, .inl nu))]) (fun (r : Int32) (_ : Unit) => r = nI z) := by
  refine CtI.of (cc := b_Set_length) (maxL := 1) (ret := (some .int)) (by decide) rfl (Nat.le_of_ble_eq_true rfl) ?_
  intro p e s m args below meth c A ls hF hA hP hK hD hg hS hl
  obtain ⟨hx, hb, hrt, hlk, hml, hown, hts, hnm⟩ := hF
  have hown : s.vm.findClass R_Set = some m.cls := hown
  have hl : lv_has ls 1 [(0, .ref aS)] := hl
  refine lv_aload_n hx hb d_Set_length_0 rfl (lv_at hl 0 rfl) ?_
  refine va_get (D := D) (ci := 4) (v := .int (nI z)) (C := R_Set) (T := F_Set) (N := 3) hx hb hts in_Set hown hK hP 0 rfl rfl 2 (by decide) (hts _ (List.mem_cons_of_mem _ k_70)) (fun _ h9 => h9) rfl d_Set_length_1 ?_
  exact xr_i hx hb hrt hlk rfl hP hD hS () [0, 1, 2] (by decide) rfl rfl d_Set_length_4
set_option maxHeartbeats 4000000 in
set_option maxRecDepth 100000 in
theorem c_Set_dropFrom (aS : Nat) (aQ : Nat) (aN : Nat) (rk : Nat → Int32) (nu : Nat → Int32) (z : Nat) (y : Nat)  : CtV l y_Set_dropFrom (w_Set_dropFrom) ({ frames := 0, cells := 0, slots := 0, locals := 0 }) D vwCl (TYs cI cZ cJ cG) (gG tF) [.ref aS, .int (nI y)] [(aS, .inr (4, [.ref aQ, .ref aN, .int (nI z)])), (aQ, .inl (cI, 720, .inl rk)), (aN, .inl (cI, 720, .inl nu))] 0 0 (fun _ : Unit => [(aS, .inr (4, [.ref aQ, .ref aN, .int (nI y)])), (aQ, .inl (cI, 720, .inl rk)), (aN, .inl (cI, 720, .inl nu))]) (fun _ : Unit => True) := by
  refine CtV.of (cc := b_Set_dropFrom) (maxL := 2) (ret := none) (by decide) rfl (Nat.le_of_ble_eq_true rfl) ?_
  intro p e s m args below meth c A ls hF hA hP hK hD hg hS hl
  obtain ⟨hx, hb, hrt, hlk, hml, hown, hts, hnm⟩ := hF
  have hown : s.vm.findClass R_Set = some m.cls := hown
  have hl : lv_has ls 2 [(0, .ref aS), (1, .int (nI y))] := hl
  refine lv_aload_n hx hb d_Set_dropFrom_0 rfl (lv_at hl 0 rfl) ?_
  refine lv_iload_n hx hb d_Set_dropFrom_1 rfl (lv_at hl 1 rfl) ?_
  refine va_put (D := D) (ci := 4) (v := .int (nI y)) (ty := .int) (C := R_Set) (T := F_Set) (N := 3) hx hb hts in_Set t_Set t_Set_ok n_Set hown hK hP hD hS 0 rfl rfl 2 (by decide) (hts _ (List.mem_cons_of_mem _ k_70)) (fun _ h9 => h9) rfl (by decide +kernel) rfl rfl (Nat.le_of_ble_eq_true rfl) d_Set_dropFrom_2 (fun H locs hP hD hS => ?_)
  have hP : va_P D vwCl [(aS, .inr (4, [.ref aQ, .ref aN, .int (nI y)])), (aQ, .inl (cI, 720, .inl rk)), (aN, .inl (cI, 720, .inl nu))] H := hP
  have hD : va_D A [(aS, .inr (4, [.ref aQ, .ref aN, .int (nI y)])), (aQ, .inl (cI, 720, .inl rk)), (aN, .inl (cI, 720, .inl nu))] := hD
  exact xr_v hx hb hrt hlk hP hD hS () [0, 1, 2] (by decide) rfl trivial d_Set_dropFrom_5
set_option maxHeartbeats 4000000 in
set_option maxRecDepth 100000 in
theorem c_Set_rankAt (aS : Nat) (aQ : Nat) (aN : Nat) (rk : Nat → Int32) (nu : Nat → Int32) (z : Nat) (i : Nat) (k : Nat) (hi : i < 720) (hk : rk i = nI k) : CtI l y_Set_rankAt (w_Set_rankAt) ({ frames := 0, cells := 0, slots := 0, locals := 0 }) D vwCl (TYs cI cZ cJ cG) (gG tF) [.ref aS, .int (nI i)] [(aS, .inr (4, [.ref aQ, .ref aN, .int (nI z)])), (aQ, .inl (cI, 720, .inl rk)), (aN, .inl (cI, 720, .inl nu))] 0 0 (fun _ : Unit => [(aS, .inr (4, [.ref aQ, .ref aN, .int (nI z)])), (aQ, .inl (cI, 720, .inl rk)), (aN, .inl (cI, 720, .inl nu))]) (fun (r : Int32) (_ : Unit) => r = nI k) := by
  refine CtI.of (cc := b_Set_rankAt) (maxL := 2) (ret := (some .int)) (by decide) rfl (Nat.le_of_ble_eq_true rfl) ?_
  intro p e s m args below meth c A ls hF hA hP hK hD hg hS hl
  obtain ⟨hx, hb, hrt, hlk, hml, hown, hts, hnm⟩ := hF
  have hown : s.vm.findClass R_Set = some m.cls := hown
  have hl : lv_has ls 2 [(0, .ref aS), (1, .int (nI i))] := hl
  refine lv_aload_n hx hb d_Set_rankAt_0 rfl (lv_at hl 0 rfl) ?_
  refine va_get (D := D) (ci := 4) (v := .ref aQ) (C := R_Set) (T := F_Set) (N := 3) hx hb hts in_Set hown hK hP 0 rfl rfl 0 (by decide) (hts _ (List.mem_cons_of_mem _ k_68)) (fun _ h9 => h9) rfl d_Set_rankAt_1 ?_
  refine lv_iload_n hx hb d_Set_rankAt_4 rfl (lv_at hl 1 rfl) ?_
  refine xa_iald (v := nI k) hx hb hK hP 1 0 rfl rfl (by omega) (by decide) hk d_Set_rankAt_5 ?_
  exact xr_i hx hb hrt hlk rfl hP hD hS () [0, 1, 2] (by decide) rfl rfl d_Set_rankAt_6
set_option maxHeartbeats 4000000 in
set_option maxRecDepth 100000 in
theorem c_Set_has (aS : Nat) (aQ : Nat) (aN : Nat) (rk : Nat → Int32) (nu : Nat → Int32) (z : Nat) (R : Nat → Nat) (k : Nat) (hk : k < 720) (hs : si z R rk nu) : CtI l y_Set_has (w_Set_has) ({ frames := 0, cells := 0, slots := 0, locals := 0 }) D vwCl (TYs cI cZ cJ cG) (gG tF) [.ref aS, .int (nI k)] [(aS, .inr (4, [.ref aQ, .ref aN, .int (nI z)])), (aQ, .inl (cI, 720, .inl rk)), (aN, .inl (cI, 720, .inl nu))] 0 0 (fun _ : Unit => [(aS, .inr (4, [.ref aQ, .ref aN, .int (nI z)])), (aQ, .inl (cI, 720, .inl rk)), (aN, .inl (cI, 720, .inl nu))]) (fun (r : Int32) (_ : Unit) => r = nI ((inR R z k).toNat)) := by
  refine CtI.of (cc := b_Set_has) (maxL := 3) (ret := (some .boolean)) (by decide) rfl (Nat.le_of_ble_eq_true rfl) ?_
  intro p e s m args below meth c A ls hF hA hP hK hD hg hS hl
  obtain ⟨hx, hb, hrt, hlk, hml, hown, hts, hnm⟩ := hF
  have hown : s.vm.findClass R_Set = some m.cls := hown
  have hl : lv_has ls 3 [(0, .ref aS), (1, .int (nI k))] := hl
  obtain ⟨a, ha, hna⟩ := hs.2.1 k hk
  have hz := hs.2.2.2
  have hif := si_has hs hna ha
  refine lv_aload_n hx hb d_Set_has_0 rfl (lv_at hl 0 rfl) ?_
  refine va_get (D := D) (ci := 4) (v := .ref aN) (C := R_Set) (T := F_Set) (N := 3) hx hb hts in_Set hown hK hP 0 rfl rfl 1 (by decide) (hts _ (List.mem_cons_of_mem _ k_69)) (fun _ h9 => h9) rfl d_Set_has_1 ?_
  refine lv_iload_n hx hb d_Set_has_4 rfl (lv_at hl 1 rfl) ?_
  refine xa_iald (v := nI a) hx hb hK hP 2 0 rfl rfl (by omega) (by decide) hna d_Set_has_5 ?_
  refine lv_istore_n hx hb d_Set_has_6 rfl hl (by decide) rfl (fun ls hl => ?_)
  have hl : lv_has ls 3 [(2, .int (nI a)), (0, .ref aS), (1, .int (nI k))] := hl
  refine lv_iload_n hx hb d_Set_has_7 rfl (lv_at hl 0 rfl) ?_
  refine lv_aload_n hx hb d_Set_has_8 rfl (lv_at hl 1 rfl) ?_
  refine va_get (D := D) (ci := 4) (v := .int (nI z)) (C := R_Set) (T := F_Set) (N := 3) hx hb hts in_Set hown hK hP 0 rfl rfl 2 (by decide) (hts _ (List.mem_cons_of_mem _ k_70)) (fun _ h9 => h9) rfl d_Set_has_9 ?_
  refine xb_cge hx hb 29 (by omega) (by omega) d_Set_has_12 rfl (fun h12 => ?_) (fun h12 => ?_)
  · skip
    refine lv_iconst (v := nI 0) hx hb d_Set_has_29 (by decide) ?_
    exact xr_i hx hb hrt hlk rfl hP hD hS () [0, 1, 2] (by decide) rfl (xp_f (fun h => by have h8 := hif.mp h; first | omega | exact h22 ((nI_eq (by omega) (by omega)).mp (hrb.symm.trans h8.2.1)))) d_Set_has_30
  refine lv_aload_n hx hb d_Set_has_15 rfl (lv_at hl 1 rfl) ?_
  refine va_get (D := D) (ci := 4) (v := .ref aQ) (C := R_Set) (T := F_Set) (N := 3) hx hb hts in_Set hown hK hP 0 rfl rfl 0 (by decide) (hts _ (List.mem_cons_of_mem _ k_68)) (fun _ h9 => h9) rfl d_Set_has_16 ?_
  refine lv_iload_n hx hb d_Set_has_19 rfl (lv_at hl 0 rfl) ?_
  obtain ⟨b, hb9, hrb⟩ := hs.2.2.1 a ha
  refine xa_iald (v := nI b) hx hb hK hP 1 0 rfl rfl (by omega) (by decide) hrb d_Set_has_20 ?_
  refine lv_iload_n hx hb d_Set_has_21 rfl (lv_at hl 2 rfl) ?_
  refine xb_cne hx hb 29 (by omega) (by omega) d_Set_has_22 rfl (fun h22 => ?_) (fun h22 => ?_)
  · skip
    refine lv_iconst (v := nI 0) hx hb d_Set_has_29 (by decide) ?_
    exact xr_i hx hb hrt hlk rfl hP hD hS () [0, 1, 2] (by decide) rfl (xp_f (fun h => by have h8 := hif.mp h; first | omega | exact h22 ((nI_eq (by omega) (by omega)).mp (hrb.symm.trans h8.2.1)))) d_Set_has_30
  refine lv_iconst (v := nI 1) hx hb d_Set_has_25 (by decide) ?_
  refine lv_goto (tgt := 30) hx hb d_Set_has_26 rfl ?_
  exact xr_i hx hb hrt hlk rfl hP hD hS () [0, 1, 2] (by decide) rfl (by rw [hif.mpr ⟨h12, by rw [hrb, h22], hk⟩]; rfl) d_Set_has_30
set_option maxHeartbeats 4000000 in
set_option maxRecDepth 100000 in
theorem c_Set_add (aS : Nat) (aQ : Nat) (aN : Nat) (rk : Nat → Int32) (nu : Nat → Int32) (z : Nat) (R : Nat → Nat) (k : Nat) (hk : k < 720) (hs : si z R rk nu) : CtV l y_Set_add (w_Set_add) ({ frames := 1, cells := 0, slots := 0, locals := 22 }) D vwCl (TYs cI cZ cJ cG) (gG tF) [.ref aS, .int (nI k)] [(aS, .inr (4, [.ref aQ, .ref aN, .int (nI z)])), (aQ, .inl (cI, 720, .inl rk)), (aN, .inl (cI, 720, .inl nu))] 0 0 (fun u : (Nat → Int32) × (Nat → Int32) => match u with | (rk2, nu2) => [(aS, .inr (4, [.ref aQ, .ref aN, .int (nI (azz R z k))])), (aQ, .inl (cI, 720, .inl rk2)), (aN, .inl (cI, 720, .inl nu2))]) (fun u : (Nat → Int32) × (Nat → Int32) => match u with | (rk2, nu2) => si (azz R z k) (azR R z k) rk2 nu2) := by
  refine CtV.of (cc := b_Set_add) (maxL := 2) (ret := none) (by decide) rfl (Nat.le_of_ble_eq_true rfl) ?_
  intro p e s m args below meth c A ls hF hA hP hK hD hg hS hl
  obtain ⟨hx, hb, hrt, hlk, hml, hown, hts, hnm⟩ := hF
  have hown : s.vm.findClass R_Set = some m.cls := hown
  have hl : lv_has ls 2 [(0, .ref aS), (1, .int (nI k))] := hl
  have hz := hs.2.2.2
  refine lv_aload_n hx hb d_Set_add_0 rfl (lv_at hl 0 rfl) ?_
  refine lv_iload_n hx hb d_Set_add_1 rfl (lv_at hl 1 rfl) ?_
  refine xc_i (wc := [(aS, .inr (4, [.ref aQ, .ref aN, .int (nI z)])), (aQ, .inl (cI, 720, .inl rk)), (aN, .inl (cI, 720, .inl nu))]) (wr := []) (gG_ok tF) hK hP hD hS hA hg [0, 1, 2] [] rfl rfl (by decide) (by decide) (by decide) (fun h1 h2 => va_runV (As := [.int (nI k)]) (rest := []) ⟨hx, hb, hml, hown, hts⟩ (c_Set_has aS aQ aN rk nu z R k hk hs _) (cwV 1 hts (gV k_283 k_284 k_285 k_5 k_286) rfl rfl rfl (by decide +kernel) ⟨Nat.le_of_ble_eq_true rfl, Nat.le_of_ble_eq_true rfl⟩) ⟨h1, va_recv (q0 := 0) (ci := 4) hK hP rfl rfl, h2⟩ rfl rfl hl.1 rfl (lv_room (Nat.le_of_ble_eq_true rfl)) d_Set_add_2 ⟨Nat.zero_le _, Nat.zero_le _⟩) (fun r u H locs hq9 hP hD hS => ?_)
  obtain rfl := hq9
  have hP : va_P D vwCl [(aS, .inr (4, [.ref aQ, .ref aN, .int (nI z)])), (aQ, .inl (cI, 720, .inl rk)), (aN, .inl (cI, 720, .inl nu))] H := hP
  have hD : va_D A [(aS, .inr (4, [.ref aQ, .ref aN, .int (nI z)])), (aQ, .inl (cI, 720, .inl rk)), (aN, .inl (cI, 720, .inl nu))] := hD
  refine xb_eqB (x := inR R z k) hx hb 9 d_Set_add_5 rfl (fun h5 => ?_) (fun h5 => ?_)
  · skip
    have hz7 := si_room hs hk h5
    have e1 : azz R z k = z + 1 := by unfold azz; rw [h5]; rfl
    have e2 : azR R z k = rx R z k := by unfold azR; rw [h5]; rfl
    refine lv_aload_n hx hb d_Set_add_9 rfl (lv_at hl 0 rfl) ?_
    refine va_get (D := D) (ci := 4) (v := .ref aQ) (C := R_Set) (T := F_Set) (N := 3) hx hb hts in_Set hown hK hP 0 rfl rfl 0 (by decide) (hts _ (List.mem_cons_of_mem _ k_68)) (fun _ h9 => h9) rfl d_Set_add_10 ?_
    refine lv_aload_n hx hb d_Set_add_13 rfl (lv_at hl 0 rfl) ?_
    refine va_get (D := D) (ci := 4) (v := .int (nI z)) (C := R_Set) (T := F_Set) (N := 3) hx hb hts in_Set hown hK hP 0 rfl rfl 2 (by decide) (hts _ (List.mem_cons_of_mem _ k_70)) (fun _ h9 => h9) rfl d_Set_add_14 ?_
    refine lv_iload_n hx hb d_Set_add_17 rfl (lv_at hl 1 rfl) ?_
    refine xa_iast hx hb hK hP hD hS 1 0 rfl rfl (by omega) (by decide) d_Set_add_18 (fun H locs hP hD hS => ?_)
    have hP : va_P D vwCl [(aS, .inr (4, [.ref aQ, .ref aN, .int (nI z)])), (aQ, .inl (cI, 720, .inl (upd rk z (nI k)))), (aN, .inl (cI, 720, .inl nu))] H := hP
    have hD : va_D A [(aS, .inr (4, [.ref aQ, .ref aN, .int (nI z)])), (aQ, .inl (cI, 720, .inl (upd rk z (nI k)))), (aN, .inl (cI, 720, .inl nu))] := hD
    refine lv_aload_n hx hb d_Set_add_19 rfl (lv_at hl 0 rfl) ?_
    refine va_get (D := D) (ci := 4) (v := .ref aN) (C := R_Set) (T := F_Set) (N := 3) hx hb hts in_Set hown hK hP 0 rfl rfl 1 (by decide) (hts _ (List.mem_cons_of_mem _ k_69)) (fun _ h9 => h9) rfl d_Set_add_20 ?_
    refine lv_iload_n hx hb d_Set_add_23 rfl (lv_at hl 1 rfl) ?_
    refine lv_aload_n hx hb d_Set_add_24 rfl (lv_at hl 0 rfl) ?_
    refine va_get (D := D) (ci := 4) (v := .int (nI z)) (C := R_Set) (T := F_Set) (N := 3) hx hb hts in_Set hown hK hP 0 rfl rfl 2 (by decide) (hts _ (List.mem_cons_of_mem _ k_70)) (fun _ h9 => h9) rfl d_Set_add_25 ?_
    refine xa_iast hx hb hK hP hD hS 2 0 rfl rfl (by omega) (by decide) d_Set_add_28 (fun H locs hP hD hS => ?_)
    have hP : va_P D vwCl [(aS, .inr (4, [.ref aQ, .ref aN, .int (nI z)])), (aQ, .inl (cI, 720, .inl (upd rk z (nI k)))), (aN, .inl (cI, 720, .inl (upd nu k (nI z))))] H := hP
    have hD : va_D A [(aS, .inr (4, [.ref aQ, .ref aN, .int (nI z)])), (aQ, .inl (cI, 720, .inl (upd rk z (nI k)))), (aN, .inl (cI, 720, .inl (upd nu k (nI z))))] := hD
    refine lv_aload_n hx hb d_Set_add_29 rfl (lv_at hl 0 rfl) ?_
    refine lv_dup hx hb d_Set_add_30 rfl ?_
    refine va_get (D := D) (ci := 4) (v := .int (nI z)) (C := R_Set) (T := F_Set) (N := 3) hx hb hts in_Set hown hK hP 0 rfl rfl 2 (by decide) (hts _ (List.mem_cons_of_mem _ k_70)) (fun _ h9 => h9) rfl d_Set_add_31 ?_
    refine lv_iconst (v := nI 1) hx hb d_Set_add_34 (by decide) ?_
    refine lv_iadd hx hb d_Set_add_35 ?_
    refine xn_i (y := nI (z + 1)) (nI_add _ _) ?_
    refine va_put (D := D) (ci := 4) (v := .int (nI (z + 1))) (ty := .int) (C := R_Set) (T := F_Set) (N := 3) hx hb hts in_Set t_Set t_Set_ok n_Set hown hK hP hD hS 0 rfl rfl 2 (by decide) (hts _ (List.mem_cons_of_mem _ k_70)) (fun _ h9 => h9) rfl (by decide +kernel) rfl rfl (Nat.le_of_ble_eq_true rfl) d_Set_add_36 (fun H locs hP hD hS => ?_)
    have hP : va_P D vwCl [(aS, .inr (4, [.ref aQ, .ref aN, .int (nI (z + 1))])), (aQ, .inl (cI, 720, .inl (upd rk z (nI k)))), (aN, .inl (cI, 720, .inl (upd nu k (nI z))))] H := hP
    have hD : va_D A [(aS, .inr (4, [.ref aQ, .ref aN, .int (nI (z + 1))])), (aQ, .inl (cI, 720, .inl (upd rk z (nI k)))), (aN, .inl (cI, 720, .inl (upd nu k (nI z))))] := hD
    exact xr_v hx hb hrt hlk hP hD hS (upd rk z (nI k), upd nu k (nI z)) [0, 1, 2] (by decide) (by rw [e1] <;> rfl) (by show si (azz R z k) (azR R z k) (upd rk z (nI k)) (upd nu k (nI z)); rw [e1, e2]; exact si_add hs hk h5) d_Set_add_39
  have e1 : azz R z k = z := by unfold azz; rw [if_pos h5]
  have e2 : azR R z k = R := by unfold azR; rw [if_pos h5]
  exact xr_v hx hb hrt hlk hP hD hS (rk, nu) [0, 1, 2] (by decide) (by rw [e1] <;> rfl) (by show si (azz R z k) (azR R z k) rk nu; rw [e1, e2]; exact hs) d_Set_add_8
end
