section
variable {l : Launch} {D : va_G} {cI cZ cJ cG : ClassId} {tF : Nat}
set_option maxHeartbeats 4000000 in
set_option maxRecDepth 100000 in
theorem c_hasInMask (w : Nat) (q : Nat) (hw : w < 64) (hq : q < 6) : CtI l y_RT_hasInMask (w_RT_hasInMask) ({ frames := 0, cells := 0, slots := 0, locals := 0 }) D vwCl (TYs cI cZ cJ cG) (gG tF) [.int (nI w), .int (nI (q + 1))] [] 0 0 (fun _ : Unit => []) (fun (r : Int32) (_ : Unit) => r = nI ((mb w q).toNat)) := by
  refine CtI.of (cc := b_RT_hasInMask) (maxL := 2) (ret := (some .boolean)) (by decide) rfl (Nat.le_of_ble_eq_true rfl) ?_
  intro p e s m args below meth c A ls hF hA hP hK hD hg hS hl
  obtain ⟨hx, hb, hrt, hlk, hml, hown, hts, hnm⟩ := hF
  have hown : s.vm.findClass R_RT = some m.cls := hown
  have hl : lv_has ls 2 [(0, .int (nI w)), (1, .int (nI (q + 1)))] := hl
  refine lv_iload_n hx hb d_RT_hasInMask_0 rfl (lv_at hl 0 rfl) ?_
  refine lv_iload_n hx hb d_RT_hasInMask_1 rfl (lv_at hl 1 rfl) ?_
  refine lv_iconst (v := nI 1) hx hb d_RT_hasInMask_2 (by decide) ?_
  refine lv_isub hx hb d_RT_hasInMask_3 ?_
  refine xn_i (y := nI q) (pk_sub (Nat.le_add_left 1 q)) ?_
  refine lv_ishr hx hb d_RT_hasInMask_4 ?_
  refine lv_iconst (v := nI 1) hx hb d_RT_hasInMask_5 (by decide) ?_
  refine lv_iand hx hb d_RT_hasInMask_6 ?_
  refine xn_i (y := nI ((w >>> q) % 2)) (xs_mb hw hq) ?_
  refine xb_eq hx hb 14 (by omega) d_RT_hasInMask_7 rfl (fun h7 => ?_) (fun h7 => ?_)
  · skip
    refine lv_iconst (v := nI 0) hx hb d_RT_hasInMask_14 (by decide) ?_
    exact xr_i hx hb hrt hlk rfl hP hD hS () [] (by decide) rfl (by unfold mb; rw [h7]; rfl) d_RT_hasInMask_15
  refine lv_iconst (v := nI 1) hx hb d_RT_hasInMask_10 (by decide) ?_
  refine lv_goto (tgt := 15) hx hb d_RT_hasInMask_11 rfl ?_
  exact xr_i hx hb hrt hlk rfl hP hD hS () [] (by decide) rfl (by unfold mb; rw [show (w >>> q) % 2 = 1 by omega]; rfl) d_RT_hasInMask_15
set_option maxHeartbeats 4000000 in
set_option maxRecDepth 100000 in
theorem c_Row_resize (aR : Nat) (aO : Nat) (n : Nat) (n2 : Nat) (f : Nat → Int32)  : CtV l y_Row_resize (w_Row_resize) ({ frames := 0, cells := 0, slots := 0, locals := 0 }) D vwCl (TYs cI cZ cJ cG) (gG tF) [.ref aR, .int (nI n2)] [(aR, .inr (3, [.ref aO, .int (nI n)])), (aO, .inl (cI, 6, .inl f))] 0 0 (fun _ : Unit => [(aR, .inr (3, [.ref aO, .int (nI n2)])), (aO, .inl (cI, 6, .inl f))]) (fun _ : Unit => True) := by
  refine CtV.of (cc := b_Row_resize) (maxL := 2) (ret := none) (by decide) rfl (Nat.le_of_ble_eq_true rfl) ?_
  intro p e s m args below meth c A ls hF hA hP hK hD hg hS hl
  obtain ⟨hx, hb, hrt, hlk, hml, hown, hts, hnm⟩ := hF
  have hown : s.vm.findClass R_Row = some m.cls := hown
  have hl : lv_has ls 2 [(0, .ref aR), (1, .int (nI n2))] := hl
  refine lv_aload_n hx hb d_Row_resize_0 rfl (lv_at hl 0 rfl) ?_
  refine lv_iload_n hx hb d_Row_resize_1 rfl (lv_at hl 1 rfl) ?_
  refine va_put (D := D) (ci := 3) (v := .int (nI n2)) (ty := .int) (C := R_Row) (T := F_Row) (N := 2) hx hb hts in_Row t_Row t_Row_ok n_Row hown hK hP hD hS 0 rfl rfl 1 (by decide) (hts _ (List.mem_cons_of_mem _ k_30)) (fun _ h9 => h9) rfl (by decide +kernel) rfl rfl (Nat.le_of_ble_eq_true rfl) d_Row_resize_2 (fun H locs hP hD hS => ?_)
  have hP : va_P D vwCl [(aR, .inr (3, [.ref aO, .int (nI n2)])), (aO, .inl (cI, 6, .inl f))] H := hP
  have hD : va_D A [(aR, .inr (3, [.ref aO, .int (nI n2)])), (aO, .inl (cI, 6, .inl f))] := hD
  exact xr_v hx hb hrt hlk hP hD hS () [0, 1] (by decide) rfl trivial d_Row_resize_5
set_option maxHeartbeats 4000000 in
set_option maxRecDepth 100000 in
theorem c_Row_length (aR : Nat) (aO : Nat) (n : Nat) (f : Nat → Int32)  : CtI l y_Row_length (w_Row_length) ({ frames := 0, cells := 0, slots := 0, locals := 0 }) D vwCl (TYs cI cZ cJ cG) (gG tF) [.ref aR] [(aR, .inr (3, [.ref aO, .int (nI n)])), (aO, .inl (cI, 6, .inl f))] 0 0 (fun _ : Unit => [(aR, .inr (3, [.ref aO, .int (nI n)])), (aO, .inl (cI, 6, .inl f))]) (fun (r : Int32) (_ : Unit) => r = nI n) := by
  refine CtI.of (cc := b_Row_length) (maxL := 1) (ret := (some .int)) (by decide) rfl (Nat.le_of_ble_eq_true rfl) ?_
  intro p e s m args below meth c A ls hF hA hP hK hD hg hS hl
  obtain ⟨hx, hb, hrt, hlk, hml, hown, hts, hnm⟩ := hF
  have hown : s.vm.findClass R_Row = some m.cls := hown
  have hl : lv_has ls 1 [(0, .ref aR)] := hl
  refine lv_aload_n hx hb d_Row_length_0 rfl (lv_at hl 0 rfl) ?_
  refine va_get (D := D) (ci := 3) (v := .int (nI n)) (C := R_Row) (T := F_Row) (N := 2) hx hb hts in_Row hown hK hP 0 rfl rfl 1 (by decide) (hts _ (List.mem_cons_of_mem _ k_30)) (fun _ h9 => h9) rfl d_Row_length_1 ?_
  exact xr_i hx hb hrt hlk rfl hP hD hS () [0, 1] (by decide) rfl rfl d_Row_length_4
set_option maxHeartbeats 4000000 in
set_option maxRecDepth 100000 in
theorem c_Row_canHaveRank (aR : Nat) (aO : Nat) (n : Nat) (f : Nat → Int32) (x : Int32) (hn : nb n) : CtI l y_Row_canHaveRank (w_Row_canHaveRank) ({ frames := 0, cells := 0, slots := 0, locals := 0 }) D vwCl (TYs cI cZ cJ cG) (gG tF) [.ref aR, .int x] [(aR, .inr (3, [.ref aO, .int (nI n)])), (aO, .inl (cI, 6, .inl f))] 0 0 (fun _ : Unit => [(aR, .inr (3, [.ref aO, .int (nI n)])), (aO, .inl (cI, 6, .inl f))]) (fun (r : Int32) (_ : Unit) => r = nI ((okr n x).toNat)) := by
  refine CtI.of (cc := b_Row_canHaveRank) (maxL := 2) (ret := (some .boolean)) (by decide) rfl (Nat.le_of_ble_eq_true rfl) ?_
  intro p e s m args below meth c A ls hF hA hP hK hD hg hS hl
  obtain ⟨hx, hb, hrt, hlk, hml, hown, hts, hnm⟩ := hF
  have hown : s.vm.findClass R_Row = some m.cls := hown
  have hl : lv_has ls 2 [(0, .ref aR), (1, .int x)] := hl
  have hn6 : n ≤ 6 := hn.2
  refine lv_iload_n hx hb d_Row_canHaveRank_0 rfl (lv_at hl 1 rfl) ?_
  refine lv_if_lt (tgt := 20) hx hb d_Row_canHaveRank_1 rfl (fun h1 => ?_) (fun h1 => ?_)
  · skip
    refine lv_iconst (v := nI 0) hx hb d_Row_canHaveRank_20 (by decide) ?_
    exact xr_i hx hb hrt hlk rfl hP hD hS () [0, 1] (by decide) rfl (by unfold okr; first | rw [if_pos h1]; rfl | rw [if_neg h1, if_pos h13]; rfl) d_Row_canHaveRank_21
  refine lv_iload_n hx hb d_Row_canHaveRank_4 rfl (lv_at hl 1 rfl) ?_
  refine va_gets hx hb hg.1 hS hown (hts _ (List.mem_cons_of_mem _ k_223)) (fun _ h9 => h9) d_Row_canHaveRank_5 ?_
  refine lv_aload_n hx hb d_Row_canHaveRank_8 rfl (lv_at hl 0 rfl) ?_
  refine va_get (D := D) (ci := 3) (v := .int (nI n)) (C := R_Row) (T := F_Row) (N := 2) hx hb hts in_Row hown hK hP 0 rfl rfl 1 (by decide) (hts _ (List.mem_cons_of_mem _ k_30)) (fun _ h9 => h9) rfl d_Row_canHaveRank_9 ?_
  refine xa_fact hx hb hg hS (by omega) d_Row_canHaveRank_12 ?_
  refine lv_icmp_ge (tgt := 20) hx hb d_Row_canHaveRank_13 rfl (fun h13 => ?_) (fun h13 => ?_)
  · skip
    refine lv_iconst (v := nI 0) hx hb d_Row_canHaveRank_20 (by decide) ?_
    exact xr_i hx hb hrt hlk rfl hP hD hS () [0, 1] (by decide) rfl (by unfold okr; first | rw [if_pos h1]; rfl | rw [if_neg h1, if_pos h13]; rfl) d_Row_canHaveRank_21
  refine lv_iconst (v := nI 1) hx hb d_Row_canHaveRank_16 (by decide) ?_
  refine lv_goto (tgt := 21) hx hb d_Row_canHaveRank_17 rfl ?_
  exact xr_i hx hb hrt hlk rfl hP hD hS () [0, 1] (by decide) rfl (by unfold okr; rw [if_neg h1, if_neg h13]; rfl) d_Row_canHaveRank_21
set_option maxHeartbeats 4000000 in
set_option maxRecDepth 100000 in
theorem c_Row_bellAt (aR : Nat) (aO : Nat) (n : Nat) (k : Nat) (q : Nat) (f : Nat → Int32) (hn : nb n) (hq : q < n) (hf : hold n k f) : CtI l y_Row_bellAt (w_Row_bellAt) ({ frames := 0, cells := 0, slots := 0, locals := 0 }) D vwCl (TYs cI cZ cJ cG) (gG tF) [.ref aR, .int (nI (q + 1))] [(aR, .inr (3, [.ref aO, .int (nI n)])), (aO, .inl (cI, 6, .inl f))] 0 0 (fun _ : Unit => [(aR, .inr (3, [.ref aO, .int (nI n)])), (aO, .inl (cI, 6, .inl f))]) (fun (r : Int32) (_ : Unit) => r = nI (ro n k q)) := by
  refine CtI.of (cc := b_Row_bellAt) (maxL := 2) (ret := (some .int)) (by decide) rfl (Nat.le_of_ble_eq_true rfl) ?_
  intro p e s m args below meth c A ls hF hA hP hK hD hg hS hl
  obtain ⟨hx, hb, hrt, hlk, hml, hown, hts, hnm⟩ := hF
  have hown : s.vm.findClass R_Row = some m.cls := hown
  have hl : lv_has ls 2 [(0, .ref aR), (1, .int (nI (q + 1)))] := hl
  have hn6 : n ≤ 6 := hn.2
  refine lv_aload_n hx hb d_Row_bellAt_0 rfl (lv_at hl 0 rfl) ?_
  refine va_get (D := D) (ci := 3) (v := .ref aO) (C := R_Row) (T := F_Row) (N := 2) hx hb hts in_Row hown hK hP 0 rfl rfl 0 (by decide) (hts _ (List.mem_cons_of_mem _ k_29)) (fun _ h9 => h9) rfl d_Row_bellAt_1 ?_
  refine lv_iload_n hx hb d_Row_bellAt_4 rfl (lv_at hl 1 rfl) ?_
  refine lv_iconst (v := nI 1) hx hb d_Row_bellAt_5 (by decide) ?_
  refine lv_isub hx hb d_Row_bellAt_6 ?_
  refine xn_i (y := nI q) (pk_sub (Nat.le_add_left 1 q)) ?_
  refine xa_iald (v := nI (ro n k q)) hx hb hK hP 1 0 rfl rfl (by omega) (by decide) (hf q hq) d_Row_bellAt_7 ?_
  exact xr_i hx hb hrt hlk rfl hP hD hS () [0, 1] (by decide) rfl rfl d_Row_bellAt_8
set_option maxHeartbeats 4000000 in
set_option maxRecDepth 100000 in
theorem c_Row_bringForward (aR : Nat) (aO : Nat) (n : Nat) (q : Nat) (b : Nat) (f : Nat → Int32) (hpq : b ≤ q) (hq : q < 6) : CtV l y_Row_bringForward (w_Row_bringForward) ({ frames := 0, cells := 0, slots := 0, locals := 0 }) D vwCl (TYs cI cZ cJ cG) (gG tF) [.ref aR, .int (nI q), .int (nI b)] [(aR, .inr (3, [.ref aO, .int (nI n)])), (aO, .inl (cI, 6, .inl f))] 0 0 (fun f2 : (Nat → Int32) => [(aR, .inr (3, [.ref aO, .int (nI n)])), (aO, .inl (cI, 6, .inl f2))]) (fun f2 : (Nat → Int32) => ∀ j, f2 j = bf b q f j) := by
  refine CtV.of (cc := b_Row_bringForward) (maxL := 5) (ret := none) (by decide) rfl (Nat.le_of_ble_eq_true rfl) ?_
  intro p e s m args below meth c A ls hF hA hP hK hD hg hS hl
  obtain ⟨hx, hb, hrt, hlk, hml, hown, hts, hnm⟩ := hF
  have hown : s.vm.findClass R_Row = some m.cls := hown
  have hl : lv_has ls 5 [(0, .ref aR), (1, .int (nI q)), (2, .int (nI b))] := hl
  refine lv_aload_n hx hb d_Row_bringForward_0 rfl (lv_at hl 0 rfl) ?_
  refine va_get (D := D) (ci := 3) (v := .ref aO) (C := R_Row) (T := F_Row) (N := 2) hx hb hts in_Row hown hK hP 0 rfl rfl 0 (by decide) (hts _ (List.mem_cons_of_mem _ k_29)) (fun _ h9 => h9) rfl d_Row_bringForward_1 ?_
  refine lv_iload_n hx hb d_Row_bringForward_4 rfl (lv_at hl 1 rfl) ?_
  refine xa_iald (v := f q) hx hb hK hP 1 0 rfl rfl (by omega) (by decide) rfl d_Row_bringForward_5 ?_
  refine lv_istore_n hx hb d_Row_bringForward_6 rfl hl (by decide) rfl (fun ls hl => ?_)
  have hl : lv_has ls 5 [(3, .int (f q)), (0, .ref aR), (1, .int (nI q)), (2, .int (nI b))] := hl
  refine lv_iload_n hx hb d_Row_bringForward_7 rfl (lv_at hl 2 rfl) ?_
  refine lv_istore hx hb d_Row_bringForward_8 hl (by decide) rfl (fun ls hl => ?_)
  have hl : lv_has ls 5 [(4, .int (nI q)), (3, .int (f q)), (0, .ref aR), (1, .int (nI q)), (2, .int (nI b))] := hl
  have hl : lv_has ls 5 [(0, .ref aR), (1, .int (nI q)), (2, .int (nI b)), (3, .int (f q)), (4, .int (nI q))] := lv_sub hl [2, 3, 4, 1, 0] rfl
  have hP := hP.sub (ws' := [(aR, .inr (3, [.ref aO, .int (nI n)])), (aO, .inl (cI, 6, .inl f))]) [0, 1] rfl
  have hD := hD.sub (ws' := [(aR, .inr (3, [.ref aO, .int (nI n)])), (aO, .inl (cI, 6, .inl f))]) [0, 1] (by decide) rfl
  refine xn_pc (pc2 := 10) rfl ?_
  refine xl_2 (fun (i : Nat) (g : Nat → Int32) ls H locs => (b ≤ i) ∧ (i ≤ q) ∧ (∀ j, g j = if i < j ∧ j ≤ q then f (j - 1) else f j) ∧ lv_has ls 5 [(0, .ref aR), (1, .int (nI q)), (2, .int (nI b)), (3, .int (f q)), (4, .int (nI i))] ∧ va_P D vwCl [(aR, .inr (3, [.ref aO, .int (nI n)])), (aO, .inl (cI, 6, .inl g))] H ∧ va_D A [(aR, .inr (3, [.ref aO, .int (nI n)])), (aO, .inl (cI, 6, .inl g))] ∧ va_S A s.heap H locs) (fun (i : Nat) (g : Nat → Int32) => i) (fun i g ls H locs hI ih => ?_) q f ⟨hpq, Nat.le_refl q, fun j => by rw [if_neg (by omega)], hl, hP, hD, hS⟩
  obtain ⟨hi1, hi2, hi3, hl, hP, hD, hS⟩ := hI
  refine lv_iload hx hb d_Row_bringForward_10 (lv_at hl 4 rfl) ?_
  refine lv_iload_n hx hb d_Row_bringForward_12 rfl (lv_at hl 2 rfl) ?_
  refine xb_cle hx hb 38 (by omega) (by omega) d_Row_bringForward_13 rfl (fun h13 => ?_) (fun h13 => ?_)
  · skip
    refine lv_aload_n hx hb d_Row_bringForward_38 rfl (lv_at hl 0 rfl) ?_
    refine va_get (D := D) (ci := 3) (v := .ref aO) (C := R_Row) (T := F_Row) (N := 2) hx hb hts in_Row hown hK hP 0 rfl rfl 0 (by decide) (hts _ (List.mem_cons_of_mem _ k_29)) (fun _ h9 => h9) rfl d_Row_bringForward_39 ?_
    refine lv_iload_n hx hb d_Row_bringForward_42 rfl (lv_at hl 2 rfl) ?_
    refine lv_iload_n hx hb d_Row_bringForward_43 rfl (lv_at hl 3 rfl) ?_
    refine xa_iast hx hb hK hP hD hS 1 0 rfl rfl (by omega) (by decide) d_Row_bringForward_44 (fun H locs hP hD hS => ?_)
    have hP : va_P D vwCl [(aR, .inr (3, [.ref aO, .int (nI n)])), (aO, .inl (cI, 6, .inl (upd g b (f q))))] H := hP
    have hD : va_D A [(aR, .inr (3, [.ref aO, .int (nI n)])), (aO, .inl (cI, 6, .inl (upd g b (f q))))] := hD
    exact xr_v hx hb hrt hlk hP hD hS (upd g b (f q)) [0, 1] (by decide) rfl (bf_end (by omega) hpq hi3) d_Row_bringForward_45
  refine lv_aload_n hx hb d_Row_bringForward_16 rfl (lv_at hl 0 rfl) ?_
  refine va_get (D := D) (ci := 3) (v := .ref aO) (C := R_Row) (T := F_Row) (N := 2) hx hb hts in_Row hown hK hP 0 rfl rfl 0 (by decide) (hts _ (List.mem_cons_of_mem _ k_29)) (fun _ h9 => h9) rfl d_Row_bringForward_17 ?_
  refine lv_iload hx hb d_Row_bringForward_20 (lv_at hl 4 rfl) ?_
  refine lv_aload_n hx hb d_Row_bringForward_22 rfl (lv_at hl 0 rfl) ?_
  refine va_get (D := D) (ci := 3) (v := .ref aO) (C := R_Row) (T := F_Row) (N := 2) hx hb hts in_Row hown hK hP 0 rfl rfl 0 (by decide) (hts _ (List.mem_cons_of_mem _ k_29)) (fun _ h9 => h9) rfl d_Row_bringForward_23 ?_
  refine lv_iload hx hb d_Row_bringForward_26 (lv_at hl 4 rfl) ?_
  refine lv_iconst (v := nI 1) hx hb d_Row_bringForward_28 (by decide) ?_
  refine lv_isub hx hb d_Row_bringForward_29 ?_
  refine xn_i (y := nI (i - 1)) (pk_sub (by omega)) ?_
  refine xa_iald (v := g (i - 1)) hx hb hK hP 1 0 rfl rfl (by omega) (by decide) rfl d_Row_bringForward_30 ?_
  refine xa_iast hx hb hK hP hD hS 1 0 rfl rfl (by omega) (by decide) d_Row_bringForward_31 (fun H locs hP hD hS => ?_)
  have hP : va_P D vwCl [(aR, .inr (3, [.ref aO, .int (nI n)])), (aO, .inl (cI, 6, .inl (upd g i (g (i - 1)))))] H := hP
  have hD : va_D A [(aR, .inr (3, [.ref aO, .int (nI n)])), (aO, .inl (cI, 6, .inl (upd g i (g (i - 1)))))] := hD
  refine lv_iinc (k := 4) (v := nI (i - 1)) hx hb d_Row_bringForward_32 hl rfl (xi_m1 (by omega)) (by decide) rfl (fun ls hl => ?_)
  have hl : lv_has ls 5 [(4, .int (nI (i - 1))), (0, .ref aR), (1, .int (nI q)), (2, .int (nI b)), (3, .int (f q))] := hl
  refine lv_goto (tgt := 10) hx hb d_Row_bringForward_35 rfl ?_
  have hl : lv_has ls 5 [(0, .ref aR), (1, .int (nI q)), (2, .int (nI b)), (3, .int (f q)), (4, .int (nI (i - 1)))] := lv_sub hl [1, 2, 3, 4, 0] rfl
  have hP := hP.sub (ws' := [(aR, .inr (3, [.ref aO, .int (nI n)])), (aO, .inl (cI, 6, .inl (upd g i (g (i - 1)))))]) [0, 1] rfl
  have hD := hD.sub (ws' := [(aR, .inr (3, [.ref aO, .int (nI n)])), (aO, .inl (cI, 6, .inl (upd g i (g (i - 1)))))]) [0, 1] (by decide) rfl
  exact ih (i - 1) (upd g i (g (i - 1))) _ _ _ (by omega) ⟨by omega, by omega, bf_step h13 hi2 hi3, hl, hP, hD, hS⟩
set_option maxHeartbeats 4000000 in
set_option maxRecDepth 100000 in
theorem c_Row_becomeRank (aR : Nat) (aO : Nat) (n : Nat) (k : Nat) (f : Nat → Int32) (hn : nb n) (hk : k < fa n) : CtV l y_Row_becomeRank (w_Row_becomeRank) ({ frames := 1, cells := 0, slots := 0, locals := 24 }) D vwCl (TYs cI cZ cJ cG) (gG tF) [.ref aR, .int (nI k)] [(aR, .inr (3, [.ref aO, .int (nI n)])), (aO, .inl (cI, 6, .inl f))] 0 0 (fun f2 : (Nat → Int32) => [(aR, .inr (3, [.ref aO, .int (nI n)])), (aO, .inl (cI, 6, .inl f2))]) (fun f2 : (Nat → Int32) => hold n k f2) := by
  refine CtV.of (cc := b_Row_becomeRank) (maxL := 5) (ret := none) (by decide) rfl (Nat.le_of_ble_eq_true rfl) ?_
  intro p e s m args below meth c A ls hF hA hP hK hD hg hS hl
  obtain ⟨hx, hb, hrt, hlk, hml, hown, hts, hnm⟩ := hF
  have hown : s.vm.findClass R_Row = some m.cls := hown
  have hl : lv_has ls 5 [(0, .ref aR), (1, .int (nI k))] := hl
  have hn4 : 4 ≤ n := hn.1
  have hn6 : n ≤ 6 := hn.2
  refine lv_iconst (v := nI 0) hx hb d_Row_becomeRank_0 (by decide) ?_
  refine lv_istore_n hx hb d_Row_becomeRank_1 rfl hl (by decide) rfl (fun ls hl => ?_)
  have hl : lv_has ls 5 [(2, .int (nI 0)), (0, .ref aR), (1, .int (nI k))] := hl
  have hl : lv_has ls 5 [(0, .ref aR), (1, .int (nI k)), (2, .int (nI 0))] := lv_sub hl [1, 2, 0] rfl
  have hP := hP.sub (ws' := [(aR, .inr (3, [.ref aO, .int (nI n)])), (aO, .inl (cI, 6, .inl f))]) [0, 1] rfl
  have hD := hD.sub (ws' := [(aR, .inr (3, [.ref aO, .int (nI n)])), (aO, .inl (cI, 6, .inl f))]) [0, 1] (by decide) rfl
  refine xn_pc (pc2 := 2) rfl ?_
  refine xl_2 (fun (p : Nat) (g : Nat → Int32) ls H locs => (p ≤ n) ∧ (∀ j, j < p → g j = nI (j + 1)) ∧ lv_has ls 5 [(0, .ref aR), (1, .int (nI k)), (2, .int (nI p))] ∧ va_P D vwCl [(aR, .inr (3, [.ref aO, .int (nI n)])), (aO, .inl (cI, 6, .inl g))] H ∧ va_D A [(aR, .inr (3, [.ref aO, .int (nI n)])), (aO, .inl (cI, 6, .inl g))] ∧ va_S A s.heap H locs) (fun (p : Nat) (g : Nat → Int32) => n - p) (fun p g ls H locs hI ih => ?_) 0 f ⟨Nat.zero_le n, fun j hj => absurd hj (Nat.not_lt_zero j), hl, hP, hD, hS⟩
  obtain ⟨hi1, hi2, hl, hP, hD, hS⟩ := hI
  refine lv_iload_n hx hb d_Row_becomeRank_2 rfl (lv_at hl 2 rfl) ?_
  refine lv_aload_n hx hb d_Row_becomeRank_3 rfl (lv_at hl 0 rfl) ?_
  refine va_get (D := D) (ci := 3) (v := .int (nI n)) (C := R_Row) (T := F_Row) (N := 2) hx hb hts in_Row hown hK hP 0 rfl rfl 1 (by decide) (hts _ (List.mem_cons_of_mem _ k_30)) (fun _ h9 => h9) rfl d_Row_becomeRank_4 ?_
  refine xb_cge hx hb 25 (by omega) (by omega) d_Row_becomeRank_7 rfl (fun h7 => ?_) (fun h7 => ?_)
  · skip
    refine lv_iload_n hx hb d_Row_becomeRank_25 rfl (lv_at hl 1 rfl) ?_
    refine lv_istore_n hx hb d_Row_becomeRank_26 rfl hl (by decide) rfl (fun ls hl => ?_)
    have hl : lv_has ls 5 [(2, .int (nI k)), (0, .ref aR), (1, .int (nI k))] := hl
    refine lv_iconst (v := nI 0) hx hb d_Row_becomeRank_27 (by decide) ?_
    refine lv_istore_n hx hb d_Row_becomeRank_28 rfl hl (by decide) rfl (fun ls hl => ?_)
    have hl : lv_has ls 5 [(3, .int (nI 0)), (2, .int (nI k)), (0, .ref aR), (1, .int (nI k))] := hl
    have hl : lv_has ls 5 [(0, .ref aR), (1, .int (nI k)), (2, .int (nI (rs n k 0))), (3, .int (nI 0))] := lv_sub hl [2, 3, 1, 0] rfl
    have hP := hP.sub (ws' := [(aR, .inr (3, [.ref aO, .int (nI n)])), (aO, .inl (cI, 6, .inl g))]) [0, 1] rfl
    have hD := hD.sub (ws' := [(aR, .inr (3, [.ref aO, .int (nI n)])), (aO, .inl (cI, 6, .inl g))]) [0, 1] (by decide) rfl
    refine xn_pc (pc2 := 29) rfl ?_
    refine xl_2 (fun (p : Nat) (g : Nat → Int32) ls H locs => (p ≤ n) ∧ (∀ j, j < n → g j = nI (br n k p j)) ∧ lv_has ls 5 [(0, .ref aR), (1, .int (nI k)), (2, .int (nI (rs n k p))), (3, .int (nI p))] ∧ va_P D vwCl [(aR, .inr (3, [.ref aO, .int (nI n)])), (aO, .inl (cI, 6, .inl g))] H ∧ va_D A [(aR, .inr (3, [.ref aO, .int (nI n)])), (aO, .inl (cI, 6, .inl g))] ∧ va_S A s.heap H locs) (fun (p : Nat) (g : Nat → Int32) => n - p) (fun p g ls H locs hI ih1 => ?_) 0 g ⟨Nat.zero_le n, fun j hj => hi2 j (by omega), hl, hP, hD, hS⟩
    obtain ⟨hi3, hi4, hl, hP, hD, hS⟩ := hI
    refine lv_iload_n hx hb d_Row_becomeRank_29 rfl (lv_at hl 3 rfl) ?_
    refine lv_aload_n hx hb d_Row_becomeRank_30 rfl (lv_at hl 0 rfl) ?_
    refine va_get (D := D) (ci := 3) (v := .int (nI n)) (C := R_Row) (T := F_Row) (N := 2) hx hb hts in_Row hown hK hP 0 rfl rfl 1 (by decide) (hts _ (List.mem_cons_of_mem _ k_30)) (fun _ h9 => h9) rfl d_Row_becomeRank_31 ?_
    refine xb_cge hx hb 73 (by omega) (by omega) d_Row_becomeRank_34 rfl (fun h34 => ?_) (fun h34 => ?_)
    · skip
      exact xr_v hx hb hrt hlk hP hD hS g [0, 1] (by decide) rfl (fun j hj => by rw [hi4 j hj, show p = n by omega, (br_all hn hk hj).1]) d_Row_becomeRank_73
    obtain ⟨-, hb2, hb3⟩ := br_all hn hk h34
    refine va_gets hx hb hg.1 hS hown (hts _ (List.mem_cons_of_mem _ k_223)) (fun _ h9 => h9) d_Row_becomeRank_37 ?_
    refine lv_aload_n hx hb d_Row_becomeRank_40 rfl (lv_at hl 0 rfl) ?_
    refine va_get (D := D) (ci := 3) (v := .int (nI n)) (C := R_Row) (T := F_Row) (N := 2) hx hb hts in_Row hown hK hP 0 rfl rfl 1 (by decide) (hts _ (List.mem_cons_of_mem _ k_30)) (fun _ h9 => h9) rfl d_Row_becomeRank_41 ?_
    refine lv_iconst (v := nI 1) hx hb d_Row_becomeRank_44 (by decide) ?_
    refine lv_isub hx hb d_Row_becomeRank_45 ?_
    refine xn_i (y := nI (n - 1)) (pk_sub (by omega)) ?_
    refine lv_iload_n hx hb d_Row_becomeRank_46 rfl (lv_at hl 3 rfl) ?_
    refine lv_isub hx hb d_Row_becomeRank_47 ?_
    refine xn_i (y := nI ((n - 1) - p)) (pk_sub (by omega)) ?_
    refine xa_fact hx hb hg hS (by omega) d_Row_becomeRank_48 ?_
    refine lv_istore hx hb d_Row_becomeRank_49 hl (by decide) rfl (fun ls hl => ?_)
    have hl : lv_has ls 5 [(4, .int (nI (fa ((n - 1) - p)))), (0, .ref aR), (1, .int (nI k)), (2, .int (nI (rs n k p))), (3, .int (nI p))] := hl
    refine lv_aload_n hx hb d_Row_becomeRank_51 rfl (lv_at hl 1 rfl) ?_
    refine lv_iload_n hx hb d_Row_becomeRank_52 rfl (lv_at hl 4 rfl) ?_
    refine lv_iload_n hx hb d_Row_becomeRank_53 rfl (lv_at hl 3 rfl) ?_
    refine lv_iload hx hb d_Row_becomeRank_54 (lv_at hl 0 rfl) ?_
    refine lv_idiv hx hb d_Row_becomeRank_56 (fa_ne0 _) ?_
    refine xn_i (y := nI ((rs n k p) / (fa ((n - 1) - p)))) (pk_div (by omega) (fa_pos _) (fa_sm _)) ?_
    refine lv_iadd hx hb d_Row_becomeRank_57 ?_
    refine xn_i (y := nI (p + ((rs n k p) / (fa ((n - 1) - p))))) (nI_add _ _) ?_
    refine lv_iload_n hx hb d_Row_becomeRank_58 rfl (lv_at hl 4 rfl) ?_
    refine xc_v (wc := [(aR, .inr (3, [.ref aO, .int (nI n)])), (aO, .inl (cI, 6, .inl g))]) (wr := []) (gG_ok tF) hK hP hD hS hA hg [0, 1] [] rfl rfl (by decide) (by decide) (by decide) (fun h1 h2 => va_runV (As := [.int (nI (p + rs n k p / fa (n - 1 - p))), .int (nI p)]) (rest := []) ⟨hx, hb, hml, hown, hts⟩ (c_Row_bringForward aR aO n (p + rs n k p / fa (n - 1 - p)) p g (Nat.le_add_right _ _) (by omega) _) (cwV 2 hts (gV k_225 k_227 ks_Row_bringForward k_2 k_228) rfl rfl rfl (by decide +kernel) ⟨Nat.le_of_ble_eq_true rfl, Nat.le_of_ble_eq_true rfl⟩) ⟨h1, va_recv (q0 := 0) (ci := 3) hK hP rfl rfl, h2⟩ rfl rfl hl.1 rfl (lv_room (Nat.le_of_ble_eq_true rfl)) d_Row_becomeRank_59 ⟨Nat.zero_le _, Nat.zero_le _⟩) (fun g2 H locs hq9 hP hD hS => ?_)
    have hw59 := hq9
    have hP : va_P D vwCl [(aR, .inr (3, [.ref aO, .int (nI n)])), (aO, .inl (cI, 6, .inl g2))] H := hP
    have hD : va_D A [(aR, .inr (3, [.ref aO, .int (nI n)])), (aO, .inl (cI, 6, .inl g2))] := hD
    refine lv_iload_n hx hb d_Row_becomeRank_62 rfl (lv_at hl 3 rfl) ?_
    refine lv_iload hx hb d_Row_becomeRank_63 (lv_at hl 0 rfl) ?_
    refine lv_irem hx hb d_Row_becomeRank_65 (fa_ne0 _) ?_
    refine xn_i (y := nI ((rs n k p) % (fa ((n - 1) - p)))) (pk_rem (by omega) (fa_pos _) (fa_sm _)) ?_
    refine lv_istore_n hx hb d_Row_becomeRank_66 rfl hl (by decide) rfl (fun ls hl => ?_)
    have hl : lv_has ls 5 [(2, .int (nI ((rs n k p) % (fa ((n - 1) - p))))), (4, .int (nI (fa ((n - 1) - p)))), (0, .ref aR), (1, .int (nI k)), (3, .int (nI p))] := hl
    refine lv_iinc (k := 4) (v := nI (p + 1)) hx hb d_Row_becomeRank_67 hl rfl (xi_1 _) (by decide) rfl (fun ls hl => ?_)
    have hl : lv_has ls 5 [(3, .int (nI (p + 1))), (2, .int (nI ((rs n k p) % (fa ((n - 1) - p))))), (4, .int (nI (fa ((n - 1) - p)))), (0, .ref aR), (1, .int (nI k))] := hl
    refine lv_goto (tgt := 29) hx hb d_Row_becomeRank_70 rfl ?_
    have hl : lv_has ls 5 [(0, .ref aR), (1, .int (nI k)), (2, .int (nI (rs n k (p + 1)))), (3, .int (nI (p + 1)))] := lv_sub hl [3, 4, 1, 0] rfl
    have hP := hP.sub (ws' := [(aR, .inr (3, [.ref aO, .int (nI n)])), (aO, .inl (cI, 6, .inl g2))]) [0, 1] rfl
    have hD := hD.sub (ws' := [(aR, .inr (3, [.ref aO, .int (nI n)])), (aO, .inl (cI, 6, .inl g2))]) [0, 1] (by decide) rfl
    exact ih1 (p + 1) g2 _ _ _ (by omega) ⟨h34, bf_br hb2 hi4 hw59, hl, hP, hD, hS⟩
  refine lv_aload_n hx hb d_Row_becomeRank_10 rfl (lv_at hl 0 rfl) ?_
  refine va_get (D := D) (ci := 3) (v := .ref aO) (C := R_Row) (T := F_Row) (N := 2) hx hb hts in_Row hown hK hP 0 rfl rfl 0 (by decide) (hts _ (List.mem_cons_of_mem _ k_29)) (fun _ h9 => h9) rfl d_Row_becomeRank_11 ?_
  refine lv_iload_n hx hb d_Row_becomeRank_14 rfl (lv_at hl 2 rfl) ?_
  refine lv_iload_n hx hb d_Row_becomeRank_15 rfl (lv_at hl 2 rfl) ?_
  refine lv_iconst (v := nI 1) hx hb d_Row_becomeRank_16 (by decide) ?_
  refine lv_iadd hx hb d_Row_becomeRank_17 ?_
  refine xn_i (y := nI (p + 1)) (nI_add _ _) ?_
  refine xa_iast hx hb hK hP hD hS 1 0 rfl rfl (by omega) (by decide) d_Row_becomeRank_18 (fun H locs hP hD hS => ?_)
  have hP : va_P D vwCl [(aR, .inr (3, [.ref aO, .int (nI n)])), (aO, .inl (cI, 6, .inl (upd g p (nI (p + 1)))))] H := hP
  have hD : va_D A [(aR, .inr (3, [.ref aO, .int (nI n)])), (aO, .inl (cI, 6, .inl (upd g p (nI (p + 1)))))] := hD
  refine lv_iinc (k := 2) (v := nI (p + 1)) hx hb d_Row_becomeRank_19 hl rfl (xi_1 _) (by decide) rfl (fun ls hl => ?_)
  have hl : lv_has ls 5 [(2, .int (nI (p + 1))), (0, .ref aR), (1, .int (nI k))] := hl
  refine lv_goto (tgt := 2) hx hb d_Row_becomeRank_22 rfl ?_
  have hl : lv_has ls 5 [(0, .ref aR), (1, .int (nI k)), (2, .int (nI (p + 1)))] := lv_sub hl [1, 2, 0] rfl
  have hP := hP.sub (ws' := [(aR, .inr (3, [.ref aO, .int (nI n)])), (aO, .inl (cI, 6, .inl (upd g p (nI (p + 1)))))]) [0, 1] rfl
  have hD := hD.sub (ws' := [(aR, .inr (3, [.ref aO, .int (nI n)])), (aO, .inl (cI, 6, .inl (upd g p (nI (p + 1)))))]) [0, 1] (by decide) rfl
  exact ih (p + 1) (upd g p (nI (p + 1))) _ _ _ (by omega) ⟨h7, fun j hj => by unfold upd; split; (rename_i e9; rw [e9]); exact hi2 j (by omega), hl, hP, hD, hS⟩
set_option maxHeartbeats 4000000 in
set_option maxRecDepth 100000 in
theorem c_Row_findRank (aR : Nat) (aO : Nat) (n : Nat) (k : Nat) (f : Nat → Int32) (hn : nb n) (hk : k < fa n) (hf : hold n k f) : CtI l y_Row_findRank (w_Row_findRank) ({ frames := 1, cells := 0, slots := 0, locals := 20 }) D vwCl (TYs cI cZ cJ cG) (gG tF) [.ref aR] [(aR, .inr (3, [.ref aO, .int (nI n)])), (aO, .inl (cI, 6, .inl f))] 0 0 (fun _ : Unit => [(aR, .inr (3, [.ref aO, .int (nI n)])), (aO, .inl (cI, 6, .inl f))]) (fun (r : Int32) (_ : Unit) => r = nI k) := by
  refine CtI.of (cc := b_Row_findRank) (maxL := 6) (ret := (some .int)) (by decide) rfl (Nat.le_of_ble_eq_true rfl) ?_
  intro p e s m args below meth c A ls hF hA hP hK hD hg hS hl
  obtain ⟨hx, hb, hrt, hlk, hml, hown, hts, hnm⟩ := hF
  have hown : s.vm.findClass R_Row = some m.cls := hown
  have hl : lv_has ls 6 [(0, .ref aR)] := hl
  have hn4 : 4 ≤ n := hn.1
  have hn6 : n ≤ 6 := hn.2
  refine lv_iconst (v := nI 0) hx hb d_Row_findRank_0 (by decide) ?_
  refine lv_istore_n hx hb d_Row_findRank_1 rfl hl (by decide) rfl (fun ls hl => ?_)
  have hl : lv_has ls 6 [(1, .int (nI 0)), (0, .ref aR)] := hl
  refine lv_iconst (v := nI 1) hx hb d_Row_findRank_2 (by decide) ?_
  refine lv_aload_n hx hb d_Row_findRank_3 rfl (lv_at hl 1 rfl) ?_
  refine va_get (D := D) (ci := 3) (v := .int (nI n)) (C := R_Row) (T := F_Row) (N := 2) hx hb hts in_Row hown hK hP 0 rfl rfl 1 (by decide) (hts _ (List.mem_cons_of_mem _ k_30)) (fun _ h9 => h9) rfl d_Row_findRank_4 ?_
  refine lv_ishl hx hb d_Row_findRank_7 ?_
  refine xn_i (y := nI (2 ^ n)) (xs_shl (by omega)) ?_
  refine lv_iconst (v := nI 1) hx hb d_Row_findRank_8 (by decide) ?_
  refine lv_isub hx hb d_Row_findRank_9 ?_
  refine xn_i (y := nI ((2 ^ n) - 1)) (pk_sub Nat.one_le_two_pow) ?_
  refine lv_istore_n hx hb d_Row_findRank_10 rfl hl (by decide) rfl (fun ls hl => ?_)
  have hl : lv_has ls 6 [(2, .int (nI ((2 ^ n) - 1))), (1, .int (nI 0)), (0, .ref aR)] := hl
  refine lv_iconst (v := nI 0) hx hb d_Row_findRank_11 (by decide) ?_
  refine lv_istore_n hx hb d_Row_findRank_12 rfl hl (by decide) rfl (fun ls hl => ?_)
  have hl : lv_has ls 6 [(3, .int (nI 0)), (2, .int (nI ((2 ^ n) - 1))), (1, .int (nI 0)), (0, .ref aR)] := hl
  have hl : lv_has ls 6 [(0, .ref aR), (1, .int (nI (fr n k 0))), (2, .int (nI (bb n k 0))), (3, .int (nI 0))] := lv_sub hl [3, 2, 1, 0] rfl
  have hP := hP.sub (ws' := [(aR, .inr (3, [.ref aO, .int (nI n)])), (aO, .inl (cI, 6, .inl f))]) [0, 1] rfl
  have hD := hD.sub (ws' := [(aR, .inr (3, [.ref aO, .int (nI n)])), (aO, .inl (cI, 6, .inl f))]) [0, 1] (by decide) rfl
  refine xn_pc (pc2 := 13) rfl ?_
  refine xl_1 (fun (p : Nat) ls H locs => (p ≤ n) ∧ lv_has ls 6 [(0, .ref aR), (1, .int (nI (fr n k p))), (2, .int (nI (bb n k p))), (3, .int (nI p))] ∧ va_P D vwCl [(aR, .inr (3, [.ref aO, .int (nI n)])), (aO, .inl (cI, 6, .inl f))] H ∧ va_D A [(aR, .inr (3, [.ref aO, .int (nI n)])), (aO, .inl (cI, 6, .inl f))] ∧ va_S A s.heap H locs) (fun (p : Nat) => n - p) (fun p ls H locs hI ih => ?_) 0 ⟨Nat.zero_le n, hl, hP, hD, hS⟩
  obtain ⟨hi1, hl, hP, hD, hS⟩ := hI
  refine lv_iload_n hx hb d_Row_findRank_13 rfl (lv_at hl 3 rfl) ?_
  refine lv_aload_n hx hb d_Row_findRank_14 rfl (lv_at hl 0 rfl) ?_
  refine va_get (D := D) (ci := 3) (v := .int (nI n)) (C := R_Row) (T := F_Row) (N := 2) hx hb hts in_Row hown hK hP 0 rfl rfl 1 (by decide) (hts _ (List.mem_cons_of_mem _ k_30)) (fun _ h9 => h9) rfl d_Row_findRank_15 ?_
  refine xb_cge hx hb 75 (by omega) (by omega) d_Row_findRank_18 rfl (fun h18 => ?_) (fun h18 => ?_)
  · skip
    refine lv_iload_n hx hb d_Row_findRank_75 rfl (lv_at hl 1 rfl) ?_
    exact xr_i hx hb hrt hlk rfl hP hD hS () [0, 1] (by decide) rfl (by rw [show p = n by omega, fr_n hn hk]) d_Row_findRank_76
  obtain ⟨hr1, hr2⟩ := ro_in hn hk h18
  refine lv_iconst (v := nI 1) hx hb d_Row_findRank_21 (by decide) ?_
  refine lv_aload_n hx hb d_Row_findRank_22 rfl (lv_at hl 0 rfl) ?_
  refine va_get (D := D) (ci := 3) (v := .ref aO) (C := R_Row) (T := F_Row) (N := 2) hx hb hts in_Row hown hK hP 0 rfl rfl 0 (by decide) (hts _ (List.mem_cons_of_mem _ k_29)) (fun _ h9 => h9) rfl d_Row_findRank_23 ?_
  refine lv_iload_n hx hb d_Row_findRank_26 rfl (lv_at hl 3 rfl) ?_
  refine xa_iald (v := nI (ro n k p)) hx hb hK hP 1 0 rfl rfl (by omega) (by decide) (hf p h18) d_Row_findRank_27 ?_
  refine lv_iconst (v := nI 1) hx hb d_Row_findRank_28 (by decide) ?_
  refine lv_isub hx hb d_Row_findRank_29 ?_
  refine xn_i (y := nI ((ro n k p) - 1)) (pk_sub hr1) ?_
  refine lv_ishl hx hb d_Row_findRank_30 ?_
  refine xn_i (y := nI (2 ^ (ro n k p - 1))) (xs_shl (by omega)) ?_
  refine lv_istore hx hb d_Row_findRank_31 hl (by decide) rfl (fun ls hl => ?_)
  have hl : lv_has ls 6 [(4, .int (nI (2 ^ (ro n k p - 1)))), (0, .ref aR), (1, .int (nI (fr n k p))), (2, .int (nI (bb n k p))), (3, .int (nI p))] := hl
  refine lv_iload_n hx hb d_Row_findRank_33 rfl (lv_at hl 3 rfl) ?_
  refine lv_iload hx hb d_Row_findRank_34 (lv_at hl 0 rfl) ?_
  refine lv_iconst (v := (-1)) hx hb d_Row_findRank_36 (by decide) ?_
  refine lv_ixor hx hb d_Row_findRank_37 ?_
  refine lv_iand hx hb d_Row_findRank_38 ?_
  refine xn_i (y := nI (bb n k (p + 1))) (xs_cl (bb_lt hn p) hr1 (by omega)) ?_
  refine lv_istore_n hx hb d_Row_findRank_39 rfl hl (by decide) rfl (fun ls hl => ?_)
  have hl : lv_has ls 6 [(2, .int (nI (bb n k (p + 1)))), (4, .int (nI (2 ^ (ro n k p - 1)))), (0, .ref aR), (1, .int (nI (fr n k p))), (3, .int (nI p))] := hl
  refine lv_iload_n hx hb d_Row_findRank_40 rfl (lv_at hl 0 rfl) ?_
  refine lv_iload hx hb d_Row_findRank_41 (lv_at hl 1 rfl) ?_
  refine lv_iconst (v := nI 1) hx hb d_Row_findRank_43 (by decide) ?_
  refine lv_isub hx hb d_Row_findRank_44 ?_
  refine xn_i (y := nI ((2 ^ (ro n k p - 1)) - 1)) (pk_sub Nat.one_le_two_pow) ?_
  refine lv_iand hx hb d_Row_findRank_45 ?_
  refine xn_i (y := nI (bb n k (p + 1) % 2 ^ (ro n k p - 1))) (xs_and (bb_lt hn (p + 1)) (by omega)) ?_
  refine xc_i (wc := []) (wr := [(aR, .inr (3, [.ref aO, .int (nI n)])), (aO, .inl (cI, 6, .inl f))]) (gG_ok tF) hK hP hD hS hA hg [] [0, 1] rfl rfl (by decide) (by decide) (by decide) (fun h1 h2 => va_runS (As := [.int (nI (bb n k (p + 1) % 2 ^ (ro n k p - 1)))]) (rest := []) ⟨hx, hb, hml, hown, hts⟩ (c_bitCount (bb n k (p + 1) % 2 ^ (ro n k p - 1)) (Nat.lt_of_le_of_lt (Nat.mod_le _ _) (bb_lt hn (p + 1))) _) (va_cwS 1 hts (gS k_299 k_300 k_14 k_301) rfl rfl rfl (by decide +kernel) ⟨Nat.le_of_ble_eq_true rfl, Nat.le_of_ble_eq_true rfl⟩) ⟨h1, h2⟩ rfl rfl hl.1 rfl (lv_room (Nat.le_of_ble_eq_true rfl)) d_Row_findRank_46 ⟨Nat.zero_le _, Nat.zero_le _⟩) (fun r u H locs hq9 hP hD hS => ?_)
  obtain rfl := hq9
  have hP : va_P D vwCl [(aR, .inr (3, [.ref aO, .int (nI n)])), (aO, .inl (cI, 6, .inl f))] H := hP
  have hD : va_D A [(aR, .inr (3, [.ref aO, .int (nI n)])), (aO, .inl (cI, 6, .inl f))] := hD
  refine lv_istore hx hb d_Row_findRank_49 hl (by decide) rfl (fun ls hl => ?_)
  have hl : lv_has ls 6 [(5, .int (nI (pc6 (bb n k (p + 1) % 2 ^ (ro n k p - 1))))), (2, .int (nI (bb n k (p + 1)))), (4, .int (nI (2 ^ (ro n k p - 1)))), (0, .ref aR), (1, .int (nI (fr n k p))), (3, .int (nI p))] := hl
  refine lv_iload_n hx hb d_Row_findRank_51 rfl (lv_at hl 4 rfl) ?_
  refine lv_iload hx hb d_Row_findRank_52 (lv_at hl 0 rfl) ?_
  refine va_gets hx hb hg.1 hS hown (hts _ (List.mem_cons_of_mem _ k_223)) (fun _ h9 => h9) d_Row_findRank_54 ?_
  refine lv_aload_n hx hb d_Row_findRank_57 rfl (lv_at hl 3 rfl) ?_
  refine va_get (D := D) (ci := 3) (v := .int (nI n)) (C := R_Row) (T := F_Row) (N := 2) hx hb hts in_Row hown hK hP 0 rfl rfl 1 (by decide) (hts _ (List.mem_cons_of_mem _ k_30)) (fun _ h9 => h9) rfl d_Row_findRank_58 ?_
  refine lv_iconst (v := nI 1) hx hb d_Row_findRank_61 (by decide) ?_
  refine lv_isub hx hb d_Row_findRank_62 ?_
  refine xn_i (y := nI (n - 1)) (pk_sub (by omega)) ?_
  refine lv_iload_n hx hb d_Row_findRank_63 rfl (lv_at hl 5 rfl) ?_
  refine lv_isub hx hb d_Row_findRank_64 ?_
  refine xn_i (y := nI ((n - 1) - p)) (pk_sub (by omega)) ?_
  refine xa_fact hx hb hg hS (by omega) d_Row_findRank_65 ?_
  refine lv_imul hx hb d_Row_findRank_66 ?_
  refine xn_i (y := nI ((pc6 (bb n k (p + 1) % 2 ^ (ro n k p - 1))) * (fa ((n - 1) - p)))) (pk_mul _ _) ?_
  refine lv_iadd hx hb d_Row_findRank_67 ?_
  refine xn_i (y := nI ((fr n k p) + ((pc6 (bb n k (p + 1) % 2 ^ (ro n k p - 1))) * (fa ((n - 1) - p))))) (nI_add _ _) ?_
  refine lv_istore_n hx hb d_Row_findRank_68 rfl hl (by decide) rfl (fun ls hl => ?_)
  have hl : lv_has ls 6 [(1, .int (nI ((fr n k p) + ((pc6 (bb n k (p + 1) % 2 ^ (ro n k p - 1))) * (fa ((n - 1) - p)))))), (5, .int (nI (pc6 (bb n k (p + 1) % 2 ^ (ro n k p - 1))))), (2, .int (nI (bb n k (p + 1)))), (4, .int (nI (2 ^ (ro n k p - 1)))), (0, .ref aR), (3, .int (nI p))] := hl
  refine lv_iinc (k := 5) (v := nI (p + 1)) hx hb d_Row_findRank_69 hl rfl (xi_1 _) (by decide) rfl (fun ls hl => ?_)
  have hl : lv_has ls 6 [(3, .int (nI (p + 1))), (1, .int (nI ((fr n k p) + ((pc6 (bb n k (p + 1) % 2 ^ (ro n k p - 1))) * (fa ((n - 1) - p)))))), (5, .int (nI (pc6 (bb n k (p + 1) % 2 ^ (ro n k p - 1))))), (2, .int (nI (bb n k (p + 1)))), (4, .int (nI (2 ^ (ro n k p - 1)))), (0, .ref aR)] := hl
  refine lv_goto (tgt := 13) hx hb d_Row_findRank_72 rfl ?_
  have hl : lv_has ls 6 [(0, .ref aR), (1, .int (nI (fr n k (p + 1)))), (2, .int (nI (bb n k (p + 1)))), (3, .int (nI (p + 1)))] := lv_sub hl [5, 1, 3, 0] rfl
  have hP := hP.sub (ws' := [(aR, .inr (3, [.ref aO, .int (nI n)])), (aO, .inl (cI, 6, .inl f))]) [0, 1] rfl
  have hD := hD.sub (ws' := [(aR, .inr (3, [.ref aO, .int (nI n)])), (aO, .inl (cI, 6, .inl f))]) [0, 1] (by decide) rfl
  exact ih (p + 1) _ _ _ (by omega) ⟨h18, hl, hP, hD, hS⟩
set_option maxHeartbeats 4000000 in
set_option maxRecDepth 100000 in
theorem c_Row_changeBy (aR : Nat) (aO : Nat) (n : Nat) (k : Nat) (w : Nat) (f : Nat → Int32) (hn : nb n) (hk : k < fa n) (hw : gd n w = true) (hf : hold n k f) : CtV l y_Row_changeBy (w_Row_changeBy) ({ frames := 1, cells := 0, slots := 0, locals := 21 }) D vwCl (TYs cI cZ cJ cG) (gG tF) [.ref aR, .int (nI w)] [(aR, .inr (3, [.ref aO, .int (nI n)])), (aO, .inl (cI, 6, .inl f))] 0 0 (fun f2 : (Nat → Int32) => [(aR, .inr (3, [.ref aO, .int (nI n)])), (aO, .inl (cI, 6, .inl f2))]) (fun f2 : (Nat → Int32) => hold n (ch n w k) f2) := by
  refine CtV.of (cc := b_Row_changeBy) (maxL := 4) (ret := none) (by decide) rfl (Nat.le_of_ble_eq_true rfl) ?_
  intro p e s m args below meth c A ls hF hA hP hK hD hg hS hl
  obtain ⟨hx, hb, hrt, hlk, hml, hown, hts, hnm⟩ := hF
  have hown : s.vm.findClass R_Row = some m.cls := hown
  have hl : lv_has ls 4 [(0, .ref aR), (1, .int (nI w))] := hl
  have hn4 : 4 ≤ n := hn.1
  have hn6 : n ≤ 6 := hn.2
  refine lv_iconst (v := nI 1) hx hb d_Row_changeBy_0 (by decide) ?_
  refine lv_istore_n hx hb d_Row_changeBy_1 rfl hl (by decide) rfl (fun ls hl => ?_)
  have hl : lv_has ls 4 [(2, .int (nI 1)), (0, .ref aR), (1, .int (nI w))] := hl
  have hl : lv_has ls 4 [(0, .ref aR), (1, .int (nI w)), (2, .int (nI (0 + 1)))] := lv_sub hl [1, 2, 0] rfl
  have hP := hP.sub (ws' := [(aR, .inr (3, [.ref aO, .int (nI n)])), (aO, .inl (cI, 6, .inl f))]) [0, 1] rfl
  have hD := hD.sub (ws' := [(aR, .inr (3, [.ref aO, .int (nI n)])), (aO, .inl (cI, 6, .inl f))]) [0, 1] (by decide) rfl
  refine xn_pc (pc2 := 2) rfl ?_
  refine xl_2 (fun (q : Nat) (g : Nat → Int32) ls H locs => (q ≤ n) ∧ (q < n → st w q = true) ∧ (cgi n k w q g) ∧ lv_has ls 4 [(0, .ref aR), (1, .int (nI w)), (2, .int (nI (q + 1)))] ∧ va_P D vwCl [(aR, .inr (3, [.ref aO, .int (nI n)])), (aO, .inl (cI, 6, .inl g))] H ∧ va_D A [(aR, .inr (3, [.ref aO, .int (nI n)])), (aO, .inl (cI, 6, .inl g))] ∧ va_S A s.heap H locs) (fun (q : Nat) (g : Nat → Int32) => n - q) (fun q g ls H locs hI ih => ?_) 0 f ⟨Nat.zero_le n, fun _ => st_0 hn hw, cgi_0 hf, hl, hP, hD, hS⟩
  obtain ⟨hi1, hi2, hi3, hl, hP, hD, hS⟩ := hI
  refine lv_iload_n hx hb d_Row_changeBy_2 rfl (lv_at hl 2 rfl) ?_
  refine lv_aload_n hx hb d_Row_changeBy_3 rfl (lv_at hl 0 rfl) ?_
  refine va_get (D := D) (ci := 3) (v := .int (nI n)) (C := R_Row) (T := F_Row) (N := 2) hx hb hts in_Row hown hK hP 0 rfl rfl 1 (by decide) (hts _ (List.mem_cons_of_mem _ k_30)) (fun _ h9 => h9) rfl d_Row_changeBy_4 ?_
  refine xb_cge hx hb 60 (by omega) (by omega) d_Row_changeBy_7 rfl (fun h7 => ?_) (fun h7 => ?_)
  · skip
    exact xr_v hx hb hrt hlk hP hD hS g [0, 1] (by decide) rfl (cgi_n hn hw hk hi1 (by omega) hi2 hi3) d_Row_changeBy_60
  refine lv_iload_n hx hb d_Row_changeBy_10 rfl (lv_at hl 1 rfl) ?_
  refine lv_iload_n hx hb d_Row_changeBy_11 rfl (lv_at hl 2 rfl) ?_
  refine xc_i (wc := []) (wr := [(aR, .inr (3, [.ref aO, .int (nI n)])), (aO, .inl (cI, 6, .inl g))]) (gG_ok tF) hK hP hD hS hA hg [] [0, 1] rfl rfl (by decide) (by decide) (by decide) (fun h1 h2 => va_runSN (As := [.int (nI w), .int (nI (q + 1))]) (rest := []) ⟨hx, hb, hml, hown, hts⟩ (c_hasInMask w q (gd_lt hw) (by omega) _) ⟨va_cnB 2 hts (gB k_190) rfl rfl rfl hg.2.2.2.2.2.1 (hts _ (List.mem_cons_of_mem _ k_1)) (by decide +kernel) ⟨Nat.le_of_ble_eq_true rfl, Nat.le_of_ble_eq_true rfl⟩, hts _ (List.mem_cons_of_mem _ k_189), trivial⟩ ⟨h1, h2⟩ rfl rfl hl.1 rfl (lv_room (Nat.le_of_ble_eq_true rfl)) d_Row_changeBy_12 ⟨Nat.zero_le _, Nat.zero_le _⟩) (fun r u H locs hq9 hP hD hS => ?_)
  obtain rfl := hq9
  have hP : va_P D vwCl [(aR, .inr (3, [.ref aO, .int (nI n)])), (aO, .inl (cI, 6, .inl g))] H := hP
  have hD : va_D A [(aR, .inr (3, [.ref aO, .int (nI n)])), (aO, .inl (cI, 6, .inl g))] := hD
  refine xb_eqB (x := mb w q) hx hb 24 d_Row_changeBy_15 rfl (fun h15 => ?_) (fun h15 => ?_)
  · obtain ⟨hs1, hs2, hs3, hs4⟩ : q + 1 < n ∧ pt w q = q + 1 ∧ pt w (q + 1) = q ∧ (q + 2 < n → st w (q + 2) = true) := by
      rcases st_at hn hw (by omega) (hi2 (by omega)) with ⟨h1, -⟩ | ⟨-, h1⟩
      · unfold mb at h15; rw [h1] at h15; cases h15
      · exact h1
    refine lv_aload_n hx hb d_Row_changeBy_24 rfl (lv_at hl 0 rfl) ?_
    refine va_get (D := D) (ci := 3) (v := .ref aO) (C := R_Row) (T := F_Row) (N := 2) hx hb hts in_Row hown hK hP 0 rfl rfl 0 (by decide) (hts _ (List.mem_cons_of_mem _ k_29)) (fun _ h9 => h9) rfl d_Row_changeBy_25 ?_
    refine lv_iload_n hx hb d_Row_changeBy_28 rfl (lv_at hl 2 rfl) ?_
    refine lv_iconst (v := nI 1) hx hb d_Row_changeBy_29 (by decide) ?_
    refine lv_isub hx hb d_Row_changeBy_30 ?_
    refine xn_i (y := nI q) (pk_sub (Nat.le_add_left 1 q)) ?_
    refine xa_iald (v := g q) hx hb hK hP 1 0 rfl rfl (by omega) (by decide) rfl d_Row_changeBy_31 ?_
    refine lv_istore_n hx hb d_Row_changeBy_32 rfl hl (by decide) rfl (fun ls hl => ?_)
    have hl : lv_has ls 4 [(3, .int (g q)), (0, .ref aR), (1, .int (nI w)), (2, .int (nI (q + 1)))] := hl
    refine lv_aload_n hx hb d_Row_changeBy_33 rfl (lv_at hl 1 rfl) ?_
    refine va_get (D := D) (ci := 3) (v := .ref aO) (C := R_Row) (T := F_Row) (N := 2) hx hb hts in_Row hown hK hP 0 rfl rfl 0 (by decide) (hts _ (List.mem_cons_of_mem _ k_29)) (fun _ h9 => h9) rfl d_Row_changeBy_34 ?_
    refine lv_iload_n hx hb d_Row_changeBy_37 rfl (lv_at hl 3 rfl) ?_
    refine lv_iconst (v := nI 1) hx hb d_Row_changeBy_38 (by decide) ?_
    refine lv_isub hx hb d_Row_changeBy_39 ?_
    refine xn_i (y := nI q) (pk_sub (Nat.le_add_left 1 q)) ?_
    refine lv_aload_n hx hb d_Row_changeBy_40 rfl (lv_at hl 1 rfl) ?_
    refine va_get (D := D) (ci := 3) (v := .ref aO) (C := R_Row) (T := F_Row) (N := 2) hx hb hts in_Row hown hK hP 0 rfl rfl 0 (by decide) (hts _ (List.mem_cons_of_mem _ k_29)) (fun _ h9 => h9) rfl d_Row_changeBy_41 ?_
    refine lv_iload_n hx hb d_Row_changeBy_44 rfl (lv_at hl 3 rfl) ?_
    refine xa_iald (v := g (q + 1)) hx hb hK hP 1 0 rfl rfl (by omega) (by decide) rfl d_Row_changeBy_45 ?_
    refine xa_iast hx hb hK hP hD hS 1 0 rfl rfl (by omega) (by decide) d_Row_changeBy_46 (fun H locs hP hD hS => ?_)
    have hP : va_P D vwCl [(aR, .inr (3, [.ref aO, .int (nI n)])), (aO, .inl (cI, 6, .inl (upd g q (g (q + 1)))))] H := hP
    have hD : va_D A [(aR, .inr (3, [.ref aO, .int (nI n)])), (aO, .inl (cI, 6, .inl (upd g q (g (q + 1)))))] := hD
    refine lv_aload_n hx hb d_Row_changeBy_47 rfl (lv_at hl 1 rfl) ?_
    refine va_get (D := D) (ci := 3) (v := .ref aO) (C := R_Row) (T := F_Row) (N := 2) hx hb hts in_Row hown hK hP 0 rfl rfl 0 (by decide) (hts _ (List.mem_cons_of_mem _ k_29)) (fun _ h9 => h9) rfl d_Row_changeBy_48 ?_
    refine lv_iload_n hx hb d_Row_changeBy_51 rfl (lv_at hl 3 rfl) ?_
    refine lv_iload_n hx hb d_Row_changeBy_52 rfl (lv_at hl 0 rfl) ?_
    refine xa_iast hx hb hK hP hD hS 1 0 rfl rfl (by omega) (by decide) d_Row_changeBy_53 (fun H locs hP hD hS => ?_)
    have hP : va_P D vwCl [(aR, .inr (3, [.ref aO, .int (nI n)])), (aO, .inl (cI, 6, .inl (upd (upd g q (g (q + 1))) (q + 1) (g q))))] H := hP
    have hD : va_D A [(aR, .inr (3, [.ref aO, .int (nI n)])), (aO, .inl (cI, 6, .inl (upd (upd g q (g (q + 1))) (q + 1) (g q))))] := hD
    refine lv_iinc (k := 3) (v := nI (q + 1 + 2)) hx hb d_Row_changeBy_54 hl rfl (xi_2 _) (by decide) rfl (fun ls hl => ?_)
    have hl : lv_has ls 4 [(2, .int (nI (q + 1 + 2))), (3, .int (g q)), (0, .ref aR), (1, .int (nI w))] := hl
    refine lv_goto (tgt := 2) hx hb d_Row_changeBy_57 rfl ?_
    have hl : lv_has ls 4 [(0, .ref aR), (1, .int (nI w)), (2, .int (nI ((q + 2) + 1)))] := lv_sub hl [2, 3, 0] rfl
    have hP := hP.sub (ws' := [(aR, .inr (3, [.ref aO, .int (nI n)])), (aO, .inl (cI, 6, .inl (upd (upd g q (g (q + 1))) (q + 1) (g q))))]) [0, 1] rfl
    have hD := hD.sub (ws' := [(aR, .inr (3, [.ref aO, .int (nI n)])), (aO, .inl (cI, 6, .inl (upd (upd g q (g (q + 1))) (q + 1) (g q))))]) [0, 1] (by decide) rfl
    exact ih (q + 2) (upd (upd g q (g (q + 1))) (q + 1) (g q)) _ _ _ (by omega) ⟨by omega, hs4, cgi_2 hs1 hi3 hs2 hs3, hl, hP, hD, hS⟩
  obtain ⟨hs2, hs3⟩ : pt w q = q ∧ (q + 1 < n → st w (q + 1) = true) := by
    rcases st_at hn hw (by omega) (hi2 (by omega)) with ⟨-, h1⟩ | ⟨h1, -⟩
    · exact h1
    · unfold mb at h15; rw [h1] at h15; cases h15
  refine lv_iinc (k := 2) (v := nI (q + 1 + 1)) hx hb d_Row_changeBy_18 hl rfl (xi_1 _) (by decide) rfl (fun ls hl => ?_)
  have hl : lv_has ls 4 [(2, .int (nI (q + 1 + 1))), (0, .ref aR), (1, .int (nI w))] := hl
  refine lv_goto (tgt := 2) hx hb d_Row_changeBy_21 rfl ?_
  have hl : lv_has ls 4 [(0, .ref aR), (1, .int (nI w)), (2, .int (nI ((q + 1) + 1)))] := lv_sub hl [1, 2, 0] rfl
  have hP := hP.sub (ws' := [(aR, .inr (3, [.ref aO, .int (nI n)])), (aO, .inl (cI, 6, .inl g))]) [0, 1] rfl
  have hD := hD.sub (ws' := [(aR, .inr (3, [.ref aO, .int (nI n)])), (aO, .inl (cI, 6, .inl g))]) [0, 1] (by decide) rfl
  exact ih (q + 1) g _ _ _ (by omega) ⟨by omega, hs3, cgi_1 (by omega) hi3 hs2, hl, hP, hD, hS⟩
set_option maxHeartbeats 4000000 in
set_option maxRecDepth 100000 in
theorem c_Row_matches (aR : Nat) (aO : Nat) (aP : Nat) (n : Nat) (k : Nat) (f : Nat → Int32) (g : Nat → Int32) (hn : nb n) (hf : hold n k f) : CtI l y_Row_matches (w_Row_matches) ({ frames := 0, cells := 0, slots := 0, locals := 0 }) D vwCl (TYs cI cZ cJ cG) (gG tF) [.ref aR, .ref aP] [(aR, .inr (3, [.ref aO, .int (nI n)])), (aO, .inl (cI, 6, .inl f)), (aP, .inl (cI, 6, .inl g))] 0 0 (fun _ : Unit => [(aR, .inr (3, [.ref aO, .int (nI n)])), (aO, .inl (cI, 6, .inl f)), (aP, .inl (cI, 6, .inl g))]) (fun (r : Int32) (_ : Unit) => r = nI ((mtc n k g).toNat)) := by
  refine CtI.of (cc := b_Row_matches) (maxL := 3) (ret := (some .boolean)) (by decide) rfl (Nat.le_of_ble_eq_true rfl) ?_
  intro p e s m args below meth c A ls hF hA hP hK hD hg hS hl
  obtain ⟨hx, hb, hrt, hlk, hml, hown, hts, hnm⟩ := hF
  have hown : s.vm.findClass R_Row = some m.cls := hown
  have hl : lv_has ls 3 [(0, .ref aR), (1, .ref aP)] := hl
  have hn4 : 4 ≤ n := hn.1
  have hn6 : n ≤ 6 := hn.2
  refine lv_iconst (v := nI 0) hx hb d_Row_matches_0 (by decide) ?_
  refine lv_istore_n hx hb d_Row_matches_1 rfl hl (by decide) rfl (fun ls hl => ?_)
  have hl : lv_has ls 3 [(2, .int (nI 0)), (0, .ref aR), (1, .ref aP)] := hl
  have hl : lv_has ls 3 [(0, .ref aR), (1, .ref aP), (2, .int (nI 0))] := lv_sub hl [1, 2, 0] rfl
  have hP := hP.sub (ws' := [(aR, .inr (3, [.ref aO, .int (nI n)])), (aO, .inl (cI, 6, .inl f)), (aP, .inl (cI, 6, .inl g))]) [0, 1, 2] rfl
  have hD := hD.sub (ws' := [(aR, .inr (3, [.ref aO, .int (nI n)])), (aO, .inl (cI, 6, .inl f)), (aP, .inl (cI, 6, .inl g))]) [0, 1, 2] (by decide) rfl
  refine xn_pc (pc2 := 2) rfl ?_
  refine xl_1 (fun (p : Nat) ls H locs => (p ≤ n) ∧ (∀ j, j < p → g j = 0 ∨ g j = nI (ro n k j)) ∧ lv_has ls 3 [(0, .ref aR), (1, .ref aP), (2, .int (nI p))] ∧ va_P D vwCl [(aR, .inr (3, [.ref aO, .int (nI n)])), (aO, .inl (cI, 6, .inl f)), (aP, .inl (cI, 6, .inl g))] H ∧ va_D A [(aR, .inr (3, [.ref aO, .int (nI n)])), (aO, .inl (cI, 6, .inl f)), (aP, .inl (cI, 6, .inl g))] ∧ va_S A s.heap H locs) (fun (p : Nat) => n - p) (fun p ls H locs hI ih => ?_) 0 ⟨Nat.zero_le n, fun j hj => absurd hj (Nat.not_lt_zero j), hl, hP, hD, hS⟩
  obtain ⟨hi1, hi2, hl, hP, hD, hS⟩ := hI
  refine lv_iload_n hx hb d_Row_matches_2 rfl (lv_at hl 2 rfl) ?_
  refine lv_aload_n hx hb d_Row_matches_3 rfl (lv_at hl 0 rfl) ?_
  refine va_get (D := D) (ci := 3) (v := .int (nI n)) (C := R_Row) (T := F_Row) (N := 2) hx hb hts in_Row hown hK hP 0 rfl rfl 1 (by decide) (hts _ (List.mem_cons_of_mem _ k_30)) (fun _ h9 => h9) rfl d_Row_matches_4 ?_
  refine xb_cge hx hb 36 (by omega) (by omega) d_Row_matches_7 rfl (fun h7 => ?_) (fun h7 => ?_)
  · skip
    refine lv_iconst (v := nI 1) hx hb d_Row_matches_36 (by decide) ?_
    exact xr_i hx hb hrt hlk rfl hP hD hS () [0, 1, 2] (by decide) rfl (by rw [mtc, decide_eq_true (fun j hj => hi2 j (by omega))]; rfl) d_Row_matches_37
  refine lv_aload_n hx hb d_Row_matches_10 rfl (lv_at hl 1 rfl) ?_
  refine lv_iload_n hx hb d_Row_matches_11 rfl (lv_at hl 2 rfl) ?_
  refine xa_iald (v := g p) hx hb hK hP 2 0 rfl rfl (by omega) (by decide) rfl d_Row_matches_12 ?_
  refine lv_if_eq (tgt := 30) hx hb d_Row_matches_13 rfl (fun h13 => ?_) (fun h13 => ?_)
  · skip
    refine lv_iinc (k := 2) (v := nI (p + 1)) hx hb d_Row_matches_30 hl rfl (xi_1 _) (by decide) rfl (fun ls hl => ?_)
    have hl : lv_has ls 3 [(2, .int (nI (p + 1))), (0, .ref aR), (1, .ref aP)] := hl
    refine lv_goto (tgt := 2) hx hb d_Row_matches_33 rfl ?_
    have hl : lv_has ls 3 [(0, .ref aR), (1, .ref aP), (2, .int (nI (p + 1)))] := lv_sub hl [1, 2, 0] rfl
    have hP := hP.sub (ws' := [(aR, .inr (3, [.ref aO, .int (nI n)])), (aO, .inl (cI, 6, .inl f)), (aP, .inl (cI, 6, .inl g))]) [0, 1, 2] rfl
    have hD := hD.sub (ws' := [(aR, .inr (3, [.ref aO, .int (nI n)])), (aO, .inl (cI, 6, .inl f)), (aP, .inl (cI, 6, .inl g))]) [0, 1, 2] (by decide) rfl
    exact ih (p + 1) _ _ _ (by omega) ⟨h7, lt_s hi2 (by first | exact Or.inl h13 | exact Or.inr h25), hl, hP, hD, hS⟩
  refine lv_aload_n hx hb d_Row_matches_16 rfl (lv_at hl 1 rfl) ?_
  refine lv_iload_n hx hb d_Row_matches_17 rfl (lv_at hl 2 rfl) ?_
  refine xa_iald (v := g p) hx hb hK hP 2 0 rfl rfl (by omega) (by decide) rfl d_Row_matches_18 ?_
  refine lv_aload_n hx hb d_Row_matches_19 rfl (lv_at hl 0 rfl) ?_
  refine va_get (D := D) (ci := 3) (v := .ref aO) (C := R_Row) (T := F_Row) (N := 2) hx hb hts in_Row hown hK hP 0 rfl rfl 0 (by decide) (hts _ (List.mem_cons_of_mem _ k_29)) (fun _ h9 => h9) rfl d_Row_matches_20 ?_
  refine lv_iload_n hx hb d_Row_matches_23 rfl (lv_at hl 2 rfl) ?_
  refine xa_iald (v := nI (ro n k p)) hx hb hK hP 1 0 rfl rfl (by omega) (by decide) (hf p h7) d_Row_matches_24 ?_
  refine lv_icmp_eq (tgt := 30) hx hb d_Row_matches_25 rfl (fun h25 => ?_) (fun h25 => ?_)
  · skip
    refine lv_iinc (k := 2) (v := nI (p + 1)) hx hb d_Row_matches_30 hl rfl (xi_1 _) (by decide) rfl (fun ls hl => ?_)
    have hl : lv_has ls 3 [(2, .int (nI (p + 1))), (0, .ref aR), (1, .ref aP)] := hl
    refine lv_goto (tgt := 2) hx hb d_Row_matches_33 rfl ?_
    have hl : lv_has ls 3 [(0, .ref aR), (1, .ref aP), (2, .int (nI (p + 1)))] := lv_sub hl [1, 2, 0] rfl
    have hP := hP.sub (ws' := [(aR, .inr (3, [.ref aO, .int (nI n)])), (aO, .inl (cI, 6, .inl f)), (aP, .inl (cI, 6, .inl g))]) [0, 1, 2] rfl
    have hD := hD.sub (ws' := [(aR, .inr (3, [.ref aO, .int (nI n)])), (aO, .inl (cI, 6, .inl f)), (aP, .inl (cI, 6, .inl g))]) [0, 1, 2] (by decide) rfl
    exact ih (p + 1) _ _ _ (by omega) ⟨h7, lt_s hi2 (by first | exact Or.inl h13 | exact Or.inr h25), hl, hP, hD, hS⟩
  refine lv_iconst (v := nI 0) hx hb d_Row_matches_28 (by decide) ?_
  exact xr_i hx hb hrt hlk rfl hP hD hS () [0, 1, 2] (by decide) rfl (by rw [mtc, decide_eq_false (fun h => (h p h7).elim h13 h25)]; rfl) d_Row_matches_29
end
