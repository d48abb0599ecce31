section
variable {l : Launch} {D : va_G} {cI cZ cJ cG : ClassId} {tF : Nat}
set_option maxHeartbeats 4000000 in
set_option maxRecDepth 100000 in
theorem c_RT_hasPattern (x : Int32)  : CtI l y_RT_hasPattern (w_RT_hasPattern) ({ frames := 0, cells := 0, slots := 0, locals := 0 }) D vwCl (TYs cI cZ cJ cG) (gG tF) [.int x] [] 0 0 (fun _ : Unit => []) (fun (r : Int32) (_ : Unit) => r = nI ((okp x).toNat)) := by
  refine CtI.of (cc := b_RT_hasPattern) (maxL := 1) (ret := (some .boolean)) (by decide) rfl (Nat.le_of_ble_eq_true rfl) ?_
  intro p e s m args below meth c A ls hF hA hP hK hD hg hS hl
  obtain ⟨hx, hb, hrt, hlk, hml, hown, hts, hnm⟩ := hF
  have hown : s.vm.findClass R_RT = some m.cls := hown
  have hl : lv_has ls 1 [(0, .int x)] := hl
  refine lv_iload_n hx hb d_RT_hasPattern_0 rfl (lv_at hl 0 rfl) ?_
  refine lv_if_lt (tgt := 13) hx hb d_RT_hasPattern_1 rfl (fun h1 => ?_) (fun h1 => ?_)
  · skip
    refine lv_iconst (v := nI 0) hx hb d_RT_hasPattern_13 (by decide) ?_
    exact xr_i hx hb hrt hlk rfl hP hD hS () [] (by decide) rfl (by unfold okp; first | rw [if_pos h1]; rfl | rw [if_neg h1, if_pos h6]; rfl) d_RT_hasPattern_14
  refine lv_iload_n hx hb d_RT_hasPattern_4 rfl (lv_at hl 0 rfl) ?_
  refine lv_iconst (v := nI 4) hx hb d_RT_hasPattern_5 (by decide) ?_
  refine lv_icmp_ge (tgt := 13) hx hb d_RT_hasPattern_6 rfl (fun h6 => ?_) (fun h6 => ?_)
  · skip
    refine lv_iconst (v := nI 0) hx hb d_RT_hasPattern_13 (by decide) ?_
    exact xr_i hx hb hrt hlk rfl hP hD hS () [] (by decide) rfl (by unfold okp; first | rw [if_pos h1]; rfl | rw [if_neg h1, if_pos h6]; rfl) d_RT_hasPattern_14
  refine lv_iconst (v := nI 1) hx hb d_RT_hasPattern_9 (by decide) ?_
  refine lv_goto (tgt := 14) hx hb d_RT_hasPattern_10 rfl ?_
  exact xr_i hx hb hrt hlk rfl hP hD hS () [] (by decide) rfl (by unfold okp; rw [if_neg h1, if_neg h6]; rfl) d_RT_hasPattern_14
set_option maxHeartbeats 4000000 in
set_option maxRecDepth 100000 in
theorem c_RT_hasPlace (aX : Nat) (aR : Nat) (aM : Nat) (aG : Nat) (aL : Nat) (aU : Nat) (aP : Nat) (ct : Nat) (aO : Nat) (n : Nat) (f : Nat → Int32) (x : Int32)  : CtI l y_RT_hasPlace (w_RT_hasPlace) ({ frames := 1, cells := 0, slots := 0, locals := 20 }) D vwCl (TYs cI cZ cJ cG) (gG tF) [.ref aX, .int x] [(aX, .inr (5, [.ref aR, .ref aM, .ref aG, .ref aL, .ref aU, .ref aP, .int (nI ct)])), (aR, .inr (3, [.ref aO, .int (nI n)])), (aO, .inl (cI, 6, .inl f))] 0 0 (fun _ : Unit => [(aX, .inr (5, [.ref aR, .ref aM, .ref aG, .ref aL, .ref aU, .ref aP, .int (nI ct)])), (aR, .inr (3, [.ref aO, .int (nI n)])), (aO, .inl (cI, 6, .inl f))]) (fun (r : Int32) (_ : Unit) => r = nI ((okl n x).toNat)) := by
  refine CtI.of (cc := b_RT_hasPlace) (maxL := 2) (ret := (some .boolean)) (by decide) rfl (Nat.le_of_ble_eq_true rfl) ?_
  intro p e s m args below meth c A ls hF hA hP hK hD hg hS hl
  obtain ⟨hx, hb, hrt, hlk, hml, hown, hts, hnm⟩ := hF
  have hown : s.vm.findClass R_RT = some m.cls := hown
  have hl : lv_has ls 2 [(0, .ref aX), (1, .int x)] := hl
  refine lv_iload_n hx hb d_RT_hasPlace_0 rfl (lv_at hl 1 rfl) ?_
  refine lv_iconst (v := nI 1) hx hb d_RT_hasPlace_1 (by decide) ?_
  refine lv_icmp_lt (tgt := 20) hx hb d_RT_hasPlace_2 rfl (fun h2 => ?_) (fun h2 => ?_)
  · skip
    refine lv_iconst (v := nI 0) hx hb d_RT_hasPlace_20 (by decide) ?_
    exact xr_i hx hb hrt hlk rfl hP hD hS () [0, 1, 2] (by decide) rfl (by unfold okl; first | rw [if_pos h2]; rfl | rw [if_neg h2, if_pos h13]; rfl) d_RT_hasPlace_21
  refine lv_iload_n hx hb d_RT_hasPlace_5 rfl (lv_at hl 1 rfl) ?_
  refine lv_aload_n hx hb d_RT_hasPlace_6 rfl (lv_at hl 0 rfl) ?_
  refine va_get (D := D) (ci := 5) (v := .ref aR) (C := R_RT) (T := F_RT) (N := 7) hx hb hts in_RT hown hK hP 0 rfl rfl 0 (by decide) (hts _ (List.mem_cons_of_mem _ k_146)) (fun _ h9 => h9) rfl d_RT_hasPlace_7 ?_
  refine xc_i (wc := [(aR, .inr (3, [.ref aO, .int (nI n)])), (aO, .inl (cI, 6, .inl f))]) (wr := [(aX, .inr (5, [.ref aR, .ref aM, .ref aG, .ref aL, .ref aU, .ref aP, .int (nI ct)]))]) (gG_ok tF) hK hP hD hS hA hg [1, 2] [0] rfl rfl (by decide) (by decide) (by decide) (fun h1 h2 => va_runV (As := []) (rest := [.int x]) ⟨hx, hb, hml, hown, hts⟩ (c_Row_length aR aO n f  _) (cwV 0 hts (gV k_184 k_185 k_186 k_2 k_187) rfl rfl rfl (by decide +kernel) ⟨Nat.le_of_ble_eq_true rfl, Nat.le_of_ble_eq_true rfl⟩) ⟨h1, va_recv (q0 := 1) (ci := 3) hK hP rfl rfl, h2⟩ rfl rfl hl.1 rfl (lv_room (Nat.le_of_ble_eq_true rfl)) d_RT_hasPlace_10 ⟨Nat.zero_le _, Nat.zero_le _⟩) (fun r u H locs hq9 hP hD hS => ?_)
  obtain rfl := hq9
  have hP : va_P D vwCl [(aX, .inr (5, [.ref aR, .ref aM, .ref aG, .ref aL, .ref aU, .ref aP, .int (nI ct)])), (aR, .inr (3, [.ref aO, .int (nI n)])), (aO, .inl (cI, 6, .inl f))] H := hP
  have hD : va_D A [(aX, .inr (5, [.ref aR, .ref aM, .ref aG, .ref aL, .ref aU, .ref aP, .int (nI ct)])), (aR, .inr (3, [.ref aO, .int (nI n)])), (aO, .inl (cI, 6, .inl f))] := hD
  refine lv_icmp_gt (tgt := 20) hx hb d_RT_hasPlace_13 rfl (fun h13 => ?_) (fun h13 => ?_)
  · skip
    refine lv_iconst (v := nI 0) hx hb d_RT_hasPlace_20 (by decide) ?_
    exact xr_i hx hb hrt hlk rfl hP hD hS () [0, 1, 2] (by decide) rfl (by unfold okl; first | rw [if_pos h2]; rfl | rw [if_neg h2, if_pos h13]; rfl) d_RT_hasPlace_21
  refine lv_iconst (v := nI 1) hx hb d_RT_hasPlace_16 (by decide) ?_
  refine lv_goto (tgt := 21) hx hb d_RT_hasPlace_17 rfl ?_
  exact xr_i hx hb hrt hlk rfl hP hD hS () [0, 1, 2] (by decide) rfl (by unfold okl; rw [if_neg h2, if_neg h13]; rfl) d_RT_hasPlace_21
set_option maxHeartbeats 4000000 in
set_option maxRecDepth 100000 in
theorem c_RT_rows (aX : Nat) (aR : Nat) (aM : Nat) (aG : Nat) (aL : Nat) (aU : Nat) (aP : Nat) (ct : Nat) (aK : Nat) (mk : Nat → Int32) (b1 : Int32) (b2 : Int32) (ln : Nat)  : CtI l y_RT_rows (w_RT_rows) ({ frames := 1, cells := 0, slots := 0, locals := 20 }) D vwCl (TYs cI cZ cJ cG) (gG tF) [.ref aX] [(aX, .inr (5, [.ref aR, .ref aM, .ref aG, .ref aL, .ref aU, .ref aP, .int (nI ct)])), (aM, .inr (1, [.ref aK, .int b1, .int b2, .int (nI ln)])), (aK, .inl (cI, 24, .inl mk))] 0 0 (fun _ : Unit => [(aX, .inr (5, [.ref aR, .ref aM, .ref aG, .ref aL, .ref aU, .ref aP, .int (nI ct)])), (aM, .inr (1, [.ref aK, .int b1, .int b2, .int (nI ln)])), (aK, .inl (cI, 24, .inl mk))]) (fun (r : Int32) (_ : Unit) => r = nI (ct * ln)) := by
  refine CtI.of (cc := b_RT_rows) (maxL := 1) (ret := (some .int)) (by decide) rfl (Nat.le_of_ble_eq_true rfl) ?_
  intro p e s m args below meth c A ls hF hA hP hK hD hg hS hl
  obtain ⟨hx, hb, hrt, hlk, hml, hown, hts, hnm⟩ := hF
  have hown : s.vm.findClass R_RT = some m.cls := hown
  have hl : lv_has ls 1 [(0, .ref aX)] := hl
  refine lv_aload_n hx hb d_RT_rows_0 rfl (lv_at hl 0 rfl) ?_
  refine va_get (D := D) (ci := 5) (v := .int (nI ct)) (C := R_RT) (T := F_RT) (N := 7) hx hb hts in_RT hown hK hP 0 rfl rfl 6 (by decide) (hts _ (List.mem_cons_of_mem _ k_152)) (fun _ h9 => h9) rfl d_RT_rows_1 ?_
  refine lv_aload_n hx hb d_RT_rows_4 rfl (lv_at hl 0 rfl) ?_
  refine va_get (D := D) (ci := 5) (v := .ref aM) (C := R_RT) (T := F_RT) (N := 7) hx hb hts in_RT hown hK hP 0 rfl rfl 1 (by decide) (hts _ (List.mem_cons_of_mem _ k_147)) (fun _ h9 => h9) rfl d_RT_rows_5 ?_
  refine xc_i (wc := [(aM, .inr (1, [.ref aK, .int b1, .int b2, .int (nI ln)])), (aK, .inl (cI, 24, .inl mk))]) (wr := [(aX, .inr (5, [.ref aR, .ref aM, .ref aG, .ref aL, .ref aU, .ref aP, .int (nI ct)]))]) (gG_ok tF) hK hP hD hS hA hg [1, 2] [0] rfl rfl (by decide) (by decide) (by decide) (fun h1 h2 => va_runV (As := []) (rest := [.int (nI ct)]) ⟨hx, hb, hml, hown, hts⟩ (c_Met_leadLength aM aK mk b1 b2 ln  _) (cwV 0 hts (gV k_318 k_292 k_293 k_3 k_294) rfl rfl rfl (by decide +kernel) ⟨Nat.le_of_ble_eq_true rfl, Nat.le_of_ble_eq_true rfl⟩) ⟨h1, va_recv (q0 := 1) (ci := 1) hK hP rfl rfl, h2⟩ rfl rfl hl.1 rfl (lv_room (Nat.le_of_ble_eq_true rfl)) d_RT_rows_8 ⟨Nat.zero_le _, Nat.zero_le _⟩) (fun r u H locs hq9 hP hD hS => ?_)
  obtain rfl := hq9
  have hP : va_P D vwCl [(aX, .inr (5, [.ref aR, .ref aM, .ref aG, .ref aL, .ref aU, .ref aP, .int (nI ct)])), (aM, .inr (1, [.ref aK, .int b1, .int b2, .int (nI ln)])), (aK, .inl (cI, 24, .inl mk))] H := hP
  have hD : va_D A [(aX, .inr (5, [.ref aR, .ref aM, .ref aG, .ref aL, .ref aU, .ref aP, .int (nI ct)])), (aM, .inr (1, [.ref aK, .int b1, .int b2, .int (nI ln)])), (aK, .inl (cI, 24, .inl mk))] := hD
  refine lv_imul hx hb d_RT_rows_11 ?_
  refine xn_i (y := nI (ct * ln)) (pk_mul _ _) ?_
  exact xr_i hx hb hrt hlk rfl hP hD hS () [0, 1, 2] (by decide) rfl rfl d_RT_rows_12
set_option maxHeartbeats 4000000 in
set_option maxRecDepth 100000 in
theorem c_RT_calls (aX : Nat) (aR : Nat) (aM : Nat) (aG : Nat) (aL : Nat) (aU : Nat) (aP : Nat) (ct : Nat)  : CtI l y_RT_calls (w_RT_calls) ({ frames := 0, cells := 0, slots := 0, locals := 0 }) D vwCl (TYs cI cZ cJ cG) (gG tF) [.ref aX] [(aX, .inr (5, [.ref aR, .ref aM, .ref aG, .ref aL, .ref aU, .ref aP, .int (nI ct)]))] 0 0 (fun _ : Unit => [(aX, .inr (5, [.ref aR, .ref aM, .ref aG, .ref aL, .ref aU, .ref aP, .int (nI ct)]))]) (fun (r : Int32) (_ : Unit) => r = nI ct) := by
  refine CtI.of (cc := b_RT_calls) (maxL := 1) (ret := (some .int)) (by decide) rfl (Nat.le_of_ble_eq_true rfl) ?_
  intro p e s m args below meth c A ls hF hA hP hK hD hg hS hl
  obtain ⟨hx, hb, hrt, hlk, hml, hown, hts, hnm⟩ := hF
  have hown : s.vm.findClass R_RT = some m.cls := hown
  have hl : lv_has ls 1 [(0, .ref aX)] := hl
  refine lv_aload_n hx hb d_RT_calls_0 rfl (lv_at hl 0 rfl) ?_
  refine va_get (D := D) (ci := 5) (v := .int (nI ct)) (C := R_RT) (T := F_RT) (N := 7) hx hb hts in_RT hown hK hP 0 rfl rfl 6 (by decide) (hts _ (List.mem_cons_of_mem _ k_152)) (fun _ h9 => h9) rfl d_RT_calls_1 ?_
  exact xr_i hx hb hrt hlk rfl hP hD hS () [0] (by decide) rfl rfl d_RT_calls_4
set_option maxHeartbeats 4000000 in
set_option maxRecDepth 100000 in
theorem c_RT_isGood (aX : Nat) (aR : Nat) (aM : Nat) (aG : Nat) (aL : Nat) (aU : Nat) (aP : Nat) (ct : Nat) (aO : Nat) (n : Nat) (f : Nat → Int32) (x : Int32) (hn : nb n) : CtI l y_RT_isGood (w_RT_isGood) ({ frames := 1, cells := 0, slots := 0, locals := 21 }) D vwCl (TYs cI cZ cJ cG) (gG tF) [.ref aX, .int x] [(aX, .inr (5, [.ref aR, .ref aM, .ref aG, .ref aL, .ref aU, .ref aP, .int (nI ct)])), (aR, .inr (3, [.ref aO, .int (nI n)])), (aO, .inl (cI, 6, .inl f))] 0 0 (fun _ : Unit => [(aX, .inr (5, [.ref aR, .ref aM, .ref aG, .ref aL, .ref aU, .ref aP, .int (nI ct)])), (aR, .inr (3, [.ref aO, .int (nI n)])), (aO, .inl (cI, 6, .inl f))]) (fun (r : Int32) (_ : Unit) => r = nI ((okm n x).toNat)) := by
  refine CtI.of (cc := b_RT_isGood) (maxL := 4) (ret := (some .boolean)) (by decide) rfl (Nat.le_of_ble_eq_true rfl) ?_
  intro p e s m args below meth c A ls hF hA hP hK hD hg hS hl
  obtain ⟨hx, hb, hrt, hlk, hml, hown, hts, hnm⟩ := hF
  have hown : s.vm.findClass R_RT = some m.cls := hown
  have hl : lv_has ls 4 [(0, .ref aX), (1, .int x)] := hl
  have hn4 : 4 ≤ n := hn.1
  have hn6 : n ≤ 6 := hn.2
  have hfa : fa n ≤ 720 := fa_le hn
  refine lv_iload_n hx hb d_RT_isGood_0 rfl (lv_at hl 1 rfl) ?_
  refine lv_if_lt (tgt := 17) hx hb d_RT_isGood_1 rfl (fun h1 => ?_) (fun h1 => ?_)
  · skip
    refine lv_iconst (v := nI 0) hx hb d_RT_isGood_17 (by decide) ?_
    exact xr_i hx hb hrt hlk rfl hP hD hS () [0, 1, 2] (by decide) rfl (by unfold okm; first | rw [if_pos h1]; rfl | rw [if_neg h1, if_pos (Int32.not_lt.mp h14)]; rfl) d_RT_isGood_18
  refine lv_iload_n hx hb d_RT_isGood_4 rfl (lv_at hl 1 rfl) ?_
  refine lv_iconst (v := nI 1) hx hb d_RT_isGood_5 (by decide) ?_
  refine lv_aload_n hx hb d_RT_isGood_6 rfl (lv_at hl 0 rfl) ?_
  refine va_get (D := D) (ci := 5) (v := .ref aR) (C := R_RT) (T := F_RT) (N := 7) hx hb hts in_RT hown hK hP 0 rfl rfl 0 (by decide) (hts _ (List.mem_cons_of_mem _ k_146)) (fun _ h9 => h9) rfl d_RT_isGood_7 ?_
  refine xc_i (wc := [(aR, .inr (3, [.ref aO, .int (nI n)])), (aO, .inl (cI, 6, .inl f))]) (wr := [(aX, .inr (5, [.ref aR, .ref aM, .ref aG, .ref aL, .ref aU, .ref aP, .int (nI ct)]))]) (gG_ok tF) hK hP hD hS hA hg [1, 2] [0] rfl rfl (by decide) (by decide) (by decide) (fun h1 h2 => va_runV (As := []) (rest := [.int (nI 1), .int x]) ⟨hx, hb, hml, hown, hts⟩ (c_Row_length aR aO n f  _) (cwV 0 hts (gV k_184 k_185 k_186 k_2 k_187) rfl rfl rfl (by decide +kernel) ⟨Nat.le_of_ble_eq_true rfl, Nat.le_of_ble_eq_true rfl⟩) ⟨h1, va_recv (q0 := 1) (ci := 3) hK hP rfl rfl, h2⟩ rfl rfl hl.1 rfl (lv_room (Nat.le_of_ble_eq_true rfl)) d_RT_isGood_10 ⟨Nat.zero_le _, Nat.zero_le _⟩) (fun r u H locs hq9 hP hD hS => ?_)
  obtain rfl := hq9
  have hP : va_P D vwCl [(aX, .inr (5, [.ref aR, .ref aM, .ref aG, .ref aL, .ref aU, .ref aP, .int (nI ct)])), (aR, .inr (3, [.ref aO, .int (nI n)])), (aO, .inl (cI, 6, .inl f))] H := hP
  have hD : va_D A [(aX, .inr (5, [.ref aR, .ref aM, .ref aG, .ref aL, .ref aU, .ref aP, .int (nI ct)])), (aR, .inr (3, [.ref aO, .int (nI n)])), (aO, .inl (cI, 6, .inl f))] := hD
  refine lv_ishl hx hb d_RT_isGood_13 ?_
  refine xn_i (y := nI (2 ^ n)) (xs_shl (by omega)) ?_
  refine lv_icmp_lt (tgt := 19) hx hb d_RT_isGood_14 rfl (fun h14 => ?_) (fun h14 => ?_)
  · skip
    obtain ⟨w, hw, rfl⟩ := okm_of hn h1 (Int32.not_le.mpr h14)
    have hw6 := (two_n hn).1
    refine lv_iconst (v := nI 0) hx hb d_RT_isGood_19 (by decide) ?_
    refine lv_istore_n hx hb d_RT_isGood_20 rfl hl (by decide) rfl (fun ls hl => ?_)
    have hl : lv_has ls 4 [(2, .int (nI 0)), (0, .ref aX), (1, .int (nI w))] := hl
    refine lv_iconst (v := nI 1) hx hb d_RT_isGood_21 (by decide) ?_
    refine lv_istore_n hx hb d_RT_isGood_22 rfl hl (by decide) rfl (fun ls hl => ?_)
    have hl : lv_has ls 4 [(3, .int (nI 1)), (2, .int (nI 0)), (0, .ref aX), (1, .int (nI w))] := hl
    have hl : lv_has ls 4 [(0, .ref aX), (1, .int (nI w)), (2, .int (nI (str w 0))), (3, .int (nI (0 + 1)))] := lv_sub hl [2, 3, 1, 0] rfl
    have hP := hP.sub (ws' := [(aX, .inr (5, [.ref aR, .ref aM, .ref aG, .ref aL, .ref aU, .ref aP, .int (nI ct)])), (aR, .inr (3, [.ref aO, .int (nI n)])), (aO, .inl (cI, 6, .inl f))]) [0, 1, 2] rfl
    have hD := hD.sub (ws' := [(aX, .inr (5, [.ref aR, .ref aM, .ref aG, .ref aL, .ref aU, .ref aP, .int (nI ct)])), (aR, .inr (3, [.ref aO, .int (nI n)])), (aO, .inl (cI, 6, .inl f))]) [0, 1, 2] (by decide) rfl
    refine xn_pc (pc2 := 23) rfl ?_
    refine xl_1 (fun (i : Nat) ls H locs => (i ≤ n) ∧ (gfl w i = true) ∧ lv_has ls 4 [(0, .ref aX), (1, .int (nI w)), (2, .int (nI (str w i))), (3, .int (nI (i + 1)))] ∧ va_P D vwCl [(aX, .inr (5, [.ref aR, .ref aM, .ref aG, .ref aL, .ref aU, .ref aP, .int (nI ct)])), (aR, .inr (3, [.ref aO, .int (nI n)])), (aO, .inl (cI, 6, .inl f))] H ∧ va_D A [(aX, .inr (5, [.ref aR, .ref aM, .ref aG, .ref aL, .ref aU, .ref aP, .int (nI ct)])), (aR, .inr (3, [.ref aO, .int (nI n)])), (aO, .inl (cI, 6, .inl f))] ∧ va_S A s.heap H locs) (fun (i : Nat) => n - i) (fun i ls H locs hI ih => ?_) 0 ⟨Nat.zero_le n, rfl, hl, hP, hD, hS⟩
    obtain ⟨hi1, hi2, hl, hP, hD, hS⟩ := hI
    refine lv_iload_n hx hb d_RT_isGood_23 rfl (lv_at hl 3 rfl) ?_
    refine lv_aload_n hx hb d_RT_isGood_24 rfl (lv_at hl 0 rfl) ?_
    refine va_get (D := D) (ci := 5) (v := .ref aR) (C := R_RT) (T := F_RT) (N := 7) hx hb hts in_RT hown hK hP 0 rfl rfl 0 (by decide) (hts _ (List.mem_cons_of_mem _ k_146)) (fun _ h9 => h9) rfl d_RT_isGood_25 ?_
    refine xc_i (wc := [(aR, .inr (3, [.ref aO, .int (nI n)])), (aO, .inl (cI, 6, .inl f))]) (wr := [(aX, .inr (5, [.ref aR, .ref aM, .ref aG, .ref aL, .ref aU, .ref aP, .int (nI ct)]))]) (gG_ok tF) hK hP hD hS hA hg [1, 2] [0] rfl rfl (by decide) (by decide) (by decide) (fun h1 h2 => va_runV (As := []) (rest := [.int (nI (i + 1))]) ⟨hx, hb, hml, hown, hts⟩ (c_Row_length aR aO n f  _) (cwV 0 hts (gV k_184 k_185 k_186 k_2 k_187) rfl rfl rfl (by decide +kernel) ⟨Nat.le_of_ble_eq_true rfl, Nat.le_of_ble_eq_true rfl⟩) ⟨h1, va_recv (q0 := 1) (ci := 3) hK hP rfl rfl, h2⟩ rfl rfl hl.1 rfl (lv_room (Nat.le_of_ble_eq_true rfl)) d_RT_isGood_28 ⟨Nat.zero_le _, Nat.zero_le _⟩) (fun r u H locs hq9 hP hD hS => ?_)
    obtain rfl := hq9
    have hP : va_P D vwCl [(aX, .inr (5, [.ref aR, .ref aM, .ref aG, .ref aL, .ref aU, .ref aP, .int (nI ct)])), (aR, .inr (3, [.ref aO, .int (nI n)])), (aO, .inl (cI, 6, .inl f))] H := hP
    have hD : va_D A [(aX, .inr (5, [.ref aR, .ref aM, .ref aG, .ref aL, .ref aU, .ref aP, .int (nI ct)])), (aR, .inr (3, [.ref aO, .int (nI n)])), (aO, .inl (cI, 6, .inl f))] := hD
    refine xb_cgt hx hb 64 (by omega) (by omega) d_RT_isGood_31 rfl (fun h31 => ?_) (fun h31 => ?_)
    · skip
      refine lv_iload_n hx hb d_RT_isGood_64 rfl (lv_at hl 2 rfl) ?_
      refine lv_iconst (v := nI 2) hx hb d_RT_isGood_65 (by decide) ?_
      refine lv_irem hx hb d_RT_isGood_66 (by decide) ?_
      refine xn_i (y := nI ((str w i) % 2)) (pk_rem (by have := str_le w i; omega) (by decide) (by decide)) ?_
      refine xb_ne hx hb 74 (by omega) d_RT_isGood_67 rfl (fun h67 => ?_) (fun h67 => ?_)
      · skip
        refine lv_iconst (v := nI 0) hx hb d_RT_isGood_74 (by decide) ?_
        exact xr_i hx hb hrt hlk rfl hP hD hS () [0, 1, 2] (by decide) rfl (by rw [okm_nI hn hw, ← gfl_n hn hw, show n = i by omega]; exact xp_f (by rw [xg_c h67]; decide)) d_RT_isGood_75
      refine lv_iconst (v := nI 1) hx hb d_RT_isGood_70 (by decide) ?_
      refine lv_goto (tgt := 75) hx hb d_RT_isGood_71 rfl ?_
      exact xr_i hx hb hrt hlk rfl hP hD hS () [0, 1, 2] (by decide) rfl (by rw [okm_nI hn hw, ← gfl_n hn hw, show n = i by omega, hi2, h67]; rfl) d_RT_isGood_75
    refine lv_iload_n hx hb d_RT_isGood_34 rfl (lv_at hl 1 rfl) ?_
    refine lv_iload_n hx hb d_RT_isGood_35 rfl (lv_at hl 3 rfl) ?_
    refine xc_i (wc := []) (wr := [(aX, .inr (5, [.ref aR, .ref aM, .ref aG, .ref aL, .ref aU, .ref aP, .int (nI ct)])), (aR, .inr (3, [.ref aO, .int (nI n)])), (aO, .inl (cI, 6, .inl f))]) (gG_ok tF) hK hP hD hS hA hg [] [0, 1, 2] rfl rfl (by decide) (by decide) (by decide) (fun h1 h2 => va_runS (As := [.int (nI w), .int (nI (i + 1))]) (rest := []) ⟨hx, hb, hml, hown, hts⟩ (c_hasInMask w i (by omega) (by omega) _) (va_cwS 2 hts (gS k_188 k_189 k_1 k_190) rfl rfl rfl (by decide +kernel) ⟨Nat.le_of_ble_eq_true rfl, Nat.le_of_ble_eq_true rfl⟩) ⟨h1, h2⟩ rfl rfl hl.1 rfl (lv_room (Nat.le_of_ble_eq_true rfl)) d_RT_isGood_36 ⟨Nat.zero_le _, Nat.zero_le _⟩) (fun r u H locs hq9 hP hD hS => ?_)
    obtain rfl := hq9
    have hP : va_P D vwCl [(aX, .inr (5, [.ref aR, .ref aM, .ref aG, .ref aL, .ref aU, .ref aP, .int (nI ct)])), (aR, .inr (3, [.ref aO, .int (nI n)])), (aO, .inl (cI, 6, .inl f))] H := hP
    have hD : va_D A [(aX, .inr (5, [.ref aR, .ref aM, .ref aG, .ref aL, .ref aU, .ref aP, .int (nI ct)])), (aR, .inr (3, [.ref aO, .int (nI n)])), (aO, .inl (cI, 6, .inl f))] := hD
    refine xb_neB (x := mb w i) hx hb 48 d_RT_isGood_39 rfl (fun h39 => ?_) (fun h39 => ?_)
    · have hbit : (w >>> i) % 2 = 1 := eq_of_beq h39
      refine lv_iload_n hx hb d_RT_isGood_48 rfl (lv_at hl 2 rfl) ?_
      refine lv_iconst (v := nI 2) hx hb d_RT_isGood_49 (by decide) ?_
      refine lv_irem hx hb d_RT_isGood_50 (by decide) ?_
      refine xn_i (y := nI ((str w i) % 2)) (pk_rem (by have := str_le w i; omega) (by decide) (by decide)) ?_
      refine xb_eq hx hb 56 (by omega) d_RT_isGood_51 rfl (fun h51 => ?_) (fun h51 => ?_)
      · skip
        refine lv_iconst (v := nI 0) hx hb d_RT_isGood_56 (by decide) ?_
        refine lv_istore_n hx hb d_RT_isGood_57 rfl hl (by decide) rfl (fun ls hl => ?_)
        have hl : lv_has ls 4 [(2, .int (nI 0)), (0, .ref aX), (1, .int (nI w)), (3, .int (nI (i + 1)))] := hl
        refine lv_iinc (k := 3) (v := nI (i + 1 + 1)) hx hb d_RT_isGood_58 hl rfl (xi_1 _) (by decide) rfl (fun ls hl => ?_)
        have hl : lv_has ls 4 [(3, .int (nI (i + 1 + 1))), (2, .int (nI 0)), (0, .ref aX), (1, .int (nI w))] := hl
        refine lv_goto (tgt := 23) hx hb d_RT_isGood_61 rfl ?_
        have es : str w (i + 1) = 0 := by rw [str_s, if_pos hbit]
        have eg : gfl w (i + 1) = true := by rw [gfl_s, if_pos hbit, hi2, h51]; rfl
        have hl : lv_has ls 4 [(0, .ref aX), (1, .int (nI w)), (2, .int (nI (str w (i + 1)))), (3, .int (nI ((i + 1) + 1)))] := lv_sub hl [2, 3, 1, 0] (by rw [es] <;> rfl)
        have hP := hP.sub (ws' := [(aX, .inr (5, [.ref aR, .ref aM, .ref aG, .ref aL, .ref aU, .ref aP, .int (nI ct)])), (aR, .inr (3, [.ref aO, .int (nI n)])), (aO, .inl (cI, 6, .inl f))]) [0, 1, 2] rfl
        have hD := hD.sub (ws' := [(aX, .inr (5, [.ref aR, .ref aM, .ref aG, .ref aL, .ref aU, .ref aP, .int (nI ct)])), (aR, .inr (3, [.ref aO, .int (nI n)])), (aO, .inl (cI, 6, .inl f))]) [0, 1, 2] (by decide) rfl
        exact ih (i + 1) _ _ _ (by omega) ⟨by omega, eg, hl, hP, hD, hS⟩
      refine lv_iconst (v := nI 0) hx hb d_RT_isGood_54 (by decide) ?_
      exact xr_i hx hb hrt hlk rfl hP hD hS () [0, 1, 2] (by decide) rfl (by rw [okm_nI hn hw, ← gfl_n hn hw, gfl_no (q := n) (show gfl w (i + 1) = false by rw [gfl_s, if_pos hbit, hi2]; exact xg_c h51) (by omega)]; rfl) d_RT_isGood_55
    have hbit : ¬ (w >>> i) % 2 = 1 := fun h => by unfold mb at h39; rw [h] at h39; cases h39
    refine lv_iinc (k := 2) (v := nI (str w i + 1)) hx hb d_RT_isGood_42 hl rfl (xi_1 _) (by decide) rfl (fun ls hl => ?_)
    have hl : lv_has ls 4 [(2, .int (nI (str w i + 1))), (0, .ref aX), (1, .int (nI w)), (3, .int (nI (i + 1)))] := hl
    refine lv_goto (tgt := 58) hx hb d_RT_isGood_45 rfl ?_
    refine lv_iinc (k := 3) (v := nI (i + 1 + 1)) hx hb d_RT_isGood_58 hl rfl (xi_1 _) (by decide) rfl (fun ls hl => ?_)
    have hl : lv_has ls 4 [(3, .int (nI (i + 1 + 1))), (2, .int (nI (str w i + 1))), (0, .ref aX), (1, .int (nI w))] := hl
    refine lv_goto (tgt := 23) hx hb d_RT_isGood_61 rfl ?_
    have es : str w (i + 1) = str w i + 1 := by rw [str_s, if_neg hbit]
    have eg : gfl w (i + 1) = true := by rw [gfl_s, if_neg hbit]; exact hi2
    have hl : lv_has ls 4 [(0, .ref aX), (1, .int (nI w)), (2, .int (nI (str w (i + 1)))), (3, .int (nI ((i + 1) + 1)))] := lv_sub hl [2, 3, 1, 0] (by rw [es] <;> rfl)
    have hP := hP.sub (ws' := [(aX, .inr (5, [.ref aR, .ref aM, .ref aG, .ref aL, .ref aU, .ref aP, .int (nI ct)])), (aR, .inr (3, [.ref aO, .int (nI n)])), (aO, .inl (cI, 6, .inl f))]) [0, 1, 2] rfl
    have hD := hD.sub (ws' := [(aX, .inr (5, [.ref aR, .ref aM, .ref aG, .ref aL, .ref aU, .ref aP, .int (nI ct)])), (aR, .inr (3, [.ref aO, .int (nI n)])), (aO, .inl (cI, 6, .inl f))]) [0, 1, 2] (by decide) rfl
    exact ih (i + 1) _ _ _ (by omega) ⟨by omega, eg, hl, hP, hD, hS⟩
  refine lv_iconst (v := nI 0) hx hb d_RT_isGood_17 (by decide) ?_
  exact xr_i hx hb hrt hlk rfl hP hD hS () [0, 1, 2] (by decide) rfl (by unfold okm; first | rw [if_pos h1]; rfl | rw [if_neg h1, if_pos (Int32.not_lt.mp h14)]; rfl) d_RT_isGood_18
set_option maxHeartbeats 4000000 in
set_option maxRecDepth 100000 in
theorem c_RT_touchHas (aX : Nat) (aR : Nat) (aM : Nat) (aG : Nat) (aL : Nat) (aU : Nat) (aP : Nat) (ct : Nat) (tq : Nat → Int32) (x : Int32) (hct : ct ≤ 30) : CtI l y_RT_touchHas (w_RT_touchHas) ({ frames := 0, cells := 0, slots := 0, locals := 0 }) D vwCl (TYs cI cZ cJ cG) (gG tF) [.ref aX, .int x] [(aX, .inr (5, [.ref aR, .ref aM, .ref aG, .ref aL, .ref aU, .ref aP, .int (nI ct)])), (aU, .inl (cI, 30, .inl tq))] 0 0 (fun _ : Unit => [(aX, .inr (5, [.ref aR, .ref aM, .ref aG, .ref aL, .ref aU, .ref aP, .int (nI ct)])), (aU, .inl (cI, 30, .inl tq))]) (fun (r : Int32) (_ : Unit) => r = nI ((thas tq ct x).toNat)) := by
  refine CtI.of (cc := b_RT_touchHas) (maxL := 3) (ret := (some .boolean)) (by decide) rfl (Nat.le_of_ble_eq_true rfl) ?_
  intro p e s m args below meth c A ls hF hA hP hK hD hg hS hl
  obtain ⟨hx, hb, hrt, hlk, hml, hown, hts, hnm⟩ := hF
  have hown : s.vm.findClass R_RT = some m.cls := hown
  have hl : lv_has ls 3 [(0, .ref aX), (1, .int x)] := hl
  refine lv_iconst (v := nI 0) hx hb d_RT_touchHas_0 (by decide) ?_
  refine lv_istore_n hx hb d_RT_touchHas_1 rfl hl (by decide) rfl (fun ls hl => ?_)
  have hl : lv_has ls 3 [(2, .int (nI 0)), (0, .ref aX), (1, .int x)] := hl
  have hl : lv_has ls 3 [(0, .ref aX), (1, .int x), (2, .int (nI 0))] := lv_sub hl [1, 2, 0] rfl
  have hP := hP.sub (ws' := [(aX, .inr (5, [.ref aR, .ref aM, .ref aG, .ref aL, .ref aU, .ref aP, .int (nI ct)])), (aU, .inl (cI, 30, .inl tq))]) [0, 1] rfl
  have hD := hD.sub (ws' := [(aX, .inr (5, [.ref aR, .ref aM, .ref aG, .ref aL, .ref aU, .ref aP, .int (nI ct)])), (aU, .inl (cI, 30, .inl tq))]) [0, 1] (by decide) rfl
  refine xn_pc (pc2 := 2) rfl ?_
  refine xl_1 (fun (j : Nat) ls H locs => (j ≤ ct) ∧ (∀ i, i < j → tq i ≠ x) ∧ lv_has ls 3 [(0, .ref aX), (1, .int x), (2, .int (nI j))] ∧ va_P D vwCl [(aX, .inr (5, [.ref aR, .ref aM, .ref aG, .ref aL, .ref aU, .ref aP, .int (nI ct)])), (aU, .inl (cI, 30, .inl tq))] H ∧ va_D A [(aX, .inr (5, [.ref aR, .ref aM, .ref aG, .ref aL, .ref aU, .ref aP, .int (nI ct)])), (aU, .inl (cI, 30, .inl tq))] ∧ va_S A s.heap H locs) (fun (j : Nat) => ct - j) (fun j ls H locs hI ih => ?_) 0 ⟨Nat.zero_le ct, fun i hi => absurd hi (Nat.not_lt_zero i), hl, hP, hD, hS⟩
  obtain ⟨hi1, hi2, hl, hP, hD, hS⟩ := hI
  refine lv_iload_n hx hb d_RT_touchHas_2 rfl (lv_at hl 2 rfl) ?_
  refine lv_aload_n hx hb d_RT_touchHas_3 rfl (lv_at hl 0 rfl) ?_
  refine va_get (D := D) (ci := 5) (v := .int (nI ct)) (C := R_RT) (T := F_RT) (N := 7) hx hb hts in_RT hown hK hP 0 rfl rfl 6 (by decide) (hts _ (List.mem_cons_of_mem _ k_152)) (fun _ h9 => h9) rfl d_RT_touchHas_4 ?_
  refine xb_cge hx hb 28 (by omega) (by omega) d_RT_touchHas_7 rfl (fun h7 => ?_) (fun h7 => ?_)
  · skip
    refine lv_iconst (v := nI 0) hx hb d_RT_touchHas_28 (by decide) ?_
    exact xr_i hx hb hrt hlk rfl hP hD hS () [0, 1] (by decide) rfl (xp_f (fun h => by obtain ⟨i, h1, h2⟩ := of_decide_eq_true h; exact hi2 i (by omega) h2)) d_RT_touchHas_29
  refine lv_aload_n hx hb d_RT_touchHas_10 rfl (lv_at hl 0 rfl) ?_
  refine va_get (D := D) (ci := 5) (v := .ref aU) (C := R_RT) (T := F_RT) (N := 7) hx hb hts in_RT hown hK hP 0 rfl rfl 4 (by decide) (hts _ (List.mem_cons_of_mem _ k_150)) (fun _ h9 => h9) rfl d_RT_touchHas_11 ?_
  refine lv_iload_n hx hb d_RT_touchHas_14 rfl (lv_at hl 2 rfl) ?_
  refine xa_iald (v := tq j) hx hb hK hP 1 0 rfl rfl (by omega) (by decide) rfl d_RT_touchHas_15 ?_
  refine lv_iload_n hx hb d_RT_touchHas_16 rfl (lv_at hl 1 rfl) ?_
  refine lv_icmp_ne (tgt := 22) hx hb d_RT_touchHas_17 rfl (fun h17 => ?_) (fun h17 => ?_)
  · skip
    refine lv_iinc (k := 2) (v := nI (j + 1)) hx hb d_RT_touchHas_22 hl rfl (xi_1 _) (by decide) rfl (fun ls hl => ?_)
    have hl : lv_has ls 3 [(2, .int (nI (j + 1))), (0, .ref aX), (1, .int x)] := hl
    refine lv_goto (tgt := 2) hx hb d_RT_touchHas_25 rfl ?_
    have hl : lv_has ls 3 [(0, .ref aX), (1, .int x), (2, .int (nI (j + 1)))] := lv_sub hl [1, 2, 0] rfl
    have hP := hP.sub (ws' := [(aX, .inr (5, [.ref aR, .ref aM, .ref aG, .ref aL, .ref aU, .ref aP, .int (nI ct)])), (aU, .inl (cI, 30, .inl tq))]) [0, 1] rfl
    have hD := hD.sub (ws' := [(aX, .inr (5, [.ref aR, .ref aM, .ref aG, .ref aL, .ref aU, .ref aP, .int (nI ct)])), (aU, .inl (cI, 30, .inl tq))]) [0, 1] (by decide) rfl
    exact ih (j + 1) _ _ _ (by omega) ⟨h7, lt_s hi2 h17, hl, hP, hD, hS⟩
  refine lv_iconst (v := nI 1) hx hb d_RT_touchHas_20 (by decide) ?_
  exact xr_i hx hb hrt hlk rfl hP hD hS () [0, 1] (by decide) rfl (xp_t (decide_eq_true ⟨j, h7, h17⟩)) d_RT_touchHas_21
set_option maxHeartbeats 4000000 in
set_option maxRecDepth 100000 in
theorem c_RT_goToRow (aX : Nat) (aR : Nat) (aM : Nat) (aG : Nat) (aL : Nat) (aU : Nat) (aP : Nat) (ct : Nat) (aO : Nat) (aK : Nat) (n : Nat) (f : Nat → Int32) (mk : Nat → Int32) (b1 : Int32) (b2 : Int32) (ln : Nat) (tq : Nat → Int32) (mt : Nat → Nat → Nat) (tt : Nat → Nat) (i : Nat) (hn : nb n) (hct : ct ≤ 30) (hln : 0 < ct → 1 ≤ ln) (hl24 : ln ≤ 24) (hi : i ≤ ct * ln) (hlt : ∀ a, a ≤ ct * ln → Rw n ln mt tt a < fa n) (htt : ∀ a, a < ct → tq a = nI (tt a) ∧ tt a ≤ 2 ∧ gmw n ln mk b1 b2 (tt a) (mt (tt a))) : CtV l y_RT_goToRow (w_RT_goToRow) ({ frames := 2, cells := 0, slots := 0, locals := 48 }) D vwCl (TYs cI cZ cJ cG) (gG tF) [.ref aX, .int (nI i)] [(aX, .inr (5, [.ref aR, .ref aM, .ref aG, .ref aL, .ref aU, .ref aP, .int (nI ct)])), (aR, .inr (3, [.ref aO, .int (nI n)])), (aO, .inl (cI, 6, .inl f)), (aM, .inr (1, [.ref aK, .int b1, .int b2, .int (nI ln)])), (aK, .inl (cI, 24, .inl mk)), (aU, .inl (cI, 30, .inl tq))] 0 0 (fun f2 : (Nat → Int32) => [(aX, .inr (5, [.ref aR, .ref aM, .ref aG, .ref aL, .ref aU, .ref aP, .int (nI ct)])), (aR, .inr (3, [.ref aO, .int (nI n)])), (aO, .inl (cI, 6, .inl f2)), (aM, .inr (1, [.ref aK, .int b1, .int b2, .int (nI ln)])), (aK, .inl (cI, 24, .inl mk)), (aU, .inl (cI, 30, .inl tq))]) (fun f2 : (Nat → Int32) => hold n (Rw n ln mt tt i) f2) := by
  refine CtV.of (cc := b_RT_goToRow) (maxL := 5) (ret := none) (by decide) rfl (Nat.le_of_ble_eq_true rfl) ?_
  intro p e s m args below meth c A ls hF hA hP hK hD hg hS hl
  obtain ⟨hx, hb, hrt, hlk, hml, hown, hts, hnm⟩ := hF
  have hown : s.vm.findClass R_RT = some m.cls := hown
  have hl : lv_has ls 5 [(0, .ref aX), (1, .int (nI i))] := hl
  have hn4 : 4 ≤ n := hn.1
  have hn6 : n ≤ 6 := hn.2
  have hfa : fa n ≤ 720 := fa_le hn
  have hcl : ct * ln ≤ 720 := by have := Nat.mul_le_mul hct hl24; omega
  refine lv_aload_n hx hb d_RT_goToRow_0 rfl (lv_at hl 0 rfl) ?_
  refine va_get (D := D) (ci := 5) (v := .ref aR) (C := R_RT) (T := F_RT) (N := 7) hx hb hts in_RT hown hK hP 0 rfl rfl 0 (by decide) (hts _ (List.mem_cons_of_mem _ k_146)) (fun _ h9 => h9) rfl d_RT_goToRow_1 ?_
  refine lv_iconst (v := nI 0) hx hb d_RT_goToRow_4 (by decide) ?_
  refine xc_v (wc := [(aR, .inr (3, [.ref aO, .int (nI n)])), (aO, .inl (cI, 6, .inl f))]) (wr := [(aX, .inr (5, [.ref aR, .ref aM, .ref aG, .ref aL, .ref aU, .ref aP, .int (nI ct)])), (aM, .inr (1, [.ref aK, .int b1, .int b2, .int (nI ln)])), (aK, .inl (cI, 24, .inl mk)), (aU, .inl (cI, 30, .inl tq))]) (gG_ok tF) hK hP hD hS hA hg [1, 2] [0, 3, 4, 5] rfl rfl (by decide) (by decide) (by decide) (fun h1 h2 => va_runV (As := [.int (nI 0)]) (rest := []) ⟨hx, hb, hml, hown, hts⟩ (c_Row_becomeRank aR aO n 0 f hn (fa_pos n) _) (cwV 1 hts (gV k_332 k_220 k_221 k_2 k_222) rfl rfl rfl (by decide +kernel) ⟨Nat.le_of_ble_eq_true rfl, Nat.le_of_ble_eq_true rfl⟩) ⟨h1, va_recv (q0 := 1) (ci := 3) hK hP rfl rfl, h2⟩ rfl rfl hl.1 rfl (lv_room (Nat.le_of_ble_eq_true rfl)) d_RT_goToRow_5 ⟨Nat.zero_le _, Nat.zero_le _⟩) (fun f2_ H locs hq9 hP hD hS => ?_)
  have hw5 := hq9
  have hP : va_P D vwCl [(aX, .inr (5, [.ref aR, .ref aM, .ref aG, .ref aL, .ref aU, .ref aP, .int (nI ct)])), (aM, .inr (1, [.ref aK, .int b1, .int b2, .int (nI ln)])), (aK, .inl (cI, 24, .inl mk)), (aU, .inl (cI, 30, .inl tq)), (aR, .inr (3, [.ref aO, .int (nI n)])), (aO, .inl (cI, 6, .inl f2_))] H := hP
  have hD : va_D A [(aX, .inr (5, [.ref aR, .ref aM, .ref aG, .ref aL, .ref aU, .ref aP, .int (nI ct)])), (aM, .inr (1, [.ref aK, .int b1, .int b2, .int (nI ln)])), (aK, .inl (cI, 24, .inl mk)), (aU, .inl (cI, 30, .inl tq)), (aR, .inr (3, [.ref aO, .int (nI n)])), (aO, .inl (cI, 6, .inl f2_))] := hD
  refine lv_iconst (v := nI 0) hx hb d_RT_goToRow_8 (by decide) ?_
  refine lv_istore_n hx hb d_RT_goToRow_9 rfl hl (by decide) rfl (fun ls hl => ?_)
  have hl : lv_has ls 5 [(2, .int (nI 0)), (0, .ref aX), (1, .int (nI i))] := hl
  refine lv_iconst (v := nI 0) hx hb d_RT_goToRow_10 (by decide) ?_
  refine lv_istore_n hx hb d_RT_goToRow_11 rfl hl (by decide) rfl (fun ls hl => ?_)
  have hl : lv_has ls 5 [(3, .int (nI 0)), (2, .int (nI 0)), (0, .ref aX), (1, .int (nI i))] := hl
  have hl : lv_has ls 5 [(0, .ref aX), (1, .int (nI i)), (2, .int (nI 0)), (3, .int (nI 0))] := lv_sub hl [2, 3, 1, 0] rfl
  have hP := hP.sub (ws' := [(aX, .inr (5, [.ref aR, .ref aM, .ref aG, .ref aL, .ref aU, .ref aP, .int (nI ct)])), (aR, .inr (3, [.ref aO, .int (nI n)])), (aO, .inl (cI, 6, .inl f2_)), (aM, .inr (1, [.ref aK, .int b1, .int b2, .int (nI ln)])), (aK, .inl (cI, 24, .inl mk)), (aU, .inl (cI, 30, .inl tq))]) [0, 4, 5, 1, 2, 3] rfl
  have hD := hD.sub (ws' := [(aX, .inr (5, [.ref aR, .ref aM, .ref aG, .ref aL, .ref aU, .ref aP, .int (nI ct)])), (aR, .inr (3, [.ref aO, .int (nI n)])), (aO, .inl (cI, 6, .inl f2_)), (aM, .inr (1, [.ref aK, .int b1, .int b2, .int (nI ln)])), (aK, .inl (cI, 24, .inl mk)), (aU, .inl (cI, 30, .inl tq))]) [0, 4, 5, 1, 2, 3] (by decide) rfl
  refine xn_pc (pc2 := 12) rfl ?_
  refine xl_3 (fun (a : Nat) (d : Nat) (g : Nat → Int32) ls H locs => (a ≤ ct) ∧ (d ≤ i) ∧ (d = a * ln ∨ d = i) ∧ (hold n (Rw n ln mt tt d) g) ∧ lv_has ls 5 [(0, .ref aX), (1, .int (nI i)), (2, .int (nI d)), (3, .int (nI a))] ∧ va_P D vwCl [(aX, .inr (5, [.ref aR, .ref aM, .ref aG, .ref aL, .ref aU, .ref aP, .int (nI ct)])), (aR, .inr (3, [.ref aO, .int (nI n)])), (aO, .inl (cI, 6, .inl g)), (aM, .inr (1, [.ref aK, .int b1, .int b2, .int (nI ln)])), (aK, .inl (cI, 24, .inl mk)), (aU, .inl (cI, 30, .inl tq))] H ∧ va_D A [(aX, .inr (5, [.ref aR, .ref aM, .ref aG, .ref aL, .ref aU, .ref aP, .int (nI ct)])), (aR, .inr (3, [.ref aO, .int (nI n)])), (aO, .inl (cI, 6, .inl g)), (aM, .inr (1, [.ref aK, .int b1, .int b2, .int (nI ln)])), (aK, .inl (cI, 24, .inl mk)), (aU, .inl (cI, 30, .inl tq))] ∧ va_S A s.heap H locs) (fun (a : Nat) (d : Nat) (g : Nat → Int32) => ct - a) (fun a d g ls H locs hI ih => ?_) 0 0 f2_ ⟨Nat.zero_le ct, Nat.zero_le i, Or.inl (by omega), hw5, hl, hP, hD, hS⟩
  obtain ⟨hi1, hi2, hi3, hi4, hl, hP, hD, hS⟩ := hI
  refine lv_iload_n hx hb d_RT_goToRow_12 rfl (lv_at hl 3 rfl) ?_
  refine lv_aload_n hx hb d_RT_goToRow_13 rfl (lv_at hl 0 rfl) ?_
  refine va_get (D := D) (ci := 5) (v := .int (nI ct)) (C := R_RT) (T := F_RT) (N := 7) hx hb hts in_RT hown hK hP 0 rfl rfl 6 (by decide) (hts _ (List.mem_cons_of_mem _ k_152)) (fun _ h9 => h9) rfl d_RT_goToRow_14 ?_
  refine xb_cge hx hb 82 (by omega) (by omega) d_RT_goToRow_17 rfl (fun h17 => ?_) (fun h17 => ?_)
  · skip
    have ed : d = i := by
      rcases hi3 with h9 | h9
      · first | omega | (rw [show a = ct by omega] at h9; omega)
      · exact h9
    exact xr_v hx hb hrt hlk hP hD hS g [0, 1, 2, 3, 4, 5] (by decide) rfl (by rw [← ed]; exact hi4) d_RT_goToRow_82
  refine lv_iload_n hx hb d_RT_goToRow_20 rfl (lv_at hl 2 rfl) ?_
  refine lv_iload_n hx hb d_RT_goToRow_21 rfl (lv_at hl 1 rfl) ?_
  refine xb_cge hx hb 82 (by omega) (by omega) d_RT_goToRow_22 rfl (fun h22 => ?_) (fun h22 => ?_)
  · skip
    have ed : d = i := by
      rcases hi3 with h9 | h9
      · first | omega | (rw [show a = ct by omega] at h9; omega)
      · exact h9
    exact xr_v hx hb hrt hlk hP hD hS g [0, 1, 2, 3, 4, 5] (by decide) rfl (by rw [← ed]; exact hi4) d_RT_goToRow_82
  refine lv_iconst (v := nI 0) hx hb d_RT_goToRow_25 (by decide) ?_
  refine lv_istore hx hb d_RT_goToRow_26 hl (by decide) rfl (fun ls hl => ?_)
  have hl : lv_has ls 5 [(4, .int (nI 0)), (0, .ref aX), (1, .int (nI i)), (2, .int (nI d)), (3, .int (nI a))] := hl
  have hl : lv_has ls 5 [(0, .ref aX), (1, .int (nI i)), (2, .int (nI d)), (3, .int (nI a)), (4, .int (nI 0))] := lv_sub hl [1, 2, 3, 4, 0] rfl
  have hP := hP.sub (ws' := [(aX, .inr (5, [.ref aR, .ref aM, .ref aG, .ref aL, .ref aU, .ref aP, .int (nI ct)])), (aR, .inr (3, [.ref aO, .int (nI n)])), (aO, .inl (cI, 6, .inl g)), (aM, .inr (1, [.ref aK, .int b1, .int b2, .int (nI ln)])), (aK, .inl (cI, 24, .inl mk)), (aU, .inl (cI, 30, .inl tq))]) [0, 1, 2, 3, 4, 5] rfl
  have hD := hD.sub (ws' := [(aX, .inr (5, [.ref aR, .ref aM, .ref aG, .ref aL, .ref aU, .ref aP, .int (nI ct)])), (aR, .inr (3, [.ref aO, .int (nI n)])), (aO, .inl (cI, 6, .inl g)), (aM, .inr (1, [.ref aK, .int b1, .int b2, .int (nI ln)])), (aK, .inl (cI, 24, .inl mk)), (aU, .inl (cI, 30, .inl tq))]) [0, 1, 2, 3, 4, 5] (by decide) rfl
  refine xn_pc (pc2 := 28) rfl ?_
  refine xl_3 (fun (j : Nat) (e : Nat) (g2 : Nat → Int32) ls H locs => (j ≤ ln) ∧ (e ≤ i) ∧ (e = a * ln + j) ∧ (hold n (Rw n ln mt tt e) g2) ∧ lv_has ls 5 [(0, .ref aX), (1, .int (nI i)), (2, .int (nI e)), (3, .int (nI a)), (4, .int (nI j))] ∧ va_P D vwCl [(aX, .inr (5, [.ref aR, .ref aM, .ref aG, .ref aL, .ref aU, .ref aP, .int (nI ct)])), (aR, .inr (3, [.ref aO, .int (nI n)])), (aO, .inl (cI, 6, .inl g2)), (aM, .inr (1, [.ref aK, .int b1, .int b2, .int (nI ln)])), (aK, .inl (cI, 24, .inl mk)), (aU, .inl (cI, 30, .inl tq))] H ∧ va_D A [(aX, .inr (5, [.ref aR, .ref aM, .ref aG, .ref aL, .ref aU, .ref aP, .int (nI ct)])), (aR, .inr (3, [.ref aO, .int (nI n)])), (aO, .inl (cI, 6, .inl g2)), (aM, .inr (1, [.ref aK, .int b1, .int b2, .int (nI ln)])), (aK, .inl (cI, 24, .inl mk)), (aU, .inl (cI, 30, .inl tq))] ∧ va_S A s.heap H locs) (fun (j : Nat) (e : Nat) (g2 : Nat → Int32) => ln - j) (fun j e g2 ls H locs hI ih1 => ?_) 0 d g ⟨Nat.zero_le ln, hi2, by omega, hi4, hl, hP, hD, hS⟩
  obtain ⟨hj1, hj2, hj3, hj4, hl, hP, hD, hS⟩ := hI
  refine lv_iload hx hb d_RT_goToRow_28 (lv_at hl 4 rfl) ?_
  refine lv_aload_n hx hb d_RT_goToRow_30 rfl (lv_at hl 0 rfl) ?_
  refine va_get (D := D) (ci := 5) (v := .ref aM) (C := R_RT) (T := F_RT) (N := 7) hx hb hts in_RT hown hK hP 0 rfl rfl 1 (by decide) (hts _ (List.mem_cons_of_mem _ k_147)) (fun _ h9 => h9) rfl d_RT_goToRow_31 ?_
  refine xc_i (wc := [(aM, .inr (1, [.ref aK, .int b1, .int b2, .int (nI ln)])), (aK, .inl (cI, 24, .inl mk))]) (wr := [(aX, .inr (5, [.ref aR, .ref aM, .ref aG, .ref aL, .ref aU, .ref aP, .int (nI ct)])), (aR, .inr (3, [.ref aO, .int (nI n)])), (aO, .inl (cI, 6, .inl g2)), (aU, .inl (cI, 30, .inl tq))]) (gG_ok tF) hK hP hD hS hA hg [3, 4] [0, 1, 2, 5] rfl rfl (by decide) (by decide) (by decide) (fun h1 h2 => va_runV (As := []) (rest := [.int (nI j)]) ⟨hx, hb, hml, hown, hts⟩ (c_Met_leadLength aM aK mk b1 b2 ln  _) (cwV 0 hts (gV k_318 k_292 k_293 k_3 k_294) rfl rfl rfl (by decide +kernel) ⟨Nat.le_of_ble_eq_true rfl, Nat.le_of_ble_eq_true rfl⟩) ⟨h1, va_recv (q0 := 3) (ci := 1) hK hP rfl rfl, h2⟩ rfl rfl hl.1 rfl (lv_room (Nat.le_of_ble_eq_true rfl)) d_RT_goToRow_34 ⟨Nat.zero_le _, Nat.zero_le _⟩) (fun r u H locs hq9 hP hD hS => ?_)
  obtain rfl := hq9
  have hP : va_P D vwCl [(aX, .inr (5, [.ref aR, .ref aM, .ref aG, .ref aL, .ref aU, .ref aP, .int (nI ct)])), (aR, .inr (3, [.ref aO, .int (nI n)])), (aO, .inl (cI, 6, .inl g2)), (aU, .inl (cI, 30, .inl tq)), (aM, .inr (1, [.ref aK, .int b1, .int b2, .int (nI ln)])), (aK, .inl (cI, 24, .inl mk))] H := hP
  have hD : va_D A [(aX, .inr (5, [.ref aR, .ref aM, .ref aG, .ref aL, .ref aU, .ref aP, .int (nI ct)])), (aR, .inr (3, [.ref aO, .int (nI n)])), (aO, .inl (cI, 6, .inl g2)), (aU, .inl (cI, 30, .inl tq)), (aM, .inr (1, [.ref aK, .int b1, .int b2, .int (nI ln)])), (aK, .inl (cI, 24, .inl mk))] := hD
  refine xb_cge hx hb 76 (by omega) (by omega) d_RT_goToRow_37 rfl (fun h37 => ?_) (fun h37 => ?_)
  · skip
    have hj5 : e = (a + 1) * ln ∨ e = i := by rw [Nat.succ_mul]; omega
    refine lv_iinc (k := 3) (v := nI (a + 1)) hx hb d_RT_goToRow_76 hl rfl (xi_1 _) (by decide) rfl (fun ls hl => ?_)
    have hl : lv_has ls 5 [(3, .int (nI (a + 1))), (0, .ref aX), (1, .int (nI i)), (2, .int (nI e)), (4, .int (nI j))] := hl
    refine lv_goto (tgt := 12) hx hb d_RT_goToRow_79 rfl ?_
    have hl : lv_has ls 5 [(0, .ref aX), (1, .int (nI i)), (2, .int (nI e)), (3, .int (nI (a + 1)))] := lv_sub hl [1, 2, 3, 0] rfl
    have hP := hP.sub (ws' := [(aX, .inr (5, [.ref aR, .ref aM, .ref aG, .ref aL, .ref aU, .ref aP, .int (nI ct)])), (aR, .inr (3, [.ref aO, .int (nI n)])), (aO, .inl (cI, 6, .inl g2)), (aM, .inr (1, [.ref aK, .int b1, .int b2, .int (nI ln)])), (aK, .inl (cI, 24, .inl mk)), (aU, .inl (cI, 30, .inl tq))]) [0, 1, 2, 4, 5, 3] rfl
    have hD := hD.sub (ws' := [(aX, .inr (5, [.ref aR, .ref aM, .ref aG, .ref aL, .ref aU, .ref aP, .int (nI ct)])), (aR, .inr (3, [.ref aO, .int (nI n)])), (aO, .inl (cI, 6, .inl g2)), (aM, .inr (1, [.ref aK, .int b1, .int b2, .int (nI ln)])), (aK, .inl (cI, 24, .inl mk)), (aU, .inl (cI, 30, .inl tq))]) [0, 1, 2, 4, 5, 3] (by decide) rfl
    exact ih (a + 1) e g2 _ _ _ (by omega) ⟨h17, hj2, hj5, hj4, hl, hP, hD, hS⟩
  refine lv_iload_n hx hb d_RT_goToRow_40 rfl (lv_at hl 2 rfl) ?_
  refine lv_iload_n hx hb d_RT_goToRow_41 rfl (lv_at hl 1 rfl) ?_
  refine xb_cge hx hb 76 (by omega) (by omega) d_RT_goToRow_42 rfl (fun h42 => ?_) (fun h42 => ?_)
  · skip
    have hj5 : e = (a + 1) * ln ∨ e = i := by rw [Nat.succ_mul]; omega
    refine lv_iinc (k := 3) (v := nI (a + 1)) hx hb d_RT_goToRow_76 hl rfl (xi_1 _) (by decide) rfl (fun ls hl => ?_)
    have hl : lv_has ls 5 [(3, .int (nI (a + 1))), (0, .ref aX), (1, .int (nI i)), (2, .int (nI e)), (4, .int (nI j))] := hl
    refine lv_goto (tgt := 12) hx hb d_RT_goToRow_79 rfl ?_
    have hl : lv_has ls 5 [(0, .ref aX), (1, .int (nI i)), (2, .int (nI e)), (3, .int (nI (a + 1)))] := lv_sub hl [1, 2, 3, 0] rfl
    have hP := hP.sub (ws' := [(aX, .inr (5, [.ref aR, .ref aM, .ref aG, .ref aL, .ref aU, .ref aP, .int (nI ct)])), (aR, .inr (3, [.ref aO, .int (nI n)])), (aO, .inl (cI, 6, .inl g2)), (aM, .inr (1, [.ref aK, .int b1, .int b2, .int (nI ln)])), (aK, .inl (cI, 24, .inl mk)), (aU, .inl (cI, 30, .inl tq))]) [0, 1, 2, 4, 5, 3] rfl
    have hD := hD.sub (ws' := [(aX, .inr (5, [.ref aR, .ref aM, .ref aG, .ref aL, .ref aU, .ref aP, .int (nI ct)])), (aR, .inr (3, [.ref aO, .int (nI n)])), (aO, .inl (cI, 6, .inl g2)), (aM, .inr (1, [.ref aK, .int b1, .int b2, .int (nI ln)])), (aK, .inl (cI, 24, .inl mk)), (aU, .inl (cI, 30, .inl tq))]) [0, 1, 2, 4, 5, 3] (by decide) rfl
    exact ih (a + 1) e g2 _ _ _ (by omega) ⟨h17, hj2, hj5, hj4, hl, hP, hD, hS⟩
  have hal : a * ln + ln ≤ ct * ln := by rw [← Nat.succ_mul]; exact Nat.mul_le_mul_right ln h17
  have hq1 : (a * ln + j) / ln = a := by rw [Nat.mul_comm, Nat.mul_add_div (by omega), Nat.div_eq_of_lt (by omega)]; omega
  have hq2 : (a * ln + j) % ln = j := by rw [Nat.mul_comm, Nat.mul_add_mod, Nat.mod_eq_of_lt (by omega)]
  refine lv_aload_n hx hb d_RT_goToRow_45 rfl (lv_at hl 0 rfl) ?_
  refine va_get (D := D) (ci := 5) (v := .ref aR) (C := R_RT) (T := F_RT) (N := 7) hx hb hts in_RT hown hK hP 0 rfl rfl 0 (by decide) (hts _ (List.mem_cons_of_mem _ k_146)) (fun _ h9 => h9) rfl d_RT_goToRow_46 ?_
  refine lv_aload_n hx hb d_RT_goToRow_49 rfl (lv_at hl 0 rfl) ?_
  refine va_get (D := D) (ci := 5) (v := .ref aM) (C := R_RT) (T := F_RT) (N := 7) hx hb hts in_RT hown hK hP 0 rfl rfl 1 (by decide) (hts _ (List.mem_cons_of_mem _ k_147)) (fun _ h9 => h9) rfl d_RT_goToRow_50 ?_
  refine lv_aload_n hx hb d_RT_goToRow_53 rfl (lv_at hl 0 rfl) ?_
  refine va_get (D := D) (ci := 5) (v := .ref aU) (C := R_RT) (T := F_RT) (N := 7) hx hb hts in_RT hown hK hP 0 rfl rfl 4 (by decide) (hts _ (List.mem_cons_of_mem _ k_150)) (fun _ h9 => h9) rfl d_RT_goToRow_54 ?_
  refine lv_iload_n hx hb d_RT_goToRow_57 rfl (lv_at hl 3 rfl) ?_
  refine xa_iald (v := nI (tt a)) hx hb hK hP 3 0 rfl rfl (by omega) (by decide) ((htt a h17).1) d_RT_goToRow_58 ?_
  refine lv_iload hx hb d_RT_goToRow_59 (lv_at hl 4 rfl) ?_
  refine xc_i (wc := [(aM, .inr (1, [.ref aK, .int b1, .int b2, .int (nI ln)])), (aK, .inl (cI, 24, .inl mk))]) (wr := [(aX, .inr (5, [.ref aR, .ref aM, .ref aG, .ref aL, .ref aU, .ref aP, .int (nI ct)])), (aR, .inr (3, [.ref aO, .int (nI n)])), (aO, .inl (cI, 6, .inl g2)), (aU, .inl (cI, 30, .inl tq))]) (gG_ok tF) hK hP hD hS hA hg [4, 5] [0, 1, 2, 3] rfl rfl (by decide) (by decide) (by decide) (fun h1 h2 => va_runV (As := [.int (nI (tt a)), .int (nI j)]) (rest := [.ref aR]) ⟨hx, hb, hml, hown, hts⟩ (c_Met_maskFor aM aK mk b1 b2 ln (tt a) j ((htt a h17).2.1) (by omega) (⟨by omega, hl24⟩) _) (cwV 2 hts (gV k_333 k_230 k_231 k_3 k_232) rfl rfl rfl (by decide +kernel) ⟨Nat.le_of_ble_eq_true rfl, Nat.le_of_ble_eq_true rfl⟩) ⟨h1, va_recv (q0 := 4) (ci := 1) hK hP rfl rfl, h2⟩ rfl rfl hl.1 rfl (lv_room (Nat.le_of_ble_eq_true rfl)) d_RT_goToRow_61 ⟨Nat.zero_le _, Nat.zero_le _⟩) (fun r u H locs hq9 hP hD hS => ?_)
  obtain rfl := hq9
  have hP : va_P D vwCl [(aX, .inr (5, [.ref aR, .ref aM, .ref aG, .ref aL, .ref aU, .ref aP, .int (nI ct)])), (aR, .inr (3, [.ref aO, .int (nI n)])), (aO, .inl (cI, 6, .inl g2)), (aU, .inl (cI, 30, .inl tq)), (aM, .inr (1, [.ref aK, .int b1, .int b2, .int (nI ln)])), (aK, .inl (cI, 24, .inl mk))] H := hP
  have hD : va_D A [(aX, .inr (5, [.ref aR, .ref aM, .ref aG, .ref aL, .ref aU, .ref aP, .int (nI ct)])), (aR, .inr (3, [.ref aO, .int (nI n)])), (aO, .inl (cI, 6, .inl g2)), (aU, .inl (cI, 30, .inl tq)), (aM, .inr (1, [.ref aK, .int b1, .int b2, .int (nI ln)])), (aK, .inl (cI, 24, .inl mk))] := hD
  refine xn_i (y := nI (mt (tt a) j)) (((htt a h17).2.2 j h37).1) ?_
  refine xc_v (wc := [(aR, .inr (3, [.ref aO, .int (nI n)])), (aO, .inl (cI, 6, .inl g2))]) (wr := [(aX, .inr (5, [.ref aR, .ref aM, .ref aG, .ref aL, .ref aU, .ref aP, .int (nI ct)])), (aU, .inl (cI, 30, .inl tq)), (aM, .inr (1, [.ref aK, .int b1, .int b2, .int (nI ln)])), (aK, .inl (cI, 24, .inl mk))]) (gG_ok tF) hK hP hD hS hA hg [1, 2] [0, 3, 4, 5] rfl rfl (by decide) (by decide) (by decide) (fun h1 h2 => va_runV (As := [.int (nI (mt (tt a) j))]) (rest := []) ⟨hx, hb, hml, hown, hts⟩ (c_Row_changeBy aR aO n (Rw n ln mt tt e) (mt (tt a) j) g2 hn (hlt e (by omega)) (((htt a h17).2.2 j h37).2) hj4 _) (cwV 1 hts (gV k_334 k_234 k_235 k_2 k_236) rfl rfl rfl (by decide +kernel) ⟨Nat.le_of_ble_eq_true rfl, Nat.le_of_ble_eq_true rfl⟩) ⟨h1, va_recv (q0 := 1) (ci := 3) hK hP rfl rfl, h2⟩ rfl rfl hl.1 rfl (lv_room (Nat.le_of_ble_eq_true rfl)) d_RT_goToRow_64 ⟨Nat.zero_le _, Nat.zero_le _⟩) (fun g3 H locs hq9 hP hD hS => ?_)
  have hw64 := hq9
  have hP : va_P D vwCl [(aX, .inr (5, [.ref aR, .ref aM, .ref aG, .ref aL, .ref aU, .ref aP, .int (nI ct)])), (aU, .inl (cI, 30, .inl tq)), (aM, .inr (1, [.ref aK, .int b1, .int b2, .int (nI ln)])), (aK, .inl (cI, 24, .inl mk)), (aR, .inr (3, [.ref aO, .int (nI n)])), (aO, .inl (cI, 6, .inl g3))] H := hP
  have hD : va_D A [(aX, .inr (5, [.ref aR, .ref aM, .ref aG, .ref aL, .ref aU, .ref aP, .int (nI ct)])), (aU, .inl (cI, 30, .inl tq)), (aM, .inr (1, [.ref aK, .int b1, .int b2, .int (nI ln)])), (aK, .inl (cI, 24, .inl mk)), (aR, .inr (3, [.ref aO, .int (nI n)])), (aO, .inl (cI, 6, .inl g3))] := hD
  have hw64 : hold n (Rw n ln mt tt (e + 1)) g3 := by rw [Rw_s, hj3, hq1, hq2, ← hj3]; exact hw64
  refine lv_iinc (k := 2) (v := nI (e + 1)) hx hb d_RT_goToRow_67 hl rfl (xi_1 _) (by decide) rfl (fun ls hl => ?_)
  have hl : lv_has ls 5 [(2, .int (nI (e + 1))), (0, .ref aX), (1, .int (nI i)), (3, .int (nI a)), (4, .int (nI j))] := hl
  refine lv_iinc (k := 4) (v := nI (j + 1)) hx hb d_RT_goToRow_70 hl rfl (xi_1 _) (by decide) rfl (fun ls hl => ?_)
  have hl : lv_has ls 5 [(4, .int (nI (j + 1))), (2, .int (nI (e + 1))), (0, .ref aX), (1, .int (nI i)), (3, .int (nI a))] := hl
  refine lv_goto (tgt := 28) hx hb d_RT_goToRow_73 rfl ?_
  have hl : lv_has ls 5 [(0, .ref aX), (1, .int (nI i)), (2, .int (nI (e + 1))), (3, .int (nI a)), (4, .int (nI (j + 1)))] := lv_sub hl [2, 3, 1, 4, 0] rfl
  have hP := hP.sub (ws' := [(aX, .inr (5, [.ref aR, .ref aM, .ref aG, .ref aL, .ref aU, .ref aP, .int (nI ct)])), (aR, .inr (3, [.ref aO, .int (nI n)])), (aO, .inl (cI, 6, .inl g3)), (aM, .inr (1, [.ref aK, .int b1, .int b2, .int (nI ln)])), (aK, .inl (cI, 24, .inl mk)), (aU, .inl (cI, 30, .inl tq))]) [0, 4, 5, 2, 3, 1] rfl
  have hD := hD.sub (ws' := [(aX, .inr (5, [.ref aR, .ref aM, .ref aG, .ref aL, .ref aU, .ref aP, .int (nI ct)])), (aR, .inr (3, [.ref aO, .int (nI n)])), (aO, .inl (cI, 6, .inl g3)), (aM, .inr (1, [.ref aK, .int b1, .int b2, .int (nI ln)])), (aK, .inl (cI, 24, .inl mk)), (aU, .inl (cI, 30, .inl tq))]) [0, 4, 5, 2, 3, 1] (by decide) rfl
  exact ih1 (j + 1) (e + 1) g3 _ _ _ (by omega) ⟨h37, h42, by omega, hw64, hl, hP, hD, hS⟩
end
