section
variable {l : Launch} {D : va_G} {cI cZ cJ cG : ClassId} {tF : Nat}
set_option maxHeartbeats 4000000 in
set_option maxRecDepth 100000 in
theorem c_RT_needMethod_t (aX : Nat) (aR : Nat) (aM : Nat) (aG : Nat) (aL : Nat) (aU : Nat) (aP : Nat) (ct : Nat) (aK : Nat) (mk : Nat → Int32) (b1 : Int32) (b2 : Int32) (htr : l.stackTraces = false) : CtT l y_RT_needMethod (w_RT_needMethod) ({ frames := 6, cells := 1, slots := 6, locals := 90 }) D vwCl (TYs cI cZ cJ cG) (gG tF) [.ref aX] [(aX, .inr (5, [.ref aR, .ref aM, .ref aG, .ref aL, .ref aU, .ref aP, .int (nI ct)])), (aM, .inr (1, [.ref aK, .int b1, .int b2, .int (nI 0)])), (aK, .inl (cI, 24, .inl mk))] 1 6 X_ISE := by
  refine CtT.of (cc := b_RT_needMethod) (maxL := 1) (ret := none) (by decide) rfl (Nat.le_of_ble_eq_true rfl) ?_
  intro p e s m args below meth c A ls hF hnoh hns hA hP hK hD hg hS hl
  obtain ⟨hx, hb, hrt, hlk, hml, hown, hts, hnm⟩ := hF
  have hown : s.vm.findClass R_RT = some m.cls := hown
  have hl : lv_has ls 1 [(0, .ref aX)] := hl
  refine lv_aload_n hx hb d_RT_needMethod_0 rfl (lv_at hl 0 rfl) ?_
  refine va_get (D := D) (ci := 5) (v := .ref aM) (C := R_RT) (T := F_RT) (N := 7) hx hb hts in_RT hown hK hP 0 rfl rfl 1 (by decide) (hts _ (List.mem_cons_of_mem _ k_147)) (fun _ h9 => h9) rfl d_RT_needMethod_1 ?_
  refine xc_i (wc := [(aM, .inr (1, [.ref aK, .int b1, .int b2, .int (nI 0)])), (aK, .inl (cI, 24, .inl mk))]) (wr := [(aX, .inr (5, [.ref aR, .ref aM, .ref aG, .ref aL, .ref aU, .ref aP, .int (nI ct)]))]) (gG_ok tF) hK hP hD hS hA hg [1, 2] [0] rfl rfl (by decide) (by decide) (by decide) (fun h1 h2 => va_runV (As := []) (rest := []) ⟨hx, hb, hml, hown, hts⟩ (c_Met_isDefined aM aK mk b1 b2 0 (by decide) _) (cwV 0 hts (gV k_176 k_177 k_178 k_3 k_179) rfl rfl rfl (by decide +kernel) ⟨Nat.le_of_ble_eq_true rfl, Nat.le_of_ble_eq_true rfl⟩) ⟨h1, va_recv (q0 := 1) (ci := 1) hK hP rfl rfl, h2⟩ rfl rfl hl.1 rfl (lv_room (Nat.le_of_ble_eq_true rfl)) d_RT_needMethod_4 ⟨Nat.zero_le _, Nat.zero_le _⟩) (fun r u H locs hq9 hP hD hS => ?_)
  obtain rfl := hq9
  have hP : va_P D vwCl [(aX, .inr (5, [.ref aR, .ref aM, .ref aG, .ref aL, .ref aU, .ref aP, .int (nI ct)])), (aM, .inr (1, [.ref aK, .int b1, .int b2, .int (nI 0)])), (aK, .inl (cI, 24, .inl mk))] H := hP
  have hD : va_D A [(aX, .inr (5, [.ref aR, .ref aM, .ref aG, .ref aL, .ref aU, .ref aP, .int (nI ct)])), (aM, .inr (1, [.ref aK, .int b1, .int b2, .int (nI 0)])), (aK, .inl (cI, 24, .inl mk))] := hD
  refine xb_neB (x := decide (0 < 0)) hx hb 20 d_RT_needMethod_7 rfl (fun h7 => ?_) (fun h7 => ?_)
  · skip
    exact absurd h7 (by decide)
  exact xt_throw (own := "RungTouches") (X := X_ISE) (tx := "there is no method") (ic := 198) (ii := 194) (ix := 196) (names := xNames_ISE) (wc := [(aX, .inr (5, [.ref aR, .ref aM, .ref aG, .ref aL, .ref aU, .ref aP, .int (nI ct)])), (aM, .inr (1, [.ref aK, .int b1, .int b2, .int (nI 0)])), (aK, .inl (cI, 24, .inl mk))]) htr hx hb hlk hml hnoh hns hA hown (by decide +kernel) (by decide +kernel) (fun U hv9 hh9 => own_ISE (xu_TB hts hv9) (xu_E hg hS hv9 hh9)) (hts _ (List.mem_cons_of_mem _ k_386)) (hts _ (List.mem_cons_of_mem _ k_11)) (hg.2.2.2.2.2.2.2.2.2.1 (196, "there is no method") (List.mem_of_getElem? (i := 0) rfl)) hP hD hS [0, 1, 2] (by decide) rfl hl.1 (Nat.le_of_ble_eq_true rfl) (Nat.le_of_ble_eq_true rfl) (Nat.le_of_ble_eq_true rfl) (Nat.le_of_ble_eq_true rfl) d_RT_needMethod_10 d_RT_needMethod_13 d_RT_needMethod_14 d_RT_needMethod_16 d_RT_needMethod_19
set_option maxHeartbeats 4000000 in
set_option maxRecDepth 100000 in
theorem c_RT_needLimits_t (x : Int32) (y : Int32) (z : Int32) (htr : l.stackTraces = false) (hno : slk x y z = false) : CtT l y_RT_needLimits (w_RT_needLimits) ({ frames := 6, cells := 1, slots := 6, locals := 90 }) D vwCl (TYs cI cZ cJ cG) (gG tF) [.int x, .int y, .int z] [] 1 6 X_IAE := by
  refine CtT.of (cc := b_RT_needLimits) (maxL := 3) (ret := none) (by decide) rfl (Nat.le_of_ble_eq_true rfl) ?_
  intro p e s m args below meth c A ls hF hnoh hns hA hP hK hD hg hS hl
  obtain ⟨hx, hb, hrt, hlk, hml, hown, hts, hnm⟩ := hF
  have hown : s.vm.findClass R_RT = some m.cls := hown
  have hl : lv_has ls 3 [(0, .int x), (1, .int y), (2, .int z)] := hl
  refine lv_iload_n hx hb d_RT_needLimits_0 rfl (lv_at hl 0 rfl) ?_
  refine lv_iconst (v := nI 1) hx hb d_RT_needLimits_1 (by decide) ?_
  refine lv_icmp_lt (tgt := 17) hx hb d_RT_needLimits_2 rfl (fun h2 => ?_) (fun h2 => ?_)
  · skip
    exact xt_throw (own := "RungTouches") (X := X_IAE) (tx := "not 1 <= least <= most <= 720") (ic := 95) (ii := 91) (ix := 199) (names := xNames_IAE) (wc := []) htr hx hb hlk hml hnoh hns hA hown (by decide +kernel) (by decide +kernel) (fun U hv9 hh9 => own_IAE (xu_TB hts hv9) (xu_E hg hS hv9 hh9)) (hts _ (List.mem_cons_of_mem _ k_454)) (hts _ (List.mem_cons_of_mem _ k_12)) (hg.2.2.2.2.2.2.2.2.2.1 (199, "not 1 <= least <= most <= 720") (List.mem_of_getElem? (i := 4) rfl)) hP hD hS [] (by decide) rfl hl.1 (Nat.le_of_ble_eq_true rfl) (Nat.le_of_ble_eq_true rfl) (Nat.le_of_ble_eq_true rfl) (Nat.le_of_ble_eq_true rfl) d_RT_needLimits_17 d_RT_needLimits_20 d_RT_needLimits_21 d_RT_needLimits_23 d_RT_needLimits_26
  refine lv_iload_n hx hb d_RT_needLimits_5 rfl (lv_at hl 1 rfl) ?_
  refine lv_iload_n hx hb d_RT_needLimits_6 rfl (lv_at hl 0 rfl) ?_
  refine lv_icmp_lt (tgt := 17) hx hb d_RT_needLimits_7 rfl (fun h7 => ?_) (fun h7 => ?_)
  · skip
    exact xt_throw (own := "RungTouches") (X := X_IAE) (tx := "not 1 <= least <= most <= 720") (ic := 95) (ii := 91) (ix := 199) (names := xNames_IAE) (wc := []) htr hx hb hlk hml hnoh hns hA hown (by decide +kernel) (by decide +kernel) (fun U hv9 hh9 => own_IAE (xu_TB hts hv9) (xu_E hg hS hv9 hh9)) (hts _ (List.mem_cons_of_mem _ k_454)) (hts _ (List.mem_cons_of_mem _ k_12)) (hg.2.2.2.2.2.2.2.2.2.1 (199, "not 1 <= least <= most <= 720") (List.mem_of_getElem? (i := 4) rfl)) hP hD hS [] (by decide) rfl hl.1 (Nat.le_of_ble_eq_true rfl) (Nat.le_of_ble_eq_true rfl) (Nat.le_of_ble_eq_true rfl) (Nat.le_of_ble_eq_true rfl) d_RT_needLimits_17 d_RT_needLimits_20 d_RT_needLimits_21 d_RT_needLimits_23 d_RT_needLimits_26
  refine lv_iload_n hx hb d_RT_needLimits_10 rfl (lv_at hl 1 rfl) ?_
  refine lv_sipush (v := nI 720) hx hb d_RT_needLimits_11 (by decide) ?_
  refine lv_icmp_le (tgt := 27) hx hb d_RT_needLimits_14 rfl (fun h14 => ?_) (fun h14 => ?_)
  · skip
    refine lv_iload_n hx hb d_RT_needLimits_27 rfl (lv_at hl 2 rfl) ?_
    refine lv_iconst (v := nI 1) hx hb d_RT_needLimits_28 (by decide) ?_
    refine lv_icmp_lt (tgt := 39) hx hb d_RT_needLimits_29 rfl (fun h29 => ?_) (fun h29 => ?_)
    · skip
      exact xt_throw (own := "RungTouches") (X := X_IAE) (tx := "budget is not 1 .. 2000") (ic := 95) (ii := 91) (ix := 201) (names := xNames_IAE) (wc := []) htr hx hb hlk hml hnoh hns hA hown (by decide +kernel) (by decide +kernel) (fun U hv9 hh9 => own_IAE (xu_TB hts hv9) (xu_E hg hS hv9 hh9)) (hts _ (List.mem_cons_of_mem _ k_454)) (hts _ (List.mem_cons_of_mem _ k_12)) (hg.2.2.2.2.2.2.2.2.2.1 (201, "budget is not 1 .. 2000") (List.mem_of_getElem? (i := 5) rfl)) hP hD hS [] (by decide) rfl hl.1 (Nat.le_of_ble_eq_true rfl) (Nat.le_of_ble_eq_true rfl) (Nat.le_of_ble_eq_true rfl) (Nat.le_of_ble_eq_true rfl) d_RT_needLimits_39 d_RT_needLimits_42 d_RT_needLimits_43 d_RT_needLimits_45 d_RT_needLimits_48
    refine lv_iload_n hx hb d_RT_needLimits_32 rfl (lv_at hl 2 rfl) ?_
    refine lv_sipush (v := nI 2000) hx hb d_RT_needLimits_33 (by decide) ?_
    refine lv_icmp_le (tgt := 49) hx hb d_RT_needLimits_36 rfl (fun h36 => ?_) (fun h36 => ?_)
    · skip
      exact absurd hno (by unfold slk; rw [if_neg h2, if_neg h7, if_neg (Int32.not_lt.mpr h14), if_neg h29, if_neg (Int32.not_lt.mpr h36)]; decide)
    exact xt_throw (own := "RungTouches") (X := X_IAE) (tx := "budget is not 1 .. 2000") (ic := 95) (ii := 91) (ix := 201) (names := xNames_IAE) (wc := []) htr hx hb hlk hml hnoh hns hA hown (by decide +kernel) (by decide +kernel) (fun U hv9 hh9 => own_IAE (xu_TB hts hv9) (xu_E hg hS hv9 hh9)) (hts _ (List.mem_cons_of_mem _ k_454)) (hts _ (List.mem_cons_of_mem _ k_12)) (hg.2.2.2.2.2.2.2.2.2.1 (201, "budget is not 1 .. 2000") (List.mem_of_getElem? (i := 5) rfl)) hP hD hS [] (by decide) rfl hl.1 (Nat.le_of_ble_eq_true rfl) (Nat.le_of_ble_eq_true rfl) (Nat.le_of_ble_eq_true rfl) (Nat.le_of_ble_eq_true rfl) d_RT_needLimits_39 d_RT_needLimits_42 d_RT_needLimits_43 d_RT_needLimits_45 d_RT_needLimits_48
  exact xt_throw (own := "RungTouches") (X := X_IAE) (tx := "not 1 <= least <= most <= 720") (ic := 95) (ii := 91) (ix := 199) (names := xNames_IAE) (wc := []) htr hx hb hlk hml hnoh hns hA hown (by decide +kernel) (by decide +kernel) (fun U hv9 hh9 => own_IAE (xu_TB hts hv9) (xu_E hg hS hv9 hh9)) (hts _ (List.mem_cons_of_mem _ k_454)) (hts _ (List.mem_cons_of_mem _ k_12)) (hg.2.2.2.2.2.2.2.2.2.1 (199, "not 1 <= least <= most <= 720") (List.mem_of_getElem? (i := 4) rfl)) hP hD hS [] (by decide) rfl hl.1 (Nat.le_of_ble_eq_true rfl) (Nat.le_of_ble_eq_true rfl) (Nat.le_of_ble_eq_true rfl) (Nat.le_of_ble_eq_true rfl) d_RT_needLimits_17 d_RT_needLimits_20 d_RT_needLimits_21 d_RT_needLimits_23 d_RT_needLimits_26
set_option maxHeartbeats 4000000 in
set_option maxRecDepth 100000 in
theorem c_RT_call_1 (aX : Nat) (aR : Nat) (aM : Nat) (aG : Nat) (aL : Nat) (aU : Nat) (aP : Nat) (ct : Nat) (aK : Nat) (mk : Nat → Int32) (b1 : Int32) (b2 : Int32) (x : Int32) (htr : l.stackTraces = false) : CtT l y_RT_call (w_RT_call) ({ frames := 7, cells := 1, slots := 6, locals := 110 }) D vwCl (TYs cI cZ cJ cG) (gG tF) [.ref aX, .int x] [(aX, .inr (5, [.ref aR, .ref aM, .ref aG, .ref aL, .ref aU, .ref aP, .int (nI ct)])), (aM, .inr (1, [.ref aK, .int b1, .int b2, .int (nI 0)])), (aK, .inl (cI, 24, .inl mk))] 1 6 X_ISE := by
  refine CtT.of (cc := b_RT_call) (maxL := 2) (ret := (some .int)) (by decide) rfl (Nat.le_of_ble_eq_true rfl) ?_
  intro p e s m args below meth c A ls hF hnoh hns hA hP hK hD hg hS hl
  obtain ⟨hx, hb, hrt, hlk, hml, hown, hts, hnm⟩ := hF
  have hown : s.vm.findClass R_RT = some m.cls := hown
  have hl : lv_has ls 2 [(0, .ref aX), (1, .int x)] := hl
  refine lv_aload_n hx hb d_RT_call_0 rfl (lv_at hl 0 rfl) ?_
  exact xt_up (wc := [(aX, .inr (5, [.ref aR, .ref aM, .ref aG, .ref aL, .ref aU, .ref aP, .int (nI ct)])), (aM, .inr (1, [.ref aK, .int b1, .int b2, .int (nI 0)])), (aK, .inl (cI, 24, .inl mk))]) (wr := []) (w0 := [(aX, .inr (5, [.ref aR, .ref aM, .ref aG, .ref aL, .ref aU, .ref aP, .int (nI ct)])), (aM, .inr (1, [.ref aK, .int b1, .int b2, .int (nI 0)])), (aK, .inl (cI, 24, .inl mk))]) (gG_ok tF) hK hP hD hS hA hg hlk hnoh [0, 1, 2] [] rfl rfl (by decide) (by decide) (by decide) [0, 1, 2] (by decide) rfl (fun h1 h2 => va_runVT (As := []) (rest := []) ⟨hx, hb, hml, hown, hts⟩ (c_RT_needMethod_t aX aR aM aG aL aU aP ct aK mk b1 b2 htr _) (cwV 0 hts (gV k_382 k_384 ks_RT_needMethod k_1 k_385) rfl rfl rfl (by decide +kernel) ⟨Nat.le_of_ble_eq_true rfl, Nat.le_of_ble_eq_true rfl⟩) ⟨h1, va_recv (q0 := 0) (ci := 5) hK hP rfl rfl, h2⟩ rfl rfl hl.1 rfl (lv_room (Nat.le_of_ble_eq_true rfl)) d_RT_call_1 ⟨Nat.le_of_ble_eq_true rfl, Nat.le_of_ble_eq_true rfl⟩)
set_option maxHeartbeats 4000000 in
set_option maxRecDepth 100000 in
theorem c_RT_call_2 (aX : Nat) (aR : Nat) (aM : Nat) (aG : Nat) (aL : Nat) (aU : Nat) (aP : Nat) (ct : Nat) (aK : Nat) (mk : Nat → Int32) (b1 : Int32) (b2 : Int32) (ln : Nat) (x : Int32) (htr : l.stackTraces = false) (hl1 : 1 ≤ ln) (hl2 : ln ≤ 24) (hno : hcl ln b1 b2 x = false) : CtT l y_RT_call (w_RT_call) ({ frames := 6, cells := 1, slots := 6, locals := 90 }) D vwCl (TYs cI cZ cJ cG) (gG tF) [.ref aX, .int x] [(aX, .inr (5, [.ref aR, .ref aM, .ref aG, .ref aL, .ref aU, .ref aP, .int (nI ct)])), (aM, .inr (1, [.ref aK, .int b1, .int b2, .int (nI ln)])), (aK, .inl (cI, 24, .inl mk))] 1 6 X_IAE := by
  refine CtT.of (cc := b_RT_call) (maxL := 2) (ret := (some .int)) (by decide) rfl (Nat.le_of_ble_eq_true rfl) ?_
  intro p e s m args below meth c A ls hF hnoh hns hA hP hK hD hg hS hl
  obtain ⟨hx, hb, hrt, hlk, hml, hown, hts, hnm⟩ := hF
  have hown : s.vm.findClass R_RT = some m.cls := hown
  have hl : lv_has ls 2 [(0, .ref aX), (1, .int x)] := hl
  refine lv_aload_n hx hb d_RT_call_0 rfl (lv_at hl 0 rfl) ?_
  refine xc_v (wc := [(aX, .inr (5, [.ref aR, .ref aM, .ref aG, .ref aL, .ref aU, .ref aP, .int (nI ct)])), (aM, .inr (1, [.ref aK, .int b1, .int b2, .int (nI ln)])), (aK, .inl (cI, 24, .inl mk))]) (wr := []) (gG_ok tF) hK hP hD hS hA hg [0, 1, 2] [] rfl rfl (by decide) (by decide) (by decide) (fun h1 h2 => va_runV (As := []) (rest := []) ⟨hx, hb, hml, hown, hts⟩ (c_RT_needMethod aX aR aM aG aL aU aP ct aK mk b1 b2 ln (by first | assumption | omega) (by first | assumption | omega) _) (cwV 0 hts (gV k_382 k_384 ks_RT_needMethod k_1 k_385) rfl rfl rfl (by decide +kernel) ⟨Nat.le_of_ble_eq_true rfl, Nat.le_of_ble_eq_true rfl⟩) ⟨h1, va_recv (q0 := 0) (ci := 5) hK hP rfl rfl, h2⟩ rfl rfl hl.1 rfl (lv_room (Nat.le_of_ble_eq_true rfl)) d_RT_call_1 ⟨Nat.zero_le _, Nat.zero_le _⟩) (fun u H locs hq9 hP hD hS => ?_)
  have hP : va_P D vwCl [(aX, .inr (5, [.ref aR, .ref aM, .ref aG, .ref aL, .ref aU, .ref aP, .int (nI ct)])), (aM, .inr (1, [.ref aK, .int b1, .int b2, .int (nI ln)])), (aK, .inl (cI, 24, .inl mk))] H := hP
  have hD : va_D A [(aX, .inr (5, [.ref aR, .ref aM, .ref aG, .ref aL, .ref aU, .ref aP, .int (nI ct)])), (aM, .inr (1, [.ref aK, .int b1, .int b2, .int (nI ln)])), (aK, .inl (cI, 24, .inl mk))] := hD
  refine lv_aload_n hx hb d_RT_call_4 rfl (lv_at hl 0 rfl) ?_
  refine va_get (D := D) (ci := 5) (v := .ref aM) (C := R_RT) (T := F_RT) (N := 7) hx hb hts in_RT hown hK hP 0 rfl rfl 1 (by decide) (hts _ (List.mem_cons_of_mem _ k_147)) (fun _ h9 => h9) rfl d_RT_call_5 ?_
  refine lv_iload_n hx hb d_RT_call_8 rfl (lv_at hl 1 rfl) ?_
  refine xc_i (wc := [(aM, .inr (1, [.ref aK, .int b1, .int b2, .int (nI ln)])), (aK, .inl (cI, 24, .inl mk))]) (wr := [(aX, .inr (5, [.ref aR, .ref aM, .ref aG, .ref aL, .ref aU, .ref aP, .int (nI ct)]))]) (gG_ok tF) hK hP hD hS hA hg [1, 2] [0] rfl rfl (by decide) (by decide) (by decide) (fun h1 h2 => va_runV (As := [.int x]) (rest := []) ⟨hx, hb, hml, hown, hts⟩ (c_Met_hasCall aM aK mk b1 b2 ln x hl2 _) (cwV 1 hts (gV k_250 k_251 k_252 k_3 k_253) rfl rfl rfl (by decide +kernel) ⟨Nat.le_of_ble_eq_true rfl, Nat.le_of_ble_eq_true rfl⟩) ⟨h1, va_recv (q0 := 1) (ci := 1) hK hP rfl rfl, h2⟩ rfl rfl hl.1 rfl (lv_room (Nat.le_of_ble_eq_true rfl)) d_RT_call_9 ⟨Nat.zero_le _, Nat.zero_le _⟩) (fun r u H locs hq9 hP hD hS => ?_)
  obtain rfl := hq9
  have hP : va_P D vwCl [(aX, .inr (5, [.ref aR, .ref aM, .ref aG, .ref aL, .ref aU, .ref aP, .int (nI ct)])), (aM, .inr (1, [.ref aK, .int b1, .int b2, .int (nI ln)])), (aK, .inl (cI, 24, .inl mk))] H := hP
  have hD : va_D A [(aX, .inr (5, [.ref aR, .ref aM, .ref aG, .ref aL, .ref aU, .ref aP, .int (nI ct)])), (aM, .inr (1, [.ref aK, .int b1, .int b2, .int (nI ln)])), (aK, .inl (cI, 24, .inl mk))] := hD
  refine xb_neB (x := hcl ln b1 b2 x) hx hb 25 d_RT_call_12 rfl (fun h12 => ?_) (fun h12 => ?_)
  · skip
    rw [hno] at h12
    cases h12
  exact xt_throw (own := "RungTouches") (X := X_IAE) (tx := "no such call, or no mask for it") (ic := 95) (ii := 91) (ix := 93) (names := xNames_IAE) (wc := [(aX, .inr (5, [.ref aR, .ref aM, .ref aG, .ref aL, .ref aU, .ref aP, .int (nI ct)])), (aM, .inr (1, [.ref aK, .int b1, .int b2, .int (nI ln)])), (aK, .inl (cI, 24, .inl mk))]) htr hx hb hlk hml hnoh hns hA hown (by decide +kernel) (by decide +kernel) (fun U hv9 hh9 => own_IAE (xu_TB hts hv9) (xu_E hg hS hv9 hh9)) (hts _ (List.mem_cons_of_mem _ k_454)) (hts _ (List.mem_cons_of_mem _ k_12)) (hg.2.2.2.2.2.2.2.2.2.1 (93, "no such call, or no mask for it") (List.mem_of_getElem? (i := 1) rfl)) hP hD hS [0, 1, 2] (by decide) rfl hl.1 (Nat.le_of_ble_eq_true rfl) (Nat.le_of_ble_eq_true rfl) (Nat.le_of_ble_eq_true rfl) (Nat.le_of_ble_eq_true rfl) d_RT_call_15 d_RT_call_18 d_RT_call_19 d_RT_call_21 d_RT_call_24
set_option maxHeartbeats 4000000 in
set_option maxRecDepth 100000 in
theorem c_RT_call_3 (aX : Nat) (aR : Nat) (aM : Nat) (aG : Nat) (aL : Nat) (aU : Nat) (aP : Nat) (aK : Nat) (mk : Nat → Int32) (b1 : Int32) (b2 : Int32) (ln : Nat) (x : Int32) (htr : l.stackTraces = false) (hl1 : 1 ≤ ln) (hl2 : ln ≤ 24) (hok : hcl ln b1 b2 x = true) : CtT l y_RT_call (w_RT_call) ({ frames := 6, cells := 1, slots := 6, locals := 90 }) D vwCl (TYs cI cZ cJ cG) (gG tF) [.ref aX, .int x] [(aX, .inr (5, [.ref aR, .ref aM, .ref aG, .ref aL, .ref aU, .ref aP, .int (nI 30)])), (aM, .inr (1, [.ref aK, .int b1, .int b2, .int (nI ln)])), (aK, .inl (cI, 24, .inl mk))] 1 6 X_UOE := by
  refine CtT.of (cc := b_RT_call) (maxL := 2) (ret := (some .int)) (by decide) rfl (Nat.le_of_ble_eq_true rfl) ?_
  intro p e s m args below meth c A ls hF hnoh hns hA hP hK hD hg hS hl
  obtain ⟨hx, hb, hrt, hlk, hml, hown, hts, hnm⟩ := hF
  have hown : s.vm.findClass R_RT = some m.cls := hown
  have hl : lv_has ls 2 [(0, .ref aX), (1, .int x)] := hl
  refine lv_aload_n hx hb d_RT_call_0 rfl (lv_at hl 0 rfl) ?_
  refine xc_v (wc := [(aX, .inr (5, [.ref aR, .ref aM, .ref aG, .ref aL, .ref aU, .ref aP, .int (nI 30)])), (aM, .inr (1, [.ref aK, .int b1, .int b2, .int (nI ln)])), (aK, .inl (cI, 24, .inl mk))]) (wr := []) (gG_ok tF) hK hP hD hS hA hg [0, 1, 2] [] rfl rfl (by decide) (by decide) (by decide) (fun h1 h2 => va_runV (As := []) (rest := []) ⟨hx, hb, hml, hown, hts⟩ (c_RT_needMethod aX aR aM aG aL aU aP 30 aK mk b1 b2 ln (by first | assumption | omega) (by first | assumption | omega) _) (cwV 0 hts (gV k_382 k_384 ks_RT_needMethod k_1 k_385) rfl rfl rfl (by decide +kernel) ⟨Nat.le_of_ble_eq_true rfl, Nat.le_of_ble_eq_true rfl⟩) ⟨h1, va_recv (q0 := 0) (ci := 5) hK hP rfl rfl, h2⟩ rfl rfl hl.1 rfl (lv_room (Nat.le_of_ble_eq_true rfl)) d_RT_call_1 ⟨Nat.zero_le _, Nat.zero_le _⟩) (fun u H locs hq9 hP hD hS => ?_)
  have hP : va_P D vwCl [(aX, .inr (5, [.ref aR, .ref aM, .ref aG, .ref aL, .ref aU, .ref aP, .int (nI 30)])), (aM, .inr (1, [.ref aK, .int b1, .int b2, .int (nI ln)])), (aK, .inl (cI, 24, .inl mk))] H := hP
  have hD : va_D A [(aX, .inr (5, [.ref aR, .ref aM, .ref aG, .ref aL, .ref aU, .ref aP, .int (nI 30)])), (aM, .inr (1, [.ref aK, .int b1, .int b2, .int (nI ln)])), (aK, .inl (cI, 24, .inl mk))] := hD
  refine lv_aload_n hx hb d_RT_call_4 rfl (lv_at hl 0 rfl) ?_
  refine va_get (D := D) (ci := 5) (v := .ref aM) (C := R_RT) (T := F_RT) (N := 7) hx hb hts in_RT hown hK hP 0 rfl rfl 1 (by decide) (hts _ (List.mem_cons_of_mem _ k_147)) (fun _ h9 => h9) rfl d_RT_call_5 ?_
  refine lv_iload_n hx hb d_RT_call_8 rfl (lv_at hl 1 rfl) ?_
  refine xc_i (wc := [(aM, .inr (1, [.ref aK, .int b1, .int b2, .int (nI ln)])), (aK, .inl (cI, 24, .inl mk))]) (wr := [(aX, .inr (5, [.ref aR, .ref aM, .ref aG, .ref aL, .ref aU, .ref aP, .int (nI 30)]))]) (gG_ok tF) hK hP hD hS hA hg [1, 2] [0] rfl rfl (by decide) (by decide) (by decide) (fun h1 h2 => va_runV (As := [.int x]) (rest := []) ⟨hx, hb, hml, hown, hts⟩ (c_Met_hasCall aM aK mk b1 b2 ln x hl2 _) (cwV 1 hts (gV k_250 k_251 k_252 k_3 k_253) rfl rfl rfl (by decide +kernel) ⟨Nat.le_of_ble_eq_true rfl, Nat.le_of_ble_eq_true rfl⟩) ⟨h1, va_recv (q0 := 1) (ci := 1) hK hP rfl rfl, h2⟩ rfl rfl hl.1 rfl (lv_room (Nat.le_of_ble_eq_true rfl)) d_RT_call_9 ⟨Nat.zero_le _, Nat.zero_le _⟩) (fun r u H locs hq9 hP hD hS => ?_)
  obtain rfl := hq9
  have hP : va_P D vwCl [(aX, .inr (5, [.ref aR, .ref aM, .ref aG, .ref aL, .ref aU, .ref aP, .int (nI 30)])), (aM, .inr (1, [.ref aK, .int b1, .int b2, .int (nI ln)])), (aK, .inl (cI, 24, .inl mk))] H := hP
  have hD : va_D A [(aX, .inr (5, [.ref aR, .ref aM, .ref aG, .ref aL, .ref aU, .ref aP, .int (nI 30)])), (aM, .inr (1, [.ref aK, .int b1, .int b2, .int (nI ln)])), (aK, .inl (cI, 24, .inl mk))] := hD
  refine xb_neB (x := hcl ln b1 b2 x) hx hb 25 d_RT_call_12 rfl (fun h12 => ?_) (fun h12 => ?_)
  · skip
    refine lv_aload_n hx hb d_RT_call_25 rfl (lv_at hl 0 rfl) ?_
    refine va_get (D := D) (ci := 5) (v := .int (nI 30)) (C := R_RT) (T := F_RT) (N := 7) hx hb hts in_RT hown hK hP 0 rfl rfl 6 (by decide) (hts _ (List.mem_cons_of_mem _ k_152)) (fun _ h9 => h9) rfl d_RT_call_26 ?_
    refine lv_bipush (v := nI 30) hx hb d_RT_call_29 (by decide) ?_
    refine xb_cne hx hb 44 (by decide) (by decide) d_RT_call_31 rfl (fun h => absurd h (by decide)) (fun _ => ?_)
    exact xt_throw (own := "RungTouches") (X := X_UOE) (tx := "the touch has 30 calls") (ic := 102) (ii := 98) (ix := 100) (names := xNames_UOE) (wc := [(aX, .inr (5, [.ref aR, .ref aM, .ref aG, .ref aL, .ref aU, .ref aP, .int (nI 30)])), (aM, .inr (1, [.ref aK, .int b1, .int b2, .int (nI ln)])), (aK, .inl (cI, 24, .inl mk))]) htr hx hb hlk hml hnoh hns hA hown (by decide +kernel) (by decide +kernel) (fun U hv9 hh9 => own_UOE (xu_TB hts hv9) (xu_E hg hS hv9 hh9)) (hts _ (List.mem_cons_of_mem _ k_470)) (hts _ (List.mem_cons_of_mem _ k_13)) (hg.2.2.2.2.2.2.2.2.2.1 (100, "the touch has 30 calls") (List.mem_of_getElem? (i := 2) rfl)) hP hD hS [0, 1, 2] (by decide) rfl hl.1 (Nat.le_of_ble_eq_true rfl) (Nat.le_of_ble_eq_true rfl) (Nat.le_of_ble_eq_true rfl) (Nat.le_of_ble_eq_true rfl) d_RT_call_34 d_RT_call_37 d_RT_call_38 d_RT_call_40 d_RT_call_43
  rw [hok] at h12
  cases h12
set_option maxHeartbeats 4000000 in
set_option maxRecDepth 100000 in
theorem c_RT_course_1 (aX : Nat) (aR : Nat) (aM : Nat) (aG : Nat) (aL : Nat) (aU : Nat) (aP : Nat) (ct : Nat) (aK : Nat) (mk : Nat → Int32) (b1 : Int32) (b2 : Int32) (htr : l.stackTraces = false) : CtT l y_RT_course (w_RT_course) ({ frames := 7, cells := 1, slots := 6, locals := 110 }) D vwCl (TYs cI cZ cJ cG) (gG tF) [.ref aX] [(aX, .inr (5, [.ref aR, .ref aM, .ref aG, .ref aL, .ref aU, .ref aP, .int (nI ct)])), (aM, .inr (1, [.ref aK, .int b1, .int b2, .int (nI 0)])), (aK, .inl (cI, 24, .inl mk))] 1 6 X_ISE := by
  refine CtT.of (cc := b_RT_course) (maxL := 1) (ret := (some .int)) (by decide) rfl (Nat.le_of_ble_eq_true rfl) ?_
  intro p e s m args below meth c A ls hF hnoh hns hA hP hK hD hg hS hl
  obtain ⟨hx, hb, hrt, hlk, hml, hown, hts, hnm⟩ := hF
  have hown : s.vm.findClass R_RT = some m.cls := hown
  have hl : lv_has ls 1 [(0, .ref aX)] := hl
  refine lv_aload_n hx hb d_RT_course_0 rfl (lv_at hl 0 rfl) ?_
  exact xt_up (wc := [(aX, .inr (5, [.ref aR, .ref aM, .ref aG, .ref aL, .ref aU, .ref aP, .int (nI ct)])), (aM, .inr (1, [.ref aK, .int b1, .int b2, .int (nI 0)])), (aK, .inl (cI, 24, .inl mk))]) (wr := []) (w0 := [(aX, .inr (5, [.ref aR, .ref aM, .ref aG, .ref aL, .ref aU, .ref aP, .int (nI ct)])), (aM, .inr (1, [.ref aK, .int b1, .int b2, .int (nI 0)])), (aK, .inl (cI, 24, .inl mk))]) (gG_ok tF) hK hP hD hS hA hg hlk hnoh [0, 1, 2] [] rfl rfl (by decide) (by decide) (by decide) [0, 1, 2] (by decide) rfl (fun h1 h2 => va_runVT (As := []) (rest := []) ⟨hx, hb, hml, hown, hts⟩ (c_RT_needMethod_t aX aR aM aG aL aU aP ct aK mk b1 b2 htr _) (cwV 0 hts (gV k_382 k_384 ks_RT_needMethod k_1 k_385) rfl rfl rfl (by decide +kernel) ⟨Nat.le_of_ble_eq_true rfl, Nat.le_of_ble_eq_true rfl⟩) ⟨h1, va_recv (q0 := 0) (ci := 5) hK hP rfl rfl, h2⟩ rfl rfl hl.1 rfl (lv_room (Nat.le_of_ble_eq_true rfl)) d_RT_course_1 ⟨Nat.le_of_ble_eq_true rfl, Nat.le_of_ble_eq_true rfl⟩)
set_option maxHeartbeats 4000000 in
set_option maxRecDepth 100000 in
theorem c_RT_false_1 (aX : Nat) (aR : Nat) (aM : Nat) (aG : Nat) (aL : Nat) (aU : Nat) (aP : Nat) (ct : Nat) (aK : Nat) (mk : Nat → Int32) (b1 : Int32) (b2 : Int32) (x : Int32) (y : Int32) (htr : l.stackTraces = false) : CtT l y_RT_falseLeads (w_RT_falseLeads) ({ frames := 7, cells := 1, slots := 6, locals := 110 }) D vwCl (TYs cI cZ cJ cG) (gG tF) [.ref aX, .int x, .int y] [(aX, .inr (5, [.ref aR, .ref aM, .ref aG, .ref aL, .ref aU, .ref aP, .int (nI ct)])), (aM, .inr (1, [.ref aK, .int b1, .int b2, .int (nI 0)])), (aK, .inl (cI, 24, .inl mk))] 1 6 X_ISE := by
  refine CtT.of (cc := b_RT_falseLeads) (maxL := 3) (ret := (some .boolean)) (by decide) rfl (Nat.le_of_ble_eq_true rfl) ?_
  intro p e s m args below meth c A ls hF hnoh hns hA hP hK hD hg hS hl
  obtain ⟨hx, hb, hrt, hlk, hml, hown, hts, hnm⟩ := hF
  have hown : s.vm.findClass R_RT = some m.cls := hown
  have hl : lv_has ls 3 [(0, .ref aX), (1, .int x), (2, .int y)] := hl
  refine lv_aload_n hx hb d_RT_falseLeads_0 rfl (lv_at hl 0 rfl) ?_
  exact xt_up (wc := [(aX, .inr (5, [.ref aR, .ref aM, .ref aG, .ref aL, .ref aU, .ref aP, .int (nI ct)])), (aM, .inr (1, [.ref aK, .int b1, .int b2, .int (nI 0)])), (aK, .inl (cI, 24, .inl mk))]) (wr := []) (w0 := [(aX, .inr (5, [.ref aR, .ref aM, .ref aG, .ref aL, .ref aU, .ref aP, .int (nI ct)])), (aM, .inr (1, [.ref aK, .int b1, .int b2, .int (nI 0)])), (aK, .inl (cI, 24, .inl mk))]) (gG_ok tF) hK hP hD hS hA hg hlk hnoh [0, 1, 2] [] rfl rfl (by decide) (by decide) (by decide) [0, 1, 2] (by decide) rfl (fun h1 h2 => va_runVT (As := []) (rest := []) ⟨hx, hb, hml, hown, hts⟩ (c_RT_needMethod_t aX aR aM aG aL aU aP ct aK mk b1 b2 htr _) (cwV 0 hts (gV k_382 k_384 ks_RT_needMethod k_1 k_385) rfl rfl rfl (by decide +kernel) ⟨Nat.le_of_ble_eq_true rfl, Nat.le_of_ble_eq_true rfl⟩) ⟨h1, va_recv (q0 := 0) (ci := 5) hK hP rfl rfl, h2⟩ rfl rfl hl.1 rfl (lv_room (Nat.le_of_ble_eq_true rfl)) d_RT_falseLeads_1 ⟨Nat.le_of_ble_eq_true rfl, Nat.le_of_ble_eq_true rfl⟩)
set_option maxHeartbeats 4000000 in
set_option maxRecDepth 100000 in
theorem c_RT_false_2 (aX : Nat) (aR : Nat) (aM : Nat) (aG : Nat) (aL : Nat) (aU : Nat) (aP : Nat) (ct : Nat) (aK : Nat) (aO : Nat) (mk : Nat → Int32) (b1 : Int32) (b2 : Int32) (ln : Nat) (n : Nat) (f : Nat → Int32) (x : Int32) (y : Int32) (htr : l.stackTraces = false) (hl1 : 1 ≤ ln) (hl2 : ln ≤ 24) (hn : nb n) (hno : (okr n x && okr n y) = false) : CtT l y_RT_falseLeads (w_RT_falseLeads) ({ frames := 6, cells := 1, slots := 6, locals := 90 }) D vwCl (TYs cI cZ cJ cG) (gG tF) [.ref aX, .int x, .int y] [(aX, .inr (5, [.ref aR, .ref aM, .ref aG, .ref aL, .ref aU, .ref aP, .int (nI ct)])), (aM, .inr (1, [.ref aK, .int b1, .int b2, .int (nI ln)])), (aK, .inl (cI, 24, .inl mk)), (aR, .inr (3, [.ref aO, .int (nI n)])), (aO, .inl (cI, 6, .inl f))] 1 6 X_IAE := by
  refine CtT.of (cc := b_RT_falseLeads) (maxL := 3) (ret := (some .boolean)) (by decide) rfl (Nat.le_of_ble_eq_true rfl) ?_
  intro p e s m args below meth c A ls hF hnoh hns hA hP hK hD hg hS hl
  obtain ⟨hx, hb, hrt, hlk, hml, hown, hts, hnm⟩ := hF
  have hown : s.vm.findClass R_RT = some m.cls := hown
  have hl : lv_has ls 3 [(0, .ref aX), (1, .int x), (2, .int y)] := hl
  refine lv_aload_n hx hb d_RT_falseLeads_0 rfl (lv_at hl 0 rfl) ?_
  refine xc_v (wc := [(aX, .inr (5, [.ref aR, .ref aM, .ref aG, .ref aL, .ref aU, .ref aP, .int (nI ct)])), (aM, .inr (1, [.ref aK, .int b1, .int b2, .int (nI ln)])), (aK, .inl (cI, 24, .inl mk))]) (wr := [(aR, .inr (3, [.ref aO, .int (nI n)])), (aO, .inl (cI, 6, .inl f))]) (gG_ok tF) hK hP hD hS hA hg [0, 1, 2] [3, 4] rfl rfl (by decide) (by decide) (by decide) (fun h1 h2 => va_runV (As := []) (rest := []) ⟨hx, hb, hml, hown, hts⟩ (c_RT_needMethod aX aR aM aG aL aU aP ct aK mk b1 b2 ln (by first | assumption | omega) (by first | assumption | omega) _) (cwV 0 hts (gV k_382 k_384 ks_RT_needMethod k_1 k_385) rfl rfl rfl (by decide +kernel) ⟨Nat.le_of_ble_eq_true rfl, Nat.le_of_ble_eq_true rfl⟩) ⟨h1, va_recv (q0 := 0) (ci := 5) hK hP rfl rfl, h2⟩ rfl rfl hl.1 rfl (lv_room (Nat.le_of_ble_eq_true rfl)) d_RT_falseLeads_1 ⟨Nat.zero_le _, Nat.zero_le _⟩) (fun u H locs hq9 hP hD hS => ?_)
  have hP : va_P D vwCl [(aR, .inr (3, [.ref aO, .int (nI n)])), (aO, .inl (cI, 6, .inl f)), (aX, .inr (5, [.ref aR, .ref aM, .ref aG, .ref aL, .ref aU, .ref aP, .int (nI ct)])), (aM, .inr (1, [.ref aK, .int b1, .int b2, .int (nI ln)])), (aK, .inl (cI, 24, .inl mk))] H := hP
  have hD : va_D A [(aR, .inr (3, [.ref aO, .int (nI n)])), (aO, .inl (cI, 6, .inl f)), (aX, .inr (5, [.ref aR, .ref aM, .ref aG, .ref aL, .ref aU, .ref aP, .int (nI ct)])), (aM, .inr (1, [.ref aK, .int b1, .int b2, .int (nI ln)])), (aK, .inl (cI, 24, .inl mk))] := hD
  refine lv_aload_n hx hb d_RT_falseLeads_4 rfl (lv_at hl 0 rfl) ?_
  refine va_get (D := D) (ci := 5) (v := .ref aR) (C := R_RT) (T := F_RT) (N := 7) hx hb hts in_RT hown hK hP 2 rfl rfl 0 (by decide) (hts _ (List.mem_cons_of_mem _ k_146)) (fun _ h9 => h9) rfl d_RT_falseLeads_5 ?_
  refine lv_iload_n hx hb d_RT_falseLeads_8 rfl (lv_at hl 1 rfl) ?_
  refine xc_i (wc := [(aR, .inr (3, [.ref aO, .int (nI n)])), (aO, .inl (cI, 6, .inl f))]) (wr := [(aX, .inr (5, [.ref aR, .ref aM, .ref aG, .ref aL, .ref aU, .ref aP, .int (nI ct)])), (aM, .inr (1, [.ref aK, .int b1, .int b2, .int (nI ln)])), (aK, .inl (cI, 24, .inl mk))]) (gG_ok tF) hK hP hD hS hA hg [0, 1] [2, 3, 4] rfl rfl (by decide) (by decide) (by decide) (fun h1 h2 => va_runV (As := [.int x]) (rest := []) ⟨hx, hb, hml, hown, hts⟩ (c_Row_canHaveRank aR aO n f x hn _) (cwV 1 hts (gV k_345 k_346 k_347 k_2 k_348) rfl rfl rfl (by decide +kernel) ⟨Nat.le_of_ble_eq_true rfl, Nat.le_of_ble_eq_true rfl⟩) ⟨h1, va_recv (q0 := 0) (ci := 3) hK hP rfl rfl, h2⟩ rfl rfl hl.1 rfl (lv_room (Nat.le_of_ble_eq_true rfl)) d_RT_falseLeads_9 ⟨Nat.zero_le _, Nat.zero_le _⟩) (fun r u H locs hq9 hP hD hS => ?_)
  obtain rfl := hq9
  have hP : va_P D vwCl [(aX, .inr (5, [.ref aR, .ref aM, .ref aG, .ref aL, .ref aU, .ref aP, .int (nI ct)])), (aM, .inr (1, [.ref aK, .int b1, .int b2, .int (nI ln)])), (aK, .inl (cI, 24, .inl mk)), (aR, .inr (3, [.ref aO, .int (nI n)])), (aO, .inl (cI, 6, .inl f))] H := hP
  have hD : va_D A [(aX, .inr (5, [.ref aR, .ref aM, .ref aG, .ref aL, .ref aU, .ref aP, .int (nI ct)])), (aM, .inr (1, [.ref aK, .int b1, .int b2, .int (nI ln)])), (aK, .inl (cI, 24, .inl mk)), (aR, .inr (3, [.ref aO, .int (nI n)])), (aO, .inl (cI, 6, .inl f))] := hD
  refine xb_eqB (x := okr n x) hx hb 26 d_RT_falseLeads_12 rfl (fun h12 => ?_) (fun h12 => ?_)
  · skip
    exact xt_throw (own := "RungTouches") (X := X_IAE) (tx := "no such rank") (ic := 95) (ii := 91) (ix := 142) (names := xNames_IAE) (wc := [(aX, .inr (5, [.ref aR, .ref aM, .ref aG, .ref aL, .ref aU, .ref aP, .int (nI ct)])), (aM, .inr (1, [.ref aK, .int b1, .int b2, .int (nI ln)])), (aK, .inl (cI, 24, .inl mk)), (aR, .inr (3, [.ref aO, .int (nI n)])), (aO, .inl (cI, 6, .inl f))]) htr hx hb hlk hml hnoh hns hA hown (by decide +kernel) (by decide +kernel) (fun U hv9 hh9 => own_IAE (xu_TB hts hv9) (xu_E hg hS hv9 hh9)) (hts _ (List.mem_cons_of_mem _ k_454)) (hts _ (List.mem_cons_of_mem _ k_12)) (hg.2.2.2.2.2.2.2.2.2.1 (142, "no such rank") (List.mem_of_getElem? (i := 3) rfl)) hP hD hS [0, 1, 2, 3, 4] (by decide) rfl hl.1 (Nat.le_of_ble_eq_true rfl) (Nat.le_of_ble_eq_true rfl) (Nat.le_of_ble_eq_true rfl) (Nat.le_of_ble_eq_true rfl) d_RT_falseLeads_26 d_RT_falseLeads_29 d_RT_falseLeads_30 d_RT_falseLeads_32 d_RT_falseLeads_35
  refine lv_aload_n hx hb d_RT_falseLeads_15 rfl (lv_at hl 0 rfl) ?_
  refine va_get (D := D) (ci := 5) (v := .ref aR) (C := R_RT) (T := F_RT) (N := 7) hx hb hts in_RT hown hK hP 0 rfl rfl 0 (by decide) (hts _ (List.mem_cons_of_mem _ k_146)) (fun _ h9 => h9) rfl d_RT_falseLeads_16 ?_
  refine lv_iload_n hx hb d_RT_falseLeads_19 rfl (lv_at hl 2 rfl) ?_
  refine xc_i (wc := [(aR, .inr (3, [.ref aO, .int (nI n)])), (aO, .inl (cI, 6, .inl f))]) (wr := [(aX, .inr (5, [.ref aR, .ref aM, .ref aG, .ref aL, .ref aU, .ref aP, .int (nI ct)])), (aM, .inr (1, [.ref aK, .int b1, .int b2, .int (nI ln)])), (aK, .inl (cI, 24, .inl mk))]) (gG_ok tF) hK hP hD hS hA hg [3, 4] [0, 1, 2] rfl rfl (by decide) (by decide) (by decide) (fun h1 h2 => va_runV (As := [.int y]) (rest := []) ⟨hx, hb, hml, hown, hts⟩ (c_Row_canHaveRank aR aO n f y hn _) (cwV 1 hts (gV k_345 k_346 k_347 k_2 k_348) rfl rfl rfl (by decide +kernel) ⟨Nat.le_of_ble_eq_true rfl, Nat.le_of_ble_eq_true rfl⟩) ⟨h1, va_recv (q0 := 3) (ci := 3) hK hP rfl rfl, h2⟩ rfl rfl hl.1 rfl (lv_room (Nat.le_of_ble_eq_true rfl)) d_RT_falseLeads_20 ⟨Nat.zero_le _, Nat.zero_le _⟩) (fun r u H locs hq9 hP hD hS => ?_)
  obtain rfl := hq9
  have hP : va_P D vwCl [(aX, .inr (5, [.ref aR, .ref aM, .ref aG, .ref aL, .ref aU, .ref aP, .int (nI ct)])), (aM, .inr (1, [.ref aK, .int b1, .int b2, .int (nI ln)])), (aK, .inl (cI, 24, .inl mk)), (aR, .inr (3, [.ref aO, .int (nI n)])), (aO, .inl (cI, 6, .inl f))] H := hP
  have hD : va_D A [(aX, .inr (5, [.ref aR, .ref aM, .ref aG, .ref aL, .ref aU, .ref aP, .int (nI ct)])), (aM, .inr (1, [.ref aK, .int b1, .int b2, .int (nI ln)])), (aK, .inl (cI, 24, .inl mk)), (aR, .inr (3, [.ref aO, .int (nI n)])), (aO, .inl (cI, 6, .inl f))] := hD
  refine xb_neB (x := okr n y) hx hb 36 d_RT_falseLeads_23 rfl (fun h23 => ?_) (fun h23 => ?_)
  · skip
    rw [h12, h23] at hno
    cases hno
  exact xt_throw (own := "RungTouches") (X := X_IAE) (tx := "no such rank") (ic := 95) (ii := 91) (ix := 142) (names := xNames_IAE) (wc := [(aX, .inr (5, [.ref aR, .ref aM, .ref aG, .ref aL, .ref aU, .ref aP, .int (nI ct)])), (aM, .inr (1, [.ref aK, .int b1, .int b2, .int (nI ln)])), (aK, .inl (cI, 24, .inl mk)), (aR, .inr (3, [.ref aO, .int (nI n)])), (aO, .inl (cI, 6, .inl f))]) htr hx hb hlk hml hnoh hns hA hown (by decide +kernel) (by decide +kernel) (fun U hv9 hh9 => own_IAE (xu_TB hts hv9) (xu_E hg hS hv9 hh9)) (hts _ (List.mem_cons_of_mem _ k_454)) (hts _ (List.mem_cons_of_mem _ k_12)) (hg.2.2.2.2.2.2.2.2.2.1 (142, "no such rank") (List.mem_of_getElem? (i := 3) rfl)) hP hD hS [0, 1, 2, 3, 4] (by decide) rfl hl.1 (Nat.le_of_ble_eq_true rfl) (Nat.le_of_ble_eq_true rfl) (Nat.le_of_ble_eq_true rfl) (Nat.le_of_ble_eq_true rfl) d_RT_falseLeads_26 d_RT_falseLeads_29 d_RT_falseLeads_30 d_RT_falseLeads_32 d_RT_falseLeads_35
set_option maxHeartbeats 4000000 in
set_option maxRecDepth 100000 in
theorem c_RT_search_1 (aX : Nat) (aR : Nat) (aM : Nat) (aG : Nat) (aL : Nat) (aU : Nat) (aP : Nat) (ct : Nat) (aK : Nat) (mk : Nat → Int32) (b1 : Int32) (b2 : Int32) (x : Int32) (y : Int32) (z : Int32) (htr : l.stackTraces = false) : CtT l y_RT_search (w_RT_search) ({ frames := 7, cells := 1, slots := 6, locals := 110 }) D vwCl (TYs cI cZ cJ cG) (gG tF) [.ref aX, .int x, .int y, .int z] [(aX, .inr (5, [.ref aR, .ref aM, .ref aG, .ref aL, .ref aU, .ref aP, .int (nI ct)])), (aM, .inr (1, [.ref aK, .int b1, .int b2, .int (nI 0)])), (aK, .inl (cI, 24, .inl mk))] 1 6 X_ISE := by
  refine CtT.of (cc := b_RT_search) (maxL := 4) (ret := (some .int)) (by decide) rfl (Nat.le_of_ble_eq_true rfl) ?_
  intro p e s m args below meth c A ls hF hnoh hns hA hP hK hD hg hS hl
  obtain ⟨hx, hb, hrt, hlk, hml, hown, hts, hnm⟩ := hF
  have hown : s.vm.findClass R_RT = some m.cls := hown
  have hl : lv_has ls 4 [(0, .ref aX), (1, .int x), (2, .int y), (3, .int z)] := hl
  refine lv_aload_n hx hb d_RT_search_0 rfl (lv_at hl 0 rfl) ?_
  exact xt_up (wc := [(aX, .inr (5, [.ref aR, .ref aM, .ref aG, .ref aL, .ref aU, .ref aP, .int (nI ct)])), (aM, .inr (1, [.ref aK, .int b1, .int b2, .int (nI 0)])), (aK, .inl (cI, 24, .inl mk))]) (wr := []) (w0 := [(aX, .inr (5, [.ref aR, .ref aM, .ref aG, .ref aL, .ref aU, .ref aP, .int (nI ct)])), (aM, .inr (1, [.ref aK, .int b1, .int b2, .int (nI 0)])), (aK, .inl (cI, 24, .inl mk))]) (gG_ok tF) hK hP hD hS hA hg hlk hnoh [0, 1, 2] [] rfl rfl (by decide) (by decide) (by decide) [0, 1, 2] (by decide) rfl (fun h1 h2 => va_runVT (As := []) (rest := []) ⟨hx, hb, hml, hown, hts⟩ (c_RT_needMethod_t aX aR aM aG aL aU aP ct aK mk b1 b2 htr _) (cwV 0 hts (gV k_382 k_384 ks_RT_needMethod k_1 k_385) rfl rfl rfl (by decide +kernel) ⟨Nat.le_of_ble_eq_true rfl, Nat.le_of_ble_eq_true rfl⟩) ⟨h1, va_recv (q0 := 0) (ci := 5) hK hP rfl rfl, h2⟩ rfl rfl hl.1 rfl (lv_room (Nat.le_of_ble_eq_true rfl)) d_RT_search_1 ⟨Nat.le_of_ble_eq_true rfl, Nat.le_of_ble_eq_true rfl⟩)
set_option maxHeartbeats 4000000 in
set_option maxRecDepth 100000 in
theorem c_RT_search_2 (aX : Nat) (aR : Nat) (aM : Nat) (aG : Nat) (aL : Nat) (aU : Nat) (aP : Nat) (ct : Nat) (aK : Nat) (mk : Nat → Int32) (b1 : Int32) (b2 : Int32) (ln : Nat) (x : Int32) (y : Int32) (z : Int32) (htr : l.stackTraces = false) (hl1 : 1 ≤ ln) (hl2 : ln ≤ 24) (hno : slk x y z = false) : CtT l y_RT_search (w_RT_search) ({ frames := 7, cells := 1, slots := 6, locals := 112 }) D vwCl (TYs cI cZ cJ cG) (gG tF) [.ref aX, .int x, .int y, .int z] [(aX, .inr (5, [.ref aR, .ref aM, .ref aG, .ref aL, .ref aU, .ref aP, .int (nI ct)])), (aM, .inr (1, [.ref aK, .int b1, .int b2, .int (nI ln)])), (aK, .inl (cI, 24, .inl mk))] 1 6 X_IAE := by
  refine CtT.of (cc := b_RT_search) (maxL := 4) (ret := (some .int)) (by decide) rfl (Nat.le_of_ble_eq_true rfl) ?_
  intro p e s m args below meth c A ls hF hnoh hns hA hP hK hD hg hS hl
  obtain ⟨hx, hb, hrt, hlk, hml, hown, hts, hnm⟩ := hF
  have hown : s.vm.findClass R_RT = some m.cls := hown
  have hl : lv_has ls 4 [(0, .ref aX), (1, .int x), (2, .int y), (3, .int z)] := hl
  refine lv_aload_n hx hb d_RT_search_0 rfl (lv_at hl 0 rfl) ?_
  refine xc_v (wc := [(aX, .inr (5, [.ref aR, .ref aM, .ref aG, .ref aL, .ref aU, .ref aP, .int (nI ct)])), (aM, .inr (1, [.ref aK, .int b1, .int b2, .int (nI ln)])), (aK, .inl (cI, 24, .inl mk))]) (wr := []) (gG_ok tF) hK hP hD hS hA hg [0, 1, 2] [] rfl rfl (by decide) (by decide) (by decide) (fun h1 h2 => va_runV (As := []) (rest := []) ⟨hx, hb, hml, hown, hts⟩ (c_RT_needMethod aX aR aM aG aL aU aP ct aK mk b1 b2 ln (by first | assumption | omega) (by first | assumption | omega) _) (cwV 0 hts (gV k_382 k_384 ks_RT_needMethod k_1 k_385) rfl rfl rfl (by decide +kernel) ⟨Nat.le_of_ble_eq_true rfl, Nat.le_of_ble_eq_true rfl⟩) ⟨h1, va_recv (q0 := 0) (ci := 5) hK hP rfl rfl, h2⟩ rfl rfl hl.1 rfl (lv_room (Nat.le_of_ble_eq_true rfl)) d_RT_search_1 ⟨Nat.zero_le _, Nat.zero_le _⟩) (fun u H locs hq9 hP hD hS => ?_)
  have hP : va_P D vwCl [(aX, .inr (5, [.ref aR, .ref aM, .ref aG, .ref aL, .ref aU, .ref aP, .int (nI ct)])), (aM, .inr (1, [.ref aK, .int b1, .int b2, .int (nI ln)])), (aK, .inl (cI, 24, .inl mk))] H := hP
  have hD : va_D A [(aX, .inr (5, [.ref aR, .ref aM, .ref aG, .ref aL, .ref aU, .ref aP, .int (nI ct)])), (aM, .inr (1, [.ref aK, .int b1, .int b2, .int (nI ln)])), (aK, .inl (cI, 24, .inl mk))] := hD
  refine lv_iload_n hx hb d_RT_search_4 rfl (lv_at hl 1 rfl) ?_
  refine lv_iload_n hx hb d_RT_search_5 rfl (lv_at hl 2 rfl) ?_
  refine lv_iload_n hx hb d_RT_search_6 rfl (lv_at hl 3 rfl) ?_
  exact xt_up (wc := []) (wr := [(aX, .inr (5, [.ref aR, .ref aM, .ref aG, .ref aL, .ref aU, .ref aP, .int (nI ct)])), (aM, .inr (1, [.ref aK, .int b1, .int b2, .int (nI ln)])), (aK, .inl (cI, 24, .inl mk))]) (w0 := [(aX, .inr (5, [.ref aR, .ref aM, .ref aG, .ref aL, .ref aU, .ref aP, .int (nI ct)])), (aM, .inr (1, [.ref aK, .int b1, .int b2, .int (nI ln)])), (aK, .inl (cI, 24, .inl mk))]) (gG_ok tF) hK hP hD hS hA hg hlk hnoh [] [0, 1, 2] rfl rfl (by decide) (by decide) (by decide) [0, 1, 2] (by decide) rfl (fun h1 h2 => va_runST (As := [.int x, .int y, .int z]) (rest := []) ⟨hx, hb, hml, hown, hts⟩ (c_RT_needLimits_t x y z htr hno _) (va_cwS 3 hts (gS k_516 k_517 k_1 k_518) rfl rfl rfl (by decide +kernel) ⟨Nat.le_of_ble_eq_true rfl, Nat.le_of_ble_eq_true rfl⟩) ⟨h1, h2⟩ rfl rfl hl.1 rfl (lv_room (Nat.le_of_ble_eq_true rfl)) d_RT_search_7 ⟨Nat.le_of_ble_eq_true rfl, Nat.le_of_ble_eq_true rfl⟩)
set_option maxHeartbeats 4000000 in
set_option maxRecDepth 100000 in
theorem c_RT_count_1 (aX : Nat) (aR : Nat) (aM : Nat) (aG : Nat) (aL : Nat) (aU : Nat) (aP : Nat) (ct : Nat) (aK : Nat) (mk : Nat → Int32) (b1 : Int32) (b2 : Int32) (x : Int32) (y : Int32) (htr : l.stackTraces = false) : CtT l y_RT_count (w_RT_count) ({ frames := 7, cells := 1, slots := 6, locals := 110 }) D vwCl (TYs cI cZ cJ cG) (gG tF) [.ref aX, .int x, .int y] [(aX, .inr (5, [.ref aR, .ref aM, .ref aG, .ref aL, .ref aU, .ref aP, .int (nI ct)])), (aM, .inr (1, [.ref aK, .int b1, .int b2, .int (nI 0)])), (aK, .inl (cI, 24, .inl mk))] 1 6 X_ISE := by
  refine CtT.of (cc := b_RT_count) (maxL := 3) (ret := (some .int)) (by decide) rfl (Nat.le_of_ble_eq_true rfl) ?_
  intro p e s m args below meth c A ls hF hnoh hns hA hP hK hD hg hS hl
  obtain ⟨hx, hb, hrt, hlk, hml, hown, hts, hnm⟩ := hF
  have hown : s.vm.findClass R_RT = some m.cls := hown
  have hl : lv_has ls 3 [(0, .ref aX), (1, .int x), (2, .int y)] := hl
  refine lv_aload_n hx hb d_RT_count_0 rfl (lv_at hl 0 rfl) ?_
  exact xt_up (wc := [(aX, .inr (5, [.ref aR, .ref aM, .ref aG, .ref aL, .ref aU, .ref aP, .int (nI ct)])), (aM, .inr (1, [.ref aK, .int b1, .int b2, .int (nI 0)])), (aK, .inl (cI, 24, .inl mk))]) (wr := []) (w0 := [(aX, .inr (5, [.ref aR, .ref aM, .ref aG, .ref aL, .ref aU, .ref aP, .int (nI ct)])), (aM, .inr (1, [.ref aK, .int b1, .int b2, .int (nI 0)])), (aK, .inl (cI, 24, .inl mk))]) (gG_ok tF) hK hP hD hS hA hg hlk hnoh [0, 1, 2] [] rfl rfl (by decide) (by decide) (by decide) [0, 1, 2] (by decide) rfl (fun h1 h2 => va_runVT (As := []) (rest := []) ⟨hx, hb, hml, hown, hts⟩ (c_RT_needMethod_t aX aR aM aG aL aU aP ct aK mk b1 b2 htr _) (cwV 0 hts (gV k_382 k_384 ks_RT_needMethod k_1 k_385) rfl rfl rfl (by decide +kernel) ⟨Nat.le_of_ble_eq_true rfl, Nat.le_of_ble_eq_true rfl⟩) ⟨h1, va_recv (q0 := 0) (ci := 5) hK hP rfl rfl, h2⟩ rfl rfl hl.1 rfl (lv_room (Nat.le_of_ble_eq_true rfl)) d_RT_count_1 ⟨Nat.le_of_ble_eq_true rfl, Nat.le_of_ble_eq_true rfl⟩)
set_option maxHeartbeats 4000000 in
set_option maxRecDepth 100000 in
theorem c_RT_count_2 (aX : Nat) (aR : Nat) (aM : Nat) (aG : Nat) (aL : Nat) (aU : Nat) (aP : Nat) (ct : Nat) (aK : Nat) (mk : Nat → Int32) (b1 : Int32) (b2 : Int32) (ln : Nat) (x : Int32) (y : Int32) (htr : l.stackTraces = false) (hl1 : 1 ≤ ln) (hl2 : ln ≤ 24) (hno : slk x x y = false) : CtT l y_RT_count (w_RT_count) ({ frames := 7, cells := 1, slots := 6, locals := 112 }) D vwCl (TYs cI cZ cJ cG) (gG tF) [.ref aX, .int x, .int y] [(aX, .inr (5, [.ref aR, .ref aM, .ref aG, .ref aL, .ref aU, .ref aP, .int (nI ct)])), (aM, .inr (1, [.ref aK, .int b1, .int b2, .int (nI ln)])), (aK, .inl (cI, 24, .inl mk))] 1 6 X_IAE := by
  refine CtT.of (cc := b_RT_count) (maxL := 3) (ret := (some .int)) (by decide) rfl (Nat.le_of_ble_eq_true rfl) ?_
  intro p e s m args below meth c A ls hF hnoh hns hA hP hK hD hg hS hl
  obtain ⟨hx, hb, hrt, hlk, hml, hown, hts, hnm⟩ := hF
  have hown : s.vm.findClass R_RT = some m.cls := hown
  have hl : lv_has ls 3 [(0, .ref aX), (1, .int x), (2, .int y)] := hl
  refine lv_aload_n hx hb d_RT_count_0 rfl (lv_at hl 0 rfl) ?_
  refine xc_v (wc := [(aX, .inr (5, [.ref aR, .ref aM, .ref aG, .ref aL, .ref aU, .ref aP, .int (nI ct)])), (aM, .inr (1, [.ref aK, .int b1, .int b2, .int (nI ln)])), (aK, .inl (cI, 24, .inl mk))]) (wr := []) (gG_ok tF) hK hP hD hS hA hg [0, 1, 2] [] rfl rfl (by decide) (by decide) (by decide) (fun h1 h2 => va_runV (As := []) (rest := []) ⟨hx, hb, hml, hown, hts⟩ (c_RT_needMethod aX aR aM aG aL aU aP ct aK mk b1 b2 ln (by first | assumption | omega) (by first | assumption | omega) _) (cwV 0 hts (gV k_382 k_384 ks_RT_needMethod k_1 k_385) rfl rfl rfl (by decide +kernel) ⟨Nat.le_of_ble_eq_true rfl, Nat.le_of_ble_eq_true rfl⟩) ⟨h1, va_recv (q0 := 0) (ci := 5) hK hP rfl rfl, h2⟩ rfl rfl hl.1 rfl (lv_room (Nat.le_of_ble_eq_true rfl)) d_RT_count_1 ⟨Nat.zero_le _, Nat.zero_le _⟩) (fun u H locs hq9 hP hD hS => ?_)
  have hP : va_P D vwCl [(aX, .inr (5, [.ref aR, .ref aM, .ref aG, .ref aL, .ref aU, .ref aP, .int (nI ct)])), (aM, .inr (1, [.ref aK, .int b1, .int b2, .int (nI ln)])), (aK, .inl (cI, 24, .inl mk))] H := hP
  have hD : va_D A [(aX, .inr (5, [.ref aR, .ref aM, .ref aG, .ref aL, .ref aU, .ref aP, .int (nI ct)])), (aM, .inr (1, [.ref aK, .int b1, .int b2, .int (nI ln)])), (aK, .inl (cI, 24, .inl mk))] := hD
  refine lv_iload_n hx hb d_RT_count_4 rfl (lv_at hl 1 rfl) ?_
  refine lv_iload_n hx hb d_RT_count_5 rfl (lv_at hl 1 rfl) ?_
  refine lv_iload_n hx hb d_RT_count_6 rfl (lv_at hl 2 rfl) ?_
  exact xt_up (wc := []) (wr := [(aX, .inr (5, [.ref aR, .ref aM, .ref aG, .ref aL, .ref aU, .ref aP, .int (nI ct)])), (aM, .inr (1, [.ref aK, .int b1, .int b2, .int (nI ln)])), (aK, .inl (cI, 24, .inl mk))]) (w0 := [(aX, .inr (5, [.ref aR, .ref aM, .ref aG, .ref aL, .ref aU, .ref aP, .int (nI ct)])), (aM, .inr (1, [.ref aK, .int b1, .int b2, .int (nI ln)])), (aK, .inl (cI, 24, .inl mk))]) (gG_ok tF) hK hP hD hS hA hg hlk hnoh [] [0, 1, 2] rfl rfl (by decide) (by decide) (by decide) [0, 1, 2] (by decide) rfl (fun h1 h2 => va_runST (As := [.int x, .int x, .int y]) (rest := []) ⟨hx, hb, hml, hown, hts⟩ (c_RT_needLimits_t x x y htr hno _) (va_cwS 3 hts (gS k_516 k_517 k_1 k_518) rfl rfl rfl (by decide +kernel) ⟨Nat.le_of_ble_eq_true rfl, Nat.le_of_ble_eq_true rfl⟩) ⟨h1, h2⟩ rfl rfl hl.1 rfl (lv_room (Nat.le_of_ble_eq_true rfl)) d_RT_count_7 ⟨Nat.le_of_ble_eq_true rfl, Nat.le_of_ble_eq_true rfl⟩)
end
