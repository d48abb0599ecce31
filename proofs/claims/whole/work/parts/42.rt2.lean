section
variable {l : Launch} {D : va_G} {cI cZ cJ cG : ClassId} {tF : Nat}
set_option maxHeartbeats 4000000 in
set_option maxRecDepth 100000 in
theorem c_Look_forget (aL : Nat) (aM : Nat) (aG : Nat) (aT : Nat) (lc : Nat) (le : Nat) (mo : Nat) (bu : Nat) (on : Bool) (la : Nat) (fo : Nat) (sp : Bool)  : CtV l y_Look_forget (w_Look_forget) ({ frames := 0, cells := 0, slots := 0, locals := 0 }) D vwCl (TYs cI cZ cJ cG) (gG tF) [.ref aL] [(aL, .inr (0, [.ref aM, .ref aG, .ref aT, .int (nI lc), .int (nI le), .int (nI mo), .int (nI bu), .int (nI on.toNat), .int (nI la), .int (nI fo), .int (nI sp.toNat)]))] 0 0 (fun _ : Unit => [(aL, .inr (0, [.ref aM, .ref aG, .ref aT, .int (nI lc), .int (nI le), .int (nI mo), .int (nI bu), .int (nI on.toNat), .int (nI 0), .int (nI fo), .int (nI sp.toNat)]))]) (fun _ : Unit => True) := by
  refine CtV.of (cc := b_Look_forget) (maxL := 1) (ret := none) (by decide) rfl (Nat.le_of_ble_eq_true rfl) ?_
  intro p e s m args below meth c A ls hF hA hP hK hD hg hS hl
  obtain ⟨hx, hb, hrt, hlk, hml, hown, hts, hnm⟩ := hF
  have hown : s.vm.findClass R_Look = some m.cls := hown
  have hl : lv_has ls 1 [(0, .ref aL)] := hl
  refine lv_aload_n hx hb d_Look_forget_0 rfl (lv_at hl 0 rfl) ?_
  refine lv_iconst (v := nI 0) hx hb d_Look_forget_1 (by decide) ?_
  refine va_put (D := D) (ci := 0) (v := .int (nI 0)) (ty := .int) (C := R_Look) (T := F_Look) (N := 11) hx hb hts in_Look t_Look t_Look_ok n_Look hown hK hP hD hS 0 rfl rfl 8 (by decide) (hts _ (List.mem_cons_of_mem _ k_102)) (fun _ h9 => h9) rfl (by decide +kernel) rfl rfl (Nat.le_of_ble_eq_true rfl) d_Look_forget_2 (fun H locs hP hD hS => ?_)
  have hP : va_P D vwCl [(aL, .inr (0, [.ref aM, .ref aG, .ref aT, .int (nI lc), .int (nI le), .int (nI mo), .int (nI bu), .int (nI on.toNat), .int (nI 0), .int (nI fo), .int (nI sp.toNat)]))] H := hP
  have hD : va_D A [(aL, .inr (0, [.ref aM, .ref aG, .ref aT, .int (nI lc), .int (nI le), .int (nI mo), .int (nI bu), .int (nI on.toNat), .int (nI 0), .int (nI fo), .int (nI sp.toNat)]))] := hD
  exact xr_v hx hb hrt hlk hP hD hS () [0] (by decide) rfl trivial d_Look_forget_5
set_option maxHeartbeats 4000000 in
set_option maxRecDepth 100000 in
theorem c_Look_looked (aL : Nat) (aM : Nat) (aG : Nat) (aT : Nat) (lc : Nat) (le : Nat) (mo : Nat) (bu : Nat) (on : Bool) (la : Nat) (fo : Nat) (sp : Bool)  : CtI l y_Look_lookedLists (w_Look_lookedLists) ({ frames := 0, cells := 0, slots := 0, locals := 0 }) D vwCl (TYs cI cZ cJ cG) (gG tF) [.ref aL] [(aL, .inr (0, [.ref aM, .ref aG, .ref aT, .int (nI lc), .int (nI le), .int (nI mo), .int (nI bu), .int (nI on.toNat), .int (nI la), .int (nI fo), .int (nI sp.toNat)]))] 0 0 (fun _ : Unit => [(aL, .inr (0, [.ref aM, .ref aG, .ref aT, .int (nI lc), .int (nI le), .int (nI mo), .int (nI bu), .int (nI on.toNat), .int (nI la), .int (nI fo), .int (nI sp.toNat)]))]) (fun (r : Int32) (_ : Unit) => r = nI la) := by
  refine CtI.of (cc := b_Look_lookedLists) (maxL := 1) (ret := (some .int)) (by decide) rfl (Nat.le_of_ble_eq_true rfl) ?_
  intro p e s m args below meth c A ls hF hA hP hK hD hg hS hl
  obtain ⟨hx, hb, hrt, hlk, hml, hown, hts, hnm⟩ := hF
  have hown : s.vm.findClass R_Look = some m.cls := hown
  have hl : lv_has ls 1 [(0, .ref aL)] := hl
  refine lv_aload_n hx hb d_Look_lookedLists_0 rfl (lv_at hl 0 rfl) ?_
  refine va_get (D := D) (ci := 0) (v := .int (nI la)) (C := R_Look) (T := F_Look) (N := 11) hx hb hts in_Look hown hK hP 0 rfl rfl 8 (by decide) (hts _ (List.mem_cons_of_mem _ k_102)) (fun _ h9 => h9) rfl d_Look_lookedLists_1 ?_
  exact xr_i hx hb hrt hlk rfl hP hD hS () [0] (by decide) rfl rfl d_Look_lookedLists_4
set_option maxHeartbeats 4000000 in
set_option maxRecDepth 100000 in
theorem c_Look_found (aL : Nat) (aM : Nat) (aG : Nat) (aT : Nat) (lc : Nat) (le : Nat) (mo : Nat) (bu : Nat) (on : Bool) (la : Nat) (fo : Nat) (sp : Bool)  : CtI l y_Look_foundLists (w_Look_foundLists) ({ frames := 0, cells := 0, slots := 0, locals := 0 }) D vwCl (TYs cI cZ cJ cG) (gG tF) [.ref aL] [(aL, .inr (0, [.ref aM, .ref aG, .ref aT, .int (nI lc), .int (nI le), .int (nI mo), .int (nI bu), .int (nI on.toNat), .int (nI la), .int (nI fo), .int (nI sp.toNat)]))] 0 0 (fun _ : Unit => [(aL, .inr (0, [.ref aM, .ref aG, .ref aT, .int (nI lc), .int (nI le), .int (nI mo), .int (nI bu), .int (nI on.toNat), .int (nI la), .int (nI fo), .int (nI sp.toNat)]))]) (fun (r : Int32) (_ : Unit) => r = nI fo) := by
  refine CtI.of (cc := b_Look_foundLists) (maxL := 1) (ret := (some .int)) (by decide) rfl (Nat.le_of_ble_eq_true rfl) ?_
  intro p e s m args below meth c A ls hF hA hP hK hD hg hS hl
  obtain ⟨hx, hb, hrt, hlk, hml, hown, hts, hnm⟩ := hF
  have hown : s.vm.findClass R_Look = some m.cls := hown
  have hl : lv_has ls 1 [(0, .ref aL)] := hl
  refine lv_aload_n hx hb d_Look_foundLists_0 rfl (lv_at hl 0 rfl) ?_
  refine va_get (D := D) (ci := 0) (v := .int (nI fo)) (C := R_Look) (T := F_Look) (N := 11) hx hb hts in_Look hown hK hP 0 rfl rfl 9 (by decide) (hts _ (List.mem_cons_of_mem _ k_103)) (fun _ h9 => h9) rfl d_Look_foundLists_1 ?_
  exact xr_i hx hb hrt hlk rfl hP hD hS () [0] (by decide) rfl rfl d_Look_foundLists_4
set_option maxHeartbeats 4000000 in
set_option maxRecDepth 100000 in
theorem c_Look_spent (aL : Nat) (aM : Nat) (aG : Nat) (aT : Nat) (lc : Nat) (le : Nat) (mo : Nat) (bu : Nat) (on : Bool) (la : Nat) (fo : Nat) (sp : Bool)  : CtI l y_Look_wasSpent (w_Look_wasSpent) ({ frames := 0, cells := 0, slots := 0, locals := 0 }) D vwCl (TYs cI cZ cJ cG) (gG tF) [.ref aL] [(aL, .inr (0, [.ref aM, .ref aG, .ref aT, .int (nI lc), .int (nI le), .int (nI mo), .int (nI bu), .int (nI on.toNat), .int (nI la), .int (nI fo), .int (nI sp.toNat)]))] 0 0 (fun _ : Unit => [(aL, .inr (0, [.ref aM, .ref aG, .ref aT, .int (nI lc), .int (nI le), .int (nI mo), .int (nI bu), .int (nI on.toNat), .int (nI la), .int (nI fo), .int (nI sp.toNat)]))]) (fun (r : Int32) (_ : Unit) => r = nI sp.toNat) := by
  refine CtI.of (cc := b_Look_wasSpent) (maxL := 1) (ret := (some .boolean)) (by decide) rfl (Nat.le_of_ble_eq_true rfl) ?_
  intro p e s m args below meth c A ls hF hA hP hK hD hg hS hl
  obtain ⟨hx, hb, hrt, hlk, hml, hown, hts, hnm⟩ := hF
  have hown : s.vm.findClass R_Look = some m.cls := hown
  have hl : lv_has ls 1 [(0, .ref aL)] := hl
  refine lv_aload_n hx hb d_Look_wasSpent_0 rfl (lv_at hl 0 rfl) ?_
  refine va_get (D := D) (ci := 0) (v := .int (nI sp.toNat)) (C := R_Look) (T := F_Look) (N := 11) hx hb hts in_Look hown hK hP 0 rfl rfl 10 (by decide) (hts _ (List.mem_cons_of_mem _ k_104)) (fun _ h9 => h9) rfl d_Look_wasSpent_1 ?_
  exact xr_i hx hb hrt hlk (xz_B sp) hP hD hS () [0] (by decide) rfl rfl d_Look_wasSpent_4
set_option maxHeartbeats 4000000 in
set_option maxRecDepth 100000 in
theorem c_Look_ended (aL : Nat) (aM : Nat) (aG : Nat) (aT : Nat) (lc : Nat) (le : Nat) (mo : Nat) (bu : Nat) (on : Bool) (la : Nat) (fo : Nat) (sp : Bool) (hfo : fo ≤ 2000) : CtI l y_Look_hasEnded (w_Look_hasEnded) ({ frames := 0, cells := 0, slots := 0, locals := 0 }) D vwCl (TYs cI cZ cJ cG) (gG tF) [.ref aL] [(aL, .inr (0, [.ref aM, .ref aG, .ref aT, .int (nI lc), .int (nI le), .int (nI mo), .int (nI bu), .int (nI on.toNat), .int (nI la), .int (nI fo), .int (nI sp.toNat)]))] 0 0 (fun _ : Unit => [(aL, .inr (0, [.ref aM, .ref aG, .ref aT, .int (nI lc), .int (nI le), .int (nI mo), .int (nI bu), .int (nI on.toNat), .int (nI la), .int (nI fo), .int (nI sp.toNat)]))]) (fun (r : Int32) (_ : Unit) => r = nI ((sp || (on && Nat.blt 0 fo)).toNat)) := by
  refine CtI.of (cc := b_Look_hasEnded) (maxL := 1) (ret := (some .boolean)) (by decide) rfl (Nat.le_of_ble_eq_true rfl) ?_
  intro p e s m args below meth c A ls hF hA hP hK hD hg hS hl
  obtain ⟨hx, hb, hrt, hlk, hml, hown, hts, hnm⟩ := hF
  have hown : s.vm.findClass R_Look = some m.cls := hown
  have hl : lv_has ls 1 [(0, .ref aL)] := hl
  refine lv_aload_n hx hb d_Look_hasEnded_0 rfl (lv_at hl 0 rfl) ?_
  refine va_get (D := D) (ci := 0) (v := .int (nI sp.toNat)) (C := R_Look) (T := F_Look) (N := 11) hx hb hts in_Look hown hK hP 0 rfl rfl 10 (by decide) (hts _ (List.mem_cons_of_mem _ k_104)) (fun _ h9 => h9) rfl d_Look_hasEnded_1 ?_
  refine xb_neB (x := sp) hx hb 21 d_Look_hasEnded_4 rfl (fun h4 => ?_) (fun h4 => ?_)
  · skip
    refine lv_iconst (v := nI 1) hx hb d_Look_hasEnded_21 (by decide) ?_
    refine lv_goto (tgt := 26) hx hb d_Look_hasEnded_22 rfl ?_
    exact xr_i hx hb hrt hlk rfl hP hD hS () [0] (by decide) rfl (xp_t (by first | exact xe_a h4 | exact xe_b h11 h18)) d_Look_hasEnded_26
  refine lv_aload_n hx hb d_Look_hasEnded_7 rfl (lv_at hl 0 rfl) ?_
  refine va_get (D := D) (ci := 0) (v := .int (nI on.toNat)) (C := R_Look) (T := F_Look) (N := 11) hx hb hts in_Look hown hK hP 0 rfl rfl 7 (by decide) (hts _ (List.mem_cons_of_mem _ k_101)) (fun _ h9 => h9) rfl d_Look_hasEnded_8 ?_
  refine xb_eqB (x := on) hx hb 25 d_Look_hasEnded_11 rfl (fun h11 => ?_) (fun h11 => ?_)
  · skip
    refine lv_iconst (v := nI 0) hx hb d_Look_hasEnded_25 (by decide) ?_
    exact xr_i hx hb hrt hlk rfl hP hD hS () [0] (by decide) rfl (xp_f (by first | exact xe_c h4 h11 | exact xe_d h4 h18)) d_Look_hasEnded_26
  refine lv_aload_n hx hb d_Look_hasEnded_14 rfl (lv_at hl 0 rfl) ?_
  refine va_get (D := D) (ci := 0) (v := .int (nI fo)) (C := R_Look) (T := F_Look) (N := 11) hx hb hts in_Look hown hK hP 0 rfl rfl 9 (by decide) (hts _ (List.mem_cons_of_mem _ k_103)) (fun _ h9 => h9) rfl d_Look_hasEnded_15 ?_
  refine xb_le hx hb 25 (by omega) d_Look_hasEnded_18 rfl (fun h18 => ?_) (fun h18 => ?_)
  · skip
    refine lv_iconst (v := nI 0) hx hb d_Look_hasEnded_25 (by decide) ?_
    exact xr_i hx hb hrt hlk rfl hP hD hS () [0] (by decide) rfl (xp_f (by first | exact xe_c h4 h11 | exact xe_d h4 h18)) d_Look_hasEnded_26
  refine lv_iconst (v := nI 1) hx hb d_Look_hasEnded_21 (by decide) ?_
  refine lv_goto (tgt := 26) hx hb d_Look_hasEnded_22 rfl ?_
  exact xr_i hx hb hrt hlk rfl hP hD hS () [0] (by decide) rfl (xp_t (by first | exact xe_a h4 | exact xe_b h11 h18)) d_Look_hasEnded_26
set_option maxHeartbeats 4000000 in
set_option maxRecDepth 100000 in
theorem c_RT_begin (aX : Nat) (aR : Nat) (aM : Nat) (aG : Nat) (aL : Nat) (aU : Nat) (aP : Nat) (ct : Nat) (aO : Nat) (aK : Nat) (aT : Nat) (aP0 : Nat) (aP1 : Nat) (aP2 : Nat) (aP3 : Nat) (n : Nat) (f : Nat → Int32) (mk : Nat → Int32) (b1 : Int32) (b2 : Int32) (ln : Nat) (lc : Nat) (le : Nat) (mo : Nat) (bu : Nat) (on : Bool) (la : Nat) (fo : Nat) (sp : Bool) (g0 : Nat → Int32) (g1 : Nat → Int32) (g2 : Nat → Int32) (g3 : Nat → Int32) (n2 : Nat)  : CtV l y_RT_beginWith (w_RT_beginWith) ({ frames := 1, cells := 0, slots := 0, locals := 21 }) D vwCl (TYs cI cZ cJ cG) (gG tF) [.ref aX, .int (nI n2)] [(aX, .inr (5, [.ref aR, .ref aM, .ref aG, .ref aL, .ref aU, .ref aP, .int (nI ct)])), (aR, .inr (3, [.ref aO, .int (nI n)])), (aO, .inl (cI, 6, .inl f)), (aM, .inr (1, [.ref aK, .int b1, .int b2, .int (nI ln)])), (aK, .inl (cI, 24, .inl mk)), (aL, .inr (0, [.ref aM, .ref aG, .ref aT, .int (nI lc), .int (nI le), .int (nI mo), .int (nI bu), .int (nI on.toNat), .int (nI la), .int (nI fo), .int (nI sp.toNat)])), (aP, .inl (cG, 4, .inr (.inr (.inr (.inr (pO aP0 aP1 aP2 aP3)))))), (aP0, .inl (cI, 6, .inl g0)), (aP1, .inl (cI, 6, .inl g1)), (aP2, .inl (cI, 6, .inl g2)), (aP3, .inl (cI, 6, .inl g3))] 0 0 (fun u : (Nat → Int32) × (Nat → Int32) × (Nat → Int32) × (Nat → Int32) × (Nat → Int32) => match u with | (mk2, h0, h1, h2, h3) => [(aX, .inr (5, [.ref aR, .ref aM, .ref aG, .ref aL, .ref aU, .ref aP, .int (nI 0)])), (aR, .inr (3, [.ref aO, .int (nI n2)])), (aO, .inl (cI, 6, .inl f)), (aM, .inr (1, [.ref aK, .int (-1), .int (-1), .int (nI 0)])), (aK, .inl (cI, 24, .inl mk2)), (aL, .inr (0, [.ref aM, .ref aG, .ref aT, .int (nI lc), .int (nI le), .int (nI mo), .int (nI bu), .int (nI on.toNat), .int (nI 0), .int (nI fo), .int (nI sp.toNat)])), (aP, .inl (cG, 4, .inr (.inr (.inr (.inr (pO aP0 aP1 aP2 aP3)))))), (aP0, .inl (cI, 6, .inl h0)), (aP1, .inl (cI, 6, .inl h1)), (aP2, .inl (cI, 6, .inl h2)), (aP3, .inl (cI, 6, .inl h3))]) (fun u : (Nat → Int32) × (Nat → Int32) × (Nat → Int32) × (Nat → Int32) × (Nat → Int32) => match u with | (mk2, h0, h1, h2, h3) => (∀ j, j < 24 → mk2 j = (-1)) ∧ (z6 h0) ∧ (z6 h1) ∧ (z6 h2) ∧ (z6 h3)) := by
  refine CtV.of (cc := b_RT_beginWith) (maxL := 4) (ret := none) (by decide) rfl (Nat.le_of_ble_eq_true rfl) ?_
  intro p e s m args below meth c A ls hF hA hP hK hD hg hS hl
  obtain ⟨hx, hb, hrt, hlk, hml, hown, hts, hnm⟩ := hF
  have hown : s.vm.findClass R_RT = some m.cls := hown
  have hl : lv_has ls 4 [(0, .ref aX), (1, .int (nI n2))] := hl
  refine lv_aload_n hx hb d_RT_beginWith_0 rfl (lv_at hl 0 rfl) ?_
  refine va_get (D := D) (ci := 5) (v := .ref aR) (C := R_RT) (T := F_RT) (N := 7) hx hb hts in_RT hown hK hP 0 rfl rfl 0 (by decide) (hts _ (List.mem_cons_of_mem _ k_146)) (fun _ h9 => h9) rfl d_RT_beginWith_1 ?_
  refine lv_iload_n hx hb d_RT_beginWith_4 rfl (lv_at hl 1 rfl) ?_
  refine xc_v (wc := [(aR, .inr (3, [.ref aO, .int (nI n)])), (aO, .inl (cI, 6, .inl f))]) (wr := [(aX, .inr (5, [.ref aR, .ref aM, .ref aG, .ref aL, .ref aU, .ref aP, .int (nI ct)])), (aM, .inr (1, [.ref aK, .int b1, .int b2, .int (nI ln)])), (aK, .inl (cI, 24, .inl mk)), (aL, .inr (0, [.ref aM, .ref aG, .ref aT, .int (nI lc), .int (nI le), .int (nI mo), .int (nI bu), .int (nI on.toNat), .int (nI la), .int (nI fo), .int (nI sp.toNat)])), (aP, .inl (cG, 4, .inr (.inr (.inr (.inr (pO aP0 aP1 aP2 aP3)))))), (aP0, .inl (cI, 6, .inl g0)), (aP1, .inl (cI, 6, .inl g1)), (aP2, .inl (cI, 6, .inl g2)), (aP3, .inl (cI, 6, .inl g3))]) (gG_ok tF) hK hP hD hS hA hg [1, 2] [0, 3, 4, 5, 6, 7, 8, 9, 10] rfl rfl (by decide) (by decide) (by decide) (fun h1 h2 => va_runV (As := [.int (nI n2)]) (rest := []) ⟨hx, hb, hml, hown, hts⟩ (c_Row_resize aR aO n n2 f  _) (cwV 1 hts (gV k_134 k_135 k_136 k_2 k_137) rfl rfl rfl (by decide +kernel) ⟨Nat.le_of_ble_eq_true rfl, Nat.le_of_ble_eq_true rfl⟩) ⟨h1, va_recv (q0 := 1) (ci := 3) hK hP rfl rfl, h2⟩ rfl rfl hl.1 rfl (lv_room (Nat.le_of_ble_eq_true rfl)) d_RT_beginWith_5 ⟨Nat.zero_le _, Nat.zero_le _⟩) (fun u H locs hq9 hP hD hS => ?_)
  have hP : va_P D vwCl [(aX, .inr (5, [.ref aR, .ref aM, .ref aG, .ref aL, .ref aU, .ref aP, .int (nI ct)])), (aM, .inr (1, [.ref aK, .int b1, .int b2, .int (nI ln)])), (aK, .inl (cI, 24, .inl mk)), (aL, .inr (0, [.ref aM, .ref aG, .ref aT, .int (nI lc), .int (nI le), .int (nI mo), .int (nI bu), .int (nI on.toNat), .int (nI la), .int (nI fo), .int (nI sp.toNat)])), (aP, .inl (cG, 4, .inr (.inr (.inr (.inr (pO aP0 aP1 aP2 aP3)))))), (aP0, .inl (cI, 6, .inl g0)), (aP1, .inl (cI, 6, .inl g1)), (aP2, .inl (cI, 6, .inl g2)), (aP3, .inl (cI, 6, .inl g3)), (aR, .inr (3, [.ref aO, .int (nI n2)])), (aO, .inl (cI, 6, .inl f))] H := hP
  have hD : va_D A [(aX, .inr (5, [.ref aR, .ref aM, .ref aG, .ref aL, .ref aU, .ref aP, .int (nI ct)])), (aM, .inr (1, [.ref aK, .int b1, .int b2, .int (nI ln)])), (aK, .inl (cI, 24, .inl mk)), (aL, .inr (0, [.ref aM, .ref aG, .ref aT, .int (nI lc), .int (nI le), .int (nI mo), .int (nI bu), .int (nI on.toNat), .int (nI la), .int (nI fo), .int (nI sp.toNat)])), (aP, .inl (cG, 4, .inr (.inr (.inr (.inr (pO aP0 aP1 aP2 aP3)))))), (aP0, .inl (cI, 6, .inl g0)), (aP1, .inl (cI, 6, .inl g1)), (aP2, .inl (cI, 6, .inl g2)), (aP3, .inl (cI, 6, .inl g3)), (aR, .inr (3, [.ref aO, .int (nI n2)])), (aO, .inl (cI, 6, .inl f))] := hD
  refine lv_aload_n hx hb d_RT_beginWith_8 rfl (lv_at hl 0 rfl) ?_
  refine va_get (D := D) (ci := 5) (v := .ref aM) (C := R_RT) (T := F_RT) (N := 7) hx hb hts in_RT hown hK hP 0 rfl rfl 1 (by decide) (hts _ (List.mem_cons_of_mem _ k_147)) (fun _ h9 => h9) rfl d_RT_beginWith_9 ?_
  refine xc_v (wc := [(aM, .inr (1, [.ref aK, .int b1, .int b2, .int (nI ln)])), (aK, .inl (cI, 24, .inl mk))]) (wr := [(aX, .inr (5, [.ref aR, .ref aM, .ref aG, .ref aL, .ref aU, .ref aP, .int (nI ct)])), (aL, .inr (0, [.ref aM, .ref aG, .ref aT, .int (nI lc), .int (nI le), .int (nI mo), .int (nI bu), .int (nI on.toNat), .int (nI la), .int (nI fo), .int (nI sp.toNat)])), (aP, .inl (cG, 4, .inr (.inr (.inr (.inr (pO aP0 aP1 aP2 aP3)))))), (aP0, .inl (cI, 6, .inl g0)), (aP1, .inl (cI, 6, .inl g1)), (aP2, .inl (cI, 6, .inl g2)), (aP3, .inl (cI, 6, .inl g3)), (aR, .inr (3, [.ref aO, .int (nI n2)])), (aO, .inl (cI, 6, .inl f))]) (gG_ok tF) hK hP hD hS hA hg [1, 2] [0, 3, 4, 5, 6, 7, 8, 9, 10] rfl rfl (by decide) (by decide) (by decide) (fun h1 h2 => va_runV (As := []) (rest := []) ⟨hx, hb, hml, hown, hts⟩ (c_Met_forget aM aK mk b1 b2 ln  _) (cwV 0 hts (gV k_138 k_139 k_140 k_3 k_141) rfl rfl rfl (by decide +kernel) ⟨Nat.le_of_ble_eq_true rfl, Nat.le_of_ble_eq_true rfl⟩) ⟨h1, va_recv (q0 := 1) (ci := 1) hK hP rfl rfl, h2⟩ rfl rfl hl.1 rfl (lv_room (Nat.le_of_ble_eq_true rfl)) d_RT_beginWith_12 ⟨Nat.zero_le _, Nat.zero_le _⟩) (fun mk2 H locs hq9 hP hD hS => ?_)
  have hw12 := hq9
  have hP : va_P D vwCl [(aX, .inr (5, [.ref aR, .ref aM, .ref aG, .ref aL, .ref aU, .ref aP, .int (nI ct)])), (aL, .inr (0, [.ref aM, .ref aG, .ref aT, .int (nI lc), .int (nI le), .int (nI mo), .int (nI bu), .int (nI on.toNat), .int (nI la), .int (nI fo), .int (nI sp.toNat)])), (aP, .inl (cG, 4, .inr (.inr (.inr (.inr (pO aP0 aP1 aP2 aP3)))))), (aP0, .inl (cI, 6, .inl g0)), (aP1, .inl (cI, 6, .inl g1)), (aP2, .inl (cI, 6, .inl g2)), (aP3, .inl (cI, 6, .inl g3)), (aR, .inr (3, [.ref aO, .int (nI n2)])), (aO, .inl (cI, 6, .inl f)), (aM, .inr (1, [.ref aK, .int (-1), .int (-1), .int (nI 0)])), (aK, .inl (cI, 24, .inl mk2))] H := hP
  have hD : va_D A [(aX, .inr (5, [.ref aR, .ref aM, .ref aG, .ref aL, .ref aU, .ref aP, .int (nI ct)])), (aL, .inr (0, [.ref aM, .ref aG, .ref aT, .int (nI lc), .int (nI le), .int (nI mo), .int (nI bu), .int (nI on.toNat), .int (nI la), .int (nI fo), .int (nI sp.toNat)])), (aP, .inl (cG, 4, .inr (.inr (.inr (.inr (pO aP0 aP1 aP2 aP3)))))), (aP0, .inl (cI, 6, .inl g0)), (aP1, .inl (cI, 6, .inl g1)), (aP2, .inl (cI, 6, .inl g2)), (aP3, .inl (cI, 6, .inl g3)), (aR, .inr (3, [.ref aO, .int (nI n2)])), (aO, .inl (cI, 6, .inl f)), (aM, .inr (1, [.ref aK, .int (-1), .int (-1), .int (nI 0)])), (aK, .inl (cI, 24, .inl mk2))] := hD
  refine lv_aload_n hx hb d_RT_beginWith_15 rfl (lv_at hl 0 rfl) ?_
  refine va_get (D := D) (ci := 5) (v := .ref aL) (C := R_RT) (T := F_RT) (N := 7) hx hb hts in_RT hown hK hP 0 rfl rfl 3 (by decide) (hts _ (List.mem_cons_of_mem _ k_149)) (fun _ h9 => h9) rfl d_RT_beginWith_16 ?_
  refine xc_v (wc := [(aL, .inr (0, [.ref aM, .ref aG, .ref aT, .int (nI lc), .int (nI le), .int (nI mo), .int (nI bu), .int (nI on.toNat), .int (nI la), .int (nI fo), .int (nI sp.toNat)]))]) (wr := [(aX, .inr (5, [.ref aR, .ref aM, .ref aG, .ref aL, .ref aU, .ref aP, .int (nI ct)])), (aP, .inl (cG, 4, .inr (.inr (.inr (.inr (pO aP0 aP1 aP2 aP3)))))), (aP0, .inl (cI, 6, .inl g0)), (aP1, .inl (cI, 6, .inl g1)), (aP2, .inl (cI, 6, .inl g2)), (aP3, .inl (cI, 6, .inl g3)), (aR, .inr (3, [.ref aO, .int (nI n2)])), (aO, .inl (cI, 6, .inl f)), (aM, .inr (1, [.ref aK, .int (-1), .int (-1), .int (nI 0)])), (aK, .inl (cI, 24, .inl mk2))]) (gG_ok tF) hK hP hD hS hA hg [1] [0, 2, 3, 4, 5, 6, 7, 8, 9, 10] rfl rfl (by decide) (by decide) (by decide) (fun h1 h2 => va_runV (As := []) (rest := []) ⟨hx, hb, hml, hown, hts⟩ (c_Look_forget aL aM aG aT lc le mo bu on la fo sp  _) (cwV 0 hts (gV k_142 k_143 k_144 k_6 k_145) rfl rfl rfl (by decide +kernel) ⟨Nat.le_of_ble_eq_true rfl, Nat.le_of_ble_eq_true rfl⟩) ⟨h1, va_recv (q0 := 1) (ci := 0) hK hP rfl rfl, h2⟩ rfl rfl hl.1 rfl (lv_room (Nat.le_of_ble_eq_true rfl)) d_RT_beginWith_19 ⟨Nat.zero_le _, Nat.zero_le _⟩) (fun u H locs hq9 hP hD hS => ?_)
  have hP : va_P D vwCl [(aX, .inr (5, [.ref aR, .ref aM, .ref aG, .ref aL, .ref aU, .ref aP, .int (nI ct)])), (aP, .inl (cG, 4, .inr (.inr (.inr (.inr (pO aP0 aP1 aP2 aP3)))))), (aP0, .inl (cI, 6, .inl g0)), (aP1, .inl (cI, 6, .inl g1)), (aP2, .inl (cI, 6, .inl g2)), (aP3, .inl (cI, 6, .inl g3)), (aR, .inr (3, [.ref aO, .int (nI n2)])), (aO, .inl (cI, 6, .inl f)), (aM, .inr (1, [.ref aK, .int (-1), .int (-1), .int (nI 0)])), (aK, .inl (cI, 24, .inl mk2)), (aL, .inr (0, [.ref aM, .ref aG, .ref aT, .int (nI lc), .int (nI le), .int (nI mo), .int (nI bu), .int (nI on.toNat), .int (nI 0), .int (nI fo), .int (nI sp.toNat)]))] H := hP
  have hD : va_D A [(aX, .inr (5, [.ref aR, .ref aM, .ref aG, .ref aL, .ref aU, .ref aP, .int (nI ct)])), (aP, .inl (cG, 4, .inr (.inr (.inr (.inr (pO aP0 aP1 aP2 aP3)))))), (aP0, .inl (cI, 6, .inl g0)), (aP1, .inl (cI, 6, .inl g1)), (aP2, .inl (cI, 6, .inl g2)), (aP3, .inl (cI, 6, .inl g3)), (aR, .inr (3, [.ref aO, .int (nI n2)])), (aO, .inl (cI, 6, .inl f)), (aM, .inr (1, [.ref aK, .int (-1), .int (-1), .int (nI 0)])), (aK, .inl (cI, 24, .inl mk2)), (aL, .inr (0, [.ref aM, .ref aG, .ref aT, .int (nI lc), .int (nI le), .int (nI mo), .int (nI bu), .int (nI on.toNat), .int (nI 0), .int (nI fo), .int (nI sp.toNat)]))] := hD
  refine lv_aload_n hx hb d_RT_beginWith_22 rfl (lv_at hl 0 rfl) ?_
  refine lv_iconst (v := nI 0) hx hb d_RT_beginWith_23 (by decide) ?_
  refine va_put (D := D) (ci := 5) (v := .int (nI 0)) (ty := .int) (C := R_RT) (T := F_RT) (N := 7) hx hb hts in_RT t_RT t_RT_ok n_RT hown hK hP hD hS 0 rfl rfl 6 (by decide) (hts _ (List.mem_cons_of_mem _ k_152)) (fun _ h9 => h9) rfl (by decide +kernel) rfl rfl (Nat.le_of_ble_eq_true rfl) d_RT_beginWith_24 (fun H locs hP hD hS => ?_)
  have hP : va_P D vwCl [(aX, .inr (5, [.ref aR, .ref aM, .ref aG, .ref aL, .ref aU, .ref aP, .int (nI 0)])), (aP, .inl (cG, 4, .inr (.inr (.inr (.inr (pO aP0 aP1 aP2 aP3)))))), (aP0, .inl (cI, 6, .inl g0)), (aP1, .inl (cI, 6, .inl g1)), (aP2, .inl (cI, 6, .inl g2)), (aP3, .inl (cI, 6, .inl g3)), (aR, .inr (3, [.ref aO, .int (nI n2)])), (aO, .inl (cI, 6, .inl f)), (aM, .inr (1, [.ref aK, .int (-1), .int (-1), .int (nI 0)])), (aK, .inl (cI, 24, .inl mk2)), (aL, .inr (0, [.ref aM, .ref aG, .ref aT, .int (nI lc), .int (nI le), .int (nI mo), .int (nI bu), .int (nI on.toNat), .int (nI 0), .int (nI fo), .int (nI sp.toNat)]))] H := hP
  have hD : va_D A [(aX, .inr (5, [.ref aR, .ref aM, .ref aG, .ref aL, .ref aU, .ref aP, .int (nI 0)])), (aP, .inl (cG, 4, .inr (.inr (.inr (.inr (pO aP0 aP1 aP2 aP3)))))), (aP0, .inl (cI, 6, .inl g0)), (aP1, .inl (cI, 6, .inl g1)), (aP2, .inl (cI, 6, .inl g2)), (aP3, .inl (cI, 6, .inl g3)), (aR, .inr (3, [.ref aO, .int (nI n2)])), (aO, .inl (cI, 6, .inl f)), (aM, .inr (1, [.ref aK, .int (-1), .int (-1), .int (nI 0)])), (aK, .inl (cI, 24, .inl mk2)), (aL, .inr (0, [.ref aM, .ref aG, .ref aT, .int (nI lc), .int (nI le), .int (nI mo), .int (nI bu), .int (nI on.toNat), .int (nI 0), .int (nI fo), .int (nI sp.toNat)]))] := hD
  refine lv_iconst (v := nI 0) hx hb d_RT_beginWith_27 (by decide) ?_
  refine lv_istore_n hx hb d_RT_beginWith_28 rfl hl (by decide) rfl (fun ls hl => ?_)
  have hl : lv_has ls 4 [(2, .int (nI 0)), (0, .ref aX), (1, .int (nI n2))] := hl
  have hl : lv_has ls 4 [(0, .ref aX), (1, .int (nI n2)), (2, .int (nI 0))] := lv_sub hl [1, 2, 0] rfl
  have hP := hP.sub (ws' := [(aX, .inr (5, [.ref aR, .ref aM, .ref aG, .ref aL, .ref aU, .ref aP, .int (nI 0)])), (aR, .inr (3, [.ref aO, .int (nI n2)])), (aO, .inl (cI, 6, .inl f)), (aM, .inr (1, [.ref aK, .int (-1), .int (-1), .int (nI 0)])), (aK, .inl (cI, 24, .inl mk2)), (aL, .inr (0, [.ref aM, .ref aG, .ref aT, .int (nI lc), .int (nI le), .int (nI mo), .int (nI bu), .int (nI on.toNat), .int (nI 0), .int (nI fo), .int (nI sp.toNat)])), (aP, .inl (cG, 4, .inr (.inr (.inr (.inr (pO aP0 aP1 aP2 aP3)))))), (aP0, .inl (cI, 6, .inl g0)), (aP1, .inl (cI, 6, .inl g1)), (aP2, .inl (cI, 6, .inl g2)), (aP3, .inl (cI, 6, .inl g3))]) [0, 6, 7, 8, 9, 10, 1, 2, 3, 4, 5] rfl
  have hD := hD.sub (ws' := [(aX, .inr (5, [.ref aR, .ref aM, .ref aG, .ref aL, .ref aU, .ref aP, .int (nI 0)])), (aR, .inr (3, [.ref aO, .int (nI n2)])), (aO, .inl (cI, 6, .inl f)), (aM, .inr (1, [.ref aK, .int (-1), .int (-1), .int (nI 0)])), (aK, .inl (cI, 24, .inl mk2)), (aL, .inr (0, [.ref aM, .ref aG, .ref aT, .int (nI lc), .int (nI le), .int (nI mo), .int (nI bu), .int (nI on.toNat), .int (nI 0), .int (nI fo), .int (nI sp.toNat)])), (aP, .inl (cG, 4, .inr (.inr (.inr (.inr (pO aP0 aP1 aP2 aP3)))))), (aP0, .inl (cI, 6, .inl g0)), (aP1, .inl (cI, 6, .inl g1)), (aP2, .inl (cI, 6, .inl g2)), (aP3, .inl (cI, 6, .inl g3))]) [0, 6, 7, 8, 9, 10, 1, 2, 3, 4, 5] (by decide) rfl
  refine xn_pc (pc2 := 29) rfl ?_
  refine xl_5 (fun (q : Nat) (h0 : Nat → Int32) (h1 : Nat → Int32) (h2 : Nat → Int32) (h3 : Nat → Int32) ls H locs => (q ≤ 4) ∧ (0 < q → z6 h0) ∧ (1 < q → z6 h1) ∧ (2 < q → z6 h2) ∧ (3 < q → z6 h3) ∧ lv_has ls 4 [(0, .ref aX), (1, .int (nI n2)), (2, .int (nI q))] ∧ va_P D vwCl [(aX, .inr (5, [.ref aR, .ref aM, .ref aG, .ref aL, .ref aU, .ref aP, .int (nI 0)])), (aR, .inr (3, [.ref aO, .int (nI n2)])), (aO, .inl (cI, 6, .inl f)), (aM, .inr (1, [.ref aK, .int (-1), .int (-1), .int (nI 0)])), (aK, .inl (cI, 24, .inl mk2)), (aL, .inr (0, [.ref aM, .ref aG, .ref aT, .int (nI lc), .int (nI le), .int (nI mo), .int (nI bu), .int (nI on.toNat), .int (nI 0), .int (nI fo), .int (nI sp.toNat)])), (aP, .inl (cG, 4, .inr (.inr (.inr (.inr (pO aP0 aP1 aP2 aP3)))))), (aP0, .inl (cI, 6, .inl h0)), (aP1, .inl (cI, 6, .inl h1)), (aP2, .inl (cI, 6, .inl h2)), (aP3, .inl (cI, 6, .inl h3))] H ∧ va_D A [(aX, .inr (5, [.ref aR, .ref aM, .ref aG, .ref aL, .ref aU, .ref aP, .int (nI 0)])), (aR, .inr (3, [.ref aO, .int (nI n2)])), (aO, .inl (cI, 6, .inl f)), (aM, .inr (1, [.ref aK, .int (-1), .int (-1), .int (nI 0)])), (aK, .inl (cI, 24, .inl mk2)), (aL, .inr (0, [.ref aM, .ref aG, .ref aT, .int (nI lc), .int (nI le), .int (nI mo), .int (nI bu), .int (nI on.toNat), .int (nI 0), .int (nI fo), .int (nI sp.toNat)])), (aP, .inl (cG, 4, .inr (.inr (.inr (.inr (pO aP0 aP1 aP2 aP3)))))), (aP0, .inl (cI, 6, .inl h0)), (aP1, .inl (cI, 6, .inl h1)), (aP2, .inl (cI, 6, .inl h2)), (aP3, .inl (cI, 6, .inl h3))] ∧ va_S A s.heap H locs) (fun (q : Nat) (h0 : Nat → Int32) (h1 : Nat → Int32) (h2 : Nat → Int32) (h3 : Nat → Int32) => 4 - q) (fun q h0 h1 h2 h3 ls H locs hI ih => ?_) 0 g0 g1 g2 g3 ⟨Nat.zero_le 4, fun h => absurd h (by omega), fun h => absurd h (by omega), fun h => absurd h (by omega), fun h => absurd h (by omega), hl, hP, hD, hS⟩
  obtain ⟨hq, hz0, hz1, hz2, hz3, hl, hP, hD, hS⟩ := hI
  refine lv_iload_n hx hb d_RT_beginWith_29 rfl (lv_at hl 2 rfl) ?_
  refine lv_iconst (v := nI 4) hx hb d_RT_beginWith_30 (by decide) ?_
  refine xb_cge hx hb 65 (by omega) (by omega) d_RT_beginWith_31 rfl (fun h31 => ?_) (fun h31 => ?_)
  · skip
    exact xr_v hx hb hrt hlk hP hD hS (mk2, h0, h1, h2, h3) [0, 1, 2, 3, 4, 5, 6, 7, 8, 9, 10] (by decide) rfl (⟨hw12, hz0 (by omega), hz1 (by omega), hz2 (by omega), hz3 (by omega)⟩) d_RT_beginWith_65
  rcases (show q = 0 ∨ q = 1 ∨ q = 2 ∨ q = 3 by omega) with rfl | rfl | rfl | rfl
  · skip
    refine lv_iconst (v := nI 1) hx hb d_RT_beginWith_34 (by decide) ?_
    refine lv_istore_n hx hb d_RT_beginWith_35 rfl hl (by decide) rfl (fun ls hl => ?_)
    have hl : lv_has ls 4 [(3, .int (nI 1)), (0, .ref aX), (1, .int (nI n2)), (2, .int (nI 0))] := hl
    have hl : lv_has ls 4 [(0, .ref aX), (1, .int (nI n2)), (2, .int (nI 0)), (3, .int (nI (0 + 1)))] := lv_sub hl [1, 2, 3, 0] rfl
    have hP := hP.sub (ws' := [(aX, .inr (5, [.ref aR, .ref aM, .ref aG, .ref aL, .ref aU, .ref aP, .int (nI 0)])), (aR, .inr (3, [.ref aO, .int (nI n2)])), (aO, .inl (cI, 6, .inl f)), (aM, .inr (1, [.ref aK, .int (-1), .int (-1), .int (nI 0)])), (aK, .inl (cI, 24, .inl mk2)), (aL, .inr (0, [.ref aM, .ref aG, .ref aT, .int (nI lc), .int (nI le), .int (nI mo), .int (nI bu), .int (nI on.toNat), .int (nI 0), .int (nI fo), .int (nI sp.toNat)])), (aP, .inl (cG, 4, .inr (.inr (.inr (.inr (pO aP0 aP1 aP2 aP3)))))), (aP0, .inl (cI, 6, .inl h0)), (aP1, .inl (cI, 6, .inl h1)), (aP2, .inl (cI, 6, .inl h2)), (aP3, .inl (cI, 6, .inl h3))]) [0, 1, 2, 3, 4, 5, 6, 7, 8, 9, 10] rfl
    have hD := hD.sub (ws' := [(aX, .inr (5, [.ref aR, .ref aM, .ref aG, .ref aL, .ref aU, .ref aP, .int (nI 0)])), (aR, .inr (3, [.ref aO, .int (nI n2)])), (aO, .inl (cI, 6, .inl f)), (aM, .inr (1, [.ref aK, .int (-1), .int (-1), .int (nI 0)])), (aK, .inl (cI, 24, .inl mk2)), (aL, .inr (0, [.ref aM, .ref aG, .ref aT, .int (nI lc), .int (nI le), .int (nI mo), .int (nI bu), .int (nI on.toNat), .int (nI 0), .int (nI fo), .int (nI sp.toNat)])), (aP, .inl (cG, 4, .inr (.inr (.inr (.inr (pO aP0 aP1 aP2 aP3)))))), (aP0, .inl (cI, 6, .inl h0)), (aP1, .inl (cI, 6, .inl h1)), (aP2, .inl (cI, 6, .inl h2)), (aP3, .inl (cI, 6, .inl h3))]) [0, 1, 2, 3, 4, 5, 6, 7, 8, 9, 10] (by decide) rfl
    refine xn_pc (pc2 := 36) rfl ?_
    refine xl_2 (fun (j : Nat) (v : Nat → Int32) ls H locs => (j ≤ 6) ∧ (∀ i, i < j → v i = nI 0) ∧ lv_has ls 4 [(0, .ref aX), (1, .int (nI n2)), (2, .int (nI 0)), (3, .int (nI (j + 1)))] ∧ va_P D vwCl [(aX, .inr (5, [.ref aR, .ref aM, .ref aG, .ref aL, .ref aU, .ref aP, .int (nI 0)])), (aR, .inr (3, [.ref aO, .int (nI n2)])), (aO, .inl (cI, 6, .inl f)), (aM, .inr (1, [.ref aK, .int (-1), .int (-1), .int (nI 0)])), (aK, .inl (cI, 24, .inl mk2)), (aL, .inr (0, [.ref aM, .ref aG, .ref aT, .int (nI lc), .int (nI le), .int (nI mo), .int (nI bu), .int (nI on.toNat), .int (nI 0), .int (nI fo), .int (nI sp.toNat)])), (aP, .inl (cG, 4, .inr (.inr (.inr (.inr (pO aP0 aP1 aP2 aP3)))))), (aP0, .inl (cI, 6, .inl v)), (aP1, .inl (cI, 6, .inl h1)), (aP2, .inl (cI, 6, .inl h2)), (aP3, .inl (cI, 6, .inl h3))] H ∧ va_D A [(aX, .inr (5, [.ref aR, .ref aM, .ref aG, .ref aL, .ref aU, .ref aP, .int (nI 0)])), (aR, .inr (3, [.ref aO, .int (nI n2)])), (aO, .inl (cI, 6, .inl f)), (aM, .inr (1, [.ref aK, .int (-1), .int (-1), .int (nI 0)])), (aK, .inl (cI, 24, .inl mk2)), (aL, .inr (0, [.ref aM, .ref aG, .ref aT, .int (nI lc), .int (nI le), .int (nI mo), .int (nI bu), .int (nI on.toNat), .int (nI 0), .int (nI fo), .int (nI sp.toNat)])), (aP, .inl (cG, 4, .inr (.inr (.inr (.inr (pO aP0 aP1 aP2 aP3)))))), (aP0, .inl (cI, 6, .inl v)), (aP1, .inl (cI, 6, .inl h1)), (aP2, .inl (cI, 6, .inl h2)), (aP3, .inl (cI, 6, .inl h3))] ∧ va_S A s.heap H locs) (fun (j : Nat) (v : Nat → Int32) => 6 - j) (fun j v ls H locs hI ih1 => ?_) 0 h0 ⟨Nat.zero_le 6, fun i hi => absurd hi (Nat.not_lt_zero i), hl, hP, hD, hS⟩
    obtain ⟨hi1, hi2, hl, hP, hD, hS⟩ := hI
    refine lv_iload_n hx hb d_RT_beginWith_36 rfl (lv_at hl 3 rfl) ?_
    refine lv_bipush (v := nI 6) hx hb d_RT_beginWith_37 (by decide) ?_
    refine xb_cgt hx hb 59 (by omega) (by omega) d_RT_beginWith_39 rfl (fun h39 => ?_) (fun h39 => ?_)
    · skip
      refine lv_iinc (k := 2) (v := nI (0 + 1)) hx hb d_RT_beginWith_59 hl rfl (xi_1 _) (by decide) rfl (fun ls hl => ?_)
      have hl : lv_has ls 4 [(2, .int (nI (0 + 1))), (0, .ref aX), (1, .int (nI n2)), (3, .int (nI (j + 1)))] := hl
      refine lv_goto (tgt := 29) hx hb d_RT_beginWith_62 rfl ?_
      have hl : lv_has ls 4 [(0, .ref aX), (1, .int (nI n2)), (2, .int (nI (0 + 1)))] := lv_sub hl [1, 2, 0] rfl
      have hP := hP.sub (ws' := [(aX, .inr (5, [.ref aR, .ref aM, .ref aG, .ref aL, .ref aU, .ref aP, .int (nI 0)])), (aR, .inr (3, [.ref aO, .int (nI n2)])), (aO, .inl (cI, 6, .inl f)), (aM, .inr (1, [.ref aK, .int (-1), .int (-1), .int (nI 0)])), (aK, .inl (cI, 24, .inl mk2)), (aL, .inr (0, [.ref aM, .ref aG, .ref aT, .int (nI lc), .int (nI le), .int (nI mo), .int (nI bu), .int (nI on.toNat), .int (nI 0), .int (nI fo), .int (nI sp.toNat)])), (aP, .inl (cG, 4, .inr (.inr (.inr (.inr (pO aP0 aP1 aP2 aP3)))))), (aP0, .inl (cI, 6, .inl v)), (aP1, .inl (cI, 6, .inl h1)), (aP2, .inl (cI, 6, .inl h2)), (aP3, .inl (cI, 6, .inl h3))]) [0, 1, 2, 3, 4, 5, 6, 7, 8, 9, 10] rfl
      have hD := hD.sub (ws' := [(aX, .inr (5, [.ref aR, .ref aM, .ref aG, .ref aL, .ref aU, .ref aP, .int (nI 0)])), (aR, .inr (3, [.ref aO, .int (nI n2)])), (aO, .inl (cI, 6, .inl f)), (aM, .inr (1, [.ref aK, .int (-1), .int (-1), .int (nI 0)])), (aK, .inl (cI, 24, .inl mk2)), (aL, .inr (0, [.ref aM, .ref aG, .ref aT, .int (nI lc), .int (nI le), .int (nI mo), .int (nI bu), .int (nI on.toNat), .int (nI 0), .int (nI fo), .int (nI sp.toNat)])), (aP, .inl (cG, 4, .inr (.inr (.inr (.inr (pO aP0 aP1 aP2 aP3)))))), (aP0, .inl (cI, 6, .inl v)), (aP1, .inl (cI, 6, .inl h1)), (aP2, .inl (cI, 6, .inl h2)), (aP3, .inl (cI, 6, .inl h3))]) [0, 1, 2, 3, 4, 5, 6, 7, 8, 9, 10] (by decide) rfl
      exact ih (0 + 1) v h1 h2 h3 _ _ _ (by omega) ⟨by omega, fun _ => fun j hj => hi2 j (by omega), fun h => hz1 (by omega), fun h => hz2 (by omega), fun h => hz3 (by omega), hl, hP, hD, hS⟩
    refine lv_aload_n hx hb d_RT_beginWith_42 rfl (lv_at hl 0 rfl) ?_
    refine va_get (D := D) (ci := 5) (v := .ref aP) (C := R_RT) (T := F_RT) (N := 7) hx hb hts in_RT hown hK hP 0 rfl rfl 5 (by decide) (hts _ (List.mem_cons_of_mem _ k_151)) (fun _ h9 => h9) rfl d_RT_beginWith_43 ?_
    refine lv_iload_n hx hb d_RT_beginWith_46 rfl (lv_at hl 2 rfl) ?_
    refine xa_gald (v := aP0) hx hb hK hP 6 3 rfl rfl (by decide) (by decide) rfl d_RT_beginWith_47 ?_
    refine lv_iload_n hx hb d_RT_beginWith_48 rfl (lv_at hl 3 rfl) ?_
    refine lv_iconst (v := nI 1) hx hb d_RT_beginWith_49 (by decide) ?_
    refine lv_isub hx hb d_RT_beginWith_50 ?_
    refine xn_i (y := nI j) (pk_sub (Nat.le_add_left 1 j)) ?_
    refine lv_iconst (v := nI 0) hx hb d_RT_beginWith_51 (by decide) ?_
    refine xa_iast hx hb hK hP hD hS 7 0 rfl rfl (by omega) (by decide) d_RT_beginWith_52 (fun H locs hP hD hS => ?_)
    have hP : va_P D vwCl [(aX, .inr (5, [.ref aR, .ref aM, .ref aG, .ref aL, .ref aU, .ref aP, .int (nI 0)])), (aR, .inr (3, [.ref aO, .int (nI n2)])), (aO, .inl (cI, 6, .inl f)), (aM, .inr (1, [.ref aK, .int (-1), .int (-1), .int (nI 0)])), (aK, .inl (cI, 24, .inl mk2)), (aL, .inr (0, [.ref aM, .ref aG, .ref aT, .int (nI lc), .int (nI le), .int (nI mo), .int (nI bu), .int (nI on.toNat), .int (nI 0), .int (nI fo), .int (nI sp.toNat)])), (aP, .inl (cG, 4, .inr (.inr (.inr (.inr (pO aP0 aP1 aP2 aP3)))))), (aP0, .inl (cI, 6, .inl (upd v j (nI 0)))), (aP1, .inl (cI, 6, .inl h1)), (aP2, .inl (cI, 6, .inl h2)), (aP3, .inl (cI, 6, .inl h3))] H := hP
    have hD : va_D A [(aX, .inr (5, [.ref aR, .ref aM, .ref aG, .ref aL, .ref aU, .ref aP, .int (nI 0)])), (aR, .inr (3, [.ref aO, .int (nI n2)])), (aO, .inl (cI, 6, .inl f)), (aM, .inr (1, [.ref aK, .int (-1), .int (-1), .int (nI 0)])), (aK, .inl (cI, 24, .inl mk2)), (aL, .inr (0, [.ref aM, .ref aG, .ref aT, .int (nI lc), .int (nI le), .int (nI mo), .int (nI bu), .int (nI on.toNat), .int (nI 0), .int (nI fo), .int (nI sp.toNat)])), (aP, .inl (cG, 4, .inr (.inr (.inr (.inr (pO aP0 aP1 aP2 aP3)))))), (aP0, .inl (cI, 6, .inl (upd v j (nI 0)))), (aP1, .inl (cI, 6, .inl h1)), (aP2, .inl (cI, 6, .inl h2)), (aP3, .inl (cI, 6, .inl h3))] := hD
    refine lv_iinc (k := 3) (v := nI (j + 1 + 1)) hx hb d_RT_beginWith_53 hl rfl (xi_1 _) (by decide) rfl (fun ls hl => ?_)
    have hl : lv_has ls 4 [(3, .int (nI (j + 1 + 1))), (0, .ref aX), (1, .int (nI n2)), (2, .int (nI 0))] := hl
    refine lv_goto (tgt := 36) hx hb d_RT_beginWith_56 rfl ?_
    have hl : lv_has ls 4 [(0, .ref aX), (1, .int (nI n2)), (2, .int (nI 0)), (3, .int (nI ((j + 1) + 1)))] := lv_sub hl [1, 2, 3, 0] rfl
    have hP := hP.sub (ws' := [(aX, .inr (5, [.ref aR, .ref aM, .ref aG, .ref aL, .ref aU, .ref aP, .int (nI 0)])), (aR, .inr (3, [.ref aO, .int (nI n2)])), (aO, .inl (cI, 6, .inl f)), (aM, .inr (1, [.ref aK, .int (-1), .int (-1), .int (nI 0)])), (aK, .inl (cI, 24, .inl mk2)), (aL, .inr (0, [.ref aM, .ref aG, .ref aT, .int (nI lc), .int (nI le), .int (nI mo), .int (nI bu), .int (nI on.toNat), .int (nI 0), .int (nI fo), .int (nI sp.toNat)])), (aP, .inl (cG, 4, .inr (.inr (.inr (.inr (pO aP0 aP1 aP2 aP3)))))), (aP0, .inl (cI, 6, .inl (upd v j (nI 0)))), (aP1, .inl (cI, 6, .inl h1)), (aP2, .inl (cI, 6, .inl h2)), (aP3, .inl (cI, 6, .inl h3))]) [0, 1, 2, 3, 4, 5, 6, 7, 8, 9, 10] rfl
    have hD := hD.sub (ws' := [(aX, .inr (5, [.ref aR, .ref aM, .ref aG, .ref aL, .ref aU, .ref aP, .int (nI 0)])), (aR, .inr (3, [.ref aO, .int (nI n2)])), (aO, .inl (cI, 6, .inl f)), (aM, .inr (1, [.ref aK, .int (-1), .int (-1), .int (nI 0)])), (aK, .inl (cI, 24, .inl mk2)), (aL, .inr (0, [.ref aM, .ref aG, .ref aT, .int (nI lc), .int (nI le), .int (nI mo), .int (nI bu), .int (nI on.toNat), .int (nI 0), .int (nI fo), .int (nI sp.toNat)])), (aP, .inl (cG, 4, .inr (.inr (.inr (.inr (pO aP0 aP1 aP2 aP3)))))), (aP0, .inl (cI, 6, .inl (upd v j (nI 0)))), (aP1, .inl (cI, 6, .inl h1)), (aP2, .inl (cI, 6, .inl h2)), (aP3, .inl (cI, 6, .inl h3))]) [0, 1, 2, 3, 4, 5, 6, 7, 8, 9, 10] (by decide) rfl
    exact ih1 (j + 1) (upd v j (nI 0)) _ _ _ (by omega) ⟨by omega, fun i hi => by unfold upd; split; rfl; exact hi2 i (by omega), hl, hP, hD, hS⟩
  · skip
    refine lv_iconst (v := nI 1) hx hb d_RT_beginWith_34 (by decide) ?_
    refine lv_istore_n hx hb d_RT_beginWith_35 rfl hl (by decide) rfl (fun ls hl => ?_)
    have hl : lv_has ls 4 [(3, .int (nI 1)), (0, .ref aX), (1, .int (nI n2)), (2, .int (nI 1))] := hl
    have hl : lv_has ls 4 [(0, .ref aX), (1, .int (nI n2)), (2, .int (nI 1)), (3, .int (nI (0 + 1)))] := lv_sub hl [1, 2, 3, 0] rfl
    have hP := hP.sub (ws' := [(aX, .inr (5, [.ref aR, .ref aM, .ref aG, .ref aL, .ref aU, .ref aP, .int (nI 0)])), (aR, .inr (3, [.ref aO, .int (nI n2)])), (aO, .inl (cI, 6, .inl f)), (aM, .inr (1, [.ref aK, .int (-1), .int (-1), .int (nI 0)])), (aK, .inl (cI, 24, .inl mk2)), (aL, .inr (0, [.ref aM, .ref aG, .ref aT, .int (nI lc), .int (nI le), .int (nI mo), .int (nI bu), .int (nI on.toNat), .int (nI 0), .int (nI fo), .int (nI sp.toNat)])), (aP, .inl (cG, 4, .inr (.inr (.inr (.inr (pO aP0 aP1 aP2 aP3)))))), (aP0, .inl (cI, 6, .inl h0)), (aP1, .inl (cI, 6, .inl h1)), (aP2, .inl (cI, 6, .inl h2)), (aP3, .inl (cI, 6, .inl h3))]) [0, 1, 2, 3, 4, 5, 6, 7, 8, 9, 10] rfl
    have hD := hD.sub (ws' := [(aX, .inr (5, [.ref aR, .ref aM, .ref aG, .ref aL, .ref aU, .ref aP, .int (nI 0)])), (aR, .inr (3, [.ref aO, .int (nI n2)])), (aO, .inl (cI, 6, .inl f)), (aM, .inr (1, [.ref aK, .int (-1), .int (-1), .int (nI 0)])), (aK, .inl (cI, 24, .inl mk2)), (aL, .inr (0, [.ref aM, .ref aG, .ref aT, .int (nI lc), .int (nI le), .int (nI mo), .int (nI bu), .int (nI on.toNat), .int (nI 0), .int (nI fo), .int (nI sp.toNat)])), (aP, .inl (cG, 4, .inr (.inr (.inr (.inr (pO aP0 aP1 aP2 aP3)))))), (aP0, .inl (cI, 6, .inl h0)), (aP1, .inl (cI, 6, .inl h1)), (aP2, .inl (cI, 6, .inl h2)), (aP3, .inl (cI, 6, .inl h3))]) [0, 1, 2, 3, 4, 5, 6, 7, 8, 9, 10] (by decide) rfl
    refine xn_pc (pc2 := 36) rfl ?_
    refine xl_2 (fun (j : Nat) (v : Nat → Int32) ls H locs => (j ≤ 6) ∧ (∀ i, i < j → v i = nI 0) ∧ lv_has ls 4 [(0, .ref aX), (1, .int (nI n2)), (2, .int (nI 1)), (3, .int (nI (j + 1)))] ∧ va_P D vwCl [(aX, .inr (5, [.ref aR, .ref aM, .ref aG, .ref aL, .ref aU, .ref aP, .int (nI 0)])), (aR, .inr (3, [.ref aO, .int (nI n2)])), (aO, .inl (cI, 6, .inl f)), (aM, .inr (1, [.ref aK, .int (-1), .int (-1), .int (nI 0)])), (aK, .inl (cI, 24, .inl mk2)), (aL, .inr (0, [.ref aM, .ref aG, .ref aT, .int (nI lc), .int (nI le), .int (nI mo), .int (nI bu), .int (nI on.toNat), .int (nI 0), .int (nI fo), .int (nI sp.toNat)])), (aP, .inl (cG, 4, .inr (.inr (.inr (.inr (pO aP0 aP1 aP2 aP3)))))), (aP0, .inl (cI, 6, .inl h0)), (aP1, .inl (cI, 6, .inl v)), (aP2, .inl (cI, 6, .inl h2)), (aP3, .inl (cI, 6, .inl h3))] H ∧ va_D A [(aX, .inr (5, [.ref aR, .ref aM, .ref aG, .ref aL, .ref aU, .ref aP, .int (nI 0)])), (aR, .inr (3, [.ref aO, .int (nI n2)])), (aO, .inl (cI, 6, .inl f)), (aM, .inr (1, [.ref aK, .int (-1), .int (-1), .int (nI 0)])), (aK, .inl (cI, 24, .inl mk2)), (aL, .inr (0, [.ref aM, .ref aG, .ref aT, .int (nI lc), .int (nI le), .int (nI mo), .int (nI bu), .int (nI on.toNat), .int (nI 0), .int (nI fo), .int (nI sp.toNat)])), (aP, .inl (cG, 4, .inr (.inr (.inr (.inr (pO aP0 aP1 aP2 aP3)))))), (aP0, .inl (cI, 6, .inl h0)), (aP1, .inl (cI, 6, .inl v)), (aP2, .inl (cI, 6, .inl h2)), (aP3, .inl (cI, 6, .inl h3))] ∧ va_S A s.heap H locs) (fun (j : Nat) (v : Nat → Int32) => 6 - j) (fun j v ls H locs hI ih2 => ?_) 0 h1 ⟨Nat.zero_le 6, fun i hi => absurd hi (Nat.not_lt_zero i), hl, hP, hD, hS⟩
    obtain ⟨hi1, hi2, hl, hP, hD, hS⟩ := hI
    refine lv_iload_n hx hb d_RT_beginWith_36 rfl (lv_at hl 3 rfl) ?_
    refine lv_bipush (v := nI 6) hx hb d_RT_beginWith_37 (by decide) ?_
    refine xb_cgt hx hb 59 (by omega) (by omega) d_RT_beginWith_39 rfl (fun h39 => ?_) (fun h39 => ?_)
    · skip
      refine lv_iinc (k := 2) (v := nI (1 + 1)) hx hb d_RT_beginWith_59 hl rfl (xi_1 _) (by decide) rfl (fun ls hl => ?_)
      have hl : lv_has ls 4 [(2, .int (nI (1 + 1))), (0, .ref aX), (1, .int (nI n2)), (3, .int (nI (j + 1)))] := hl
      refine lv_goto (tgt := 29) hx hb d_RT_beginWith_62 rfl ?_
      have hl : lv_has ls 4 [(0, .ref aX), (1, .int (nI n2)), (2, .int (nI (1 + 1)))] := lv_sub hl [1, 2, 0] rfl
      have hP := hP.sub (ws' := [(aX, .inr (5, [.ref aR, .ref aM, .ref aG, .ref aL, .ref aU, .ref aP, .int (nI 0)])), (aR, .inr (3, [.ref aO, .int (nI n2)])), (aO, .inl (cI, 6, .inl f)), (aM, .inr (1, [.ref aK, .int (-1), .int (-1), .int (nI 0)])), (aK, .inl (cI, 24, .inl mk2)), (aL, .inr (0, [.ref aM, .ref aG, .ref aT, .int (nI lc), .int (nI le), .int (nI mo), .int (nI bu), .int (nI on.toNat), .int (nI 0), .int (nI fo), .int (nI sp.toNat)])), (aP, .inl (cG, 4, .inr (.inr (.inr (.inr (pO aP0 aP1 aP2 aP3)))))), (aP0, .inl (cI, 6, .inl h0)), (aP1, .inl (cI, 6, .inl v)), (aP2, .inl (cI, 6, .inl h2)), (aP3, .inl (cI, 6, .inl h3))]) [0, 1, 2, 3, 4, 5, 6, 7, 8, 9, 10] rfl
      have hD := hD.sub (ws' := [(aX, .inr (5, [.ref aR, .ref aM, .ref aG, .ref aL, .ref aU, .ref aP, .int (nI 0)])), (aR, .inr (3, [.ref aO, .int (nI n2)])), (aO, .inl (cI, 6, .inl f)), (aM, .inr (1, [.ref aK, .int (-1), .int (-1), .int (nI 0)])), (aK, .inl (cI, 24, .inl mk2)), (aL, .inr (0, [.ref aM, .ref aG, .ref aT, .int (nI lc), .int (nI le), .int (nI mo), .int (nI bu), .int (nI on.toNat), .int (nI 0), .int (nI fo), .int (nI sp.toNat)])), (aP, .inl (cG, 4, .inr (.inr (.inr (.inr (pO aP0 aP1 aP2 aP3)))))), (aP0, .inl (cI, 6, .inl h0)), (aP1, .inl (cI, 6, .inl v)), (aP2, .inl (cI, 6, .inl h2)), (aP3, .inl (cI, 6, .inl h3))]) [0, 1, 2, 3, 4, 5, 6, 7, 8, 9, 10] (by decide) rfl
      exact ih (1 + 1) h0 v h2 h3 _ _ _ (by omega) ⟨by omega, fun h => hz0 (by omega), fun _ => fun j hj => hi2 j (by omega), fun h => hz2 (by omega), fun h => hz3 (by omega), hl, hP, hD, hS⟩
    refine lv_aload_n hx hb d_RT_beginWith_42 rfl (lv_at hl 0 rfl) ?_
    refine va_get (D := D) (ci := 5) (v := .ref aP) (C := R_RT) (T := F_RT) (N := 7) hx hb hts in_RT hown hK hP 0 rfl rfl 5 (by decide) (hts _ (List.mem_cons_of_mem _ k_151)) (fun _ h9 => h9) rfl d_RT_beginWith_43 ?_
    refine lv_iload_n hx hb d_RT_beginWith_46 rfl (lv_at hl 2 rfl) ?_
    refine xa_gald (v := aP1) hx hb hK hP 6 3 rfl rfl (by decide) (by decide) rfl d_RT_beginWith_47 ?_
    refine lv_iload_n hx hb d_RT_beginWith_48 rfl (lv_at hl 3 rfl) ?_
    refine lv_iconst (v := nI 1) hx hb d_RT_beginWith_49 (by decide) ?_
    refine lv_isub hx hb d_RT_beginWith_50 ?_
    refine xn_i (y := nI j) (pk_sub (Nat.le_add_left 1 j)) ?_
    refine lv_iconst (v := nI 0) hx hb d_RT_beginWith_51 (by decide) ?_
    refine xa_iast hx hb hK hP hD hS 8 0 rfl rfl (by omega) (by decide) d_RT_beginWith_52 (fun H locs hP hD hS => ?_)
    have hP : va_P D vwCl [(aX, .inr (5, [.ref aR, .ref aM, .ref aG, .ref aL, .ref aU, .ref aP, .int (nI 0)])), (aR, .inr (3, [.ref aO, .int (nI n2)])), (aO, .inl (cI, 6, .inl f)), (aM, .inr (1, [.ref aK, .int (-1), .int (-1), .int (nI 0)])), (aK, .inl (cI, 24, .inl mk2)), (aL, .inr (0, [.ref aM, .ref aG, .ref aT, .int (nI lc), .int (nI le), .int (nI mo), .int (nI bu), .int (nI on.toNat), .int (nI 0), .int (nI fo), .int (nI sp.toNat)])), (aP, .inl (cG, 4, .inr (.inr (.inr (.inr (pO aP0 aP1 aP2 aP3)))))), (aP0, .inl (cI, 6, .inl h0)), (aP1, .inl (cI, 6, .inl (upd v j (nI 0)))), (aP2, .inl (cI, 6, .inl h2)), (aP3, .inl (cI, 6, .inl h3))] H := hP
    have hD : va_D A [(aX, .inr (5, [.ref aR, .ref aM, .ref aG, .ref aL, .ref aU, .ref aP, .int (nI 0)])), (aR, .inr (3, [.ref aO, .int (nI n2)])), (aO, .inl (cI, 6, .inl f)), (aM, .inr (1, [.ref aK, .int (-1), .int (-1), .int (nI 0)])), (aK, .inl (cI, 24, .inl mk2)), (aL, .inr (0, [.ref aM, .ref aG, .ref aT, .int (nI lc), .int (nI le), .int (nI mo), .int (nI bu), .int (nI on.toNat), .int (nI 0), .int (nI fo), .int (nI sp.toNat)])), (aP, .inl (cG, 4, .inr (.inr (.inr (.inr (pO aP0 aP1 aP2 aP3)))))), (aP0, .inl (cI, 6, .inl h0)), (aP1, .inl (cI, 6, .inl (upd v j (nI 0)))), (aP2, .inl (cI, 6, .inl h2)), (aP3, .inl (cI, 6, .inl h3))] := hD
    refine lv_iinc (k := 3) (v := nI (j + 1 + 1)) hx hb d_RT_beginWith_53 hl rfl (xi_1 _) (by decide) rfl (fun ls hl => ?_)
    have hl : lv_has ls 4 [(3, .int (nI (j + 1 + 1))), (0, .ref aX), (1, .int (nI n2)), (2, .int (nI 1))] := hl
    refine lv_goto (tgt := 36) hx hb d_RT_beginWith_56 rfl ?_
    have hl : lv_has ls 4 [(0, .ref aX), (1, .int (nI n2)), (2, .int (nI 1)), (3, .int (nI ((j + 1) + 1)))] := lv_sub hl [1, 2, 3, 0] rfl
    have hP := hP.sub (ws' := [(aX, .inr (5, [.ref aR, .ref aM, .ref aG, .ref aL, .ref aU, .ref aP, .int (nI 0)])), (aR, .inr (3, [.ref aO, .int (nI n2)])), (aO, .inl (cI, 6, .inl f)), (aM, .inr (1, [.ref aK, .int (-1), .int (-1), .int (nI 0)])), (aK, .inl (cI, 24, .inl mk2)), (aL, .inr (0, [.ref aM, .ref aG, .ref aT, .int (nI lc), .int (nI le), .int (nI mo), .int (nI bu), .int (nI on.toNat), .int (nI 0), .int (nI fo), .int (nI sp.toNat)])), (aP, .inl (cG, 4, .inr (.inr (.inr (.inr (pO aP0 aP1 aP2 aP3)))))), (aP0, .inl (cI, 6, .inl h0)), (aP1, .inl (cI, 6, .inl (upd v j (nI 0)))), (aP2, .inl (cI, 6, .inl h2)), (aP3, .inl (cI, 6, .inl h3))]) [0, 1, 2, 3, 4, 5, 6, 7, 8, 9, 10] rfl
    have hD := hD.sub (ws' := [(aX, .inr (5, [.ref aR, .ref aM, .ref aG, .ref aL, .ref aU, .ref aP, .int (nI 0)])), (aR, .inr (3, [.ref aO, .int (nI n2)])), (aO, .inl (cI, 6, .inl f)), (aM, .inr (1, [.ref aK, .int (-1), .int (-1), .int (nI 0)])), (aK, .inl (cI, 24, .inl mk2)), (aL, .inr (0, [.ref aM, .ref aG, .ref aT, .int (nI lc), .int (nI le), .int (nI mo), .int (nI bu), .int (nI on.toNat), .int (nI 0), .int (nI fo), .int (nI sp.toNat)])), (aP, .inl (cG, 4, .inr (.inr (.inr (.inr (pO aP0 aP1 aP2 aP3)))))), (aP0, .inl (cI, 6, .inl h0)), (aP1, .inl (cI, 6, .inl (upd v j (nI 0)))), (aP2, .inl (cI, 6, .inl h2)), (aP3, .inl (cI, 6, .inl h3))]) [0, 1, 2, 3, 4, 5, 6, 7, 8, 9, 10] (by decide) rfl
    exact ih2 (j + 1) (upd v j (nI 0)) _ _ _ (by omega) ⟨by omega, fun i hi => by unfold upd; split; rfl; exact hi2 i (by omega), hl, hP, hD, hS⟩
  · skip
    refine lv_iconst (v := nI 1) hx hb d_RT_beginWith_34 (by decide) ?_
    refine lv_istore_n hx hb d_RT_beginWith_35 rfl hl (by decide) rfl (fun ls hl => ?_)
    have hl : lv_has ls 4 [(3, .int (nI 1)), (0, .ref aX), (1, .int (nI n2)), (2, .int (nI 2))] := hl
    have hl : lv_has ls 4 [(0, .ref aX), (1, .int (nI n2)), (2, .int (nI 2)), (3, .int (nI (0 + 1)))] := lv_sub hl [1, 2, 3, 0] rfl
    have hP := hP.sub (ws' := [(aX, .inr (5, [.ref aR, .ref aM, .ref aG, .ref aL, .ref aU, .ref aP, .int (nI 0)])), (aR, .inr (3, [.ref aO, .int (nI n2)])), (aO, .inl (cI, 6, .inl f)), (aM, .inr (1, [.ref aK, .int (-1), .int (-1), .int (nI 0)])), (aK, .inl (cI, 24, .inl mk2)), (aL, .inr (0, [.ref aM, .ref aG, .ref aT, .int (nI lc), .int (nI le), .int (nI mo), .int (nI bu), .int (nI on.toNat), .int (nI 0), .int (nI fo), .int (nI sp.toNat)])), (aP, .inl (cG, 4, .inr (.inr (.inr (.inr (pO aP0 aP1 aP2 aP3)))))), (aP0, .inl (cI, 6, .inl h0)), (aP1, .inl (cI, 6, .inl h1)), (aP2, .inl (cI, 6, .inl h2)), (aP3, .inl (cI, 6, .inl h3))]) [0, 1, 2, 3, 4, 5, 6, 7, 8, 9, 10] rfl
    have hD := hD.sub (ws' := [(aX, .inr (5, [.ref aR, .ref aM, .ref aG, .ref aL, .ref aU, .ref aP, .int (nI 0)])), (aR, .inr (3, [.ref aO, .int (nI n2)])), (aO, .inl (cI, 6, .inl f)), (aM, .inr (1, [.ref aK, .int (-1), .int (-1), .int (nI 0)])), (aK, .inl (cI, 24, .inl mk2)), (aL, .inr (0, [.ref aM, .ref aG, .ref aT, .int (nI lc), .int (nI le), .int (nI mo), .int (nI bu), .int (nI on.toNat), .int (nI 0), .int (nI fo), .int (nI sp.toNat)])), (aP, .inl (cG, 4, .inr (.inr (.inr (.inr (pO aP0 aP1 aP2 aP3)))))), (aP0, .inl (cI, 6, .inl h0)), (aP1, .inl (cI, 6, .inl h1)), (aP2, .inl (cI, 6, .inl h2)), (aP3, .inl (cI, 6, .inl h3))]) [0, 1, 2, 3, 4, 5, 6, 7, 8, 9, 10] (by decide) rfl
    refine xn_pc (pc2 := 36) rfl ?_
    refine xl_2 (fun (j : Nat) (v : Nat → Int32) ls H locs => (j ≤ 6) ∧ (∀ i, i < j → v i = nI 0) ∧ lv_has ls 4 [(0, .ref aX), (1, .int (nI n2)), (2, .int (nI 2)), (3, .int (nI (j + 1)))] ∧ va_P D vwCl [(aX, .inr (5, [.ref aR, .ref aM, .ref aG, .ref aL, .ref aU, .ref aP, .int (nI 0)])), (aR, .inr (3, [.ref aO, .int (nI n2)])), (aO, .inl (cI, 6, .inl f)), (aM, .inr (1, [.ref aK, .int (-1), .int (-1), .int (nI 0)])), (aK, .inl (cI, 24, .inl mk2)), (aL, .inr (0, [.ref aM, .ref aG, .ref aT, .int (nI lc), .int (nI le), .int (nI mo), .int (nI bu), .int (nI on.toNat), .int (nI 0), .int (nI fo), .int (nI sp.toNat)])), (aP, .inl (cG, 4, .inr (.inr (.inr (.inr (pO aP0 aP1 aP2 aP3)))))), (aP0, .inl (cI, 6, .inl h0)), (aP1, .inl (cI, 6, .inl h1)), (aP2, .inl (cI, 6, .inl v)), (aP3, .inl (cI, 6, .inl h3))] H ∧ va_D A [(aX, .inr (5, [.ref aR, .ref aM, .ref aG, .ref aL, .ref aU, .ref aP, .int (nI 0)])), (aR, .inr (3, [.ref aO, .int (nI n2)])), (aO, .inl (cI, 6, .inl f)), (aM, .inr (1, [.ref aK, .int (-1), .int (-1), .int (nI 0)])), (aK, .inl (cI, 24, .inl mk2)), (aL, .inr (0, [.ref aM, .ref aG, .ref aT, .int (nI lc), .int (nI le), .int (nI mo), .int (nI bu), .int (nI on.toNat), .int (nI 0), .int (nI fo), .int (nI sp.toNat)])), (aP, .inl (cG, 4, .inr (.inr (.inr (.inr (pO aP0 aP1 aP2 aP3)))))), (aP0, .inl (cI, 6, .inl h0)), (aP1, .inl (cI, 6, .inl h1)), (aP2, .inl (cI, 6, .inl v)), (aP3, .inl (cI, 6, .inl h3))] ∧ va_S A s.heap H locs) (fun (j : Nat) (v : Nat → Int32) => 6 - j) (fun j v ls H locs hI ih3 => ?_) 0 h2 ⟨Nat.zero_le 6, fun i hi => absurd hi (Nat.not_lt_zero i), hl, hP, hD, hS⟩
    obtain ⟨hi1, hi2, hl, hP, hD, hS⟩ := hI
    refine lv_iload_n hx hb d_RT_beginWith_36 rfl (lv_at hl 3 rfl) ?_
    refine lv_bipush (v := nI 6) hx hb d_RT_beginWith_37 (by decide) ?_
    refine xb_cgt hx hb 59 (by omega) (by omega) d_RT_beginWith_39 rfl (fun h39 => ?_) (fun h39 => ?_)
    · skip
      refine lv_iinc (k := 2) (v := nI (2 + 1)) hx hb d_RT_beginWith_59 hl rfl (xi_1 _) (by decide) rfl (fun ls hl => ?_)
      have hl : lv_has ls 4 [(2, .int (nI (2 + 1))), (0, .ref aX), (1, .int (nI n2)), (3, .int (nI (j + 1)))] := hl
      refine lv_goto (tgt := 29) hx hb d_RT_beginWith_62 rfl ?_
      have hl : lv_has ls 4 [(0, .ref aX), (1, .int (nI n2)), (2, .int (nI (2 + 1)))] := lv_sub hl [1, 2, 0] rfl
      have hP := hP.sub (ws' := [(aX, .inr (5, [.ref aR, .ref aM, .ref aG, .ref aL, .ref aU, .ref aP, .int (nI 0)])), (aR, .inr (3, [.ref aO, .int (nI n2)])), (aO, .inl (cI, 6, .inl f)), (aM, .inr (1, [.ref aK, .int (-1), .int (-1), .int (nI 0)])), (aK, .inl (cI, 24, .inl mk2)), (aL, .inr (0, [.ref aM, .ref aG, .ref aT, .int (nI lc), .int (nI le), .int (nI mo), .int (nI bu), .int (nI on.toNat), .int (nI 0), .int (nI fo), .int (nI sp.toNat)])), (aP, .inl (cG, 4, .inr (.inr (.inr (.inr (pO aP0 aP1 aP2 aP3)))))), (aP0, .inl (cI, 6, .inl h0)), (aP1, .inl (cI, 6, .inl h1)), (aP2, .inl (cI, 6, .inl v)), (aP3, .inl (cI, 6, .inl h3))]) [0, 1, 2, 3, 4, 5, 6, 7, 8, 9, 10] rfl
      have hD := hD.sub (ws' := [(aX, .inr (5, [.ref aR, .ref aM, .ref aG, .ref aL, .ref aU, .ref aP, .int (nI 0)])), (aR, .inr (3, [.ref aO, .int (nI n2)])), (aO, .inl (cI, 6, .inl f)), (aM, .inr (1, [.ref aK, .int (-1), .int (-1), .int (nI 0)])), (aK, .inl (cI, 24, .inl mk2)), (aL, .inr (0, [.ref aM, .ref aG, .ref aT, .int (nI lc), .int (nI le), .int (nI mo), .int (nI bu), .int (nI on.toNat), .int (nI 0), .int (nI fo), .int (nI sp.toNat)])), (aP, .inl (cG, 4, .inr (.inr (.inr (.inr (pO aP0 aP1 aP2 aP3)))))), (aP0, .inl (cI, 6, .inl h0)), (aP1, .inl (cI, 6, .inl h1)), (aP2, .inl (cI, 6, .inl v)), (aP3, .inl (cI, 6, .inl h3))]) [0, 1, 2, 3, 4, 5, 6, 7, 8, 9, 10] (by decide) rfl
      exact ih (2 + 1) h0 h1 v h3 _ _ _ (by omega) ⟨by omega, fun h => hz0 (by omega), fun h => hz1 (by omega), fun _ => fun j hj => hi2 j (by omega), fun h => hz3 (by omega), hl, hP, hD, hS⟩
    refine lv_aload_n hx hb d_RT_beginWith_42 rfl (lv_at hl 0 rfl) ?_
    refine va_get (D := D) (ci := 5) (v := .ref aP) (C := R_RT) (T := F_RT) (N := 7) hx hb hts in_RT hown hK hP 0 rfl rfl 5 (by decide) (hts _ (List.mem_cons_of_mem _ k_151)) (fun _ h9 => h9) rfl d_RT_beginWith_43 ?_
    refine lv_iload_n hx hb d_RT_beginWith_46 rfl (lv_at hl 2 rfl) ?_
    refine xa_gald (v := aP2) hx hb hK hP 6 3 rfl rfl (by decide) (by decide) rfl d_RT_beginWith_47 ?_
    refine lv_iload_n hx hb d_RT_beginWith_48 rfl (lv_at hl 3 rfl) ?_
    refine lv_iconst (v := nI 1) hx hb d_RT_beginWith_49 (by decide) ?_
    refine lv_isub hx hb d_RT_beginWith_50 ?_
    refine xn_i (y := nI j) (pk_sub (Nat.le_add_left 1 j)) ?_
    refine lv_iconst (v := nI 0) hx hb d_RT_beginWith_51 (by decide) ?_
    refine xa_iast hx hb hK hP hD hS 9 0 rfl rfl (by omega) (by decide) d_RT_beginWith_52 (fun H locs hP hD hS => ?_)
    have hP : va_P D vwCl [(aX, .inr (5, [.ref aR, .ref aM, .ref aG, .ref aL, .ref aU, .ref aP, .int (nI 0)])), (aR, .inr (3, [.ref aO, .int (nI n2)])), (aO, .inl (cI, 6, .inl f)), (aM, .inr (1, [.ref aK, .int (-1), .int (-1), .int (nI 0)])), (aK, .inl (cI, 24, .inl mk2)), (aL, .inr (0, [.ref aM, .ref aG, .ref aT, .int (nI lc), .int (nI le), .int (nI mo), .int (nI bu), .int (nI on.toNat), .int (nI 0), .int (nI fo), .int (nI sp.toNat)])), (aP, .inl (cG, 4, .inr (.inr (.inr (.inr (pO aP0 aP1 aP2 aP3)))))), (aP0, .inl (cI, 6, .inl h0)), (aP1, .inl (cI, 6, .inl h1)), (aP2, .inl (cI, 6, .inl (upd v j (nI 0)))), (aP3, .inl (cI, 6, .inl h3))] H := hP
    have hD : va_D A [(aX, .inr (5, [.ref aR, .ref aM, .ref aG, .ref aL, .ref aU, .ref aP, .int (nI 0)])), (aR, .inr (3, [.ref aO, .int (nI n2)])), (aO, .inl (cI, 6, .inl f)), (aM, .inr (1, [.ref aK, .int (-1), .int (-1), .int (nI 0)])), (aK, .inl (cI, 24, .inl mk2)), (aL, .inr (0, [.ref aM, .ref aG, .ref aT, .int (nI lc), .int (nI le), .int (nI mo), .int (nI bu), .int (nI on.toNat), .int (nI 0), .int (nI fo), .int (nI sp.toNat)])), (aP, .inl (cG, 4, .inr (.inr (.inr (.inr (pO aP0 aP1 aP2 aP3)))))), (aP0, .inl (cI, 6, .inl h0)), (aP1, .inl (cI, 6, .inl h1)), (aP2, .inl (cI, 6, .inl (upd v j (nI 0)))), (aP3, .inl (cI, 6, .inl h3))] := hD
    refine lv_iinc (k := 3) (v := nI (j + 1 + 1)) hx hb d_RT_beginWith_53 hl rfl (xi_1 _) (by decide) rfl (fun ls hl => ?_)
    have hl : lv_has ls 4 [(3, .int (nI (j + 1 + 1))), (0, .ref aX), (1, .int (nI n2)), (2, .int (nI 2))] := hl
    refine lv_goto (tgt := 36) hx hb d_RT_beginWith_56 rfl ?_
    have hl : lv_has ls 4 [(0, .ref aX), (1, .int (nI n2)), (2, .int (nI 2)), (3, .int (nI ((j + 1) + 1)))] := lv_sub hl [1, 2, 3, 0] rfl
    have hP := hP.sub (ws' := [(aX, .inr (5, [.ref aR, .ref aM, .ref aG, .ref aL, .ref aU, .ref aP, .int (nI 0)])), (aR, .inr (3, [.ref aO, .int (nI n2)])), (aO, .inl (cI, 6, .inl f)), (aM, .inr (1, [.ref aK, .int (-1), .int (-1), .int (nI 0)])), (aK, .inl (cI, 24, .inl mk2)), (aL, .inr (0, [.ref aM, .ref aG, .ref aT, .int (nI lc), .int (nI le), .int (nI mo), .int (nI bu), .int (nI on.toNat), .int (nI 0), .int (nI fo), .int (nI sp.toNat)])), (aP, .inl (cG, 4, .inr (.inr (.inr (.inr (pO aP0 aP1 aP2 aP3)))))), (aP0, .inl (cI, 6, .inl h0)), (aP1, .inl (cI, 6, .inl h1)), (aP2, .inl (cI, 6, .inl (upd v j (nI 0)))), (aP3, .inl (cI, 6, .inl h3))]) [0, 1, 2, 3, 4, 5, 6, 7, 8, 9, 10] rfl
    have hD := hD.sub (ws' := [(aX, .inr (5, [.ref aR, .ref aM, .ref aG, .ref aL, .ref aU, .ref aP, .int (nI 0)])), (aR, .inr (3, [.ref aO, .int (nI n2)])), (aO, .inl (cI, 6, .inl f)), (aM, .inr (1, [.ref aK, .int (-1), .int (-1), .int (nI 0)])), (aK, .inl (cI, 24, .inl mk2)), (aL, .inr (0, [.ref aM, .ref aG, .ref aT, .int (nI lc), .int (nI le), .int (nI mo), .int (nI bu), .int (nI on.toNat), .int (nI 0), .int (nI fo), .int (nI sp.toNat)])), (aP, .inl (cG, 4, .inr (.inr (.inr (.inr (pO aP0 aP1 aP2 aP3)))))), (aP0, .inl (cI, 6, .inl h0)), (aP1, .inl (cI, 6, .inl h1)), (aP2, .inl (cI, 6, .inl (upd v j (nI 0)))), (aP3, .inl (cI, 6, .inl h3))]) [0, 1, 2, 3, 4, 5, 6, 7, 8, 9, 10] (by decide) rfl
    exact ih3 (j + 1) (upd v j (nI 0)) _ _ _ (by omega) ⟨by omega, fun i hi => by unfold upd; split; rfl; exact hi2 i (by omega), hl, hP, hD, hS⟩
  · skip
    refine lv_iconst (v := nI 1) hx hb d_RT_beginWith_34 (by decide) ?_
    refine lv_istore_n hx hb d_RT_beginWith_35 rfl hl (by decide) rfl (fun ls hl => ?_)
    have hl : lv_has ls 4 [(3, .int (nI 1)), (0, .ref aX), (1, .int (nI n2)), (2, .int (nI 3))] := hl
    have hl : lv_has ls 4 [(0, .ref aX), (1, .int (nI n2)), (2, .int (nI 3)), (3, .int (nI (0 + 1)))] := lv_sub hl [1, 2, 3, 0] rfl
    have hP := hP.sub (ws' := [(aX, .inr (5, [.ref aR, .ref aM, .ref aG, .ref aL, .ref aU, .ref aP, .int (nI 0)])), (aR, .inr (3, [.ref aO, .int (nI n2)])), (aO, .inl (cI, 6, .inl f)), (aM, .inr (1, [.ref aK, .int (-1), .int (-1), .int (nI 0)])), (aK, .inl (cI, 24, .inl mk2)), (aL, .inr (0, [.ref aM, .ref aG, .ref aT, .int (nI lc), .int (nI le), .int (nI mo), .int (nI bu), .int (nI on.toNat), .int (nI 0), .int (nI fo), .int (nI sp.toNat)])), (aP, .inl (cG, 4, .inr (.inr (.inr (.inr (pO aP0 aP1 aP2 aP3)))))), (aP0, .inl (cI, 6, .inl h0)), (aP1, .inl (cI, 6, .inl h1)), (aP2, .inl (cI, 6, .inl h2)), (aP3, .inl (cI, 6, .inl h3))]) [0, 1, 2, 3, 4, 5, 6, 7, 8, 9, 10] rfl
    have hD := hD.sub (ws' := [(aX, .inr (5, [.ref aR, .ref aM, .ref aG, .ref aL, .ref aU, .ref aP, .int (nI 0)])), (aR, .inr (3, [.ref aO, .int (nI n2)])), (aO, .inl (cI, 6, .inl f)), (aM, .inr (1, [.ref aK, .int (-1), .int (-1), .int (nI 0)])), (aK, .inl (cI, 24, .inl mk2)), (aL, .inr (0, [.ref aM, .ref aG, .ref aT, .int (nI lc), .int (nI le), .int (nI mo), .int (nI bu), .int (nI on.toNat), .int (nI 0), .int (nI fo), .int (nI sp.toNat)])), (aP, .inl (cG, 4, .inr (.inr (.inr (.inr (pO aP0 aP1 aP2 aP3)))))), (aP0, .inl (cI, 6, .inl h0)), (aP1, .inl (cI, 6, .inl h1)), (aP2, .inl (cI, 6, .inl h2)), (aP3, .inl (cI, 6, .inl h3))]) [0, 1, 2, 3, 4, 5, 6, 7, 8, 9, 10] (by decide) rfl
    refine xn_pc (pc2 := 36) rfl ?_
    refine xl_2 (fun (j : Nat) (v : Nat → Int32) ls H locs => (j ≤ 6) ∧ (∀ i, i < j → v i = nI 0) ∧ lv_has ls 4 [(0, .ref aX), (1, .int (nI n2)), (2, .int (nI 3)), (3, .int (nI (j + 1)))] ∧ va_P D vwCl [(aX, .inr (5, [.ref aR, .ref aM, .ref aG, .ref aL, .ref aU, .ref aP, .int (nI 0)])), (aR, .inr (3, [.ref aO, .int (nI n2)])), (aO, .inl (cI, 6, .inl f)), (aM, .inr (1, [.ref aK, .int (-1), .int (-1), .int (nI 0)])), (aK, .inl (cI, 24, .inl mk2)), (aL, .inr (0, [.ref aM, .ref aG, .ref aT, .int (nI lc), .int (nI le), .int (nI mo), .int (nI bu), .int (nI on.toNat), .int (nI 0), .int (nI fo), .int (nI sp.toNat)])), (aP, .inl (cG, 4, .inr (.inr (.inr (.inr (pO aP0 aP1 aP2 aP3)))))), (aP0, .inl (cI, 6, .inl h0)), (aP1, .inl (cI, 6, .inl h1)), (aP2, .inl (cI, 6, .inl h2)), (aP3, .inl (cI, 6, .inl v))] H ∧ va_D A [(aX, .inr (5, [.ref aR, .ref aM, .ref aG, .ref aL, .ref aU, .ref aP, .int (nI 0)])), (aR, .inr (3, [.ref aO, .int (nI n2)])), (aO, .inl (cI, 6, .inl f)), (aM, .inr (1, [.ref aK, .int (-1), .int (-1), .int (nI 0)])), (aK, .inl (cI, 24, .inl mk2)), (aL, .inr (0, [.ref aM, .ref aG, .ref aT, .int (nI lc), .int (nI le), .int (nI mo), .int (nI bu), .int (nI on.toNat), .int (nI 0), .int (nI fo), .int (nI sp.toNat)])), (aP, .inl (cG, 4, .inr (.inr (.inr (.inr (pO aP0 aP1 aP2 aP3)))))), (aP0, .inl (cI, 6, .inl h0)), (aP1, .inl (cI, 6, .inl h1)), (aP2, .inl (cI, 6, .inl h2)), (aP3, .inl (cI, 6, .inl v))] ∧ va_S A s.heap H locs) (fun (j : Nat) (v : Nat → Int32) => 6 - j) (fun j v ls H locs hI ih4 => ?_) 0 h3 ⟨Nat.zero_le 6, fun i hi => absurd hi (Nat.not_lt_zero i), hl, hP, hD, hS⟩
    obtain ⟨hi1, hi2, hl, hP, hD, hS⟩ := hI
    refine lv_iload_n hx hb d_RT_beginWith_36 rfl (lv_at hl 3 rfl) ?_
    refine lv_bipush (v := nI 6) hx hb d_RT_beginWith_37 (by decide) ?_
    refine xb_cgt hx hb 59 (by omega) (by omega) d_RT_beginWith_39 rfl (fun h39 => ?_) (fun h39 => ?_)
    · skip
      refine lv_iinc (k := 2) (v := nI (3 + 1)) hx hb d_RT_beginWith_59 hl rfl (xi_1 _) (by decide) rfl (fun ls hl => ?_)
      have hl : lv_has ls 4 [(2, .int (nI (3 + 1))), (0, .ref aX), (1, .int (nI n2)), (3, .int (nI (j + 1)))] := hl
      refine lv_goto (tgt := 29) hx hb d_RT_beginWith_62 rfl ?_
      have hl : lv_has ls 4 [(0, .ref aX), (1, .int (nI n2)), (2, .int (nI (3 + 1)))] := lv_sub hl [1, 2, 0] rfl
      have hP := hP.sub (ws' := [(aX, .inr (5, [.ref aR, .ref aM, .ref aG, .ref aL, .ref aU, .ref aP, .int (nI 0)])), (aR, .inr (3, [.ref aO, .int (nI n2)])), (aO, .inl (cI, 6, .inl f)), (aM, .inr (1, [.ref aK, .int (-1), .int (-1), .int (nI 0)])), (aK, .inl (cI, 24, .inl mk2)), (aL, .inr (0, [.ref aM, .ref aG, .ref aT, .int (nI lc), .int (nI le), .int (nI mo), .int (nI bu), .int (nI on.toNat), .int (nI 0), .int (nI fo), .int (nI sp.toNat)])), (aP, .inl (cG, 4, .inr (.inr (.inr (.inr (pO aP0 aP1 aP2 aP3)))))), (aP0, .inl (cI, 6, .inl h0)), (aP1, .inl (cI, 6, .inl h1)), (aP2, .inl (cI, 6, .inl h2)), (aP3, .inl (cI, 6, .inl v))]) [0, 1, 2, 3, 4, 5, 6, 7, 8, 9, 10] rfl
      have hD := hD.sub (ws' := [(aX, .inr (5, [.ref aR, .ref aM, .ref aG, .ref aL, .ref aU, .ref aP, .int (nI 0)])), (aR, .inr (3, [.ref aO, .int (nI n2)])), (aO, .inl (cI, 6, .inl f)), (aM, .inr (1, [.ref aK, .int (-1), .int (-1), .int (nI 0)])), (aK, .inl (cI, 24, .inl mk2)), (aL, .inr (0, [.ref aM, .ref aG, .ref aT, .int (nI lc), .int (nI le), .int (nI mo), .int (nI bu), .int (nI on.toNat), .int (nI 0), .int (nI fo), .int (nI sp.toNat)])), (aP, .inl (cG, 4, .inr (.inr (.inr (.inr (pO aP0 aP1 aP2 aP3)))))), (aP0, .inl (cI, 6, .inl h0)), (aP1, .inl (cI, 6, .inl h1)), (aP2, .inl (cI, 6, .inl h2)), (aP3, .inl (cI, 6, .inl v))]) [0, 1, 2, 3, 4, 5, 6, 7, 8, 9, 10] (by decide) rfl
      exact ih (3 + 1) h0 h1 h2 v _ _ _ (by omega) ⟨by omega, fun h => hz0 (by omega), fun h => hz1 (by omega), fun h => hz2 (by omega), fun _ => fun j hj => hi2 j (by omega), hl, hP, hD, hS⟩
    refine lv_aload_n hx hb d_RT_beginWith_42 rfl (lv_at hl 0 rfl) ?_
    refine va_get (D := D) (ci := 5) (v := .ref aP) (C := R_RT) (T := F_RT) (N := 7) hx hb hts in_RT hown hK hP 0 rfl rfl 5 (by decide) (hts _ (List.mem_cons_of_mem _ k_151)) (fun _ h9 => h9) rfl d_RT_beginWith_43 ?_
    refine lv_iload_n hx hb d_RT_beginWith_46 rfl (lv_at hl 2 rfl) ?_
    refine xa_gald (v := aP3) hx hb hK hP 6 3 rfl rfl (by decide) (by decide) rfl d_RT_beginWith_47 ?_
    refine lv_iload_n hx hb d_RT_beginWith_48 rfl (lv_at hl 3 rfl) ?_
    refine lv_iconst (v := nI 1) hx hb d_RT_beginWith_49 (by decide) ?_
    refine lv_isub hx hb d_RT_beginWith_50 ?_
    refine xn_i (y := nI j) (pk_sub (Nat.le_add_left 1 j)) ?_
    refine lv_iconst (v := nI 0) hx hb d_RT_beginWith_51 (by decide) ?_
    refine xa_iast hx hb hK hP hD hS 10 0 rfl rfl (by omega) (by decide) d_RT_beginWith_52 (fun H locs hP hD hS => ?_)
    have hP : va_P D vwCl [(aX, .inr (5, [.ref aR, .ref aM, .ref aG, .ref aL, .ref aU, .ref aP, .int (nI 0)])), (aR, .inr (3, [.ref aO, .int (nI n2)])), (aO, .inl (cI, 6, .inl f)), (aM, .inr (1, [.ref aK, .int (-1), .int (-1), .int (nI 0)])), (aK, .inl (cI, 24, .inl mk2)), (aL, .inr (0, [.ref aM, .ref aG, .ref aT, .int (nI lc), .int (nI le), .int (nI mo), .int (nI bu), .int (nI on.toNat), .int (nI 0), .int (nI fo), .int (nI sp.toNat)])), (aP, .inl (cG, 4, .inr (.inr (.inr (.inr (pO aP0 aP1 aP2 aP3)))))), (aP0, .inl (cI, 6, .inl h0)), (aP1, .inl (cI, 6, .inl h1)), (aP2, .inl (cI, 6, .inl h2)), (aP3, .inl (cI, 6, .inl (upd v j (nI 0))))] H := hP
    have hD : va_D A [(aX, .inr (5, [.ref aR, .ref aM, .ref aG, .ref aL, .ref aU, .ref aP, .int (nI 0)])), (aR, .inr (3, [.ref aO, .int (nI n2)])), (aO, .inl (cI, 6, .inl f)), (aM, .inr (1, [.ref aK, .int (-1), .int (-1), .int (nI 0)])), (aK, .inl (cI, 24, .inl mk2)), (aL, .inr (0, [.ref aM, .ref aG, .ref aT, .int (nI lc), .int (nI le), .int (nI mo), .int (nI bu), .int (nI on.toNat), .int (nI 0), .int (nI fo), .int (nI sp.toNat)])), (aP, .inl (cG, 4, .inr (.inr (.inr (.inr (pO aP0 aP1 aP2 aP3)))))), (aP0, .inl (cI, 6, .inl h0)), (aP1, .inl (cI, 6, .inl h1)), (aP2, .inl (cI, 6, .inl h2)), (aP3, .inl (cI, 6, .inl (upd v j (nI 0))))] := hD
    refine lv_iinc (k := 3) (v := nI (j + 1 + 1)) hx hb d_RT_beginWith_53 hl rfl (xi_1 _) (by decide) rfl (fun ls hl => ?_)
    have hl : lv_has ls 4 [(3, .int (nI (j + 1 + 1))), (0, .ref aX), (1, .int (nI n2)), (2, .int (nI 3))] := hl
    refine lv_goto (tgt := 36) hx hb d_RT_beginWith_56 rfl ?_
    have hl : lv_has ls 4 [(0, .ref aX), (1, .int (nI n2)), (2, .int (nI 3)), (3, .int (nI ((j + 1) + 1)))] := lv_sub hl [1, 2, 3, 0] rfl
    have hP := hP.sub (ws' := [(aX, .inr (5, [.ref aR, .ref aM, .ref aG, .ref aL, .ref aU, .ref aP, .int (nI 0)])), (aR, .inr (3, [.ref aO, .int (nI n2)])), (aO, .inl (cI, 6, .inl f)), (aM, .inr (1, [.ref aK, .int (-1), .int (-1), .int (nI 0)])), (aK, .inl (cI, 24, .inl mk2)), (aL, .inr (0, [.ref aM, .ref aG, .ref aT, .int (nI lc), .int (nI le), .int (nI mo), .int (nI bu), .int (nI on.toNat), .int (nI 0), .int (nI fo), .int (nI sp.toNat)])), (aP, .inl (cG, 4, .inr (.inr (.inr (.inr (pO aP0 aP1 aP2 aP3)))))), (aP0, .inl (cI, 6, .inl h0)), (aP1, .inl (cI, 6, .inl h1)), (aP2, .inl (cI, 6, .inl h2)), (aP3, .inl (cI, 6, .inl (upd v j (nI 0))))]) [0, 1, 2, 3, 4, 5, 6, 7, 8, 9, 10] rfl
    have hD := hD.sub (ws' := [(aX, .inr (5, [.ref aR, .ref aM, .ref aG, .ref aL, .ref aU, .ref aP, .int (nI 0)])), (aR, .inr (3, [.ref aO, .int (nI n2)])), (aO, .inl (cI, 6, .inl f)), (aM, .inr (1, [.ref aK, .int (-1), .int (-1), .int (nI 0)])), (aK, .inl (cI, 24, .inl mk2)), (aL, .inr (0, [.ref aM, .ref aG, .ref aT, .int (nI lc), .int (nI le), .int (nI mo), .int (nI bu), .int (nI on.toNat), .int (nI 0), .int (nI fo), .int (nI sp.toNat)])), (aP, .inl (cG, 4, .inr (.inr (.inr (.inr (pO aP0 aP1 aP2 aP3)))))), (aP0, .inl (cI, 6, .inl h0)), (aP1, .inl (cI, 6, .inl h1)), (aP2, .inl (cI, 6, .inl h2)), (aP3, .inl (cI, 6, .inl (upd v j (nI 0))))]) [0, 1, 2, 3, 4, 5, 6, 7, 8, 9, 10] (by decide) rfl
    exact ih4 (j + 1) (upd v j (nI 0)) _ _ _ (by omega) ⟨by omega, fun i hi => by unfold upd; split; rfl; exact hi2 i (by omega), hl, hP, hD, hS⟩
set_option maxHeartbeats 4000000 in
set_option maxRecDepth 100000 in
theorem c_RT_bells_no (aX : Nat) (aR : Nat) (aM : Nat) (aG : Nat) (aL : Nat) (aU : Nat) (aP : Nat) (ct : Nat) (x : Int32) (hno : okb x = false) : CtI l y_RT_bells (w_RT_bells) ({ frames := 0, cells := 0, slots := 0, locals := 0 }) D vwCl (TYs cI cZ cJ cG) (gG tF) [.ref aX, .int x] [(aX, .inr (5, [.ref aR, .ref aM, .ref aG, .ref aL, .ref aU, .ref aP, .int (nI ct)]))] 0 0 (fun _ : Unit => [(aX, .inr (5, [.ref aR, .ref aM, .ref aG, .ref aL, .ref aU, .ref aP, .int (nI ct)]))]) (fun (r : Int32) (_ : Unit) => r = nI 0) := by
  refine CtI.of (cc := b_RT_bells) (maxL := 2) (ret := (some .boolean)) (by decide) rfl (Nat.le_of_ble_eq_true rfl) ?_
  intro p e s m args below meth c A ls hF hA hP hK hD hg hS hl
  obtain ⟨hx, hb, hrt, hlk, hml, hown, hts, hnm⟩ := hF
  have hown : s.vm.findClass R_RT = some m.cls := hown
  have hl : lv_has ls 2 [(0, .ref aX), (1, .int x)] := hl
  refine lv_iload_n hx hb d_RT_bells_0 rfl (lv_at hl 1 rfl) ?_
  refine lv_iconst (v := nI 4) hx hb d_RT_bells_1 (by decide) ?_
  refine lv_icmp_lt (tgt := 11) hx hb d_RT_bells_2 rfl (fun h2 => ?_) (fun h2 => ?_)
  · skip
    refine lv_iconst (v := nI 0) hx hb d_RT_bells_11 (by decide) ?_
    exact xr_i hx hb hrt hlk rfl hP hD hS () [0] (by decide) rfl rfl d_RT_bells_12
  refine lv_iload_n hx hb d_RT_bells_5 rfl (lv_at hl 1 rfl) ?_
  refine lv_bipush (v := nI 6) hx hb d_RT_bells_6 (by decide) ?_
  refine lv_icmp_le (tgt := 13) hx hb d_RT_bells_8 rfl (fun h8 => ?_) (fun h8 => ?_)
  · skip
    exact absurd hno (by unfold okb; rw [if_neg h2, if_neg (Int32.not_lt.mpr h8)]; decide)
  refine lv_iconst (v := nI 0) hx hb d_RT_bells_11 (by decide) ?_
  exact xr_i hx hb hrt hlk rfl hP hD hS () [0] (by decide) rfl rfl d_RT_bells_12
set_option maxHeartbeats 4000000 in
set_option maxRecDepth 100000 in
theorem c_RT_bells (aX : Nat) (aR : Nat) (aM : Nat) (aG : Nat) (aL : Nat) (aU : Nat) (aP : Nat) (ct : Nat) (aO : Nat) (aK : Nat) (aT : Nat) (aP0 : Nat) (aP1 : Nat) (aP2 : Nat) (aP3 : Nat) (n : Nat) (f : Nat → Int32) (mk : Nat → Int32) (b1 : Int32) (b2 : Int32) (ln : Nat) (lc : Nat) (le : Nat) (mo : Nat) (bu : Nat) (on : Bool) (la : Nat) (fo : Nat) (sp : Bool) (g0 : Nat → Int32) (g1 : Nat → Int32) (g2 : Nat → Int32) (g3 : Nat → Int32) (n2 : Nat) (hn2 : nb n2) : CtI l y_RT_bells (w_RT_bells) ({ frames := 2, cells := 0, slots := 0, locals := 44 }) D vwCl (TYs cI cZ cJ cG) (gG tF) [.ref aX, .int (nI n2)] [(aX, .inr (5, [.ref aR, .ref aM, .ref aG, .ref aL, .ref aU, .ref aP, .int (nI ct)])), (aR, .inr (3, [.ref aO, .int (nI n)])), (aO, .inl (cI, 6, .inl f)), (aM, .inr (1, [.ref aK, .int b1, .int b2, .int (nI ln)])), (aK, .inl (cI, 24, .inl mk)), (aL, .inr (0, [.ref aM, .ref aG, .ref aT, .int (nI lc), .int (nI le), .int (nI mo), .int (nI bu), .int (nI on.toNat), .int (nI la), .int (nI fo), .int (nI sp.toNat)])), (aP, .inl (cG, 4, .inr (.inr (.inr (.inr (pO aP0 aP1 aP2 aP3)))))), (aP0, .inl (cI, 6, .inl g0)), (aP1, .inl (cI, 6, .inl g1)), (aP2, .inl (cI, 6, .inl g2)), (aP3, .inl (cI, 6, .inl g3))] 0 0 (fun u : (Nat → Int32) × (Nat → Int32) × (Nat → Int32) × (Nat → Int32) × (Nat → Int32) => match u with | (mk2, h0, h1, h2, h3) => [(aX, .inr (5, [.ref aR, .ref aM, .ref aG, .ref aL, .ref aU, .ref aP, .int (nI 0)])), (aR, .inr (3, [.ref aO, .int (nI n2)])), (aO, .inl (cI, 6, .inl f)), (aM, .inr (1, [.ref aK, .int (-1), .int (-1), .int (nI 0)])), (aK, .inl (cI, 24, .inl mk2)), (aL, .inr (0, [.ref aM, .ref aG, .ref aT, .int (nI lc), .int (nI le), .int (nI mo), .int (nI bu), .int (nI on.toNat), .int (nI 0), .int (nI fo), .int (nI sp.toNat)])), (aP, .inl (cG, 4, .inr (.inr (.inr (.inr (pO aP0 aP1 aP2 aP3)))))), (aP0, .inl (cI, 6, .inl h0)), (aP1, .inl (cI, 6, .inl h1)), (aP2, .inl (cI, 6, .inl h2)), (aP3, .inl (cI, 6, .inl h3))]) (fun (r : Int32) (u : (Nat → Int32) × (Nat → Int32) × (Nat → Int32) × (Nat → Int32) × (Nat → Int32)) => match u with | (mk2, h0, h1, h2, h3) => r = nI 1 ∧ (∀ j, j < 24 → mk2 j = (-1)) ∧ (z6 h0) ∧ (z6 h1) ∧ (z6 h2) ∧ (z6 h3)) := by
  refine CtI.of (cc := b_RT_bells) (maxL := 2) (ret := (some .boolean)) (by decide) rfl (Nat.le_of_ble_eq_true rfl) ?_
  intro p e s m args below meth c A ls hF hA hP hK hD hg hS hl
  obtain ⟨hx, hb, hrt, hlk, hml, hown, hts, hnm⟩ := hF
  have hown : s.vm.findClass R_RT = some m.cls := hown
  have hl : lv_has ls 2 [(0, .ref aX), (1, .int (nI n2))] := hl
  have hn4 : 4 ≤ n2 := hn2.1
  have hn6 : n2 ≤ 6 := hn2.2
  refine lv_iload_n hx hb d_RT_bells_0 rfl (lv_at hl 1 rfl) ?_
  refine lv_iconst (v := nI 4) hx hb d_RT_bells_1 (by decide) ?_
  refine xb_clt hx hb 11 (by omega) (by omega) d_RT_bells_2 rfl (fun h2 => ?_) (fun h2 => ?_)
  · skip
    exact absurd h2 (by omega)
  refine lv_iload_n hx hb d_RT_bells_5 rfl (lv_at hl 1 rfl) ?_
  refine lv_bipush (v := nI 6) hx hb d_RT_bells_6 (by decide) ?_
  refine xb_cle hx hb 13 (by omega) (by omega) d_RT_bells_8 rfl (fun h8 => ?_) (fun h8 => ?_)
  · skip
    refine lv_aload_n hx hb d_RT_bells_13 rfl (lv_at hl 0 rfl) ?_
    refine lv_iload_n hx hb d_RT_bells_14 rfl (lv_at hl 1 rfl) ?_
    refine xc_v (wc := [(aX, .inr (5, [.ref aR, .ref aM, .ref aG, .ref aL, .ref aU, .ref aP, .int (nI ct)])), (aR, .inr (3, [.ref aO, .int (nI n)])), (aO, .inl (cI, 6, .inl f)), (aM, .inr (1, [.ref aK, .int b1, .int b2, .int (nI ln)])), (aK, .inl (cI, 24, .inl mk)), (aL, .inr (0, [.ref aM, .ref aG, .ref aT, .int (nI lc), .int (nI le), .int (nI mo), .int (nI bu), .int (nI on.toNat), .int (nI la), .int (nI fo), .int (nI sp.toNat)])), (aP, .inl (cG, 4, .inr (.inr (.inr (.inr (pO aP0 aP1 aP2 aP3)))))), (aP0, .inl (cI, 6, .inl g0)), (aP1, .inl (cI, 6, .inl g1)), (aP2, .inl (cI, 6, .inl g2)), (aP3, .inl (cI, 6, .inl g3))]) (wr := []) (gG_ok tF) hK hP hD hS hA hg [0, 1, 2, 3, 4, 5, 6, 7, 8, 9, 10] [] rfl rfl (by decide) (by decide) (by decide) (fun h1 h2 => va_runV (As := [.int (nI n2)]) (rest := []) ⟨hx, hb, hml, hown, hts⟩ (c_RT_begin aX aR aM aG aL aU aP ct aO aK aT aP0 aP1 aP2 aP3 n f mk b1 b2 ln lc le mo bu on la fo sp g0 g1 g2 g3 n2  _) (cwV 1 hts (gV k_130 k_132 ks_RT_beginWith k_1 k_133) rfl rfl rfl (by decide +kernel) ⟨Nat.le_of_ble_eq_true rfl, Nat.le_of_ble_eq_true rfl⟩) ⟨h1, va_recv (q0 := 0) (ci := 5) hK hP rfl rfl, h2⟩ rfl rfl hl.1 rfl (lv_room (Nat.le_of_ble_eq_true rfl)) d_RT_bells_15 ⟨Nat.zero_le _, Nat.zero_le _⟩) (fun u H locs hq9 hP hD hS => ?_)
    obtain ⟨mk2, h0, h1, h2, h3⟩ := u
    obtain ⟨hw15_0, hw15_1, hw15_2, hw15_3, hw15_4⟩ := hq9
    have hP : va_P D vwCl [(aX, .inr (5, [.ref aR, .ref aM, .ref aG, .ref aL, .ref aU, .ref aP, .int (nI 0)])), (aR, .inr (3, [.ref aO, .int (nI n2)])), (aO, .inl (cI, 6, .inl f)), (aM, .inr (1, [.ref aK, .int (-1), .int (-1), .int (nI 0)])), (aK, .inl (cI, 24, .inl mk2)), (aL, .inr (0, [.ref aM, .ref aG, .ref aT, .int (nI lc), .int (nI le), .int (nI mo), .int (nI bu), .int (nI on.toNat), .int (nI 0), .int (nI fo), .int (nI sp.toNat)])), (aP, .inl (cG, 4, .inr (.inr (.inr (.inr (pO aP0 aP1 aP2 aP3)))))), (aP0, .inl (cI, 6, .inl h0)), (aP1, .inl (cI, 6, .inl h1)), (aP2, .inl (cI, 6, .inl h2)), (aP3, .inl (cI, 6, .inl h3))] H := hP
    have hD : va_D A [(aX, .inr (5, [.ref aR, .ref aM, .ref aG, .ref aL, .ref aU, .ref aP, .int (nI 0)])), (aR, .inr (3, [.ref aO, .int (nI n2)])), (aO, .inl (cI, 6, .inl f)), (aM, .inr (1, [.ref aK, .int (-1), .int (-1), .int (nI 0)])), (aK, .inl (cI, 24, .inl mk2)), (aL, .inr (0, [.ref aM, .ref aG, .ref aT, .int (nI lc), .int (nI le), .int (nI mo), .int (nI bu), .int (nI on.toNat), .int (nI 0), .int (nI fo), .int (nI sp.toNat)])), (aP, .inl (cG, 4, .inr (.inr (.inr (.inr (pO aP0 aP1 aP2 aP3)))))), (aP0, .inl (cI, 6, .inl h0)), (aP1, .inl (cI, 6, .inl h1)), (aP2, .inl (cI, 6, .inl h2)), (aP3, .inl (cI, 6, .inl h3))] := hD
    refine lv_iconst (v := nI 1) hx hb d_RT_bells_18 (by decide) ?_
    exact xr_i hx hb hrt hlk rfl hP hD hS (mk2, h0, h1, h2, h3) [0, 1, 2, 3, 4, 5, 6, 7, 8, 9, 10] (by decide) rfl (⟨rfl, hw15_0, hw15_1, hw15_2, hw15_3, hw15_4⟩) d_RT_bells_19
  exact absurd h8 (by omega)
set_option maxHeartbeats 4000000 in
set_option maxRecDepth 100000 in
theorem c_RT_notation_no (aX : Nat) (aR : Nat) (aM : Nat) (aG : Nat) (aL : Nat) (aU : Nat) (aP : Nat) (ct : Nat) (aO : Nat) (aK : Nat) (n : Nat) (f : Nat → Int32) (mk : Nat → Int32) (b1 : Int32) (b2 : Int32) (ln : Nat) (x : Int32) (y : Int32) (hn : nb n) (hln : ln ≤ 24) (hno : ntk ln n x y = false) : CtI l y_RT_notation (w_RT_notation) ({ frames := 2, cells := 0, slots := 0, locals := 44 }) D vwCl (TYs cI cZ cJ cG) (gG tF) [.ref aX, .int x, .int y] [(aX, .inr (5, [.ref aR, .ref aM, .ref aG, .ref aL, .ref aU, .ref aP, .int (nI ct)])), (aR, .inr (3, [.ref aO, .int (nI n)])), (aO, .inl (cI, 6, .inl f)), (aM, .inr (1, [.ref aK, .int b1, .int b2, .int (nI ln)])), (aK, .inl (cI, 24, .inl mk))] 0 0 (fun _ : Unit => [(aX, .inr (5, [.ref aR, .ref aM, .ref aG, .ref aL, .ref aU, .ref aP, .int (nI ct)])), (aR, .inr (3, [.ref aO, .int (nI n)])), (aO, .inl (cI, 6, .inl f)), (aM, .inr (1, [.ref aK, .int b1, .int b2, .int (nI ln)])), (aK, .inl (cI, 24, .inl mk))]) (fun (r : Int32) (_ : Unit) => r = nI 0) := by
  refine CtI.of (cc := b_RT_notation) (maxL := 3) (ret := (some .boolean)) (by decide) rfl (Nat.le_of_ble_eq_true rfl) ?_
  intro p e s m args below meth c A ls hF hA hP hK hD hg hS hl
  obtain ⟨hx, hb, hrt, hlk, hml, hown, hts, hnm⟩ := hF
  have hown : s.vm.findClass R_RT = some m.cls := hown
  have hl : lv_has ls 3 [(0, .ref aX), (1, .int x), (2, .int y)] := hl
  refine lv_aload_n hx hb d_RT_notation_0 rfl (lv_at hl 0 rfl) ?_
  refine va_get (D := D) (ci := 5) (v := .ref aM) (C := R_RT) (T := F_RT) (N := 7) hx hb hts in_RT hown hK hP 0 rfl rfl 1 (by decide) (hts _ (List.mem_cons_of_mem _ k_147)) (fun _ h9 => h9) rfl d_RT_notation_1 ?_
  refine xc_i (wc := [(aM, .inr (1, [.ref aK, .int b1, .int b2, .int (nI ln)])), (aK, .inl (cI, 24, .inl mk))]) (wr := [(aX, .inr (5, [.ref aR, .ref aM, .ref aG, .ref aL, .ref aU, .ref aP, .int (nI ct)])), (aR, .inr (3, [.ref aO, .int (nI n)])), (aO, .inl (cI, 6, .inl f))]) (gG_ok tF) hK hP hD hS hA hg [3, 4] [0, 1, 2] rfl rfl (by decide) (by decide) (by decide) (fun h1 h2 => va_runV (As := []) (rest := []) ⟨hx, hb, hml, hown, hts⟩ (c_Met_isDefined aM aK mk b1 b2 ln hln _) (cwV 0 hts (gV k_176 k_177 k_178 k_3 k_179) rfl rfl rfl (by decide +kernel) ⟨Nat.le_of_ble_eq_true rfl, Nat.le_of_ble_eq_true rfl⟩) ⟨h1, va_recv (q0 := 3) (ci := 1) hK hP rfl rfl, h2⟩ rfl rfl hl.1 rfl (lv_room (Nat.le_of_ble_eq_true rfl)) d_RT_notation_4 ⟨Nat.zero_le _, Nat.zero_le _⟩) (fun r u H locs hq9 hP hD hS => ?_)
  obtain rfl := hq9
  have hP : va_P D vwCl [(aX, .inr (5, [.ref aR, .ref aM, .ref aG, .ref aL, .ref aU, .ref aP, .int (nI ct)])), (aR, .inr (3, [.ref aO, .int (nI n)])), (aO, .inl (cI, 6, .inl f)), (aM, .inr (1, [.ref aK, .int b1, .int b2, .int (nI ln)])), (aK, .inl (cI, 24, .inl mk))] H := hP
  have hD : va_D A [(aX, .inr (5, [.ref aR, .ref aM, .ref aG, .ref aL, .ref aU, .ref aP, .int (nI ct)])), (aR, .inr (3, [.ref aO, .int (nI n)])), (aO, .inl (cI, 6, .inl f)), (aM, .inr (1, [.ref aK, .int b1, .int b2, .int (nI ln)])), (aK, .inl (cI, 24, .inl mk))] := hD
  refine xb_neB (x := decide (0 < ln)) hx hb 28 d_RT_notation_7 rfl (fun h7 => ?_) (fun h7 => ?_)
  · skip
    refine lv_iconst (v := nI 0) hx hb d_RT_notation_28 (by decide) ?_
    exact xr_i hx hb hrt hlk rfl hP hD hS () [0, 1, 2, 3, 4] (by decide) rfl rfl d_RT_notation_29
  refine lv_iload_n hx hb d_RT_notation_10 rfl (lv_at hl 1 rfl) ?_
  refine lv_if_lt (tgt := 28) hx hb d_RT_notation_11 rfl (fun h11 => ?_) (fun h11 => ?_)
  · skip
    refine lv_iconst (v := nI 0) hx hb d_RT_notation_28 (by decide) ?_
    exact xr_i hx hb hrt hlk rfl hP hD hS () [0, 1, 2, 3, 4] (by decide) rfl rfl d_RT_notation_29
  refine lv_iload_n hx hb d_RT_notation_14 rfl (lv_at hl 1 rfl) ?_
  refine lv_bipush (v := nI 24) hx hb d_RT_notation_15 (by decide) ?_
  refine lv_icmp_ge (tgt := 28) hx hb d_RT_notation_17 rfl (fun h17 => ?_) (fun h17 => ?_)
  · skip
    refine lv_iconst (v := nI 0) hx hb d_RT_notation_28 (by decide) ?_
    exact xr_i hx hb hrt hlk rfl hP hD hS () [0, 1, 2, 3, 4] (by decide) rfl rfl d_RT_notation_29
  refine lv_aload_n hx hb d_RT_notation_20 rfl (lv_at hl 0 rfl) ?_
  refine lv_iload_n hx hb d_RT_notation_21 rfl (lv_at hl 2 rfl) ?_
  refine xc_i (wc := [(aX, .inr (5, [.ref aR, .ref aM, .ref aG, .ref aL, .ref aU, .ref aP, .int (nI ct)])), (aR, .inr (3, [.ref aO, .int (nI n)])), (aO, .inl (cI, 6, .inl f))]) (wr := [(aM, .inr (1, [.ref aK, .int b1, .int b2, .int (nI ln)])), (aK, .inl (cI, 24, .inl mk))]) (gG_ok tF) hK hP hD hS hA hg [0, 1, 2] [3, 4] rfl rfl (by decide) (by decide) (by decide) (fun h1 h2 => va_runV (As := [.int y]) (rest := []) ⟨hx, hb, hml, hown, hts⟩ (c_RT_isGood aX aR aM aG aL aU aP ct aO n f y hn _) (cwV 1 hts (gV k_180 k_182 ks_RT_isGood k_1 k_183) rfl rfl rfl (by decide +kernel) ⟨Nat.le_of_ble_eq_true rfl, Nat.le_of_ble_eq_true rfl⟩) ⟨h1, va_recv (q0 := 0) (ci := 5) hK hP rfl rfl, h2⟩ rfl rfl hl.1 rfl (lv_room (Nat.le_of_ble_eq_true rfl)) d_RT_notation_22 ⟨Nat.zero_le _, Nat.zero_le _⟩) (fun r u H locs hq9 hP hD hS => ?_)
  obtain rfl := hq9
  have hP : va_P D vwCl [(aM, .inr (1, [.ref aK, .int b1, .int b2, .int (nI ln)])), (aK, .inl (cI, 24, .inl mk)), (aX, .inr (5, [.ref aR, .ref aM, .ref aG, .ref aL, .ref aU, .ref aP, .int (nI ct)])), (aR, .inr (3, [.ref aO, .int (nI n)])), (aO, .inl (cI, 6, .inl f))] H := hP
  have hD : va_D A [(aM, .inr (1, [.ref aK, .int b1, .int b2, .int (nI ln)])), (aK, .inl (cI, 24, .inl mk)), (aX, .inr (5, [.ref aR, .ref aM, .ref aG, .ref aL, .ref aU, .ref aP, .int (nI ct)])), (aR, .inr (3, [.ref aO, .int (nI n)])), (aO, .inl (cI, 6, .inl f))] := hD
  refine xb_neB (x := okm n y) hx hb 30 d_RT_notation_25 rfl (fun h25 => ?_) (fun h25 => ?_)
  · skip
    exact absurd hno (by unfold ntk; rw [if_neg (of_decide_eq_false h7), if_neg h11, if_neg h17, h25]; decide)
  refine lv_iconst (v := nI 0) hx hb d_RT_notation_28 (by decide) ?_
  exact xr_i hx hb hrt hlk rfl hP hD hS () [2, 3, 4, 0, 1] (by decide) rfl rfl d_RT_notation_29
set_option maxHeartbeats 4000000 in
set_option maxRecDepth 100000 in
theorem c_RT_notation (aX : Nat) (aR : Nat) (aM : Nat) (aG : Nat) (aL : Nat) (aU : Nat) (aP : Nat) (ct : Nat) (aO : Nat) (aK : Nat) (n : Nat) (f : Nat → Int32) (mk : Nat → Int32) (b1 : Int32) (b2 : Int32) (ln : Nat) (i : Nat) (y : Int32) (hn : nb n) (hln : ln = 0) (hi : i < 24) (hok : okm n y = true) : CtI l y_RT_notation (w_RT_notation) ({ frames := 2, cells := 0, slots := 0, locals := 44 }) D vwCl (TYs cI cZ cJ cG) (gG tF) [.ref aX, .int (nI i), .int y] [(aX, .inr (5, [.ref aR, .ref aM, .ref aG, .ref aL, .ref aU, .ref aP, .int (nI ct)])), (aR, .inr (3, [.ref aO, .int (nI n)])), (aO, .inl (cI, 6, .inl f)), (aM, .inr (1, [.ref aK, .int b1, .int b2, .int (nI ln)])), (aK, .inl (cI, 24, .inl mk))] 0 0 (fun _ : Unit => [(aX, .inr (5, [.ref aR, .ref aM, .ref aG, .ref aL, .ref aU, .ref aP, .int (nI ct)])), (aR, .inr (3, [.ref aO, .int (nI n)])), (aO, .inl (cI, 6, .inl f)), (aM, .inr (1, [.ref aK, .int b1, .int b2, .int (nI ln)])), (aK, .inl (cI, 24, .inl (upd mk i y)))]) (fun (r : Int32) (_ : Unit) => r = nI 1) := by
  refine CtI.of (cc := b_RT_notation) (maxL := 3) (ret := (some .boolean)) (by decide) rfl (Nat.le_of_ble_eq_true rfl) ?_
  intro p e s m args below meth c A ls hF hA hP hK hD hg hS hl
  obtain ⟨hx, hb, hrt, hlk, hml, hown, hts, hnm⟩ := hF
  have hown : s.vm.findClass R_RT = some m.cls := hown
  have hl : lv_has ls 3 [(0, .ref aX), (1, .int (nI i)), (2, .int y)] := hl
  refine lv_aload_n hx hb d_RT_notation_0 rfl (lv_at hl 0 rfl) ?_
  refine va_get (D := D) (ci := 5) (v := .ref aM) (C := R_RT) (T := F_RT) (N := 7) hx hb hts in_RT hown hK hP 0 rfl rfl 1 (by decide) (hts _ (List.mem_cons_of_mem _ k_147)) (fun _ h9 => h9) rfl d_RT_notation_1 ?_
  refine xc_i (wc := [(aM, .inr (1, [.ref aK, .int b1, .int b2, .int (nI ln)])), (aK, .inl (cI, 24, .inl mk))]) (wr := [(aX, .inr (5, [.ref aR, .ref aM, .ref aG, .ref aL, .ref aU, .ref aP, .int (nI ct)])), (aR, .inr (3, [.ref aO, .int (nI n)])), (aO, .inl (cI, 6, .inl f))]) (gG_ok tF) hK hP hD hS hA hg [3, 4] [0, 1, 2] rfl rfl (by decide) (by decide) (by decide) (fun h1 h2 => va_runV (As := []) (rest := []) ⟨hx, hb, hml, hown, hts⟩ (c_Met_isDefined aM aK mk b1 b2 ln (by omega) _) (cwV 0 hts (gV k_176 k_177 k_178 k_3 k_179) rfl rfl rfl (by decide +kernel) ⟨Nat.le_of_ble_eq_true rfl, Nat.le_of_ble_eq_true rfl⟩) ⟨h1, va_recv (q0 := 3) (ci := 1) hK hP rfl rfl, h2⟩ rfl rfl hl.1 rfl (lv_room (Nat.le_of_ble_eq_true rfl)) d_RT_notation_4 ⟨Nat.zero_le _, Nat.zero_le _⟩) (fun r u H locs hq9 hP hD hS => ?_)
  obtain rfl := hq9
  have hP : va_P D vwCl [(aX, .inr (5, [.ref aR, .ref aM, .ref aG, .ref aL, .ref aU, .ref aP, .int (nI ct)])), (aR, .inr (3, [.ref aO, .int (nI n)])), (aO, .inl (cI, 6, .inl f)), (aM, .inr (1, [.ref aK, .int b1, .int b2, .int (nI ln)])), (aK, .inl (cI, 24, .inl mk))] H := hP
  have hD : va_D A [(aX, .inr (5, [.ref aR, .ref aM, .ref aG, .ref aL, .ref aU, .ref aP, .int (nI ct)])), (aR, .inr (3, [.ref aO, .int (nI n)])), (aO, .inl (cI, 6, .inl f)), (aM, .inr (1, [.ref aK, .int b1, .int b2, .int (nI ln)])), (aK, .inl (cI, 24, .inl mk))] := hD
  refine xb_neB (x := decide (0 < ln)) hx hb 28 d_RT_notation_7 rfl (fun h7 => ?_) (fun h7 => ?_)
  · skip
    exact absurd (of_decide_eq_true h7) (by omega)
  refine lv_iload_n hx hb d_RT_notation_10 rfl (lv_at hl 1 rfl) ?_
  refine xb_lt hx hb 28 (by omega) d_RT_notation_11 rfl ?_
  refine lv_iload_n hx hb d_RT_notation_14 rfl (lv_at hl 1 rfl) ?_
  refine lv_bipush (v := nI 24) hx hb d_RT_notation_15 (by decide) ?_
  refine xb_cge hx hb 28 (by omega) (by omega) d_RT_notation_17 rfl (fun h17 => ?_) (fun h17 => ?_)
  · skip
    exact absurd h17 (by omega)
  refine lv_aload_n hx hb d_RT_notation_20 rfl (lv_at hl 0 rfl) ?_
  refine lv_iload_n hx hb d_RT_notation_21 rfl (lv_at hl 2 rfl) ?_
  refine xc_i (wc := [(aX, .inr (5, [.ref aR, .ref aM, .ref aG, .ref aL, .ref aU, .ref aP, .int (nI ct)])), (aR, .inr (3, [.ref aO, .int (nI n)])), (aO, .inl (cI, 6, .inl f))]) (wr := [(aM, .inr (1, [.ref aK, .int b1, .int b2, .int (nI ln)])), (aK, .inl (cI, 24, .inl mk))]) (gG_ok tF) hK hP hD hS hA hg [0, 1, 2] [3, 4] rfl rfl (by decide) (by decide) (by decide) (fun h1 h2 => va_runV (As := [.int y]) (rest := []) ⟨hx, hb, hml, hown, hts⟩ (c_RT_isGood aX aR aM aG aL aU aP ct aO n f y hn _) (cwV 1 hts (gV k_180 k_182 ks_RT_isGood k_1 k_183) rfl rfl rfl (by decide +kernel) ⟨Nat.le_of_ble_eq_true rfl, Nat.le_of_ble_eq_true rfl⟩) ⟨h1, va_recv (q0 := 0) (ci := 5) hK hP rfl rfl, h2⟩ rfl rfl hl.1 rfl (lv_room (Nat.le_of_ble_eq_true rfl)) d_RT_notation_22 ⟨Nat.zero_le _, Nat.zero_le _⟩) (fun r u H locs hq9 hP hD hS => ?_)
  obtain rfl := hq9
  have hP : va_P D vwCl [(aM, .inr (1, [.ref aK, .int b1, .int b2, .int (nI ln)])), (aK, .inl (cI, 24, .inl mk)), (aX, .inr (5, [.ref aR, .ref aM, .ref aG, .ref aL, .ref aU, .ref aP, .int (nI ct)])), (aR, .inr (3, [.ref aO, .int (nI n)])), (aO, .inl (cI, 6, .inl f))] H := hP
  have hD : va_D A [(aM, .inr (1, [.ref aK, .int b1, .int b2, .int (nI ln)])), (aK, .inl (cI, 24, .inl mk)), (aX, .inr (5, [.ref aR, .ref aM, .ref aG, .ref aL, .ref aU, .ref aP, .int (nI ct)])), (aR, .inr (3, [.ref aO, .int (nI n)])), (aO, .inl (cI, 6, .inl f))] := hD
  refine xb_neB (x := okm n y) hx hb 30 d_RT_notation_25 rfl (fun h25 => ?_) (fun h25 => ?_)
  · skip
    refine lv_aload_n hx hb d_RT_notation_30 rfl (lv_at hl 0 rfl) ?_
    refine va_get (D := D) (ci := 5) (v := .ref aM) (C := R_RT) (T := F_RT) (N := 7) hx hb hts in_RT hown hK hP 2 rfl rfl 1 (by decide) (hts _ (List.mem_cons_of_mem _ k_147)) (fun _ h9 => h9) rfl d_RT_notation_31 ?_
    refine lv_iload_n hx hb d_RT_notation_34 rfl (lv_at hl 1 rfl) ?_
    refine lv_iload_n hx hb d_RT_notation_35 rfl (lv_at hl 2 rfl) ?_
    refine xc_v (wc := [(aM, .inr (1, [.ref aK, .int b1, .int b2, .int (nI ln)])), (aK, .inl (cI, 24, .inl mk))]) (wr := [(aX, .inr (5, [.ref aR, .ref aM, .ref aG, .ref aL, .ref aU, .ref aP, .int (nI ct)])), (aR, .inr (3, [.ref aO, .int (nI n)])), (aO, .inl (cI, 6, .inl f))]) (gG_ok tF) hK hP hD hS hA hg [0, 1] [2, 3, 4] rfl rfl (by decide) (by decide) (by decide) (fun h1 h2 => va_runV (As := [.int (nI i), .int y]) (rest := []) ⟨hx, hb, hml, hown, hts⟩ (c_Met_giveMask aM aK mk b1 b2 ln i y hi _) (cwV 2 hts (gV k_191 k_192 k_193 k_3 k_194) rfl rfl rfl (by decide +kernel) ⟨Nat.le_of_ble_eq_true rfl, Nat.le_of_ble_eq_true rfl⟩) ⟨h1, va_recv (q0 := 0) (ci := 1) hK hP rfl rfl, h2⟩ rfl rfl hl.1 rfl (lv_room (Nat.le_of_ble_eq_true rfl)) d_RT_notation_36 ⟨Nat.zero_le _, Nat.zero_le _⟩) (fun u H locs hq9 hP hD hS => ?_)
    have hP : va_P D vwCl [(aX, .inr (5, [.ref aR, .ref aM, .ref aG, .ref aL, .ref aU, .ref aP, .int (nI ct)])), (aR, .inr (3, [.ref aO, .int (nI n)])), (aO, .inl (cI, 6, .inl f)), (aM, .inr (1, [.ref aK, .int b1, .int b2, .int (nI ln)])), (aK, .inl (cI, 24, .inl (upd mk i y)))] H := hP
    have hD : va_D A [(aX, .inr (5, [.ref aR, .ref aM, .ref aG, .ref aL, .ref aU, .ref aP, .int (nI ct)])), (aR, .inr (3, [.ref aO, .int (nI n)])), (aO, .inl (cI, 6, .inl f)), (aM, .inr (1, [.ref aK, .int b1, .int b2, .int (nI ln)])), (aK, .inl (cI, 24, .inl (upd mk i y)))] := hD
    refine lv_iconst (v := nI 1) hx hb d_RT_notation_39 (by decide) ?_
    exact xr_i hx hb hrt hlk rfl hP hD hS () [0, 1, 2, 3, 4] (by decide) rfl rfl d_RT_notation_40
  rw [hok] at h25
  cases h25
set_option maxHeartbeats 4000000 in
set_option maxRecDepth 100000 in
theorem c_RT_callNotation_no (aX : Nat) (aR : Nat) (aM : Nat) (aG : Nat) (aL : Nat) (aU : Nat) (aP : Nat) (ct : Nat) (aO : Nat) (aK : Nat) (n : Nat) (f : Nat → Int32) (mk : Nat → Int32) (b1 : Int32) (b2 : Int32) (ln : Nat) (tq : Nat → Int32) (x : Int32) (y : Int32) (hn : nb n) (hct : ct ≤ 30) (hno : cnk tq ct n x y = false) : CtI l y_RT_callNotation (w_RT_callNotation) ({ frames := 2, cells := 0, slots := 0, locals := 44 }) D vwCl (TYs cI cZ cJ cG) (gG tF) [.ref aX, .int x, .int y] [(aX, .inr (5, [.ref aR, .ref aM, .ref aG, .ref aL, .ref aU, .ref aP, .int (nI ct)])), (aR, .inr (3, [.ref aO, .int (nI n)])), (aO, .inl (cI, 6, .inl f)), (aM, .inr (1, [.ref aK, .int b1, .int b2, .int (nI ln)])), (aK, .inl (cI, 24, .inl mk)), (aU, .inl (cI, 30, .inl tq))] 0 0 (fun _ : Unit => [(aX, .inr (5, [.ref aR, .ref aM, .ref aG, .ref aL, .ref aU, .ref aP, .int (nI ct)])), (aR, .inr (3, [.ref aO, .int (nI n)])), (aO, .inl (cI, 6, .inl f)), (aM, .inr (1, [.ref aK, .int b1, .int b2, .int (nI ln)])), (aK, .inl (cI, 24, .inl mk)), (aU, .inl (cI, 30, .inl tq))]) (fun (r : Int32) (_ : Unit) => r = nI 0) := by
  refine CtI.of (cc := b_RT_callNotation) (maxL := 3) (ret := (some .boolean)) (by decide) rfl (Nat.le_of_ble_eq_true rfl) ?_
  intro p e s m args below meth c A ls hF hA hP hK hD hg hS hl
  obtain ⟨hx, hb, hrt, hlk, hml, hown, hts, hnm⟩ := hF
  have hown : s.vm.findClass R_RT = some m.cls := hown
  have hl : lv_has ls 3 [(0, .ref aX), (1, .int x), (2, .int y)] := hl
  refine lv_iload_n hx hb d_RT_callNotation_0 rfl (lv_at hl 1 rfl) ?_
  refine lv_iconst (v := nI 1) hx hb d_RT_callNotation_1 (by decide) ?_
  refine lv_icmp_eq (tgt := 10) hx hb d_RT_callNotation_2 rfl (fun h2 => ?_) (fun h2 => ?_)
  · skip
    refine lv_aload_n hx hb d_RT_callNotation_10 rfl (lv_at hl 0 rfl) ?_
    refine lv_iload_n hx hb d_RT_callNotation_11 rfl (lv_at hl 2 rfl) ?_
    refine xc_i (wc := [(aX, .inr (5, [.ref aR, .ref aM, .ref aG, .ref aL, .ref aU, .ref aP, .int (nI ct)])), (aR, .inr (3, [.ref aO, .int (nI n)])), (aO, .inl (cI, 6, .inl f))]) (wr := [(aM, .inr (1, [.ref aK, .int b1, .int b2, .int (nI ln)])), (aK, .inl (cI, 24, .inl mk)), (aU, .inl (cI, 30, .inl tq))]) (gG_ok tF) hK hP hD hS hA hg [0, 1, 2] [3, 4, 5] rfl rfl (by decide) (by decide) (by decide) (fun h1 h2 => va_runV (As := [.int y]) (rest := []) ⟨hx, hb, hml, hown, hts⟩ (c_RT_isGood aX aR aM aG aL aU aP ct aO n f y hn _) (cwV 1 hts (gV k_180 k_182 ks_RT_isGood k_1 k_183) rfl rfl rfl (by decide +kernel) ⟨Nat.le_of_ble_eq_true rfl, Nat.le_of_ble_eq_true rfl⟩) ⟨h1, va_recv (q0 := 0) (ci := 5) hK hP rfl rfl, h2⟩ rfl rfl hl.1 rfl (lv_room (Nat.le_of_ble_eq_true rfl)) d_RT_callNotation_12 ⟨Nat.zero_le _, Nat.zero_le _⟩) (fun r u H locs hq9 hP hD hS => ?_)
    obtain rfl := hq9
    have hP : va_P D vwCl [(aM, .inr (1, [.ref aK, .int b1, .int b2, .int (nI ln)])), (aK, .inl (cI, 24, .inl mk)), (aU, .inl (cI, 30, .inl tq)), (aX, .inr (5, [.ref aR, .ref aM, .ref aG, .ref aL, .ref aU, .ref aP, .int (nI ct)])), (aR, .inr (3, [.ref aO, .int (nI n)])), (aO, .inl (cI, 6, .inl f))] H := hP
    have hD : va_D A [(aM, .inr (1, [.ref aK, .int b1, .int b2, .int (nI ln)])), (aK, .inl (cI, 24, .inl mk)), (aU, .inl (cI, 30, .inl tq)), (aX, .inr (5, [.ref aR, .ref aM, .ref aG, .ref aL, .ref aU, .ref aP, .int (nI ct)])), (aR, .inr (3, [.ref aO, .int (nI n)])), (aO, .inl (cI, 6, .inl f))] := hD
    refine xb_eqB (x := okm n y) hx hb 26 d_RT_callNotation_15 rfl (fun h15 => ?_) (fun h15 => ?_)
    · skip
      refine lv_iconst (v := nI 0) hx hb d_RT_callNotation_26 (by decide) ?_
      exact xr_i hx hb hrt hlk rfl hP hD hS () [3, 4, 5, 0, 1, 2] (by decide) rfl rfl d_RT_callNotation_27
    refine lv_aload_n hx hb d_RT_callNotation_18 rfl (lv_at hl 0 rfl) ?_
    refine lv_iload_n hx hb d_RT_callNotation_19 rfl (lv_at hl 1 rfl) ?_
    refine xc_i (wc := [(aX, .inr (5, [.ref aR, .ref aM, .ref aG, .ref aL, .ref aU, .ref aP, .int (nI ct)])), (aU, .inl (cI, 30, .inl tq))]) (wr := [(aM, .inr (1, [.ref aK, .int b1, .int b2, .int (nI ln)])), (aK, .inl (cI, 24, .inl mk)), (aR, .inr (3, [.ref aO, .int (nI n)])), (aO, .inl (cI, 6, .inl f))]) (gG_ok tF) hK hP hD hS hA hg [3, 2] [0, 1, 4, 5] rfl rfl (by decide) (by decide) (by decide) (fun h1 h2 => va_runV (As := [.int x]) (rest := []) ⟨hx, hb, hml, hown, hts⟩ (c_RT_touchHas aX aR aM aG aL aU aP ct tq x hct _) (cwV 1 hts (gV k_199 k_201 ks_RT_touchHas k_1 k_202) rfl rfl rfl (by decide +kernel) ⟨Nat.le_of_ble_eq_true rfl, Nat.le_of_ble_eq_true rfl⟩) ⟨h1, va_recv (q0 := 3) (ci := 5) hK hP rfl rfl, h2⟩ rfl rfl hl.1 rfl (lv_room (Nat.le_of_ble_eq_true rfl)) d_RT_callNotation_20 ⟨Nat.zero_le _, Nat.zero_le _⟩) (fun r u H locs hq9 hP hD hS => ?_)
    obtain rfl := hq9
    have hP : va_P D vwCl [(aM, .inr (1, [.ref aK, .int b1, .int b2, .int (nI ln)])), (aK, .inl (cI, 24, .inl mk)), (aR, .inr (3, [.ref aO, .int (nI n)])), (aO, .inl (cI, 6, .inl f)), (aX, .inr (5, [.ref aR, .ref aM, .ref aG, .ref aL, .ref aU, .ref aP, .int (nI ct)])), (aU, .inl (cI, 30, .inl tq))] H := hP
    have hD : va_D A [(aM, .inr (1, [.ref aK, .int b1, .int b2, .int (nI ln)])), (aK, .inl (cI, 24, .inl mk)), (aR, .inr (3, [.ref aO, .int (nI n)])), (aO, .inl (cI, 6, .inl f)), (aX, .inr (5, [.ref aR, .ref aM, .ref aG, .ref aL, .ref aU, .ref aP, .int (nI ct)])), (aU, .inl (cI, 30, .inl tq))] := hD
    refine xb_eqB (x := thas tq ct x) hx hb 28 d_RT_callNotation_23 rfl (fun h23 => ?_) (fun h23 => ?_)
    · skip
      exact absurd hno (by unfold cnk; rw [if_pos (by first | exact Or.inl h2 | exact Or.inr h7), if_pos h15, h23]; decide)
    refine lv_iconst (v := nI 0) hx hb d_RT_callNotation_26 (by decide) ?_
    exact xr_i hx hb hrt hlk rfl hP hD hS () [4, 2, 3, 0, 1, 5] (by decide) rfl rfl d_RT_callNotation_27
  refine lv_iload_n hx hb d_RT_callNotation_5 rfl (lv_at hl 1 rfl) ?_
  refine lv_iconst (v := nI 2) hx hb d_RT_callNotation_6 (by decide) ?_
  refine lv_icmp_ne (tgt := 26) hx hb d_RT_callNotation_7 rfl (fun h7 => ?_) (fun h7 => ?_)
  · skip
    refine lv_iconst (v := nI 0) hx hb d_RT_callNotation_26 (by decide) ?_
    exact xr_i hx hb hrt hlk rfl hP hD hS () [0, 1, 2, 3, 4, 5] (by decide) rfl rfl d_RT_callNotation_27
  refine lv_aload_n hx hb d_RT_callNotation_10 rfl (lv_at hl 0 rfl) ?_
  refine lv_iload_n hx hb d_RT_callNotation_11 rfl (lv_at hl 2 rfl) ?_
  refine xc_i (wc := [(aX, .inr (5, [.ref aR, .ref aM, .ref aG, .ref aL, .ref aU, .ref aP, .int (nI ct)])), (aR, .inr (3, [.ref aO, .int (nI n)])), (aO, .inl (cI, 6, .inl f))]) (wr := [(aM, .inr (1, [.ref aK, .int b1, .int b2, .int (nI ln)])), (aK, .inl (cI, 24, .inl mk)), (aU, .inl (cI, 30, .inl tq))]) (gG_ok tF) hK hP hD hS hA hg [0, 1, 2] [3, 4, 5] rfl rfl (by decide) (by decide) (by decide) (fun h1 h2 => va_runV (As := [.int y]) (rest := []) ⟨hx, hb, hml, hown, hts⟩ (c_RT_isGood aX aR aM aG aL aU aP ct aO n f y hn _) (cwV 1 hts (gV k_180 k_182 ks_RT_isGood k_1 k_183) rfl rfl rfl (by decide +kernel) ⟨Nat.le_of_ble_eq_true rfl, Nat.le_of_ble_eq_true rfl⟩) ⟨h1, va_recv (q0 := 0) (ci := 5) hK hP rfl rfl, h2⟩ rfl rfl hl.1 rfl (lv_room (Nat.le_of_ble_eq_true rfl)) d_RT_callNotation_12 ⟨Nat.zero_le _, Nat.zero_le _⟩) (fun r u H locs hq9 hP hD hS => ?_)
  obtain rfl := hq9
  have hP : va_P D vwCl [(aM, .inr (1, [.ref aK, .int b1, .int b2, .int (nI ln)])), (aK, .inl (cI, 24, .inl mk)), (aU, .inl (cI, 30, .inl tq)), (aX, .inr (5, [.ref aR, .ref aM, .ref aG, .ref aL, .ref aU, .ref aP, .int (nI ct)])), (aR, .inr (3, [.ref aO, .int (nI n)])), (aO, .inl (cI, 6, .inl f))] H := hP
  have hD : va_D A [(aM, .inr (1, [.ref aK, .int b1, .int b2, .int (nI ln)])), (aK, .inl (cI, 24, .inl mk)), (aU, .inl (cI, 30, .inl tq)), (aX, .inr (5, [.ref aR, .ref aM, .ref aG, .ref aL, .ref aU, .ref aP, .int (nI ct)])), (aR, .inr (3, [.ref aO, .int (nI n)])), (aO, .inl (cI, 6, .inl f))] := hD
  refine xb_eqB (x := okm n y) hx hb 26 d_RT_callNotation_15 rfl (fun h15 => ?_) (fun h15 => ?_)
  · skip
    refine lv_iconst (v := nI 0) hx hb d_RT_callNotation_26 (by decide) ?_
    exact xr_i hx hb hrt hlk rfl hP hD hS () [3, 4, 5, 0, 1, 2] (by decide) rfl rfl d_RT_callNotation_27
  refine lv_aload_n hx hb d_RT_callNotation_18 rfl (lv_at hl 0 rfl) ?_
  refine lv_iload_n hx hb d_RT_callNotation_19 rfl (lv_at hl 1 rfl) ?_
  refine xc_i (wc := [(aX, .inr (5, [.ref aR, .ref aM, .ref aG, .ref aL, .ref aU, .ref aP, .int (nI ct)])), (aU, .inl (cI, 30, .inl tq))]) (wr := [(aM, .inr (1, [.ref aK, .int b1, .int b2, .int (nI ln)])), (aK, .inl (cI, 24, .inl mk)), (aR, .inr (3, [.ref aO, .int (nI n)])), (aO, .inl (cI, 6, .inl f))]) (gG_ok tF) hK hP hD hS hA hg [3, 2] [0, 1, 4, 5] rfl rfl (by decide) (by decide) (by decide) (fun h1 h2 => va_runV (As := [.int x]) (rest := []) ⟨hx, hb, hml, hown, hts⟩ (c_RT_touchHas aX aR aM aG aL aU aP ct tq x hct _) (cwV 1 hts (gV k_199 k_201 ks_RT_touchHas k_1 k_202) rfl rfl rfl (by decide +kernel) ⟨Nat.le_of_ble_eq_true rfl, Nat.le_of_ble_eq_true rfl⟩) ⟨h1, va_recv (q0 := 3) (ci := 5) hK hP rfl rfl, h2⟩ rfl rfl hl.1 rfl (lv_room (Nat.le_of_ble_eq_true rfl)) d_RT_callNotation_20 ⟨Nat.zero_le _, Nat.zero_le _⟩) (fun r u H locs hq9 hP hD hS => ?_)
  obtain rfl := hq9
  have hP : va_P D vwCl [(aM, .inr (1, [.ref aK, .int b1, .int b2, .int (nI ln)])), (aK, .inl (cI, 24, .inl mk)), (aR, .inr (3, [.ref aO, .int (nI n)])), (aO, .inl (cI, 6, .inl f)), (aX, .inr (5, [.ref aR, .ref aM, .ref aG, .ref aL, .ref aU, .ref aP, .int (nI ct)])), (aU, .inl (cI, 30, .inl tq))] H := hP
  have hD : va_D A [(aM, .inr (1, [.ref aK, .int b1, .int b2, .int (nI ln)])), (aK, .inl (cI, 24, .inl mk)), (aR, .inr (3, [.ref aO, .int (nI n)])), (aO, .inl (cI, 6, .inl f)), (aX, .inr (5, [.ref aR, .ref aM, .ref aG, .ref aL, .ref aU, .ref aP, .int (nI ct)])), (aU, .inl (cI, 30, .inl tq))] := hD
  refine xb_eqB (x := thas tq ct x) hx hb 28 d_RT_callNotation_23 rfl (fun h23 => ?_) (fun h23 => ?_)
  · skip
    exact absurd hno (by unfold cnk; rw [if_pos (by first | exact Or.inl h2 | exact Or.inr h7), if_pos h15, h23]; decide)
  refine lv_iconst (v := nI 0) hx hb d_RT_callNotation_26 (by decide) ?_
  exact xr_i hx hb hrt hlk rfl hP hD hS () [4, 2, 3, 0, 1, 5] (by decide) rfl rfl d_RT_callNotation_27
set_option maxHeartbeats 4000000 in
set_option maxRecDepth 100000 in
theorem c_RT_callNotation (aX : Nat) (aR : Nat) (aM : Nat) (aG : Nat) (aL : Nat) (aU : Nat) (aP : Nat) (ct : Nat) (aO : Nat) (aK : Nat) (n : Nat) (f : Nat → Int32) (mk : Nat → Int32) (b1 : Int32) (b2 : Int32) (ln : Nat) (tq : Nat → Int32) (kd : Nat) (y : Int32) (hn : nb n) (hct : ct ≤ 30) (hk1 : 1 ≤ kd) (hk2 : kd ≤ 2) (hok : okm n y = true) (hth : thas tq ct (nI kd) = false) : CtI l y_RT_callNotation (w_RT_callNotation) ({ frames := 2, cells := 0, slots := 0, locals := 44 }) D vwCl (TYs cI cZ cJ cG) (gG tF) [.ref aX, .int (nI kd), .int y] [(aX, .inr (5, [.ref aR, .ref aM, .ref aG, .ref aL, .ref aU, .ref aP, .int (nI ct)])), (aR, .inr (3, [.ref aO, .int (nI n)])), (aO, .inl (cI, 6, .inl f)), (aM, .inr (1, [.ref aK, .int b1, .int b2, .int (nI ln)])), (aK, .inl (cI, 24, .inl mk)), (aU, .inl (cI, 30, .inl tq))] 0 0 (fun _ : Unit => [(aX, .inr (5, [.ref aR, .ref aM, .ref aG, .ref aL, .ref aU, .ref aP, .int (nI ct)])), (aR, .inr (3, [.ref aO, .int (nI n)])), (aO, .inl (cI, 6, .inl f)), (aM, .inr (1, [.ref aK, .int (if kd = 1 then y else b1), .int (if kd = 1 then b2 else y), .int (nI ln)])), (aK, .inl (cI, 24, .inl mk)), (aU, .inl (cI, 30, .inl tq))]) (fun (r : Int32) (_ : Unit) => r = nI 1) := by
  refine CtI.of (cc := b_RT_callNotation) (maxL := 3) (ret := (some .boolean)) (by decide) rfl (Nat.le_of_ble_eq_true rfl) ?_
  intro p e s m args below meth c A ls hF hA hP hK hD hg hS hl
  obtain ⟨hx, hb, hrt, hlk, hml, hown, hts, hnm⟩ := hF
  have hown : s.vm.findClass R_RT = some m.cls := hown
  have hl : lv_has ls 3 [(0, .ref aX), (1, .int (nI kd)), (2, .int y)] := hl
  refine lv_iload_n hx hb d_RT_callNotation_0 rfl (lv_at hl 1 rfl) ?_
  refine lv_iconst (v := nI 1) hx hb d_RT_callNotation_1 (by decide) ?_
  refine xb_ceq hx hb 10 (by omega) (by omega) d_RT_callNotation_2 rfl (fun h2 => ?_) (fun h2 => ?_)
  · skip
    refine lv_aload_n hx hb d_RT_callNotation_10 rfl (lv_at hl 0 rfl) ?_
    refine lv_iload_n hx hb d_RT_callNotation_11 rfl (lv_at hl 2 rfl) ?_
    refine xc_i (wc := [(aX, .inr (5, [.ref aR, .ref aM, .ref aG, .ref aL, .ref aU, .ref aP, .int (nI ct)])), (aR, .inr (3, [.ref aO, .int (nI n)])), (aO, .inl (cI, 6, .inl f))]) (wr := [(aM, .inr (1, [.ref aK, .int b1, .int b2, .int (nI ln)])), (aK, .inl (cI, 24, .inl mk)), (aU, .inl (cI, 30, .inl tq))]) (gG_ok tF) hK hP hD hS hA hg [0, 1, 2] [3, 4, 5] rfl rfl (by decide) (by decide) (by decide) (fun h1 h2 => va_runV (As := [.int y]) (rest := []) ⟨hx, hb, hml, hown, hts⟩ (c_RT_isGood aX aR aM aG aL aU aP ct aO n f y hn _) (cwV 1 hts (gV k_180 k_182 ks_RT_isGood k_1 k_183) rfl rfl rfl (by decide +kernel) ⟨Nat.le_of_ble_eq_true rfl, Nat.le_of_ble_eq_true rfl⟩) ⟨h1, va_recv (q0 := 0) (ci := 5) hK hP rfl rfl, h2⟩ rfl rfl hl.1 rfl (lv_room (Nat.le_of_ble_eq_true rfl)) d_RT_callNotation_12 ⟨Nat.zero_le _, Nat.zero_le _⟩) (fun r u H locs hq9 hP hD hS => ?_)
    obtain rfl := hq9
    have hP : va_P D vwCl [(aM, .inr (1, [.ref aK, .int b1, .int b2, .int (nI ln)])), (aK, .inl (cI, 24, .inl mk)), (aU, .inl (cI, 30, .inl tq)), (aX, .inr (5, [.ref aR, .ref aM, .ref aG, .ref aL, .ref aU, .ref aP, .int (nI ct)])), (aR, .inr (3, [.ref aO, .int (nI n)])), (aO, .inl (cI, 6, .inl f))] H := hP
    have hD : va_D A [(aM, .inr (1, [.ref aK, .int b1, .int b2, .int (nI ln)])), (aK, .inl (cI, 24, .inl mk)), (aU, .inl (cI, 30, .inl tq)), (aX, .inr (5, [.ref aR, .ref aM, .ref aG, .ref aL, .ref aU, .ref aP, .int (nI ct)])), (aR, .inr (3, [.ref aO, .int (nI n)])), (aO, .inl (cI, 6, .inl f))] := hD
    refine xb_eqB (x := okm n y) hx hb 26 d_RT_callNotation_15 rfl (fun h15 => ?_) (fun h15 => ?_)
    · skip
      rw [hok] at h15
      cases h15
    refine lv_aload_n hx hb d_RT_callNotation_18 rfl (lv_at hl 0 rfl) ?_
    refine lv_iload_n hx hb d_RT_callNotation_19 rfl (lv_at hl 1 rfl) ?_
    refine xc_i (wc := [(aX, .inr (5, [.ref aR, .ref aM, .ref aG, .ref aL, .ref aU, .ref aP, .int (nI ct)])), (aU, .inl (cI, 30, .inl tq))]) (wr := [(aM, .inr (1, [.ref aK, .int b1, .int b2, .int (nI ln)])), (aK, .inl (cI, 24, .inl mk)), (aR, .inr (3, [.ref aO, .int (nI n)])), (aO, .inl (cI, 6, .inl f))]) (gG_ok tF) hK hP hD hS hA hg [3, 2] [0, 1, 4, 5] rfl rfl (by decide) (by decide) (by decide) (fun h1 h2 => va_runV (As := [.int (nI kd)]) (rest := []) ⟨hx, hb, hml, hown, hts⟩ (c_RT_touchHas aX aR aM aG aL aU aP ct tq (nI kd) hct _) (cwV 1 hts (gV k_199 k_201 ks_RT_touchHas k_1 k_202) rfl rfl rfl (by decide +kernel) ⟨Nat.le_of_ble_eq_true rfl, Nat.le_of_ble_eq_true rfl⟩) ⟨h1, va_recv (q0 := 3) (ci := 5) hK hP rfl rfl, h2⟩ rfl rfl hl.1 rfl (lv_room (Nat.le_of_ble_eq_true rfl)) d_RT_callNotation_20 ⟨Nat.zero_le _, Nat.zero_le _⟩) (fun r u H locs hq9 hP hD hS => ?_)
    obtain rfl := hq9
    have hP : va_P D vwCl [(aM, .inr (1, [.ref aK, .int b1, .int b2, .int (nI ln)])), (aK, .inl (cI, 24, .inl mk)), (aR, .inr (3, [.ref aO, .int (nI n)])), (aO, .inl (cI, 6, .inl f)), (aX, .inr (5, [.ref aR, .ref aM, .ref aG, .ref aL, .ref aU, .ref aP, .int (nI ct)])), (aU, .inl (cI, 30, .inl tq))] H := hP
    have hD : va_D A [(aM, .inr (1, [.ref aK, .int b1, .int b2, .int (nI ln)])), (aK, .inl (cI, 24, .inl mk)), (aR, .inr (3, [.ref aO, .int (nI n)])), (aO, .inl (cI, 6, .inl f)), (aX, .inr (5, [.ref aR, .ref aM, .ref aG, .ref aL, .ref aU, .ref aP, .int (nI ct)])), (aU, .inl (cI, 30, .inl tq))] := hD
    refine xb_eqB (x := thas tq ct (nI kd)) hx hb 28 d_RT_callNotation_23 rfl (fun h23 => ?_) (fun h23 => ?_)
    · skip
      refine lv_aload_n hx hb d_RT_callNotation_28 rfl (lv_at hl 0 rfl) ?_
      refine va_get (D := D) (ci := 5) (v := .ref aM) (C := R_RT) (T := F_RT) (N := 7) hx hb hts in_RT hown hK hP 4 rfl rfl 1 (by decide) (hts _ (List.mem_cons_of_mem _ k_147)) (fun _ h9 => h9) rfl d_RT_callNotation_29 ?_
      refine lv_iload_n hx hb d_RT_callNotation_32 rfl (lv_at hl 1 rfl) ?_
      refine lv_iload_n hx hb d_RT_callNotation_33 rfl (lv_at hl 2 rfl) ?_
      refine xc_v (wc := [(aM, .inr (1, [.ref aK, .int b1, .int b2, .int (nI ln)])), (aK, .inl (cI, 24, .inl mk))]) (wr := [(aR, .inr (3, [.ref aO, .int (nI n)])), (aO, .inl (cI, 6, .inl f)), (aX, .inr (5, [.ref aR, .ref aM, .ref aG, .ref aL, .ref aU, .ref aP, .int (nI ct)])), (aU, .inl (cI, 30, .inl tq))]) (gG_ok tF) hK hP hD hS hA hg [0, 1] [2, 3, 4, 5] rfl rfl (by decide) (by decide) (by decide) (fun h1 h2 => va_runV (As := [.int (nI kd), .int y]) (rest := []) ⟨hx, hb, hml, hown, hts⟩ (c_Met_giveCallMask aM aK mk b1 b2 ln kd y hk2 _) (cwV 2 hts (gV k_203 k_204 k_205 k_3 k_206) rfl rfl rfl (by decide +kernel) ⟨Nat.le_of_ble_eq_true rfl, Nat.le_of_ble_eq_true rfl⟩) ⟨h1, va_recv (q0 := 0) (ci := 1) hK hP rfl rfl, h2⟩ rfl rfl hl.1 rfl (lv_room (Nat.le_of_ble_eq_true rfl)) d_RT_callNotation_34 ⟨Nat.zero_le _, Nat.zero_le _⟩) (fun u H locs hq9 hP hD hS => ?_)
      have hP : va_P D vwCl [(aR, .inr (3, [.ref aO, .int (nI n)])), (aO, .inl (cI, 6, .inl f)), (aX, .inr (5, [.ref aR, .ref aM, .ref aG, .ref aL, .ref aU, .ref aP, .int (nI ct)])), (aU, .inl (cI, 30, .inl tq)), (aM, .inr (1, [.ref aK, .int (if kd = 1 then y else b1), .int (if kd = 1 then b2 else y), .int (nI ln)])), (aK, .inl (cI, 24, .inl mk))] H := hP
      have hD : va_D A [(aR, .inr (3, [.ref aO, .int (nI n)])), (aO, .inl (cI, 6, .inl f)), (aX, .inr (5, [.ref aR, .ref aM, .ref aG, .ref aL, .ref aU, .ref aP, .int (nI ct)])), (aU, .inl (cI, 30, .inl tq)), (aM, .inr (1, [.ref aK, .int (if kd = 1 then y else b1), .int (if kd = 1 then b2 else y), .int (nI ln)])), (aK, .inl (cI, 24, .inl mk))] := hD
      refine lv_iconst (v := nI 1) hx hb d_RT_callNotation_37 (by decide) ?_
      exact xr_i hx hb hrt hlk rfl hP hD hS () [2, 0, 1, 4, 5, 3] (by decide) rfl rfl d_RT_callNotation_38
    rw [hth] at h23
    cases h23
  refine lv_iload_n hx hb d_RT_callNotation_5 rfl (lv_at hl 1 rfl) ?_
  refine lv_iconst (v := nI 2) hx hb d_RT_callNotation_6 (by decide) ?_
  refine xb_cne hx hb 26 (by omega) (by omega) d_RT_callNotation_7 rfl (fun h7 => ?_) (fun h7 => ?_)
  · skip
    exact absurd h7 (by omega)
  refine lv_aload_n hx hb d_RT_callNotation_10 rfl (lv_at hl 0 rfl) ?_
  refine lv_iload_n hx hb d_RT_callNotation_11 rfl (lv_at hl 2 rfl) ?_
  refine xc_i (wc := [(aX, .inr (5, [.ref aR, .ref aM, .ref aG, .ref aL, .ref aU, .ref aP, .int (nI ct)])), (aR, .inr (3, [.ref aO, .int (nI n)])), (aO, .inl (cI, 6, .inl f))]) (wr := [(aM, .inr (1, [.ref aK, .int b1, .int b2, .int (nI ln)])), (aK, .inl (cI, 24, .inl mk)), (aU, .inl (cI, 30, .inl tq))]) (gG_ok tF) hK hP hD hS hA hg [0, 1, 2] [3, 4, 5] rfl rfl (by decide) (by decide) (by decide) (fun h1 h2 => va_runV (As := [.int y]) (rest := []) ⟨hx, hb, hml, hown, hts⟩ (c_RT_isGood aX aR aM aG aL aU aP ct aO n f y hn _) (cwV 1 hts (gV k_180 k_182 ks_RT_isGood k_1 k_183) rfl rfl rfl (by decide +kernel) ⟨Nat.le_of_ble_eq_true rfl, Nat.le_of_ble_eq_true rfl⟩) ⟨h1, va_recv (q0 := 0) (ci := 5) hK hP rfl rfl, h2⟩ rfl rfl hl.1 rfl (lv_room (Nat.le_of_ble_eq_true rfl)) d_RT_callNotation_12 ⟨Nat.zero_le _, Nat.zero_le _⟩) (fun r u H locs hq9 hP hD hS => ?_)
  obtain rfl := hq9
  have hP : va_P D vwCl [(aM, .inr (1, [.ref aK, .int b1, .int b2, .int (nI ln)])), (aK, .inl (cI, 24, .inl mk)), (aU, .inl (cI, 30, .inl tq)), (aX, .inr (5, [.ref aR, .ref aM, .ref aG, .ref aL, .ref aU, .ref aP, .int (nI ct)])), (aR, .inr (3, [.ref aO, .int (nI n)])), (aO, .inl (cI, 6, .inl f))] H := hP
  have hD : va_D A [(aM, .inr (1, [.ref aK, .int b1, .int b2, .int (nI ln)])), (aK, .inl (cI, 24, .inl mk)), (aU, .inl (cI, 30, .inl tq)), (aX, .inr (5, [.ref aR, .ref aM, .ref aG, .ref aL, .ref aU, .ref aP, .int (nI ct)])), (aR, .inr (3, [.ref aO, .int (nI n)])), (aO, .inl (cI, 6, .inl f))] := hD
  refine xb_eqB (x := okm n y) hx hb 26 d_RT_callNotation_15 rfl (fun h15 => ?_) (fun h15 => ?_)
  · skip
    rw [hok] at h15
    cases h15
  refine lv_aload_n hx hb d_RT_callNotation_18 rfl (lv_at hl 0 rfl) ?_
  refine lv_iload_n hx hb d_RT_callNotation_19 rfl (lv_at hl 1 rfl) ?_
  refine xc_i (wc := [(aX, .inr (5, [.ref aR, .ref aM, .ref aG, .ref aL, .ref aU, .ref aP, .int (nI ct)])), (aU, .inl (cI, 30, .inl tq))]) (wr := [(aM, .inr (1, [.ref aK, .int b1, .int b2, .int (nI ln)])), (aK, .inl (cI, 24, .inl mk)), (aR, .inr (3, [.ref aO, .int (nI n)])), (aO, .inl (cI, 6, .inl f))]) (gG_ok tF) hK hP hD hS hA hg [3, 2] [0, 1, 4, 5] rfl rfl (by decide) (by decide) (by decide) (fun h1 h2 => va_runV (As := [.int (nI kd)]) (rest := []) ⟨hx, hb, hml, hown, hts⟩ (c_RT_touchHas aX aR aM aG aL aU aP ct tq (nI kd) hct _) (cwV 1 hts (gV k_199 k_201 ks_RT_touchHas k_1 k_202) rfl rfl rfl (by decide +kernel) ⟨Nat.le_of_ble_eq_true rfl, Nat.le_of_ble_eq_true rfl⟩) ⟨h1, va_recv (q0 := 3) (ci := 5) hK hP rfl rfl, h2⟩ rfl rfl hl.1 rfl (lv_room (Nat.le_of_ble_eq_true rfl)) d_RT_callNotation_20 ⟨Nat.zero_le _, Nat.zero_le _⟩) (fun r u H locs hq9 hP hD hS => ?_)
  obtain rfl := hq9
  have hP : va_P D vwCl [(aM, .inr (1, [.ref aK, .int b1, .int b2, .int (nI ln)])), (aK, .inl (cI, 24, .inl mk)), (aR, .inr (3, [.ref aO, .int (nI n)])), (aO, .inl (cI, 6, .inl f)), (aX, .inr (5, [.ref aR, .ref aM, .ref aG, .ref aL, .ref aU, .ref aP, .int (nI ct)])), (aU, .inl (cI, 30, .inl tq))] H := hP
  have hD : va_D A [(aM, .inr (1, [.ref aK, .int b1, .int b2, .int (nI ln)])), (aK, .inl (cI, 24, .inl mk)), (aR, .inr (3, [.ref aO, .int (nI n)])), (aO, .inl (cI, 6, .inl f)), (aX, .inr (5, [.ref aR, .ref aM, .ref aG, .ref aL, .ref aU, .ref aP, .int (nI ct)])), (aU, .inl (cI, 30, .inl tq))] := hD
  refine xb_eqB (x := thas tq ct (nI kd)) hx hb 28 d_RT_callNotation_23 rfl (fun h23 => ?_) (fun h23 => ?_)
  · skip
    refine lv_aload_n hx hb d_RT_callNotation_28 rfl (lv_at hl 0 rfl) ?_
    refine va_get (D := D) (ci := 5) (v := .ref aM) (C := R_RT) (T := F_RT) (N := 7) hx hb hts in_RT hown hK hP 4 rfl rfl 1 (by decide) (hts _ (List.mem_cons_of_mem _ k_147)) (fun _ h9 => h9) rfl d_RT_callNotation_29 ?_
    refine lv_iload_n hx hb d_RT_callNotation_32 rfl (lv_at hl 1 rfl) ?_
    refine lv_iload_n hx hb d_RT_callNotation_33 rfl (lv_at hl 2 rfl) ?_
    refine xc_v (wc := [(aM, .inr (1, [.ref aK, .int b1, .int b2, .int (nI ln)])), (aK, .inl (cI, 24, .inl mk))]) (wr := [(aR, .inr (3, [.ref aO, .int (nI n)])), (aO, .inl (cI, 6, .inl f)), (aX, .inr (5, [.ref aR, .ref aM, .ref aG, .ref aL, .ref aU, .ref aP, .int (nI ct)])), (aU, .inl (cI, 30, .inl tq))]) (gG_ok tF) hK hP hD hS hA hg [0, 1] [2, 3, 4, 5] rfl rfl (by decide) (by decide) (by decide) (fun h1 h2 => va_runV (As := [.int (nI kd), .int y]) (rest := []) ⟨hx, hb, hml, hown, hts⟩ (c_Met_giveCallMask aM aK mk b1 b2 ln kd y hk2 _) (cwV 2 hts (gV k_203 k_204 k_205 k_3 k_206) rfl rfl rfl (by decide +kernel) ⟨Nat.le_of_ble_eq_true rfl, Nat.le_of_ble_eq_true rfl⟩) ⟨h1, va_recv (q0 := 0) (ci := 1) hK hP rfl rfl, h2⟩ rfl rfl hl.1 rfl (lv_room (Nat.le_of_ble_eq_true rfl)) d_RT_callNotation_34 ⟨Nat.zero_le _, Nat.zero_le _⟩) (fun u H locs hq9 hP hD hS => ?_)
    have hP : va_P D vwCl [(aR, .inr (3, [.ref aO, .int (nI n)])), (aO, .inl (cI, 6, .inl f)), (aX, .inr (5, [.ref aR, .ref aM, .ref aG, .ref aL, .ref aU, .ref aP, .int (nI ct)])), (aU, .inl (cI, 30, .inl tq)), (aM, .inr (1, [.ref aK, .int (if kd = 1 then y else b1), .int (if kd = 1 then b2 else y), .int (nI ln)])), (aK, .inl (cI, 24, .inl mk))] H := hP
    have hD : va_D A [(aR, .inr (3, [.ref aO, .int (nI n)])), (aO, .inl (cI, 6, .inl f)), (aX, .inr (5, [.ref aR, .ref aM, .ref aG, .ref aL, .ref aU, .ref aP, .int (nI ct)])), (aU, .inl (cI, 30, .inl tq)), (aM, .inr (1, [.ref aK, .int (if kd = 1 then y else b1), .int (if kd = 1 then b2 else y), .int (nI ln)])), (aK, .inl (cI, 24, .inl mk))] := hD
    refine lv_iconst (v := nI 1) hx hb d_RT_callNotation_37 (by decide) ?_
    exact xr_i hx hb hrt hlk rfl hP hD hS () [2, 0, 1, 4, 5, 3] (by decide) rfl rfl d_RT_callNotation_38
  rw [hth] at h23
  cases h23
set_option maxHeartbeats 4000000 in
set_option maxRecDepth 100000 in
theorem c_RT_change_no (aX : Nat) (aR : Nat) (aM : Nat) (aG : Nat) (aL : Nat) (aU : Nat) (aP : Nat) (ct : Nat) (aK : Nat) (mk : Nat → Int32) (b1 : Int32) (b2 : Int32) (ln : Nat) (tq : Nat → Int32) (x : Int32) (y : Int32) (hln : ln ≤ 24) (hno : chk (hcl ln b1 b2 y) ct x = false) : CtI l y_RT_change (w_RT_change) ({ frames := 2, cells := 0, slots := 0, locals := 41 }) D vwCl (TYs cI cZ cJ cG) (gG tF) [.ref aX, .int x, .int y] [(aX, .inr (5, [.ref aR, .ref aM, .ref aG, .ref aL, .ref aU, .ref aP, .int (nI ct)])), (aM, .inr (1, [.ref aK, .int b1, .int b2, .int (nI ln)])), (aK, .inl (cI, 24, .inl mk)), (aU, .inl (cI, 30, .inl tq))] 0 0 (fun _ : Unit => [(aX, .inr (5, [.ref aR, .ref aM, .ref aG, .ref aL, .ref aU, .ref aP, .int (nI ct)])), (aM, .inr (1, [.ref aK, .int b1, .int b2, .int (nI ln)])), (aK, .inl (cI, 24, .inl mk)), (aU, .inl (cI, 30, .inl tq))]) (fun (r : Int32) (_ : Unit) => r = nI 0) := by
  refine CtI.of (cc := b_RT_change) (maxL := 3) (ret := (some .boolean)) (by decide) rfl (Nat.le_of_ble_eq_true rfl) ?_
  intro p e s m args below meth c A ls hF hA hP hK hD hg hS hl
  obtain ⟨hx, hb, hrt, hlk, hml, hown, hts, hnm⟩ := hF
  have hown : s.vm.findClass R_RT = some m.cls := hown
  have hl : lv_has ls 3 [(0, .ref aX), (1, .int x), (2, .int y)] := hl
  refine lv_iload_n hx hb d_RT_change_0 rfl (lv_at hl 1 rfl) ?_
  refine lv_if_lt (tgt := 23) hx hb d_RT_change_1 rfl (fun h1 => ?_) (fun h1 => ?_)
  · skip
    refine lv_iconst (v := nI 0) hx hb d_RT_change_23 (by decide) ?_
    exact xr_i hx hb hrt hlk rfl hP hD hS () [0, 1, 2, 3] (by decide) rfl rfl d_RT_change_24
  refine lv_iload_n hx hb d_RT_change_4 rfl (lv_at hl 1 rfl) ?_
  refine lv_aload_n hx hb d_RT_change_5 rfl (lv_at hl 0 rfl) ?_
  refine va_get (D := D) (ci := 5) (v := .int (nI ct)) (C := R_RT) (T := F_RT) (N := 7) hx hb hts in_RT hown hK hP 0 rfl rfl 6 (by decide) (hts _ (List.mem_cons_of_mem _ k_152)) (fun _ h9 => h9) rfl d_RT_change_6 ?_
  refine lv_icmp_ge (tgt := 23) hx hb d_RT_change_9 rfl (fun h9 => ?_) (fun h9 => ?_)
  · skip
    refine lv_iconst (v := nI 0) hx hb d_RT_change_23 (by decide) ?_
    exact xr_i hx hb hrt hlk rfl hP hD hS () [0, 1, 2, 3] (by decide) rfl rfl d_RT_change_24
  refine lv_aload_n hx hb d_RT_change_12 rfl (lv_at hl 0 rfl) ?_
  refine va_get (D := D) (ci := 5) (v := .ref aM) (C := R_RT) (T := F_RT) (N := 7) hx hb hts in_RT hown hK hP 0 rfl rfl 1 (by decide) (hts _ (List.mem_cons_of_mem _ k_147)) (fun _ h9 => h9) rfl d_RT_change_13 ?_
  refine lv_iload_n hx hb d_RT_change_16 rfl (lv_at hl 2 rfl) ?_
  refine xc_i (wc := [(aM, .inr (1, [.ref aK, .int b1, .int b2, .int (nI ln)])), (aK, .inl (cI, 24, .inl mk))]) (wr := [(aX, .inr (5, [.ref aR, .ref aM, .ref aG, .ref aL, .ref aU, .ref aP, .int (nI ct)])), (aU, .inl (cI, 30, .inl tq))]) (gG_ok tF) hK hP hD hS hA hg [1, 2] [0, 3] rfl rfl (by decide) (by decide) (by decide) (fun h1 h2 => va_runV (As := [.int y]) (rest := []) ⟨hx, hb, hml, hown, hts⟩ (c_Met_hasCall aM aK mk b1 b2 ln y hln _) (cwV 1 hts (gV k_250 k_251 k_252 k_3 k_253) rfl rfl rfl (by decide +kernel) ⟨Nat.le_of_ble_eq_true rfl, Nat.le_of_ble_eq_true rfl⟩) ⟨h1, va_recv (q0 := 1) (ci := 1) hK hP rfl rfl, h2⟩ rfl rfl hl.1 rfl (lv_room (Nat.le_of_ble_eq_true rfl)) d_RT_change_17 ⟨Nat.zero_le _, Nat.zero_le _⟩) (fun r u H locs hq9 hP hD hS => ?_)
  obtain rfl := hq9
  have hP : va_P D vwCl [(aX, .inr (5, [.ref aR, .ref aM, .ref aG, .ref aL, .ref aU, .ref aP, .int (nI ct)])), (aU, .inl (cI, 30, .inl tq)), (aM, .inr (1, [.ref aK, .int b1, .int b2, .int (nI ln)])), (aK, .inl (cI, 24, .inl mk))] H := hP
  have hD : va_D A [(aX, .inr (5, [.ref aR, .ref aM, .ref aG, .ref aL, .ref aU, .ref aP, .int (nI ct)])), (aU, .inl (cI, 30, .inl tq)), (aM, .inr (1, [.ref aK, .int b1, .int b2, .int (nI ln)])), (aK, .inl (cI, 24, .inl mk))] := hD
  refine xb_neB (x := hcl ln b1 b2 y) hx hb 25 d_RT_change_20 rfl (fun h20 => ?_) (fun h20 => ?_)
  · skip
    exact absurd hno (by unfold chk; rw [if_neg h1, if_neg h9, h20]; decide)
  refine lv_iconst (v := nI 0) hx hb d_RT_change_23 (by decide) ?_
  exact xr_i hx hb hrt hlk rfl hP hD hS () [0, 2, 3, 1] (by decide) rfl rfl d_RT_change_24
set_option maxHeartbeats 4000000 in
set_option maxRecDepth 100000 in
theorem c_RT_change (aX : Nat) (aR : Nat) (aM : Nat) (aG : Nat) (aL : Nat) (aU : Nat) (aP : Nat) (ct : Nat) (aK : Nat) (mk : Nat → Int32) (b1 : Int32) (b2 : Int32) (ln : Nat) (tq : Nat → Int32) (i : Nat) (y : Int32) (hln : ln ≤ 24) (hct : ct ≤ 30) (hi : i < ct) (hok : hcl ln b1 b2 y = true) : CtI l y_RT_change (w_RT_change) ({ frames := 2, cells := 0, slots := 0, locals := 41 }) D vwCl (TYs cI cZ cJ cG) (gG tF) [.ref aX, .int (nI i), .int y] [(aX, .inr (5, [.ref aR, .ref aM, .ref aG, .ref aL, .ref aU, .ref aP, .int (nI ct)])), (aM, .inr (1, [.ref aK, .int b1, .int b2, .int (nI ln)])), (aK, .inl (cI, 24, .inl mk)), (aU, .inl (cI, 30, .inl tq))] 0 0 (fun _ : Unit => [(aX, .inr (5, [.ref aR, .ref aM, .ref aG, .ref aL, .ref aU, .ref aP, .int (nI ct)])), (aM, .inr (1, [.ref aK, .int b1, .int b2, .int (nI ln)])), (aK, .inl (cI, 24, .inl mk)), (aU, .inl (cI, 30, .inl (upd tq i y)))]) (fun (r : Int32) (_ : Unit) => r = nI 1) := by
  refine CtI.of (cc := b_RT_change) (maxL := 3) (ret := (some .boolean)) (by decide) rfl (Nat.le_of_ble_eq_true rfl) ?_
  intro p e s m args below meth c A ls hF hA hP hK hD hg hS hl
  obtain ⟨hx, hb, hrt, hlk, hml, hown, hts, hnm⟩ := hF
  have hown : s.vm.findClass R_RT = some m.cls := hown
  have hl : lv_has ls 3 [(0, .ref aX), (1, .int (nI i)), (2, .int y)] := hl
  refine lv_iload_n hx hb d_RT_change_0 rfl (lv_at hl 1 rfl) ?_
  refine xb_lt hx hb 23 (by omega) d_RT_change_1 rfl ?_
  refine lv_iload_n hx hb d_RT_change_4 rfl (lv_at hl 1 rfl) ?_
  refine lv_aload_n hx hb d_RT_change_5 rfl (lv_at hl 0 rfl) ?_
  refine va_get (D := D) (ci := 5) (v := .int (nI ct)) (C := R_RT) (T := F_RT) (N := 7) hx hb hts in_RT hown hK hP 0 rfl rfl 6 (by decide) (hts _ (List.mem_cons_of_mem _ k_152)) (fun _ h9 => h9) rfl d_RT_change_6 ?_
  refine xb_cge hx hb 23 (by omega) (by omega) d_RT_change_9 rfl (fun h9 => ?_) (fun h9 => ?_)
  · skip
    exact absurd h9 (by omega)
  refine lv_aload_n hx hb d_RT_change_12 rfl (lv_at hl 0 rfl) ?_
  refine va_get (D := D) (ci := 5) (v := .ref aM) (C := R_RT) (T := F_RT) (N := 7) hx hb hts in_RT hown hK hP 0 rfl rfl 1 (by decide) (hts _ (List.mem_cons_of_mem _ k_147)) (fun _ h9 => h9) rfl d_RT_change_13 ?_
  refine lv_iload_n hx hb d_RT_change_16 rfl (lv_at hl 2 rfl) ?_
  refine xc_i (wc := [(aM, .inr (1, [.ref aK, .int b1, .int b2, .int (nI ln)])), (aK, .inl (cI, 24, .inl mk))]) (wr := [(aX, .inr (5, [.ref aR, .ref aM, .ref aG, .ref aL, .ref aU, .ref aP, .int (nI ct)])), (aU, .inl (cI, 30, .inl tq))]) (gG_ok tF) hK hP hD hS hA hg [1, 2] [0, 3] rfl rfl (by decide) (by decide) (by decide) (fun h1 h2 => va_runV (As := [.int y]) (rest := []) ⟨hx, hb, hml, hown, hts⟩ (c_Met_hasCall aM aK mk b1 b2 ln y hln _) (cwV 1 hts (gV k_250 k_251 k_252 k_3 k_253) rfl rfl rfl (by decide +kernel) ⟨Nat.le_of_ble_eq_true rfl, Nat.le_of_ble_eq_true rfl⟩) ⟨h1, va_recv (q0 := 1) (ci := 1) hK hP rfl rfl, h2⟩ rfl rfl hl.1 rfl (lv_room (Nat.le_of_ble_eq_true rfl)) d_RT_change_17 ⟨Nat.zero_le _, Nat.zero_le _⟩) (fun r u H locs hq9 hP hD hS => ?_)
  obtain rfl := hq9
  have hP : va_P D vwCl [(aX, .inr (5, [.ref aR, .ref aM, .ref aG, .ref aL, .ref aU, .ref aP, .int (nI ct)])), (aU, .inl (cI, 30, .inl tq)), (aM, .inr (1, [.ref aK, .int b1, .int b2, .int (nI ln)])), (aK, .inl (cI, 24, .inl mk))] H := hP
  have hD : va_D A [(aX, .inr (5, [.ref aR, .ref aM, .ref aG, .ref aL, .ref aU, .ref aP, .int (nI ct)])), (aU, .inl (cI, 30, .inl tq)), (aM, .inr (1, [.ref aK, .int b1, .int b2, .int (nI ln)])), (aK, .inl (cI, 24, .inl mk))] := hD
  refine xb_neB (x := hcl ln b1 b2 y) hx hb 25 d_RT_change_20 rfl (fun h20 => ?_) (fun h20 => ?_)
  · skip
    refine lv_aload_n hx hb d_RT_change_25 rfl (lv_at hl 0 rfl) ?_
    refine va_get (D := D) (ci := 5) (v := .ref aU) (C := R_RT) (T := F_RT) (N := 7) hx hb hts in_RT hown hK hP 0 rfl rfl 4 (by decide) (hts _ (List.mem_cons_of_mem _ k_150)) (fun _ h9 => h9) rfl d_RT_change_26 ?_
    refine lv_iload_n hx hb d_RT_change_29 rfl (lv_at hl 1 rfl) ?_
    refine lv_iload_n hx hb d_RT_change_30 rfl (lv_at hl 2 rfl) ?_
    refine xa_iast hx hb hK hP hD hS 1 0 rfl rfl (by omega) (by decide) d_RT_change_31 (fun H locs hP hD hS => ?_)
    have hP : va_P D vwCl [(aX, .inr (5, [.ref aR, .ref aM, .ref aG, .ref aL, .ref aU, .ref aP, .int (nI ct)])), (aU, .inl (cI, 30, .inl (upd tq i y))), (aM, .inr (1, [.ref aK, .int b1, .int b2, .int (nI ln)])), (aK, .inl (cI, 24, .inl mk))] H := hP
    have hD : va_D A [(aX, .inr (5, [.ref aR, .ref aM, .ref aG, .ref aL, .ref aU, .ref aP, .int (nI ct)])), (aU, .inl (cI, 30, .inl (upd tq i y))), (aM, .inr (1, [.ref aK, .int b1, .int b2, .int (nI ln)])), (aK, .inl (cI, 24, .inl mk))] := hD
    refine lv_iconst (v := nI 1) hx hb d_RT_change_32 (by decide) ?_
    exact xr_i hx hb hrt hlk rfl hP hD hS () [0, 2, 3, 1] (by decide) rfl rfl d_RT_change_33
  rw [hok] at h20
  cases h20
set_option maxHeartbeats 4000000 in
set_option maxRecDepth 100000 in
theorem c_RT_keep_no (aX : Nat) (aR : Nat) (aM : Nat) (aG : Nat) (aL : Nat) (aU : Nat) (aP : Nat) (ct : Nat) (x : Int32) (hno : kpk ct x = false) : CtI l y_RT_keep (w_RT_keep) ({ frames := 0, cells := 0, slots := 0, locals := 0 }) D vwCl (TYs cI cZ cJ cG) (gG tF) [.ref aX, .int x] [(aX, .inr (5, [.ref aR, .ref aM, .ref aG, .ref aL, .ref aU, .ref aP, .int (nI ct)]))] 0 0 (fun _ : Unit => [(aX, .inr (5, [.ref aR, .ref aM, .ref aG, .ref aL, .ref aU, .ref aP, .int (nI ct)]))]) (fun (r : Int32) (_ : Unit) => r = nI 0) := by
  refine CtI.of (cc := b_RT_keep) (maxL := 2) (ret := (some .boolean)) (by decide) rfl (Nat.le_of_ble_eq_true rfl) ?_
  intro p e s m args below meth c A ls hF hA hP hK hD hg hS hl
  obtain ⟨hx, hb, hrt, hlk, hml, hown, hts, hnm⟩ := hF
  have hown : s.vm.findClass R_RT = some m.cls := hown
  have hl : lv_has ls 2 [(0, .ref aX), (1, .int x)] := hl
  refine lv_iload_n hx hb d_RT_keep_0 rfl (lv_at hl 1 rfl) ?_
  refine lv_if_lt (tgt := 12) hx hb d_RT_keep_1 rfl (fun h1 => ?_) (fun h1 => ?_)
  · skip
    refine lv_iconst (v := nI 0) hx hb d_RT_keep_12 (by decide) ?_
    exact xr_i hx hb hrt hlk rfl hP hD hS () [0] (by decide) rfl rfl d_RT_keep_13
  refine lv_iload_n hx hb d_RT_keep_4 rfl (lv_at hl 1 rfl) ?_
  refine lv_aload_n hx hb d_RT_keep_5 rfl (lv_at hl 0 rfl) ?_
  refine va_get (D := D) (ci := 5) (v := .int (nI ct)) (C := R_RT) (T := F_RT) (N := 7) hx hb hts in_RT hown hK hP 0 rfl rfl 6 (by decide) (hts _ (List.mem_cons_of_mem _ k_152)) (fun _ h9 => h9) rfl d_RT_keep_6 ?_
  refine lv_icmp_le (tgt := 14) hx hb d_RT_keep_9 rfl (fun h9 => ?_) (fun h9 => ?_)
  · skip
    exact absurd hno (by unfold kpk; rw [if_neg h1, if_neg (Int32.not_lt.mpr h9)]; decide)
  refine lv_iconst (v := nI 0) hx hb d_RT_keep_12 (by decide) ?_
  exact xr_i hx hb hrt hlk rfl hP hD hS () [0] (by decide) rfl rfl d_RT_keep_13
set_option maxHeartbeats 4000000 in
set_option maxRecDepth 100000 in
theorem c_RT_keep (aX : Nat) (aR : Nat) (aM : Nat) (aG : Nat) (aL : Nat) (aU : Nat) (aP : Nat) (ct : Nat) (i : Nat) (hct : ct ≤ 30) (hi : i ≤ ct) : CtI l y_RT_keep (w_RT_keep) ({ frames := 0, cells := 0, slots := 0, locals := 0 }) D vwCl (TYs cI cZ cJ cG) (gG tF) [.ref aX, .int (nI i)] [(aX, .inr (5, [.ref aR, .ref aM, .ref aG, .ref aL, .ref aU, .ref aP, .int (nI ct)]))] 0 0 (fun _ : Unit => [(aX, .inr (5, [.ref aR, .ref aM, .ref aG, .ref aL, .ref aU, .ref aP, .int (nI i)]))]) (fun (r : Int32) (_ : Unit) => r = nI 1) := by
  refine CtI.of (cc := b_RT_keep) (maxL := 2) (ret := (some .boolean)) (by decide) rfl (Nat.le_of_ble_eq_true rfl) ?_
  intro p e s m args below meth c A ls hF hA hP hK hD hg hS hl
  obtain ⟨hx, hb, hrt, hlk, hml, hown, hts, hnm⟩ := hF
  have hown : s.vm.findClass R_RT = some m.cls := hown
  have hl : lv_has ls 2 [(0, .ref aX), (1, .int (nI i))] := hl
  refine lv_iload_n hx hb d_RT_keep_0 rfl (lv_at hl 1 rfl) ?_
  refine xb_lt hx hb 12 (by omega) d_RT_keep_1 rfl ?_
  refine lv_iload_n hx hb d_RT_keep_4 rfl (lv_at hl 1 rfl) ?_
  refine lv_aload_n hx hb d_RT_keep_5 rfl (lv_at hl 0 rfl) ?_
  refine va_get (D := D) (ci := 5) (v := .int (nI ct)) (C := R_RT) (T := F_RT) (N := 7) hx hb hts in_RT hown hK hP 0 rfl rfl 6 (by decide) (hts _ (List.mem_cons_of_mem _ k_152)) (fun _ h9 => h9) rfl d_RT_keep_6 ?_
  refine xb_cle hx hb 14 (by omega) (by omega) d_RT_keep_9 rfl (fun h9 => ?_) (fun h9 => ?_)
  · skip
    refine lv_aload_n hx hb d_RT_keep_14 rfl (lv_at hl 0 rfl) ?_
    refine lv_iload_n hx hb d_RT_keep_15 rfl (lv_at hl 1 rfl) ?_
    refine va_put (D := D) (ci := 5) (v := .int (nI i)) (ty := .int) (C := R_RT) (T := F_RT) (N := 7) hx hb hts in_RT t_RT t_RT_ok n_RT hown hK hP hD hS 0 rfl rfl 6 (by decide) (hts _ (List.mem_cons_of_mem _ k_152)) (fun _ h9 => h9) rfl (by decide +kernel) rfl rfl (Nat.le_of_ble_eq_true rfl) d_RT_keep_16 (fun H locs hP hD hS => ?_)
    have hP : va_P D vwCl [(aX, .inr (5, [.ref aR, .ref aM, .ref aG, .ref aL, .ref aU, .ref aP, .int (nI i)]))] H := hP
    have hD : va_D A [(aX, .inr (5, [.ref aR, .ref aM, .ref aG, .ref aL, .ref aU, .ref aP, .int (nI i)]))] := hD
    refine lv_iconst (v := nI 1) hx hb d_RT_keep_19 (by decide) ?_
    exact xr_i hx hb hrt hlk rfl hP hD hS () [0] (by decide) rfl rfl d_RT_keep_20
  exact absurd h9 (by omega)
set_option maxHeartbeats 4000000 in
set_option maxRecDepth 100000 in
theorem c_RT_callAt_no (aX : Nat) (aR : Nat) (aM : Nat) (aG : Nat) (aL : Nat) (aU : Nat) (aP : Nat) (ct : Nat) (x : Int32) (hno : chk true ct x = false) : CtI l y_RT_callAt (w_RT_callAt) ({ frames := 0, cells := 0, slots := 0, locals := 0 }) D vwCl (TYs cI cZ cJ cG) (gG tF) [.ref aX, .int x] [(aX, .inr (5, [.ref aR, .ref aM, .ref aG, .ref aL, .ref aU, .ref aP, .int (nI ct)]))] 0 0 (fun _ : Unit => [(aX, .inr (5, [.ref aR, .ref aM, .ref aG, .ref aL, .ref aU, .ref aP, .int (nI ct)]))]) (fun (r : Int32) (_ : Unit) => r = (-1)) := by
  refine CtI.of (cc := b_RT_callAt) (maxL := 2) (ret := (some .int)) (by decide) rfl (Nat.le_of_ble_eq_true rfl) ?_
  intro p e s m args below meth c A ls hF hA hP hK hD hg hS hl
  obtain ⟨hx, hb, hrt, hlk, hml, hown, hts, hnm⟩ := hF
  have hown : s.vm.findClass R_RT = some m.cls := hown
  have hl : lv_has ls 2 [(0, .ref aX), (1, .int x)] := hl
  refine lv_iload_n hx hb d_RT_callAt_0 rfl (lv_at hl 1 rfl) ?_
  refine lv_if_lt (tgt := 12) hx hb d_RT_callAt_1 rfl (fun h1 => ?_) (fun h1 => ?_)
  · skip
    refine lv_iconst (v := (-1)) hx hb d_RT_callAt_12 (by decide) ?_
    refine lv_goto (tgt := 22) hx hb d_RT_callAt_13 rfl ?_
    exact xr_i hx hb hrt hlk rfl hP hD hS () [0] (by decide) rfl rfl d_RT_callAt_22
  refine lv_iload_n hx hb d_RT_callAt_4 rfl (lv_at hl 1 rfl) ?_
  refine lv_aload_n hx hb d_RT_callAt_5 rfl (lv_at hl 0 rfl) ?_
  refine va_get (D := D) (ci := 5) (v := .int (nI ct)) (C := R_RT) (T := F_RT) (N := 7) hx hb hts in_RT hown hK hP 0 rfl rfl 6 (by decide) (hts _ (List.mem_cons_of_mem _ k_152)) (fun _ h9 => h9) rfl d_RT_callAt_6 ?_
  refine lv_icmp_lt (tgt := 16) hx hb d_RT_callAt_9 rfl (fun h9 => ?_) (fun h9 => ?_)
  · skip
    exact absurd hno (by unfold chk; rw [if_neg h1, if_neg (Int32.not_le.mpr h9)]; decide)
  refine lv_iconst (v := (-1)) hx hb d_RT_callAt_12 (by decide) ?_
  refine lv_goto (tgt := 22) hx hb d_RT_callAt_13 rfl ?_
  exact xr_i hx hb hrt hlk rfl hP hD hS () [0] (by decide) rfl rfl d_RT_callAt_22
set_option maxHeartbeats 4000000 in
set_option maxRecDepth 100000 in
theorem c_RT_callAt (aX : Nat) (aR : Nat) (aM : Nat) (aG : Nat) (aL : Nat) (aU : Nat) (aP : Nat) (ct : Nat) (tq : Nat → Int32) (i : Nat) (hct : ct ≤ 30) (hi : i < ct) : CtI l y_RT_callAt (w_RT_callAt) ({ frames := 0, cells := 0, slots := 0, locals := 0 }) D vwCl (TYs cI cZ cJ cG) (gG tF) [.ref aX, .int (nI i)] [(aX, .inr (5, [.ref aR, .ref aM, .ref aG, .ref aL, .ref aU, .ref aP, .int (nI ct)])), (aU, .inl (cI, 30, .inl tq))] 0 0 (fun _ : Unit => [(aX, .inr (5, [.ref aR, .ref aM, .ref aG, .ref aL, .ref aU, .ref aP, .int (nI ct)])), (aU, .inl (cI, 30, .inl tq))]) (fun (r : Int32) (_ : Unit) => r = tq i) := by
  refine CtI.of (cc := b_RT_callAt) (maxL := 2) (ret := (some .int)) (by decide) rfl (Nat.le_of_ble_eq_true rfl) ?_
  intro p e s m args below meth c A ls hF hA hP hK hD hg hS hl
  obtain ⟨hx, hb, hrt, hlk, hml, hown, hts, hnm⟩ := hF
  have hown : s.vm.findClass R_RT = some m.cls := hown
  have hl : lv_has ls 2 [(0, .ref aX), (1, .int (nI i))] := hl
  refine lv_iload_n hx hb d_RT_callAt_0 rfl (lv_at hl 1 rfl) ?_
  refine xb_lt hx hb 12 (by omega) d_RT_callAt_1 rfl ?_
  refine lv_iload_n hx hb d_RT_callAt_4 rfl (lv_at hl 1 rfl) ?_
  refine lv_aload_n hx hb d_RT_callAt_5 rfl (lv_at hl 0 rfl) ?_
  refine va_get (D := D) (ci := 5) (v := .int (nI ct)) (C := R_RT) (T := F_RT) (N := 7) hx hb hts in_RT hown hK hP 0 rfl rfl 6 (by decide) (hts _ (List.mem_cons_of_mem _ k_152)) (fun _ h9 => h9) rfl d_RT_callAt_6 ?_
  refine xb_clt hx hb 16 (by omega) (by omega) d_RT_callAt_9 rfl (fun h9 => ?_) (fun h9 => ?_)
  · skip
    refine lv_aload_n hx hb d_RT_callAt_16 rfl (lv_at hl 0 rfl) ?_
    refine va_get (D := D) (ci := 5) (v := .ref aU) (C := R_RT) (T := F_RT) (N := 7) hx hb hts in_RT hown hK hP 0 rfl rfl 4 (by decide) (hts _ (List.mem_cons_of_mem _ k_150)) (fun _ h9 => h9) rfl d_RT_callAt_17 ?_
    refine lv_iload_n hx hb d_RT_callAt_20 rfl (lv_at hl 1 rfl) ?_
    refine xa_iald (v := tq i) hx hb hK hP 1 0 rfl rfl (by omega) (by decide) rfl d_RT_callAt_21 ?_
    exact xr_i hx hb hrt hlk rfl hP hD hS () [0, 1] (by decide) rfl rfl d_RT_callAt_22
  exact absurd h9 (by omega)
set_option maxHeartbeats 4000000 in
set_option maxRecDepth 100000 in
theorem c_RT_looked (aX : Nat) (aR : Nat) (aM : Nat) (aG : Nat) (aL : Nat) (aU : Nat) (aP : Nat) (ct : Nat) (aT : Nat) (lc : Nat) (le : Nat) (mo : Nat) (bu : Nat) (on : Bool) (la : Nat) (fo : Nat) (sp : Bool)  : CtI l y_RT_looked (w_RT_looked) ({ frames := 1, cells := 0, slots := 0, locals := 20 }) D vwCl (TYs cI cZ cJ cG) (gG tF) [.ref aX] [(aX, .inr (5, [.ref aR, .ref aM, .ref aG, .ref aL, .ref aU, .ref aP, .int (nI ct)])), (aL, .inr (0, [.ref aM, .ref aG, .ref aT, .int (nI lc), .int (nI le), .int (nI mo), .int (nI bu), .int (nI on.toNat), .int (nI la), .int (nI fo), .int (nI sp.toNat)]))] 0 0 (fun _ : Unit => [(aX, .inr (5, [.ref aR, .ref aM, .ref aG, .ref aL, .ref aU, .ref aP, .int (nI ct)])), (aL, .inr (0, [.ref aM, .ref aG, .ref aT, .int (nI lc), .int (nI le), .int (nI mo), .int (nI bu), .int (nI on.toNat), .int (nI la), .int (nI fo), .int (nI sp.toNat)]))]) (fun (r : Int32) (_ : Unit) => r = nI la) := by
  refine CtI.of (cc := b_RT_looked) (maxL := 1) (ret := (some .int)) (by decide) rfl (Nat.le_of_ble_eq_true rfl) ?_
  intro p e s m args below meth c A ls hF hA hP hK hD hg hS hl
  obtain ⟨hx, hb, hrt, hlk, hml, hown, hts, hnm⟩ := hF
  have hown : s.vm.findClass R_RT = some m.cls := hown
  have hl : lv_has ls 1 [(0, .ref aX)] := hl
  refine lv_aload_n hx hb d_RT_looked_0 rfl (lv_at hl 0 rfl) ?_
  refine va_get (D := D) (ci := 5) (v := .ref aL) (C := R_RT) (T := F_RT) (N := 7) hx hb hts in_RT hown hK hP 0 rfl rfl 3 (by decide) (hts _ (List.mem_cons_of_mem _ k_149)) (fun _ h9 => h9) rfl d_RT_looked_1 ?_
  refine xc_i (wc := [(aL, .inr (0, [.ref aM, .ref aG, .ref aT, .int (nI lc), .int (nI le), .int (nI mo), .int (nI bu), .int (nI on.toNat), .int (nI la), .int (nI fo), .int (nI sp.toNat)]))]) (wr := [(aX, .inr (5, [.ref aR, .ref aM, .ref aG, .ref aL, .ref aU, .ref aP, .int (nI ct)]))]) (gG_ok tF) hK hP hD hS hA hg [1] [0] rfl rfl (by decide) (by decide) (by decide) (fun h1 h2 => va_runV (As := []) (rest := []) ⟨hx, hb, hml, hown, hts⟩ (c_Look_looked aL aM aG aT lc le mo bu on la fo sp  _) (cwV 0 hts (gV k_353 k_354 k_355 k_6 k_356) rfl rfl rfl (by decide +kernel) ⟨Nat.le_of_ble_eq_true rfl, Nat.le_of_ble_eq_true rfl⟩) ⟨h1, va_recv (q0 := 1) (ci := 0) hK hP rfl rfl, h2⟩ rfl rfl hl.1 rfl (lv_room (Nat.le_of_ble_eq_true rfl)) d_RT_looked_4 ⟨Nat.zero_le _, Nat.zero_le _⟩) (fun r u H locs hq9 hP hD hS => ?_)
  obtain rfl := hq9
  have hP : va_P D vwCl [(aX, .inr (5, [.ref aR, .ref aM, .ref aG, .ref aL, .ref aU, .ref aP, .int (nI ct)])), (aL, .inr (0, [.ref aM, .ref aG, .ref aT, .int (nI lc), .int (nI le), .int (nI mo), .int (nI bu), .int (nI on.toNat), .int (nI la), .int (nI fo), .int (nI sp.toNat)]))] H := hP
  have hD : va_D A [(aX, .inr (5, [.ref aR, .ref aM, .ref aG, .ref aL, .ref aU, .ref aP, .int (nI ct)])), (aL, .inr (0, [.ref aM, .ref aG, .ref aT, .int (nI lc), .int (nI le), .int (nI mo), .int (nI bu), .int (nI on.toNat), .int (nI la), .int (nI fo), .int (nI sp.toNat)]))] := hD
  exact xr_i hx hb hrt hlk rfl hP hD hS () [0, 1] (by decide) rfl rfl d_RT_looked_7
end
