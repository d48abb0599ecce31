section
variable {l : Launch} {D : va_G} {cI cZ cJ cG : ClassId} {tF : Nat}
set_option maxHeartbeats 4000000 in
set_option maxRecDepth 100000 in
theorem c_M_search_1 (xM : Nat) (cd : Int32) (n : Nat) (xK : Nat) (xV : Nat) (xC : Nat) (xH : Nat) (ct : Nat) (xT : Nat) (xP : Nat) (lk : Nat) (xB : Nat) (xR : Nat) (xL : Nat) (xN : Nat) (xQ : Nat) (rp : Bool) (x : Int32) (y : Int32) (z : Int32)  : CtI l y_M_search (w_M_search) ({ frames := 0, cells := 0, slots := 0, locals := 0 }) D vwCl (TYs cI cZ cJ cG) (gG tF) [.ref xM, .int x, .int y, .int z] [(xM, .inr (6, [.int cd, .int (nI n), .ref xK, .ref xV, .int (nI 0), .ref xC, .ref xH, .int (nI ct), .ref xT, .ref xP, .int (nI lk), .ref xB, .ref xR, .ref xL, .ref xN, .ref xQ, .int (nI rp.toNat)]))] 0 0 (fun _ : Unit => [(xM, .inr (6, [.int (nI 1), .int (nI n), .ref xK, .ref xV, .int (nI 0), .ref xC, .ref xH, .int (nI ct), .ref xT, .ref xP, .int (nI lk), .ref xB, .ref xR, .ref xL, .ref xN, .ref xQ, .int (nI rp.toNat)]))]) (fun (r : Int32) (_ : Unit) => r = nI 0) := by
  refine CtI.of (cc := b_M_search) (maxL := 5) (ret := (some .int)) (by decide) rfl (Nat.le_of_ble_eq_true rfl) ?_
  intro p e s m args below meth c A ls hF hA hP hK hD hg hS hl
  obtain ⟨hx, hb, hrt, hlk, hml, hown, hts, hnm⟩ := hF
  have hown : s.vm.findClass R_M = some m.cls := hown
  have hl : lv_has ls 5 [(0, .ref xM), (1, .int x), (2, .int y), (3, .int z)] := hl
  refine lv_aload_n hx hb d_M_search_0 rfl (lv_at hl 0 rfl) ?_
  refine lv_aload_n hx hb d_M_search_1 rfl (lv_at hl 0 rfl) ?_
  refine va_get (D := D) (ci := 6) (v := .int (nI 0)) (C := R_M) (T := F_M) (N := 17) hx hb hts in_M hown hK hP 0 rfl rfl 4 (by decide) (hts _ (List.mem_cons_of_mem _ k_587)) (fun _ h9 => h9) rfl d_M_search_2 ?_
  refine xb_ne hx hb 12 (by decide) d_M_search_5 rfl (fun h => absurd h (by decide)) (fun _ => ?_)
  refine lv_iconst (v := nI 1) hx hb d_M_search_8 (by decide) ?_
  refine lv_goto (tgt := 46) hx hb d_M_search_9 rfl ?_
  refine va_put (D := D) (ci := 6) (v := .int (nI 1)) (ty := .int) (C := R_M) (T := F_M) (N := 17) hx hb hts in_M t_M t_M_ok n_M hown hK hP hD hS 0 rfl rfl 0 (by decide) (hts _ (List.mem_cons_of_mem _ k_583)) (fun _ h9 => h9) rfl (by decide +kernel) rfl rfl (Nat.le_of_ble_eq_true rfl) d_M_search_46 (fun H locs hP hD hS => ?_)
  have hP : va_P D vwCl [(xM, .inr (6, [.int (nI 1), .int (nI n), .ref xK, .ref xV, .int (nI 0), .ref xC, .ref xH, .int (nI ct), .ref xT, .ref xP, .int (nI lk), .ref xB, .ref xR, .ref xL, .ref xN, .ref xQ, .int (nI rp.toNat)]))] H := hP
  have hD : va_D A [(xM, .inr (6, [.int (nI 1), .int (nI n), .ref xK, .ref xV, .int (nI 0), .ref xC, .ref xH, .int (nI ct), .ref xT, .ref xP, .int (nI lk), .ref xB, .ref xR, .ref xL, .ref xN, .ref xQ, .int (nI rp.toNat)]))] := hD
  refine lv_aload_n hx hb d_M_search_49 rfl (lv_at hl 0 rfl) ?_
  refine va_get (D := D) (ci := 6) (v := .int (nI 1)) (C := R_M) (T := F_M) (N := 17) hx hb hts in_M hown hK hP 0 rfl rfl 0 (by decide) (hts _ (List.mem_cons_of_mem _ k_583)) (fun _ h9 => h9) rfl d_M_search_50 ?_
  refine xb_le hx hb 58 (by decide) d_M_search_53 rfl (fun h => absurd h (by decide)) (fun _ => ?_)
  refine lv_iconst (v := nI 0) hx hb d_M_search_56 (by decide) ?_
  exact xr_i hx hb hrt hlk rfl hP hD hS () [0] (by decide) rfl rfl d_M_search_57
set_option maxHeartbeats 4000000 in
set_option maxRecDepth 100000 in
theorem c_M_search_2 (xM : Nat) (cd : Int32) (n : Nat) (xK : Nat) (xV : Nat) (ln : Nat) (xC : Nat) (xH : Nat) (ct : Nat) (xT : Nat) (xP : Nat) (lk : Nat) (xB : Nat) (xR : Nat) (xL : Nat) (xN : Nat) (xQ : Nat) (rp : Bool) (x : Int32) (y : Int32) (z : Int32) (hl1 : 1 ≤ ln) (hl2 : ln ≤ 24) (hno : slk x y z = false) : CtI l y_M_search (w_M_search) ({ frames := 0, cells := 0, slots := 0, locals := 0 }) D vwCl (TYs cI cZ cJ cG) (gG tF) [.ref xM, .int x, .int y, .int z] [(xM, .inr (6, [.int cd, .int (nI n), .ref xK, .ref xV, .int (nI ln), .ref xC, .ref xH, .int (nI ct), .ref xT, .ref xP, .int (nI lk), .ref xB, .ref xR, .ref xL, .ref xN, .ref xQ, .int (nI rp.toNat)]))] 0 0 (fun _ : Unit => [(xM, .inr (6, [.int (nI 2), .int (nI n), .ref xK, .ref xV, .int (nI ln), .ref xC, .ref xH, .int (nI ct), .ref xT, .ref xP, .int (nI lk), .ref xB, .ref xR, .ref xL, .ref xN, .ref xQ, .int (nI rp.toNat)]))]) (fun (r : Int32) (_ : Unit) => r = nI 0) := by
  refine CtI.of (cc := b_M_search) (maxL := 5) (ret := (some .int)) (by decide) rfl (Nat.le_of_ble_eq_true rfl) ?_
  intro p e s m args below meth c A ls hF hA hP hK hD hg hS hl
  obtain ⟨hx, hb, hrt, hlk, hml, hown, hts, hnm⟩ := hF
  have hown : s.vm.findClass R_M = some m.cls := hown
  have hl : lv_has ls 5 [(0, .ref xM), (1, .int x), (2, .int y), (3, .int z)] := hl
  refine lv_aload_n hx hb d_M_search_0 rfl (lv_at hl 0 rfl) ?_
  refine lv_aload_n hx hb d_M_search_1 rfl (lv_at hl 0 rfl) ?_
  refine va_get (D := D) (ci := 6) (v := .int (nI ln)) (C := R_M) (T := F_M) (N := 17) hx hb hts in_M hown hK hP 0 rfl rfl 4 (by decide) (hts _ (List.mem_cons_of_mem _ k_587)) (fun _ h9 => h9) rfl d_M_search_2 ?_
  refine xb_ne hx hb 12 (by omega) d_M_search_5 rfl (fun h5 => ?_) (fun h5 => ?_)
  · skip
    refine lv_iload_n hx hb d_M_search_12 rfl (lv_at hl 1 rfl) ?_
    refine lv_iconst (v := nI 1) hx hb d_M_search_13 (by decide) ?_
    refine lv_icmp_lt (tgt := 41) hx hb d_M_search_14 rfl (fun h14 => ?_) (fun h14 => ?_)
    · skip
      refine lv_iconst (v := nI 2) hx hb d_M_search_41 (by decide) ?_
      refine lv_goto (tgt := 46) hx hb d_M_search_42 rfl ?_
      refine va_put (D := D) (ci := 6) (v := .int (nI 2)) (ty := .int) (C := R_M) (T := F_M) (N := 17) hx hb hts in_M t_M t_M_ok n_M hown hK hP hD hS 0 rfl rfl 0 (by decide) (hts _ (List.mem_cons_of_mem _ k_583)) (fun _ h9 => h9) rfl (by decide +kernel) rfl rfl (Nat.le_of_ble_eq_true rfl) d_M_search_46 (fun H locs hP hD hS => ?_)
      have hP : va_P D vwCl [(xM, .inr (6, [.int (nI 2), .int (nI n), .ref xK, .ref xV, .int (nI ln), .ref xC, .ref xH, .int (nI ct), .ref xT, .ref xP, .int (nI lk), .ref xB, .ref xR, .ref xL, .ref xN, .ref xQ, .int (nI rp.toNat)]))] H := hP
      have hD : va_D A [(xM, .inr (6, [.int (nI 2), .int (nI n), .ref xK, .ref xV, .int (nI ln), .ref xC, .ref xH, .int (nI ct), .ref xT, .ref xP, .int (nI lk), .ref xB, .ref xR, .ref xL, .ref xN, .ref xQ, .int (nI rp.toNat)]))] := hD
      refine lv_aload_n hx hb d_M_search_49 rfl (lv_at hl 0 rfl) ?_
      refine va_get (D := D) (ci := 6) (v := .int (nI 2)) (C := R_M) (T := F_M) (N := 17) hx hb hts in_M hown hK hP 0 rfl rfl 0 (by decide) (hts _ (List.mem_cons_of_mem _ k_583)) (fun _ h9 => h9) rfl d_M_search_50 ?_
      refine xb_le hx hb 58 (by decide) d_M_search_53 rfl (fun h => absurd h (by decide)) (fun _ => ?_)
      refine lv_iconst (v := nI 0) hx hb d_M_search_56 (by decide) ?_
      exact xr_i hx hb hrt hlk rfl hP hD hS () [0] (by decide) rfl rfl d_M_search_57
    refine lv_iload_n hx hb d_M_search_17 rfl (lv_at hl 1 rfl) ?_
    refine lv_iload_n hx hb d_M_search_18 rfl (lv_at hl 2 rfl) ?_
    refine lv_icmp_gt (tgt := 41) hx hb d_M_search_19 rfl (fun h19 => ?_) (fun h19 => ?_)
    · skip
      refine lv_iconst (v := nI 2) hx hb d_M_search_41 (by decide) ?_
      refine lv_goto (tgt := 46) hx hb d_M_search_42 rfl ?_
      refine va_put (D := D) (ci := 6) (v := .int (nI 2)) (ty := .int) (C := R_M) (T := F_M) (N := 17) hx hb hts in_M t_M t_M_ok n_M hown hK hP hD hS 0 rfl rfl 0 (by decide) (hts _ (List.mem_cons_of_mem _ k_583)) (fun _ h9 => h9) rfl (by decide +kernel) rfl rfl (Nat.le_of_ble_eq_true rfl) d_M_search_46 (fun H locs hP hD hS => ?_)
      have hP : va_P D vwCl [(xM, .inr (6, [.int (nI 2), .int (nI n), .ref xK, .ref xV, .int (nI ln), .ref xC, .ref xH, .int (nI ct), .ref xT, .ref xP, .int (nI lk), .ref xB, .ref xR, .ref xL, .ref xN, .ref xQ, .int (nI rp.toNat)]))] H := hP
      have hD : va_D A [(xM, .inr (6, [.int (nI 2), .int (nI n), .ref xK, .ref xV, .int (nI ln), .ref xC, .ref xH, .int (nI ct), .ref xT, .ref xP, .int (nI lk), .ref xB, .ref xR, .ref xL, .ref xN, .ref xQ, .int (nI rp.toNat)]))] := hD
      refine lv_aload_n hx hb d_M_search_49 rfl (lv_at hl 0 rfl) ?_
      refine va_get (D := D) (ci := 6) (v := .int (nI 2)) (C := R_M) (T := F_M) (N := 17) hx hb hts in_M hown hK hP 0 rfl rfl 0 (by decide) (hts _ (List.mem_cons_of_mem _ k_583)) (fun _ h9 => h9) rfl d_M_search_50 ?_
      refine xb_le hx hb 58 (by decide) d_M_search_53 rfl (fun h => absurd h (by decide)) (fun _ => ?_)
      refine lv_iconst (v := nI 0) hx hb d_M_search_56 (by decide) ?_
      exact xr_i hx hb hrt hlk rfl hP hD hS () [0] (by decide) rfl rfl d_M_search_57
    refine lv_iload_n hx hb d_M_search_22 rfl (lv_at hl 2 rfl) ?_
    refine lv_sipush (v := nI 720) hx hb d_M_search_23 (by decide) ?_
    refine lv_icmp_gt (tgt := 41) hx hb d_M_search_26 rfl (fun h26 => ?_) (fun h26 => ?_)
    · skip
      refine lv_iconst (v := nI 2) hx hb d_M_search_41 (by decide) ?_
      refine lv_goto (tgt := 46) hx hb d_M_search_42 rfl ?_
      refine va_put (D := D) (ci := 6) (v := .int (nI 2)) (ty := .int) (C := R_M) (T := F_M) (N := 17) hx hb hts in_M t_M t_M_ok n_M hown hK hP hD hS 0 rfl rfl 0 (by decide) (hts _ (List.mem_cons_of_mem _ k_583)) (fun _ h9 => h9) rfl (by decide +kernel) rfl rfl (Nat.le_of_ble_eq_true rfl) d_M_search_46 (fun H locs hP hD hS => ?_)
      have hP : va_P D vwCl [(xM, .inr (6, [.int (nI 2), .int (nI n), .ref xK, .ref xV, .int (nI ln), .ref xC, .ref xH, .int (nI ct), .ref xT, .ref xP, .int (nI lk), .ref xB, .ref xR, .ref xL, .ref xN, .ref xQ, .int (nI rp.toNat)]))] H := hP
      have hD : va_D A [(xM, .inr (6, [.int (nI 2), .int (nI n), .ref xK, .ref xV, .int (nI ln), .ref xC, .ref xH, .int (nI ct), .ref xT, .ref xP, .int (nI lk), .ref xB, .ref xR, .ref xL, .ref xN, .ref xQ, .int (nI rp.toNat)]))] := hD
      refine lv_aload_n hx hb d_M_search_49 rfl (lv_at hl 0 rfl) ?_
      refine va_get (D := D) (ci := 6) (v := .int (nI 2)) (C := R_M) (T := F_M) (N := 17) hx hb hts in_M hown hK hP 0 rfl rfl 0 (by decide) (hts _ (List.mem_cons_of_mem _ k_583)) (fun _ h9 => h9) rfl d_M_search_50 ?_
      refine xb_le hx hb 58 (by decide) d_M_search_53 rfl (fun h => absurd h (by decide)) (fun _ => ?_)
      refine lv_iconst (v := nI 0) hx hb d_M_search_56 (by decide) ?_
      exact xr_i hx hb hrt hlk rfl hP hD hS () [0] (by decide) rfl rfl d_M_search_57
    refine lv_iload_n hx hb d_M_search_29 rfl (lv_at hl 3 rfl) ?_
    refine lv_iconst (v := nI 1) hx hb d_M_search_30 (by decide) ?_
    refine lv_icmp_lt (tgt := 41) hx hb d_M_search_31 rfl (fun h31 => ?_) (fun h31 => ?_)
    · skip
      refine lv_iconst (v := nI 2) hx hb d_M_search_41 (by decide) ?_
      refine lv_goto (tgt := 46) hx hb d_M_search_42 rfl ?_
      refine va_put (D := D) (ci := 6) (v := .int (nI 2)) (ty := .int) (C := R_M) (T := F_M) (N := 17) hx hb hts in_M t_M t_M_ok n_M hown hK hP hD hS 0 rfl rfl 0 (by decide) (hts _ (List.mem_cons_of_mem _ k_583)) (fun _ h9 => h9) rfl (by decide +kernel) rfl rfl (Nat.le_of_ble_eq_true rfl) d_M_search_46 (fun H locs hP hD hS => ?_)
      have hP : va_P D vwCl [(xM, .inr (6, [.int (nI 2), .int (nI n), .ref xK, .ref xV, .int (nI ln), .ref xC, .ref xH, .int (nI ct), .ref xT, .ref xP, .int (nI lk), .ref xB, .ref xR, .ref xL, .ref xN, .ref xQ, .int (nI rp.toNat)]))] H := hP
      have hD : va_D A [(xM, .inr (6, [.int (nI 2), .int (nI n), .ref xK, .ref xV, .int (nI ln), .ref xC, .ref xH, .int (nI ct), .ref xT, .ref xP, .int (nI lk), .ref xB, .ref xR, .ref xL, .ref xN, .ref xQ, .int (nI rp.toNat)]))] := hD
      refine lv_aload_n hx hb d_M_search_49 rfl (lv_at hl 0 rfl) ?_
      refine va_get (D := D) (ci := 6) (v := .int (nI 2)) (C := R_M) (T := F_M) (N := 17) hx hb hts in_M hown hK hP 0 rfl rfl 0 (by decide) (hts _ (List.mem_cons_of_mem _ k_583)) (fun _ h9 => h9) rfl d_M_search_50 ?_
      refine xb_le hx hb 58 (by decide) d_M_search_53 rfl (fun h => absurd h (by decide)) (fun _ => ?_)
      refine lv_iconst (v := nI 0) hx hb d_M_search_56 (by decide) ?_
      exact xr_i hx hb hrt hlk rfl hP hD hS () [0] (by decide) rfl rfl d_M_search_57
    refine lv_iload_n hx hb d_M_search_34 rfl (lv_at hl 3 rfl) ?_
    refine lv_sipush (v := nI 2000) hx hb d_M_search_35 (by decide) ?_
    refine lv_icmp_le (tgt := 45) hx hb d_M_search_38 rfl (fun h38 => ?_) (fun h38 => ?_)
    · skip
      exact absurd hno (by unfold slk; rw [if_neg h14, if_neg h19, if_neg h26, if_neg h31, if_neg (Int32.not_lt.mpr h38)]; decide)
    refine lv_iconst (v := nI 2) hx hb d_M_search_41 (by decide) ?_
    refine lv_goto (tgt := 46) hx hb d_M_search_42 rfl ?_
    refine va_put (D := D) (ci := 6) (v := .int (nI 2)) (ty := .int) (C := R_M) (T := F_M) (N := 17) hx hb hts in_M t_M t_M_ok n_M hown hK hP hD hS 0 rfl rfl 0 (by decide) (hts _ (List.mem_cons_of_mem _ k_583)) (fun _ h9 => h9) rfl (by decide +kernel) rfl rfl (Nat.le_of_ble_eq_true rfl) d_M_search_46 (fun H locs hP hD hS => ?_)
    have hP : va_P D vwCl [(xM, .inr (6, [.int (nI 2), .int (nI n), .ref xK, .ref xV, .int (nI ln), .ref xC, .ref xH, .int (nI ct), .ref xT, .ref xP, .int (nI lk), .ref xB, .ref xR, .ref xL, .ref xN, .ref xQ, .int (nI rp.toNat)]))] H := hP
    have hD : va_D A [(xM, .inr (6, [.int (nI 2), .int (nI n), .ref xK, .ref xV, .int (nI ln), .ref xC, .ref xH, .int (nI ct), .ref xT, .ref xP, .int (nI lk), .ref xB, .ref xR, .ref xL, .ref xN, .ref xQ, .int (nI rp.toNat)]))] := hD
    refine lv_aload_n hx hb d_M_search_49 rfl (lv_at hl 0 rfl) ?_
    refine va_get (D := D) (ci := 6) (v := .int (nI 2)) (C := R_M) (T := F_M) (N := 17) hx hb hts in_M hown hK hP 0 rfl rfl 0 (by decide) (hts _ (List.mem_cons_of_mem _ k_583)) (fun _ h9 => h9) rfl d_M_search_50 ?_
    refine xb_le hx hb 58 (by decide) d_M_search_53 rfl (fun h => absurd h (by decide)) (fun _ => ?_)
    refine lv_iconst (v := nI 0) hx hb d_M_search_56 (by decide) ?_
    exact xr_i hx hb hrt hlk rfl hP hD hS () [0] (by decide) rfl rfl d_M_search_57
  exact absurd h5 (by omega)
set_option maxHeartbeats 4000000 in
set_option maxRecDepth 100000 in
theorem c_M_count_1 (xM : Nat) (cd : Int32) (n : Nat) (xK : Nat) (xV : Nat) (xC : Nat) (xH : Nat) (ct : Nat) (xT : Nat) (xP : Nat) (lk : Nat) (xB : Nat) (xR : Nat) (xL : Nat) (xN : Nat) (xQ : Nat) (rp : Bool) (x : Int32) (y : Int32)  : CtI l y_M_count (w_M_count) ({ frames := 0, cells := 0, slots := 0, locals := 0 }) D vwCl (TYs cI cZ cJ cG) (gG tF) [.ref xM, .int x, .int y] [(xM, .inr (6, [.int cd, .int (nI n), .ref xK, .ref xV, .int (nI 0), .ref xC, .ref xH, .int (nI ct), .ref xT, .ref xP, .int (nI lk), .ref xB, .ref xR, .ref xL, .ref xN, .ref xQ, .int (nI rp.toNat)]))] 0 0 (fun _ : Unit => [(xM, .inr (6, [.int (nI 1), .int (nI n), .ref xK, .ref xV, .int (nI 0), .ref xC, .ref xH, .int (nI ct), .ref xT, .ref xP, .int (nI lk), .ref xB, .ref xR, .ref xL, .ref xN, .ref xQ, .int (nI rp.toNat)]))]) (fun (r : Int32) (_ : Unit) => r = nI 0) := by
  refine CtI.of (cc := b_M_count) (maxL := 3) (ret := (some .int)) (by decide) rfl (Nat.le_of_ble_eq_true rfl) ?_
  intro p e s m args below meth c A ls hF hA hP hK hD hg hS hl
  obtain ⟨hx, hb, hrt, hlk, hml, hown, hts, hnm⟩ := hF
  have hown : s.vm.findClass R_M = some m.cls := hown
  have hl : lv_has ls 3 [(0, .ref xM), (1, .int x), (2, .int y)] := hl
  refine lv_aload_n hx hb d_M_count_0 rfl (lv_at hl 0 rfl) ?_
  refine lv_aload_n hx hb d_M_count_1 rfl (lv_at hl 0 rfl) ?_
  refine va_get (D := D) (ci := 6) (v := .int (nI 0)) (C := R_M) (T := F_M) (N := 17) hx hb hts in_M hown hK hP 0 rfl rfl 4 (by decide) (hts _ (List.mem_cons_of_mem _ k_587)) (fun _ h9 => h9) rfl d_M_count_2 ?_
  refine xb_ne hx hb 12 (by decide) d_M_count_5 rfl (fun h => absurd h (by decide)) (fun _ => ?_)
  refine lv_iconst (v := nI 1) hx hb d_M_count_8 (by decide) ?_
  refine lv_goto (tgt := 41) hx hb d_M_count_9 rfl ?_
  refine va_put (D := D) (ci := 6) (v := .int (nI 1)) (ty := .int) (C := R_M) (T := F_M) (N := 17) hx hb hts in_M t_M t_M_ok n_M hown hK hP hD hS 0 rfl rfl 0 (by decide) (hts _ (List.mem_cons_of_mem _ k_583)) (fun _ h9 => h9) rfl (by decide +kernel) rfl rfl (Nat.le_of_ble_eq_true rfl) d_M_count_41 (fun H locs hP hD hS => ?_)
  have hP : va_P D vwCl [(xM, .inr (6, [.int (nI 1), .int (nI n), .ref xK, .ref xV, .int (nI 0), .ref xC, .ref xH, .int (nI ct), .ref xT, .ref xP, .int (nI lk), .ref xB, .ref xR, .ref xL, .ref xN, .ref xQ, .int (nI rp.toNat)]))] H := hP
  have hD : va_D A [(xM, .inr (6, [.int (nI 1), .int (nI n), .ref xK, .ref xV, .int (nI 0), .ref xC, .ref xH, .int (nI ct), .ref xT, .ref xP, .int (nI lk), .ref xB, .ref xR, .ref xL, .ref xN, .ref xQ, .int (nI rp.toNat)]))] := hD
  refine lv_aload_n hx hb d_M_count_44 rfl (lv_at hl 0 rfl) ?_
  refine va_get (D := D) (ci := 6) (v := .int (nI 1)) (C := R_M) (T := F_M) (N := 17) hx hb hts in_M hown hK hP 0 rfl rfl 0 (by decide) (hts _ (List.mem_cons_of_mem _ k_583)) (fun _ h9 => h9) rfl d_M_count_45 ?_
  refine xb_le hx hb 55 (by decide) d_M_count_48 rfl (fun h => absurd h (by decide)) (fun _ => ?_)
  refine lv_iconst (v := nI 0) hx hb d_M_count_51 (by decide) ?_
  refine lv_goto (tgt := 63) hx hb d_M_count_52 rfl ?_
  exact xr_i hx hb hrt hlk rfl hP hD hS () [0] (by decide) rfl rfl d_M_count_63
set_option maxHeartbeats 4000000 in
set_option maxRecDepth 100000 in
theorem c_M_count_2 (xM : Nat) (cd : Int32) (n : Nat) (xK : Nat) (xV : Nat) (ln : Nat) (xC : Nat) (xH : Nat) (ct : Nat) (xT : Nat) (xP : Nat) (lk : Nat) (xB : Nat) (xR : Nat) (xL : Nat) (xN : Nat) (xQ : Nat) (rp : Bool) (x : Int32) (y : Int32) (hl1 : 1 ≤ ln) (hl2 : ln ≤ 24) (hno : slk x x y = false) : CtI l y_M_count (w_M_count) ({ frames := 0, cells := 0, slots := 0, locals := 0 }) D vwCl (TYs cI cZ cJ cG) (gG tF) [.ref xM, .int x, .int y] [(xM, .inr (6, [.int cd, .int (nI n), .ref xK, .ref xV, .int (nI ln), .ref xC, .ref xH, .int (nI ct), .ref xT, .ref xP, .int (nI lk), .ref xB, .ref xR, .ref xL, .ref xN, .ref xQ, .int (nI rp.toNat)]))] 0 0 (fun _ : Unit => [(xM, .inr (6, [.int (nI 2), .int (nI n), .ref xK, .ref xV, .int (nI ln), .ref xC, .ref xH, .int (nI ct), .ref xT, .ref xP, .int (nI lk), .ref xB, .ref xR, .ref xL, .ref xN, .ref xQ, .int (nI rp.toNat)]))]) (fun (r : Int32) (_ : Unit) => r = nI 0) := by
  refine CtI.of (cc := b_M_count) (maxL := 3) (ret := (some .int)) (by decide) rfl (Nat.le_of_ble_eq_true rfl) ?_
  intro p e s m args below meth c A ls hF hA hP hK hD hg hS hl
  obtain ⟨hx, hb, hrt, hlk, hml, hown, hts, hnm⟩ := hF
  have hown : s.vm.findClass R_M = some m.cls := hown
  have hl : lv_has ls 3 [(0, .ref xM), (1, .int x), (2, .int y)] := hl
  refine lv_aload_n hx hb d_M_count_0 rfl (lv_at hl 0 rfl) ?_
  refine lv_aload_n hx hb d_M_count_1 rfl (lv_at hl 0 rfl) ?_
  refine va_get (D := D) (ci := 6) (v := .int (nI ln)) (C := R_M) (T := F_M) (N := 17) hx hb hts in_M hown hK hP 0 rfl rfl 4 (by decide) (hts _ (List.mem_cons_of_mem _ k_587)) (fun _ h9 => h9) rfl d_M_count_2 ?_
  refine xb_ne hx hb 12 (by omega) d_M_count_5 rfl (fun h5 => ?_) (fun h5 => ?_)
  · skip
    refine lv_iload_n hx hb d_M_count_12 rfl (lv_at hl 1 rfl) ?_
    refine lv_iconst (v := nI 1) hx hb d_M_count_13 (by decide) ?_
    refine lv_icmp_lt (tgt := 36) hx hb d_M_count_14 rfl (fun h14 => ?_) (fun h14 => ?_)
    · skip
      refine lv_iconst (v := nI 2) hx hb d_M_count_36 (by decide) ?_
      refine lv_goto (tgt := 41) hx hb d_M_count_37 rfl ?_
      refine va_put (D := D) (ci := 6) (v := .int (nI 2)) (ty := .int) (C := R_M) (T := F_M) (N := 17) hx hb hts in_M t_M t_M_ok n_M hown hK hP hD hS 0 rfl rfl 0 (by decide) (hts _ (List.mem_cons_of_mem _ k_583)) (fun _ h9 => h9) rfl (by decide +kernel) rfl rfl (Nat.le_of_ble_eq_true rfl) d_M_count_41 (fun H locs hP hD hS => ?_)
      have hP : va_P D vwCl [(xM, .inr (6, [.int (nI 2), .int (nI n), .ref xK, .ref xV, .int (nI ln), .ref xC, .ref xH, .int (nI ct), .ref xT, .ref xP, .int (nI lk), .ref xB, .ref xR, .ref xL, .ref xN, .ref xQ, .int (nI rp.toNat)]))] H := hP
      have hD : va_D A [(xM, .inr (6, [.int (nI 2), .int (nI n), .ref xK, .ref xV, .int (nI ln), .ref xC, .ref xH, .int (nI ct), .ref xT, .ref xP, .int (nI lk), .ref xB, .ref xR, .ref xL, .ref xN, .ref xQ, .int (nI rp.toNat)]))] := hD
      refine lv_aload_n hx hb d_M_count_44 rfl (lv_at hl 0 rfl) ?_
      refine va_get (D := D) (ci := 6) (v := .int (nI 2)) (C := R_M) (T := F_M) (N := 17) hx hb hts in_M hown hK hP 0 rfl rfl 0 (by decide) (hts _ (List.mem_cons_of_mem _ k_583)) (fun _ h9 => h9) rfl d_M_count_45 ?_
      refine xb_le hx hb 55 (by decide) d_M_count_48 rfl (fun h => absurd h (by decide)) (fun _ => ?_)
      refine lv_iconst (v := nI 0) hx hb d_M_count_51 (by decide) ?_
      refine lv_goto (tgt := 63) hx hb d_M_count_52 rfl ?_
      exact xr_i hx hb hrt hlk rfl hP hD hS () [0] (by decide) rfl rfl d_M_count_63
    refine lv_iload_n hx hb d_M_count_17 rfl (lv_at hl 1 rfl) ?_
    refine lv_sipush (v := nI 720) hx hb d_M_count_18 (by decide) ?_
    refine lv_icmp_gt (tgt := 36) hx hb d_M_count_21 rfl (fun h21 => ?_) (fun h21 => ?_)
    · skip
      refine lv_iconst (v := nI 2) hx hb d_M_count_36 (by decide) ?_
      refine lv_goto (tgt := 41) hx hb d_M_count_37 rfl ?_
      refine va_put (D := D) (ci := 6) (v := .int (nI 2)) (ty := .int) (C := R_M) (T := F_M) (N := 17) hx hb hts in_M t_M t_M_ok n_M hown hK hP hD hS 0 rfl rfl 0 (by decide) (hts _ (List.mem_cons_of_mem _ k_583)) (fun _ h9 => h9) rfl (by decide +kernel) rfl rfl (Nat.le_of_ble_eq_true rfl) d_M_count_41 (fun H locs hP hD hS => ?_)
      have hP : va_P D vwCl [(xM, .inr (6, [.int (nI 2), .int (nI n), .ref xK, .ref xV, .int (nI ln), .ref xC, .ref xH, .int (nI ct), .ref xT, .ref xP, .int (nI lk), .ref xB, .ref xR, .ref xL, .ref xN, .ref xQ, .int (nI rp.toNat)]))] H := hP
      have hD : va_D A [(xM, .inr (6, [.int (nI 2), .int (nI n), .ref xK, .ref xV, .int (nI ln), .ref xC, .ref xH, .int (nI ct), .ref xT, .ref xP, .int (nI lk), .ref xB, .ref xR, .ref xL, .ref xN, .ref xQ, .int (nI rp.toNat)]))] := hD
      refine lv_aload_n hx hb d_M_count_44 rfl (lv_at hl 0 rfl) ?_
      refine va_get (D := D) (ci := 6) (v := .int (nI 2)) (C := R_M) (T := F_M) (N := 17) hx hb hts in_M hown hK hP 0 rfl rfl 0 (by decide) (hts _ (List.mem_cons_of_mem _ k_583)) (fun _ h9 => h9) rfl d_M_count_45 ?_
      refine xb_le hx hb 55 (by decide) d_M_count_48 rfl (fun h => absurd h (by decide)) (fun _ => ?_)
      refine lv_iconst (v := nI 0) hx hb d_M_count_51 (by decide) ?_
      refine lv_goto (tgt := 63) hx hb d_M_count_52 rfl ?_
      exact xr_i hx hb hrt hlk rfl hP hD hS () [0] (by decide) rfl rfl d_M_count_63
    refine lv_iload_n hx hb d_M_count_24 rfl (lv_at hl 2 rfl) ?_
    refine lv_iconst (v := nI 1) hx hb d_M_count_25 (by decide) ?_
    refine lv_icmp_lt (tgt := 36) hx hb d_M_count_26 rfl (fun h26 => ?_) (fun h26 => ?_)
    · skip
      refine lv_iconst (v := nI 2) hx hb d_M_count_36 (by decide) ?_
      refine lv_goto (tgt := 41) hx hb d_M_count_37 rfl ?_
      refine va_put (D := D) (ci := 6) (v := .int (nI 2)) (ty := .int) (C := R_M) (T := F_M) (N := 17) hx hb hts in_M t_M t_M_ok n_M hown hK hP hD hS 0 rfl rfl 0 (by decide) (hts _ (List.mem_cons_of_mem _ k_583)) (fun _ h9 => h9) rfl (by decide +kernel) rfl rfl (Nat.le_of_ble_eq_true rfl) d_M_count_41 (fun H locs hP hD hS => ?_)
      have hP : va_P D vwCl [(xM, .inr (6, [.int (nI 2), .int (nI n), .ref xK, .ref xV, .int (nI ln), .ref xC, .ref xH, .int (nI ct), .ref xT, .ref xP, .int (nI lk), .ref xB, .ref xR, .ref xL, .ref xN, .ref xQ, .int (nI rp.toNat)]))] H := hP
      have hD : va_D A [(xM, .inr (6, [.int (nI 2), .int (nI n), .ref xK, .ref xV, .int (nI ln), .ref xC, .ref xH, .int (nI ct), .ref xT, .ref xP, .int (nI lk), .ref xB, .ref xR, .ref xL, .ref xN, .ref xQ, .int (nI rp.toNat)]))] := hD
      refine lv_aload_n hx hb d_M_count_44 rfl (lv_at hl 0 rfl) ?_
      refine va_get (D := D) (ci := 6) (v := .int (nI 2)) (C := R_M) (T := F_M) (N := 17) hx hb hts in_M hown hK hP 0 rfl rfl 0 (by decide) (hts _ (List.mem_cons_of_mem _ k_583)) (fun _ h9 => h9) rfl d_M_count_45 ?_
      refine xb_le hx hb 55 (by decide) d_M_count_48 rfl (fun h => absurd h (by decide)) (fun _ => ?_)
      refine lv_iconst (v := nI 0) hx hb d_M_count_51 (by decide) ?_
      refine lv_goto (tgt := 63) hx hb d_M_count_52 rfl ?_
      exact xr_i hx hb hrt hlk rfl hP hD hS () [0] (by decide) rfl rfl d_M_count_63
    refine lv_iload_n hx hb d_M_count_29 rfl (lv_at hl 2 rfl) ?_
    refine lv_sipush (v := nI 2000) hx hb d_M_count_30 (by decide) ?_
    refine lv_icmp_le (tgt := 40) hx hb d_M_count_33 rfl (fun h33 => ?_) (fun h33 => ?_)
    · skip
      exact absurd hno (by unfold slk; rw [if_neg h14, if_neg (show ¬ x < x from Int32.lt_irrefl), if_neg h21, if_neg h26, if_neg (Int32.not_lt.mpr h33)]; decide)
    refine lv_iconst (v := nI 2) hx hb d_M_count_36 (by decide) ?_
    refine lv_goto (tgt := 41) hx hb d_M_count_37 rfl ?_
    refine va_put (D := D) (ci := 6) (v := .int (nI 2)) (ty := .int) (C := R_M) (T := F_M) (N := 17) hx hb hts in_M t_M t_M_ok n_M hown hK hP hD hS 0 rfl rfl 0 (by decide) (hts _ (List.mem_cons_of_mem _ k_583)) (fun _ h9 => h9) rfl (by decide +kernel) rfl rfl (Nat.le_of_ble_eq_true rfl) d_M_count_41 (fun H locs hP hD hS => ?_)
    have hP : va_P D vwCl [(xM, .inr (6, [.int (nI 2), .int (nI n), .ref xK, .ref xV, .int (nI ln), .ref xC, .ref xH, .int (nI ct), .ref xT, .ref xP, .int (nI lk), .ref xB, .ref xR, .ref xL, .ref xN, .ref xQ, .int (nI rp.toNat)]))] H := hP
    have hD : va_D A [(xM, .inr (6, [.int (nI 2), .int (nI n), .ref xK, .ref xV, .int (nI ln), .ref xC, .ref xH, .int (nI ct), .ref xT, .ref xP, .int (nI lk), .ref xB, .ref xR, .ref xL, .ref xN, .ref xQ, .int (nI rp.toNat)]))] := hD
    refine lv_aload_n hx hb d_M_count_44 rfl (lv_at hl 0 rfl) ?_
    refine va_get (D := D) (ci := 6) (v := .int (nI 2)) (C := R_M) (T := F_M) (N := 17) hx hb hts in_M hown hK hP 0 rfl rfl 0 (by decide) (hts _ (List.mem_cons_of_mem _ k_583)) (fun _ h9 => h9) rfl d_M_count_45 ?_
    refine xb_le hx hb 55 (by decide) d_M_count_48 rfl (fun h => absurd h (by decide)) (fun _ => ?_)
    refine lv_iconst (v := nI 0) hx hb d_M_count_51 (by decide) ?_
    refine lv_goto (tgt := 63) hx hb d_M_count_52 rfl ?_
    exact xr_i hx hb hrt hlk rfl hP hD hS () [0] (by decide) rfl rfl d_M_count_63
  exact absurd h5 (by omega)
set_option maxHeartbeats 4000000 in
set_option maxRecDepth 100000 in
theorem c_M_search (xM : Nat) (cd : Int32) (n : Nat) (xK : Nat) (xV : Nat) (ln : Nat) (xC : Nat) (xH : Nat) (ct : Nat) (xT : Nat) (xP : Nat) (lk : Nat) (xB : Nat) (xR : Nat) (xL : Nat) (xN : Nat) (xQ : Nat) (rp : Bool) (B : Nat → Int32) (Rk : Nat → Int32) (km : Nat → Int32) (cq : Nat → Int32) (hcq : Nat → Int32) (tq : Nat → Int32) (la_ : Nat → Int32) (nx : Nat → Int32) (mq : Nat → Int32) (mt : Nat → Nat → Nat) (hc : Nat → Bool) (le : Nat) (mo : Nat) (bu : Nat) (hn : nb n) (hln : 1 ≤ ln ∧ ln ≤ 24) (hm : ∀ kd, kd ≤ 2 → hc kd = true → gmr n ln km cq kd (mt kd)) (hhc : ∀ kd, kd ≤ 2 → hcr hcq (nI kd) = hc kd) (hzq : ∀ j, j < 3 → hcq j = nI 0 ∨ hcq j = nI 1) (hb1 : 1 ≤ le) (hb2 : le ≤ mo) (hb3 : mo ≤ 720) (hb4 : 1 ≤ bu) (hb5 : bu ≤ 2000) : CtI l y_M_search (w_M_search) ({ frames := 5, cells := 0, slots := 0, locals := 129 }) D vwCl (TYs cI cZ cJ cG) (gG tF) [.ref xM, .int (nI le), .int (nI mo), .int (nI bu)] [(xM, .inr (6, [.int cd, .int (nI n), .ref xK, .ref xV, .int (nI ln), .ref xC, .ref xH, .int (nI ct), .ref xT, .ref xP, .int (nI lk), .ref xB, .ref xR, .ref xL, .ref xN, .ref xQ, .int (nI rp.toNat)])), (xK, .inl (cI, 24, .inl km)), (xC, .inl (cI, 3, .inl cq)), (xH, .inl (cZ, 3, .inl hcq)), (xT, .inl (cI, 30, .inl tq)), (xL, .inl (cI, 31, .inl la_)), (xN, .inl (cI, 32, .inl nx)), (xQ, .inl (cI, 720, .inl mq)), (xB, .inl (cI, 4326, .inl B)), (xR, .inl (cI, 721, .inl Rk))] 0 0 (fun u : (Nat → Int32) × (Nat → Int32) × (Nat → Int32) × (Nat → Int32) × (Nat → Int32) × Bool × Nat × (Nat → Int32) => match u with | (B2, Rk2, ls2, nx2, mq2, rp2, ct2, tq2) => [(xM, .inr (6, [.int (nI 0), .int (nI n), .ref xK, .ref xV, .int (nI ln), .ref xC, .ref xH, .int (nI ct2), .ref xT, .ref xP, .int (nI ((LBA n ln mt hc le mo bu true).1)), .ref xB, .ref xR, .ref xL, .ref xN, .ref xQ, .int (nI rp2.toNat)])), (xK, .inl (cI, 24, .inl km)), (xC, .inl (cI, 3, .inl cq)), (xH, .inl (cZ, 3, .inl hcq)), (xT, .inl (cI, 30, .inl tq2)), (xL, .inl (cI, 31, .inl ls2)), (xN, .inl (cI, 32, .inl nx2)), (xQ, .inl (cI, 720, .inl mq2)), (xB, .inl (cI, 4326, .inl B2)), (xR, .inl (cI, 721, .inl Rk2))]) (fun (r : Int32) (u : (Nat → Int32) × (Nat → Int32) × (Nat → Int32) × (Nat → Int32) × (Nat → Int32) × Bool × Nat × (Nat → Int32)) => match u with | (B2, Rk2, ls2, nx2, mq2, rp2, ct2, tq2) => r = (nI (if 0 < (LBA n ln mt hc le mo bu true).2.1 then 1 else if (LBA n ln mt hc le mo bu true).2.2.1 then 2 else 0)) ∧ (0 < (LBA n ln mt hc le mo bu true).2.1 → ct2 = (LBA n ln mt hc le mo bu true).2.2.2.length ∧ ∀ a, a < ct2 → tq2 a = nI ((LBA n ln mt hc le mo bu true).2.2.2.reverse.getD a 0)) ∧ ((LBA n ln mt hc le mo bu true).2.1 = 0 → ct2 = ct ∧ tq2 = tq) ∧ ((LBA n ln mt hc le mo bu true).1 ≤ bu)) := by
  refine CtI.of (cc := b_M_search) (maxL := 5) (ret := (some .int)) (by decide) rfl (Nat.le_of_ble_eq_true rfl) ?_
  intro p e s m args below meth c A ls hF hA hP hK hD hg hS hl
  obtain ⟨hx, hb, hrt, hlk, hml, hown, hts, hnm⟩ := hF
  have hown : s.vm.findClass R_M = some m.cls := hown
  have hl : lv_has ls 5 [(0, .ref xM), (1, .int (nI le)), (2, .int (nI mo)), (3, .int (nI bu))] := hl
  obtain ⟨hl1, hl2⟩ := hln
  have hln : 1 ≤ ln ∧ ln ≤ 24 := ⟨hl1, hl2⟩
  refine lv_aload_n hx hb d_M_search_0 rfl (lv_at hl 0 rfl) ?_
  refine lv_aload_n hx hb d_M_search_1 rfl (lv_at hl 0 rfl) ?_
  refine va_get (D := D) (ci := 6) (v := .int (nI ln)) (C := R_M) (T := F_M) (N := 17) hx hb hts in_M hown hK hP 0 rfl rfl 4 (by decide) (hts _ (List.mem_cons_of_mem _ k_587)) (fun _ h9 => h9) rfl d_M_search_2 ?_
  refine xb_ne hx hb 12 (by omega) d_M_search_5 rfl (fun h5 => ?_) (fun h5 => ?_)
  · skip
    refine lv_iload_n hx hb d_M_search_12 rfl (lv_at hl 1 rfl) ?_
    refine lv_iconst (v := nI 1) hx hb d_M_search_13 (by decide) ?_
    refine xb_clt hx hb 41 (by omega) (by omega) d_M_search_14 rfl (fun h14 => ?_) (fun h14 => ?_)
    · skip
      exact absurd h14 (by omega)
    refine lv_iload_n hx hb d_M_search_17 rfl (lv_at hl 1 rfl) ?_
    refine lv_iload_n hx hb d_M_search_18 rfl (lv_at hl 2 rfl) ?_
    refine xb_cgt hx hb 41 (by omega) (by omega) d_M_search_19 rfl (fun h19 => ?_) (fun h19 => ?_)
    · skip
      exact absurd h19 (by omega)
    refine lv_iload_n hx hb d_M_search_22 rfl (lv_at hl 2 rfl) ?_
    refine lv_sipush (v := nI 720) hx hb d_M_search_23 (by decide) ?_
    refine xb_cgt hx hb 41 (by omega) (by omega) d_M_search_26 rfl (fun h26 => ?_) (fun h26 => ?_)
    · skip
      exact absurd h26 (by omega)
    refine lv_iload_n hx hb d_M_search_29 rfl (lv_at hl 3 rfl) ?_
    refine lv_iconst (v := nI 1) hx hb d_M_search_30 (by decide) ?_
    refine xb_clt hx hb 41 (by omega) (by omega) d_M_search_31 rfl (fun h31 => ?_) (fun h31 => ?_)
    · skip
      exact absurd h31 (by omega)
    refine lv_iload_n hx hb d_M_search_34 rfl (lv_at hl 3 rfl) ?_
    refine lv_sipush (v := nI 2000) hx hb d_M_search_35 (by decide) ?_
    refine xb_cle hx hb 45 (by omega) (by omega) d_M_search_38 rfl (fun h38 => ?_) (fun h38 => ?_)
    · skip
      refine lv_iconst (v := nI 0) hx hb d_M_search_45 (by decide) ?_
      refine va_put (D := D) (ci := 6) (v := .int (nI 0)) (ty := .int) (C := R_M) (T := F_M) (N := 17) hx hb hts in_M t_M t_M_ok n_M hown hK hP hD hS 0 rfl rfl 0 (by decide) (hts _ (List.mem_cons_of_mem _ k_583)) (fun _ h9 => h9) rfl (by decide +kernel) rfl rfl (Nat.le_of_ble_eq_true rfl) d_M_search_46 (fun H locs hP hD hS => ?_)
      have hP : va_P D vwCl [(xM, .inr (6, [.int (nI 0), .int (nI n), .ref xK, .ref xV, .int (nI ln), .ref xC, .ref xH, .int (nI ct), .ref xT, .ref xP, .int (nI lk), .ref xB, .ref xR, .ref xL, .ref xN, .ref xQ, .int (nI rp.toNat)])), (xK, .inl (cI, 24, .inl km)), (xC, .inl (cI, 3, .inl cq)), (xH, .inl (cZ, 3, .inl hcq)), (xT, .inl (cI, 30, .inl tq)), (xL, .inl (cI, 31, .inl la_)), (xN, .inl (cI, 32, .inl nx)), (xQ, .inl (cI, 720, .inl mq)), (xB, .inl (cI, 4326, .inl B)), (xR, .inl (cI, 721, .inl Rk))] H := hP
      have hD : va_D A [(xM, .inr (6, [.int (nI 0), .int (nI n), .ref xK, .ref xV, .int (nI ln), .ref xC, .ref xH, .int (nI ct), .ref xT, .ref xP, .int (nI lk), .ref xB, .ref xR, .ref xL, .ref xN, .ref xQ, .int (nI rp.toNat)])), (xK, .inl (cI, 24, .inl km)), (xC, .inl (cI, 3, .inl cq)), (xH, .inl (cZ, 3, .inl hcq)), (xT, .inl (cI, 30, .inl tq)), (xL, .inl (cI, 31, .inl la_)), (xN, .inl (cI, 32, .inl nx)), (xQ, .inl (cI, 720, .inl mq)), (xB, .inl (cI, 4326, .inl B)), (xR, .inl (cI, 721, .inl Rk))] := hD
      refine lv_aload_n hx hb d_M_search_49 rfl (lv_at hl 0 rfl) ?_
      refine va_get (D := D) (ci := 6) (v := .int (nI 0)) (C := R_M) (T := F_M) (N := 17) hx hb hts in_M hown hK hP 0 rfl rfl 0 (by decide) (hts _ (List.mem_cons_of_mem _ k_583)) (fun _ h9 => h9) rfl d_M_search_50 ?_
      refine xb_le hx hb 58 (by decide) d_M_search_53 rfl (fun _ => ?_) (fun h => absurd h (by decide))
      refine lv_aload_n hx hb d_M_search_58 rfl (lv_at hl 0 rfl) ?_
      refine lv_iload_n hx hb d_M_search_59 rfl (lv_at hl 1 rfl) ?_
      refine lv_iload_n hx hb d_M_search_60 rfl (lv_at hl 2 rfl) ?_
      refine lv_iload_n hx hb d_M_search_61 rfl (lv_at hl 3 rfl) ?_
      refine lv_iconst (v := nI 1) hx hb d_M_search_62 (by decide) ?_
      refine xc_i (wc := [(xM, .inr (6, [.int (nI 0), .int (nI n), .ref xK, .ref xV, .int (nI ln), .ref xC, .ref xH, .int (nI ct), .ref xT, .ref xP, .int (nI lk), .ref xB, .ref xR, .ref xL, .ref xN, .ref xQ, .int (nI rp.toNat)])), (xK, .inl (cI, 24, .inl km)), (xC, .inl (cI, 3, .inl cq)), (xH, .inl (cZ, 3, .inl hcq)), (xT, .inl (cI, 30, .inl tq)), (xL, .inl (cI, 31, .inl la_)), (xN, .inl (cI, 32, .inl nx)), (xQ, .inl (cI, 720, .inl mq)), (xB, .inl (cI, 4326, .inl B)), (xR, .inl (cI, 721, .inl Rk))]) (wr := []) (gG_ok tF) hK hP hD hS hA hg [0, 1, 2, 3, 4, 5, 6, 7, 8, 9] [] rfl rfl (by decide) (by decide) (by decide) (fun h1 h2 => va_runV (As := [.int (nI le), .int (nI mo), .int (nI bu), .int (nI true.toNat)]) (rest := []) ⟨hx, hb, hml, hown, hts⟩ (c_M_look xM (nI 0) n xK xV ln xC xH ct xT xP lk xB xR xL xN xQ rp B Rk km cq hcq tq la_ nx mq mt hc le mo bu true hn hln hb3 (by omega) hb5 hm hhc hzq _) (cwV 4 hts (gV k_748 k_750 ks_M_lookThrough k_7 k_751) rfl rfl rfl (by decide +kernel) ⟨Nat.le_of_ble_eq_true rfl, Nat.le_of_ble_eq_true rfl⟩) ⟨h1, va_recv (q0 := 0) (ci := 6) hK hP rfl rfl, h2⟩ rfl rfl hl.1 rfl (lv_room (Nat.le_of_ble_eq_true rfl)) d_M_search_63 ⟨Nat.zero_le _, Nat.zero_le _⟩) (fun r u H locs hq9 hP hD hS => ?_)
      obtain ⟨B2, Rk2, ls2, nx2, mq2, rp2, ct2, tq2⟩ := u
      obtain ⟨rfl, hw63_0, hw63_1, hw63_2, hw63_3⟩ := hq9
      have hP : va_P D vwCl [(xM, .inr (6, [.int (nI 0), .int (nI n), .ref xK, .ref xV, .int (nI ln), .ref xC, .ref xH, .int (nI ct2), .ref xT, .ref xP, .int (nI ((LBA n ln mt hc le mo bu true).1)), .ref xB, .ref xR, .ref xL, .ref xN, .ref xQ, .int (nI rp2.toNat)])), (xK, .inl (cI, 24, .inl km)), (xC, .inl (cI, 3, .inl cq)), (xH, .inl (cZ, 3, .inl hcq)), (xT, .inl (cI, 30, .inl tq2)), (xL, .inl (cI, 31, .inl ls2)), (xN, .inl (cI, 32, .inl nx2)), (xQ, .inl (cI, 720, .inl mq2)), (xB, .inl (cI, 4326, .inl B2)), (xR, .inl (cI, 721, .inl Rk2))] H := hP
      have hD : va_D A [(xM, .inr (6, [.int (nI 0), .int (nI n), .ref xK, .ref xV, .int (nI ln), .ref xC, .ref xH, .int (nI ct2), .ref xT, .ref xP, .int (nI ((LBA n ln mt hc le mo bu true).1)), .ref xB, .ref xR, .ref xL, .ref xN, .ref xQ, .int (nI rp2.toNat)])), (xK, .inl (cI, 24, .inl km)), (xC, .inl (cI, 3, .inl cq)), (xH, .inl (cZ, 3, .inl hcq)), (xT, .inl (cI, 30, .inl tq2)), (xL, .inl (cI, 31, .inl ls2)), (xN, .inl (cI, 32, .inl nx2)), (xQ, .inl (cI, 720, .inl mq2)), (xB, .inl (cI, 4326, .inl B2)), (xR, .inl (cI, 721, .inl Rk2))] := hD
      obtain ⟨hz1, hz2⟩ := hw63_3 rfl
      have hpo : ∀ r, r = (if (LBA n ln mt hc le mo bu true).2.2.1 then (-1) else nI (LBA n ln mt hc le mo bu true).2.1 : Int32) → 0 ≤ r → r = nI (if 0 < (LBA n ln mt hc le mo bu true).2.1 then 1 else if (LBA n ln mt hc le mo bu true).2.2.1 then 2 else 0) := fun r e h => srp e hz1 h
      have hpn : ¬ 0 ≤ (if (LBA n ln mt hc le mo bu true).2.2.1 then (-1) else nI (LBA n ln mt hc le mo bu true).2.1 : Int32) → nI 2 = nI (if 0 < (LBA n ln mt hc le mo bu true).2.1 then 1 else if (LBA n ln mt hc le mo bu true).2.2.1 then 2 else 0) := fun h => srn hz1 hz2 h
      refine lv_istore hx hb d_M_search_66 hl (by decide) rfl (fun ls hl => ?_)
      have hl : lv_has ls 5 [(4, .int (if (LBA n ln mt hc le mo bu true).2.2.1 then (-1) else nI (LBA n ln mt hc le mo bu true).2.1)), (0, .ref xM), (1, .int (nI le)), (2, .int (nI mo)), (3, .int (nI bu))] := hl
      refine lv_iload hx hb d_M_search_68 (lv_at hl 0 rfl) ?_
      refine lv_if_ge (tgt := 77) hx hb d_M_search_70 rfl (fun h70 => ?_) (fun h70 => ?_)
      · skip
        refine lv_iload hx hb d_M_search_77 (lv_at hl 0 rfl) ?_
        exact xr_i hx hb hrt hlk rfl hP hD hS (B2, Rk2, ls2, nx2, mq2, rp2, ct2, tq2) [0, 1, 2, 3, 4, 5, 6, 7, 8, 9] (by decide) rfl (⟨hpo _ rfl h70, hw63_0 rfl, fun h => hw63_1 (fun _ => by omega), hw63_2⟩) d_M_search_79
      refine lv_iconst (v := nI 2) hx hb d_M_search_73 (by decide) ?_
      refine lv_goto (tgt := 79) hx hb d_M_search_74 rfl ?_
      exact xr_i hx hb hrt hlk rfl hP hD hS (B2, Rk2, ls2, nx2, mq2, rp2, ct2, tq2) [0, 1, 2, 3, 4, 5, 6, 7, 8, 9] (by decide) rfl (⟨hpn h70, hw63_0 rfl, fun h => hw63_1 (fun _ => by omega), hw63_2⟩) d_M_search_79
    exact absurd h38 (by omega)
  exact absurd h5 (by omega)
set_option maxHeartbeats 4000000 in
set_option maxRecDepth 100000 in
theorem c_M_count (xM : Nat) (cd : Int32) (n : Nat) (xK : Nat) (xV : Nat) (ln : Nat) (xC : Nat) (xH : Nat) (ct : Nat) (xT : Nat) (xP : Nat) (lk : Nat) (xB : Nat) (xR : Nat) (xL : Nat) (xN : Nat) (xQ : Nat) (rp : Bool) (B : Nat → Int32) (Rk : Nat → Int32) (km : Nat → Int32) (cq : Nat → Int32) (hcq : Nat → Int32) (tq : Nat → Int32) (la_ : Nat → Int32) (nx : Nat → Int32) (mq : Nat → Int32) (mt : Nat → Nat → Nat) (hc : Nat → Bool) (le : Nat) (bu : Nat) (hn : nb n) (hln : 1 ≤ ln ∧ ln ≤ 24) (hm : ∀ kd, kd ≤ 2 → hc kd = true → gmr n ln km cq kd (mt kd)) (hhc : ∀ kd, kd ≤ 2 → hcr hcq (nI kd) = hc kd) (hzq : ∀ j, j < 3 → hcq j = nI 0 ∨ hcq j = nI 1) (hb1 : 1 ≤ le) (hb3 : le ≤ 720) (hb4 : 1 ≤ bu) (hb5 : bu ≤ 2000) : CtI l y_M_count (w_M_count) ({ frames := 5, cells := 0, slots := 0, locals := 129 }) D vwCl (TYs cI cZ cJ cG) (gG tF) [.ref xM, .int (nI le), .int (nI bu)] [(xM, .inr (6, [.int cd, .int (nI n), .ref xK, .ref xV, .int (nI ln), .ref xC, .ref xH, .int (nI ct), .ref xT, .ref xP, .int (nI lk), .ref xB, .ref xR, .ref xL, .ref xN, .ref xQ, .int (nI rp.toNat)])), (xK, .inl (cI, 24, .inl km)), (xC, .inl (cI, 3, .inl cq)), (xH, .inl (cZ, 3, .inl hcq)), (xT, .inl (cI, 30, .inl tq)), (xL, .inl (cI, 31, .inl la_)), (xN, .inl (cI, 32, .inl nx)), (xQ, .inl (cI, 720, .inl mq)), (xB, .inl (cI, 4326, .inl B)), (xR, .inl (cI, 721, .inl Rk))] 0 0 (fun u : (Nat → Int32) × (Nat → Int32) × (Nat → Int32) × (Nat → Int32) × (Nat → Int32) × Bool => match u with | (B2, Rk2, ls2, nx2, mq2, rp2) => [(xM, .inr (6, [.int (nI 0), .int (nI n), .ref xK, .ref xV, .int (nI ln), .ref xC, .ref xH, .int (nI ct), .ref xT, .ref xP, .int (nI ((LBA n ln mt hc le le bu false).1)), .ref xB, .ref xR, .ref xL, .ref xN, .ref xQ, .int (nI rp2.toNat)])), (xK, .inl (cI, 24, .inl km)), (xC, .inl (cI, 3, .inl cq)), (xH, .inl (cZ, 3, .inl hcq)), (xT, .inl (cI, 30, .inl tq)), (xL, .inl (cI, 31, .inl ls2)), (xN, .inl (cI, 32, .inl nx2)), (xQ, .inl (cI, 720, .inl mq2)), (xB, .inl (cI, 4326, .inl B2)), (xR, .inl (cI, 721, .inl Rk2))]) (fun (r : Int32) (u : (Nat → Int32) × (Nat → Int32) × (Nat → Int32) × (Nat → Int32) × (Nat → Int32) × Bool) => match u with | (B2, Rk2, ls2, nx2, mq2, rp2) => r = (if (LBA n ln mt hc le le bu false).2.2.1 then (-1) else nI (LBA n ln mt hc le le bu false).2.1) ∧ ((LBA n ln mt hc le le bu false).1 ≤ bu)) := by
  refine CtI.of (cc := b_M_count) (maxL := 3) (ret := (some .int)) (by decide) rfl (Nat.le_of_ble_eq_true rfl) ?_
  intro p e s m args below meth c A ls hF hA hP hK hD hg hS hl
  obtain ⟨hx, hb, hrt, hlk, hml, hown, hts, hnm⟩ := hF
  have hown : s.vm.findClass R_M = some m.cls := hown
  have hl : lv_has ls 3 [(0, .ref xM), (1, .int (nI le)), (2, .int (nI bu))] := hl
  obtain ⟨hl1, hl2⟩ := hln
  have hln : 1 ≤ ln ∧ ln ≤ 24 := ⟨hl1, hl2⟩
  refine lv_aload_n hx hb d_M_count_0 rfl (lv_at hl 0 rfl) ?_
  refine lv_aload_n hx hb d_M_count_1 rfl (lv_at hl 0 rfl) ?_
  refine va_get (D := D) (ci := 6) (v := .int (nI ln)) (C := R_M) (T := F_M) (N := 17) hx hb hts in_M hown hK hP 0 rfl rfl 4 (by decide) (hts _ (List.mem_cons_of_mem _ k_587)) (fun _ h9 => h9) rfl d_M_count_2 ?_
  refine xb_ne hx hb 12 (by omega) d_M_count_5 rfl (fun h5 => ?_) (fun h5 => ?_)
  · skip
    refine lv_iload_n hx hb d_M_count_12 rfl (lv_at hl 1 rfl) ?_
    refine lv_iconst (v := nI 1) hx hb d_M_count_13 (by decide) ?_
    refine xb_clt hx hb 36 (by omega) (by omega) d_M_count_14 rfl (fun h14 => ?_) (fun h14 => ?_)
    · skip
      exact absurd h14 (by omega)
    refine lv_iload_n hx hb d_M_count_17 rfl (lv_at hl 1 rfl) ?_
    refine lv_sipush (v := nI 720) hx hb d_M_count_18 (by decide) ?_
    refine xb_cgt hx hb 36 (by omega) (by omega) d_M_count_21 rfl (fun h21 => ?_) (fun h21 => ?_)
    · skip
      exact absurd h21 (by omega)
    refine lv_iload_n hx hb d_M_count_24 rfl (lv_at hl 2 rfl) ?_
    refine lv_iconst (v := nI 1) hx hb d_M_count_25 (by decide) ?_
    refine xb_clt hx hb 36 (by omega) (by omega) d_M_count_26 rfl (fun h26 => ?_) (fun h26 => ?_)
    · skip
      exact absurd h26 (by omega)
    refine lv_iload_n hx hb d_M_count_29 rfl (lv_at hl 2 rfl) ?_
    refine lv_sipush (v := nI 2000) hx hb d_M_count_30 (by decide) ?_
    refine xb_cle hx hb 40 (by omega) (by omega) d_M_count_33 rfl (fun h33 => ?_) (fun h33 => ?_)
    · skip
      refine lv_iconst (v := nI 0) hx hb d_M_count_40 (by decide) ?_
      refine va_put (D := D) (ci := 6) (v := .int (nI 0)) (ty := .int) (C := R_M) (T := F_M) (N := 17) hx hb hts in_M t_M t_M_ok n_M hown hK hP hD hS 0 rfl rfl 0 (by decide) (hts _ (List.mem_cons_of_mem _ k_583)) (fun _ h9 => h9) rfl (by decide +kernel) rfl rfl (Nat.le_of_ble_eq_true rfl) d_M_count_41 (fun H locs hP hD hS => ?_)
      have hP : va_P D vwCl [(xM, .inr (6, [.int (nI 0), .int (nI n), .ref xK, .ref xV, .int (nI ln), .ref xC, .ref xH, .int (nI ct), .ref xT, .ref xP, .int (nI lk), .ref xB, .ref xR, .ref xL, .ref xN, .ref xQ, .int (nI rp.toNat)])), (xK, .inl (cI, 24, .inl km)), (xC, .inl (cI, 3, .inl cq)), (xH, .inl (cZ, 3, .inl hcq)), (xT, .inl (cI, 30, .inl tq)), (xL, .inl (cI, 31, .inl la_)), (xN, .inl (cI, 32, .inl nx)), (xQ, .inl (cI, 720, .inl mq)), (xB, .inl (cI, 4326, .inl B)), (xR, .inl (cI, 721, .inl Rk))] H := hP
      have hD : va_D A [(xM, .inr (6, [.int (nI 0), .int (nI n), .ref xK, .ref xV, .int (nI ln), .ref xC, .ref xH, .int (nI ct), .ref xT, .ref xP, .int (nI lk), .ref xB, .ref xR, .ref xL, .ref xN, .ref xQ, .int (nI rp.toNat)])), (xK, .inl (cI, 24, .inl km)), (xC, .inl (cI, 3, .inl cq)), (xH, .inl (cZ, 3, .inl hcq)), (xT, .inl (cI, 30, .inl tq)), (xL, .inl (cI, 31, .inl la_)), (xN, .inl (cI, 32, .inl nx)), (xQ, .inl (cI, 720, .inl mq)), (xB, .inl (cI, 4326, .inl B)), (xR, .inl (cI, 721, .inl Rk))] := hD
      refine lv_aload_n hx hb d_M_count_44 rfl (lv_at hl 0 rfl) ?_
      refine va_get (D := D) (ci := 6) (v := .int (nI 0)) (C := R_M) (T := F_M) (N := 17) hx hb hts in_M hown hK hP 0 rfl rfl 0 (by decide) (hts _ (List.mem_cons_of_mem _ k_583)) (fun _ h9 => h9) rfl d_M_count_45 ?_
      refine xb_le hx hb 55 (by decide) d_M_count_48 rfl (fun _ => ?_) (fun h => absurd h (by decide))
      refine lv_aload_n hx hb d_M_count_55 rfl (lv_at hl 0 rfl) ?_
      refine lv_iload_n hx hb d_M_count_56 rfl (lv_at hl 1 rfl) ?_
      refine lv_iload_n hx hb d_M_count_57 rfl (lv_at hl 1 rfl) ?_
      refine lv_iload_n hx hb d_M_count_58 rfl (lv_at hl 2 rfl) ?_
      refine lv_iconst (v := nI 0) hx hb d_M_count_59 (by decide) ?_
      refine xc_i (wc := [(xM, .inr (6, [.int (nI 0), .int (nI n), .ref xK, .ref xV, .int (nI ln), .ref xC, .ref xH, .int (nI ct), .ref xT, .ref xP, .int (nI lk), .ref xB, .ref xR, .ref xL, .ref xN, .ref xQ, .int (nI rp.toNat)])), (xK, .inl (cI, 24, .inl km)), (xC, .inl (cI, 3, .inl cq)), (xH, .inl (cZ, 3, .inl hcq)), (xT, .inl (cI, 30, .inl tq)), (xL, .inl (cI, 31, .inl la_)), (xN, .inl (cI, 32, .inl nx)), (xQ, .inl (cI, 720, .inl mq)), (xB, .inl (cI, 4326, .inl B)), (xR, .inl (cI, 721, .inl Rk))]) (wr := []) (gG_ok tF) hK hP hD hS hA hg [0, 1, 2, 3, 4, 5, 6, 7, 8, 9] [] rfl rfl (by decide) (by decide) (by decide) (fun h1 h2 => va_runV (As := [.int (nI le), .int (nI le), .int (nI bu), .int (nI false.toNat)]) (rest := []) ⟨hx, hb, hml, hown, hts⟩ (c_M_look xM (nI 0) n xK xV ln xC xH ct xT xP lk xB xR xL xN xQ rp B Rk km cq hcq tq la_ nx mq mt hc le le bu false hn hln hb3 hb3 hb5 hm hhc hzq _) (cwV 4 hts (gV k_748 k_750 ks_M_lookThrough k_7 k_751) rfl rfl rfl (by decide +kernel) ⟨Nat.le_of_ble_eq_true rfl, Nat.le_of_ble_eq_true rfl⟩) ⟨h1, va_recv (q0 := 0) (ci := 6) hK hP rfl rfl, h2⟩ rfl rfl hl.1 rfl (lv_room (Nat.le_of_ble_eq_true rfl)) d_M_count_60 ⟨Nat.zero_le _, Nat.zero_le _⟩) (fun r u H locs hq9 hP hD hS => ?_)
      obtain ⟨B2, Rk2, ls2, nx2, mq2, rp2, ct2, tq2⟩ := u
      obtain ⟨rfl, hw60_0, hw60_1, hw60_2, hw60_3⟩ := hq9
      have hP : va_P D vwCl [(xM, .inr (6, [.int (nI 0), .int (nI n), .ref xK, .ref xV, .int (nI ln), .ref xC, .ref xH, .int (nI ct2), .ref xT, .ref xP, .int (nI ((LBA n ln mt hc le le bu false).1)), .ref xB, .ref xR, .ref xL, .ref xN, .ref xQ, .int (nI rp2.toNat)])), (xK, .inl (cI, 24, .inl km)), (xC, .inl (cI, 3, .inl cq)), (xH, .inl (cZ, 3, .inl hcq)), (xT, .inl (cI, 30, .inl tq2)), (xL, .inl (cI, 31, .inl ls2)), (xN, .inl (cI, 32, .inl nx2)), (xQ, .inl (cI, 720, .inl mq2)), (xB, .inl (cI, 4326, .inl B2)), (xR, .inl (cI, 721, .inl Rk2))] H := hP
      have hD : va_D A [(xM, .inr (6, [.int (nI 0), .int (nI n), .ref xK, .ref xV, .int (nI ln), .ref xC, .ref xH, .int (nI ct2), .ref xT, .ref xP, .int (nI ((LBA n ln mt hc le le bu false).1)), .ref xB, .ref xR, .ref xL, .ref xN, .ref xQ, .int (nI rp2.toNat)])), (xK, .inl (cI, 24, .inl km)), (xC, .inl (cI, 3, .inl cq)), (xH, .inl (cZ, 3, .inl hcq)), (xT, .inl (cI, 30, .inl tq2)), (xL, .inl (cI, 31, .inl ls2)), (xN, .inl (cI, 32, .inl nx2)), (xQ, .inl (cI, 720, .inl mq2)), (xB, .inl (cI, 4326, .inl B2)), (xR, .inl (cI, 721, .inl Rk2))] := hD
      obtain ⟨hq1, hq2⟩ := hw60_1 (fun h => by cases h)
      exact xr_i hx hb hrt hlk rfl hP hD hS (B2, Rk2, ls2, nx2, mq2, rp2) [0, 1, 2, 3, 4, 5, 6, 7, 8, 9] (by decide) (by rw [hq1, hq2] <;> rfl) (⟨rfl, hw60_2⟩) d_M_count_63
    exact absurd h33 (by omega)
  exact absurd h5 (by omega)
end
