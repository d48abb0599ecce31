section
variable {l : Launch} {D : va_G} {cI cZ cJ cG : ClassId} {tF : Nat}
set_option maxHeartbeats 4000000 in
set_option maxRecDepth 100000 in
theorem c_M_thrown (xM : Nat) (cd : Int32) (n : Nat) (xK : Nat) (xV : Nat) (ln : Nat) (xC : Nat) (xH : Nat) (ct : Nat) (xT : Nat) (xP : Nat) (lk : Nat) (xB : Nat) (xR : Nat) (xL : Nat) (xN : Nat) (xQ : Nat) (rp : Bool)  : CtI l y_M_thrown (w_M_thrown) ({ frames := 0, cells := 0, slots := 0, locals := 0 }) D vwCl (TYs cI cZ cJ cG) (gG tF) [.ref xM] [(xM, .inr (6, [.int cd, .int (nI n), .ref xK, .ref xV, .int (nI ln), .ref xC, .ref xH, .int (nI ct), .ref xT, .ref xP, .int (nI lk), .ref xB, .ref xR, .ref xL, .ref xN, .ref xQ, .int (nI rp.toNat)]))] 0 0 (fun _ : Unit => [(xM, .inr (6, [.int cd, .int (nI n), .ref xK, .ref xV, .int (nI ln), .ref xC, .ref xH, .int (nI ct), .ref xT, .ref xP, .int (nI lk), .ref xB, .ref xR, .ref xL, .ref xN, .ref xQ, .int (nI rp.toNat)]))]) (fun (r : Int32) (_ : Unit) => r = cd) := by
  refine CtI.of (cc := b_M_thrown) (maxL := 1) (ret := (some .int)) (by decide) rfl (Nat.le_of_ble_eq_true rfl) ?_
  intro p e s m args below meth c A ls hF hA hP hK hD hg hS hl
  obtain ⟨hx, hb, hrt, hlk, hml, hown, hts, hnm⟩ := hF
  have hown : s.vm.findClass R_M = some m.cls := hown
  have hl : lv_has ls 1 [(0, .ref xM)] := hl
  refine lv_aload_n hx hb d_M_thrown_0 rfl (lv_at hl 0 rfl) ?_
  refine va_get (D := D) (ci := 6) (v := .int cd) (C := R_M) (T := F_M) (N := 17) hx hb hts in_M hown hK hP 0 rfl rfl 0 (by decide) (hts _ (List.mem_cons_of_mem _ k_583)) (fun _ h9 => h9) rfl d_M_thrown_1 ?_
  exact xr_i hx hb hrt hlk rfl hP hD hS () [0] (by decide) rfl rfl d_M_thrown_4
set_option maxHeartbeats 4000000 in
set_option maxRecDepth 100000 in
theorem c_M_bells_no (xM : Nat) (cd : Int32) (n : Nat) (xK : Nat) (xV : Nat) (ln : Nat) (xC : Nat) (xH : Nat) (ct : Nat) (xT : Nat) (xP : Nat) (lk : Nat) (xB : Nat) (xR : Nat) (xL : Nat) (xN : Nat) (xQ : Nat) (rp : Bool) (x : Int32) (hno : okb x = false) : CtI l y_M_bells (w_M_bells) ({ frames := 0, cells := 0, slots := 0, locals := 0 }) D vwCl (TYs cI cZ cJ cG) (gG tF) [.ref xM, .int x] [(xM, .inr (6, [.int cd, .int (nI n), .ref xK, .ref xV, .int (nI ln), .ref xC, .ref xH, .int (nI ct), .ref xT, .ref xP, .int (nI lk), .ref xB, .ref xR, .ref xL, .ref xN, .ref xQ, .int (nI rp.toNat)]))] 0 0 (fun _ : Unit => [(xM, .inr (6, [.int (nI 0), .int (nI n), .ref xK, .ref xV, .int (nI ln), .ref xC, .ref xH, .int (nI ct), .ref xT, .ref xP, .int (nI lk), .ref xB, .ref xR, .ref xL, .ref xN, .ref xQ, .int (nI rp.toNat)]))]) (fun (r : Int32) (_ : Unit) => r = nI 0) := by
  refine CtI.of (cc := b_M_bells) (maxL := 3) (ret := (some .boolean)) (by decide) rfl (Nat.le_of_ble_eq_true rfl) ?_
  intro p e s m args below meth c A ls hF hA hP hK hD hg hS hl
  obtain ⟨hx, hb, hrt, hlk, hml, hown, hts, hnm⟩ := hF
  have hown : s.vm.findClass R_M = some m.cls := hown
  have hl : lv_has ls 3 [(0, .ref xM), (1, .int x)] := hl
  refine lv_aload_n hx hb d_M_bells_0 rfl (lv_at hl 0 rfl) ?_
  refine lv_iconst (v := nI 0) hx hb d_M_bells_1 (by decide) ?_
  refine va_put (D := D) (ci := 6) (v := .int (nI 0)) (ty := .int) (C := R_M) (T := F_M) (N := 17) hx hb hts in_M t_M t_M_ok n_M hown hK hP hD hS 0 rfl rfl 0 (by decide) (hts _ (List.mem_cons_of_mem _ k_583)) (fun _ h9 => h9) rfl (by decide +kernel) rfl rfl (Nat.le_of_ble_eq_true rfl) d_M_bells_2 (fun H locs hP hD hS => ?_)
  have hP : va_P D vwCl [(xM, .inr (6, [.int (nI 0), .int (nI n), .ref xK, .ref xV, .int (nI ln), .ref xC, .ref xH, .int (nI ct), .ref xT, .ref xP, .int (nI lk), .ref xB, .ref xR, .ref xL, .ref xN, .ref xQ, .int (nI rp.toNat)]))] H := hP
  have hD : va_D A [(xM, .inr (6, [.int (nI 0), .int (nI n), .ref xK, .ref xV, .int (nI ln), .ref xC, .ref xH, .int (nI ct), .ref xT, .ref xP, .int (nI lk), .ref xB, .ref xR, .ref xL, .ref xN, .ref xQ, .int (nI rp.toNat)]))] := hD
  refine lv_iload_n hx hb d_M_bells_5 rfl (lv_at hl 1 rfl) ?_
  refine lv_iconst (v := nI 4) hx hb d_M_bells_6 (by decide) ?_
  refine lv_icmp_lt (tgt := 16) hx hb d_M_bells_7 rfl (fun h7 => ?_) (fun h7 => ?_)
  · skip
    refine lv_iconst (v := nI 0) hx hb d_M_bells_16 (by decide) ?_
    exact xr_i hx hb hrt hlk rfl hP hD hS () [0] (by decide) rfl rfl d_M_bells_17
  refine lv_iload_n hx hb d_M_bells_10 rfl (lv_at hl 1 rfl) ?_
  refine lv_bipush (v := nI 6) hx hb d_M_bells_11 (by decide) ?_
  refine lv_icmp_le (tgt := 18) hx hb d_M_bells_13 rfl (fun h13 => ?_) (fun h13 => ?_)
  · skip
    exact absurd hno (by unfold okb; rw [if_neg h7, if_neg (Int32.not_lt.mpr h13)]; decide)
  refine lv_iconst (v := nI 0) hx hb d_M_bells_16 (by decide) ?_
  exact xr_i hx hb hrt hlk rfl hP hD hS () [0] (by decide) rfl rfl d_M_bells_17
set_option maxHeartbeats 4000000 in
set_option maxRecDepth 100000 in
theorem c_M_bells (xM : Nat) (cd : Int32) (n : Nat) (xK : Nat) (xV : Nat) (ln : Nat) (xC : Nat) (xH : Nat) (ct : Nat) (xT : Nat) (xP : Nat) (lk : Nat) (xB : Nat) (xR : Nat) (xL : Nat) (xN : Nat) (xQ : Nat) (rp : Bool) (gv : Nat → Int32) (pq : Nat → Int32) (hc : Nat → Int32) (n2 : Nat) (hn2 : nb n2) : CtI l y_M_bells (w_M_bells) ({ frames := 0, cells := 0, slots := 0, locals := 0 }) D vwCl (TYs cI cZ cJ cG) (gG tF) [.ref xM, .int (nI n2)] [(xM, .inr (6, [.int cd, .int (nI n), .ref xK, .ref xV, .int (nI ln), .ref xC, .ref xH, .int (nI ct), .ref xT, .ref xP, .int (nI lk), .ref xB, .ref xR, .ref xL, .ref xN, .ref xQ, .int (nI rp.toNat)])), (xV, .inl (cZ, 24, .inl gv)), (xP, .inl (cI, 24, .inl pq)), (xH, .inl (cZ, 3, .inl hc))] 0 0 (fun u : (Nat → Int32) × (Nat → Int32) × (Nat → Int32) => match u with | (gv2, pq2, hc2) => [(xM, .inr (6, [.int (nI 0), .int (nI n2), .ref xK, .ref xV, .int (nI 0), .ref xC, .ref xH, .int (nI 0), .ref xT, .ref xP, .int (nI 0), .ref xB, .ref xR, .ref xL, .ref xN, .ref xQ, .int (nI rp.toNat)])), (xV, .inl (cZ, 24, .inl gv2)), (xP, .inl (cI, 24, .inl pq2)), (xH, .inl (cZ, 3, .inl hc2))]) (fun (r : Int32) (u : (Nat → Int32) × (Nat → Int32) × (Nat → Int32)) => match u with | (gv2, pq2, hc2) => r = nI 1 ∧ (∀ j, j < 24 → gv2 j = nI 0) ∧ (∀ j, j < 24 → pq2 j = nI 0) ∧ (∀ j, j < 3 → hc2 j = nI 0)) := by
  refine CtI.of (cc := b_M_bells) (maxL := 3) (ret := (some .boolean)) (by decide) rfl (Nat.le_of_ble_eq_true rfl) ?_
  intro p e s m args below meth c A ls hF hA hP hK hD hg hS hl
  obtain ⟨hx, hb, hrt, hlk, hml, hown, hts, hnm⟩ := hF
  have hown : s.vm.findClass R_M = some m.cls := hown
  have hl : lv_has ls 3 [(0, .ref xM), (1, .int (nI n2))] := hl
  have hn4 : 4 ≤ n2 := hn2.1
  have hn6 : n2 ≤ 6 := hn2.2
  refine lv_aload_n hx hb d_M_bells_0 rfl (lv_at hl 0 rfl) ?_
  refine lv_iconst (v := nI 0) hx hb d_M_bells_1 (by decide) ?_
  refine va_put (D := D) (ci := 6) (v := .int (nI 0)) (ty := .int) (C := R_M) (T := F_M) (N := 17) hx hb hts in_M t_M t_M_ok n_M hown hK hP hD hS 0 rfl rfl 0 (by decide) (hts _ (List.mem_cons_of_mem _ k_583)) (fun _ h9 => h9) rfl (by decide +kernel) rfl rfl (Nat.le_of_ble_eq_true rfl) d_M_bells_2 (fun H locs hP hD hS => ?_)
  have hP : va_P D vwCl [(xM, .inr (6, [.int (nI 0), .int (nI n), .ref xK, .ref xV, .int (nI ln), .ref xC, .ref xH, .int (nI ct), .ref xT, .ref xP, .int (nI lk), .ref xB, .ref xR, .ref xL, .ref xN, .ref xQ, .int (nI rp.toNat)])), (xV, .inl (cZ, 24, .inl gv)), (xP, .inl (cI, 24, .inl pq)), (xH, .inl (cZ, 3, .inl hc))] H := hP
  have hD : va_D A [(xM, .inr (6, [.int (nI 0), .int (nI n), .ref xK, .ref xV, .int (nI ln), .ref xC, .ref xH, .int (nI ct), .ref xT, .ref xP, .int (nI lk), .ref xB, .ref xR, .ref xL, .ref xN, .ref xQ, .int (nI rp.toNat)])), (xV, .inl (cZ, 24, .inl gv)), (xP, .inl (cI, 24, .inl pq)), (xH, .inl (cZ, 3, .inl hc))] := hD
  refine lv_iload_n hx hb d_M_bells_5 rfl (lv_at hl 1 rfl) ?_
  refine lv_iconst (v := nI 4) hx hb d_M_bells_6 (by decide) ?_
  refine xb_clt hx hb 16 (by omega) (by omega) d_M_bells_7 rfl (fun h7 => ?_) (fun h7 => ?_)
  · skip
    exact absurd h7 (by omega)
  refine lv_iload_n hx hb d_M_bells_10 rfl (lv_at hl 1 rfl) ?_
  refine lv_bipush (v := nI 6) hx hb d_M_bells_11 (by decide) ?_
  refine xb_cle hx hb 18 (by omega) (by omega) d_M_bells_13 rfl (fun h13 => ?_) (fun h13 => ?_)
  · skip
    refine lv_aload_n hx hb d_M_bells_18 rfl (lv_at hl 0 rfl) ?_
    refine lv_iload_n hx hb d_M_bells_19 rfl (lv_at hl 1 rfl) ?_
    refine va_put (D := D) (ci := 6) (v := .int (nI n2)) (ty := .int) (C := R_M) (T := F_M) (N := 17) hx hb hts in_M t_M t_M_ok n_M hown hK hP hD hS 0 rfl rfl 1 (by decide) (hts _ (List.mem_cons_of_mem _ k_584)) (fun _ h9 => h9) rfl (by decide +kernel) rfl rfl (Nat.le_of_ble_eq_true rfl) d_M_bells_20 (fun H locs hP hD hS => ?_)
    have hP : va_P D vwCl [(xM, .inr (6, [.int (nI 0), .int (nI n2), .ref xK, .ref xV, .int (nI ln), .ref xC, .ref xH, .int (nI ct), .ref xT, .ref xP, .int (nI lk), .ref xB, .ref xR, .ref xL, .ref xN, .ref xQ, .int (nI rp.toNat)])), (xV, .inl (cZ, 24, .inl gv)), (xP, .inl (cI, 24, .inl pq)), (xH, .inl (cZ, 3, .inl hc))] H := hP
    have hD : va_D A [(xM, .inr (6, [.int (nI 0), .int (nI n2), .ref xK, .ref xV, .int (nI ln), .ref xC, .ref xH, .int (nI ct), .ref xT, .ref xP, .int (nI lk), .ref xB, .ref xR, .ref xL, .ref xN, .ref xQ, .int (nI rp.toNat)])), (xV, .inl (cZ, 24, .inl gv)), (xP, .inl (cI, 24, .inl pq)), (xH, .inl (cZ, 3, .inl hc))] := hD
    refine lv_aload_n hx hb d_M_bells_23 rfl (lv_at hl 0 rfl) ?_
    refine lv_iconst (v := nI 0) hx hb d_M_bells_24 (by decide) ?_
    refine va_put (D := D) (ci := 6) (v := .int (nI 0)) (ty := .int) (C := R_M) (T := F_M) (N := 17) hx hb hts in_M t_M t_M_ok n_M hown hK hP hD hS 0 rfl rfl 4 (by decide) (hts _ (List.mem_cons_of_mem _ k_587)) (fun _ h9 => h9) rfl (by decide +kernel) rfl rfl (Nat.le_of_ble_eq_true rfl) d_M_bells_25 (fun H locs hP hD hS => ?_)
    have hP : va_P D vwCl [(xM, .inr (6, [.int (nI 0), .int (nI n2), .ref xK, .ref xV, .int (nI 0), .ref xC, .ref xH, .int (nI ct), .ref xT, .ref xP, .int (nI lk), .ref xB, .ref xR, .ref xL, .ref xN, .ref xQ, .int (nI rp.toNat)])), (xV, .inl (cZ, 24, .inl gv)), (xP, .inl (cI, 24, .inl pq)), (xH, .inl (cZ, 3, .inl hc))] H := hP
    have hD : va_D A [(xM, .inr (6, [.int (nI 0), .int (nI n2), .ref xK, .ref xV, .int (nI 0), .ref xC, .ref xH, .int (nI ct), .ref xT, .ref xP, .int (nI lk), .ref xB, .ref xR, .ref xL, .ref xN, .ref xQ, .int (nI rp.toNat)])), (xV, .inl (cZ, 24, .inl gv)), (xP, .inl (cI, 24, .inl pq)), (xH, .inl (cZ, 3, .inl hc))] := hD
    refine lv_aload_n hx hb d_M_bells_28 rfl (lv_at hl 0 rfl) ?_
    refine lv_iconst (v := nI 0) hx hb d_M_bells_29 (by decide) ?_
    refine va_put (D := D) (ci := 6) (v := .int (nI 0)) (ty := .int) (C := R_M) (T := F_M) (N := 17) hx hb hts in_M t_M t_M_ok n_M hown hK hP hD hS 0 rfl rfl 7 (by decide) (hts _ (List.mem_cons_of_mem _ k_590)) (fun _ h9 => h9) rfl (by decide +kernel) rfl rfl (Nat.le_of_ble_eq_true rfl) d_M_bells_30 (fun H locs hP hD hS => ?_)
    have hP : va_P D vwCl [(xM, .inr (6, [.int (nI 0), .int (nI n2), .ref xK, .ref xV, .int (nI 0), .ref xC, .ref xH, .int (nI 0), .ref xT, .ref xP, .int (nI lk), .ref xB, .ref xR, .ref xL, .ref xN, .ref xQ, .int (nI rp.toNat)])), (xV, .inl (cZ, 24, .inl gv)), (xP, .inl (cI, 24, .inl pq)), (xH, .inl (cZ, 3, .inl hc))] H := hP
    have hD : va_D A [(xM, .inr (6, [.int (nI 0), .int (nI n2), .ref xK, .ref xV, .int (nI 0), .ref xC, .ref xH, .int (nI 0), .ref xT, .ref xP, .int (nI lk), .ref xB, .ref xR, .ref xL, .ref xN, .ref xQ, .int (nI rp.toNat)])), (xV, .inl (cZ, 24, .inl gv)), (xP, .inl (cI, 24, .inl pq)), (xH, .inl (cZ, 3, .inl hc))] := hD
    refine lv_aload_n hx hb d_M_bells_33 rfl (lv_at hl 0 rfl) ?_
    refine lv_iconst (v := nI 0) hx hb d_M_bells_34 (by decide) ?_
    refine va_put (D := D) (ci := 6) (v := .int (nI 0)) (ty := .int) (C := R_M) (T := F_M) (N := 17) hx hb hts in_M t_M t_M_ok n_M hown hK hP hD hS 0 rfl rfl 10 (by decide) (hts _ (List.mem_cons_of_mem _ k_593)) (fun _ h9 => h9) rfl (by decide +kernel) rfl rfl (Nat.le_of_ble_eq_true rfl) d_M_bells_35 (fun H locs hP hD hS => ?_)
    have hP : va_P D vwCl [(xM, .inr (6, [.int (nI 0), .int (nI n2), .ref xK, .ref xV, .int (nI 0), .ref xC, .ref xH, .int (nI 0), .ref xT, .ref xP, .int (nI 0), .ref xB, .ref xR, .ref xL, .ref xN, .ref xQ, .int (nI rp.toNat)])), (xV, .inl (cZ, 24, .inl gv)), (xP, .inl (cI, 24, .inl pq)), (xH, .inl (cZ, 3, .inl hc))] H := hP
    have hD : va_D A [(xM, .inr (6, [.int (nI 0), .int (nI n2), .ref xK, .ref xV, .int (nI 0), .ref xC, .ref xH, .int (nI 0), .ref xT, .ref xP, .int (nI 0), .ref xB, .ref xR, .ref xL, .ref xN, .ref xQ, .int (nI rp.toNat)])), (xV, .inl (cZ, 24, .inl gv)), (xP, .inl (cI, 24, .inl pq)), (xH, .inl (cZ, 3, .inl hc))] := hD
    refine lv_iconst (v := nI 0) hx hb d_M_bells_38 (by decide) ?_
    refine lv_istore_n hx hb d_M_bells_39 rfl hl (by decide) rfl (fun ls hl => ?_)
    have hl : lv_has ls 3 [(2, .int (nI 0)), (0, .ref xM), (1, .int (nI n2))] := hl
    have hl : lv_has ls 3 [(0, .ref xM), (1, .int (nI n2)), (2, .int (nI 0))] := lv_sub hl [1, 2, 0] rfl
    have hP := hP.sub (ws' := [(xM, .inr (6, [.int (nI 0), .int (nI n2), .ref xK, .ref xV, .int (nI 0), .ref xC, .ref xH, .int (nI 0), .ref xT, .ref xP, .int (nI 0), .ref xB, .ref xR, .ref xL, .ref xN, .ref xQ, .int (nI rp.toNat)])), (xV, .inl (cZ, 24, .inl gv)), (xP, .inl (cI, 24, .inl pq)), (xH, .inl (cZ, 3, .inl hc))]) [0, 1, 2, 3] rfl
    have hD := hD.sub (ws' := [(xM, .inr (6, [.int (nI 0), .int (nI n2), .ref xK, .ref xV, .int (nI 0), .ref xC, .ref xH, .int (nI 0), .ref xT, .ref xP, .int (nI 0), .ref xB, .ref xR, .ref xL, .ref xN, .ref xQ, .int (nI rp.toNat)])), (xV, .inl (cZ, 24, .inl gv)), (xP, .inl (cI, 24, .inl pq)), (xH, .inl (cZ, 3, .inl hc))]) [0, 1, 2, 3] (by decide) rfl
    refine xn_pc (pc2 := 40) rfl ?_
    refine xl_3 (fun (i : Nat) (gv2 : Nat → Int32) (pq2 : Nat → Int32) ls H locs => (i ≤ 24) ∧ (∀ j, j < i → gv2 j = nI 0) ∧ (∀ j, j < i → pq2 j = nI 0) ∧ lv_has ls 3 [(0, .ref xM), (1, .int (nI n2)), (2, .int (nI i))] ∧ va_P D vwCl [(xM, .inr (6, [.int (nI 0), .int (nI n2), .ref xK, .ref xV, .int (nI 0), .ref xC, .ref xH, .int (nI 0), .ref xT, .ref xP, .int (nI 0), .ref xB, .ref xR, .ref xL, .ref xN, .ref xQ, .int (nI rp.toNat)])), (xV, .inl (cZ, 24, .inl gv2)), (xP, .inl (cI, 24, .inl pq2)), (xH, .inl (cZ, 3, .inl hc))] H ∧ va_D A [(xM, .inr (6, [.int (nI 0), .int (nI n2), .ref xK, .ref xV, .int (nI 0), .ref xC, .ref xH, .int (nI 0), .ref xT, .ref xP, .int (nI 0), .ref xB, .ref xR, .ref xL, .ref xN, .ref xQ, .int (nI rp.toNat)])), (xV, .inl (cZ, 24, .inl gv2)), (xP, .inl (cI, 24, .inl pq2)), (xH, .inl (cZ, 3, .inl hc))] ∧ va_S A s.heap H locs) (fun (i : Nat) (gv2 : Nat → Int32) (pq2 : Nat → Int32) => 24 - i) (fun i gv2 pq2 ls H locs hI ih => ?_) 0 gv pq ⟨Nat.zero_le 24, fun j hj => absurd hj (Nat.not_lt_zero j), fun j hj => absurd hj (Nat.not_lt_zero j), hl, hP, hD, hS⟩
    obtain ⟨hi1, hi2, hi3, hl, hP, hD, hS⟩ := hI
    refine lv_iload_n hx hb d_M_bells_40 rfl (lv_at hl 2 rfl) ?_
    refine lv_bipush (v := nI 24) hx hb d_M_bells_41 (by decide) ?_
    refine xb_cge hx hb 66 (by omega) (by omega) d_M_bells_43 rfl (fun h43 => ?_) (fun h43 => ?_)
    · skip
      refine lv_iconst (v := nI 0) hx hb d_M_bells_66 (by decide) ?_
      refine lv_istore_n hx hb d_M_bells_67 rfl hl (by decide) rfl (fun ls hl => ?_)
      have hl : lv_has ls 3 [(2, .int (nI 0)), (0, .ref xM), (1, .int (nI n2))] := hl
      have hl : lv_has ls 3 [(0, .ref xM), (1, .int (nI n2)), (2, .int (nI 0))] := lv_sub hl [1, 2, 0] rfl
      have hP := hP.sub (ws' := [(xM, .inr (6, [.int (nI 0), .int (nI n2), .ref xK, .ref xV, .int (nI 0), .ref xC, .ref xH, .int (nI 0), .ref xT, .ref xP, .int (nI 0), .ref xB, .ref xR, .ref xL, .ref xN, .ref xQ, .int (nI rp.toNat)])), (xV, .inl (cZ, 24, .inl gv2)), (xP, .inl (cI, 24, .inl pq2)), (xH, .inl (cZ, 3, .inl hc))]) [0, 1, 2, 3] rfl
      have hD := hD.sub (ws' := [(xM, .inr (6, [.int (nI 0), .int (nI n2), .ref xK, .ref xV, .int (nI 0), .ref xC, .ref xH, .int (nI 0), .ref xT, .ref xP, .int (nI 0), .ref xB, .ref xR, .ref xL, .ref xN, .ref xQ, .int (nI rp.toNat)])), (xV, .inl (cZ, 24, .inl gv2)), (xP, .inl (cI, 24, .inl pq2)), (xH, .inl (cZ, 3, .inl hc))]) [0, 1, 2, 3] (by decide) rfl
      refine xn_pc (pc2 := 68) rfl ?_
      refine xl_2 (fun (k : Nat) (hc2 : Nat → Int32) ls H locs => (k ≤ 3) ∧ (∀ j, j < k → hc2 j = nI 0) ∧ lv_has ls 3 [(0, .ref xM), (1, .int (nI n2)), (2, .int (nI k))] ∧ va_P D vwCl [(xM, .inr (6, [.int (nI 0), .int (nI n2), .ref xK, .ref xV, .int (nI 0), .ref xC, .ref xH, .int (nI 0), .ref xT, .ref xP, .int (nI 0), .ref xB, .ref xR, .ref xL, .ref xN, .ref xQ, .int (nI rp.toNat)])), (xV, .inl (cZ, 24, .inl gv2)), (xP, .inl (cI, 24, .inl pq2)), (xH, .inl (cZ, 3, .inl hc2))] H ∧ va_D A [(xM, .inr (6, [.int (nI 0), .int (nI n2), .ref xK, .ref xV, .int (nI 0), .ref xC, .ref xH, .int (nI 0), .ref xT, .ref xP, .int (nI 0), .ref xB, .ref xR, .ref xL, .ref xN, .ref xQ, .int (nI rp.toNat)])), (xV, .inl (cZ, 24, .inl gv2)), (xP, .inl (cI, 24, .inl pq2)), (xH, .inl (cZ, 3, .inl hc2))] ∧ va_S A s.heap H locs) (fun (k : Nat) (hc2 : Nat → Int32) => 3 - k) (fun k hc2 ls H locs hI ih1 => ?_) 0 hc ⟨Nat.zero_le 3, fun j hj => absurd hj (Nat.not_lt_zero j), hl, hP, hD, hS⟩
      obtain ⟨hj1, hj2, hl, hP, hD, hS⟩ := hI
      refine lv_iload_n hx hb d_M_bells_68 rfl (lv_at hl 2 rfl) ?_
      refine lv_iconst (v := nI 3) hx hb d_M_bells_69 (by decide) ?_
      refine xb_cge hx hb 86 (by omega) (by omega) d_M_bells_70 rfl (fun h70 => ?_) (fun h70 => ?_)
      · skip
        refine lv_iconst (v := nI 1) hx hb d_M_bells_86 (by decide) ?_
        exact xr_i hx hb hrt hlk rfl hP hD hS (gv2, pq2, hc2) [0, 1, 2, 3] (by decide) rfl (⟨rfl, fun j hj => hi2 j (by omega), fun j hj => hi3 j (by omega), fun j hj => hj2 j (by omega)⟩) d_M_bells_87
      refine lv_aload_n hx hb d_M_bells_73 rfl (lv_at hl 0 rfl) ?_
      refine va_get (D := D) (ci := 6) (v := .ref xH) (C := R_M) (T := F_M) (N := 17) hx hb hts in_M hown hK hP 0 rfl rfl 6 (by decide) (hts _ (List.mem_cons_of_mem _ k_589)) (fun _ h9 => h9) rfl d_M_bells_74 ?_
      refine lv_iload_n hx hb d_M_bells_77 rfl (lv_at hl 2 rfl) ?_
      refine lv_iconst (v := nI 0) hx hb d_M_bells_78 (by decide) ?_
      refine xa_zast hx hb hK hP hD hS 3 1 rfl rfl (by omega) (by decide) (by decide) d_M_bells_79 (fun H locs hP hD hS => ?_)
      have hP : va_P D vwCl [(xM, .inr (6, [.int (nI 0), .int (nI n2), .ref xK, .ref xV, .int (nI 0), .ref xC, .ref xH, .int (nI 0), .ref xT, .ref xP, .int (nI 0), .ref xB, .ref xR, .ref xL, .ref xN, .ref xQ, .int (nI rp.toNat)])), (xV, .inl (cZ, 24, .inl gv2)), (xP, .inl (cI, 24, .inl pq2)), (xH, .inl (cZ, 3, .inl (upd hc2 k (nI 0))))] H := hP
      have hD : va_D A [(xM, .inr (6, [.int (nI 0), .int (nI n2), .ref xK, .ref xV, .int (nI 0), .ref xC, .ref xH, .int (nI 0), .ref xT, .ref xP, .int (nI 0), .ref xB, .ref xR, .ref xL, .ref xN, .ref xQ, .int (nI rp.toNat)])), (xV, .inl (cZ, 24, .inl gv2)), (xP, .inl (cI, 24, .inl pq2)), (xH, .inl (cZ, 3, .inl (upd hc2 k (nI 0))))] := hD
      refine lv_iinc (k := 2) (v := nI (k + 1)) hx hb d_M_bells_80 hl rfl (xi_1 _) (by decide) rfl (fun ls hl => ?_)
      have hl : lv_has ls 3 [(2, .int (nI (k + 1))), (0, .ref xM), (1, .int (nI n2))] := hl
      refine lv_goto (tgt := 68) hx hb d_M_bells_83 rfl ?_
      have hl : lv_has ls 3 [(0, .ref xM), (1, .int (nI n2)), (2, .int (nI (k + 1)))] := lv_sub hl [1, 2, 0] rfl
      have hP := hP.sub (ws' := [(xM, .inr (6, [.int (nI 0), .int (nI n2), .ref xK, .ref xV, .int (nI 0), .ref xC, .ref xH, .int (nI 0), .ref xT, .ref xP, .int (nI 0), .ref xB, .ref xR, .ref xL, .ref xN, .ref xQ, .int (nI rp.toNat)])), (xV, .inl (cZ, 24, .inl gv2)), (xP, .inl (cI, 24, .inl pq2)), (xH, .inl (cZ, 3, .inl (upd hc2 k (nI 0))))]) [0, 1, 2, 3] rfl
      have hD := hD.sub (ws' := [(xM, .inr (6, [.int (nI 0), .int (nI n2), .ref xK, .ref xV, .int (nI 0), .ref xC, .ref xH, .int (nI 0), .ref xT, .ref xP, .int (nI 0), .ref xB, .ref xR, .ref xL, .ref xN, .ref xQ, .int (nI rp.toNat)])), (xV, .inl (cZ, 24, .inl gv2)), (xP, .inl (cI, 24, .inl pq2)), (xH, .inl (cZ, 3, .inl (upd hc2 k (nI 0))))]) [0, 1, 2, 3] (by decide) rfl
      exact ih1 (k + 1) (upd hc2 k (nI 0)) _ _ _ (by omega) ⟨h70, fun j hj => by unfold upd; split; rfl; exact hj2 j (by omega), hl, hP, hD, hS⟩
    refine lv_aload_n hx hb d_M_bells_46 rfl (lv_at hl 0 rfl) ?_
    refine va_get (D := D) (ci := 6) (v := .ref xV) (C := R_M) (T := F_M) (N := 17) hx hb hts in_M hown hK hP 0 rfl rfl 3 (by decide) (hts _ (List.mem_cons_of_mem _ k_586)) (fun _ h9 => h9) rfl d_M_bells_47 ?_
    refine lv_iload_n hx hb d_M_bells_50 rfl (lv_at hl 2 rfl) ?_
    refine lv_iconst (v := nI 0) hx hb d_M_bells_51 (by decide) ?_
    refine xa_zast hx hb hK hP hD hS 1 1 rfl rfl (by omega) (by decide) (by decide) d_M_bells_52 (fun H locs hP hD hS => ?_)
    have hP : va_P D vwCl [(xM, .inr (6, [.int (nI 0), .int (nI n2), .ref xK, .ref xV, .int (nI 0), .ref xC, .ref xH, .int (nI 0), .ref xT, .ref xP, .int (nI 0), .ref xB, .ref xR, .ref xL, .ref xN, .ref xQ, .int (nI rp.toNat)])), (xV, .inl (cZ, 24, .inl (upd gv2 i (nI 0)))), (xP, .inl (cI, 24, .inl pq2)), (xH, .inl (cZ, 3, .inl hc))] H := hP
    have hD : va_D A [(xM, .inr (6, [.int (nI 0), .int (nI n2), .ref xK, .ref xV, .int (nI 0), .ref xC, .ref xH, .int (nI 0), .ref xT, .ref xP, .int (nI 0), .ref xB, .ref xR, .ref xL, .ref xN, .ref xQ, .int (nI rp.toNat)])), (xV, .inl (cZ, 24, .inl (upd gv2 i (nI 0)))), (xP, .inl (cI, 24, .inl pq2)), (xH, .inl (cZ, 3, .inl hc))] := hD
    refine lv_aload_n hx hb d_M_bells_53 rfl (lv_at hl 0 rfl) ?_
    refine va_get (D := D) (ci := 6) (v := .ref xP) (C := R_M) (T := F_M) (N := 17) hx hb hts in_M hown hK hP 0 rfl rfl 9 (by decide) (hts _ (List.mem_cons_of_mem _ k_592)) (fun _ h9 => h9) rfl d_M_bells_54 ?_
    refine lv_iload_n hx hb d_M_bells_57 rfl (lv_at hl 2 rfl) ?_
    refine lv_iconst (v := nI 0) hx hb d_M_bells_58 (by decide) ?_
    refine xa_iast hx hb hK hP hD hS 2 0 rfl rfl (by omega) (by decide) d_M_bells_59 (fun H locs hP hD hS => ?_)
    have hP : va_P D vwCl [(xM, .inr (6, [.int (nI 0), .int (nI n2), .ref xK, .ref xV, .int (nI 0), .ref xC, .ref xH, .int (nI 0), .ref xT, .ref xP, .int (nI 0), .ref xB, .ref xR, .ref xL, .ref xN, .ref xQ, .int (nI rp.toNat)])), (xV, .inl (cZ, 24, .inl (upd gv2 i (nI 0)))), (xP, .inl (cI, 24, .inl (upd pq2 i (nI 0)))), (xH, .inl (cZ, 3, .inl hc))] H := hP
    have hD : va_D A [(xM, .inr (6, [.int (nI 0), .int (nI n2), .ref xK, .ref xV, .int (nI 0), .ref xC, .ref xH, .int (nI 0), .ref xT, .ref xP, .int (nI 0), .ref xB, .ref xR, .ref xL, .ref xN, .ref xQ, .int (nI rp.toNat)])), (xV, .inl (cZ, 24, .inl (upd gv2 i (nI 0)))), (xP, .inl (cI, 24, .inl (upd pq2 i (nI 0)))), (xH, .inl (cZ, 3, .inl hc))] := hD
    refine lv_iinc (k := 2) (v := nI (i + 1)) hx hb d_M_bells_60 hl rfl (xi_1 _) (by decide) rfl (fun ls hl => ?_)
    have hl : lv_has ls 3 [(2, .int (nI (i + 1))), (0, .ref xM), (1, .int (nI n2))] := hl
    refine lv_goto (tgt := 40) hx hb d_M_bells_63 rfl ?_
    have hl : lv_has ls 3 [(0, .ref xM), (1, .int (nI n2)), (2, .int (nI (i + 1)))] := lv_sub hl [1, 2, 0] rfl
    have hP := hP.sub (ws' := [(xM, .inr (6, [.int (nI 0), .int (nI n2), .ref xK, .ref xV, .int (nI 0), .ref xC, .ref xH, .int (nI 0), .ref xT, .ref xP, .int (nI 0), .ref xB, .ref xR, .ref xL, .ref xN, .ref xQ, .int (nI rp.toNat)])), (xV, .inl (cZ, 24, .inl (upd gv2 i (nI 0)))), (xP, .inl (cI, 24, .inl (upd pq2 i (nI 0)))), (xH, .inl (cZ, 3, .inl hc))]) [0, 1, 2, 3] rfl
    have hD := hD.sub (ws' := [(xM, .inr (6, [.int (nI 0), .int (nI n2), .ref xK, .ref xV, .int (nI 0), .ref xC, .ref xH, .int (nI 0), .ref xT, .ref xP, .int (nI 0), .ref xB, .ref xR, .ref xL, .ref xN, .ref xQ, .int (nI rp.toNat)])), (xV, .inl (cZ, 24, .inl (upd gv2 i (nI 0)))), (xP, .inl (cI, 24, .inl (upd pq2 i (nI 0)))), (xH, .inl (cZ, 3, .inl hc))]) [0, 1, 2, 3] (by decide) rfl
    exact ih (i + 1) (upd gv2 i (nI 0)) (upd pq2 i (nI 0)) _ _ _ (by omega) ⟨h43, fun j hj => by unfold upd; split; rfl; exact hi2 j (by omega), fun j hj => by unfold upd; split; rfl; exact hi3 j (by omega), hl, hP, hD, hS⟩
  exact absurd h13 (by omega)
set_option maxHeartbeats 4000000 in
set_option maxRecDepth 100000 in
theorem c_M_notation_no (xM : Nat) (cd : Int32) (n : Nat) (xK : Nat) (xV : Nat) (ln : Nat) (xC : Nat) (xH : Nat) (ct : Nat) (xT : Nat) (xP : Nat) (lk : Nat) (xB : Nat) (xR : Nat) (xL : Nat) (xN : Nat) (xQ : Nat) (rp : Bool) (x : Int32) (y : Int32) (hn : nb n) (hln : ln ≤ 24) (hno : ntk ln n x y = false) : CtI l y_M_notation (w_M_notation) ({ frames := 1, cells := 0, slots := 0, locals := 24 }) D vwCl (TYs cI cZ cJ cG) (gG tF) [.ref xM, .int x, .int y] [(xM, .inr (6, [.int cd, .int (nI n), .ref xK, .ref xV, .int (nI ln), .ref xC, .ref xH, .int (nI ct), .ref xT, .ref xP, .int (nI lk), .ref xB, .ref xR, .ref xL, .ref xN, .ref xQ, .int (nI rp.toNat)]))] 0 0 (fun _ : Unit => [(xM, .inr (6, [.int (nI 0), .int (nI n), .ref xK, .ref xV, .int (nI ln), .ref xC, .ref xH, .int (nI ct), .ref xT, .ref xP, .int (nI lk), .ref xB, .ref xR, .ref xL, .ref xN, .ref xQ, .int (nI rp.toNat)]))]) (fun (r : Int32) (_ : Unit) => r = nI 0) := by
  refine CtI.of (cc := b_M_notation) (maxL := 3) (ret := (some .boolean)) (by decide) rfl (Nat.le_of_ble_eq_true rfl) ?_
  intro p e s m args below meth c A ls hF hA hP hK hD hg hS hl
  obtain ⟨hx, hb, hrt, hlk, hml, hown, hts, hnm⟩ := hF
  have hown : s.vm.findClass R_M = some m.cls := hown
  have hl : lv_has ls 3 [(0, .ref xM), (1, .int x), (2, .int y)] := hl
  refine lv_aload_n hx hb d_M_notation_0 rfl (lv_at hl 0 rfl) ?_
  refine lv_iconst (v := nI 0) hx hb d_M_notation_1 (by decide) ?_
  refine va_put (D := D) (ci := 6) (v := .int (nI 0)) (ty := .int) (C := R_M) (T := F_M) (N := 17) hx hb hts in_M t_M t_M_ok n_M hown hK hP hD hS 0 rfl rfl 0 (by decide) (hts _ (List.mem_cons_of_mem _ k_583)) (fun _ h9 => h9) rfl (by decide +kernel) rfl rfl (Nat.le_of_ble_eq_true rfl) d_M_notation_2 (fun H locs hP hD hS => ?_)
  have hP : va_P D vwCl [(xM, .inr (6, [.int (nI 0), .int (nI n), .ref xK, .ref xV, .int (nI ln), .ref xC, .ref xH, .int (nI ct), .ref xT, .ref xP, .int (nI lk), .ref xB, .ref xR, .ref xL, .ref xN, .ref xQ, .int (nI rp.toNat)]))] H := hP
  have hD : va_D A [(xM, .inr (6, [.int (nI 0), .int (nI n), .ref xK, .ref xV, .int (nI ln), .ref xC, .ref xH, .int (nI ct), .ref xT, .ref xP, .int (nI lk), .ref xB, .ref xR, .ref xL, .ref xN, .ref xQ, .int (nI rp.toNat)]))] := hD
  refine lv_aload_n hx hb d_M_notation_5 rfl (lv_at hl 0 rfl) ?_
  refine va_get (D := D) (ci := 6) (v := .int (nI ln)) (C := R_M) (T := F_M) (N := 17) hx hb hts in_M hown hK hP 0 rfl rfl 4 (by decide) (hts _ (List.mem_cons_of_mem _ k_587)) (fun _ h9 => h9) rfl d_M_notation_6 ?_
  refine xb_gt hx hb 30 (by omega) d_M_notation_9 rfl (fun h9 => ?_) (fun h9 => ?_)
  · skip
    refine lv_iconst (v := nI 0) hx hb d_M_notation_30 (by decide) ?_
    exact xr_i hx hb hrt hlk rfl hP hD hS () [0] (by decide) rfl rfl d_M_notation_31
  refine lv_iload_n hx hb d_M_notation_12 rfl (lv_at hl 1 rfl) ?_
  refine lv_if_lt (tgt := 30) hx hb d_M_notation_13 rfl (fun h13 => ?_) (fun h13 => ?_)
  · skip
    refine lv_iconst (v := nI 0) hx hb d_M_notation_30 (by decide) ?_
    exact xr_i hx hb hrt hlk rfl hP hD hS () [0] (by decide) rfl rfl d_M_notation_31
  refine lv_iload_n hx hb d_M_notation_16 rfl (lv_at hl 1 rfl) ?_
  refine lv_bipush (v := nI 23) hx hb d_M_notation_17 (by decide) ?_
  refine lv_icmp_gt (tgt := 30) hx hb d_M_notation_19 rfl (fun h19 => ?_) (fun h19 => ?_)
  · skip
    refine lv_iconst (v := nI 0) hx hb d_M_notation_30 (by decide) ?_
    exact xr_i hx hb hrt hlk rfl hP hD hS () [0] (by decide) rfl rfl d_M_notation_31
  refine lv_aload_n hx hb d_M_notation_22 rfl (lv_at hl 0 rfl) ?_
  refine lv_iload_n hx hb d_M_notation_23 rfl (lv_at hl 2 rfl) ?_
  refine xc_i (wc := [(xM, .inr (6, [.int (nI 0), .int (nI n), .ref xK, .ref xV, .int (nI ln), .ref xC, .ref xH, .int (nI ct), .ref xT, .ref xP, .int (nI lk), .ref xB, .ref xR, .ref xL, .ref xN, .ref xQ, .int (nI rp.toNat)]))]) (wr := []) (gG_ok tF) hK hP hD hS hA hg [0] [] rfl rfl (by decide) (by decide) (by decide) (fun h1 h2 => va_runV (As := [.int y]) (rest := []) ⟨hx, hb, hml, hown, hts⟩ (c_M_isGood xM (nI 0) n xK xV ln xC xH ct xT xP lk xB xR xL xN xQ rp y hn _) (cwV 1 hts (gV k_648 k_650 ks_M_isGood k_7 k_651) rfl rfl rfl (by decide +kernel) ⟨Nat.le_of_ble_eq_true rfl, Nat.le_of_ble_eq_true rfl⟩) ⟨h1, va_recv (q0 := 0) (ci := 6) hK hP rfl rfl, h2⟩ rfl rfl hl.1 rfl (lv_room (Nat.le_of_ble_eq_true rfl)) d_M_notation_24 ⟨Nat.zero_le _, Nat.zero_le _⟩) (fun r u H locs hq9 hP hD hS => ?_)
  obtain rfl := hq9
  have hP : va_P D vwCl [(xM, .inr (6, [.int (nI 0), .int (nI n), .ref xK, .ref xV, .int (nI ln), .ref xC, .ref xH, .int (nI ct), .ref xT, .ref xP, .int (nI lk), .ref xB, .ref xR, .ref xL, .ref xN, .ref xQ, .int (nI rp.toNat)]))] H := hP
  have hD : va_D A [(xM, .inr (6, [.int (nI 0), .int (nI n), .ref xK, .ref xV, .int (nI ln), .ref xC, .ref xH, .int (nI ct), .ref xT, .ref xP, .int (nI lk), .ref xB, .ref xR, .ref xL, .ref xN, .ref xQ, .int (nI rp.toNat)]))] := hD
  refine xb_neB (x := okm n y) hx hb 32 d_M_notation_27 rfl (fun h27 => ?_) (fun h27 => ?_)
  · skip
    exact absurd hno (by unfold ntk; rw [if_neg (by omega), if_neg h13, if_neg (x24 h19), h27]; decide)
  refine lv_iconst (v := nI 0) hx hb d_M_notation_30 (by decide) ?_
  exact xr_i hx hb hrt hlk rfl hP hD hS () [0] (by decide) rfl rfl d_M_notation_31
set_option maxHeartbeats 4000000 in
set_option maxRecDepth 100000 in
theorem c_M_notation (xM : Nat) (cd : Int32) (n : Nat) (xK : Nat) (xV : Nat) (ln : Nat) (xC : Nat) (xH : Nat) (ct : Nat) (xT : Nat) (xP : Nat) (lk : Nat) (xB : Nat) (xR : Nat) (xL : Nat) (xN : Nat) (xQ : Nat) (rp : Bool) (km : Nat → Int32) (gv : Nat → Int32) (i : Nat) (y : Int32) (hn : nb n) (hln : ln = 0) (hi : i < 24) (hok : okm n y = true) : CtI l y_M_notation (w_M_notation) ({ frames := 1, cells := 0, slots := 0, locals := 24 }) D vwCl (TYs cI cZ cJ cG) (gG tF) [.ref xM, .int (nI i), .int y] [(xM, .inr (6, [.int cd, .int (nI n), .ref xK, .ref xV, .int (nI ln), .ref xC, .ref xH, .int (nI ct), .ref xT, .ref xP, .int (nI lk), .ref xB, .ref xR, .ref xL, .ref xN, .ref xQ, .int (nI rp.toNat)])), (xK, .inl (cI, 24, .inl km)), (xV, .inl (cZ, 24, .inl gv))] 0 0 (fun _ : Unit => [(xM, .inr (6, [.int (nI 0), .int (nI n), .ref xK, .ref xV, .int (nI ln), .ref xC, .ref xH, .int (nI ct), .ref xT, .ref xP, .int (nI lk), .ref xB, .ref xR, .ref xL, .ref xN, .ref xQ, .int (nI rp.toNat)])), (xK, .inl (cI, 24, .inl (upd km i y))), (xV, .inl (cZ, 24, .inl (upd gv i (nI 1))))]) (fun (r : Int32) (_ : Unit) => r = nI 1) := by
  refine CtI.of (cc := b_M_notation) (maxL := 3) (ret := (some .boolean)) (by decide) rfl (Nat.le_of_ble_eq_true rfl) ?_
  intro p e s m args below meth c A ls hF hA hP hK hD hg hS hl
  obtain ⟨hx, hb, hrt, hlk, hml, hown, hts, hnm⟩ := hF
  have hown : s.vm.findClass R_M = some m.cls := hown
  have hl : lv_has ls 3 [(0, .ref xM), (1, .int (nI i)), (2, .int y)] := hl
  refine lv_aload_n hx hb d_M_notation_0 rfl (lv_at hl 0 rfl) ?_
  refine lv_iconst (v := nI 0) hx hb d_M_notation_1 (by decide) ?_
  refine va_put (D := D) (ci := 6) (v := .int (nI 0)) (ty := .int) (C := R_M) (T := F_M) (N := 17) hx hb hts in_M t_M t_M_ok n_M hown hK hP hD hS 0 rfl rfl 0 (by decide) (hts _ (List.mem_cons_of_mem _ k_583)) (fun _ h9 => h9) rfl (by decide +kernel) rfl rfl (Nat.le_of_ble_eq_true rfl) d_M_notation_2 (fun H locs hP hD hS => ?_)
  have hP : va_P D vwCl [(xM, .inr (6, [.int (nI 0), .int (nI n), .ref xK, .ref xV, .int (nI ln), .ref xC, .ref xH, .int (nI ct), .ref xT, .ref xP, .int (nI lk), .ref xB, .ref xR, .ref xL, .ref xN, .ref xQ, .int (nI rp.toNat)])), (xK, .inl (cI, 24, .inl km)), (xV, .inl (cZ, 24, .inl gv))] H := hP
  have hD : va_D A [(xM, .inr (6, [.int (nI 0), .int (nI n), .ref xK, .ref xV, .int (nI ln), .ref xC, .ref xH, .int (nI ct), .ref xT, .ref xP, .int (nI lk), .ref xB, .ref xR, .ref xL, .ref xN, .ref xQ, .int (nI rp.toNat)])), (xK, .inl (cI, 24, .inl km)), (xV, .inl (cZ, 24, .inl gv))] := hD
  refine lv_aload_n hx hb d_M_notation_5 rfl (lv_at hl 0 rfl) ?_
  refine va_get (D := D) (ci := 6) (v := .int (nI ln)) (C := R_M) (T := F_M) (N := 17) hx hb hts in_M hown hK hP 0 rfl rfl 4 (by decide) (hts _ (List.mem_cons_of_mem _ k_587)) (fun _ h9 => h9) rfl d_M_notation_6 ?_
  refine xb_gt hx hb 30 (by omega) d_M_notation_9 rfl (fun h9 => ?_) (fun h9 => ?_)
  · skip
    exact absurd h9 (by omega)
  refine lv_iload_n hx hb d_M_notation_12 rfl (lv_at hl 1 rfl) ?_
  refine xb_lt hx hb 30 (by omega) d_M_notation_13 rfl ?_
  refine lv_iload_n hx hb d_M_notation_16 rfl (lv_at hl 1 rfl) ?_
  refine lv_bipush (v := nI 23) hx hb d_M_notation_17 (by decide) ?_
  refine xb_cgt hx hb 30 (by omega) (by omega) d_M_notation_19 rfl (fun h19 => ?_) (fun h19 => ?_)
  · skip
    exact absurd h19 (by omega)
  refine lv_aload_n hx hb d_M_notation_22 rfl (lv_at hl 0 rfl) ?_
  refine lv_iload_n hx hb d_M_notation_23 rfl (lv_at hl 2 rfl) ?_
  refine xc_i (wc := [(xM, .inr (6, [.int (nI 0), .int (nI n), .ref xK, .ref xV, .int (nI ln), .ref xC, .ref xH, .int (nI ct), .ref xT, .ref xP, .int (nI lk), .ref xB, .ref xR, .ref xL, .ref xN, .ref xQ, .int (nI rp.toNat)]))]) (wr := [(xK, .inl (cI, 24, .inl km)), (xV, .inl (cZ, 24, .inl gv))]) (gG_ok tF) hK hP hD hS hA hg [0] [1, 2] rfl rfl (by decide) (by decide) (by decide) (fun h1 h2 => va_runV (As := [.int y]) (rest := []) ⟨hx, hb, hml, hown, hts⟩ (c_M_isGood xM (nI 0) n xK xV ln xC xH ct xT xP lk xB xR xL xN xQ rp y hn _) (cwV 1 hts (gV k_648 k_650 ks_M_isGood k_7 k_651) rfl rfl rfl (by decide +kernel) ⟨Nat.le_of_ble_eq_true rfl, Nat.le_of_ble_eq_true rfl⟩) ⟨h1, va_recv (q0 := 0) (ci := 6) hK hP rfl rfl, h2⟩ rfl rfl hl.1 rfl (lv_room (Nat.le_of_ble_eq_true rfl)) d_M_notation_24 ⟨Nat.zero_le _, Nat.zero_le _⟩) (fun r u H locs hq9 hP hD hS => ?_)
  obtain rfl := hq9
  have hP : va_P D vwCl [(xK, .inl (cI, 24, .inl km)), (xV, .inl (cZ, 24, .inl gv)), (xM, .inr (6, [.int (nI 0), .int (nI n), .ref xK, .ref xV, .int (nI ln), .ref xC, .ref xH, .int (nI ct), .ref xT, .ref xP, .int (nI lk), .ref xB, .ref xR, .ref xL, .ref xN, .ref xQ, .int (nI rp.toNat)]))] H := hP
  have hD : va_D A [(xK, .inl (cI, 24, .inl km)), (xV, .inl (cZ, 24, .inl gv)), (xM, .inr (6, [.int (nI 0), .int (nI n), .ref xK, .ref xV, .int (nI ln), .ref xC, .ref xH, .int (nI ct), .ref xT, .ref xP, .int (nI lk), .ref xB, .ref xR, .ref xL, .ref xN, .ref xQ, .int (nI rp.toNat)]))] := hD
  refine xb_neB (x := okm n y) hx hb 32 d_M_notation_27 rfl (fun h27 => ?_) (fun h27 => ?_)
  · skip
    refine lv_aload_n hx hb d_M_notation_32 rfl (lv_at hl 0 rfl) ?_
    refine va_get (D := D) (ci := 6) (v := .ref xK) (C := R_M) (T := F_M) (N := 17) hx hb hts in_M hown hK hP 2 rfl rfl 2 (by decide) (hts _ (List.mem_cons_of_mem _ k_585)) (fun _ h9 => h9) rfl d_M_notation_33 ?_
    refine lv_iload_n hx hb d_M_notation_36 rfl (lv_at hl 1 rfl) ?_
    refine lv_iload_n hx hb d_M_notation_37 rfl (lv_at hl 2 rfl) ?_
    refine xa_iast hx hb hK hP hD hS 0 0 rfl rfl (by omega) (by decide) d_M_notation_38 (fun H locs hP hD hS => ?_)
    have hP : va_P D vwCl [(xK, .inl (cI, 24, .inl (upd km i y))), (xV, .inl (cZ, 24, .inl gv)), (xM, .inr (6, [.int (nI 0), .int (nI n), .ref xK, .ref xV, .int (nI ln), .ref xC, .ref xH, .int (nI ct), .ref xT, .ref xP, .int (nI lk), .ref xB, .ref xR, .ref xL, .ref xN, .ref xQ, .int (nI rp.toNat)]))] H := hP
    have hD : va_D A [(xK, .inl (cI, 24, .inl (upd km i y))), (xV, .inl (cZ, 24, .inl gv)), (xM, .inr (6, [.int (nI 0), .int (nI n), .ref xK, .ref xV, .int (nI ln), .ref xC, .ref xH, .int (nI ct), .ref xT, .ref xP, .int (nI lk), .ref xB, .ref xR, .ref xL, .ref xN, .ref xQ, .int (nI rp.toNat)]))] := hD
    refine lv_aload_n hx hb d_M_notation_39 rfl (lv_at hl 0 rfl) ?_
    refine va_get (D := D) (ci := 6) (v := .ref xV) (C := R_M) (T := F_M) (N := 17) hx hb hts in_M hown hK hP 2 rfl rfl 3 (by decide) (hts _ (List.mem_cons_of_mem _ k_586)) (fun _ h9 => h9) rfl d_M_notation_40 ?_
    refine lv_iload_n hx hb d_M_notation_43 rfl (lv_at hl 1 rfl) ?_
    refine lv_iconst (v := nI 1) hx hb d_M_notation_44 (by decide) ?_
    refine xa_zast hx hb hK hP hD hS 1 1 rfl rfl (by omega) (by decide) (by decide) d_M_notation_45 (fun H locs hP hD hS => ?_)
    have hP : va_P D vwCl [(xK, .inl (cI, 24, .inl (upd km i y))), (xV, .inl (cZ, 24, .inl (upd gv i (nI 1)))), (xM, .inr (6, [.int (nI 0), .int (nI n), .ref xK, .ref xV, .int (nI ln), .ref xC, .ref xH, .int (nI ct), .ref xT, .ref xP, .int (nI lk), .ref xB, .ref xR, .ref xL, .ref xN, .ref xQ, .int (nI rp.toNat)]))] H := hP
    have hD : va_D A [(xK, .inl (cI, 24, .inl (upd km i y))), (xV, .inl (cZ, 24, .inl (upd gv i (nI 1)))), (xM, .inr (6, [.int (nI 0), .int (nI n), .ref xK, .ref xV, .int (nI ln), .ref xC, .ref xH, .int (nI ct), .ref xT, .ref xP, .int (nI lk), .ref xB, .ref xR, .ref xL, .ref xN, .ref xQ, .int (nI rp.toNat)]))] := hD
    refine lv_iconst (v := nI 1) hx hb d_M_notation_46 (by decide) ?_
    exact xr_i hx hb hrt hlk rfl hP hD hS () [2, 0, 1] (by decide) rfl rfl d_M_notation_47
  rw [hok] at h27
  cases h27
set_option maxHeartbeats 4000000 in
set_option maxRecDepth 100000 in
theorem c_M_callNotation_no (xM : Nat) (cd : Int32) (n : Nat) (xK : Nat) (xV : Nat) (ln : Nat) (xC : Nat) (xH : Nat) (ct : Nat) (xT : Nat) (xP : Nat) (lk : Nat) (xB : Nat) (xR : Nat) (xL : Nat) (xN : Nat) (xQ : Nat) (rp : Bool) (tq : Nat → Int32) (x : Int32) (y : Int32) (hn : nb n) (hct : ct ≤ 30) (hno : cnk tq ct n x y = false) : CtI l y_M_callNotation (w_M_callNotation) ({ frames := 1, cells := 0, slots := 0, locals := 24 }) D vwCl (TYs cI cZ cJ cG) (gG tF) [.ref xM, .int x, .int y] [(xM, .inr (6, [.int cd, .int (nI n), .ref xK, .ref xV, .int (nI ln), .ref xC, .ref xH, .int (nI ct), .ref xT, .ref xP, .int (nI lk), .ref xB, .ref xR, .ref xL, .ref xN, .ref xQ, .int (nI rp.toNat)])), (xT, .inl (cI, 30, .inl tq))] 0 0 (fun _ : Unit => [(xM, .inr (6, [.int (nI 0), .int (nI n), .ref xK, .ref xV, .int (nI ln), .ref xC, .ref xH, .int (nI ct), .ref xT, .ref xP, .int (nI lk), .ref xB, .ref xR, .ref xL, .ref xN, .ref xQ, .int (nI rp.toNat)])), (xT, .inl (cI, 30, .inl tq))]) (fun (r : Int32) (_ : Unit) => r = nI 0) := by
  refine CtI.of (cc := b_M_callNotation) (maxL := 4) (ret := (some .boolean)) (by decide) rfl (Nat.le_of_ble_eq_true rfl) ?_
  intro p e s m args below meth c A ls hF hA hP hK hD hg hS hl
  obtain ⟨hx, hb, hrt, hlk, hml, hown, hts, hnm⟩ := hF
  have hown : s.vm.findClass R_M = some m.cls := hown
  have hl : lv_has ls 4 [(0, .ref xM), (1, .int x), (2, .int y)] := hl
  refine lv_aload_n hx hb d_M_callNotation_0 rfl (lv_at hl 0 rfl) ?_
  refine lv_iconst (v := nI 0) hx hb d_M_callNotation_1 (by decide) ?_
  refine va_put (D := D) (ci := 6) (v := .int (nI 0)) (ty := .int) (C := R_M) (T := F_M) (N := 17) hx hb hts in_M t_M t_M_ok n_M hown hK hP hD hS 0 rfl rfl 0 (by decide) (hts _ (List.mem_cons_of_mem _ k_583)) (fun _ h9 => h9) rfl (by decide +kernel) rfl rfl (Nat.le_of_ble_eq_true rfl) d_M_callNotation_2 (fun H locs hP hD hS => ?_)
  have hP : va_P D vwCl [(xM, .inr (6, [.int (nI 0), .int (nI n), .ref xK, .ref xV, .int (nI ln), .ref xC, .ref xH, .int (nI ct), .ref xT, .ref xP, .int (nI lk), .ref xB, .ref xR, .ref xL, .ref xN, .ref xQ, .int (nI rp.toNat)])), (xT, .inl (cI, 30, .inl tq))] H := hP
  have hD : va_D A [(xM, .inr (6, [.int (nI 0), .int (nI n), .ref xK, .ref xV, .int (nI ln), .ref xC, .ref xH, .int (nI ct), .ref xT, .ref xP, .int (nI lk), .ref xB, .ref xR, .ref xL, .ref xN, .ref xQ, .int (nI rp.toNat)])), (xT, .inl (cI, 30, .inl tq))] := hD
  refine lv_iload_n hx hb d_M_callNotation_5 rfl (lv_at hl 1 rfl) ?_
  refine lv_iconst (v := nI 1) hx hb d_M_callNotation_6 (by decide) ?_
  refine lv_icmp_lt (tgt := 23) hx hb d_M_callNotation_7 rfl (fun h7 => ?_) (fun h7 => ?_)
  · skip
    refine lv_iconst (v := nI 0) hx hb d_M_callNotation_23 (by decide) ?_
    exact xr_i hx hb hrt hlk rfl hP hD hS () [0, 1] (by decide) rfl rfl d_M_callNotation_24
  refine lv_iload_n hx hb d_M_callNotation_10 rfl (lv_at hl 1 rfl) ?_
  refine lv_iconst (v := nI 2) hx hb d_M_callNotation_11 (by decide) ?_
  refine lv_icmp_gt (tgt := 23) hx hb d_M_callNotation_12 rfl (fun h12 => ?_) (fun h12 => ?_)
  · skip
    refine lv_iconst (v := nI 0) hx hb d_M_callNotation_23 (by decide) ?_
    exact xr_i hx hb hrt hlk rfl hP hD hS () [0, 1] (by decide) rfl rfl d_M_callNotation_24
  refine lv_aload_n hx hb d_M_callNotation_15 rfl (lv_at hl 0 rfl) ?_
  refine lv_iload_n hx hb d_M_callNotation_16 rfl (lv_at hl 2 rfl) ?_
  refine xc_i (wc := [(xM, .inr (6, [.int (nI 0), .int (nI n), .ref xK, .ref xV, .int (nI ln), .ref xC, .ref xH, .int (nI ct), .ref xT, .ref xP, .int (nI lk), .ref xB, .ref xR, .ref xL, .ref xN, .ref xQ, .int (nI rp.toNat)]))]) (wr := [(xT, .inl (cI, 30, .inl tq))]) (gG_ok tF) hK hP hD hS hA hg [0] [1] rfl rfl (by decide) (by decide) (by decide) (fun h1 h2 => va_runV (As := [.int y]) (rest := []) ⟨hx, hb, hml, hown, hts⟩ (c_M_isGood xM (nI 0) n xK xV ln xC xH ct xT xP lk xB xR xL xN xQ rp y hn _) (cwV 1 hts (gV k_648 k_650 ks_M_isGood k_7 k_651) rfl rfl rfl (by decide +kernel) ⟨Nat.le_of_ble_eq_true rfl, Nat.le_of_ble_eq_true rfl⟩) ⟨h1, va_recv (q0 := 0) (ci := 6) hK hP rfl rfl, h2⟩ rfl rfl hl.1 rfl (lv_room (Nat.le_of_ble_eq_true rfl)) d_M_callNotation_17 ⟨Nat.zero_le _, Nat.zero_le _⟩) (fun r u H locs hq9 hP hD hS => ?_)
  obtain rfl := hq9
  have hP : va_P D vwCl [(xT, .inl (cI, 30, .inl tq)), (xM, .inr (6, [.int (nI 0), .int (nI n), .ref xK, .ref xV, .int (nI ln), .ref xC, .ref xH, .int (nI ct), .ref xT, .ref xP, .int (nI lk), .ref xB, .ref xR, .ref xL, .ref xN, .ref xQ, .int (nI rp.toNat)]))] H := hP
  have hD : va_D A [(xT, .inl (cI, 30, .inl tq)), (xM, .inr (6, [.int (nI 0), .int (nI n), .ref xK, .ref xV, .int (nI ln), .ref xC, .ref xH, .int (nI ct), .ref xT, .ref xP, .int (nI lk), .ref xB, .ref xR, .ref xL, .ref xN, .ref xQ, .int (nI rp.toNat)]))] := hD
  refine xb_neB (x := okm n y) hx hb 25 d_M_callNotation_20 rfl (fun h20 => ?_) (fun h20 => ?_)
  · skip
    refine lv_iconst (v := nI 0) hx hb d_M_callNotation_25 (by decide) ?_
    refine lv_istore_n hx hb d_M_callNotation_26 rfl hl (by decide) rfl (fun ls hl => ?_)
    have hl : lv_has ls 4 [(3, .int (nI 0)), (0, .ref xM), (1, .int x), (2, .int y)] := hl
    have hl : lv_has ls 4 [(0, .ref xM), (1, .int x), (2, .int y), (3, .int (nI 0))] := lv_sub hl [1, 2, 3, 0] rfl
    have hP := hP.sub (ws' := [(xM, .inr (6, [.int (nI 0), .int (nI n), .ref xK, .ref xV, .int (nI ln), .ref xC, .ref xH, .int (nI ct), .ref xT, .ref xP, .int (nI lk), .ref xB, .ref xR, .ref xL, .ref xN, .ref xQ, .int (nI rp.toNat)])), (xT, .inl (cI, 30, .inl tq))]) [1, 0] rfl
    have hD := hD.sub (ws' := [(xM, .inr (6, [.int (nI 0), .int (nI n), .ref xK, .ref xV, .int (nI ln), .ref xC, .ref xH, .int (nI ct), .ref xT, .ref xP, .int (nI lk), .ref xB, .ref xR, .ref xL, .ref xN, .ref xQ, .int (nI rp.toNat)])), (xT, .inl (cI, 30, .inl tq))]) [1, 0] (by decide) rfl
    refine xn_pc (pc2 := 27) rfl ?_
    refine xl_1 (fun (j : Nat) ls H locs => (j ≤ ct) ∧ (∀ i, i < j → tq i ≠ x) ∧ lv_has ls 4 [(0, .ref xM), (1, .int x), (2, .int y), (3, .int (nI j))] ∧ va_P D vwCl [(xM, .inr (6, [.int (nI 0), .int (nI n), .ref xK, .ref xV, .int (nI ln), .ref xC, .ref xH, .int (nI ct), .ref xT, .ref xP, .int (nI lk), .ref xB, .ref xR, .ref xL, .ref xN, .ref xQ, .int (nI rp.toNat)])), (xT, .inl (cI, 30, .inl tq))] H ∧ va_D A [(xM, .inr (6, [.int (nI 0), .int (nI n), .ref xK, .ref xV, .int (nI ln), .ref xC, .ref xH, .int (nI ct), .ref xT, .ref xP, .int (nI lk), .ref xB, .ref xR, .ref xL, .ref xN, .ref xQ, .int (nI rp.toNat)])), (xT, .inl (cI, 30, .inl tq))] ∧ va_S A s.heap H locs) (fun (j : Nat) => ct - j) (fun j ls H locs hI ih => ?_) 0 ⟨Nat.zero_le ct, fun j hj => absurd hj (Nat.not_lt_zero j), hl, hP, hD, hS⟩
    obtain ⟨hi1, hi2, hl, hP, hD, hS⟩ := hI
    refine lv_iload_n hx hb d_M_callNotation_27 rfl (lv_at hl 3 rfl) ?_
    refine lv_aload_n hx hb d_M_callNotation_28 rfl (lv_at hl 0 rfl) ?_
    refine va_get (D := D) (ci := 6) (v := .int (nI ct)) (C := R_M) (T := F_M) (N := 17) hx hb hts in_M hown hK hP 0 rfl rfl 7 (by decide) (hts _ (List.mem_cons_of_mem _ k_590)) (fun _ h9 => h9) rfl d_M_callNotation_29 ?_
    refine xb_cge hx hb 53 (by omega) (by omega) d_M_callNotation_32 rfl (fun h32 => ?_) (fun h32 => ?_)
    · skip
      exact absurd hno (by unfold cnk; rw [if_pos (cn_of h7 h12), if_pos h20, thas_no (fun i hi => hi2 i (by omega))]; decide)
    refine lv_aload_n hx hb d_M_callNotation_35 rfl (lv_at hl 0 rfl) ?_
    refine va_get (D := D) (ci := 6) (v := .ref xT) (C := R_M) (T := F_M) (N := 17) hx hb hts in_M hown hK hP 0 rfl rfl 8 (by decide) (hts _ (List.mem_cons_of_mem _ k_591)) (fun _ h9 => h9) rfl d_M_callNotation_36 ?_
    refine lv_iload_n hx hb d_M_callNotation_39 rfl (lv_at hl 3 rfl) ?_
    refine xa_iald (v := tq j) hx hb hK hP 1 0 rfl rfl (by omega) (by decide) rfl d_M_callNotation_40 ?_
    refine lv_iload_n hx hb d_M_callNotation_41 rfl (lv_at hl 1 rfl) ?_
    refine lv_icmp_ne (tgt := 47) hx hb d_M_callNotation_42 rfl (fun h42 => ?_) (fun h42 => ?_)
    · skip
      refine lv_iinc (k := 3) (v := nI (j + 1)) hx hb d_M_callNotation_47 hl rfl (xi_1 _) (by decide) rfl (fun ls hl => ?_)
      have hl : lv_has ls 4 [(3, .int (nI (j + 1))), (0, .ref xM), (1, .int x), (2, .int y)] := hl
      refine lv_goto (tgt := 27) hx hb d_M_callNotation_50 rfl ?_
      have hl : lv_has ls 4 [(0, .ref xM), (1, .int x), (2, .int y), (3, .int (nI (j + 1)))] := lv_sub hl [1, 2, 3, 0] rfl
      have hP := hP.sub (ws' := [(xM, .inr (6, [.int (nI 0), .int (nI n), .ref xK, .ref xV, .int (nI ln), .ref xC, .ref xH, .int (nI ct), .ref xT, .ref xP, .int (nI lk), .ref xB, .ref xR, .ref xL, .ref xN, .ref xQ, .int (nI rp.toNat)])), (xT, .inl (cI, 30, .inl tq))]) [0, 1] rfl
      have hD := hD.sub (ws' := [(xM, .inr (6, [.int (nI 0), .int (nI n), .ref xK, .ref xV, .int (nI ln), .ref xC, .ref xH, .int (nI ct), .ref xT, .ref xP, .int (nI lk), .ref xB, .ref xR, .ref xL, .ref xN, .ref xQ, .int (nI rp.toNat)])), (xT, .inl (cI, 30, .inl tq))]) [0, 1] (by decide) rfl
      exact ih (j + 1) _ _ _ (by omega) ⟨h32, lt_s hi2 h42, hl, hP, hD, hS⟩
    refine lv_iconst (v := nI 0) hx hb d_M_callNotation_45 (by decide) ?_
    exact xr_i hx hb hrt hlk rfl hP hD hS () [0, 1] (by decide) rfl rfl d_M_callNotation_46
  refine lv_iconst (v := nI 0) hx hb d_M_callNotation_23 (by decide) ?_
  exact xr_i hx hb hrt hlk rfl hP hD hS () [1, 0] (by decide) rfl rfl d_M_callNotation_24
set_option maxHeartbeats 4000000 in
set_option maxRecDepth 100000 in
theorem c_M_callNotation (xM : Nat) (cd : Int32) (n : Nat) (xK : Nat) (xV : Nat) (ln : Nat) (xC : Nat) (xH : Nat) (ct : Nat) (xT : Nat) (xP : Nat) (lk : Nat) (xB : Nat) (xR : Nat) (xL : Nat) (xN : Nat) (xQ : Nat) (rp : Bool) (tq : Nat → Int32) (cq : Nat → Int32) (hc : Nat → Int32) (kd : Nat) (y : Int32) (hn : nb n) (hct : ct ≤ 30) (hk1 : 1 ≤ kd) (hk2 : kd ≤ 2) (hok : okm n y = true) (hth : thas tq ct (nI kd) = false) : CtI l y_M_callNotation (w_M_callNotation) ({ frames := 1, cells := 0, slots := 0, locals := 24 }) D vwCl (TYs cI cZ cJ cG) (gG tF) [.ref xM, .int (nI kd), .int y] [(xM, .inr (6, [.int cd, .int (nI n), .ref xK, .ref xV, .int (nI ln), .ref xC, .ref xH, .int (nI ct), .ref xT, .ref xP, .int (nI lk), .ref xB, .ref xR, .ref xL, .ref xN, .ref xQ, .int (nI rp.toNat)])), (xT, .inl (cI, 30, .inl tq)), (xC, .inl (cI, 3, .inl cq)), (xH, .inl (cZ, 3, .inl hc))] 0 0 (fun _ : Unit => [(xM, .inr (6, [.int (nI 0), .int (nI n), .ref xK, .ref xV, .int (nI ln), .ref xC, .ref xH, .int (nI ct), .ref xT, .ref xP, .int (nI lk), .ref xB, .ref xR, .ref xL, .ref xN, .ref xQ, .int (nI rp.toNat)])), (xT, .inl (cI, 30, .inl tq)), (xC, .inl (cI, 3, .inl (upd cq kd y))), (xH, .inl (cZ, 3, .inl (upd hc kd (nI 1))))]) (fun (r : Int32) (_ : Unit) => r = nI 1) := by
  refine CtI.of (cc := b_M_callNotation) (maxL := 4) (ret := (some .boolean)) (by decide) rfl (Nat.le_of_ble_eq_true rfl) ?_
  intro p e s m args below meth c A ls hF hA hP hK hD hg hS hl
  obtain ⟨hx, hb, hrt, hlk, hml, hown, hts, hnm⟩ := hF
  have hown : s.vm.findClass R_M = some m.cls := hown
  have hl : lv_has ls 4 [(0, .ref xM), (1, .int (nI kd)), (2, .int y)] := hl
  refine lv_aload_n hx hb d_M_callNotation_0 rfl (lv_at hl 0 rfl) ?_
  refine lv_iconst (v := nI 0) hx hb d_M_callNotation_1 (by decide) ?_
  refine va_put (D := D) (ci := 6) (v := .int (nI 0)) (ty := .int) (C := R_M) (T := F_M) (N := 17) hx hb hts in_M t_M t_M_ok n_M hown hK hP hD hS 0 rfl rfl 0 (by decide) (hts _ (List.mem_cons_of_mem _ k_583)) (fun _ h9 => h9) rfl (by decide +kernel) rfl rfl (Nat.le_of_ble_eq_true rfl) d_M_callNotation_2 (fun H locs hP hD hS => ?_)
  have hP : va_P D vwCl [(xM, .inr (6, [.int (nI 0), .int (nI n), .ref xK, .ref xV, .int (nI ln), .ref xC, .ref xH, .int (nI ct), .ref xT, .ref xP, .int (nI lk), .ref xB, .ref xR, .ref xL, .ref xN, .ref xQ, .int (nI rp.toNat)])), (xT, .inl (cI, 30, .inl tq)), (xC, .inl (cI, 3, .inl cq)), (xH, .inl (cZ, 3, .inl hc))] H := hP
  have hD : va_D A [(xM, .inr (6, [.int (nI 0), .int (nI n), .ref xK, .ref xV, .int (nI ln), .ref xC, .ref xH, .int (nI ct), .ref xT, .ref xP, .int (nI lk), .ref xB, .ref xR, .ref xL, .ref xN, .ref xQ, .int (nI rp.toNat)])), (xT, .inl (cI, 30, .inl tq)), (xC, .inl (cI, 3, .inl cq)), (xH, .inl (cZ, 3, .inl hc))] := hD
  refine lv_iload_n hx hb d_M_callNotation_5 rfl (lv_at hl 1 rfl) ?_
  refine lv_iconst (v := nI 1) hx hb d_M_callNotation_6 (by decide) ?_
  refine xb_clt hx hb 23 (by omega) (by omega) d_M_callNotation_7 rfl (fun h7 => ?_) (fun h7 => ?_)
  · skip
    exact absurd h7 (by omega)
  refine lv_iload_n hx hb d_M_callNotation_10 rfl (lv_at hl 1 rfl) ?_
  refine lv_iconst (v := nI 2) hx hb d_M_callNotation_11 (by decide) ?_
  refine xb_cgt hx hb 23 (by omega) (by omega) d_M_callNotation_12 rfl (fun h12 => ?_) (fun h12 => ?_)
  · skip
    exact absurd h12 (by omega)
  refine lv_aload_n hx hb d_M_callNotation_15 rfl (lv_at hl 0 rfl) ?_
  refine lv_iload_n hx hb d_M_callNotation_16 rfl (lv_at hl 2 rfl) ?_
  refine xc_i (wc := [(xM, .inr (6, [.int (nI 0), .int (nI n), .ref xK, .ref xV, .int (nI ln), .ref xC, .ref xH, .int (nI ct), .ref xT, .ref xP, .int (nI lk), .ref xB, .ref xR, .ref xL, .ref xN, .ref xQ, .int (nI rp.toNat)]))]) (wr := [(xT, .inl (cI, 30, .inl tq)), (xC, .inl (cI, 3, .inl cq)), (xH, .inl (cZ, 3, .inl hc))]) (gG_ok tF) hK hP hD hS hA hg [0] [1, 2, 3] rfl rfl (by decide) (by decide) (by decide) (fun h1 h2 => va_runV (As := [.int y]) (rest := []) ⟨hx, hb, hml, hown, hts⟩ (c_M_isGood xM (nI 0) n xK xV ln xC xH ct xT xP lk xB xR xL xN xQ rp y hn _) (cwV 1 hts (gV k_648 k_650 ks_M_isGood k_7 k_651) rfl rfl rfl (by decide +kernel) ⟨Nat.le_of_ble_eq_true rfl, Nat.le_of_ble_eq_true rfl⟩) ⟨h1, va_recv (q0 := 0) (ci := 6) hK hP rfl rfl, h2⟩ rfl rfl hl.1 rfl (lv_room (Nat.le_of_ble_eq_true rfl)) d_M_callNotation_17 ⟨Nat.zero_le _, Nat.zero_le _⟩) (fun r u H locs hq9 hP hD hS => ?_)
  obtain rfl := hq9
  have hP : va_P D vwCl [(xT, .inl (cI, 30, .inl tq)), (xC, .inl (cI, 3, .inl cq)), (xH, .inl (cZ, 3, .inl hc)), (xM, .inr (6, [.int (nI 0), .int (nI n), .ref xK, .ref xV, .int (nI ln), .ref xC, .ref xH, .int (nI ct), .ref xT, .ref xP, .int (nI lk), .ref xB, .ref xR, .ref xL, .ref xN, .ref xQ, .int (nI rp.toNat)]))] H := hP
  have hD : va_D A [(xT, .inl (cI, 30, .inl tq)), (xC, .inl (cI, 3, .inl cq)), (xH, .inl (cZ, 3, .inl hc)), (xM, .inr (6, [.int (nI 0), .int (nI n), .ref xK, .ref xV, .int (nI ln), .ref xC, .ref xH, .int (nI ct), .ref xT, .ref xP, .int (nI lk), .ref xB, .ref xR, .ref xL, .ref xN, .ref xQ, .int (nI rp.toNat)]))] := hD
  refine xb_neB (x := okm n y) hx hb 25 d_M_callNotation_20 rfl (fun h20 => ?_) (fun h20 => ?_)
  · skip
    refine lv_iconst (v := nI 0) hx hb d_M_callNotation_25 (by decide) ?_
    refine lv_istore_n hx hb d_M_callNotation_26 rfl hl (by decide) rfl (fun ls hl => ?_)
    have hl : lv_has ls 4 [(3, .int (nI 0)), (0, .ref xM), (1, .int (nI kd)), (2, .int y)] := hl
    have hl : lv_has ls 4 [(0, .ref xM), (1, .int (nI kd)), (2, .int y), (3, .int (nI 0))] := lv_sub hl [1, 2, 3, 0] rfl
    have hP := hP.sub (ws' := [(xM, .inr (6, [.int (nI 0), .int (nI n), .ref xK, .ref xV, .int (nI ln), .ref xC, .ref xH, .int (nI ct), .ref xT, .ref xP, .int (nI lk), .ref xB, .ref xR, .ref xL, .ref xN, .ref xQ, .int (nI rp.toNat)])), (xT, .inl (cI, 30, .inl tq)), (xC, .inl (cI, 3, .inl cq)), (xH, .inl (cZ, 3, .inl hc))]) [3, 0, 1, 2] rfl
    have hD := hD.sub (ws' := [(xM, .inr (6, [.int (nI 0), .int (nI n), .ref xK, .ref xV, .int (nI ln), .ref xC, .ref xH, .int (nI ct), .ref xT, .ref xP, .int (nI lk), .ref xB, .ref xR, .ref xL, .ref xN, .ref xQ, .int (nI rp.toNat)])), (xT, .inl (cI, 30, .inl tq)), (xC, .inl (cI, 3, .inl cq)), (xH, .inl (cZ, 3, .inl hc))]) [3, 0, 1, 2] (by decide) rfl
    refine xn_pc (pc2 := 27) rfl ?_
    refine xl_1 (fun (j : Nat) ls H locs => (j ≤ ct) ∧ lv_has ls 4 [(0, .ref xM), (1, .int (nI kd)), (2, .int y), (3, .int (nI j))] ∧ va_P D vwCl [(xM, .inr (6, [.int (nI 0), .int (nI n), .ref xK, .ref xV, .int (nI ln), .ref xC, .ref xH, .int (nI ct), .ref xT, .ref xP, .int (nI lk), .ref xB, .ref xR, .ref xL, .ref xN, .ref xQ, .int (nI rp.toNat)])), (xT, .inl (cI, 30, .inl tq)), (xC, .inl (cI, 3, .inl cq)), (xH, .inl (cZ, 3, .inl hc))] H ∧ va_D A [(xM, .inr (6, [.int (nI 0), .int (nI n), .ref xK, .ref xV, .int (nI ln), .ref xC, .ref xH, .int (nI ct), .ref xT, .ref xP, .int (nI lk), .ref xB, .ref xR, .ref xL, .ref xN, .ref xQ, .int (nI rp.toNat)])), (xT, .inl (cI, 30, .inl tq)), (xC, .inl (cI, 3, .inl cq)), (xH, .inl (cZ, 3, .inl hc))] ∧ va_S A s.heap H locs) (fun (j : Nat) => ct - j) (fun j ls H locs hI ih => ?_) 0 ⟨Nat.zero_le ct, hl, hP, hD, hS⟩
    obtain ⟨hi1, hl, hP, hD, hS⟩ := hI
    refine lv_iload_n hx hb d_M_callNotation_27 rfl (lv_at hl 3 rfl) ?_
    refine lv_aload_n hx hb d_M_callNotation_28 rfl (lv_at hl 0 rfl) ?_
    refine va_get (D := D) (ci := 6) (v := .int (nI ct)) (C := R_M) (T := F_M) (N := 17) hx hb hts in_M hown hK hP 0 rfl rfl 7 (by decide) (hts _ (List.mem_cons_of_mem _ k_590)) (fun _ h9 => h9) rfl d_M_callNotation_29 ?_
    refine xb_cge hx hb 53 (by omega) (by omega) d_M_callNotation_32 rfl (fun h32 => ?_) (fun h32 => ?_)
    · skip
      refine lv_aload_n hx hb d_M_callNotation_53 rfl (lv_at hl 0 rfl) ?_
      refine va_get (D := D) (ci := 6) (v := .ref xC) (C := R_M) (T := F_M) (N := 17) hx hb hts in_M hown hK hP 0 rfl rfl 5 (by decide) (hts _ (List.mem_cons_of_mem _ k_588)) (fun _ h9 => h9) rfl d_M_callNotation_54 ?_
      refine lv_iload_n hx hb d_M_callNotation_57 rfl (lv_at hl 1 rfl) ?_
      refine lv_iload_n hx hb d_M_callNotation_58 rfl (lv_at hl 2 rfl) ?_
      refine xa_iast hx hb hK hP hD hS 2 0 rfl rfl (by omega) (by decide) d_M_callNotation_59 (fun H locs hP hD hS => ?_)
      have hP : va_P D vwCl [(xM, .inr (6, [.int (nI 0), .int (nI n), .ref xK, .ref xV, .int (nI ln), .ref xC, .ref xH, .int (nI ct), .ref xT, .ref xP, .int (nI lk), .ref xB, .ref xR, .ref xL, .ref xN, .ref xQ, .int (nI rp.toNat)])), (xT, .inl (cI, 30, .inl tq)), (xC, .inl (cI, 3, .inl (upd cq kd y))), (xH, .inl (cZ, 3, .inl hc))] H := hP
      have hD : va_D A [(xM, .inr (6, [.int (nI 0), .int (nI n), .ref xK, .ref xV, .int (nI ln), .ref xC, .ref xH, .int (nI ct), .ref xT, .ref xP, .int (nI lk), .ref xB, .ref xR, .ref xL, .ref xN, .ref xQ, .int (nI rp.toNat)])), (xT, .inl (cI, 30, .inl tq)), (xC, .inl (cI, 3, .inl (upd cq kd y))), (xH, .inl (cZ, 3, .inl hc))] := hD
      refine lv_aload_n hx hb d_M_callNotation_60 rfl (lv_at hl 0 rfl) ?_
      refine va_get (D := D) (ci := 6) (v := .ref xH) (C := R_M) (T := F_M) (N := 17) hx hb hts in_M hown hK hP 0 rfl rfl 6 (by decide) (hts _ (List.mem_cons_of_mem _ k_589)) (fun _ h9 => h9) rfl d_M_callNotation_61 ?_
      refine lv_iload_n hx hb d_M_callNotation_64 rfl (lv_at hl 1 rfl) ?_
      refine lv_iconst (v := nI 1) hx hb d_M_callNotation_65 (by decide) ?_
      refine xa_zast hx hb hK hP hD hS 3 1 rfl rfl (by omega) (by decide) (by decide) d_M_callNotation_66 (fun H locs hP hD hS => ?_)
      have hP : va_P D vwCl [(xM, .inr (6, [.int (nI 0), .int (nI n), .ref xK, .ref xV, .int (nI ln), .ref xC, .ref xH, .int (nI ct), .ref xT, .ref xP, .int (nI lk), .ref xB, .ref xR, .ref xL, .ref xN, .ref xQ, .int (nI rp.toNat)])), (xT, .inl (cI, 30, .inl tq)), (xC, .inl (cI, 3, .inl (upd cq kd y))), (xH, .inl (cZ, 3, .inl (upd hc kd (nI 1))))] H := hP
      have hD : va_D A [(xM, .inr (6, [.int (nI 0), .int (nI n), .ref xK, .ref xV, .int (nI ln), .ref xC, .ref xH, .int (nI ct), .ref xT, .ref xP, .int (nI lk), .ref xB, .ref xR, .ref xL, .ref xN, .ref xQ, .int (nI rp.toNat)])), (xT, .inl (cI, 30, .inl tq)), (xC, .inl (cI, 3, .inl (upd cq kd y))), (xH, .inl (cZ, 3, .inl (upd hc kd (nI 1))))] := hD
      refine lv_iconst (v := nI 1) hx hb d_M_callNotation_67 (by decide) ?_
      exact xr_i hx hb hrt hlk rfl hP hD hS () [0, 1, 2, 3] (by decide) rfl rfl d_M_callNotation_68
    refine lv_aload_n hx hb d_M_callNotation_35 rfl (lv_at hl 0 rfl) ?_
    refine va_get (D := D) (ci := 6) (v := .ref xT) (C := R_M) (T := F_M) (N := 17) hx hb hts in_M hown hK hP 0 rfl rfl 8 (by decide) (hts _ (List.mem_cons_of_mem _ k_591)) (fun _ h9 => h9) rfl d_M_callNotation_36 ?_
    refine lv_iload_n hx hb d_M_callNotation_39 rfl (lv_at hl 3 rfl) ?_
    refine xa_iald (v := tq j) hx hb hK hP 1 0 rfl rfl (by omega) (by decide) rfl d_M_callNotation_40 ?_
    refine lv_iload_n hx hb d_M_callNotation_41 rfl (lv_at hl 1 rfl) ?_
    refine lv_icmp_ne (tgt := 47) hx hb d_M_callNotation_42 rfl (fun h42 => ?_) (fun h42 => ?_)
    · skip
      refine lv_iinc (k := 3) (v := nI (j + 1)) hx hb d_M_callNotation_47 hl rfl (xi_1 _) (by decide) rfl (fun ls hl => ?_)
      have hl : lv_has ls 4 [(3, .int (nI (j + 1))), (0, .ref xM), (1, .int (nI kd)), (2, .int y)] := hl
      refine lv_goto (tgt := 27) hx hb d_M_callNotation_50 rfl ?_
      have hl : lv_has ls 4 [(0, .ref xM), (1, .int (nI kd)), (2, .int y), (3, .int (nI (j + 1)))] := lv_sub hl [1, 2, 3, 0] rfl
      have hP := hP.sub (ws' := [(xM, .inr (6, [.int (nI 0), .int (nI n), .ref xK, .ref xV, .int (nI ln), .ref xC, .ref xH, .int (nI ct), .ref xT, .ref xP, .int (nI lk), .ref xB, .ref xR, .ref xL, .ref xN, .ref xQ, .int (nI rp.toNat)])), (xT, .inl (cI, 30, .inl tq)), (xC, .inl (cI, 3, .inl cq)), (xH, .inl (cZ, 3, .inl hc))]) [0, 1, 2, 3] rfl
      have hD := hD.sub (ws' := [(xM, .inr (6, [.int (nI 0), .int (nI n), .ref xK, .ref xV, .int (nI ln), .ref xC, .ref xH, .int (nI ct), .ref xT, .ref xP, .int (nI lk), .ref xB, .ref xR, .ref xL, .ref xN, .ref xQ, .int (nI rp.toNat)])), (xT, .inl (cI, 30, .inl tq)), (xC, .inl (cI, 3, .inl cq)), (xH, .inl (cZ, 3, .inl hc))]) [0, 1, 2, 3] (by decide) rfl
      exact ih (j + 1) _ _ _ (by omega) ⟨h32, hl, hP, hD, hS⟩
    exact absurd (thas_yes h32 h42) (by rw [hth]; decide)
  rw [hok] at h20
  cases h20
set_option maxHeartbeats 4000000 in
set_option maxRecDepth 100000 in
theorem c_M_define_3 (xM : Nat) (cd : Int32) (n : Nat) (xK : Nat) (xV : Nat) (ln : Nat) (xC : Nat) (xH : Nat) (ct : Nat) (xT : Nat) (xP : Nat) (lk : Nat) (xB : Nat) (xR : Nat) (xL : Nat) (xN : Nat) (xQ : Nat) (rp : Bool) (x : Int32) (hl1 : 0 < ln) (hln : ln ≤ 24) : CtI l y_M_define (w_M_define) ({ frames := 0, cells := 0, slots := 0, locals := 0 }) D vwCl (TYs cI cZ cJ cG) (gG tF) [.ref xM, .int x] [(xM, .inr (6, [.int cd, .int (nI n), .ref xK, .ref xV, .int (nI ln), .ref xC, .ref xH, .int (nI ct), .ref xT, .ref xP, .int (nI lk), .ref xB, .ref xR, .ref xL, .ref xN, .ref xQ, .int (nI rp.toNat)]))] 0 0 (fun _ : Unit => [(xM, .inr (6, [.int (nI 0), .int (nI n), .ref xK, .ref xV, .int (nI ln), .ref xC, .ref xH, .int (nI ct), .ref xT, .ref xP, .int (nI lk), .ref xB, .ref xR, .ref xL, .ref xN, .ref xQ, .int (nI rp.toNat)]))]) (fun (r : Int32) (_ : Unit) => r = nI 3) := by
  refine CtI.of (cc := b_M_define) (maxL := 4) (ret := (some .int)) (by decide) rfl (Nat.le_of_ble_eq_true rfl) ?_
  intro p e s m args below meth c A ls hF hA hP hK hD hg hS hl
  obtain ⟨hx, hb, hrt, hlk, hml, hown, hts, hnm⟩ := hF
  have hown : s.vm.findClass R_M = some m.cls := hown
  have hl : lv_has ls 4 [(0, .ref xM), (1, .int x)] := hl
  refine lv_aload_n hx hb d_M_define_0 rfl (lv_at hl 0 rfl) ?_
  refine lv_iconst (v := nI 0) hx hb d_M_define_1 (by decide) ?_
  refine va_put (D := D) (ci := 6) (v := .int (nI 0)) (ty := .int) (C := R_M) (T := F_M) (N := 17) hx hb hts in_M t_M t_M_ok n_M hown hK hP hD hS 0 rfl rfl 0 (by decide) (hts _ (List.mem_cons_of_mem _ k_583)) (fun _ h9 => h9) rfl (by decide +kernel) rfl rfl (Nat.le_of_ble_eq_true rfl) d_M_define_2 (fun H locs hP hD hS => ?_)
  have hP : va_P D vwCl [(xM, .inr (6, [.int (nI 0), .int (nI n), .ref xK, .ref xV, .int (nI ln), .ref xC, .ref xH, .int (nI ct), .ref xT, .ref xP, .int (nI lk), .ref xB, .ref xR, .ref xL, .ref xN, .ref xQ, .int (nI rp.toNat)]))] H := hP
  have hD : va_D A [(xM, .inr (6, [.int (nI 0), .int (nI n), .ref xK, .ref xV, .int (nI ln), .ref xC, .ref xH, .int (nI ct), .ref xT, .ref xP, .int (nI lk), .ref xB, .ref xR, .ref xL, .ref xN, .ref xQ, .int (nI rp.toNat)]))] := hD
  refine lv_aload_n hx hb d_M_define_5 rfl (lv_at hl 0 rfl) ?_
  refine va_get (D := D) (ci := 6) (v := .int (nI ln)) (C := R_M) (T := F_M) (N := 17) hx hb hts in_M hown hK hP 0 rfl rfl 4 (by decide) (hts _ (List.mem_cons_of_mem _ k_587)) (fun _ h9 => h9) rfl d_M_define_6 ?_
  refine xb_le hx hb 14 (by omega) d_M_define_9 rfl (fun h9 => ?_) (fun h9 => ?_)
  · skip
    exact absurd h9 (by omega)
  refine lv_iconst (v := nI 3) hx hb d_M_define_12 (by decide) ?_
  exact xr_i hx hb hrt hlk rfl hP hD hS () [0] (by decide) rfl rfl d_M_define_13
set_option maxHeartbeats 4000000 in
set_option maxRecDepth 100000 in
theorem c_M_define_1 (xM : Nat) (cd : Int32) (n : Nat) (xK : Nat) (xV : Nat) (xC : Nat) (xH : Nat) (ct : Nat) (xT : Nat) (xP : Nat) (lk : Nat) (xB : Nat) (xR : Nat) (xL : Nat) (xN : Nat) (xQ : Nat) (rp : Bool) (gv : Nat → Int32) (x : Int32) (hno : ¬ dgv gv x) (hz : ∀ j, j < 24 → gv j = nI 0 ∨ gv j = nI 1) : CtI l y_M_define (w_M_define) ({ frames := 0, cells := 0, slots := 0, locals := 0 }) D vwCl (TYs cI cZ cJ cG) (gG tF) [.ref xM, .int x] [(xM, .inr (6, [.int cd, .int (nI n), .ref xK, .ref xV, .int (nI 0), .ref xC, .ref xH, .int (nI ct), .ref xT, .ref xP, .int (nI lk), .ref xB, .ref xR, .ref xL, .ref xN, .ref xQ, .int (nI rp.toNat)])), (xV, .inl (cZ, 24, .inl gv))] 0 0 (fun _ : Unit => [(xM, .inr (6, [.int (nI 0), .int (nI n), .ref xK, .ref xV, .int (nI 0), .ref xC, .ref xH, .int (nI ct), .ref xT, .ref xP, .int (nI lk), .ref xB, .ref xR, .ref xL, .ref xN, .ref xQ, .int (nI rp.toNat)])), (xV, .inl (cZ, 24, .inl gv))]) (fun (r : Int32) (_ : Unit) => r = nI 1) := by
  refine CtI.of (cc := b_M_define) (maxL := 4) (ret := (some .int)) (by decide) rfl (Nat.le_of_ble_eq_true rfl) ?_
  intro p e s m args below meth c A ls hF hA hP hK hD hg hS hl
  obtain ⟨hx, hb, hrt, hlk, hml, hown, hts, hnm⟩ := hF
  have hown : s.vm.findClass R_M = some m.cls := hown
  have hl : lv_has ls 4 [(0, .ref xM), (1, .int x)] := hl
  refine lv_aload_n hx hb d_M_define_0 rfl (lv_at hl 0 rfl) ?_
  refine lv_iconst (v := nI 0) hx hb d_M_define_1 (by decide) ?_
  refine va_put (D := D) (ci := 6) (v := .int (nI 0)) (ty := .int) (C := R_M) (T := F_M) (N := 17) hx hb hts in_M t_M t_M_ok n_M hown hK hP hD hS 0 rfl rfl 0 (by decide) (hts _ (List.mem_cons_of_mem _ k_583)) (fun _ h9 => h9) rfl (by decide +kernel) rfl rfl (Nat.le_of_ble_eq_true rfl) d_M_define_2 (fun H locs hP hD hS => ?_)
  have hP : va_P D vwCl [(xM, .inr (6, [.int (nI 0), .int (nI n), .ref xK, .ref xV, .int (nI 0), .ref xC, .ref xH, .int (nI ct), .ref xT, .ref xP, .int (nI lk), .ref xB, .ref xR, .ref xL, .ref xN, .ref xQ, .int (nI rp.toNat)])), (xV, .inl (cZ, 24, .inl gv))] H := hP
  have hD : va_D A [(xM, .inr (6, [.int (nI 0), .int (nI n), .ref xK, .ref xV, .int (nI 0), .ref xC, .ref xH, .int (nI ct), .ref xT, .ref xP, .int (nI lk), .ref xB, .ref xR, .ref xL, .ref xN, .ref xQ, .int (nI rp.toNat)])), (xV, .inl (cZ, 24, .inl gv))] := hD
  refine lv_aload_n hx hb d_M_define_5 rfl (lv_at hl 0 rfl) ?_
  refine va_get (D := D) (ci := 6) (v := .int (nI 0)) (C := R_M) (T := F_M) (N := 17) hx hb hts in_M hown hK hP 0 rfl rfl 4 (by decide) (hts _ (List.mem_cons_of_mem _ k_587)) (fun _ h9 => h9) rfl d_M_define_6 ?_
  refine xb_le hx hb 14 (by decide) d_M_define_9 rfl (fun _ => ?_) (fun h => absurd h (by decide))
  refine xn_pc (pc2 := 14) rfl ?_
  refine xj_1 (fun (gb : Bool) ls H locs => (gb = true → ¬ x ≤ 0 ∧ ¬ nI 25 ≤ x) ∧ lv_has ls 4 [(0, .ref xM), (1, .int x)] ∧ va_P D vwCl [(xM, .inr (6, [.int (nI 0), .int (nI n), .ref xK, .ref xV, .int (nI 0), .ref xC, .ref xH, .int (nI ct), .ref xT, .ref xP, .int (nI lk), .ref xB, .ref xR, .ref xL, .ref xN, .ref xQ, .int (nI rp.toNat)])), (xV, .inl (cZ, 24, .inl gv))] H ∧ va_D A [(xM, .inr (6, [.int (nI 0), .int (nI n), .ref xK, .ref xV, .int (nI 0), .ref xC, .ref xH, .int (nI ct), .ref xT, .ref xP, .int (nI lk), .ref xB, .ref xR, .ref xL, .ref xN, .ref xQ, .int (nI rp.toNat)])), (xV, .inl (cZ, 24, .inl gv))] ∧ va_S A s.heap H locs) 29 (fun (gb : Bool) => [.int (nI gb.toNat)]) 0 0 (fun gb ls H locs hI => ?_) (fun hj => ?_)
  · obtain ⟨hgb, hl, hP, hD, hS⟩ := hI
    refine lv_istore_n hx hb d_M_define_29 rfl hl (by decide) rfl (fun ls hl => ?_)
    have hl : lv_has ls 4 [(2, .int (nI gb.toNat)), (0, .ref xM), (1, .int x)] := hl
    refine lv_iconst (v := nI 0) hx hb d_M_define_30 (by decide) ?_
    refine lv_istore_n hx hb d_M_define_31 rfl hl (by decide) rfl (fun ls hl => ?_)
    have hl : lv_has ls 4 [(3, .int (nI 0)), (2, .int (nI gb.toNat)), (0, .ref xM), (1, .int x)] := hl
    have hl : lv_has ls 4 [(0, .ref xM), (1, .int x), (2, .int (nI gb.toNat)), (3, .int (nI 0))] := lv_sub hl [2, 3, 1, 0] rfl
    have hP := hP.sub (ws' := [(xM, .inr (6, [.int (nI 0), .int (nI n), .ref xK, .ref xV, .int (nI 0), .ref xC, .ref xH, .int (nI ct), .ref xT, .ref xP, .int (nI lk), .ref xB, .ref xR, .ref xL, .ref xN, .ref xQ, .int (nI rp.toNat)])), (xV, .inl (cZ, 24, .inl gv))]) [0, 1] rfl
    have hD := hD.sub (ws' := [(xM, .inr (6, [.int (nI 0), .int (nI n), .ref xK, .ref xV, .int (nI 0), .ref xC, .ref xH, .int (nI ct), .ref xT, .ref xP, .int (nI lk), .ref xB, .ref xR, .ref xL, .ref xN, .ref xQ, .int (nI rp.toNat)])), (xV, .inl (cZ, 24, .inl gv))]) [0, 1] (by decide) rfl
    refine xn_pc (pc2 := 32) rfl ?_
    refine xl_2 (fun (i : Nat) (gb2 : Bool) ls H locs => (i ≤ 24) ∧ (gb2 = true → (¬ x ≤ 0 ∧ ¬ nI 25 ≤ x) ∧ ∀ j, j < i → gv j = nI 1) ∧ lv_has ls 4 [(0, .ref xM), (1, .int x), (2, .int (nI gb2.toNat)), (3, .int (nI i))] ∧ va_P D vwCl [(xM, .inr (6, [.int (nI 0), .int (nI n), .ref xK, .ref xV, .int (nI 0), .ref xC, .ref xH, .int (nI ct), .ref xT, .ref xP, .int (nI lk), .ref xB, .ref xR, .ref xL, .ref xN, .ref xQ, .int (nI rp.toNat)])), (xV, .inl (cZ, 24, .inl gv))] H ∧ va_D A [(xM, .inr (6, [.int (nI 0), .int (nI n), .ref xK, .ref xV, .int (nI 0), .ref xC, .ref xH, .int (nI ct), .ref xT, .ref xP, .int (nI lk), .ref xB, .ref xR, .ref xL, .ref xN, .ref xQ, .int (nI rp.toNat)])), (xV, .inl (cZ, 24, .inl gv))] ∧ va_S A s.heap H locs) (fun (i : Nat) (gb2 : Bool) => 24 - i) (fun i gb2 ls H locs hI ih => ?_) 0 gb ⟨Nat.zero_le 24, fun h => ⟨hgb h, fun j hj => absurd hj (Nat.not_lt_zero j)⟩, hl, hP, hD, hS⟩
    obtain ⟨hi1, hi2, hl, hP, hD, hS⟩ := hI
    refine lv_iload_n hx hb d_M_define_32 rfl (lv_at hl 3 rfl) ?_
    refine lv_iload_n hx hb d_M_define_33 rfl (lv_at hl 1 rfl) ?_
    refine lv_icmp_ge (tgt := 68) hx hb d_M_define_34 rfl (fun h34 => ?_) (fun h34 => ?_)
    · skip
      refine lv_iload_n hx hb d_M_define_68 rfl (lv_at hl 2 rfl) ?_
      refine xb_neB (x := gb2) hx hb 74 d_M_define_69 rfl (fun h69 => ?_) (fun h69 => ?_)
      · skip
        obtain ⟨⟨r1, r2⟩, r3⟩ := hi2 h69
        obtain ⟨len, e1, e2, rfl⟩ := dg_of r1 r2
        refine absurd ⟨len, e1, e2, rfl, fun j hj => r3 j ?_⟩ hno
        first | (have h9 := (nI_leI (a := len) (b := i) (by omega) (by omega)).mp h34; omega) | omega
      refine lv_iconst (v := nI 1) hx hb d_M_define_72 (by decide) ?_
      exact xr_i hx hb hrt hlk rfl hP hD hS () [0, 1] (by decide) rfl rfl d_M_define_73
    refine lv_iload_n hx hb d_M_define_37 rfl (lv_at hl 3 rfl) ?_
    refine lv_bipush (v := nI 24) hx hb d_M_define_38 (by decide) ?_
    refine xb_cge hx hb 68 (by omega) (by omega) d_M_define_40 rfl (fun h40 => ?_) (fun h40 => ?_)
    · skip
      refine lv_iload_n hx hb d_M_define_68 rfl (lv_at hl 2 rfl) ?_
      refine xb_neB (x := gb2) hx hb 74 d_M_define_69 rfl (fun h69 => ?_) (fun h69 => ?_)
      · skip
        obtain ⟨⟨r1, r2⟩, r3⟩ := hi2 h69
        obtain ⟨len, e1, e2, rfl⟩ := dg_of r1 r2
        refine absurd ⟨len, e1, e2, rfl, fun j hj => r3 j ?_⟩ hno
        first | (have h9 := (nI_leI (a := len) (b := i) (by omega) (by omega)).mp h34; omega) | omega
      refine lv_iconst (v := nI 1) hx hb d_M_define_72 (by decide) ?_
      exact xr_i hx hb hrt hlk rfl hP hD hS () [0, 1] (by decide) rfl rfl d_M_define_73
    refine xn_pc (pc2 := 43) rfl ?_
    refine xj_1 (fun (g2 : Bool) ls H locs => (g2 = true → gb2 = true ∧ gv i = nI 1) ∧ lv_has ls 4 [(0, .ref xM), (1, .int x), (3, .int (nI i))] ∧ va_P D vwCl [(xM, .inr (6, [.int (nI 0), .int (nI n), .ref xK, .ref xV, .int (nI 0), .ref xC, .ref xH, .int (nI ct), .ref xT, .ref xP, .int (nI lk), .ref xB, .ref xR, .ref xL, .ref xN, .ref xQ, .int (nI rp.toNat)])), (xV, .inl (cZ, 24, .inl gv))] H ∧ va_D A [(xM, .inr (6, [.int (nI 0), .int (nI n), .ref xK, .ref xV, .int (nI 0), .ref xC, .ref xH, .int (nI ct), .ref xT, .ref xP, .int (nI lk), .ref xB, .ref xR, .ref xL, .ref xN, .ref xQ, .int (nI rp.toNat)])), (xV, .inl (cZ, 24, .inl gv))] ∧ va_S A s.heap H locs) 61 (fun (g2 : Bool) => [.int (nI g2.toNat)]) 0 0 (fun g2 ls H locs hI => ?_) (fun hj1 => ?_)
    · obtain ⟨hg2, hl, hP, hD, hS⟩ := hI
      refine lv_istore_n hx hb d_M_define_61 rfl hl (by decide) rfl (fun ls hl => ?_)
      have hl : lv_has ls 4 [(2, .int (nI g2.toNat)), (0, .ref xM), (1, .int x), (3, .int (nI i))] := hl
      refine lv_iinc (k := 3) (v := nI (i + 1)) hx hb d_M_define_62 hl rfl (xi_1 _) (by decide) rfl (fun ls hl => ?_)
      have hl : lv_has ls 4 [(3, .int (nI (i + 1))), (2, .int (nI g2.toNat)), (0, .ref xM), (1, .int x)] := hl
      refine lv_goto (tgt := 32) hx hb d_M_define_65 rfl ?_
      have hl : lv_has ls 4 [(0, .ref xM), (1, .int x), (2, .int (nI g2.toNat)), (3, .int (nI (i + 1)))] := lv_sub hl [2, 3, 1, 0] rfl
      have hP := hP.sub (ws' := [(xM, .inr (6, [.int (nI 0), .int (nI n), .ref xK, .ref xV, .int (nI 0), .ref xC, .ref xH, .int (nI ct), .ref xT, .ref xP, .int (nI lk), .ref xB, .ref xR, .ref xL, .ref xN, .ref xQ, .int (nI rp.toNat)])), (xV, .inl (cZ, 24, .inl gv))]) [0, 1] rfl
      have hD := hD.sub (ws' := [(xM, .inr (6, [.int (nI 0), .int (nI n), .ref xK, .ref xV, .int (nI 0), .ref xC, .ref xH, .int (nI ct), .ref xT, .ref xP, .int (nI lk), .ref xB, .ref xR, .ref xL, .ref xN, .ref xQ, .int (nI rp.toNat)])), (xV, .inl (cZ, 24, .inl gv))]) [0, 1] (by decide) rfl
      exact ih (i + 1) g2 _ _ _ (by omega) ⟨h40, fun h => ⟨(hi2 (hg2 h).1).1, lt_s (hi2 (hg2 h).1).2 (hg2 h).2⟩, hl, hP, hD, hS⟩
    refine lv_iload_n hx hb d_M_define_43 rfl (lv_at hl 2 rfl) ?_
    refine xb_eqB (x := gb2) hx hb 60 d_M_define_44 rfl (fun h44 => ?_) (fun h44 => ?_)
    · skip
      refine lv_iconst (v := nI 0) hx hb d_M_define_60 (by decide) ?_
      have hl : lv_has ls 4 [(0, .ref xM), (1, .int x), (3, .int (nI i))] := lv_sub hl [0, 1, 3] rfl
      have hP := hP.sub (ws' := [(xM, .inr (6, [.int (nI 0), .int (nI n), .ref xK, .ref xV, .int (nI 0), .ref xC, .ref xH, .int (nI ct), .ref xT, .ref xP, .int (nI lk), .ref xB, .ref xR, .ref xL, .ref xN, .ref xQ, .int (nI rp.toNat)])), (xV, .inl (cZ, 24, .inl gv))]) [0, 1] rfl
      have hD := hD.sub (ws' := [(xM, .inr (6, [.int (nI 0), .int (nI n), .ref xK, .ref xV, .int (nI 0), .ref xC, .ref xH, .int (nI ct), .ref xT, .ref xP, .int (nI lk), .ref xB, .ref xR, .ref xL, .ref xN, .ref xQ, .int (nI rp.toNat)])), (xV, .inl (cZ, 24, .inl gv))]) [0, 1] (by decide) rfl
      exact hj1 false _ _ _ ⟨fun h => (by cases h), hl, hP, hD, hS⟩
    refine lv_aload_n hx hb d_M_define_47 rfl (lv_at hl 0 rfl) ?_
    refine va_get (D := D) (ci := 6) (v := .ref xV) (C := R_M) (T := F_M) (N := 17) hx hb hts in_M hown hK hP 0 rfl rfl 3 (by decide) (hts _ (List.mem_cons_of_mem _ k_586)) (fun _ h9 => h9) rfl d_M_define_48 ?_
    refine lv_iload_n hx hb d_M_define_51 rfl (lv_at hl 3 rfl) ?_
    refine xa_zald (v := gv i) hx hb hK hP 1 1 rfl rfl (by omega) (by decide) rfl d_M_define_52 ?_
    refine lv_if_eq (tgt := 60) hx hb d_M_define_53 rfl (fun h53 => ?_) (fun h53 => ?_)
    · skip
      refine lv_iconst (v := nI 0) hx hb d_M_define_60 (by decide) ?_
      have hl : lv_has ls 4 [(0, .ref xM), (1, .int x), (3, .int (nI i))] := lv_sub hl [0, 1, 3] rfl
      have hP := hP.sub (ws' := [(xM, .inr (6, [.int (nI 0), .int (nI n), .ref xK, .ref xV, .int (nI 0), .ref xC, .ref xH, .int (nI ct), .ref xT, .ref xP, .int (nI lk), .ref xB, .ref xR, .ref xL, .ref xN, .ref xQ, .int (nI rp.toNat)])), (xV, .inl (cZ, 24, .inl gv))]) [0, 1] rfl
      have hD := hD.sub (ws' := [(xM, .inr (6, [.int (nI 0), .int (nI n), .ref xK, .ref xV, .int (nI 0), .ref xC, .ref xH, .int (nI ct), .ref xT, .ref xP, .int (nI lk), .ref xB, .ref xR, .ref xL, .ref xN, .ref xQ, .int (nI rp.toNat)])), (xV, .inl (cZ, 24, .inl gv))]) [0, 1] (by decide) rfl
      exact hj1 false _ _ _ ⟨fun h => (by cases h), hl, hP, hD, hS⟩
    refine lv_iconst (v := nI 1) hx hb d_M_define_56 (by decide) ?_
    refine lv_goto (tgt := 61) hx hb d_M_define_57 rfl ?_
    have hl : lv_has ls 4 [(0, .ref xM), (1, .int x), (3, .int (nI i))] := lv_sub hl [0, 1, 3] rfl
    have hP := hP.sub (ws' := [(xM, .inr (6, [.int (nI 0), .int (nI n), .ref xK, .ref xV, .int (nI 0), .ref xC, .ref xH, .int (nI ct), .ref xT, .ref xP, .int (nI lk), .ref xB, .ref xR, .ref xL, .ref xN, .ref xQ, .int (nI rp.toNat)])), (xV, .inl (cZ, 24, .inl gv))]) [0, 1] rfl
    have hD := hD.sub (ws' := [(xM, .inr (6, [.int (nI 0), .int (nI n), .ref xK, .ref xV, .int (nI 0), .ref xC, .ref xH, .int (nI ct), .ref xT, .ref xP, .int (nI lk), .ref xB, .ref xR, .ref xL, .ref xN, .ref xQ, .int (nI rp.toNat)])), (xV, .inl (cZ, 24, .inl gv))]) [0, 1] (by decide) rfl
    exact hj1 true _ _ _ ⟨fun _ => ⟨h44, (hz i h40).resolve_left (by rw [nI_0]; exact h53)⟩, hl, hP, hD, hS⟩
  refine lv_iload_n hx hb d_M_define_14 rfl (lv_at hl 1 rfl) ?_
  refine lv_if_le (tgt := 28) hx hb d_M_define_15 rfl (fun h15 => ?_) (fun h15 => ?_)
  · skip
    refine lv_iconst (v := nI 0) hx hb d_M_define_28 (by decide) ?_
    have hl : lv_has ls 4 [(0, .ref xM), (1, .int x)] := lv_sub hl [0, 1] rfl
    have hP := hP.sub (ws' := [(xM, .inr (6, [.int (nI 0), .int (nI n), .ref xK, .ref xV, .int (nI 0), .ref xC, .ref xH, .int (nI ct), .ref xT, .ref xP, .int (nI lk), .ref xB, .ref xR, .ref xL, .ref xN, .ref xQ, .int (nI rp.toNat)])), (xV, .inl (cZ, 24, .inl gv))]) [0, 1] rfl
    have hD := hD.sub (ws' := [(xM, .inr (6, [.int (nI 0), .int (nI n), .ref xK, .ref xV, .int (nI 0), .ref xC, .ref xH, .int (nI ct), .ref xT, .ref xP, .int (nI lk), .ref xB, .ref xR, .ref xL, .ref xN, .ref xQ, .int (nI rp.toNat)])), (xV, .inl (cZ, 24, .inl gv))]) [0, 1] (by decide) rfl
    exact hj false _ _ _ ⟨fun h => (by cases h), hl, hP, hD, hS⟩
  refine lv_iload_n hx hb d_M_define_18 rfl (lv_at hl 1 rfl) ?_
  refine lv_bipush (v := nI 25) hx hb d_M_define_19 (by decide) ?_
  refine lv_icmp_ge (tgt := 28) hx hb d_M_define_21 rfl (fun h21 => ?_) (fun h21 => ?_)
  · skip
    refine lv_iconst (v := nI 0) hx hb d_M_define_28 (by decide) ?_
    have hl : lv_has ls 4 [(0, .ref xM), (1, .int x)] := lv_sub hl [0, 1] rfl
    have hP := hP.sub (ws' := [(xM, .inr (6, [.int (nI 0), .int (nI n), .ref xK, .ref xV, .int (nI 0), .ref xC, .ref xH, .int (nI ct), .ref xT, .ref xP, .int (nI lk), .ref xB, .ref xR, .ref xL, .ref xN, .ref xQ, .int (nI rp.toNat)])), (xV, .inl (cZ, 24, .inl gv))]) [0, 1] rfl
    have hD := hD.sub (ws' := [(xM, .inr (6, [.int (nI 0), .int (nI n), .ref xK, .ref xV, .int (nI 0), .ref xC, .ref xH, .int (nI ct), .ref xT, .ref xP, .int (nI lk), .ref xB, .ref xR, .ref xL, .ref xN, .ref xQ, .int (nI rp.toNat)])), (xV, .inl (cZ, 24, .inl gv))]) [0, 1] (by decide) rfl
    exact hj false _ _ _ ⟨fun h => (by cases h), hl, hP, hD, hS⟩
  refine lv_iconst (v := nI 1) hx hb d_M_define_24 (by decide) ?_
  refine lv_goto (tgt := 29) hx hb d_M_define_25 rfl ?_
  have hl : lv_has ls 4 [(0, .ref xM), (1, .int x)] := lv_sub hl [0, 1] rfl
  have hP := hP.sub (ws' := [(xM, .inr (6, [.int (nI 0), .int (nI n), .ref xK, .ref xV, .int (nI 0), .ref xC, .ref xH, .int (nI ct), .ref xT, .ref xP, .int (nI lk), .ref xB, .ref xR, .ref xL, .ref xN, .ref xQ, .int (nI rp.toNat)])), (xV, .inl (cZ, 24, .inl gv))]) [0, 1] rfl
  have hD := hD.sub (ws' := [(xM, .inr (6, [.int (nI 0), .int (nI n), .ref xK, .ref xV, .int (nI 0), .ref xC, .ref xH, .int (nI ct), .ref xT, .ref xP, .int (nI lk), .ref xB, .ref xR, .ref xL, .ref xN, .ref xQ, .int (nI rp.toNat)])), (xV, .inl (cZ, 24, .inl gv))]) [0, 1] (by decide) rfl
  exact hj true _ _ _ ⟨fun _ => ⟨h15, h21⟩, hl, hP, hD, hS⟩
set_option maxHeartbeats 4000000 in
set_option maxRecDepth 100000 in
theorem c_M_define (xM : Nat) (cd : Int32) (n : Nat) (xK : Nat) (xV : Nat) (xC : Nat) (xH : Nat) (ct : Nat) (xT : Nat) (xP : Nat) (lk : Nat) (xB : Nat) (xR : Nat) (xL : Nat) (xN : Nat) (xQ : Nat) (rp : Bool) (B : Nat → Int32) (Rk : Nat → Int32) (km : Nat → Int32) (cq : Nat → Int32) (gv : Nat → Int32) (mw : Nat → Nat) (len : Nat) (hn : nb n) (hle1 : 1 ≤ len) (hle2 : len ≤ 24) (hgv : ∀ j, j < len → gv j = nI 1) (hm : ∀ j, j < len → km j = nI (mw j) ∧ gd n (mw j) = true) : CtI l y_M_define (w_M_define) ({ frames := 3, cells := 0, slots := 0, locals := 72 }) D vwCl (TYs cI cZ cJ cG) (gG tF) [.ref xM, .int (nI len)] [(xM, .inr (6, [.int cd, .int (nI n), .ref xK, .ref xV, .int (nI 0), .ref xC, .ref xH, .int (nI ct), .ref xT, .ref xP, .int (nI lk), .ref xB, .ref xR, .ref xL, .ref xN, .ref xQ, .int (nI rp.toNat)])), (xK, .inl (cI, 24, .inl km)), (xC, .inl (cI, 3, .inl cq)), (xV, .inl (cZ, 24, .inl gv)), (xB, .inl (cI, 4326, .inl B)), (xR, .inl (cI, 721, .inl Rk))] 0 0 (fun u : (Nat → Int32) × (Nat → Int32) => match u with | (B2, Rk2) => [(xM, .inr (6, [.int (nI 0), .int (nI n), .ref xK, .ref xV, .int (nI (if decide (ro n (ld n mw 0 len) 0 = 1) then len else 0)), .ref xC, .ref xH, .int (nI ct), .ref xT, .ref xP, .int (nI lk), .ref xB, .ref xR, .ref xL, .ref xN, .ref xQ, .int (nI rp.toNat)])), (xK, .inl (cI, 24, .inl km)), (xC, .inl (cI, 3, .inl cq)), (xV, .inl (cZ, 24, .inl gv)), (xB, .inl (cI, 4326, .inl B2)), (xR, .inl (cI, 721, .inl Rk2))]) (fun (r : Int32) (u : (Nat → Int32) × (Nat → Int32)) => match u with | (B2, Rk2) => r = nI (if decide (ro n (ld n mw 0 len) 0 = 1) then 0 else 2)) := by
  refine CtI.of (cc := b_M_define) (maxL := 4) (ret := (some .int)) (by decide) rfl (Nat.le_of_ble_eq_true rfl) ?_
  intro p e s m args below meth c A ls hF hA hP hK hD hg hS hl
  obtain ⟨hx, hb, hrt, hlk, hml, hown, hts, hnm⟩ := hF
  have hown : s.vm.findClass R_M = some m.cls := hown
  have hl : lv_has ls 4 [(0, .ref xM), (1, .int (nI len))] := hl
  have hn4 : 4 ≤ n := hn.1
  have hn6 : n ≤ 6 := hn.2
  have hfa : fa n ≤ 720 := fa_le hn
  have hgm : gmr n len km cq 0 mw := fun j hj => by rw [if_neg (fun h => Nat.lt_irrefl 0 h.1)]; exact hm j hj
  have hlt := ld_lt (ln := len) hn (fun j hj => (hm j hj).2) (fa_pos n)
  refine lv_aload_n hx hb d_M_define_0 rfl (lv_at hl 0 rfl) ?_
  refine lv_iconst (v := nI 0) hx hb d_M_define_1 (by decide) ?_
  refine va_put (D := D) (ci := 6) (v := .int (nI 0)) (ty := .int) (C := R_M) (T := F_M) (N := 17) hx hb hts in_M t_M t_M_ok n_M hown hK hP hD hS 0 rfl rfl 0 (by decide) (hts _ (List.mem_cons_of_mem _ k_583)) (fun _ h9 => h9) rfl (by decide +kernel) rfl rfl (Nat.le_of_ble_eq_true rfl) d_M_define_2 (fun H locs hP hD hS => ?_)
  have hP : va_P D vwCl [(xM, .inr (6, [.int (nI 0), .int (nI n), .ref xK, .ref xV, .int (nI 0), .ref xC, .ref xH, .int (nI ct), .ref xT, .ref xP, .int (nI lk), .ref xB, .ref xR, .ref xL, .ref xN, .ref xQ, .int (nI rp.toNat)])), (xK, .inl (cI, 24, .inl km)), (xC, .inl (cI, 3, .inl cq)), (xV, .inl (cZ, 24, .inl gv)), (xB, .inl (cI, 4326, .inl B)), (xR, .inl (cI, 721, .inl Rk))] H := hP
  have hD : va_D A [(xM, .inr (6, [.int (nI 0), .int (nI n), .ref xK, .ref xV, .int (nI 0), .ref xC, .ref xH, .int (nI ct), .ref xT, .ref xP, .int (nI lk), .ref xB, .ref xR, .ref xL, .ref xN, .ref xQ, .int (nI rp.toNat)])), (xK, .inl (cI, 24, .inl km)), (xC, .inl (cI, 3, .inl cq)), (xV, .inl (cZ, 24, .inl gv)), (xB, .inl (cI, 4326, .inl B)), (xR, .inl (cI, 721, .inl Rk))] := hD
  refine lv_aload_n hx hb d_M_define_5 rfl (lv_at hl 0 rfl) ?_
  refine va_get (D := D) (ci := 6) (v := .int (nI 0)) (C := R_M) (T := F_M) (N := 17) hx hb hts in_M hown hK hP 0 rfl rfl 4 (by decide) (hts _ (List.mem_cons_of_mem _ k_587)) (fun _ h9 => h9) rfl d_M_define_6 ?_
  refine xb_le hx hb 14 (by decide) d_M_define_9 rfl (fun _ => ?_) (fun h => absurd h (by decide))
  refine lv_iload_n hx hb d_M_define_14 rfl (lv_at hl 1 rfl) ?_
  refine xb_le hx hb 28 (by omega) d_M_define_15 rfl (fun h15 => ?_) (fun h15 => ?_)
  · skip
    exact absurd h15 (by omega)
  refine lv_iload_n hx hb d_M_define_18 rfl (lv_at hl 1 rfl) ?_
  refine lv_bipush (v := nI 25) hx hb d_M_define_19 (by decide) ?_
  refine xb_cge hx hb 28 (by omega) (by omega) d_M_define_21 rfl (fun h21 => ?_) (fun h21 => ?_)
  · skip
    exact absurd h21 (by omega)
  refine lv_iconst (v := nI 1) hx hb d_M_define_24 (by decide) ?_
  refine lv_goto (tgt := 29) hx hb d_M_define_25 rfl ?_
  refine lv_istore_n hx hb d_M_define_29 rfl hl (by decide) rfl (fun ls hl => ?_)
  have hl : lv_has ls 4 [(2, .int (nI 1)), (0, .ref xM), (1, .int (nI len))] := hl
  refine lv_iconst (v := nI 0) hx hb d_M_define_30 (by decide) ?_
  refine lv_istore_n hx hb d_M_define_31 rfl hl (by decide) rfl (fun ls hl => ?_)
  have hl : lv_has ls 4 [(3, .int (nI 0)), (2, .int (nI 1)), (0, .ref xM), (1, .int (nI len))] := hl
  have hl : lv_has ls 4 [(0, .ref xM), (1, .int (nI len)), (2, .int (nI 1)), (3, .int (nI 0))] := lv_sub hl [2, 3, 1, 0] rfl
  have hP := hP.sub (ws' := [(xM, .inr (6, [.int (nI 0), .int (nI n), .ref xK, .ref xV, .int (nI 0), .ref xC, .ref xH, .int (nI ct), .ref xT, .ref xP, .int (nI lk), .ref xB, .ref xR, .ref xL, .ref xN, .ref xQ, .int (nI rp.toNat)])), (xK, .inl (cI, 24, .inl km)), (xC, .inl (cI, 3, .inl cq)), (xV, .inl (cZ, 24, .inl gv)), (xB, .inl (cI, 4326, .inl B)), (xR, .inl (cI, 721, .inl Rk))]) [0, 1, 2, 3, 4, 5] rfl
  have hD := hD.sub (ws' := [(xM, .inr (6, [.int (nI 0), .int (nI n), .ref xK, .ref xV, .int (nI 0), .ref xC, .ref xH, .int (nI ct), .ref xT, .ref xP, .int (nI lk), .ref xB, .ref xR, .ref xL, .ref xN, .ref xQ, .int (nI rp.toNat)])), (xK, .inl (cI, 24, .inl km)), (xC, .inl (cI, 3, .inl cq)), (xV, .inl (cZ, 24, .inl gv)), (xB, .inl (cI, 4326, .inl B)), (xR, .inl (cI, 721, .inl Rk))]) [0, 1, 2, 3, 4, 5] (by decide) rfl
  refine xn_pc (pc2 := 32) rfl ?_
  refine xl_1 (fun (i : Nat) ls H locs => (i ≤ len) ∧ lv_has ls 4 [(0, .ref xM), (1, .int (nI len)), (2, .int (nI 1)), (3, .int (nI i))] ∧ va_P D vwCl [(xM, .inr (6, [.int (nI 0), .int (nI n), .ref xK, .ref xV, .int (nI 0), .ref xC, .ref xH, .int (nI ct), .ref xT, .ref xP, .int (nI lk), .ref xB, .ref xR, .ref xL, .ref xN, .ref xQ, .int (nI rp.toNat)])), (xK, .inl (cI, 24, .inl km)), (xC, .inl (cI, 3, .inl cq)), (xV, .inl (cZ, 24, .inl gv)), (xB, .inl (cI, 4326, .inl B)), (xR, .inl (cI, 721, .inl Rk))] H ∧ va_D A [(xM, .inr (6, [.int (nI 0), .int (nI n), .ref xK, .ref xV, .int (nI 0), .ref xC, .ref xH, .int (nI ct), .ref xT, .ref xP, .int (nI lk), .ref xB, .ref xR, .ref xL, .ref xN, .ref xQ, .int (nI rp.toNat)])), (xK, .inl (cI, 24, .inl km)), (xC, .inl (cI, 3, .inl cq)), (xV, .inl (cZ, 24, .inl gv)), (xB, .inl (cI, 4326, .inl B)), (xR, .inl (cI, 721, .inl Rk))] ∧ va_S A s.heap H locs) (fun (i : Nat) => len - i) (fun i ls H locs hI ih => ?_) 0 ⟨Nat.zero_le len, hl, hP, hD, hS⟩
  obtain ⟨hi1, hl, hP, hD, hS⟩ := hI
  refine lv_iload_n hx hb d_M_define_32 rfl (lv_at hl 3 rfl) ?_
  refine lv_iload_n hx hb d_M_define_33 rfl (lv_at hl 1 rfl) ?_
  refine xb_cge hx hb 68 (by omega) (by omega) d_M_define_34 rfl (fun h34 => ?_) (fun h34 => ?_)
  · skip
    refine lv_iload_n hx hb d_M_define_68 rfl (lv_at hl 2 rfl) ?_
    refine xb_ne hx hb 74 (by decide) d_M_define_69 rfl (fun _ => ?_) (fun h => absurd h (by decide))
    refine lv_aload_n hx hb d_M_define_74 rfl (lv_at hl 0 rfl) ?_
    refine lv_iload_n hx hb d_M_define_75 rfl (lv_at hl 1 rfl) ?_
    refine va_put (D := D) (ci := 6) (v := .int (nI len)) (ty := .int) (C := R_M) (T := F_M) (N := 17) hx hb hts in_M t_M t_M_ok n_M hown hK hP hD hS 0 rfl rfl 4 (by decide) (hts _ (List.mem_cons_of_mem _ k_587)) (fun _ h9 => h9) rfl (by decide +kernel) rfl rfl (Nat.le_of_ble_eq_true rfl) d_M_define_76 (fun H locs hP hD hS => ?_)
    have hP : va_P D vwCl [(xM, .inr (6, [.int (nI 0), .int (nI n), .ref xK, .ref xV, .int (nI len), .ref xC, .ref xH, .int (nI ct), .ref xT, .ref xP, .int (nI lk), .ref xB, .ref xR, .ref xL, .ref xN, .ref xQ, .int (nI rp.toNat)])), (xK, .inl (cI, 24, .inl km)), (xC, .inl (cI, 3, .inl cq)), (xV, .inl (cZ, 24, .inl gv)), (xB, .inl (cI, 4326, .inl B)), (xR, .inl (cI, 721, .inl Rk))] H := hP
    have hD : va_D A [(xM, .inr (6, [.int (nI 0), .int (nI n), .ref xK, .ref xV, .int (nI len), .ref xC, .ref xH, .int (nI ct), .ref xT, .ref xP, .int (nI lk), .ref xB, .ref xR, .ref xL, .ref xN, .ref xQ, .int (nI rp.toNat)])), (xK, .inl (cI, 24, .inl km)), (xC, .inl (cI, 3, .inl cq)), (xV, .inl (cZ, 24, .inl gv)), (xB, .inl (cI, 4326, .inl B)), (xR, .inl (cI, 721, .inl Rk))] := hD
    refine lv_aload_n hx hb d_M_define_79 rfl (lv_at hl 0 rfl) ?_
    refine lv_iconst (v := nI 0) hx hb d_M_define_80 (by decide) ?_
    refine xc_v (wc := [(xM, .inr (6, [.int (nI 0), .int (nI n), .ref xK, .ref xV, .int (nI len), .ref xC, .ref xH, .int (nI ct), .ref xT, .ref xP, .int (nI lk), .ref xB, .ref xR, .ref xL, .ref xN, .ref xQ, .int (nI rp.toNat)])), (xB, .inl (cI, 4326, .inl B)), (xR, .inl (cI, 721, .inl Rk))]) (wr := [(xK, .inl (cI, 24, .inl km)), (xC, .inl (cI, 3, .inl cq)), (xV, .inl (cZ, 24, .inl gv))]) (gG_ok tF) hK hP hD hS hA hg [0, 4, 5] [1, 2, 3] rfl rfl (by decide) (by decide) (by decide) (fun h1 h2 => va_runV (As := [.int (nI 0)]) (rest := []) ⟨hx, hb, hml, hown, hts⟩ (c_M_rounds xM (nI 0) n xK xV len xC xH ct xT xP lk xB xR xL xN xQ rp B Rk 0 hn (by decide) _) (cwV 1 hts (gV k_660 k_662 ks_M_rounds k_7 k_663) rfl rfl rfl (by decide +kernel) ⟨Nat.le_of_ble_eq_true rfl, Nat.le_of_ble_eq_true rfl⟩) ⟨h1, va_recv (q0 := 0) (ci := 6) hK hP rfl rfl, h2⟩ rfl rfl hl.1 rfl (lv_room (Nat.le_of_ble_eq_true rfl)) d_M_define_81 ⟨Nat.zero_le _, Nat.zero_le _⟩) (fun B2_ H locs hq9 hP hD hS => ?_)
    obtain ⟨hw81_0, hw81_1⟩ := hq9
    have hP : va_P D vwCl [(xK, .inl (cI, 24, .inl km)), (xC, .inl (cI, 3, .inl cq)), (xV, .inl (cZ, 24, .inl gv)), (xM, .inr (6, [.int (nI 0), .int (nI n), .ref xK, .ref xV, .int (nI len), .ref xC, .ref xH, .int (nI ct), .ref xT, .ref xP, .int (nI lk), .ref xB, .ref xR, .ref xL, .ref xN, .ref xQ, .int (nI rp.toNat)])), (xB, .inl (cI, 4326, .inl B2_)), (xR, .inl (cI, 721, .inl (upd Rk 0 (nI 0))))] H := hP
    have hD : va_D A [(xK, .inl (cI, 24, .inl km)), (xC, .inl (cI, 3, .inl cq)), (xV, .inl (cZ, 24, .inl gv)), (xM, .inr (6, [.int (nI 0), .int (nI n), .ref xK, .ref xV, .int (nI len), .ref xC, .ref xH, .int (nI ct), .ref xT, .ref xP, .int (nI lk), .ref xB, .ref xR, .ref xL, .ref xN, .ref xQ, .int (nI rp.toNat)])), (xB, .inl (cI, 4326, .inl B2_)), (xR, .inl (cI, 721, .inl (upd Rk 0 (nI 0))))] := hD
    refine lv_aload_n hx hb d_M_define_84 rfl (lv_at hl 0 rfl) ?_
    refine lv_iconst (v := nI 0) hx hb d_M_define_85 (by decide) ?_
    refine lv_iconst (v := nI 0) hx hb d_M_define_86 (by decide) ?_
    refine xc_v (wc := [(xM, .inr (6, [.int (nI 0), .int (nI n), .ref xK, .ref xV, .int (nI len), .ref xC, .ref xH, .int (nI ct), .ref xT, .ref xP, .int (nI lk), .ref xB, .ref xR, .ref xL, .ref xN, .ref xQ, .int (nI rp.toNat)])), (xK, .inl (cI, 24, .inl km)), (xC, .inl (cI, 3, .inl cq)), (xB, .inl (cI, 4326, .inl B2_)), (xR, .inl (cI, 721, .inl (upd Rk 0 (nI 0))))]) (wr := [(xV, .inl (cZ, 24, .inl gv))]) (gG_ok tF) hK hP hD hS hA hg [3, 0, 1, 4, 5] [2] rfl rfl (by decide) (by decide) (by decide) (fun h1 h2 => va_runV (As := [.int (nI 0), .int (nI 0)]) (rest := []) ⟨hx, hb, hml, hown, hts⟩ (c_M_lead xM (nI 0) n xK xV len xC xH ct xT xP lk xB xR xL xN xQ rp B2_ (upd Rk 0 (nI 0)) km cq 0 0 mw 0 hn (fa_pos n) hw81_0 (by omega) (by decide) hle2 hgm _) (cwV 2 hts (gV k_664 k_666 ks_M_lead k_7 k_667) rfl rfl rfl (by decide +kernel) ⟨Nat.le_of_ble_eq_true rfl, Nat.le_of_ble_eq_true rfl⟩) ⟨h1, va_recv (q0 := 3) (ci := 6) hK hP rfl rfl, h2⟩ rfl rfl hl.1 rfl (lv_room (Nat.le_of_ble_eq_true rfl)) d_M_define_87 ⟨Nat.zero_le _, Nat.zero_le _⟩) (fun u H locs hq9 hP hD hS => ?_)
    obtain ⟨B3, Rk3⟩ := u
    obtain ⟨hw87_0, hw87_1, hw87_2, hw87_3⟩ := hq9
    have hP : va_P D vwCl [(xV, .inl (cZ, 24, .inl gv)), (xM, .inr (6, [.int (nI 0), .int (nI n), .ref xK, .ref xV, .int (nI len), .ref xC, .ref xH, .int (nI ct), .ref xT, .ref xP, .int (nI lk), .ref xB, .ref xR, .ref xL, .ref xN, .ref xQ, .int (nI rp.toNat)])), (xK, .inl (cI, 24, .inl km)), (xC, .inl (cI, 3, .inl cq)), (xB, .inl (cI, 4326, .inl B3)), (xR, .inl (cI, 721, .inl Rk3))] H := hP
    have hD : va_D A [(xV, .inl (cZ, 24, .inl gv)), (xM, .inr (6, [.int (nI 0), .int (nI n), .ref xK, .ref xV, .int (nI len), .ref xC, .ref xH, .int (nI ct), .ref xT, .ref xP, .int (nI lk), .ref xB, .ref xR, .ref xL, .ref xN, .ref xQ, .int (nI rp.toNat)])), (xK, .inl (cI, 24, .inl km)), (xC, .inl (cI, 3, .inl cq)), (xB, .inl (cI, 4326, .inl B3)), (xR, .inl (cI, 721, .inl Rk3))] := hD
    refine lv_aload_n hx hb d_M_define_90 rfl (lv_at hl 0 rfl) ?_
    refine va_get (D := D) (ci := 6) (v := .ref xB) (C := R_M) (T := F_M) (N := 17) hx hb hts in_M hown hK hP 1 rfl rfl 11 (by decide) (hts _ (List.mem_cons_of_mem _ k_594)) (fun _ h9 => h9) rfl d_M_define_91 ?_
    refine lv_bipush (v := nI 6) hx hb d_M_define_94 (by decide) ?_
    refine lv_iload_n hx hb d_M_define_96 rfl (lv_at hl 1 rfl) ?_
    refine lv_imul hx hb d_M_define_97 ?_
    refine xn_i (y := nI (6 * len)) (pk_mul _ _) ?_
    have hr9 := ro_in hn (hlt len (Nat.le_refl len)) (p := 0) (by omega)
    refine xa_iald (v := nI (ro n (ld n mw 0 len) 0)) hx hb hK hP 4 0 rfl rfl (by omega) (by decide) (by have h9 := hw87_0 len (Nat.le_refl len) 0 (by omega); rw [Nat.zero_add, Nat.add_zero] at h9; exact h9) d_M_define_98 ?_
    refine lv_iconst (v := nI 1) hx hb d_M_define_99 (by decide) ?_
    refine xb_ceq hx hb 110 (by omega) (by omega) d_M_define_100 rfl (fun h100 => ?_) (fun h100 => ?_)
    · skip
      refine lv_iconst (v := nI 0) hx hb d_M_define_110 (by decide) ?_
      exact xr_i hx hb hrt hlk rfl hP hD hS (B3, Rk3) [1, 2, 3, 0, 4, 5] (by decide) (by rw [decide_eq_true h100] <;> rfl) (by rw [decide_eq_true h100]; rfl) d_M_define_111
    refine lv_aload_n hx hb d_M_define_103 rfl (lv_at hl 0 rfl) ?_
    refine lv_iconst (v := nI 0) hx hb d_M_define_104 (by decide) ?_
    refine va_put (D := D) (ci := 6) (v := .int (nI 0)) (ty := .int) (C := R_M) (T := F_M) (N := 17) hx hb hts in_M t_M t_M_ok n_M hown hK hP hD hS 1 rfl rfl 4 (by decide) (hts _ (List.mem_cons_of_mem _ k_587)) (fun _ h9 => h9) rfl (by decide +kernel) rfl rfl (Nat.le_of_ble_eq_true rfl) d_M_define_105 (fun H locs hP hD hS => ?_)
    have hP : va_P D vwCl [(xV, .inl (cZ, 24, .inl gv)), (xM, .inr (6, [.int (nI 0), .int (nI n), .ref xK, .ref xV, .int (nI 0), .ref xC, .ref xH, .int (nI ct), .ref xT, .ref xP, .int (nI lk), .ref xB, .ref xR, .ref xL, .ref xN, .ref xQ, .int (nI rp.toNat)])), (xK, .inl (cI, 24, .inl km)), (xC, .inl (cI, 3, .inl cq)), (xB, .inl (cI, 4326, .inl B3)), (xR, .inl (cI, 721, .inl Rk3))] H := hP
    have hD : va_D A [(xV, .inl (cZ, 24, .inl gv)), (xM, .inr (6, [.int (nI 0), .int (nI n), .ref xK, .ref xV, .int (nI 0), .ref xC, .ref xH, .int (nI ct), .ref xT, .ref xP, .int (nI lk), .ref xB, .ref xR, .ref xL, .ref xN, .ref xQ, .int (nI rp.toNat)])), (xK, .inl (cI, 24, .inl km)), (xC, .inl (cI, 3, .inl cq)), (xB, .inl (cI, 4326, .inl B3)), (xR, .inl (cI, 721, .inl Rk3))] := hD
    refine lv_iconst (v := nI 2) hx hb d_M_define_108 (by decide) ?_
    exact xr_i hx hb hrt hlk rfl hP hD hS (B3, Rk3) [1, 2, 3, 0, 4, 5] (by decide) (by rw [decide_eq_false h100] <;> rfl) (by rw [decide_eq_false h100]; rfl) d_M_define_109
  refine lv_iload_n hx hb d_M_define_37 rfl (lv_at hl 3 rfl) ?_
  refine lv_bipush (v := nI 24) hx hb d_M_define_38 (by decide) ?_
  refine xb_cge hx hb 68 (by omega) (by omega) d_M_define_40 rfl (fun h40 => ?_) (fun h40 => ?_)
  · skip
    exact absurd h40 (by omega)
  refine lv_iload_n hx hb d_M_define_43 rfl (lv_at hl 2 rfl) ?_
  refine xb_eq hx hb 60 (by decide) d_M_define_44 rfl (fun h => absurd h (by decide)) (fun _ => ?_)
  refine lv_aload_n hx hb d_M_define_47 rfl (lv_at hl 0 rfl) ?_
  refine va_get (D := D) (ci := 6) (v := .ref xV) (C := R_M) (T := F_M) (N := 17) hx hb hts in_M hown hK hP 0 rfl rfl 3 (by decide) (hts _ (List.mem_cons_of_mem _ k_586)) (fun _ h9 => h9) rfl d_M_define_48 ?_
  refine lv_iload_n hx hb d_M_define_51 rfl (lv_at hl 3 rfl) ?_
  refine xa_zald (v := nI 1) hx hb hK hP 3 1 rfl rfl (by omega) (by decide) (hgv i h34) d_M_define_52 ?_
  refine xb_eq hx hb 60 (by decide) d_M_define_53 rfl (fun h => absurd h (by decide)) (fun _ => ?_)
  refine lv_iconst (v := nI 1) hx hb d_M_define_56 (by decide) ?_
  refine lv_goto (tgt := 61) hx hb d_M_define_57 rfl ?_
  refine lv_istore_n hx hb d_M_define_61 rfl hl (by decide) rfl (fun ls hl => ?_)
  have hl : lv_has ls 4 [(2, .int (nI 1)), (0, .ref xM), (1, .int (nI len)), (3, .int (nI i))] := hl
  refine lv_iinc (k := 3) (v := nI (i + 1)) hx hb d_M_define_62 hl rfl (xi_1 _) (by decide) rfl (fun ls hl => ?_)
  have hl : lv_has ls 4 [(3, .int (nI (i + 1))), (2, .int (nI 1)), (0, .ref xM), (1, .int (nI len))] := hl
  refine lv_goto (tgt := 32) hx hb d_M_define_65 rfl ?_
  have hl : lv_has ls 4 [(0, .ref xM), (1, .int (nI len)), (2, .int (nI 1)), (3, .int (nI (i + 1)))] := lv_sub hl [2, 3, 1, 0] rfl
  have hP := hP.sub (ws' := [(xM, .inr (6, [.int (nI 0), .int (nI n), .ref xK, .ref xV, .int (nI 0), .ref xC, .ref xH, .int (nI ct), .ref xT, .ref xP, .int (nI lk), .ref xB, .ref xR, .ref xL, .ref xN, .ref xQ, .int (nI rp.toNat)])), (xK, .inl (cI, 24, .inl km)), (xC, .inl (cI, 3, .inl cq)), (xV, .inl (cZ, 24, .inl gv)), (xB, .inl (cI, 4326, .inl B)), (xR, .inl (cI, 721, .inl Rk))]) [0, 1, 2, 3, 4, 5] rfl
  have hD := hD.sub (ws' := [(xM, .inr (6, [.int (nI 0), .int (nI n), .ref xK, .ref xV, .int (nI 0), .ref xC, .ref xH, .int (nI ct), .ref xT, .ref xP, .int (nI lk), .ref xB, .ref xR, .ref xL, .ref xN, .ref xQ, .int (nI rp.toNat)])), (xK, .inl (cI, 24, .inl km)), (xC, .inl (cI, 3, .inl cq)), (xV, .inl (cZ, 24, .inl gv)), (xB, .inl (cI, 4326, .inl B)), (xR, .inl (cI, 721, .inl Rk))]) [0, 1, 2, 3, 4, 5] (by decide) rfl
  exact ih (i + 1) _ _ _ (by omega) ⟨h34, hl, hP, hD, hS⟩
set_option maxHeartbeats 4000000 in
set_option maxRecDepth 100000 in
theorem c_M_call_1 (xM : Nat) (cd : Int32) (n : Nat) (xK : Nat) (xV : Nat) (xC : Nat) (xH : Nat) (ct : Nat) (xT : Nat) (xP : Nat) (lk : Nat) (xB : Nat) (xR : Nat) (xL : Nat) (xN : Nat) (xQ : Nat) (rp : Bool) (x : Int32)  : CtI l y_M_call (w_M_call) ({ frames := 0, cells := 0, slots := 0, locals := 0 }) D vwCl (TYs cI cZ cJ cG) (gG tF) [.ref xM, .int x] [(xM, .inr (6, [.int cd, .int (nI n), .ref xK, .ref xV, .int (nI 0), .ref xC, .ref xH, .int (nI ct), .ref xT, .ref xP, .int (nI lk), .ref xB, .ref xR, .ref xL, .ref xN, .ref xQ, .int (nI rp.toNat)]))] 0 0 (fun _ : Unit => [(xM, .inr (6, [.int (nI 1), .int (nI n), .ref xK, .ref xV, .int (nI 0), .ref xC, .ref xH, .int (nI ct), .ref xT, .ref xP, .int (nI lk), .ref xB, .ref xR, .ref xL, .ref xN, .ref xQ, .int (nI rp.toNat)]))]) (fun (r : Int32) (_ : Unit) => r = nI 0) := by
  refine CtI.of (cc := b_M_call) (maxL := 2) (ret := (some .int)) (by decide) rfl (Nat.le_of_ble_eq_true rfl) ?_
  intro p e s m args below meth c A ls hF hA hP hK hD hg hS hl
  obtain ⟨hx, hb, hrt, hlk, hml, hown, hts, hnm⟩ := hF
  have hown : s.vm.findClass R_M = some m.cls := hown
  have hl : lv_has ls 2 [(0, .ref xM), (1, .int x)] := hl
  refine lv_aload_n hx hb d_M_call_0 rfl (lv_at hl 0 rfl) ?_
  refine lv_aload_n hx hb d_M_call_1 rfl (lv_at hl 0 rfl) ?_
  refine va_get (D := D) (ci := 6) (v := .int (nI 0)) (C := R_M) (T := F_M) (N := 17) hx hb hts in_M hown hK hP 0 rfl rfl 4 (by decide) (hts _ (List.mem_cons_of_mem _ k_587)) (fun _ h9 => h9) rfl d_M_call_2 ?_
  refine xb_ne hx hb 12 (by decide) d_M_call_5 rfl (fun h => absurd h (by decide)) (fun _ => ?_)
  refine lv_iconst (v := nI 1) hx hb d_M_call_8 (by decide) ?_
  refine lv_goto (tgt := 38) hx hb d_M_call_9 rfl ?_
  refine va_put (D := D) (ci := 6) (v := .int (nI 1)) (ty := .int) (C := R_M) (T := F_M) (N := 17) hx hb hts in_M t_M t_M_ok n_M hown hK hP hD hS 0 rfl rfl 0 (by decide) (hts _ (List.mem_cons_of_mem _ k_583)) (fun _ h9 => h9) rfl (by decide +kernel) rfl rfl (Nat.le_of_ble_eq_true rfl) d_M_call_38 (fun H locs hP hD hS => ?_)
  have hP : va_P D vwCl [(xM, .inr (6, [.int (nI 1), .int (nI n), .ref xK, .ref xV, .int (nI 0), .ref xC, .ref xH, .int (nI ct), .ref xT, .ref xP, .int (nI lk), .ref xB, .ref xR, .ref xL, .ref xN, .ref xQ, .int (nI rp.toNat)]))] H := hP
  have hD : va_D A [(xM, .inr (6, [.int (nI 1), .int (nI n), .ref xK, .ref xV, .int (nI 0), .ref xC, .ref xH, .int (nI ct), .ref xT, .ref xP, .int (nI lk), .ref xB, .ref xR, .ref xL, .ref xN, .ref xQ, .int (nI rp.toNat)]))] := hD
  refine lv_aload_n hx hb d_M_call_41 rfl (lv_at hl 0 rfl) ?_
  refine va_get (D := D) (ci := 6) (v := .int (nI 1)) (C := R_M) (T := F_M) (N := 17) hx hb hts in_M hown hK hP 0 rfl rfl 0 (by decide) (hts _ (List.mem_cons_of_mem _ k_583)) (fun _ h9 => h9) rfl d_M_call_42 ?_
  refine xb_le hx hb 50 (by decide) d_M_call_45 rfl (fun h => absurd h (by decide)) (fun _ => ?_)
  refine lv_iconst (v := nI 0) hx hb d_M_call_48 (by decide) ?_
  exact xr_i hx hb hrt hlk rfl hP hD hS () [0] (by decide) rfl rfl d_M_call_49
set_option maxHeartbeats 4000000 in
set_option maxRecDepth 100000 in
theorem c_M_call_2 (xM : Nat) (cd : Int32) (n : Nat) (xK : Nat) (xV : Nat) (ln : Nat) (xC : Nat) (xH : Nat) (ct : Nat) (xT : Nat) (xP : Nat) (lk : Nat) (xB : Nat) (xR : Nat) (xL : Nat) (xN : Nat) (xQ : Nat) (rp : Bool) (hc : Nat → Int32) (x : Int32) (hl1 : 0 < ln) (hln : ln ≤ 24) (hz : ∀ j, j < 3 → hc j = nI 0 ∨ hc j = nI 1) (hno : hcr hc x = false) : CtI l y_M_call (w_M_call) ({ frames := 1, cells := 0, slots := 0, locals := 21 }) D vwCl (TYs cI cZ cJ cG) (gG tF) [.ref xM, .int x] [(xM, .inr (6, [.int cd, .int (nI n), .ref xK, .ref xV, .int (nI ln), .ref xC, .ref xH, .int (nI ct), .ref xT, .ref xP, .int (nI lk), .ref xB, .ref xR, .ref xL, .ref xN, .ref xQ, .int (nI rp.toNat)])), (xH, .inl (cZ, 3, .inl hc))] 0 0 (fun _ : Unit => [(xM, .inr (6, [.int (nI 2), .int (nI n), .ref xK, .ref xV, .int (nI ln), .ref xC, .ref xH, .int (nI ct), .ref xT, .ref xP, .int (nI lk), .ref xB, .ref xR, .ref xL, .ref xN, .ref xQ, .int (nI rp.toNat)])), (xH, .inl (cZ, 3, .inl hc))]) (fun (r : Int32) (_ : Unit) => r = nI 0) := by
  refine CtI.of (cc := b_M_call) (maxL := 2) (ret := (some .int)) (by decide) rfl (Nat.le_of_ble_eq_true rfl) ?_
  intro p e s m args below meth c A ls hF hA hP hK hD hg hS hl
  obtain ⟨hx, hb, hrt, hlk, hml, hown, hts, hnm⟩ := hF
  have hown : s.vm.findClass R_M = some m.cls := hown
  have hl : lv_has ls 2 [(0, .ref xM), (1, .int x)] := hl
  refine lv_aload_n hx hb d_M_call_0 rfl (lv_at hl 0 rfl) ?_
  refine lv_aload_n hx hb d_M_call_1 rfl (lv_at hl 0 rfl) ?_
  refine va_get (D := D) (ci := 6) (v := .int (nI ln)) (C := R_M) (T := F_M) (N := 17) hx hb hts in_M hown hK hP 0 rfl rfl 4 (by decide) (hts _ (List.mem_cons_of_mem _ k_587)) (fun _ h9 => h9) rfl d_M_call_2 ?_
  refine xb_ne hx hb 12 (by omega) d_M_call_5 rfl (fun h5 => ?_) (fun h5 => ?_)
  · skip
    refine lv_aload_n hx hb d_M_call_12 rfl (lv_at hl 0 rfl) ?_
    refine lv_iload_n hx hb d_M_call_13 rfl (lv_at hl 1 rfl) ?_
    refine xc_i (wc := [(xM, .inr (6, [.int cd, .int (nI n), .ref xK, .ref xV, .int (nI ln), .ref xC, .ref xH, .int (nI ct), .ref xT, .ref xP, .int (nI lk), .ref xB, .ref xR, .ref xL, .ref xN, .ref xQ, .int (nI rp.toNat)])), (xH, .inl (cZ, 3, .inl hc))]) (wr := []) (gG_ok tF) hK hP hD hS hA hg [0, 1] [] rfl rfl (by decide) (by decide) (by decide) (fun h1 h2 => va_runV (As := [.int x]) (rest := [.ref xM]) ⟨hx, hb, hml, hown, hts⟩ (c_M_isCall xM cd n xK xV ln xC xH ct xT xP lk xB xR xL xN xQ rp x hc hz _) (cwV 1 hts (gV k_680 k_682 ks_M_isCall k_7 k_683) rfl rfl rfl (by decide +kernel) ⟨Nat.le_of_ble_eq_true rfl, Nat.le_of_ble_eq_true rfl⟩) ⟨h1, va_recv (q0 := 0) (ci := 6) hK hP rfl rfl, h2⟩ rfl rfl hl.1 rfl (lv_room (Nat.le_of_ble_eq_true rfl)) d_M_call_14 ⟨Nat.zero_le _, Nat.zero_le _⟩) (fun r u H locs hq9 hP hD hS => ?_)
    obtain rfl := hq9
    have hP : va_P D vwCl [(xM, .inr (6, [.int cd, .int (nI n), .ref xK, .ref xV, .int (nI ln), .ref xC, .ref xH, .int (nI ct), .ref xT, .ref xP, .int (nI lk), .ref xB, .ref xR, .ref xL, .ref xN, .ref xQ, .int (nI rp.toNat)])), (xH, .inl (cZ, 3, .inl hc))] H := hP
    have hD : va_D A [(xM, .inr (6, [.int cd, .int (nI n), .ref xK, .ref xV, .int (nI ln), .ref xC, .ref xH, .int (nI ct), .ref xT, .ref xP, .int (nI lk), .ref xB, .ref xR, .ref xL, .ref xN, .ref xQ, .int (nI rp.toNat)])), (xH, .inl (cZ, 3, .inl hc))] := hD
    refine xb_neB (x := hcr hc x) hx hb 24 d_M_call_17 rfl (fun h17 => ?_) (fun h17 => ?_)
    · skip
      rw [hno] at h17
      cases h17
    refine lv_iconst (v := nI 2) hx hb d_M_call_20 (by decide) ?_
    refine lv_goto (tgt := 38) hx hb d_M_call_21 rfl ?_
    refine va_put (D := D) (ci := 6) (v := .int (nI 2)) (ty := .int) (C := R_M) (T := F_M) (N := 17) hx hb hts in_M t_M t_M_ok n_M hown hK hP hD hS 0 rfl rfl 0 (by decide) (hts _ (List.mem_cons_of_mem _ k_583)) (fun _ h9 => h9) rfl (by decide +kernel) rfl rfl (Nat.le_of_ble_eq_true rfl) d_M_call_38 (fun H locs hP hD hS => ?_)
    have hP : va_P D vwCl [(xM, .inr (6, [.int (nI 2), .int (nI n), .ref xK, .ref xV, .int (nI ln), .ref xC, .ref xH, .int (nI ct), .ref xT, .ref xP, .int (nI lk), .ref xB, .ref xR, .ref xL, .ref xN, .ref xQ, .int (nI rp.toNat)])), (xH, .inl (cZ, 3, .inl hc))] H := hP
    have hD : va_D A [(xM, .inr (6, [.int (nI 2), .int (nI n), .ref xK, .ref xV, .int (nI ln), .ref xC, .ref xH, .int (nI ct), .ref xT, .ref xP, .int (nI lk), .ref xB, .ref xR, .ref xL, .ref xN, .ref xQ, .int (nI rp.toNat)])), (xH, .inl (cZ, 3, .inl hc))] := hD
    refine lv_aload_n hx hb d_M_call_41 rfl (lv_at hl 0 rfl) ?_
    refine va_get (D := D) (ci := 6) (v := .int (nI 2)) (C := R_M) (T := F_M) (N := 17) hx hb hts in_M hown hK hP 0 rfl rfl 0 (by decide) (hts _ (List.mem_cons_of_mem _ k_583)) (fun _ h9 => h9) rfl d_M_call_42 ?_
    refine xb_le hx hb 50 (by decide) d_M_call_45 rfl (fun h => absurd h (by decide)) (fun _ => ?_)
    refine lv_iconst (v := nI 0) hx hb d_M_call_48 (by decide) ?_
    exact xr_i hx hb hrt hlk rfl hP hD hS () [0, 1] (by decide) rfl rfl d_M_call_49
  exact absurd h5 (by omega)
set_option maxHeartbeats 4000000 in
set_option maxRecDepth 100000 in
theorem c_M_call_3 (xM : Nat) (cd : Int32) (n : Nat) (xK : Nat) (xV : Nat) (ln : Nat) (xC : Nat) (xH : Nat) (xT : Nat) (xP : Nat) (lk : Nat) (xB : Nat) (xR : Nat) (xL : Nat) (xN : Nat) (xQ : Nat) (rp : Bool) (hc : Nat → Int32) (x : Int32) (hl1 : 0 < ln) (hln : ln ≤ 24) (hz : ∀ j, j < 3 → hc j = nI 0 ∨ hc j = nI 1) (hok : hcr hc x = true) : CtI l y_M_call (w_M_call) ({ frames := 1, cells := 0, slots := 0, locals := 21 }) D vwCl (TYs cI cZ cJ cG) (gG tF) [.ref xM, .int x] [(xM, .inr (6, [.int cd, .int (nI n), .ref xK, .ref xV, .int (nI ln), .ref xC, .ref xH, .int (nI 30), .ref xT, .ref xP, .int (nI lk), .ref xB, .ref xR, .ref xL, .ref xN, .ref xQ, .int (nI rp.toNat)])), (xH, .inl (cZ, 3, .inl hc))] 0 0 (fun _ : Unit => [(xM, .inr (6, [.int (nI 3), .int (nI n), .ref xK, .ref xV, .int (nI ln), .ref xC, .ref xH, .int (nI 30), .ref xT, .ref xP, .int (nI lk), .ref xB, .ref xR, .ref xL, .ref xN, .ref xQ, .int (nI rp.toNat)])), (xH, .inl (cZ, 3, .inl hc))]) (fun (r : Int32) (_ : Unit) => r = nI 0) := by
  refine CtI.of (cc := b_M_call) (maxL := 2) (ret := (some .int)) (by decide) rfl (Nat.le_of_ble_eq_true rfl) ?_
  intro p e s m args below meth c A ls hF hA hP hK hD hg hS hl
  obtain ⟨hx, hb, hrt, hlk, hml, hown, hts, hnm⟩ := hF
  have hown : s.vm.findClass R_M = some m.cls := hown
  have hl : lv_has ls 2 [(0, .ref xM), (1, .int x)] := hl
  refine lv_aload_n hx hb d_M_call_0 rfl (lv_at hl 0 rfl) ?_
  refine lv_aload_n hx hb d_M_call_1 rfl (lv_at hl 0 rfl) ?_
  refine va_get (D := D) (ci := 6) (v := .int (nI ln)) (C := R_M) (T := F_M) (N := 17) hx hb hts in_M hown hK hP 0 rfl rfl 4 (by decide) (hts _ (List.mem_cons_of_mem _ k_587)) (fun _ h9 => h9) rfl d_M_call_2 ?_
  refine xb_ne hx hb 12 (by omega) d_M_call_5 rfl (fun h5 => ?_) (fun h5 => ?_)
  · skip
    refine lv_aload_n hx hb d_M_call_12 rfl (lv_at hl 0 rfl) ?_
    refine lv_iload_n hx hb d_M_call_13 rfl (lv_at hl 1 rfl) ?_
    refine xc_i (wc := [(xM, .inr (6, [.int cd, .int (nI n), .ref xK, .ref xV, .int (nI ln), .ref xC, .ref xH, .int (nI 30), .ref xT, .ref xP, .int (nI lk), .ref xB, .ref xR, .ref xL, .ref xN, .ref xQ, .int (nI rp.toNat)])), (xH, .inl (cZ, 3, .inl hc))]) (wr := []) (gG_ok tF) hK hP hD hS hA hg [0, 1] [] rfl rfl (by decide) (by decide) (by decide) (fun h1 h2 => va_runV (As := [.int x]) (rest := [.ref xM]) ⟨hx, hb, hml, hown, hts⟩ (c_M_isCall xM cd n xK xV ln xC xH 30 xT xP lk xB xR xL xN xQ rp x hc hz _) (cwV 1 hts (gV k_680 k_682 ks_M_isCall k_7 k_683) rfl rfl rfl (by decide +kernel) ⟨Nat.le_of_ble_eq_true rfl, Nat.le_of_ble_eq_true rfl⟩) ⟨h1, va_recv (q0 := 0) (ci := 6) hK hP rfl rfl, h2⟩ rfl rfl hl.1 rfl (lv_room (Nat.le_of_ble_eq_true rfl)) d_M_call_14 ⟨Nat.zero_le _, Nat.zero_le _⟩) (fun r u H locs hq9 hP hD hS => ?_)
    obtain rfl := hq9
    have hP : va_P D vwCl [(xM, .inr (6, [.int cd, .int (nI n), .ref xK, .ref xV, .int (nI ln), .ref xC, .ref xH, .int (nI 30), .ref xT, .ref xP, .int (nI lk), .ref xB, .ref xR, .ref xL, .ref xN, .ref xQ, .int (nI rp.toNat)])), (xH, .inl (cZ, 3, .inl hc))] H := hP
    have hD : va_D A [(xM, .inr (6, [.int cd, .int (nI n), .ref xK, .ref xV, .int (nI ln), .ref xC, .ref xH, .int (nI 30), .ref xT, .ref xP, .int (nI lk), .ref xB, .ref xR, .ref xL, .ref xN, .ref xQ, .int (nI rp.toNat)])), (xH, .inl (cZ, 3, .inl hc))] := hD
    refine xb_neB (x := hcr hc x) hx hb 24 d_M_call_17 rfl (fun h17 => ?_) (fun h17 => ?_)
    · skip
      refine lv_aload_n hx hb d_M_call_24 rfl (lv_at hl 0 rfl) ?_
      refine va_get (D := D) (ci := 6) (v := .int (nI 30)) (C := R_M) (T := F_M) (N := 17) hx hb hts in_M hown hK hP 0 rfl rfl 7 (by decide) (hts _ (List.mem_cons_of_mem _ k_590)) (fun _ h9 => h9) rfl d_M_call_25 ?_
      refine lv_bipush (v := nI 30) hx hb d_M_call_28 (by decide) ?_
      refine xb_cne hx hb 37 (by decide) (by decide) d_M_call_30 rfl (fun h => absurd h (by decide)) (fun _ => ?_)
      refine lv_iconst (v := nI 3) hx hb d_M_call_33 (by decide) ?_
      refine lv_goto (tgt := 38) hx hb d_M_call_34 rfl ?_
      refine va_put (D := D) (ci := 6) (v := .int (nI 3)) (ty := .int) (C := R_M) (T := F_M) (N := 17) hx hb hts in_M t_M t_M_ok n_M hown hK hP hD hS 0 rfl rfl 0 (by decide) (hts _ (List.mem_cons_of_mem _ k_583)) (fun _ h9 => h9) rfl (by decide +kernel) rfl rfl (Nat.le_of_ble_eq_true rfl) d_M_call_38 (fun H locs hP hD hS => ?_)
      have hP : va_P D vwCl [(xM, .inr (6, [.int (nI 3), .int (nI n), .ref xK, .ref xV, .int (nI ln), .ref xC, .ref xH, .int (nI 30), .ref xT, .ref xP, .int (nI lk), .ref xB, .ref xR, .ref xL, .ref xN, .ref xQ, .int (nI rp.toNat)])), (xH, .inl (cZ, 3, .inl hc))] H := hP
      have hD : va_D A [(xM, .inr (6, [.int (nI 3), .int (nI n), .ref xK, .ref xV, .int (nI ln), .ref xC, .ref xH, .int (nI 30), .ref xT, .ref xP, .int (nI lk), .ref xB, .ref xR, .ref xL, .ref xN, .ref xQ, .int (nI rp.toNat)])), (xH, .inl (cZ, 3, .inl hc))] := hD
      refine lv_aload_n hx hb d_M_call_41 rfl (lv_at hl 0 rfl) ?_
      refine va_get (D := D) (ci := 6) (v := .int (nI 3)) (C := R_M) (T := F_M) (N := 17) hx hb hts in_M hown hK hP 0 rfl rfl 0 (by decide) (hts _ (List.mem_cons_of_mem _ k_583)) (fun _ h9 => h9) rfl d_M_call_42 ?_
      refine xb_le hx hb 50 (by decide) d_M_call_45 rfl (fun h => absurd h (by decide)) (fun _ => ?_)
      refine lv_iconst (v := nI 0) hx hb d_M_call_48 (by decide) ?_
      exact xr_i hx hb hrt hlk rfl hP hD hS () [0, 1] (by decide) rfl rfl d_M_call_49
    rw [hok] at h17
    cases h17
  exact absurd h5 (by omega)
set_option maxHeartbeats 4000000 in
set_option maxRecDepth 100000 in
theorem c_M_call (xM : Nat) (cd : Int32) (n : Nat) (xK : Nat) (xV : Nat) (ln : Nat) (xC : Nat) (xH : Nat) (ct : Nat) (xT : Nat) (xP : Nat) (lk : Nat) (xB : Nat) (xR : Nat) (xL : Nat) (xN : Nat) (xQ : Nat) (rp : Bool) (hc : Nat → Int32) (tq : Nat → Int32) (x : Int32) (hl1 : 0 < ln) (hln : ln ≤ 24) (hz : ∀ j, j < 3 → hc j = nI 0 ∨ hc j = nI 1) (hok : hcr hc x = true) (hct : ct < 30) : CtI l y_M_call (w_M_call) ({ frames := 1, cells := 0, slots := 0, locals := 21 }) D vwCl (TYs cI cZ cJ cG) (gG tF) [.ref xM, .int x] [(xM, .inr (6, [.int cd, .int (nI n), .ref xK, .ref xV, .int (nI ln), .ref xC, .ref xH, .int (nI ct), .ref xT, .ref xP, .int (nI lk), .ref xB, .ref xR, .ref xL, .ref xN, .ref xQ, .int (nI rp.toNat)])), (xH, .inl (cZ, 3, .inl hc)), (xT, .inl (cI, 30, .inl tq))] 0 0 (fun _ : Unit => [(xM, .inr (6, [.int (nI 0), .int (nI n), .ref xK, .ref xV, .int (nI ln), .ref xC, .ref xH, .int (nI (ct + 1)), .ref xT, .ref xP, .int (nI lk), .ref xB, .ref xR, .ref xL, .ref xN, .ref xQ, .int (nI rp.toNat)])), (xH, .inl (cZ, 3, .inl hc)), (xT, .inl (cI, 30, .inl (upd tq ct x)))]) (fun (r : Int32) (_ : Unit) => r = nI (ct + 1)) := by
  refine CtI.of (cc := b_M_call) (maxL := 2) (ret := (some .int)) (by decide) rfl (Nat.le_of_ble_eq_true rfl) ?_
  intro p e s m args below meth c A ls hF hA hP hK hD hg hS hl
  obtain ⟨hx, hb, hrt, hlk, hml, hown, hts, hnm⟩ := hF
  have hown : s.vm.findClass R_M = some m.cls := hown
  have hl : lv_has ls 2 [(0, .ref xM), (1, .int x)] := hl
  refine lv_aload_n hx hb d_M_call_0 rfl (lv_at hl 0 rfl) ?_
  refine lv_aload_n hx hb d_M_call_1 rfl (lv_at hl 0 rfl) ?_
  refine va_get (D := D) (ci := 6) (v := .int (nI ln)) (C := R_M) (T := F_M) (N := 17) hx hb hts in_M hown hK hP 0 rfl rfl 4 (by decide) (hts _ (List.mem_cons_of_mem _ k_587)) (fun _ h9 => h9) rfl d_M_call_2 ?_
  refine xb_ne hx hb 12 (by omega) d_M_call_5 rfl (fun h5 => ?_) (fun h5 => ?_)
  · skip
    refine lv_aload_n hx hb d_M_call_12 rfl (lv_at hl 0 rfl) ?_
    refine lv_iload_n hx hb d_M_call_13 rfl (lv_at hl 1 rfl) ?_
    refine xc_i (wc := [(xM, .inr (6, [.int cd, .int (nI n), .ref xK, .ref xV, .int (nI ln), .ref xC, .ref xH, .int (nI ct), .ref xT, .ref xP, .int (nI lk), .ref xB, .ref xR, .ref xL, .ref xN, .ref xQ, .int (nI rp.toNat)])), (xH, .inl (cZ, 3, .inl hc))]) (wr := [(xT, .inl (cI, 30, .inl tq))]) (gG_ok tF) hK hP hD hS hA hg [0, 1] [2] rfl rfl (by decide) (by decide) (by decide) (fun h1 h2 => va_runV (As := [.int x]) (rest := [.ref xM]) ⟨hx, hb, hml, hown, hts⟩ (c_M_isCall xM cd n xK xV ln xC xH ct xT xP lk xB xR xL xN xQ rp x hc hz _) (cwV 1 hts (gV k_680 k_682 ks_M_isCall k_7 k_683) rfl rfl rfl (by decide +kernel) ⟨Nat.le_of_ble_eq_true rfl, Nat.le_of_ble_eq_true rfl⟩) ⟨h1, va_recv (q0 := 0) (ci := 6) hK hP rfl rfl, h2⟩ rfl rfl hl.1 rfl (lv_room (Nat.le_of_ble_eq_true rfl)) d_M_call_14 ⟨Nat.zero_le _, Nat.zero_le _⟩) (fun r u H locs hq9 hP hD hS => ?_)
    obtain rfl := hq9
    have hP : va_P D vwCl [(xT, .inl (cI, 30, .inl tq)), (xM, .inr (6, [.int cd, .int (nI n), .ref xK, .ref xV, .int (nI ln), .ref xC, .ref xH, .int (nI ct), .ref xT, .ref xP, .int (nI lk), .ref xB, .ref xR, .ref xL, .ref xN, .ref xQ, .int (nI rp.toNat)])), (xH, .inl (cZ, 3, .inl hc))] H := hP
    have hD : va_D A [(xT, .inl (cI, 30, .inl tq)), (xM, .inr (6, [.int cd, .int (nI n), .ref xK, .ref xV, .int (nI ln), .ref xC, .ref xH, .int (nI ct), .ref xT, .ref xP, .int (nI lk), .ref xB, .ref xR, .ref xL, .ref xN, .ref xQ, .int (nI rp.toNat)])), (xH, .inl (cZ, 3, .inl hc))] := hD
    refine xb_neB (x := hcr hc x) hx hb 24 d_M_call_17 rfl (fun h17 => ?_) (fun h17 => ?_)
    · skip
      refine lv_aload_n hx hb d_M_call_24 rfl (lv_at hl 0 rfl) ?_
      refine va_get (D := D) (ci := 6) (v := .int (nI ct)) (C := R_M) (T := F_M) (N := 17) hx hb hts in_M hown hK hP 1 rfl rfl 7 (by decide) (hts _ (List.mem_cons_of_mem _ k_590)) (fun _ h9 => h9) rfl d_M_call_25 ?_
      refine lv_bipush (v := nI 30) hx hb d_M_call_28 (by decide) ?_
      refine xb_cne hx hb 37 (by omega) (by omega) d_M_call_30 rfl (fun h30 => ?_) (fun h30 => ?_)
      · skip
        refine lv_iconst (v := nI 0) hx hb d_M_call_37 (by decide) ?_
        refine va_put (D := D) (ci := 6) (v := .int (nI 0)) (ty := .int) (C := R_M) (T := F_M) (N := 17) hx hb hts in_M t_M t_M_ok n_M hown hK hP hD hS 1 rfl rfl 0 (by decide) (hts _ (List.mem_cons_of_mem _ k_583)) (fun _ h9 => h9) rfl (by decide +kernel) rfl rfl (Nat.le_of_ble_eq_true rfl) d_M_call_38 (fun H locs hP hD hS => ?_)
        have hP : va_P D vwCl [(xT, .inl (cI, 30, .inl tq)), (xM, .inr (6, [.int (nI 0), .int (nI n), .ref xK, .ref xV, .int (nI ln), .ref xC, .ref xH, .int (nI ct), .ref xT, .ref xP, .int (nI lk), .ref xB, .ref xR, .ref xL, .ref xN, .ref xQ, .int (nI rp.toNat)])), (xH, .inl (cZ, 3, .inl hc))] H := hP
        have hD : va_D A [(xT, .inl (cI, 30, .inl tq)), (xM, .inr (6, [.int (nI 0), .int (nI n), .ref xK, .ref xV, .int (nI ln), .ref xC, .ref xH, .int (nI ct), .ref xT, .ref xP, .int (nI lk), .ref xB, .ref xR, .ref xL, .ref xN, .ref xQ, .int (nI rp.toNat)])), (xH, .inl (cZ, 3, .inl hc))] := hD
        refine lv_aload_n hx hb d_M_call_41 rfl (lv_at hl 0 rfl) ?_
        refine va_get (D := D) (ci := 6) (v := .int (nI 0)) (C := R_M) (T := F_M) (N := 17) hx hb hts in_M hown hK hP 1 rfl rfl 0 (by decide) (hts _ (List.mem_cons_of_mem _ k_583)) (fun _ h9 => h9) rfl d_M_call_42 ?_
        refine xb_le hx hb 50 (by decide) d_M_call_45 rfl (fun _ => ?_) (fun h => absurd h (by decide))
        refine lv_aload_n hx hb d_M_call_50 rfl (lv_at hl 0 rfl) ?_
        refine va_get (D := D) (ci := 6) (v := .ref xT) (C := R_M) (T := F_M) (N := 17) hx hb hts in_M hown hK hP 1 rfl rfl 8 (by decide) (hts _ (List.mem_cons_of_mem _ k_591)) (fun _ h9 => h9) rfl d_M_call_51 ?_
        refine lv_aload_n hx hb d_M_call_54 rfl (lv_at hl 0 rfl) ?_
        refine va_get (D := D) (ci := 6) (v := .int (nI ct)) (C := R_M) (T := F_M) (N := 17) hx hb hts in_M hown hK hP 1 rfl rfl 7 (by decide) (hts _ (List.mem_cons_of_mem _ k_590)) (fun _ h9 => h9) rfl d_M_call_55 ?_
        refine lv_iload_n hx hb d_M_call_58 rfl (lv_at hl 1 rfl) ?_
        refine xa_iast hx hb hK hP hD hS 0 0 rfl rfl (by omega) (by decide) d_M_call_59 (fun H locs hP hD hS => ?_)
        have hP : va_P D vwCl [(xT, .inl (cI, 30, .inl (upd tq ct x))), (xM, .inr (6, [.int (nI 0), .int (nI n), .ref xK, .ref xV, .int (nI ln), .ref xC, .ref xH, .int (nI ct), .ref xT, .ref xP, .int (nI lk), .ref xB, .ref xR, .ref xL, .ref xN, .ref xQ, .int (nI rp.toNat)])), (xH, .inl (cZ, 3, .inl hc))] H := hP
        have hD : va_D A [(xT, .inl (cI, 30, .inl (upd tq ct x))), (xM, .inr (6, [.int (nI 0), .int (nI n), .ref xK, .ref xV, .int (nI ln), .ref xC, .ref xH, .int (nI ct), .ref xT, .ref xP, .int (nI lk), .ref xB, .ref xR, .ref xL, .ref xN, .ref xQ, .int (nI rp.toNat)])), (xH, .inl (cZ, 3, .inl hc))] := hD
        refine lv_aload_n hx hb d_M_call_60 rfl (lv_at hl 0 rfl) ?_
        refine lv_aload_n hx hb d_M_call_61 rfl (lv_at hl 0 rfl) ?_
        refine va_get (D := D) (ci := 6) (v := .int (nI ct)) (C := R_M) (T := F_M) (N := 17) hx hb hts in_M hown hK hP 1 rfl rfl 7 (by decide) (hts _ (List.mem_cons_of_mem _ k_590)) (fun _ h9 => h9) rfl d_M_call_62 ?_
        refine lv_iconst (v := nI 1) hx hb d_M_call_65 (by decide) ?_
        refine lv_iadd hx hb d_M_call_66 ?_
        refine xn_i (y := nI (ct + 1)) (nI_add _ _) ?_
        refine va_put (D := D) (ci := 6) (v := .int (nI (ct + 1))) (ty := .int) (C := R_M) (T := F_M) (N := 17) hx hb hts in_M t_M t_M_ok n_M hown hK hP hD hS 1 rfl rfl 7 (by decide) (hts _ (List.mem_cons_of_mem _ k_590)) (fun _ h9 => h9) rfl (by decide +kernel) rfl rfl (Nat.le_of_ble_eq_true rfl) d_M_call_67 (fun H locs hP hD hS => ?_)
        have hP : va_P D vwCl [(xT, .inl (cI, 30, .inl (upd tq ct x))), (xM, .inr (6, [.int (nI 0), .int (nI n), .ref xK, .ref xV, .int (nI ln), .ref xC, .ref xH, .int (nI (ct + 1)), .ref xT, .ref xP, .int (nI lk), .ref xB, .ref xR, .ref xL, .ref xN, .ref xQ, .int (nI rp.toNat)])), (xH, .inl (cZ, 3, .inl hc))] H := hP
        have hD : va_D A [(xT, .inl (cI, 30, .inl (upd tq ct x))), (xM, .inr (6, [.int (nI 0), .int (nI n), .ref xK, .ref xV, .int (nI ln), .ref xC, .ref xH, .int (nI (ct + 1)), .ref xT, .ref xP, .int (nI lk), .ref xB, .ref xR, .ref xL, .ref xN, .ref xQ, .int (nI rp.toNat)])), (xH, .inl (cZ, 3, .inl hc))] := hD
        refine lv_aload_n hx hb d_M_call_70 rfl (lv_at hl 0 rfl) ?_
        refine va_get (D := D) (ci := 6) (v := .int (nI (ct + 1))) (C := R_M) (T := F_M) (N := 17) hx hb hts in_M hown hK hP 1 rfl rfl 7 (by decide) (hts _ (List.mem_cons_of_mem _ k_590)) (fun _ h9 => h9) rfl d_M_call_71 ?_
        exact xr_i hx hb hrt hlk rfl hP hD hS () [1, 2, 0] (by decide) rfl rfl d_M_call_74
      exact absurd h30 (by omega)
    rw [hok] at h17
    cases h17
  exact absurd h5 (by omega)
set_option maxHeartbeats 4000000 in
set_option maxRecDepth 100000 in
theorem c_M_change_no (xM : Nat) (cd : Int32) (n : Nat) (xK : Nat) (xV : Nat) (ln : Nat) (xC : Nat) (xH : Nat) (ct : Nat) (xT : Nat) (xP : Nat) (lk : Nat) (xB : Nat) (xR : Nat) (xL : Nat) (xN : Nat) (xQ : Nat) (rp : Bool) (hc : Nat → Int32) (x : Int32) (y : Int32) (hz : ∀ j, j < 3 → hc j = nI 0 ∨ hc j = nI 1) (hno : chk (hcr hc y) ct x = false) : CtI l y_M_change (w_M_change) ({ frames := 1, cells := 0, slots := 0, locals := 21 }) D vwCl (TYs cI cZ cJ cG) (gG tF) [.ref xM, .int x, .int y] [(xM, .inr (6, [.int cd, .int (nI n), .ref xK, .ref xV, .int (nI ln), .ref xC, .ref xH, .int (nI ct), .ref xT, .ref xP, .int (nI lk), .ref xB, .ref xR, .ref xL, .ref xN, .ref xQ, .int (nI rp.toNat)])), (xH, .inl (cZ, 3, .inl hc))] 0 0 (fun _ : Unit => [(xM, .inr (6, [.int (nI 0), .int (nI n), .ref xK, .ref xV, .int (nI ln), .ref xC, .ref xH, .int (nI ct), .ref xT, .ref xP, .int (nI lk), .ref xB, .ref xR, .ref xL, .ref xN, .ref xQ, .int (nI rp.toNat)])), (xH, .inl (cZ, 3, .inl hc))]) (fun (r : Int32) (_ : Unit) => r = nI 0) := by
  refine CtI.of (cc := b_M_change) (maxL := 3) (ret := (some .boolean)) (by decide) rfl (Nat.le_of_ble_eq_true rfl) ?_
  intro p e s m args below meth c A ls hF hA hP hK hD hg hS hl
  obtain ⟨hx, hb, hrt, hlk, hml, hown, hts, hnm⟩ := hF
  have hown : s.vm.findClass R_M = some m.cls := hown
  have hl : lv_has ls 3 [(0, .ref xM), (1, .int x), (2, .int y)] := hl
  refine lv_aload_n hx hb d_M_change_0 rfl (lv_at hl 0 rfl) ?_
  refine lv_iconst (v := nI 0) hx hb d_M_change_1 (by decide) ?_
  refine va_put (D := D) (ci := 6) (v := .int (nI 0)) (ty := .int) (C := R_M) (T := F_M) (N := 17) hx hb hts in_M t_M t_M_ok n_M hown hK hP hD hS 0 rfl rfl 0 (by decide) (hts _ (List.mem_cons_of_mem _ k_583)) (fun _ h9 => h9) rfl (by decide +kernel) rfl rfl (Nat.le_of_ble_eq_true rfl) d_M_change_2 (fun H locs hP hD hS => ?_)
  have hP : va_P D vwCl [(xM, .inr (6, [.int (nI 0), .int (nI n), .ref xK, .ref xV, .int (nI ln), .ref xC, .ref xH, .int (nI ct), .ref xT, .ref xP, .int (nI lk), .ref xB, .ref xR, .ref xL, .ref xN, .ref xQ, .int (nI rp.toNat)])), (xH, .inl (cZ, 3, .inl hc))] H := hP
  have hD : va_D A [(xM, .inr (6, [.int (nI 0), .int (nI n), .ref xK, .ref xV, .int (nI ln), .ref xC, .ref xH, .int (nI ct), .ref xT, .ref xP, .int (nI lk), .ref xB, .ref xR, .ref xL, .ref xN, .ref xQ, .int (nI rp.toNat)])), (xH, .inl (cZ, 3, .inl hc))] := hD
  refine lv_iload_n hx hb d_M_change_5 rfl (lv_at hl 1 rfl) ?_
  refine lv_if_lt (tgt := 25) hx hb d_M_change_6 rfl (fun h6 => ?_) (fun h6 => ?_)
  · skip
    refine lv_iconst (v := nI 0) hx hb d_M_change_25 (by decide) ?_
    exact xr_i hx hb hrt hlk rfl hP hD hS () [0, 1] (by decide) rfl rfl d_M_change_26
  refine lv_iload_n hx hb d_M_change_9 rfl (lv_at hl 1 rfl) ?_
  refine lv_aload_n hx hb d_M_change_10 rfl (lv_at hl 0 rfl) ?_
  refine va_get (D := D) (ci := 6) (v := .int (nI ct)) (C := R_M) (T := F_M) (N := 17) hx hb hts in_M hown hK hP 0 rfl rfl 7 (by decide) (hts _ (List.mem_cons_of_mem _ k_590)) (fun _ h9 => h9) rfl d_M_change_11 ?_
  refine lv_icmp_ge (tgt := 25) hx hb d_M_change_14 rfl (fun h14 => ?_) (fun h14 => ?_)
  · skip
    refine lv_iconst (v := nI 0) hx hb d_M_change_25 (by decide) ?_
    exact xr_i hx hb hrt hlk rfl hP hD hS () [0, 1] (by decide) rfl rfl d_M_change_26
  refine lv_aload_n hx hb d_M_change_17 rfl (lv_at hl 0 rfl) ?_
  refine lv_iload_n hx hb d_M_change_18 rfl (lv_at hl 2 rfl) ?_
  refine xc_i (wc := [(xM, .inr (6, [.int (nI 0), .int (nI n), .ref xK, .ref xV, .int (nI ln), .ref xC, .ref xH, .int (nI ct), .ref xT, .ref xP, .int (nI lk), .ref xB, .ref xR, .ref xL, .ref xN, .ref xQ, .int (nI rp.toNat)])), (xH, .inl (cZ, 3, .inl hc))]) (wr := []) (gG_ok tF) hK hP hD hS hA hg [0, 1] [] rfl rfl (by decide) (by decide) (by decide) (fun h1 h2 => va_runV (As := [.int y]) (rest := []) ⟨hx, hb, hml, hown, hts⟩ (c_M_isCall xM (nI 0) n xK xV ln xC xH ct xT xP lk xB xR xL xN xQ rp y hc hz _) (cwV 1 hts (gV k_680 k_682 ks_M_isCall k_7 k_683) rfl rfl rfl (by decide +kernel) ⟨Nat.le_of_ble_eq_true rfl, Nat.le_of_ble_eq_true rfl⟩) ⟨h1, va_recv (q0 := 0) (ci := 6) hK hP rfl rfl, h2⟩ rfl rfl hl.1 rfl (lv_room (Nat.le_of_ble_eq_true rfl)) d_M_change_19 ⟨Nat.zero_le _, Nat.zero_le _⟩) (fun r u H locs hq9 hP hD hS => ?_)
  obtain rfl := hq9
  have hP : va_P D vwCl [(xM, .inr (6, [.int (nI 0), .int (nI n), .ref xK, .ref xV, .int (nI ln), .ref xC, .ref xH, .int (nI ct), .ref xT, .ref xP, .int (nI lk), .ref xB, .ref xR, .ref xL, .ref xN, .ref xQ, .int (nI rp.toNat)])), (xH, .inl (cZ, 3, .inl hc))] H := hP
  have hD : va_D A [(xM, .inr (6, [.int (nI 0), .int (nI n), .ref xK, .ref xV, .int (nI ln), .ref xC, .ref xH, .int (nI ct), .ref xT, .ref xP, .int (nI lk), .ref xB, .ref xR, .ref xL, .ref xN, .ref xQ, .int (nI rp.toNat)])), (xH, .inl (cZ, 3, .inl hc))] := hD
  refine xb_neB (x := hcr hc y) hx hb 27 d_M_change_22 rfl (fun h22 => ?_) (fun h22 => ?_)
  · skip
    exact absurd hno (by unfold chk; rw [if_neg h6, if_neg h14, h22]; decide)
  refine lv_iconst (v := nI 0) hx hb d_M_change_25 (by decide) ?_
  exact xr_i hx hb hrt hlk rfl hP hD hS () [0, 1] (by decide) rfl rfl d_M_change_26
set_option maxHeartbeats 4000000 in
set_option maxRecDepth 100000 in
theorem c_M_change (xM : Nat) (cd : Int32) (n : Nat) (xK : Nat) (xV : Nat) (ln : Nat) (xC : Nat) (xH : Nat) (ct : Nat) (xT : Nat) (xP : Nat) (lk : Nat) (xB : Nat) (xR : Nat) (xL : Nat) (xN : Nat) (xQ : Nat) (rp : Bool) (hc : Nat → Int32) (tq : Nat → Int32) (i : Nat) (y : Int32) (hz : ∀ j, j < 3 → hc j = nI 0 ∨ hc j = nI 1) (hct : ct ≤ 30) (hi : i < ct) (hok : hcr hc y = true) : CtI l y_M_change (w_M_change) ({ frames := 1, cells := 0, slots := 0, locals := 21 }) D vwCl (TYs cI cZ cJ cG) (gG tF) [.ref xM, .int (nI i), .int y] [(xM, .inr (6, [.int cd, .int (nI n), .ref xK, .ref xV, .int (nI ln), .ref xC, .ref xH, .int (nI ct), .ref xT, .ref xP, .int (nI lk), .ref xB, .ref xR, .ref xL, .ref xN, .ref xQ, .int (nI rp.toNat)])), (xH, .inl (cZ, 3, .inl hc)), (xT, .inl (cI, 30, .inl tq))] 0 0 (fun _ : Unit => [(xM, .inr (6, [.int (nI 0), .int (nI n), .ref xK, .ref xV, .int (nI ln), .ref xC, .ref xH, .int (nI ct), .ref xT, .ref xP, .int (nI lk), .ref xB, .ref xR, .ref xL, .ref xN, .ref xQ, .int (nI rp.toNat)])), (xH, .inl (cZ, 3, .inl hc)), (xT, .inl (cI, 30, .inl (upd tq i y)))]) (fun (r : Int32) (_ : Unit) => r = nI 1) := by
  refine CtI.of (cc := b_M_change) (maxL := 3) (ret := (some .boolean)) (by decide) rfl (Nat.le_of_ble_eq_true rfl) ?_
  intro p e s m args below meth c A ls hF hA hP hK hD hg hS hl
  obtain ⟨hx, hb, hrt, hlk, hml, hown, hts, hnm⟩ := hF
  have hown : s.vm.findClass R_M = some m.cls := hown
  have hl : lv_has ls 3 [(0, .ref xM), (1, .int (nI i)), (2, .int y)] := hl
  refine lv_aload_n hx hb d_M_change_0 rfl (lv_at hl 0 rfl) ?_
  refine lv_iconst (v := nI 0) hx hb d_M_change_1 (by decide) ?_
  refine va_put (D := D) (ci := 6) (v := .int (nI 0)) (ty := .int) (C := R_M) (T := F_M) (N := 17) hx hb hts in_M t_M t_M_ok n_M hown hK hP hD hS 0 rfl rfl 0 (by decide) (hts _ (List.mem_cons_of_mem _ k_583)) (fun _ h9 => h9) rfl (by decide +kernel) rfl rfl (Nat.le_of_ble_eq_true rfl) d_M_change_2 (fun H locs hP hD hS => ?_)
  have hP : va_P D vwCl [(xM, .inr (6, [.int (nI 0), .int (nI n), .ref xK, .ref xV, .int (nI ln), .ref xC, .ref xH, .int (nI ct), .ref xT, .ref xP, .int (nI lk), .ref xB, .ref xR, .ref xL, .ref xN, .ref xQ, .int (nI rp.toNat)])), (xH, .inl (cZ, 3, .inl hc)), (xT, .inl (cI, 30, .inl tq))] H := hP
  have hD : va_D A [(xM, .inr (6, [.int (nI 0), .int (nI n), .ref xK, .ref xV, .int (nI ln), .ref xC, .ref xH, .int (nI ct), .ref xT, .ref xP, .int (nI lk), .ref xB, .ref xR, .ref xL, .ref xN, .ref xQ, .int (nI rp.toNat)])), (xH, .inl (cZ, 3, .inl hc)), (xT, .inl (cI, 30, .inl tq))] := hD
  refine lv_iload_n hx hb d_M_change_5 rfl (lv_at hl 1 rfl) ?_
  refine xb_lt hx hb 25 (by omega) d_M_change_6 rfl ?_
  refine lv_iload_n hx hb d_M_change_9 rfl (lv_at hl 1 rfl) ?_
  refine lv_aload_n hx hb d_M_change_10 rfl (lv_at hl 0 rfl) ?_
  refine va_get (D := D) (ci := 6) (v := .int (nI ct)) (C := R_M) (T := F_M) (N := 17) hx hb hts in_M hown hK hP 0 rfl rfl 7 (by decide) (hts _ (List.mem_cons_of_mem _ k_590)) (fun _ h9 => h9) rfl d_M_change_11 ?_
  refine xb_cge hx hb 25 (by omega) (by omega) d_M_change_14 rfl (fun h14 => ?_) (fun h14 => ?_)
  · skip
    exact absurd h14 (by omega)
  refine lv_aload_n hx hb d_M_change_17 rfl (lv_at hl 0 rfl) ?_
  refine lv_iload_n hx hb d_M_change_18 rfl (lv_at hl 2 rfl) ?_
  refine xc_i (wc := [(xM, .inr (6, [.int (nI 0), .int (nI n), .ref xK, .ref xV, .int (nI ln), .ref xC, .ref xH, .int (nI ct), .ref xT, .ref xP, .int (nI lk), .ref xB, .ref xR, .ref xL, .ref xN, .ref xQ, .int (nI rp.toNat)])), (xH, .inl (cZ, 3, .inl hc))]) (wr := [(xT, .inl (cI, 30, .inl tq))]) (gG_ok tF) hK hP hD hS hA hg [0, 1] [2] rfl rfl (by decide) (by decide) (by decide) (fun h1 h2 => va_runV (As := [.int y]) (rest := []) ⟨hx, hb, hml, hown, hts⟩ (c_M_isCall xM (nI 0) n xK xV ln xC xH ct xT xP lk xB xR xL xN xQ rp y hc hz _) (cwV 1 hts (gV k_680 k_682 ks_M_isCall k_7 k_683) rfl rfl rfl (by decide +kernel) ⟨Nat.le_of_ble_eq_true rfl, Nat.le_of_ble_eq_true rfl⟩) ⟨h1, va_recv (q0 := 0) (ci := 6) hK hP rfl rfl, h2⟩ rfl rfl hl.1 rfl (lv_room (Nat.le_of_ble_eq_true rfl)) d_M_change_19 ⟨Nat.zero_le _, Nat.zero_le _⟩) (fun r u H locs hq9 hP hD hS => ?_)
  obtain rfl := hq9
  have hP : va_P D vwCl [(xT, .inl (cI, 30, .inl tq)), (xM, .inr (6, [.int (nI 0), .int (nI n), .ref xK, .ref xV, .int (nI ln), .ref xC, .ref xH, .int (nI ct), .ref xT, .ref xP, .int (nI lk), .ref xB, .ref xR, .ref xL, .ref xN, .ref xQ, .int (nI rp.toNat)])), (xH, .inl (cZ, 3, .inl hc))] H := hP
  have hD : va_D A [(xT, .inl (cI, 30, .inl tq)), (xM, .inr (6, [.int (nI 0), .int (nI n), .ref xK, .ref xV, .int (nI ln), .ref xC, .ref xH, .int (nI ct), .ref xT, .ref xP, .int (nI lk), .ref xB, .ref xR, .ref xL, .ref xN, .ref xQ, .int (nI rp.toNat)])), (xH, .inl (cZ, 3, .inl hc))] := hD
  refine xb_neB (x := hcr hc y) hx hb 27 d_M_change_22 rfl (fun h22 => ?_) (fun h22 => ?_)
  · skip
    refine lv_aload_n hx hb d_M_change_27 rfl (lv_at hl 0 rfl) ?_
    refine va_get (D := D) (ci := 6) (v := .ref xT) (C := R_M) (T := F_M) (N := 17) hx hb hts in_M hown hK hP 1 rfl rfl 8 (by decide) (hts _ (List.mem_cons_of_mem _ k_591)) (fun _ h9 => h9) rfl d_M_change_28 ?_
    refine lv_iload_n hx hb d_M_change_31 rfl (lv_at hl 1 rfl) ?_
    refine lv_iload_n hx hb d_M_change_32 rfl (lv_at hl 2 rfl) ?_
    refine xa_iast hx hb hK hP hD hS 0 0 rfl rfl (by omega) (by decide) d_M_change_33 (fun H locs hP hD hS => ?_)
    have hP : va_P D vwCl [(xT, .inl (cI, 30, .inl (upd tq i y))), (xM, .inr (6, [.int (nI 0), .int (nI n), .ref xK, .ref xV, .int (nI ln), .ref xC, .ref xH, .int (nI ct), .ref xT, .ref xP, .int (nI lk), .ref xB, .ref xR, .ref xL, .ref xN, .ref xQ, .int (nI rp.toNat)])), (xH, .inl (cZ, 3, .inl hc))] H := hP
    have hD : va_D A [(xT, .inl (cI, 30, .inl (upd tq i y))), (xM, .inr (6, [.int (nI 0), .int (nI n), .ref xK, .ref xV, .int (nI ln), .ref xC, .ref xH, .int (nI ct), .ref xT, .ref xP, .int (nI lk), .ref xB, .ref xR, .ref xL, .ref xN, .ref xQ, .int (nI rp.toNat)])), (xH, .inl (cZ, 3, .inl hc))] := hD
    refine lv_iconst (v := nI 1) hx hb d_M_change_34 (by decide) ?_
    exact xr_i hx hb hrt hlk rfl hP hD hS () [1, 2, 0] (by decide) rfl rfl d_M_change_35
  rw [hok] at h22
  cases h22
set_option maxHeartbeats 4000000 in
set_option maxRecDepth 100000 in
theorem c_M_keep_no (xM : Nat) (cd : Int32) (n : Nat) (xK : Nat) (xV : Nat) (ln : Nat) (xC : Nat) (xH : Nat) (ct : Nat) (xT : Nat) (xP : Nat) (lk : Nat) (xB : Nat) (xR : Nat) (xL : Nat) (xN : Nat) (xQ : Nat) (rp : Bool) (x : Int32) (hno : kpk ct x = false) : CtI l y_M_keep (w_M_keep) ({ frames := 0, cells := 0, slots := 0, locals := 0 }) D vwCl (TYs cI cZ cJ cG) (gG tF) [.ref xM, .int x] [(xM, .inr (6, [.int cd, .int (nI n), .ref xK, .ref xV, .int (nI ln), .ref xC, .ref xH, .int (nI ct), .ref xT, .ref xP, .int (nI lk), .ref xB, .ref xR, .ref xL, .ref xN, .ref xQ, .int (nI rp.toNat)]))] 0 0 (fun _ : Unit => [(xM, .inr (6, [.int (nI 0), .int (nI n), .ref xK, .ref xV, .int (nI ln), .ref xC, .ref xH, .int (nI ct), .ref xT, .ref xP, .int (nI lk), .ref xB, .ref xR, .ref xL, .ref xN, .ref xQ, .int (nI rp.toNat)]))]) (fun (r : Int32) (_ : Unit) => r = nI 0) := by
  refine CtI.of (cc := b_M_keep) (maxL := 2) (ret := (some .boolean)) (by decide) rfl (Nat.le_of_ble_eq_true rfl) ?_
  intro p e s m args below meth c A ls hF hA hP hK hD hg hS hl
  obtain ⟨hx, hb, hrt, hlk, hml, hown, hts, hnm⟩ := hF
  have hown : s.vm.findClass R_M = some m.cls := hown
  have hl : lv_has ls 2 [(0, .ref xM), (1, .int x)] := hl
  refine lv_aload_n hx hb d_M_keep_0 rfl (lv_at hl 0 rfl) ?_
  refine lv_iconst (v := nI 0) hx hb d_M_keep_1 (by decide) ?_
  refine va_put (D := D) (ci := 6) (v := .int (nI 0)) (ty := .int) (C := R_M) (T := F_M) (N := 17) hx hb hts in_M t_M t_M_ok n_M hown hK hP hD hS 0 rfl rfl 0 (by decide) (hts _ (List.mem_cons_of_mem _ k_583)) (fun _ h9 => h9) rfl (by decide +kernel) rfl rfl (Nat.le_of_ble_eq_true rfl) d_M_keep_2 (fun H locs hP hD hS => ?_)
  have hP : va_P D vwCl [(xM, .inr (6, [.int (nI 0), .int (nI n), .ref xK, .ref xV, .int (nI ln), .ref xC, .ref xH, .int (nI ct), .ref xT, .ref xP, .int (nI lk), .ref xB, .ref xR, .ref xL, .ref xN, .ref xQ, .int (nI rp.toNat)]))] H := hP
  have hD : va_D A [(xM, .inr (6, [.int (nI 0), .int (nI n), .ref xK, .ref xV, .int (nI ln), .ref xC, .ref xH, .int (nI ct), .ref xT, .ref xP, .int (nI lk), .ref xB, .ref xR, .ref xL, .ref xN, .ref xQ, .int (nI rp.toNat)]))] := hD
  refine lv_iload_n hx hb d_M_keep_5 rfl (lv_at hl 1 rfl) ?_
  refine lv_if_lt (tgt := 17) hx hb d_M_keep_6 rfl (fun h6 => ?_) (fun h6 => ?_)
  · skip
    refine lv_iconst (v := nI 0) hx hb d_M_keep_17 (by decide) ?_
    exact xr_i hx hb hrt hlk rfl hP hD hS () [0] (by decide) rfl rfl d_M_keep_18
  refine lv_iload_n hx hb d_M_keep_9 rfl (lv_at hl 1 rfl) ?_
  refine lv_aload_n hx hb d_M_keep_10 rfl (lv_at hl 0 rfl) ?_
  refine va_get (D := D) (ci := 6) (v := .int (nI ct)) (C := R_M) (T := F_M) (N := 17) hx hb hts in_M hown hK hP 0 rfl rfl 7 (by decide) (hts _ (List.mem_cons_of_mem _ k_590)) (fun _ h9 => h9) rfl d_M_keep_11 ?_
  refine lv_icmp_le (tgt := 19) hx hb d_M_keep_14 rfl (fun h14 => ?_) (fun h14 => ?_)
  · skip
    exact absurd hno (by unfold kpk; rw [if_neg h6, if_neg (Int32.not_lt.mpr h14)]; decide)
  refine lv_iconst (v := nI 0) hx hb d_M_keep_17 (by decide) ?_
  exact xr_i hx hb hrt hlk rfl hP hD hS () [0] (by decide) rfl rfl d_M_keep_18
set_option maxHeartbeats 4000000 in
set_option maxRecDepth 100000 in
theorem c_M_keep (xM : Nat) (cd : Int32) (n : Nat) (xK : Nat) (xV : Nat) (ln : Nat) (xC : Nat) (xH : Nat) (ct : Nat) (xT : Nat) (xP : Nat) (lk : Nat) (xB : Nat) (xR : Nat) (xL : Nat) (xN : Nat) (xQ : Nat) (rp : Bool) (i : Nat) (hct : ct ≤ 30) (hi : i ≤ ct) : CtI l y_M_keep (w_M_keep) ({ frames := 0, cells := 0, slots := 0, locals := 0 }) D vwCl (TYs cI cZ cJ cG) (gG tF) [.ref xM, .int (nI i)] [(xM, .inr (6, [.int cd, .int (nI n), .ref xK, .ref xV, .int (nI ln), .ref xC, .ref xH, .int (nI ct), .ref xT, .ref xP, .int (nI lk), .ref xB, .ref xR, .ref xL, .ref xN, .ref xQ, .int (nI rp.toNat)]))] 0 0 (fun _ : Unit => [(xM, .inr (6, [.int (nI 0), .int (nI n), .ref xK, .ref xV, .int (nI ln), .ref xC, .ref xH, .int (nI i), .ref xT, .ref xP, .int (nI lk), .ref xB, .ref xR, .ref xL, .ref xN, .ref xQ, .int (nI rp.toNat)]))]) (fun (r : Int32) (_ : Unit) => r = nI 1) := by
  refine CtI.of (cc := b_M_keep) (maxL := 2) (ret := (some .boolean)) (by decide) rfl (Nat.le_of_ble_eq_true rfl) ?_
  intro p e s m args below meth c A ls hF hA hP hK hD hg hS hl
  obtain ⟨hx, hb, hrt, hlk, hml, hown, hts, hnm⟩ := hF
  have hown : s.vm.findClass R_M = some m.cls := hown
  have hl : lv_has ls 2 [(0, .ref xM), (1, .int (nI i))] := hl
  refine lv_aload_n hx hb d_M_keep_0 rfl (lv_at hl 0 rfl) ?_
  refine lv_iconst (v := nI 0) hx hb d_M_keep_1 (by decide) ?_
  refine va_put (D := D) (ci := 6) (v := .int (nI 0)) (ty := .int) (C := R_M) (T := F_M) (N := 17) hx hb hts in_M t_M t_M_ok n_M hown hK hP hD hS 0 rfl rfl 0 (by decide) (hts _ (List.mem_cons_of_mem _ k_583)) (fun _ h9 => h9) rfl (by decide +kernel) rfl rfl (Nat.le_of_ble_eq_true rfl) d_M_keep_2 (fun H locs hP hD hS => ?_)
  have hP : va_P D vwCl [(xM, .inr (6, [.int (nI 0), .int (nI n), .ref xK, .ref xV, .int (nI ln), .ref xC, .ref xH, .int (nI ct), .ref xT, .ref xP, .int (nI lk), .ref xB, .ref xR, .ref xL, .ref xN, .ref xQ, .int (nI rp.toNat)]))] H := hP
  have hD : va_D A [(xM, .inr (6, [.int (nI 0), .int (nI n), .ref xK, .ref xV, .int (nI ln), .ref xC, .ref xH, .int (nI ct), .ref xT, .ref xP, .int (nI lk), .ref xB, .ref xR, .ref xL, .ref xN, .ref xQ, .int (nI rp.toNat)]))] := hD
  refine lv_iload_n hx hb d_M_keep_5 rfl (lv_at hl 1 rfl) ?_
  refine xb_lt hx hb 17 (by omega) d_M_keep_6 rfl ?_
  refine lv_iload_n hx hb d_M_keep_9 rfl (lv_at hl 1 rfl) ?_
  refine lv_aload_n hx hb d_M_keep_10 rfl (lv_at hl 0 rfl) ?_
  refine va_get (D := D) (ci := 6) (v := .int (nI ct)) (C := R_M) (T := F_M) (N := 17) hx hb hts in_M hown hK hP 0 rfl rfl 7 (by decide) (hts _ (List.mem_cons_of_mem _ k_590)) (fun _ h9 => h9) rfl d_M_keep_11 ?_
  refine xb_cle hx hb 19 (by omega) (by omega) d_M_keep_14 rfl (fun h14 => ?_) (fun h14 => ?_)
  · skip
    refine lv_aload_n hx hb d_M_keep_19 rfl (lv_at hl 0 rfl) ?_
    refine lv_iload_n hx hb d_M_keep_20 rfl (lv_at hl 1 rfl) ?_
    refine va_put (D := D) (ci := 6) (v := .int (nI i)) (ty := .int) (C := R_M) (T := F_M) (N := 17) hx hb hts in_M t_M t_M_ok n_M hown hK hP hD hS 0 rfl rfl 7 (by decide) (hts _ (List.mem_cons_of_mem _ k_590)) (fun _ h9 => h9) rfl (by decide +kernel) rfl rfl (Nat.le_of_ble_eq_true rfl) d_M_keep_21 (fun H locs hP hD hS => ?_)
    have hP : va_P D vwCl [(xM, .inr (6, [.int (nI 0), .int (nI n), .ref xK, .ref xV, .int (nI ln), .ref xC, .ref xH, .int (nI i), .ref xT, .ref xP, .int (nI lk), .ref xB, .ref xR, .ref xL, .ref xN, .ref xQ, .int (nI rp.toNat)]))] H := hP
    have hD : va_D A [(xM, .inr (6, [.int (nI 0), .int (nI n), .ref xK, .ref xV, .int (nI ln), .ref xC, .ref xH, .int (nI i), .ref xT, .ref xP, .int (nI lk), .ref xB, .ref xR, .ref xL, .ref xN, .ref xQ, .int (nI rp.toNat)]))] := hD
    refine lv_iconst (v := nI 1) hx hb d_M_keep_24 (by decide) ?_
    exact xr_i hx hb hrt hlk rfl hP hD hS () [0] (by decide) rfl rfl d_M_keep_25
  exact absurd h14 (by omega)
set_option maxHeartbeats 4000000 in
set_option maxRecDepth 100000 in
theorem c_M_calls (xM : Nat) (cd : Int32) (n : Nat) (xK : Nat) (xV : Nat) (ln : Nat) (xC : Nat) (xH : Nat) (ct : Nat) (xT : Nat) (xP : Nat) (lk : Nat) (xB : Nat) (xR : Nat) (xL : Nat) (xN : Nat) (xQ : Nat) (rp : Bool)  : CtI l y_M_calls (w_M_calls) ({ frames := 0, cells := 0, slots := 0, locals := 0 }) D vwCl (TYs cI cZ cJ cG) (gG tF) [.ref xM] [(xM, .inr (6, [.int cd, .int (nI n), .ref xK, .ref xV, .int (nI ln), .ref xC, .ref xH, .int (nI ct), .ref xT, .ref xP, .int (nI lk), .ref xB, .ref xR, .ref xL, .ref xN, .ref xQ, .int (nI rp.toNat)]))] 0 0 (fun _ : Unit => [(xM, .inr (6, [.int (nI 0), .int (nI n), .ref xK, .ref xV, .int (nI ln), .ref xC, .ref xH, .int (nI ct), .ref xT, .ref xP, .int (nI lk), .ref xB, .ref xR, .ref xL, .ref xN, .ref xQ, .int (nI rp.toNat)]))]) (fun (r : Int32) (_ : Unit) => r = nI ct) := by
  refine CtI.of (cc := b_M_calls) (maxL := 1) (ret := (some .int)) (by decide) rfl (Nat.le_of_ble_eq_true rfl) ?_
  intro p e s m args below meth c A ls hF hA hP hK hD hg hS hl
  obtain ⟨hx, hb, hrt, hlk, hml, hown, hts, hnm⟩ := hF
  have hown : s.vm.findClass R_M = some m.cls := hown
  have hl : lv_has ls 1 [(0, .ref xM)] := hl
  refine lv_aload_n hx hb d_M_calls_0 rfl (lv_at hl 0 rfl) ?_
  refine lv_iconst (v := nI 0) hx hb d_M_calls_1 (by decide) ?_
  refine va_put (D := D) (ci := 6) (v := .int (nI 0)) (ty := .int) (C := R_M) (T := F_M) (N := 17) hx hb hts in_M t_M t_M_ok n_M hown hK hP hD hS 0 rfl rfl 0 (by decide) (hts _ (List.mem_cons_of_mem _ k_583)) (fun _ h9 => h9) rfl (by decide +kernel) rfl rfl (Nat.le_of_ble_eq_true rfl) d_M_calls_2 (fun H locs hP hD hS => ?_)
  have hP : va_P D vwCl [(xM, .inr (6, [.int (nI 0), .int (nI n), .ref xK, .ref xV, .int (nI ln), .ref xC, .ref xH, .int (nI ct), .ref xT, .ref xP, .int (nI lk), .ref xB, .ref xR, .ref xL, .ref xN, .ref xQ, .int (nI rp.toNat)]))] H := hP
  have hD : va_D A [(xM, .inr (6, [.int (nI 0), .int (nI n), .ref xK, .ref xV, .int (nI ln), .ref xC, .ref xH, .int (nI ct), .ref xT, .ref xP, .int (nI lk), .ref xB, .ref xR, .ref xL, .ref xN, .ref xQ, .int (nI rp.toNat)]))] := hD
  refine lv_aload_n hx hb d_M_calls_5 rfl (lv_at hl 0 rfl) ?_
  refine va_get (D := D) (ci := 6) (v := .int (nI ct)) (C := R_M) (T := F_M) (N := 17) hx hb hts in_M hown hK hP 0 rfl rfl 7 (by decide) (hts _ (List.mem_cons_of_mem _ k_590)) (fun _ h9 => h9) rfl d_M_calls_6 ?_
  exact xr_i hx hb hrt hlk rfl hP hD hS () [0] (by decide) rfl rfl d_M_calls_9
set_option maxHeartbeats 4000000 in
set_option maxRecDepth 100000 in
theorem c_M_rows (xM : Nat) (cd : Int32) (n : Nat) (xK : Nat) (xV : Nat) (ln : Nat) (xC : Nat) (xH : Nat) (ct : Nat) (xT : Nat) (xP : Nat) (lk : Nat) (xB : Nat) (xR : Nat) (xL : Nat) (xN : Nat) (xQ : Nat) (rp : Bool)  : CtI l y_M_rows (w_M_rows) ({ frames := 0, cells := 0, slots := 0, locals := 0 }) D vwCl (TYs cI cZ cJ cG) (gG tF) [.ref xM] [(xM, .inr (6, [.int cd, .int (nI n), .ref xK, .ref xV, .int (nI ln), .ref xC, .ref xH, .int (nI ct), .ref xT, .ref xP, .int (nI lk), .ref xB, .ref xR, .ref xL, .ref xN, .ref xQ, .int (nI rp.toNat)]))] 0 0 (fun _ : Unit => [(xM, .inr (6, [.int (nI 0), .int (nI n), .ref xK, .ref xV, .int (nI ln), .ref xC, .ref xH, .int (nI ct), .ref xT, .ref xP, .int (nI lk), .ref xB, .ref xR, .ref xL, .ref xN, .ref xQ, .int (nI rp.toNat)]))]) (fun (r : Int32) (_ : Unit) => r = nI (ct * ln)) := by
  refine CtI.of (cc := b_M_rows) (maxL := 1) (ret := (some .int)) (by decide) rfl (Nat.le_of_ble_eq_true rfl) ?_
  intro p e s m args below meth c A ls hF hA hP hK hD hg hS hl
  obtain ⟨hx, hb, hrt, hlk, hml, hown, hts, hnm⟩ := hF
  have hown : s.vm.findClass R_M = some m.cls := hown
  have hl : lv_has ls 1 [(0, .ref xM)] := hl
  refine lv_aload_n hx hb d_M_rows_0 rfl (lv_at hl 0 rfl) ?_
  refine lv_iconst (v := nI 0) hx hb d_M_rows_1 (by decide) ?_
  refine va_put (D := D) (ci := 6) (v := .int (nI 0)) (ty := .int) (C := R_M) (T := F_M) (N := 17) hx hb hts in_M t_M t_M_ok n_M hown hK hP hD hS 0 rfl rfl 0 (by decide) (hts _ (List.mem_cons_of_mem _ k_583)) (fun _ h9 => h9) rfl (by decide +kernel) rfl rfl (Nat.le_of_ble_eq_true rfl) d_M_rows_2 (fun H locs hP hD hS => ?_)
  have hP : va_P D vwCl [(xM, .inr (6, [.int (nI 0), .int (nI n), .ref xK, .ref xV, .int (nI ln), .ref xC, .ref xH, .int (nI ct), .ref xT, .ref xP, .int (nI lk), .ref xB, .ref xR, .ref xL, .ref xN, .ref xQ, .int (nI rp.toNat)]))] H := hP
  have hD : va_D A [(xM, .inr (6, [.int (nI 0), .int (nI n), .ref xK, .ref xV, .int (nI ln), .ref xC, .ref xH, .int (nI ct), .ref xT, .ref xP, .int (nI lk), .ref xB, .ref xR, .ref xL, .ref xN, .ref xQ, .int (nI rp.toNat)]))] := hD
  refine lv_aload_n hx hb d_M_rows_5 rfl (lv_at hl 0 rfl) ?_
  refine va_get (D := D) (ci := 6) (v := .int (nI ct)) (C := R_M) (T := F_M) (N := 17) hx hb hts in_M hown hK hP 0 rfl rfl 7 (by decide) (hts _ (List.mem_cons_of_mem _ k_590)) (fun _ h9 => h9) rfl d_M_rows_6 ?_
  refine lv_aload_n hx hb d_M_rows_9 rfl (lv_at hl 0 rfl) ?_
  refine va_get (D := D) (ci := 6) (v := .int (nI ln)) (C := R_M) (T := F_M) (N := 17) hx hb hts in_M hown hK hP 0 rfl rfl 4 (by decide) (hts _ (List.mem_cons_of_mem _ k_587)) (fun _ h9 => h9) rfl d_M_rows_10 ?_
  refine lv_imul hx hb d_M_rows_13 ?_
  refine xn_i (y := nI (ct * ln)) (pk_mul _ _) ?_
  exact xr_i hx hb hrt hlk rfl hP hD hS () [0] (by decide) rfl rfl d_M_rows_14
set_option maxHeartbeats 4000000 in
set_option maxRecDepth 100000 in
theorem c_M_looked (xM : Nat) (cd : Int32) (n : Nat) (xK : Nat) (xV : Nat) (ln : Nat) (xC : Nat) (xH : Nat) (ct : Nat) (xT : Nat) (xP : Nat) (lk : Nat) (xB : Nat) (xR : Nat) (xL : Nat) (xN : Nat) (xQ : Nat) (rp : Bool)  : CtI l y_M_looked (w_M_looked) ({ frames := 0, cells := 0, slots := 0, locals := 0 }) D vwCl (TYs cI cZ cJ cG) (gG tF) [.ref xM] [(xM, .inr (6, [.int cd, .int (nI n), .ref xK, .ref xV, .int (nI ln), .ref xC, .ref xH, .int (nI ct), .ref xT, .ref xP, .int (nI lk), .ref xB, .ref xR, .ref xL, .ref xN, .ref xQ, .int (nI rp.toNat)]))] 0 0 (fun _ : Unit => [(xM, .inr (6, [.int (nI 0), .int (nI n), .ref xK, .ref xV, .int (nI ln), .ref xC, .ref xH, .int (nI ct), .ref xT, .ref xP, .int (nI lk), .ref xB, .ref xR, .ref xL, .ref xN, .ref xQ, .int (nI rp.toNat)]))]) (fun (r : Int32) (_ : Unit) => r = nI lk) := by
  refine CtI.of (cc := b_M_looked) (maxL := 1) (ret := (some .int)) (by decide) rfl (Nat.le_of_ble_eq_true rfl) ?_
  intro p e s m args below meth c A ls hF hA hP hK hD hg hS hl
  obtain ⟨hx, hb, hrt, hlk, hml, hown, hts, hnm⟩ := hF
  have hown : s.vm.findClass R_M = some m.cls := hown
  have hl : lv_has ls 1 [(0, .ref xM)] := hl
  refine lv_aload_n hx hb d_M_looked_0 rfl (lv_at hl 0 rfl) ?_
  refine lv_iconst (v := nI 0) hx hb d_M_looked_1 (by decide) ?_
  refine va_put (D := D) (ci := 6) (v := .int (nI 0)) (ty := .int) (C := R_M) (T := F_M) (N := 17) hx hb hts in_M t_M t_M_ok n_M hown hK hP hD hS 0 rfl rfl 0 (by decide) (hts _ (List.mem_cons_of_mem _ k_583)) (fun _ h9 => h9) rfl (by decide +kernel) rfl rfl (Nat.le_of_ble_eq_true rfl) d_M_looked_2 (fun H locs hP hD hS => ?_)
  have hP : va_P D vwCl [(xM, .inr (6, [.int (nI 0), .int (nI n), .ref xK, .ref xV, .int (nI ln), .ref xC, .ref xH, .int (nI ct), .ref xT, .ref xP, .int (nI lk), .ref xB, .ref xR, .ref xL, .ref xN, .ref xQ, .int (nI rp.toNat)]))] H := hP
  have hD : va_D A [(xM, .inr (6, [.int (nI 0), .int (nI n), .ref xK, .ref xV, .int (nI ln), .ref xC, .ref xH, .int (nI ct), .ref xT, .ref xP, .int (nI lk), .ref xB, .ref xR, .ref xL, .ref xN, .ref xQ, .int (nI rp.toNat)]))] := hD
  refine lv_aload_n hx hb d_M_looked_5 rfl (lv_at hl 0 rfl) ?_
  refine va_get (D := D) (ci := 6) (v := .int (nI lk)) (C := R_M) (T := F_M) (N := 17) hx hb hts in_M hown hK hP 0 rfl rfl 10 (by decide) (hts _ (List.mem_cons_of_mem _ k_593)) (fun _ h9 => h9) rfl d_M_looked_6 ?_
  exact xr_i hx hb hrt hlk rfl hP hD hS () [0] (by decide) rfl rfl d_M_looked_9
set_option maxHeartbeats 4000000 in
set_option maxRecDepth 100000 in
theorem c_M_callAt_no (xM : Nat) (cd : Int32) (n : Nat) (xK : Nat) (xV : Nat) (ln : Nat) (xC : Nat) (xH : Nat) (ct : Nat) (xT : Nat) (xP : Nat) (lk : Nat) (xB : Nat) (xR : Nat) (xL : Nat) (xN : Nat) (xQ : Nat) (rp : Bool) (x : Int32) (hno : chk true ct x = false) : CtI l y_M_callAt (w_M_callAt) ({ frames := 0, cells := 0, slots := 0, locals := 0 }) D vwCl (TYs cI cZ cJ cG) (gG tF) [.ref xM, .int x] [(xM, .inr (6, [.int cd, .int (nI n), .ref xK, .ref xV, .int (nI ln), .ref xC, .ref xH, .int (nI ct), .ref xT, .ref xP, .int (nI lk), .ref xB, .ref xR, .ref xL, .ref xN, .ref xQ, .int (nI rp.toNat)]))] 0 0 (fun _ : Unit => [(xM, .inr (6, [.int (nI 0), .int (nI n), .ref xK, .ref xV, .int (nI ln), .ref xC, .ref xH, .int (nI ct), .ref xT, .ref xP, .int (nI lk), .ref xB, .ref xR, .ref xL, .ref xN, .ref xQ, .int (nI rp.toNat)]))]) (fun (r : Int32) (_ : Unit) => r = (-1)) := by
  refine CtI.of (cc := b_M_callAt) (maxL := 2) (ret := (some .int)) (by decide) rfl (Nat.le_of_ble_eq_true rfl) ?_
  intro p e s m args below meth c A ls hF hA hP hK hD hg hS hl
  obtain ⟨hx, hb, hrt, hlk, hml, hown, hts, hnm⟩ := hF
  have hown : s.vm.findClass R_M = some m.cls := hown
  have hl : lv_has ls 2 [(0, .ref xM), (1, .int x)] := hl
  refine lv_aload_n hx hb d_M_callAt_0 rfl (lv_at hl 0 rfl) ?_
  refine lv_iconst (v := nI 0) hx hb d_M_callAt_1 (by decide) ?_
  refine va_put (D := D) (ci := 6) (v := .int (nI 0)) (ty := .int) (C := R_M) (T := F_M) (N := 17) hx hb hts in_M t_M t_M_ok n_M hown hK hP hD hS 0 rfl rfl 0 (by decide) (hts _ (List.mem_cons_of_mem _ k_583)) (fun _ h9 => h9) rfl (by decide +kernel) rfl rfl (Nat.le_of_ble_eq_true rfl) d_M_callAt_2 (fun H locs hP hD hS => ?_)
  have hP : va_P D vwCl [(xM, .inr (6, [.int (nI 0), .int (nI n), .ref xK, .ref xV, .int (nI ln), .ref xC, .ref xH, .int (nI ct), .ref xT, .ref xP, .int (nI lk), .ref xB, .ref xR, .ref xL, .ref xN, .ref xQ, .int (nI rp.toNat)]))] H := hP
  have hD : va_D A [(xM, .inr (6, [.int (nI 0), .int (nI n), .ref xK, .ref xV, .int (nI ln), .ref xC, .ref xH, .int (nI ct), .ref xT, .ref xP, .int (nI lk), .ref xB, .ref xR, .ref xL, .ref xN, .ref xQ, .int (nI rp.toNat)]))] := hD
  refine lv_iload_n hx hb d_M_callAt_5 rfl (lv_at hl 1 rfl) ?_
  refine lv_if_lt (tgt := 17) hx hb d_M_callAt_6 rfl (fun h6 => ?_) (fun h6 => ?_)
  · skip
    refine lv_iconst (v := (-1)) hx hb d_M_callAt_17 (by decide) ?_
    refine lv_goto (tgt := 27) hx hb d_M_callAt_18 rfl ?_
    exact xr_i hx hb hrt hlk rfl hP hD hS () [0] (by decide) rfl rfl d_M_callAt_27
  refine lv_iload_n hx hb d_M_callAt_9 rfl (lv_at hl 1 rfl) ?_
  refine lv_aload_n hx hb d_M_callAt_10 rfl (lv_at hl 0 rfl) ?_
  refine va_get (D := D) (ci := 6) (v := .int (nI ct)) (C := R_M) (T := F_M) (N := 17) hx hb hts in_M hown hK hP 0 rfl rfl 7 (by decide) (hts _ (List.mem_cons_of_mem _ k_590)) (fun _ h9 => h9) rfl d_M_callAt_11 ?_
  refine lv_icmp_lt (tgt := 21) hx hb d_M_callAt_14 rfl (fun h14 => ?_) (fun h14 => ?_)
  · skip
    exact absurd hno (by unfold chk; rw [if_neg h6, if_neg (Int32.not_le.mpr h14)]; decide)
  refine lv_iconst (v := (-1)) hx hb d_M_callAt_17 (by decide) ?_
  refine lv_goto (tgt := 27) hx hb d_M_callAt_18 rfl ?_
  exact xr_i hx hb hrt hlk rfl hP hD hS () [0] (by decide) rfl rfl d_M_callAt_27
set_option maxHeartbeats 4000000 in
set_option maxRecDepth 100000 in
theorem c_M_callAt (xM : Nat) (cd : Int32) (n : Nat) (xK : Nat) (xV : Nat) (ln : Nat) (xC : Nat) (xH : Nat) (ct : Nat) (xT : Nat) (xP : Nat) (lk : Nat) (xB : Nat) (xR : Nat) (xL : Nat) (xN : Nat) (xQ : Nat) (rp : Bool) (tq : Nat → Int32) (i : Nat) (hct : ct ≤ 30) (hi : i < ct) : CtI l y_M_callAt (w_M_callAt) ({ frames := 0, cells := 0, slots := 0, locals := 0 }) D vwCl (TYs cI cZ cJ cG) (gG tF) [.ref xM, .int (nI i)] [(xM, .inr (6, [.int cd, .int (nI n), .ref xK, .ref xV, .int (nI ln), .ref xC, .ref xH, .int (nI ct), .ref xT, .ref xP, .int (nI lk), .ref xB, .ref xR, .ref xL, .ref xN, .ref xQ, .int (nI rp.toNat)])), (xT, .inl (cI, 30, .inl tq))] 0 0 (fun _ : Unit => [(xM, .inr (6, [.int (nI 0), .int (nI n), .ref xK, .ref xV, .int (nI ln), .ref xC, .ref xH, .int (nI ct), .ref xT, .ref xP, .int (nI lk), .ref xB, .ref xR, .ref xL, .ref xN, .ref xQ, .int (nI rp.toNat)])), (xT, .inl (cI, 30, .inl tq))]) (fun (r : Int32) (_ : Unit) => r = tq i) := by
  refine CtI.of (cc := b_M_callAt) (maxL := 2) (ret := (some .int)) (by decide) rfl (Nat.le_of_ble_eq_true rfl) ?_
  intro p e s m args below meth c A ls hF hA hP hK hD hg hS hl
  obtain ⟨hx, hb, hrt, hlk, hml, hown, hts, hnm⟩ := hF
  have hown : s.vm.findClass R_M = some m.cls := hown
  have hl : lv_has ls 2 [(0, .ref xM), (1, .int (nI i))] := hl
  refine lv_aload_n hx hb d_M_callAt_0 rfl (lv_at hl 0 rfl) ?_
  refine lv_iconst (v := nI 0) hx hb d_M_callAt_1 (by decide) ?_
  refine va_put (D := D) (ci := 6) (v := .int (nI 0)) (ty := .int) (C := R_M) (T := F_M) (N := 17) hx hb hts in_M t_M t_M_ok n_M hown hK hP hD hS 0 rfl rfl 0 (by decide) (hts _ (List.mem_cons_of_mem _ k_583)) (fun _ h9 => h9) rfl (by decide +kernel) rfl rfl (Nat.le_of_ble_eq_true rfl) d_M_callAt_2 (fun H locs hP hD hS => ?_)
  have hP : va_P D vwCl [(xM, .inr (6, [.int (nI 0), .int (nI n), .ref xK, .ref xV, .int (nI ln), .ref xC, .ref xH, .int (nI ct), .ref xT, .ref xP, .int (nI lk), .ref xB, .ref xR, .ref xL, .ref xN, .ref xQ, .int (nI rp.toNat)])), (xT, .inl (cI, 30, .inl tq))] H := hP
  have hD : va_D A [(xM, .inr (6, [.int (nI 0), .int (nI n), .ref xK, .ref xV, .int (nI ln), .ref xC, .ref xH, .int (nI ct), .ref xT, .ref xP, .int (nI lk), .ref xB, .ref xR, .ref xL, .ref xN, .ref xQ, .int (nI rp.toNat)])), (xT, .inl (cI, 30, .inl tq))] := hD
  refine lv_iload_n hx hb d_M_callAt_5 rfl (lv_at hl 1 rfl) ?_
  refine xb_lt hx hb 17 (by omega) d_M_callAt_6 rfl ?_
  refine lv_iload_n hx hb d_M_callAt_9 rfl (lv_at hl 1 rfl) ?_
  refine lv_aload_n hx hb d_M_callAt_10 rfl (lv_at hl 0 rfl) ?_
  refine va_get (D := D) (ci := 6) (v := .int (nI ct)) (C := R_M) (T := F_M) (N := 17) hx hb hts in_M hown hK hP 0 rfl rfl 7 (by decide) (hts _ (List.mem_cons_of_mem _ k_590)) (fun _ h9 => h9) rfl d_M_callAt_11 ?_
  refine xb_clt hx hb 21 (by omega) (by omega) d_M_callAt_14 rfl (fun h14 => ?_) (fun h14 => ?_)
  · skip
    refine lv_aload_n hx hb d_M_callAt_21 rfl (lv_at hl 0 rfl) ?_
    refine va_get (D := D) (ci := 6) (v := .ref xT) (C := R_M) (T := F_M) (N := 17) hx hb hts in_M hown hK hP 0 rfl rfl 8 (by decide) (hts _ (List.mem_cons_of_mem _ k_591)) (fun _ h9 => h9) rfl d_M_callAt_22 ?_
    refine lv_iload_n hx hb d_M_callAt_25 rfl (lv_at hl 1 rfl) ?_
    refine xa_iald (v := tq i) hx hb hK hP 1 0 rfl rfl (by omega) (by decide) rfl d_M_callAt_26 ?_
    exact xr_i hx hb hrt hlk rfl hP hD hS () [0, 1] (by decide) rfl rfl d_M_callAt_27
  exact absurd h14 (by omega)
set_option maxHeartbeats 4000000 in
set_option maxRecDepth 100000 in
theorem c_M_bell_no (xM : Nat) (cd : Int32) (n : Nat) (xK : Nat) (xV : Nat) (ln : Nat) (xC : Nat) (xH : Nat) (ct : Nat) (xT : Nat) (xP : Nat) (lk : Nat) (xB : Nat) (xR : Nat) (xL : Nat) (xN : Nat) (xQ : Nat) (rp : Bool) (B : Nat → Int32) (Rk : Nat → Int32) (km : Nat → Int32) (cq : Nat → Int32) (tq : Nat → Int32) (mt : Nat → Nat → Nat) (tt : Nat → Nat) (x : Int32) (y : Int32) (hn : nb n) (hct : ct ≤ 30) (hln : ln ≤ 24) (hlt : ∀ i, i ≤ ct * ln → Rw n ln mt tt i < fa n) (htt : ∀ a, a < ct → tq a = nI (tt a) ∧ tt a ≤ 2 ∧ gmr n ln km cq (tt a) (mt (tt a))) (hno : bek (ct * ln) n x y = false) : CtI l y_M_bell (w_M_bell) ({ frames := 4, cells := 0, slots := 0, locals := 93 }) D vwCl (TYs cI cZ cJ cG) (gG tF) [.ref xM, .int x, .int y] [(xM, .inr (6, [.int cd, .int (nI n), .ref xK, .ref xV, .int (nI ln), .ref xC, .ref xH, .int (nI ct), .ref xT, .ref xP, .int (nI lk), .ref xB, .ref xR, .ref xL, .ref xN, .ref xQ, .int (nI rp.toNat)])), (xK, .inl (cI, 24, .inl km)), (xC, .inl (cI, 3, .inl cq)), (xT, .inl (cI, 30, .inl tq)), (xB, .inl (cI, 4326, .inl B)), (xR, .inl (cI, 721, .inl Rk))] 0 0 (fun u : (Nat → Int32) × (Nat → Int32) => match u with | (B2, Rk2) => [(xM, .inr (6, [.int (nI 0), .int (nI n), .ref xK, .ref xV, .int (nI ln), .ref xC, .ref xH, .int (nI ct), .ref xT, .ref xP, .int (nI lk), .ref xB, .ref xR, .ref xL, .ref xN, .ref xQ, .int (nI rp.toNat)])), (xK, .inl (cI, 24, .inl km)), (xC, .inl (cI, 3, .inl cq)), (xT, .inl (cI, 30, .inl tq)), (xB, .inl (cI, 4326, .inl B2)), (xR, .inl (cI, 721, .inl Rk2))]) (fun (r : Int32) (u : (Nat → Int32) × (Nat → Int32)) => match u with | (B2, Rk2) => r = (-1)) := by
  refine CtI.of (cc := b_M_bell) (maxL := 3) (ret := (some .int)) (by decide) rfl (Nat.le_of_ble_eq_true rfl) ?_
  intro p e s m args below meth c A ls hF hA hP hK hD hg hS hl
  obtain ⟨hx, hb, hrt, hlk, hml, hown, hts, hnm⟩ := hF
  have hown : s.vm.findClass R_M = some m.cls := hown
  have hl : lv_has ls 3 [(0, .ref xM), (1, .int x), (2, .int y)] := hl
  have hn4 : 4 ≤ n := hn.1
  have hn6 : n ≤ 6 := hn.2
  have hfa : fa n ≤ 720 := fa_le hn
  have hcl : ct * ln ≤ 720 := by have := Nat.mul_le_mul hct hln; omega
  refine lv_aload_n hx hb d_M_bell_0 rfl (lv_at hl 0 rfl) ?_
  refine lv_iconst (v := nI 0) hx hb d_M_bell_1 (by decide) ?_
  refine va_put (D := D) (ci := 6) (v := .int (nI 0)) (ty := .int) (C := R_M) (T := F_M) (N := 17) hx hb hts in_M t_M t_M_ok n_M hown hK hP hD hS 0 rfl rfl 0 (by decide) (hts _ (List.mem_cons_of_mem _ k_583)) (fun _ h9 => h9) rfl (by decide +kernel) rfl rfl (Nat.le_of_ble_eq_true rfl) d_M_bell_2 (fun H locs hP hD hS => ?_)
  have hP : va_P D vwCl [(xM, .inr (6, [.int (nI 0), .int (nI n), .ref xK, .ref xV, .int (nI ln), .ref xC, .ref xH, .int (nI ct), .ref xT, .ref xP, .int (nI lk), .ref xB, .ref xR, .ref xL, .ref xN, .ref xQ, .int (nI rp.toNat)])), (xK, .inl (cI, 24, .inl km)), (xC, .inl (cI, 3, .inl cq)), (xT, .inl (cI, 30, .inl tq)), (xB, .inl (cI, 4326, .inl B)), (xR, .inl (cI, 721, .inl Rk))] H := hP
  have hD : va_D A [(xM, .inr (6, [.int (nI 0), .int (nI n), .ref xK, .ref xV, .int (nI ln), .ref xC, .ref xH, .int (nI ct), .ref xT, .ref xP, .int (nI lk), .ref xB, .ref xR, .ref xL, .ref xN, .ref xQ, .int (nI rp.toNat)])), (xK, .inl (cI, 24, .inl km)), (xC, .inl (cI, 3, .inl cq)), (xT, .inl (cI, 30, .inl tq)), (xB, .inl (cI, 4326, .inl B)), (xR, .inl (cI, 721, .inl Rk))] := hD
  refine lv_iload_n hx hb d_M_bell_5 rfl (lv_at hl 1 rfl) ?_
  refine lv_if_lt (tgt := 30) hx hb d_M_bell_6 rfl (fun h6 => ?_) (fun h6 => ?_)
  · skip
    refine lv_iconst (v := (-1)) hx hb d_M_bell_30 (by decide) ?_
    refine lv_goto (tgt := 47) hx hb d_M_bell_31 rfl ?_
    exact xr_i hx hb hrt hlk rfl hP hD hS (B, Rk) [0, 1, 2, 3, 4, 5] (by decide) rfl rfl d_M_bell_47
  refine lv_iload_n hx hb d_M_bell_9 rfl (lv_at hl 1 rfl) ?_
  refine lv_aload_n hx hb d_M_bell_10 rfl (lv_at hl 0 rfl) ?_
  refine xc_i (wc := [(xM, .inr (6, [.int (nI 0), .int (nI n), .ref xK, .ref xV, .int (nI ln), .ref xC, .ref xH, .int (nI ct), .ref xT, .ref xP, .int (nI lk), .ref xB, .ref xR, .ref xL, .ref xN, .ref xQ, .int (nI rp.toNat)])), (xK, .inl (cI, 24, .inl km)), (xC, .inl (cI, 3, .inl cq)), (xT, .inl (cI, 30, .inl tq)), (xB, .inl (cI, 4326, .inl B)), (xR, .inl (cI, 721, .inl Rk))]) (wr := []) (gG_ok tF) hK hP hD hS hA hg [0, 1, 2, 3, 4, 5] [] rfl rfl (by decide) (by decide) (by decide) (fun h1 h2 => va_runV (As := []) (rest := [.int x]) ⟨hx, hb, hml, hown, hts⟩ (c_M_ringAll xM (nI 0) n xK xV ln xC xH ct xT xP lk xB xR xL xN xQ rp B Rk km cq tq mt tt hn hct hln hcl hlt htt _) (cwV 0 hts (gV k_704 k_706 ks_M_ringAll k_7 k_707) rfl rfl rfl (by decide +kernel) ⟨Nat.le_of_ble_eq_true rfl, Nat.le_of_ble_eq_true rfl⟩) ⟨h1, va_recv (q0 := 0) (ci := 6) hK hP rfl rfl, h2⟩ rfl rfl hl.1 rfl (lv_room (Nat.le_of_ble_eq_true rfl)) d_M_bell_11 ⟨Nat.zero_le _, Nat.zero_le _⟩) (fun r u H locs hq9 hP hD hS => ?_)
  obtain ⟨B2, Rk2⟩ := u
  obtain ⟨rfl, hw11⟩ := hq9
  have hP : va_P D vwCl [(xM, .inr (6, [.int (nI 0), .int (nI n), .ref xK, .ref xV, .int (nI ln), .ref xC, .ref xH, .int (nI ct), .ref xT, .ref xP, .int (nI lk), .ref xB, .ref xR, .ref xL, .ref xN, .ref xQ, .int (nI rp.toNat)])), (xK, .inl (cI, 24, .inl km)), (xC, .inl (cI, 3, .inl cq)), (xT, .inl (cI, 30, .inl tq)), (xB, .inl (cI, 4326, .inl B2)), (xR, .inl (cI, 721, .inl Rk2))] H := hP
  have hD : va_D A [(xM, .inr (6, [.int (nI 0), .int (nI n), .ref xK, .ref xV, .int (nI ln), .ref xC, .ref xH, .int (nI ct), .ref xT, .ref xP, .int (nI lk), .ref xB, .ref xR, .ref xL, .ref xN, .ref xQ, .int (nI rp.toNat)])), (xK, .inl (cI, 24, .inl km)), (xC, .inl (cI, 3, .inl cq)), (xT, .inl (cI, 30, .inl tq)), (xB, .inl (cI, 4326, .inl B2)), (xR, .inl (cI, 721, .inl Rk2))] := hD
  refine lv_icmp_gt (tgt := 30) hx hb d_M_bell_14 rfl (fun h14 => ?_) (fun h14 => ?_)
  · skip
    refine lv_iconst (v := (-1)) hx hb d_M_bell_30 (by decide) ?_
    refine lv_goto (tgt := 47) hx hb d_M_bell_31 rfl ?_
    exact xr_i hx hb hrt hlk rfl hP hD hS (B2, Rk2) [0, 1, 2, 3, 4, 5] (by decide) rfl rfl d_M_bell_47
  refine lv_iload_n hx hb d_M_bell_17 rfl (lv_at hl 2 rfl) ?_
  refine lv_iconst (v := nI 1) hx hb d_M_bell_18 (by decide) ?_
  refine lv_icmp_lt (tgt := 30) hx hb d_M_bell_19 rfl (fun h19 => ?_) (fun h19 => ?_)
  · skip
    refine lv_iconst (v := (-1)) hx hb d_M_bell_30 (by decide) ?_
    refine lv_goto (tgt := 47) hx hb d_M_bell_31 rfl ?_
    exact xr_i hx hb hrt hlk rfl hP hD hS (B2, Rk2) [0, 1, 2, 3, 4, 5] (by decide) rfl rfl d_M_bell_47
  refine lv_iload_n hx hb d_M_bell_22 rfl (lv_at hl 2 rfl) ?_
  refine lv_aload_n hx hb d_M_bell_23 rfl (lv_at hl 0 rfl) ?_
  refine va_get (D := D) (ci := 6) (v := .int (nI n)) (C := R_M) (T := F_M) (N := 17) hx hb hts in_M hown hK hP 0 rfl rfl 1 (by decide) (hts _ (List.mem_cons_of_mem _ k_584)) (fun _ h9 => h9) rfl d_M_bell_24 ?_
  refine lv_icmp_le (tgt := 34) hx hb d_M_bell_27 rfl (fun h27 => ?_) (fun h27 => ?_)
  · skip
    exact absurd hno (by unfold bek okl; rw [if_neg h6, if_neg h14, if_neg h19, if_neg (Int32.not_lt.mpr h27)]; decide)
  refine lv_iconst (v := (-1)) hx hb d_M_bell_30 (by decide) ?_
  refine lv_goto (tgt := 47) hx hb d_M_bell_31 rfl ?_
  exact xr_i hx hb hrt hlk rfl hP hD hS (B2, Rk2) [0, 1, 2, 3, 4, 5] (by decide) rfl rfl d_M_bell_47
set_option maxHeartbeats 4000000 in
set_option maxRecDepth 100000 in
theorem c_M_bell (xM : Nat) (cd : Int32) (n : Nat) (xK : Nat) (xV : Nat) (ln : Nat) (xC : Nat) (xH : Nat) (ct : Nat) (xT : Nat) (xP : Nat) (lk : Nat) (xB : Nat) (xR : Nat) (xL : Nat) (xN : Nat) (xQ : Nat) (rp : Bool) (B : Nat → Int32) (Rk : Nat → Int32) (km : Nat → Int32) (cq : Nat → Int32) (tq : Nat → Int32) (mt : Nat → Nat → Nat) (tt : Nat → Nat) (i : Nat) (q : Nat) (hn : nb n) (hct : ct ≤ 30) (hln : ln ≤ 24) (hlt : ∀ i, i ≤ ct * ln → Rw n ln mt tt i < fa n) (htt : ∀ a, a < ct → tq a = nI (tt a) ∧ tt a ≤ 2 ∧ gmr n ln km cq (tt a) (mt (tt a))) (hi : i ≤ ct * ln) (hq : q < n) : CtI l y_M_bell (w_M_bell) ({ frames := 4, cells := 0, slots := 0, locals := 93 }) D vwCl (TYs cI cZ cJ cG) (gG tF) [.ref xM, .int (nI i), .int (nI (q + 1))] [(xM, .inr (6, [.int cd, .int (nI n), .ref xK, .ref xV, .int (nI ln), .ref xC, .ref xH, .int (nI ct), .ref xT, .ref xP, .int (nI lk), .ref xB, .ref xR, .ref xL, .ref xN, .ref xQ, .int (nI rp.toNat)])), (xK, .inl (cI, 24, .inl km)), (xC, .inl (cI, 3, .inl cq)), (xT, .inl (cI, 30, .inl tq)), (xB, .inl (cI, 4326, .inl B)), (xR, .inl (cI, 721, .inl Rk))] 0 0 (fun u : (Nat → Int32) × (Nat → Int32) => match u with | (B2, Rk2) => [(xM, .inr (6, [.int (nI 0), .int (nI n), .ref xK, .ref xV, .int (nI ln), .ref xC, .ref xH, .int (nI ct), .ref xT, .ref xP, .int (nI lk), .ref xB, .ref xR, .ref xL, .ref xN, .ref xQ, .int (nI rp.toNat)])), (xK, .inl (cI, 24, .inl km)), (xC, .inl (cI, 3, .inl cq)), (xT, .inl (cI, 30, .inl tq)), (xB, .inl (cI, 4326, .inl B2)), (xR, .inl (cI, 721, .inl Rk2))]) (fun (r : Int32) (u : (Nat → Int32) × (Nat → Int32)) => match u with | (B2, Rk2) => r = nI (ro n (Rw n ln mt tt i) q)) := by
  refine CtI.of (cc := b_M_bell) (maxL := 3) (ret := (some .int)) (by decide) rfl (Nat.le_of_ble_eq_true rfl) ?_
  intro p e s m args below meth c A ls hF hA hP hK hD hg hS hl
  obtain ⟨hx, hb, hrt, hlk, hml, hown, hts, hnm⟩ := hF
  have hown : s.vm.findClass R_M = some m.cls := hown
  have hl : lv_has ls 3 [(0, .ref xM), (1, .int (nI i)), (2, .int (nI (q + 1)))] := hl
  have hn4 : 4 ≤ n := hn.1
  have hn6 : n ≤ 6 := hn.2
  have hfa : fa n ≤ 720 := fa_le hn
  have hcl : ct * ln ≤ 720 := by have := Nat.mul_le_mul hct hln; omega
  refine lv_aload_n hx hb d_M_bell_0 rfl (lv_at hl 0 rfl) ?_
  refine lv_iconst (v := nI 0) hx hb d_M_bell_1 (by decide) ?_
  refine va_put (D := D) (ci := 6) (v := .int (nI 0)) (ty := .int) (C := R_M) (T := F_M) (N := 17) hx hb hts in_M t_M t_M_ok n_M hown hK hP hD hS 0 rfl rfl 0 (by decide) (hts _ (List.mem_cons_of_mem _ k_583)) (fun _ h9 => h9) rfl (by decide +kernel) rfl rfl (Nat.le_of_ble_eq_true rfl) d_M_bell_2 (fun H locs hP hD hS => ?_)
  have hP : va_P D vwCl [(xM, .inr (6, [.int (nI 0), .int (nI n), .ref xK, .ref xV, .int (nI ln), .ref xC, .ref xH, .int (nI ct), .ref xT, .ref xP, .int (nI lk), .ref xB, .ref xR, .ref xL, .ref xN, .ref xQ, .int (nI rp.toNat)])), (xK, .inl (cI, 24, .inl km)), (xC, .inl (cI, 3, .inl cq)), (xT, .inl (cI, 30, .inl tq)), (xB, .inl (cI, 4326, .inl B)), (xR, .inl (cI, 721, .inl Rk))] H := hP
  have hD : va_D A [(xM, .inr (6, [.int (nI 0), .int (nI n), .ref xK, .ref xV, .int (nI ln), .ref xC, .ref xH, .int (nI ct), .ref xT, .ref xP, .int (nI lk), .ref xB, .ref xR, .ref xL, .ref xN, .ref xQ, .int (nI rp.toNat)])), (xK, .inl (cI, 24, .inl km)), (xC, .inl (cI, 3, .inl cq)), (xT, .inl (cI, 30, .inl tq)), (xB, .inl (cI, 4326, .inl B)), (xR, .inl (cI, 721, .inl Rk))] := hD
  refine lv_iload_n hx hb d_M_bell_5 rfl (lv_at hl 1 rfl) ?_
  refine xb_lt hx hb 30 (by omega) d_M_bell_6 rfl ?_
  refine lv_iload_n hx hb d_M_bell_9 rfl (lv_at hl 1 rfl) ?_
  refine lv_aload_n hx hb d_M_bell_10 rfl (lv_at hl 0 rfl) ?_
  refine xc_i (wc := [(xM, .inr (6, [.int (nI 0), .int (nI n), .ref xK, .ref xV, .int (nI ln), .ref xC, .ref xH, .int (nI ct), .ref xT, .ref xP, .int (nI lk), .ref xB, .ref xR, .ref xL, .ref xN, .ref xQ, .int (nI rp.toNat)])), (xK, .inl (cI, 24, .inl km)), (xC, .inl (cI, 3, .inl cq)), (xT, .inl (cI, 30, .inl tq)), (xB, .inl (cI, 4326, .inl B)), (xR, .inl (cI, 721, .inl Rk))]) (wr := []) (gG_ok tF) hK hP hD hS hA hg [0, 1, 2, 3, 4, 5] [] rfl rfl (by decide) (by decide) (by decide) (fun h1 h2 => va_runV (As := []) (rest := [.int (nI i)]) ⟨hx, hb, hml, hown, hts⟩ (c_M_ringAll xM (nI 0) n xK xV ln xC xH ct xT xP lk xB xR xL xN xQ rp B Rk km cq tq mt tt hn hct hln hcl hlt htt _) (cwV 0 hts (gV k_704 k_706 ks_M_ringAll k_7 k_707) rfl rfl rfl (by decide +kernel) ⟨Nat.le_of_ble_eq_true rfl, Nat.le_of_ble_eq_true rfl⟩) ⟨h1, va_recv (q0 := 0) (ci := 6) hK hP rfl rfl, h2⟩ rfl rfl hl.1 rfl (lv_room (Nat.le_of_ble_eq_true rfl)) d_M_bell_11 ⟨Nat.zero_le _, Nat.zero_le _⟩) (fun r u H locs hq9 hP hD hS => ?_)
  obtain ⟨B2, Rk2⟩ := u
  obtain ⟨rfl, hw11⟩ := hq9
  have hP : va_P D vwCl [(xM, .inr (6, [.int (nI 0), .int (nI n), .ref xK, .ref xV, .int (nI ln), .ref xC, .ref xH, .int (nI ct), .ref xT, .ref xP, .int (nI lk), .ref xB, .ref xR, .ref xL, .ref xN, .ref xQ, .int (nI rp.toNat)])), (xK, .inl (cI, 24, .inl km)), (xC, .inl (cI, 3, .inl cq)), (xT, .inl (cI, 30, .inl tq)), (xB, .inl (cI, 4326, .inl B2)), (xR, .inl (cI, 721, .inl Rk2))] H := hP
  have hD : va_D A [(xM, .inr (6, [.int (nI 0), .int (nI n), .ref xK, .ref xV, .int (nI ln), .ref xC, .ref xH, .int (nI ct), .ref xT, .ref xP, .int (nI lk), .ref xB, .ref xR, .ref xL, .ref xN, .ref xQ, .int (nI rp.toNat)])), (xK, .inl (cI, 24, .inl km)), (xC, .inl (cI, 3, .inl cq)), (xT, .inl (cI, 30, .inl tq)), (xB, .inl (cI, 4326, .inl B2)), (xR, .inl (cI, 721, .inl Rk2))] := hD
  refine xb_cgt hx hb 30 (by omega) (by omega) d_M_bell_14 rfl (fun h14 => ?_) (fun h14 => ?_)
  · skip
    exact absurd h14 (by omega)
  refine lv_iload_n hx hb d_M_bell_17 rfl (lv_at hl 2 rfl) ?_
  refine lv_iconst (v := nI 1) hx hb d_M_bell_18 (by decide) ?_
  refine xb_clt hx hb 30 (by omega) (by omega) d_M_bell_19 rfl (fun h19 => ?_) (fun h19 => ?_)
  · skip
    exact absurd h19 (by omega)
  refine lv_iload_n hx hb d_M_bell_22 rfl (lv_at hl 2 rfl) ?_
  refine lv_aload_n hx hb d_M_bell_23 rfl (lv_at hl 0 rfl) ?_
  refine va_get (D := D) (ci := 6) (v := .int (nI n)) (C := R_M) (T := F_M) (N := 17) hx hb hts in_M hown hK hP 0 rfl rfl 1 (by decide) (hts _ (List.mem_cons_of_mem _ k_584)) (fun _ h9 => h9) rfl d_M_bell_24 ?_
  refine xb_cle hx hb 34 (by omega) (by omega) d_M_bell_27 rfl (fun h27 => ?_) (fun h27 => ?_)
  · skip
    refine lv_aload_n hx hb d_M_bell_34 rfl (lv_at hl 0 rfl) ?_
    refine va_get (D := D) (ci := 6) (v := .ref xB) (C := R_M) (T := F_M) (N := 17) hx hb hts in_M hown hK hP 0 rfl rfl 11 (by decide) (hts _ (List.mem_cons_of_mem _ k_594)) (fun _ h9 => h9) rfl d_M_bell_35 ?_
    refine lv_bipush (v := nI 6) hx hb d_M_bell_38 (by decide) ?_
    refine lv_iload_n hx hb d_M_bell_40 rfl (lv_at hl 1 rfl) ?_
    refine lv_imul hx hb d_M_bell_41 ?_
    refine xn_i (y := nI (6 * i)) (pk_mul _ _) ?_
    refine lv_iload_n hx hb d_M_bell_42 rfl (lv_at hl 2 rfl) ?_
    refine lv_iadd hx hb d_M_bell_43 ?_
    refine xn_i (y := nI ((6 * i) + (q + 1))) (nI_add _ _) ?_
    refine lv_iconst (v := nI 1) hx hb d_M_bell_44 (by decide) ?_
    refine lv_isub hx hb d_M_bell_45 ?_
    refine xn_i (y := nI (6 * i + q)) (by rw [pk_sub (by omega), show 6 * i + (q + 1) - 1 = 6 * i + q by omega]) ?_
    refine xa_iald (v := nI (ro n (Rw n ln mt tt i) q)) hx hb hK hP 4 0 rfl rfl (by omega) (by decide) ((hw11 i hi).1 q hq) d_M_bell_46 ?_
    exact xr_i hx hb hrt hlk rfl hP hD hS (B2, Rk2) [0, 1, 2, 3, 4, 5] (by decide) rfl rfl d_M_bell_47
  exact absurd h27 (by omega)
set_option maxHeartbeats 4000000 in
set_option maxRecDepth 100000 in
theorem c_M_rank_no (xM : Nat) (cd : Int32) (n : Nat) (xK : Nat) (xV : Nat) (ln : Nat) (xC : Nat) (xH : Nat) (ct : Nat) (xT : Nat) (xP : Nat) (lk : Nat) (xB : Nat) (xR : Nat) (xL : Nat) (xN : Nat) (xQ : Nat) (rp : Bool) (B : Nat → Int32) (Rk : Nat → Int32) (km : Nat → Int32) (cq : Nat → Int32) (tq : Nat → Int32) (mt : Nat → Nat → Nat) (tt : Nat → Nat) (x : Int32) (hn : nb n) (hct : ct ≤ 30) (hln : ln ≤ 24) (hlt : ∀ i, i ≤ ct * ln → Rw n ln mt tt i < fa n) (htt : ∀ a, a < ct → tq a = nI (tt a) ∧ tt a ≤ 2 ∧ gmr n ln km cq (tt a) (mt (tt a))) (hno : kpk (ct * ln) x = false) : CtI l y_M_rank (w_M_rank) ({ frames := 4, cells := 0, slots := 0, locals := 93 }) D vwCl (TYs cI cZ cJ cG) (gG tF) [.ref xM, .int x] [(xM, .inr (6, [.int cd, .int (nI n), .ref xK, .ref xV, .int (nI ln), .ref xC, .ref xH, .int (nI ct), .ref xT, .ref xP, .int (nI lk), .ref xB, .ref xR, .ref xL, .ref xN, .ref xQ, .int (nI rp.toNat)])), (xK, .inl (cI, 24, .inl km)), (xC, .inl (cI, 3, .inl cq)), (xT, .inl (cI, 30, .inl tq)), (xB, .inl (cI, 4326, .inl B)), (xR, .inl (cI, 721, .inl Rk))] 0 0 (fun u : (Nat → Int32) × (Nat → Int32) => match u with | (B2, Rk2) => [(xM, .inr (6, [.int (nI 0), .int (nI n), .ref xK, .ref xV, .int (nI ln), .ref xC, .ref xH, .int (nI ct), .ref xT, .ref xP, .int (nI lk), .ref xB, .ref xR, .ref xL, .ref xN, .ref xQ, .int (nI rp.toNat)])), (xK, .inl (cI, 24, .inl km)), (xC, .inl (cI, 3, .inl cq)), (xT, .inl (cI, 30, .inl tq)), (xB, .inl (cI, 4326, .inl B2)), (xR, .inl (cI, 721, .inl Rk2))]) (fun (r : Int32) (u : (Nat → Int32) × (Nat → Int32)) => match u with | (B2, Rk2) => r = (-1)) := by
  refine CtI.of (cc := b_M_rank) (maxL := 2) (ret := (some .int)) (by decide) rfl (Nat.le_of_ble_eq_true rfl) ?_
  intro p e s m args below meth c A ls hF hA hP hK hD hg hS hl
  obtain ⟨hx, hb, hrt, hlk, hml, hown, hts, hnm⟩ := hF
  have hown : s.vm.findClass R_M = some m.cls := hown
  have hl : lv_has ls 2 [(0, .ref xM), (1, .int x)] := hl
  have hn4 : 4 ≤ n := hn.1
  have hn6 : n ≤ 6 := hn.2
  have hfa : fa n ≤ 720 := fa_le hn
  have hcl : ct * ln ≤ 720 := by have := Nat.mul_le_mul hct hln; omega
  refine lv_aload_n hx hb d_M_rank_0 rfl (lv_at hl 0 rfl) ?_
  refine lv_iconst (v := nI 0) hx hb d_M_rank_1 (by decide) ?_
  refine va_put (D := D) (ci := 6) (v := .int (nI 0)) (ty := .int) (C := R_M) (T := F_M) (N := 17) hx hb hts in_M t_M t_M_ok n_M hown hK hP hD hS 0 rfl rfl 0 (by decide) (hts _ (List.mem_cons_of_mem _ k_583)) (fun _ h9 => h9) rfl (by decide +kernel) rfl rfl (Nat.le_of_ble_eq_true rfl) d_M_rank_2 (fun H locs hP hD hS => ?_)
  have hP : va_P D vwCl [(xM, .inr (6, [.int (nI 0), .int (nI n), .ref xK, .ref xV, .int (nI ln), .ref xC, .ref xH, .int (nI ct), .ref xT, .ref xP, .int (nI lk), .ref xB, .ref xR, .ref xL, .ref xN, .ref xQ, .int (nI rp.toNat)])), (xK, .inl (cI, 24, .inl km)), (xC, .inl (cI, 3, .inl cq)), (xT, .inl (cI, 30, .inl tq)), (xB, .inl (cI, 4326, .inl B)), (xR, .inl (cI, 721, .inl Rk))] H := hP
  have hD : va_D A [(xM, .inr (6, [.int (nI 0), .int (nI n), .ref xK, .ref xV, .int (nI ln), .ref xC, .ref xH, .int (nI ct), .ref xT, .ref xP, .int (nI lk), .ref xB, .ref xR, .ref xL, .ref xN, .ref xQ, .int (nI rp.toNat)])), (xK, .inl (cI, 24, .inl km)), (xC, .inl (cI, 3, .inl cq)), (xT, .inl (cI, 30, .inl tq)), (xB, .inl (cI, 4326, .inl B)), (xR, .inl (cI, 721, .inl Rk))] := hD
  refine lv_iload_n hx hb d_M_rank_5 rfl (lv_at hl 1 rfl) ?_
  refine lv_if_lt (tgt := 17) hx hb d_M_rank_6 rfl (fun h6 => ?_) (fun h6 => ?_)
  · skip
    refine lv_iconst (v := (-1)) hx hb d_M_rank_17 (by decide) ?_
    refine lv_goto (tgt := 27) hx hb d_M_rank_18 rfl ?_
    exact xr_i hx hb hrt hlk rfl hP hD hS (B, Rk) [0, 1, 2, 3, 4, 5] (by decide) rfl rfl d_M_rank_27
  refine lv_iload_n hx hb d_M_rank_9 rfl (lv_at hl 1 rfl) ?_
  refine lv_aload_n hx hb d_M_rank_10 rfl (lv_at hl 0 rfl) ?_
  refine xc_i (wc := [(xM, .inr (6, [.int (nI 0), .int (nI n), .ref xK, .ref xV, .int (nI ln), .ref xC, .ref xH, .int (nI ct), .ref xT, .ref xP, .int (nI lk), .ref xB, .ref xR, .ref xL, .ref xN, .ref xQ, .int (nI rp.toNat)])), (xK, .inl (cI, 24, .inl km)), (xC, .inl (cI, 3, .inl cq)), (xT, .inl (cI, 30, .inl tq)), (xB, .inl (cI, 4326, .inl B)), (xR, .inl (cI, 721, .inl Rk))]) (wr := []) (gG_ok tF) hK hP hD hS hA hg [0, 1, 2, 3, 4, 5] [] rfl rfl (by decide) (by decide) (by decide) (fun h1 h2 => va_runV (As := []) (rest := [.int x]) ⟨hx, hb, hml, hown, hts⟩ (c_M_ringAll xM (nI 0) n xK xV ln xC xH ct xT xP lk xB xR xL xN xQ rp B Rk km cq tq mt tt hn hct hln hcl hlt htt _) (cwV 0 hts (gV k_704 k_706 ks_M_ringAll k_7 k_707) rfl rfl rfl (by decide +kernel) ⟨Nat.le_of_ble_eq_true rfl, Nat.le_of_ble_eq_true rfl⟩) ⟨h1, va_recv (q0 := 0) (ci := 6) hK hP rfl rfl, h2⟩ rfl rfl hl.1 rfl (lv_room (Nat.le_of_ble_eq_true rfl)) d_M_rank_11 ⟨Nat.zero_le _, Nat.zero_le _⟩) (fun r u H locs hq9 hP hD hS => ?_)
  obtain ⟨B2, Rk2⟩ := u
  obtain ⟨rfl, hw11⟩ := hq9
  have hP : va_P D vwCl [(xM, .inr (6, [.int (nI 0), .int (nI n), .ref xK, .ref xV, .int (nI ln), .ref xC, .ref xH, .int (nI ct), .ref xT, .ref xP, .int (nI lk), .ref xB, .ref xR, .ref xL, .ref xN, .ref xQ, .int (nI rp.toNat)])), (xK, .inl (cI, 24, .inl km)), (xC, .inl (cI, 3, .inl cq)), (xT, .inl (cI, 30, .inl tq)), (xB, .inl (cI, 4326, .inl B2)), (xR, .inl (cI, 721, .inl Rk2))] H := hP
  have hD : va_D A [(xM, .inr (6, [.int (nI 0), .int (nI n), .ref xK, .ref xV, .int (nI ln), .ref xC, .ref xH, .int (nI ct), .ref xT, .ref xP, .int (nI lk), .ref xB, .ref xR, .ref xL, .ref xN, .ref xQ, .int (nI rp.toNat)])), (xK, .inl (cI, 24, .inl km)), (xC, .inl (cI, 3, .inl cq)), (xT, .inl (cI, 30, .inl tq)), (xB, .inl (cI, 4326, .inl B2)), (xR, .inl (cI, 721, .inl Rk2))] := hD
  refine lv_icmp_le (tgt := 21) hx hb d_M_rank_14 rfl (fun h14 => ?_) (fun h14 => ?_)
  · skip
    exact absurd hno (by unfold kpk; rw [if_neg h6, if_neg (Int32.not_lt.mpr h14)]; decide)
  refine lv_iconst (v := (-1)) hx hb d_M_rank_17 (by decide) ?_
  refine lv_goto (tgt := 27) hx hb d_M_rank_18 rfl ?_
  exact xr_i hx hb hrt hlk rfl hP hD hS (B2, Rk2) [0, 1, 2, 3, 4, 5] (by decide) rfl rfl d_M_rank_27
set_option maxHeartbeats 4000000 in
set_option maxRecDepth 100000 in
theorem c_M_rank (xM : Nat) (cd : Int32) (n : Nat) (xK : Nat) (xV : Nat) (ln : Nat) (xC : Nat) (xH : Nat) (ct : Nat) (xT : Nat) (xP : Nat) (lk : Nat) (xB : Nat) (xR : Nat) (xL : Nat) (xN : Nat) (xQ : Nat) (rp : Bool) (B : Nat → Int32) (Rk : Nat → Int32) (km : Nat → Int32) (cq : Nat → Int32) (tq : Nat → Int32) (mt : Nat → Nat → Nat) (tt : Nat → Nat) (i : Nat) (hn : nb n) (hct : ct ≤ 30) (hln : ln ≤ 24) (hlt : ∀ i, i ≤ ct * ln → Rw n ln mt tt i < fa n) (htt : ∀ a, a < ct → tq a = nI (tt a) ∧ tt a ≤ 2 ∧ gmr n ln km cq (tt a) (mt (tt a))) (hi : i ≤ ct * ln) : CtI l y_M_rank (w_M_rank) ({ frames := 4, cells := 0, slots := 0, locals := 93 }) D vwCl (TYs cI cZ cJ cG) (gG tF) [.ref xM, .int (nI i)] [(xM, .inr (6, [.int cd, .int (nI n), .ref xK, .ref xV, .int (nI ln), .ref xC, .ref xH, .int (nI ct), .ref xT, .ref xP, .int (nI lk), .ref xB, .ref xR, .ref xL, .ref xN, .ref xQ, .int (nI rp.toNat)])), (xK, .inl (cI, 24, .inl km)), (xC, .inl (cI, 3, .inl cq)), (xT, .inl (cI, 30, .inl tq)), (xB, .inl (cI, 4326, .inl B)), (xR, .inl (cI, 721, .inl Rk))] 0 0 (fun u : (Nat → Int32) × (Nat → Int32) => match u with | (B2, Rk2) => [(xM, .inr (6, [.int (nI 0), .int (nI n), .ref xK, .ref xV, .int (nI ln), .ref xC, .ref xH, .int (nI ct), .ref xT, .ref xP, .int (nI lk), .ref xB, .ref xR, .ref xL, .ref xN, .ref xQ, .int (nI rp.toNat)])), (xK, .inl (cI, 24, .inl km)), (xC, .inl (cI, 3, .inl cq)), (xT, .inl (cI, 30, .inl tq)), (xB, .inl (cI, 4326, .inl B2)), (xR, .inl (cI, 721, .inl Rk2))]) (fun (r : Int32) (u : (Nat → Int32) × (Nat → Int32)) => match u with | (B2, Rk2) => r = nI (Rw n ln mt tt i)) := by
  refine CtI.of (cc := b_M_rank) (maxL := 2) (ret := (some .int)) (by decide) rfl (Nat.le_of_ble_eq_true rfl) ?_
  intro p e s m args below meth c A ls hF hA hP hK hD hg hS hl
  obtain ⟨hx, hb, hrt, hlk, hml, hown, hts, hnm⟩ := hF
  have hown : s.vm.findClass R_M = some m.cls := hown
  have hl : lv_has ls 2 [(0, .ref xM), (1, .int (nI i))] := hl
  have hn4 : 4 ≤ n := hn.1
  have hn6 : n ≤ 6 := hn.2
  have hfa : fa n ≤ 720 := fa_le hn
  have hcl : ct * ln ≤ 720 := by have := Nat.mul_le_mul hct hln; omega
  refine lv_aload_n hx hb d_M_rank_0 rfl (lv_at hl 0 rfl) ?_
  refine lv_iconst (v := nI 0) hx hb d_M_rank_1 (by decide) ?_
  refine va_put (D := D) (ci := 6) (v := .int (nI 0)) (ty := .int) (C := R_M) (T := F_M) (N := 17) hx hb hts in_M t_M t_M_ok n_M hown hK hP hD hS 0 rfl rfl 0 (by decide) (hts _ (List.mem_cons_of_mem _ k_583)) (fun _ h9 => h9) rfl (by decide +kernel) rfl rfl (Nat.le_of_ble_eq_true rfl) d_M_rank_2 (fun H locs hP hD hS => ?_)
  have hP : va_P D vwCl [(xM, .inr (6, [.int (nI 0), .int (nI n), .ref xK, .ref xV, .int (nI ln), .ref xC, .ref xH, .int (nI ct), .ref xT, .ref xP, .int (nI lk), .ref xB, .ref xR, .ref xL, .ref xN, .ref xQ, .int (nI rp.toNat)])), (xK, .inl (cI, 24, .inl km)), (xC, .inl (cI, 3, .inl cq)), (xT, .inl (cI, 30, .inl tq)), (xB, .inl (cI, 4326, .inl B)), (xR, .inl (cI, 721, .inl Rk))] H := hP
  have hD : va_D A [(xM, .inr (6, [.int (nI 0), .int (nI n), .ref xK, .ref xV, .int (nI ln), .ref xC, .ref xH, .int (nI ct), .ref xT, .ref xP, .int (nI lk), .ref xB, .ref xR, .ref xL, .ref xN, .ref xQ, .int (nI rp.toNat)])), (xK, .inl (cI, 24, .inl km)), (xC, .inl (cI, 3, .inl cq)), (xT, .inl (cI, 30, .inl tq)), (xB, .inl (cI, 4326, .inl B)), (xR, .inl (cI, 721, .inl Rk))] := hD
  refine lv_iload_n hx hb d_M_rank_5 rfl (lv_at hl 1 rfl) ?_
  refine xb_lt hx hb 17 (by omega) d_M_rank_6 rfl ?_
  refine lv_iload_n hx hb d_M_rank_9 rfl (lv_at hl 1 rfl) ?_
  refine lv_aload_n hx hb d_M_rank_10 rfl (lv_at hl 0 rfl) ?_
  refine xc_i (wc := [(xM, .inr (6, [.int (nI 0), .int (nI n), .ref xK, .ref xV, .int (nI ln), .ref xC, .ref xH, .int (nI ct), .ref xT, .ref xP, .int (nI lk), .ref xB, .ref xR, .ref xL, .ref xN, .ref xQ, .int (nI rp.toNat)])), (xK, .inl (cI, 24, .inl km)), (xC, .inl (cI, 3, .inl cq)), (xT, .inl (cI, 30, .inl tq)), (xB, .inl (cI, 4326, .inl B)), (xR, .inl (cI, 721, .inl Rk))]) (wr := []) (gG_ok tF) hK hP hD hS hA hg [0, 1, 2, 3, 4, 5] [] rfl rfl (by decide) (by decide) (by decide) (fun h1 h2 => va_runV (As := []) (rest := [.int (nI i)]) ⟨hx, hb, hml, hown, hts⟩ (c_M_ringAll xM (nI 0) n xK xV ln xC xH ct xT xP lk xB xR xL xN xQ rp B Rk km cq tq mt tt hn hct hln hcl hlt htt _) (cwV 0 hts (gV k_704 k_706 ks_M_ringAll k_7 k_707) rfl rfl rfl (by decide +kernel) ⟨Nat.le_of_ble_eq_true rfl, Nat.le_of_ble_eq_true rfl⟩) ⟨h1, va_recv (q0 := 0) (ci := 6) hK hP rfl rfl, h2⟩ rfl rfl hl.1 rfl (lv_room (Nat.le_of_ble_eq_true rfl)) d_M_rank_11 ⟨Nat.zero_le _, Nat.zero_le _⟩) (fun r u H locs hq9 hP hD hS => ?_)
  obtain ⟨B2, Rk2⟩ := u
  obtain ⟨rfl, hw11⟩ := hq9
  have hP : va_P D vwCl [(xM, .inr (6, [.int (nI 0), .int (nI n), .ref xK, .ref xV, .int (nI ln), .ref xC, .ref xH, .int (nI ct), .ref xT, .ref xP, .int (nI lk), .ref xB, .ref xR, .ref xL, .ref xN, .ref xQ, .int (nI rp.toNat)])), (xK, .inl (cI, 24, .inl km)), (xC, .inl (cI, 3, .inl cq)), (xT, .inl (cI, 30, .inl tq)), (xB, .inl (cI, 4326, .inl B2)), (xR, .inl (cI, 721, .inl Rk2))] H := hP
  have hD : va_D A [(xM, .inr (6, [.int (nI 0), .int (nI n), .ref xK, .ref xV, .int (nI ln), .ref xC, .ref xH, .int (nI ct), .ref xT, .ref xP, .int (nI lk), .ref xB, .ref xR, .ref xL, .ref xN, .ref xQ, .int (nI rp.toNat)])), (xK, .inl (cI, 24, .inl km)), (xC, .inl (cI, 3, .inl cq)), (xT, .inl (cI, 30, .inl tq)), (xB, .inl (cI, 4326, .inl B2)), (xR, .inl (cI, 721, .inl Rk2))] := hD
  refine xb_cle hx hb 21 (by omega) (by omega) d_M_rank_14 rfl (fun h14 => ?_) (fun h14 => ?_)
  · skip
    refine lv_aload_n hx hb d_M_rank_21 rfl (lv_at hl 0 rfl) ?_
    refine va_get (D := D) (ci := 6) (v := .ref xR) (C := R_M) (T := F_M) (N := 17) hx hb hts in_M hown hK hP 0 rfl rfl 12 (by decide) (hts _ (List.mem_cons_of_mem _ k_595)) (fun _ h9 => h9) rfl d_M_rank_22 ?_
    refine lv_iload_n hx hb d_M_rank_25 rfl (lv_at hl 1 rfl) ?_
    refine xa_iald (v := nI (Rw n ln mt tt i)) hx hb hK hP 5 0 rfl rfl (by omega) (by decide) ((hw11 i hi).2) d_M_rank_26 ?_
    exact xr_i hx hb hrt hlk rfl hP hD hS (B2, Rk2) [0, 1, 2, 3, 4, 5] (by decide) rfl rfl d_M_rank_27
  exact absurd h14 (by omega)
set_option maxHeartbeats 4000000 in
set_option maxRecDepth 100000 in
theorem c_M_unrank_no (xM : Nat) (cd : Int32) (n : Nat) (xK : Nat) (xV : Nat) (ln : Nat) (xC : Nat) (xH : Nat) (ct : Nat) (xT : Nat) (xP : Nat) (lk : Nat) (xB : Nat) (xR : Nat) (xL : Nat) (xN : Nat) (xQ : Nat) (rp : Bool) (x : Int32) (y : Int32) (hn : nb n) (hno : urk n x y = false) : CtI l y_M_unrank (w_M_unrank) ({ frames := 2, cells := 0, slots := 0, locals := 43 }) D vwCl (TYs cI cZ cJ cG) (gG tF) [.ref xM, .int x, .int y] [(xM, .inr (6, [.int cd, .int (nI n), .ref xK, .ref xV, .int (nI ln), .ref xC, .ref xH, .int (nI ct), .ref xT, .ref xP, .int (nI lk), .ref xB, .ref xR, .ref xL, .ref xN, .ref xQ, .int (nI rp.toNat)]))] 0 0 (fun _ : Unit => [(xM, .inr (6, [.int (nI 0), .int (nI n), .ref xK, .ref xV, .int (nI ln), .ref xC, .ref xH, .int (nI ct), .ref xT, .ref xP, .int (nI lk), .ref xB, .ref xR, .ref xL, .ref xN, .ref xQ, .int (nI rp.toNat)]))]) (fun (r : Int32) (_ : Unit) => r = (-1)) := by
  refine CtI.of (cc := b_M_unrank) (maxL := 3) (ret := (some .int)) (by decide) rfl (Nat.le_of_ble_eq_true rfl) ?_
  intro p e s m args below meth c A ls hF hA hP hK hD hg hS hl
  obtain ⟨hx, hb, hrt, hlk, hml, hown, hts, hnm⟩ := hF
  have hown : s.vm.findClass R_M = some m.cls := hown
  have hl : lv_has ls 3 [(0, .ref xM), (1, .int x), (2, .int y)] := hl
  refine lv_aload_n hx hb d_M_unrank_0 rfl (lv_at hl 0 rfl) ?_
  refine lv_iconst (v := nI 0) hx hb d_M_unrank_1 (by decide) ?_
  refine va_put (D := D) (ci := 6) (v := .int (nI 0)) (ty := .int) (C := R_M) (T := F_M) (N := 17) hx hb hts in_M t_M t_M_ok n_M hown hK hP hD hS 0 rfl rfl 0 (by decide) (hts _ (List.mem_cons_of_mem _ k_583)) (fun _ h9 => h9) rfl (by decide +kernel) rfl rfl (Nat.le_of_ble_eq_true rfl) d_M_unrank_2 (fun H locs hP hD hS => ?_)
  have hP : va_P D vwCl [(xM, .inr (6, [.int (nI 0), .int (nI n), .ref xK, .ref xV, .int (nI ln), .ref xC, .ref xH, .int (nI ct), .ref xT, .ref xP, .int (nI lk), .ref xB, .ref xR, .ref xL, .ref xN, .ref xQ, .int (nI rp.toNat)]))] H := hP
  have hD : va_D A [(xM, .inr (6, [.int (nI 0), .int (nI n), .ref xK, .ref xV, .int (nI ln), .ref xC, .ref xH, .int (nI ct), .ref xT, .ref xP, .int (nI lk), .ref xB, .ref xR, .ref xL, .ref xN, .ref xQ, .int (nI rp.toNat)]))] := hD
  refine lv_aload_n hx hb d_M_unrank_5 rfl (lv_at hl 0 rfl) ?_
  refine lv_iload_n hx hb d_M_unrank_6 rfl (lv_at hl 1 rfl) ?_
  refine xc_i (wc := [(xM, .inr (6, [.int (nI 0), .int (nI n), .ref xK, .ref xV, .int (nI ln), .ref xC, .ref xH, .int (nI ct), .ref xT, .ref xP, .int (nI lk), .ref xB, .ref xR, .ref xL, .ref xN, .ref xQ, .int (nI rp.toNat)]))]) (wr := []) (gG_ok tF) hK hP hD hS hA hg [0] [] rfl rfl (by decide) (by decide) (by decide) (fun h1 h2 => va_runV (As := [.int x]) (rest := []) ⟨hx, hb, hml, hown, hts⟩ (c_M_isRank xM (nI 0) n xK xV ln xC xH ct xT xP lk xB xR xL xN xQ rp x hn _) (cwV 1 hts (gV k_724 k_726 ks_M_isRank k_7 k_727) rfl rfl rfl (by decide +kernel) ⟨Nat.le_of_ble_eq_true rfl, Nat.le_of_ble_eq_true rfl⟩) ⟨h1, va_recv (q0 := 0) (ci := 6) hK hP rfl rfl, h2⟩ rfl rfl hl.1 rfl (lv_room (Nat.le_of_ble_eq_true rfl)) d_M_unrank_7 ⟨Nat.zero_le _, Nat.zero_le _⟩) (fun r u H locs hq9 hP hD hS => ?_)
  obtain rfl := hq9
  have hP : va_P D vwCl [(xM, .inr (6, [.int (nI 0), .int (nI n), .ref xK, .ref xV, .int (nI ln), .ref xC, .ref xH, .int (nI ct), .ref xT, .ref xP, .int (nI lk), .ref xB, .ref xR, .ref xL, .ref xN, .ref xQ, .int (nI rp.toNat)]))] H := hP
  have hD : va_D A [(xM, .inr (6, [.int (nI 0), .int (nI n), .ref xK, .ref xV, .int (nI ln), .ref xC, .ref xH, .int (nI ct), .ref xT, .ref xP, .int (nI lk), .ref xB, .ref xR, .ref xL, .ref xN, .ref xQ, .int (nI rp.toNat)]))] := hD
  refine xb_eqB (x := okr n x) hx hb 26 d_M_unrank_10 rfl (fun h10 => ?_) (fun h10 => ?_)
  · skip
    refine lv_iconst (v := (-1)) hx hb d_M_unrank_26 (by decide) ?_
    exact xr_i hx hb hrt hlk rfl hP hD hS () [0] (by decide) rfl rfl d_M_unrank_27
  refine lv_iload_n hx hb d_M_unrank_13 rfl (lv_at hl 2 rfl) ?_
  refine lv_iconst (v := nI 1) hx hb d_M_unrank_14 (by decide) ?_
  refine lv_icmp_lt (tgt := 26) hx hb d_M_unrank_15 rfl (fun h15 => ?_) (fun h15 => ?_)
  · skip
    refine lv_iconst (v := (-1)) hx hb d_M_unrank_26 (by decide) ?_
    exact xr_i hx hb hrt hlk rfl hP hD hS () [0] (by decide) rfl rfl d_M_unrank_27
  refine lv_iload_n hx hb d_M_unrank_18 rfl (lv_at hl 2 rfl) ?_
  refine lv_aload_n hx hb d_M_unrank_19 rfl (lv_at hl 0 rfl) ?_
  refine va_get (D := D) (ci := 6) (v := .int (nI n)) (C := R_M) (T := F_M) (N := 17) hx hb hts in_M hown hK hP 0 rfl rfl 1 (by decide) (hts _ (List.mem_cons_of_mem _ k_584)) (fun _ h9 => h9) rfl d_M_unrank_20 ?_
  refine lv_icmp_le (tgt := 28) hx hb d_M_unrank_23 rfl (fun h23 => ?_) (fun h23 => ?_)
  · skip
    exact absurd hno (by unfold urk okl; rw [if_pos h10, if_neg h15, if_neg (Int32.not_lt.mpr h23)]; decide)
  refine lv_iconst (v := (-1)) hx hb d_M_unrank_26 (by decide) ?_
  exact xr_i hx hb hrt hlk rfl hP hD hS () [0] (by decide) rfl rfl d_M_unrank_27
set_option maxHeartbeats 4000000 in
set_option maxRecDepth 100000 in
theorem c_M_unrank (xM : Nat) (cd : Int32) (n : Nat) (xK : Nat) (xV : Nat) (ln : Nat) (xC : Nat) (xH : Nat) (ct : Nat) (xT : Nat) (xP : Nat) (lk : Nat) (xB : Nat) (xR : Nat) (xL : Nat) (xN : Nat) (xQ : Nat) (rp : Bool) (B : Nat → Int32) (Rk : Nat → Int32) (k : Nat) (q : Nat) (hn : nb n) (hk : k < fa n) (hq : q < n) : CtI l y_M_unrank (w_M_unrank) ({ frames := 2, cells := 0, slots := 0, locals := 49 }) D vwCl (TYs cI cZ cJ cG) (gG tF) [.ref xM, .int (nI k), .int (nI (q + 1))] [(xM, .inr (6, [.int cd, .int (nI n), .ref xK, .ref xV, .int (nI ln), .ref xC, .ref xH, .int (nI ct), .ref xT, .ref xP, .int (nI lk), .ref xB, .ref xR, .ref xL, .ref xN, .ref xQ, .int (nI rp.toNat)])), (xB, .inl (cI, 4326, .inl B)), (xR, .inl (cI, 721, .inl Rk))] 0 0 (fun B2 : (Nat → Int32) => [(xM, .inr (6, [.int (nI 0), .int (nI n), .ref xK, .ref xV, .int (nI ln), .ref xC, .ref xH, .int (nI ct), .ref xT, .ref xP, .int (nI lk), .ref xB, .ref xR, .ref xL, .ref xN, .ref xQ, .int (nI rp.toNat)])), (xB, .inl (cI, 4326, .inl B2)), (xR, .inl (cI, 721, .inl (upd Rk 0 (nI k))))]) (fun (r : Int32) (B2 : (Nat → Int32)) => r = nI (ro n k q)) := by
  refine CtI.of (cc := b_M_unrank) (maxL := 3) (ret := (some .int)) (by decide) rfl (Nat.le_of_ble_eq_true rfl) ?_
  intro p e s m args below meth c A ls hF hA hP hK hD hg hS hl
  obtain ⟨hx, hb, hrt, hlk, hml, hown, hts, hnm⟩ := hF
  have hown : s.vm.findClass R_M = some m.cls := hown
  have hl : lv_has ls 3 [(0, .ref xM), (1, .int (nI k)), (2, .int (nI (q + 1)))] := hl
  have hn4 : 4 ≤ n := hn.1
  have hn6 : n ≤ 6 := hn.2
  have hfa : fa n ≤ 720 := fa_le hn
  refine lv_aload_n hx hb d_M_unrank_0 rfl (lv_at hl 0 rfl) ?_
  refine lv_iconst (v := nI 0) hx hb d_M_unrank_1 (by decide) ?_
  refine va_put (D := D) (ci := 6) (v := .int (nI 0)) (ty := .int) (C := R_M) (T := F_M) (N := 17) hx hb hts in_M t_M t_M_ok n_M hown hK hP hD hS 0 rfl rfl 0 (by decide) (hts _ (List.mem_cons_of_mem _ k_583)) (fun _ h9 => h9) rfl (by decide +kernel) rfl rfl (Nat.le_of_ble_eq_true rfl) d_M_unrank_2 (fun H locs hP hD hS => ?_)
  have hP : va_P D vwCl [(xM, .inr (6, [.int (nI 0), .int (nI n), .ref xK, .ref xV, .int (nI ln), .ref xC, .ref xH, .int (nI ct), .ref xT, .ref xP, .int (nI lk), .ref xB, .ref xR, .ref xL, .ref xN, .ref xQ, .int (nI rp.toNat)])), (xB, .inl (cI, 4326, .inl B)), (xR, .inl (cI, 721, .inl Rk))] H := hP
  have hD : va_D A [(xM, .inr (6, [.int (nI 0), .int (nI n), .ref xK, .ref xV, .int (nI ln), .ref xC, .ref xH, .int (nI ct), .ref xT, .ref xP, .int (nI lk), .ref xB, .ref xR, .ref xL, .ref xN, .ref xQ, .int (nI rp.toNat)])), (xB, .inl (cI, 4326, .inl B)), (xR, .inl (cI, 721, .inl Rk))] := hD
  refine lv_aload_n hx hb d_M_unrank_5 rfl (lv_at hl 0 rfl) ?_
  refine lv_iload_n hx hb d_M_unrank_6 rfl (lv_at hl 1 rfl) ?_
  refine xc_i (wc := [(xM, .inr (6, [.int (nI 0), .int (nI n), .ref xK, .ref xV, .int (nI ln), .ref xC, .ref xH, .int (nI ct), .ref xT, .ref xP, .int (nI lk), .ref xB, .ref xR, .ref xL, .ref xN, .ref xQ, .int (nI rp.toNat)]))]) (wr := [(xB, .inl (cI, 4326, .inl B)), (xR, .inl (cI, 721, .inl Rk))]) (gG_ok tF) hK hP hD hS hA hg [0] [1, 2] rfl rfl (by decide) (by decide) (by decide) (fun h1 h2 => va_runV (As := [.int (nI k)]) (rest := []) ⟨hx, hb, hml, hown, hts⟩ (c_M_isRank xM (nI 0) n xK xV ln xC xH ct xT xP lk xB xR xL xN xQ rp (nI k) hn _) (cwV 1 hts (gV k_724 k_726 ks_M_isRank k_7 k_727) rfl rfl rfl (by decide +kernel) ⟨Nat.le_of_ble_eq_true rfl, Nat.le_of_ble_eq_true rfl⟩) ⟨h1, va_recv (q0 := 0) (ci := 6) hK hP rfl rfl, h2⟩ rfl rfl hl.1 rfl (lv_room (Nat.le_of_ble_eq_true rfl)) d_M_unrank_7 ⟨Nat.zero_le _, Nat.zero_le _⟩) (fun r u H locs hq9 hP hD hS => ?_)
  obtain rfl := hq9
  have hP : va_P D vwCl [(xB, .inl (cI, 4326, .inl B)), (xR, .inl (cI, 721, .inl Rk)), (xM, .inr (6, [.int (nI 0), .int (nI n), .ref xK, .ref xV, .int (nI ln), .ref xC, .ref xH, .int (nI ct), .ref xT, .ref xP, .int (nI lk), .ref xB, .ref xR, .ref xL, .ref xN, .ref xQ, .int (nI rp.toNat)]))] H := hP
  have hD : va_D A [(xB, .inl (cI, 4326, .inl B)), (xR, .inl (cI, 721, .inl Rk)), (xM, .inr (6, [.int (nI 0), .int (nI n), .ref xK, .ref xV, .int (nI ln), .ref xC, .ref xH, .int (nI ct), .ref xT, .ref xP, .int (nI lk), .ref xB, .ref xR, .ref xL, .ref xN, .ref xQ, .int (nI rp.toNat)]))] := hD
  refine xb_eqB (x := okr n (nI k)) hx hb 26 d_M_unrank_10 rfl (fun h10 => ?_) (fun h10 => ?_)
  · skip
    exact absurd h10 (by unfold okr; rw [if_neg (nI_pos (by omega)), if_neg (nI_ge hk (fa_sm n))]; decide)
  refine lv_iload_n hx hb d_M_unrank_13 rfl (lv_at hl 2 rfl) ?_
  refine lv_iconst (v := nI 1) hx hb d_M_unrank_14 (by decide) ?_
  refine xb_clt hx hb 26 (by omega) (by omega) d_M_unrank_15 rfl (fun h15 => ?_) (fun h15 => ?_)
  · skip
    exact absurd h15 (by omega)
  refine lv_iload_n hx hb d_M_unrank_18 rfl (lv_at hl 2 rfl) ?_
  refine lv_aload_n hx hb d_M_unrank_19 rfl (lv_at hl 0 rfl) ?_
  refine va_get (D := D) (ci := 6) (v := .int (nI n)) (C := R_M) (T := F_M) (N := 17) hx hb hts in_M hown hK hP 2 rfl rfl 1 (by decide) (hts _ (List.mem_cons_of_mem _ k_584)) (fun _ h9 => h9) rfl d_M_unrank_20 ?_
  refine xb_cle hx hb 28 (by omega) (by omega) d_M_unrank_23 rfl (fun h23 => ?_) (fun h23 => ?_)
  · skip
    refine lv_aload_n hx hb d_M_unrank_28 rfl (lv_at hl 0 rfl) ?_
    refine lv_iload_n hx hb d_M_unrank_29 rfl (lv_at hl 1 rfl) ?_
    refine xc_v (wc := [(xM, .inr (6, [.int (nI 0), .int (nI n), .ref xK, .ref xV, .int (nI ln), .ref xC, .ref xH, .int (nI ct), .ref xT, .ref xP, .int (nI lk), .ref xB, .ref xR, .ref xL, .ref xN, .ref xQ, .int (nI rp.toNat)])), (xB, .inl (cI, 4326, .inl B)), (xR, .inl (cI, 721, .inl Rk))]) (wr := []) (gG_ok tF) hK hP hD hS hA hg [2, 0, 1] [] rfl rfl (by decide) (by decide) (by decide) (fun h1 h2 => va_runV (As := [.int (nI k)]) (rest := []) ⟨hx, hb, hml, hown, hts⟩ (c_M_setRow xM (nI 0) n xK xV ln xC xH ct xT xP lk xB xR xL xN xQ rp B Rk k hn hk _) (cwV 1 hts (gV k_732 k_734 ks_M_setRow k_7 k_735) rfl rfl rfl (by decide +kernel) ⟨Nat.le_of_ble_eq_true rfl, Nat.le_of_ble_eq_true rfl⟩) ⟨h1, va_recv (q0 := 2) (ci := 6) hK hP rfl rfl, h2⟩ rfl rfl hl.1 rfl (lv_room (Nat.le_of_ble_eq_true rfl)) d_M_unrank_30 ⟨Nat.zero_le _, Nat.zero_le _⟩) (fun B2 H locs hq9 hP hD hS => ?_)
    have hw30 := hq9
    have hP : va_P D vwCl [(xM, .inr (6, [.int (nI 0), .int (nI n), .ref xK, .ref xV, .int (nI ln), .ref xC, .ref xH, .int (nI ct), .ref xT, .ref xP, .int (nI lk), .ref xB, .ref xR, .ref xL, .ref xN, .ref xQ, .int (nI rp.toNat)])), (xB, .inl (cI, 4326, .inl B2)), (xR, .inl (cI, 721, .inl (upd Rk 0 (nI k))))] H := hP
    have hD : va_D A [(xM, .inr (6, [.int (nI 0), .int (nI n), .ref xK, .ref xV, .int (nI ln), .ref xC, .ref xH, .int (nI ct), .ref xT, .ref xP, .int (nI lk), .ref xB, .ref xR, .ref xL, .ref xN, .ref xQ, .int (nI rp.toNat)])), (xB, .inl (cI, 4326, .inl B2)), (xR, .inl (cI, 721, .inl (upd Rk 0 (nI k))))] := hD
    refine lv_aload_n hx hb d_M_unrank_33 rfl (lv_at hl 0 rfl) ?_
    refine va_get (D := D) (ci := 6) (v := .ref xB) (C := R_M) (T := F_M) (N := 17) hx hb hts in_M hown hK hP 0 rfl rfl 11 (by decide) (hts _ (List.mem_cons_of_mem _ k_594)) (fun _ h9 => h9) rfl d_M_unrank_34 ?_
    refine lv_iload_n hx hb d_M_unrank_37 rfl (lv_at hl 2 rfl) ?_
    refine lv_iconst (v := nI 1) hx hb d_M_unrank_38 (by decide) ?_
    refine lv_isub hx hb d_M_unrank_39 ?_
    refine xn_i (y := nI q) (pk_sub (Nat.le_add_left 1 q)) ?_
    refine xa_iald (v := nI (ro n k q)) hx hb hK hP 1 0 rfl rfl (by omega) (by decide) (by have h9 := hw30 q hq; rw [Nat.mul_zero, Nat.zero_add] at h9; exact h9) d_M_unrank_40 ?_
    exact xr_i hx hb hrt hlk rfl hP hD hS B2 [0, 1, 2] (by decide) rfl rfl d_M_unrank_41
  exact absurd h23 (by omega)
set_option maxHeartbeats 4000000 in
set_option maxRecDepth 100000 in
theorem c_M_pattern_no (xM : Nat) (cd : Int32) (n : Nat) (xK : Nat) (xV : Nat) (ln : Nat) (xC : Nat) (xH : Nat) (ct : Nat) (xT : Nat) (xP : Nat) (lk : Nat) (xB : Nat) (xR : Nat) (xL : Nat) (xN : Nat) (xQ : Nat) (rp : Bool) (x : Int32) (y : Int32) (z : Int32) (hno : ptk n x y z = false) : CtI l y_M_pattern (w_M_pattern) ({ frames := 0, cells := 0, slots := 0, locals := 0 }) D vwCl (TYs cI cZ cJ cG) (gG tF) [.ref xM, .int x, .int y, .int z] [(xM, .inr (6, [.int cd, .int (nI n), .ref xK, .ref xV, .int (nI ln), .ref xC, .ref xH, .int (nI ct), .ref xT, .ref xP, .int (nI lk), .ref xB, .ref xR, .ref xL, .ref xN, .ref xQ, .int (nI rp.toNat)]))] 0 0 (fun _ : Unit => [(xM, .inr (6, [.int (nI 0), .int (nI n), .ref xK, .ref xV, .int (nI ln), .ref xC, .ref xH, .int (nI ct), .ref xT, .ref xP, .int (nI lk), .ref xB, .ref xR, .ref xL, .ref xN, .ref xQ, .int (nI rp.toNat)]))]) (fun (r : Int32) (_ : Unit) => r = nI 0) := by
  refine CtI.of (cc := b_M_pattern) (maxL := 4) (ret := (some .boolean)) (by decide) rfl (Nat.le_of_ble_eq_true rfl) ?_
  intro p e s m args below meth c A ls hF hA hP hK hD hg hS hl
  obtain ⟨hx, hb, hrt, hlk, hml, hown, hts, hnm⟩ := hF
  have hown : s.vm.findClass R_M = some m.cls := hown
  have hl : lv_has ls 4 [(0, .ref xM), (1, .int x), (2, .int y), (3, .int z)] := hl
  refine lv_aload_n hx hb d_M_pattern_0 rfl (lv_at hl 0 rfl) ?_
  refine lv_iconst (v := nI 0) hx hb d_M_pattern_1 (by decide) ?_
  refine va_put (D := D) (ci := 6) (v := .int (nI 0)) (ty := .int) (C := R_M) (T := F_M) (N := 17) hx hb hts in_M t_M t_M_ok n_M hown hK hP hD hS 0 rfl rfl 0 (by decide) (hts _ (List.mem_cons_of_mem _ k_583)) (fun _ h9 => h9) rfl (by decide +kernel) rfl rfl (Nat.le_of_ble_eq_true rfl) d_M_pattern_2 (fun H locs hP hD hS => ?_)
  have hP : va_P D vwCl [(xM, .inr (6, [.int (nI 0), .int (nI n), .ref xK, .ref xV, .int (nI ln), .ref xC, .ref xH, .int (nI ct), .ref xT, .ref xP, .int (nI lk), .ref xB, .ref xR, .ref xL, .ref xN, .ref xQ, .int (nI rp.toNat)]))] H := hP
  have hD : va_D A [(xM, .inr (6, [.int (nI 0), .int (nI n), .ref xK, .ref xV, .int (nI ln), .ref xC, .ref xH, .int (nI ct), .ref xT, .ref xP, .int (nI lk), .ref xB, .ref xR, .ref xL, .ref xN, .ref xQ, .int (nI rp.toNat)]))] := hD
  refine lv_iload_n hx hb d_M_pattern_5 rfl (lv_at hl 1 rfl) ?_
  refine lv_if_lt (tgt := 39) hx hb d_M_pattern_6 rfl (fun h6 => ?_) (fun h6 => ?_)
  · skip
    refine lv_iconst (v := nI 0) hx hb d_M_pattern_39 (by decide) ?_
    exact xr_i hx hb hrt hlk rfl hP hD hS () [0] (by decide) rfl rfl d_M_pattern_40
  refine lv_iload_n hx hb d_M_pattern_9 rfl (lv_at hl 1 rfl) ?_
  refine lv_iconst (v := nI 3) hx hb d_M_pattern_10 (by decide) ?_
  refine lv_icmp_gt (tgt := 39) hx hb d_M_pattern_11 rfl (fun h11 => ?_) (fun h11 => ?_)
  · skip
    refine lv_iconst (v := nI 0) hx hb d_M_pattern_39 (by decide) ?_
    exact xr_i hx hb hrt hlk rfl hP hD hS () [0] (by decide) rfl rfl d_M_pattern_40
  refine lv_iload_n hx hb d_M_pattern_14 rfl (lv_at hl 2 rfl) ?_
  refine lv_iconst (v := nI 1) hx hb d_M_pattern_15 (by decide) ?_
  refine lv_icmp_lt (tgt := 39) hx hb d_M_pattern_16 rfl (fun h16 => ?_) (fun h16 => ?_)
  · skip
    refine lv_iconst (v := nI 0) hx hb d_M_pattern_39 (by decide) ?_
    exact xr_i hx hb hrt hlk rfl hP hD hS () [0] (by decide) rfl rfl d_M_pattern_40
  refine lv_iload_n hx hb d_M_pattern_19 rfl (lv_at hl 2 rfl) ?_
  refine lv_aload_n hx hb d_M_pattern_20 rfl (lv_at hl 0 rfl) ?_
  refine va_get (D := D) (ci := 6) (v := .int (nI n)) (C := R_M) (T := F_M) (N := 17) hx hb hts in_M hown hK hP 0 rfl rfl 1 (by decide) (hts _ (List.mem_cons_of_mem _ k_584)) (fun _ h9 => h9) rfl d_M_pattern_21 ?_
  refine lv_icmp_gt (tgt := 39) hx hb d_M_pattern_24 rfl (fun h24 => ?_) (fun h24 => ?_)
  · skip
    refine lv_iconst (v := nI 0) hx hb d_M_pattern_39 (by decide) ?_
    exact xr_i hx hb hrt hlk rfl hP hD hS () [0] (by decide) rfl rfl d_M_pattern_40
  refine lv_iload_n hx hb d_M_pattern_27 rfl (lv_at hl 3 rfl) ?_
  refine lv_if_lt (tgt := 39) hx hb d_M_pattern_28 rfl (fun h28 => ?_) (fun h28 => ?_)
  · skip
    refine lv_iconst (v := nI 0) hx hb d_M_pattern_39 (by decide) ?_
    exact xr_i hx hb hrt hlk rfl hP hD hS () [0] (by decide) rfl rfl d_M_pattern_40
  refine lv_iload_n hx hb d_M_pattern_31 rfl (lv_at hl 3 rfl) ?_
  refine lv_aload_n hx hb d_M_pattern_32 rfl (lv_at hl 0 rfl) ?_
  refine va_get (D := D) (ci := 6) (v := .int (nI n)) (C := R_M) (T := F_M) (N := 17) hx hb hts in_M hown hK hP 0 rfl rfl 1 (by decide) (hts _ (List.mem_cons_of_mem _ k_584)) (fun _ h9 => h9) rfl d_M_pattern_33 ?_
  refine lv_icmp_le (tgt := 41) hx hb d_M_pattern_36 rfl (fun h36 => ?_) (fun h36 => ?_)
  · skip
    exact absurd hno (by unfold ptk okp okl; rw [if_neg h6, if_neg (x4 h11), if_pos rfl, if_neg h16, if_neg h24, if_pos rfl, if_neg h28, if_neg (Int32.not_lt.mpr h36)]; decide)
  refine lv_iconst (v := nI 0) hx hb d_M_pattern_39 (by decide) ?_
  exact xr_i hx hb hrt hlk rfl hP hD hS () [0] (by decide) rfl rfl d_M_pattern_40
set_option maxHeartbeats 4000000 in
set_option maxRecDepth 100000 in
theorem c_M_pattern (xM : Nat) (cd : Int32) (n : Nat) (xK : Nat) (xV : Nat) (ln : Nat) (xC : Nat) (xH : Nat) (ct : Nat) (xT : Nat) (xP : Nat) (lk : Nat) (xB : Nat) (xR : Nat) (xL : Nat) (xN : Nat) (xQ : Nat) (rp : Bool) (pq : Nat → Int32) (w : Nat) (q : Nat) (b : Nat) (hn : nb n) (hw : w < 4) (hq : q < n) (hbn : b ≤ n) : CtI l y_M_pattern (w_M_pattern) ({ frames := 0, cells := 0, slots := 0, locals := 0 }) D vwCl (TYs cI cZ cJ cG) (gG tF) [.ref xM, .int (nI w), .int (nI (q + 1)), .int (nI b)] [(xM, .inr (6, [.int cd, .int (nI n), .ref xK, .ref xV, .int (nI ln), .ref xC, .ref xH, .int (nI ct), .ref xT, .ref xP, .int (nI lk), .ref xB, .ref xR, .ref xL, .ref xN, .ref xQ, .int (nI rp.toNat)])), (xP, .inl (cI, 24, .inl pq))] 0 0 (fun _ : Unit => [(xM, .inr (6, [.int (nI 0), .int (nI n), .ref xK, .ref xV, .int (nI ln), .ref xC, .ref xH, .int (nI ct), .ref xT, .ref xP, .int (nI lk), .ref xB, .ref xR, .ref xL, .ref xN, .ref xQ, .int (nI rp.toNat)])), (xP, .inl (cI, 24, .inl (upd pq (6 * w + q) (nI b))))]) (fun (r : Int32) (_ : Unit) => r = nI 1) := by
  refine CtI.of (cc := b_M_pattern) (maxL := 4) (ret := (some .boolean)) (by decide) rfl (Nat.le_of_ble_eq_true rfl) ?_
  intro p e s m args below meth c A ls hF hA hP hK hD hg hS hl
  obtain ⟨hx, hb, hrt, hlk, hml, hown, hts, hnm⟩ := hF
  have hown : s.vm.findClass R_M = some m.cls := hown
  have hl : lv_has ls 4 [(0, .ref xM), (1, .int (nI w)), (2, .int (nI (q + 1))), (3, .int (nI b))] := hl
  have hn4 : 4 ≤ n := hn.1
  have hn6 : n ≤ 6 := hn.2
  have hfa : fa n ≤ 720 := fa_le hn
  refine lv_aload_n hx hb d_M_pattern_0 rfl (lv_at hl 0 rfl) ?_
  refine lv_iconst (v := nI 0) hx hb d_M_pattern_1 (by decide) ?_
  refine va_put (D := D) (ci := 6) (v := .int (nI 0)) (ty := .int) (C := R_M) (T := F_M) (N := 17) hx hb hts in_M t_M t_M_ok n_M hown hK hP hD hS 0 rfl rfl 0 (by decide) (hts _ (List.mem_cons_of_mem _ k_583)) (fun _ h9 => h9) rfl (by decide +kernel) rfl rfl (Nat.le_of_ble_eq_true rfl) d_M_pattern_2 (fun H locs hP hD hS => ?_)
  have hP : va_P D vwCl [(xM, .inr (6, [.int (nI 0), .int (nI n), .ref xK, .ref xV, .int (nI ln), .ref xC, .ref xH, .int (nI ct), .ref xT, .ref xP, .int (nI lk), .ref xB, .ref xR, .ref xL, .ref xN, .ref xQ, .int (nI rp.toNat)])), (xP, .inl (cI, 24, .inl pq))] H := hP
  have hD : va_D A [(xM, .inr (6, [.int (nI 0), .int (nI n), .ref xK, .ref xV, .int (nI ln), .ref xC, .ref xH, .int (nI ct), .ref xT, .ref xP, .int (nI lk), .ref xB, .ref xR, .ref xL, .ref xN, .ref xQ, .int (nI rp.toNat)])), (xP, .inl (cI, 24, .inl pq))] := hD
  refine lv_iload_n hx hb d_M_pattern_5 rfl (lv_at hl 1 rfl) ?_
  refine xb_lt hx hb 39 (by omega) d_M_pattern_6 rfl ?_
  refine lv_iload_n hx hb d_M_pattern_9 rfl (lv_at hl 1 rfl) ?_
  refine lv_iconst (v := nI 3) hx hb d_M_pattern_10 (by decide) ?_
  refine xb_cgt hx hb 39 (by omega) (by omega) d_M_pattern_11 rfl (fun h11 => ?_) (fun h11 => ?_)
  · skip
    exact absurd h11 (by omega)
  refine lv_iload_n hx hb d_M_pattern_14 rfl (lv_at hl 2 rfl) ?_
  refine lv_iconst (v := nI 1) hx hb d_M_pattern_15 (by decide) ?_
  refine xb_clt hx hb 39 (by omega) (by omega) d_M_pattern_16 rfl (fun h16 => ?_) (fun h16 => ?_)
  · skip
    exact absurd h16 (by omega)
  refine lv_iload_n hx hb d_M_pattern_19 rfl (lv_at hl 2 rfl) ?_
  refine lv_aload_n hx hb d_M_pattern_20 rfl (lv_at hl 0 rfl) ?_
  refine va_get (D := D) (ci := 6) (v := .int (nI n)) (C := R_M) (T := F_M) (N := 17) hx hb hts in_M hown hK hP 0 rfl rfl 1 (by decide) (hts _ (List.mem_cons_of_mem _ k_584)) (fun _ h9 => h9) rfl d_M_pattern_21 ?_
  refine xb_cgt hx hb 39 (by omega) (by omega) d_M_pattern_24 rfl (fun h24 => ?_) (fun h24 => ?_)
  · skip
    exact absurd h24 (by omega)
  refine lv_iload_n hx hb d_M_pattern_27 rfl (lv_at hl 3 rfl) ?_
  refine xb_lt hx hb 39 (by omega) d_M_pattern_28 rfl ?_
  refine lv_iload_n hx hb d_M_pattern_31 rfl (lv_at hl 3 rfl) ?_
  refine lv_aload_n hx hb d_M_pattern_32 rfl (lv_at hl 0 rfl) ?_
  refine va_get (D := D) (ci := 6) (v := .int (nI n)) (C := R_M) (T := F_M) (N := 17) hx hb hts in_M hown hK hP 0 rfl rfl 1 (by decide) (hts _ (List.mem_cons_of_mem _ k_584)) (fun _ h9 => h9) rfl d_M_pattern_33 ?_
  refine xb_cle hx hb 41 (by omega) (by omega) d_M_pattern_36 rfl (fun h36 => ?_) (fun h36 => ?_)
  · skip
    refine lv_aload_n hx hb d_M_pattern_41 rfl (lv_at hl 0 rfl) ?_
    refine va_get (D := D) (ci := 6) (v := .ref xP) (C := R_M) (T := F_M) (N := 17) hx hb hts in_M hown hK hP 0 rfl rfl 9 (by decide) (hts _ (List.mem_cons_of_mem _ k_592)) (fun _ h9 => h9) rfl d_M_pattern_42 ?_
    refine lv_bipush (v := nI 6) hx hb d_M_pattern_45 (by decide) ?_
    refine lv_iload_n hx hb d_M_pattern_47 rfl (lv_at hl 1 rfl) ?_
    refine lv_imul hx hb d_M_pattern_48 ?_
    refine xn_i (y := nI (6 * w)) (pk_mul _ _) ?_
    refine lv_iload_n hx hb d_M_pattern_49 rfl (lv_at hl 2 rfl) ?_
    refine lv_iadd hx hb d_M_pattern_50 ?_
    refine xn_i (y := nI ((6 * w) + (q + 1))) (nI_add _ _) ?_
    refine lv_iconst (v := nI 1) hx hb d_M_pattern_51 (by decide) ?_
    refine lv_isub hx hb d_M_pattern_52 ?_
    refine xn_i (y := nI (6 * w + q)) (by rw [pk_sub (by omega), show 6 * w + (q + 1) - 1 = 6 * w + q by omega]) ?_
    refine lv_iload_n hx hb d_M_pattern_53 rfl (lv_at hl 3 rfl) ?_
    refine xa_iast hx hb hK hP hD hS 1 0 rfl rfl (by omega) (by decide) d_M_pattern_54 (fun H locs hP hD hS => ?_)
    have hP : va_P D vwCl [(xM, .inr (6, [.int (nI 0), .int (nI n), .ref xK, .ref xV, .int (nI ln), .ref xC, .ref xH, .int (nI ct), .ref xT, .ref xP, .int (nI lk), .ref xB, .ref xR, .ref xL, .ref xN, .ref xQ, .int (nI rp.toNat)])), (xP, .inl (cI, 24, .inl (upd pq (6 * w + q) (nI b))))] H := hP
    have hD : va_D A [(xM, .inr (6, [.int (nI 0), .int (nI n), .ref xK, .ref xV, .int (nI ln), .ref xC, .ref xH, .int (nI ct), .ref xT, .ref xP, .int (nI lk), .ref xB, .ref xR, .ref xL, .ref xN, .ref xQ, .int (nI rp.toNat)])), (xP, .inl (cI, 24, .inl (upd pq (6 * w + q) (nI b))))] := hD
    refine lv_iconst (v := nI 1) hx hb d_M_pattern_55 (by decide) ?_
    exact xr_i hx hb hrt hlk rfl hP hD hS () [0, 1] (by decide) rfl rfl d_M_pattern_56
  exact absurd h36 (by omega)
set_option maxHeartbeats 4000000 in
set_option maxRecDepth 100000 in
theorem c_M_prove (xM : Nat) (cd : Int32) (n : Nat) (xK : Nat) (xV : Nat) (ln : Nat) (xC : Nat) (xH : Nat) (ct : Nat) (xT : Nat) (xP : Nat) (lk : Nat) (xB : Nat) (xR : Nat) (xL : Nat) (xN : Nat) (xQ : Nat) (rp : Bool) (B : Nat → Int32) (Rk : Nat → Int32) (km : Nat → Int32) (cq : Nat → Int32) (tq : Nat → Int32) (mt : Nat → Nat → Nat) (tt : Nat → Nat) (hn : nb n) (hct : ct ≤ 30) (hln : ln ≤ 24) (hlt : ∀ i, i ≤ ct * ln → Rw n ln mt tt i < fa n) (htt : ∀ a, a < ct → tq a = nI (tt a) ∧ tt a ≤ 2 ∧ gmr n ln km cq (tt a) (mt (tt a))) (hl1 : 0 < ct → 1 ≤ ln) : CtI l y_M_prove (w_M_prove) ({ frames := 4, cells := 0, slots := 0, locals := 93 }) D vwCl (TYs cI cZ cJ cG) (gG tF) [.ref xM] [(xM, .inr (6, [.int cd, .int (nI n), .ref xK, .ref xV, .int (nI ln), .ref xC, .ref xH, .int (nI ct), .ref xT, .ref xP, .int (nI lk), .ref xB, .ref xR, .ref xL, .ref xN, .ref xQ, .int (nI rp.toNat)])), (xK, .inl (cI, 24, .inl km)), (xC, .inl (cI, 3, .inl cq)), (xT, .inl (cI, 30, .inl tq)), (xB, .inl (cI, 4326, .inl B)), (xR, .inl (cI, 721, .inl Rk))] 0 0 (fun u : (Nat → Int32) × (Nat → Int32) => match u with | (B2, Rk2) => [(xM, .inr (6, [.int (nI 0), .int (nI n), .ref xK, .ref xV, .int (nI ln), .ref xC, .ref xH, .int (nI ct), .ref xT, .ref xP, .int (nI lk), .ref xB, .ref xR, .ref xL, .ref xN, .ref xQ, .int (nI rp.toNat)])), (xK, .inl (cI, 24, .inl km)), (xC, .inl (cI, 3, .inl cq)), (xT, .inl (cI, 30, .inl tq)), (xB, .inl (cI, 4326, .inl B2)), (xR, .inl (cI, 721, .inl Rk2))]) (fun (r : Int32) (u : (Nat → Int32) × (Nat → Int32)) => match u with | (B2, Rk2) => r = pvI (Rw n ln mt tt) ct ln) := by
  refine CtI.of (cc := b_M_prove) (maxL := 6) (ret := (some .int)) (by decide) rfl (Nat.le_of_ble_eq_true rfl) ?_
  intro p e s m args below meth c A ls hF hA hP hK hD hg hS hl
  obtain ⟨hx, hb, hrt, hlk, hml, hown, hts, hnm⟩ := hF
  have hown : s.vm.findClass R_M = some m.cls := hown
  have hl : lv_has ls 6 [(0, .ref xM)] := hl
  have hn4 : 4 ≤ n := hn.1
  have hn6 : n ≤ 6 := hn.2
  have hfa : fa n ≤ 720 := fa_le hn
  have hcl : ct * ln ≤ 720 := by have := Nat.mul_le_mul hct hln; omega
  refine lv_aload_n hx hb d_M_prove_0 rfl (lv_at hl 0 rfl) ?_
  refine lv_iconst (v := nI 0) hx hb d_M_prove_1 (by decide) ?_
  refine va_put (D := D) (ci := 6) (v := .int (nI 0)) (ty := .int) (C := R_M) (T := F_M) (N := 17) hx hb hts in_M t_M t_M_ok n_M hown hK hP hD hS 0 rfl rfl 0 (by decide) (hts _ (List.mem_cons_of_mem _ k_583)) (fun _ h9 => h9) rfl (by decide +kernel) rfl rfl (Nat.le_of_ble_eq_true rfl) d_M_prove_2 (fun H locs hP hD hS => ?_)
  have hP : va_P D vwCl [(xM, .inr (6, [.int (nI 0), .int (nI n), .ref xK, .ref xV, .int (nI ln), .ref xC, .ref xH, .int (nI ct), .ref xT, .ref xP, .int (nI lk), .ref xB, .ref xR, .ref xL, .ref xN, .ref xQ, .int (nI rp.toNat)])), (xK, .inl (cI, 24, .inl km)), (xC, .inl (cI, 3, .inl cq)), (xT, .inl (cI, 30, .inl tq)), (xB, .inl (cI, 4326, .inl B)), (xR, .inl (cI, 721, .inl Rk))] H := hP
  have hD : va_D A [(xM, .inr (6, [.int (nI 0), .int (nI n), .ref xK, .ref xV, .int (nI ln), .ref xC, .ref xH, .int (nI ct), .ref xT, .ref xP, .int (nI lk), .ref xB, .ref xR, .ref xL, .ref xN, .ref xQ, .int (nI rp.toNat)])), (xK, .inl (cI, 24, .inl km)), (xC, .inl (cI, 3, .inl cq)), (xT, .inl (cI, 30, .inl tq)), (xB, .inl (cI, 4326, .inl B)), (xR, .inl (cI, 721, .inl Rk))] := hD
  refine lv_aload_n hx hb d_M_prove_5 rfl (lv_at hl 0 rfl) ?_
  refine xc_i (wc := [(xM, .inr (6, [.int (nI 0), .int (nI n), .ref xK, .ref xV, .int (nI ln), .ref xC, .ref xH, .int (nI ct), .ref xT, .ref xP, .int (nI lk), .ref xB, .ref xR, .ref xL, .ref xN, .ref xQ, .int (nI rp.toNat)])), (xK, .inl (cI, 24, .inl km)), (xC, .inl (cI, 3, .inl cq)), (xT, .inl (cI, 30, .inl tq)), (xB, .inl (cI, 4326, .inl B)), (xR, .inl (cI, 721, .inl Rk))]) (wr := []) (gG_ok tF) hK hP hD hS hA hg [0, 1, 2, 3, 4, 5] [] rfl rfl (by decide) (by decide) (by decide) (fun h1 h2 => va_runV (As := []) (rest := []) ⟨hx, hb, hml, hown, hts⟩ (c_M_ringAll xM (nI 0) n xK xV ln xC xH ct xT xP lk xB xR xL xN xQ rp B Rk km cq tq mt tt hn hct hln hcl hlt htt _) (cwV 0 hts (gV k_704 k_706 ks_M_ringAll k_7 k_707) rfl rfl rfl (by decide +kernel) ⟨Nat.le_of_ble_eq_true rfl, Nat.le_of_ble_eq_true rfl⟩) ⟨h1, va_recv (q0 := 0) (ci := 6) hK hP rfl rfl, h2⟩ rfl rfl hl.1 rfl (lv_room (Nat.le_of_ble_eq_true rfl)) d_M_prove_6 ⟨Nat.zero_le _, Nat.zero_le _⟩) (fun r u H locs hq9 hP hD hS => ?_)
  obtain ⟨B2, Rk2⟩ := u
  obtain ⟨rfl, hw6⟩ := hq9
  have hP : va_P D vwCl [(xM, .inr (6, [.int (nI 0), .int (nI n), .ref xK, .ref xV, .int (nI ln), .ref xC, .ref xH, .int (nI ct), .ref xT, .ref xP, .int (nI lk), .ref xB, .ref xR, .ref xL, .ref xN, .ref xQ, .int (nI rp.toNat)])), (xK, .inl (cI, 24, .inl km)), (xC, .inl (cI, 3, .inl cq)), (xT, .inl (cI, 30, .inl tq)), (xB, .inl (cI, 4326, .inl B2)), (xR, .inl (cI, 721, .inl Rk2))] H := hP
  have hD : va_D A [(xM, .inr (6, [.int (nI 0), .int (nI n), .ref xK, .ref xV, .int (nI ln), .ref xC, .ref xH, .int (nI ct), .ref xT, .ref xP, .int (nI lk), .ref xB, .ref xR, .ref xL, .ref xN, .ref xQ, .int (nI rp.toNat)])), (xK, .inl (cI, 24, .inl km)), (xC, .inl (cI, 3, .inl cq)), (xT, .inl (cI, 30, .inl tq)), (xB, .inl (cI, 4326, .inl B2)), (xR, .inl (cI, 721, .inl Rk2))] := hD
  refine lv_istore_n hx hb d_M_prove_9 rfl hl (by decide) rfl (fun ls hl => ?_)
  have hl : lv_has ls 6 [(1, .int (nI (ct * ln))), (0, .ref xM)] := hl
  refine lv_iconst (v := nI 1) hx hb d_M_prove_10 (by decide) ?_
  refine lv_istore_n hx hb d_M_prove_11 rfl hl (by decide) rfl (fun ls hl => ?_)
  have hl : lv_has ls 6 [(2, .int (nI 1)), (1, .int (nI (ct * ln))), (0, .ref xM)] := hl
  have hl : lv_has ls 6 [(0, .ref xM), (1, .int (nI (ct * ln))), (2, .int (nI (0 + 1)))] := lv_sub hl [2, 1, 0] rfl
  have hP := hP.sub (ws' := [(xM, .inr (6, [.int (nI 0), .int (nI n), .ref xK, .ref xV, .int (nI ln), .ref xC, .ref xH, .int (nI ct), .ref xT, .ref xP, .int (nI lk), .ref xB, .ref xR, .ref xL, .ref xN, .ref xQ, .int (nI rp.toNat)])), (xK, .inl (cI, 24, .inl km)), (xC, .inl (cI, 3, .inl cq)), (xT, .inl (cI, 30, .inl tq)), (xB, .inl (cI, 4326, .inl B2)), (xR, .inl (cI, 721, .inl Rk2))]) [0, 1, 2, 3, 4, 5] rfl
  have hD := hD.sub (ws' := [(xM, .inr (6, [.int (nI 0), .int (nI n), .ref xK, .ref xV, .int (nI ln), .ref xC, .ref xH, .int (nI ct), .ref xT, .ref xP, .int (nI lk), .ref xB, .ref xR, .ref xL, .ref xN, .ref xQ, .int (nI rp.toNat)])), (xK, .inl (cI, 24, .inl km)), (xC, .inl (cI, 3, .inl cq)), (xT, .inl (cI, 30, .inl tq)), (xB, .inl (cI, 4326, .inl B2)), (xR, .inl (cI, 721, .inl Rk2))]) [0, 1, 2, 3, 4, 5] (by decide) rfl
  refine xn_pc (pc2 := 12) rfl ?_
  refine xl_1 (fun (a : Nat) ls H locs => (a ≤ ct * ln) ∧ (∀ b, b < a → b + 1 < ct * ln → rpR (Rw n ln mt tt) b = false) ∧ (a = ct * ln → 0 < ct * ln → rpR (Rw n ln mt tt) (ct * ln - 1) = false ∨ Rw n ln mt tt (ct * ln) = 0) ∧ lv_has ls 6 [(0, .ref xM), (1, .int (nI (ct * ln))), (2, .int (nI (a + 1)))] ∧ va_P D vwCl [(xM, .inr (6, [.int (nI 0), .int (nI n), .ref xK, .ref xV, .int (nI ln), .ref xC, .ref xH, .int (nI ct), .ref xT, .ref xP, .int (nI lk), .ref xB, .ref xR, .ref xL, .ref xN, .ref xQ, .int (nI rp.toNat)])), (xK, .inl (cI, 24, .inl km)), (xC, .inl (cI, 3, .inl cq)), (xT, .inl (cI, 30, .inl tq)), (xB, .inl (cI, 4326, .inl B2)), (xR, .inl (cI, 721, .inl Rk2))] H ∧ va_D A [(xM, .inr (6, [.int (nI 0), .int (nI n), .ref xK, .ref xV, .int (nI ln), .ref xC, .ref xH, .int (nI ct), .ref xT, .ref xP, .int (nI lk), .ref xB, .ref xR, .ref xL, .ref xN, .ref xQ, .int (nI rp.toNat)])), (xK, .inl (cI, 24, .inl km)), (xC, .inl (cI, 3, .inl cq)), (xT, .inl (cI, 30, .inl tq)), (xB, .inl (cI, 4326, .inl B2)), (xR, .inl (cI, 721, .inl Rk2))] ∧ va_S A s.heap H locs) (fun (a : Nat) => ct * ln - a) (fun a ls H locs hI ih => ?_) 0 ⟨Nat.zero_le _, fun b hb => absurd hb (Nat.not_lt_zero b), fun h1 h2 => absurd h2 (by omega), hl, hP, hD, hS⟩
  obtain ⟨hi1, hi2, hi3, hl, hP, hD, hS⟩ := hI
  refine lv_iload_n hx hb d_M_prove_12 rfl (lv_at hl 2 rfl) ?_
  refine lv_iload_n hx hb d_M_prove_13 rfl (lv_at hl 1 rfl) ?_
  refine xb_cgt hx hb 133 (by omega) (by omega) d_M_prove_14 rfl (fun h14 => ?_) (fun h14 => ?_)
  · skip
    have ea : a = ct * ln := by omega
    have hpe := pr_end (R := Rw n ln mt tt) rfl hl1 (fun b hb => hi2 b (by omega) hb) (fun h => hi3 ea h)
    refine lv_iload_n hx hb d_M_prove_133 rfl (lv_at hl 1 rfl) ?_
    refine xb_eq hx hb 146 (by omega) d_M_prove_134 rfl (fun h134 => ?_) (fun h134 => ?_)
    · skip
      refine lv_iconst (v := nI 0) hx hb d_M_prove_146 (by decide) ?_
      refine lv_goto (tgt := 151) hx hb d_M_prove_147 rfl ?_
      exact xr_i hx hb hrt hlk rfl hP hD hS (B2, Rk2) [0, 1, 2, 3, 4, 5] (by decide) rfl (by rw [hpe]; first | rw [if_pos (Or.inl h134)] | rw [if_pos (Or.inr h143)]) d_M_prove_151
    refine lv_aload_n hx hb d_M_prove_137 rfl (lv_at hl 0 rfl) ?_
    refine va_get (D := D) (ci := 6) (v := .ref xR) (C := R_M) (T := F_M) (N := 17) hx hb hts in_M hown hK hP 0 rfl rfl 12 (by decide) (hts _ (List.mem_cons_of_mem _ k_595)) (fun _ h9 => h9) rfl d_M_prove_138 ?_
    refine lv_iload_n hx hb d_M_prove_141 rfl (lv_at hl 1 rfl) ?_
    refine xa_iald (v := nI (Rw n ln mt tt (ct * ln))) hx hb hK hP 5 0 rfl rfl (by omega) (by decide) ((hw6 _ (Nat.le_refl _)).2) d_M_prove_142 ?_
    refine xb_ne hx hb 150 (by have := hlt (ct * ln) (Nat.le_refl _); omega) d_M_prove_143 rfl (fun h143 => ?_) (fun h143 => ?_)
    · skip
      refine lv_iconst (v := (-1)) hx hb d_M_prove_150 (by decide) ?_
      exact xr_i hx hb hrt hlk rfl hP hD hS (B2, Rk2) [0, 1, 2, 3, 4, 5] (by decide) rfl (by rw [hpe, if_neg (fun q => q.elim h134 h143)]) d_M_prove_151
    refine lv_iconst (v := nI 0) hx hb d_M_prove_146 (by decide) ?_
    refine lv_goto (tgt := 151) hx hb d_M_prove_147 rfl ?_
    exact xr_i hx hb hrt hlk rfl hP hD hS (B2, Rk2) [0, 1, 2, 3, 4, 5] (by decide) rfl (by rw [hpe]; first | rw [if_pos (Or.inl h134)] | rw [if_pos (Or.inr h143)]) d_M_prove_151
  have ha9 : a < ct * ln := by omega
  refine lv_iconst (v := nI 0) hx hb d_M_prove_17 (by decide) ?_
  refine lv_istore_n hx hb d_M_prove_18 rfl hl (by decide) rfl (fun ls hl => ?_)
  have hl : lv_has ls 6 [(3, .int (nI 0)), (0, .ref xM), (1, .int (nI (ct * ln))), (2, .int (nI (a + 1)))] := hl
  refine lv_iconst (v := nI 0) hx hb d_M_prove_19 (by decide) ?_
  refine lv_istore hx hb d_M_prove_20 hl (by decide) rfl (fun ls hl => ?_)
  have hl : lv_has ls 6 [(4, .int (nI 0)), (3, .int (nI 0)), (0, .ref xM), (1, .int (nI (ct * ln))), (2, .int (nI (a + 1)))] := hl
  refine lv_iconst (v := nI 0) hx hb d_M_prove_22 (by decide) ?_
  refine lv_istore hx hb d_M_prove_23 hl (by decide) rfl (fun ls hl => ?_)
  have hl : lv_has ls 6 [(5, .int (nI 0)), (4, .int (nI 0)), (3, .int (nI 0)), (0, .ref xM), (1, .int (nI (ct * ln))), (2, .int (nI (a + 1)))] := hl
  have hl : lv_has ls 6 [(0, .ref xM), (1, .int (nI (ct * ln))), (2, .int (nI (a + 1))), (3, .int (nI ((inR (Rw n ln mt tt) 0 (Rw n ln mt tt (a + 1))).toNat))), (4, .int (nI ((btw (Rw n ln mt tt) 0).toNat))), (5, .int (nI 0))] := lv_sub hl [3, 4, 5, 2, 1, 0] rfl
  have hP := hP.sub (ws' := [(xM, .inr (6, [.int (nI 0), .int (nI n), .ref xK, .ref xV, .int (nI ln), .ref xC, .ref xH, .int (nI ct), .ref xT, .ref xP, .int (nI lk), .ref xB, .ref xR, .ref xL, .ref xN, .ref xQ, .int (nI rp.toNat)])), (xK, .inl (cI, 24, .inl km)), (xC, .inl (cI, 3, .inl cq)), (xT, .inl (cI, 30, .inl tq)), (xB, .inl (cI, 4326, .inl B2)), (xR, .inl (cI, 721, .inl Rk2))]) [0, 1, 2, 3, 4, 5] rfl
  have hD := hD.sub (ws' := [(xM, .inr (6, [.int (nI 0), .int (nI n), .ref xK, .ref xV, .int (nI ln), .ref xC, .ref xH, .int (nI ct), .ref xT, .ref xP, .int (nI lk), .ref xB, .ref xR, .ref xL, .ref xN, .ref xQ, .int (nI rp.toNat)])), (xK, .inl (cI, 24, .inl km)), (xC, .inl (cI, 3, .inl cq)), (xT, .inl (cI, 30, .inl tq)), (xB, .inl (cI, 4326, .inl B2)), (xR, .inl (cI, 721, .inl Rk2))]) [0, 1, 2, 3, 4, 5] (by decide) rfl
  refine xn_pc (pc2 := 25) rfl ?_
  refine xl_1 (fun (j : Nat) ls H locs => (j ≤ a + 1) ∧ lv_has ls 6 [(0, .ref xM), (1, .int (nI (ct * ln))), (2, .int (nI (a + 1))), (3, .int (nI ((inR (Rw n ln mt tt) j (Rw n ln mt tt (a + 1))).toNat))), (4, .int (nI ((btw (Rw n ln mt tt) j).toNat))), (5, .int (nI j))] ∧ va_P D vwCl [(xM, .inr (6, [.int (nI 0), .int (nI n), .ref xK, .ref xV, .int (nI ln), .ref xC, .ref xH, .int (nI ct), .ref xT, .ref xP, .int (nI lk), .ref xB, .ref xR, .ref xL, .ref xN, .ref xQ, .int (nI rp.toNat)])), (xK, .inl (cI, 24, .inl km)), (xC, .inl (cI, 3, .inl cq)), (xT, .inl (cI, 30, .inl tq)), (xB, .inl (cI, 4326, .inl B2)), (xR, .inl (cI, 721, .inl Rk2))] H ∧ va_D A [(xM, .inr (6, [.int (nI 0), .int (nI n), .ref xK, .ref xV, .int (nI ln), .ref xC, .ref xH, .int (nI ct), .ref xT, .ref xP, .int (nI lk), .ref xB, .ref xR, .ref xL, .ref xN, .ref xQ, .int (nI rp.toNat)])), (xK, .inl (cI, 24, .inl km)), (xC, .inl (cI, 3, .inl cq)), (xT, .inl (cI, 30, .inl tq)), (xB, .inl (cI, 4326, .inl B2)), (xR, .inl (cI, 721, .inl Rk2))] ∧ va_S A s.heap H locs) (fun (j : Nat) => a + 1 - j) (fun j ls H locs hI ih1 => ?_) 0 ⟨Nat.zero_le _, hl, hP, hD, hS⟩
  obtain ⟨hj1, hl, hP, hD, hS⟩ := hI
  refine lv_iload hx hb d_M_prove_25 (lv_at hl 5 rfl) ?_
  refine lv_iload_n hx hb d_M_prove_27 rfl (lv_at hl 2 rfl) ?_
  refine xb_cge hx hb 90 (by omega) (by omega) d_M_prove_28 rfl (fun h28 => ?_) (fun h28 => ?_)
  · skip
    refine xn_pc (pc2 := 90) rfl ?_
    refine xj_1 (fun (hm : Bool) ls H locs => (hm = true ↔ (a + 1 = ct * ln ∧ Rw n ln mt tt (a + 1) = 0 ∧ btw (Rw n ln mt tt) (a + 1) = false)) ∧ lv_has ls 6 [(0, .ref xM), (1, .int (nI (ct * ln))), (2, .int (nI (a + 1))), (3, .int (nI ((inR (Rw n ln mt tt) (a + 1) (Rw n ln mt tt (a + 1))).toNat)))] ∧ va_P D vwCl [(xM, .inr (6, [.int (nI 0), .int (nI n), .ref xK, .ref xV, .int (nI ln), .ref xC, .ref xH, .int (nI ct), .ref xT, .ref xP, .int (nI lk), .ref xB, .ref xR, .ref xL, .ref xN, .ref xQ, .int (nI rp.toNat)])), (xK, .inl (cI, 24, .inl km)), (xC, .inl (cI, 3, .inl cq)), (xT, .inl (cI, 30, .inl tq)), (xB, .inl (cI, 4326, .inl B2)), (xR, .inl (cI, 721, .inl Rk2))] H ∧ va_D A [(xM, .inr (6, [.int (nI 0), .int (nI n), .ref xK, .ref xV, .int (nI ln), .ref xC, .ref xH, .int (nI ct), .ref xT, .ref xP, .int (nI lk), .ref xB, .ref xR, .ref xL, .ref xN, .ref xQ, .int (nI rp.toNat)])), (xK, .inl (cI, 24, .inl km)), (xC, .inl (cI, 3, .inl cq)), (xT, .inl (cI, 30, .inl tq)), (xB, .inl (cI, 4326, .inl B2)), (xR, .inl (cI, 721, .inl Rk2))] ∧ va_S A s.heap H locs) 114 (fun (hm : Bool) => [.int (nI hm.toNat)]) 0 0 (fun hm ls H locs hI => ?_) (fun hj => ?_)
    · obtain ⟨hhm, hl, hP, hD, hS⟩ := hI
      refine lv_istore hx hb d_M_prove_114 hl (by decide) rfl (fun ls hl => ?_)
      have hl : lv_has ls 6 [(5, .int (nI hm.toNat)), (0, .ref xM), (1, .int (nI (ct * ln))), (2, .int (nI (a + 1))), (3, .int (nI ((inR (Rw n ln mt tt) (a + 1) (Rw n ln mt tt (a + 1))).toNat)))] := hl
      refine lv_iload_n hx hb d_M_prove_116 rfl (lv_at hl 4 rfl) ?_
      refine xb_eqB (x := inR (Rw n ln mt tt) (a + 1) (Rw n ln mt tt (a + 1))) hx hb 127 d_M_prove_117 rfl (fun h117 => ?_) (fun h117 => ?_)
      · skip
        refine lv_iinc (k := 3) (v := nI (a + 1 + 1)) hx hb d_M_prove_127 hl rfl (xi_1 _) (by decide) rfl (fun ls hl => ?_)
        have hl : lv_has ls 6 [(2, .int (nI (a + 1 + 1))), (5, .int (nI hm.toNat)), (0, .ref xM), (1, .int (nI (ct * ln))), (3, .int (nI ((inR (Rw n ln mt tt) (a + 1) (Rw n ln mt tt (a + 1))).toNat)))] := hl
        refine lv_goto (tgt := 12) hx hb d_M_prove_130 rfl ?_
        have hl : lv_has ls 6 [(0, .ref xM), (1, .int (nI (ct * ln))), (2, .int (nI ((a + 1) + 1)))] := lv_sub hl [2, 3, 0] rfl
        have hP := hP.sub (ws' := [(xM, .inr (6, [.int (nI 0), .int (nI n), .ref xK, .ref xV, .int (nI ln), .ref xC, .ref xH, .int (nI ct), .ref xT, .ref xP, .int (nI lk), .ref xB, .ref xR, .ref xL, .ref xN, .ref xQ, .int (nI rp.toNat)])), (xK, .inl (cI, 24, .inl km)), (xC, .inl (cI, 3, .inl cq)), (xT, .inl (cI, 30, .inl tq)), (xB, .inl (cI, 4326, .inl B2)), (xR, .inl (cI, 721, .inl Rk2))]) [0, 1, 2, 3, 4, 5] rfl
        have hD := hD.sub (ws' := [(xM, .inr (6, [.int (nI 0), .int (nI n), .ref xK, .ref xV, .int (nI ln), .ref xC, .ref xH, .int (nI ct), .ref xT, .ref xP, .int (nI lk), .ref xB, .ref xR, .ref xL, .ref xN, .ref xQ, .int (nI rp.toNat)])), (xK, .inl (cI, 24, .inl km)), (xC, .inl (cI, 3, .inl cq)), (xT, .inl (cI, 30, .inl tq)), (xB, .inl (cI, 4326, .inl B2)), (xR, .inl (cI, 721, .inl Rk2))]) [0, 1, 2, 3, 4, 5] (by decide) rfl
        exact ih (a + 1) _ _ _ (by omega) ⟨by omega, fun b hb hb2 => by rcases Nat.lt_succ_iff_lt_or_eq.mp hb with h | h; exact hi2 b h hb2; rw [h]; first | exact h117 | (exfalso; have h9 := (hhm.mp h122).1; omega), fun h1 h2 => by rw [← h1, Nat.add_sub_cancel]; first | exact Or.inl h117 | exact Or.inr (hhm.mp h122).2.1, hl, hP, hD, hS⟩
      refine lv_iload hx hb d_M_prove_120 (lv_at hl 0 rfl) ?_
      refine xb_neB (x := hm) hx hb 127 d_M_prove_122 rfl (fun h122 => ?_) (fun h122 => ?_)
      · skip
        refine lv_iinc (k := 3) (v := nI (a + 1 + 1)) hx hb d_M_prove_127 hl rfl (xi_1 _) (by decide) rfl (fun ls hl => ?_)
        have hl : lv_has ls 6 [(2, .int (nI (a + 1 + 1))), (5, .int (nI hm.toNat)), (0, .ref xM), (1, .int (nI (ct * ln))), (3, .int (nI ((inR (Rw n ln mt tt) (a + 1) (Rw n ln mt tt (a + 1))).toNat)))] := hl
        refine lv_goto (tgt := 12) hx hb d_M_prove_130 rfl ?_
        have hl : lv_has ls 6 [(0, .ref xM), (1, .int (nI (ct * ln))), (2, .int (nI ((a + 1) + 1)))] := lv_sub hl [2, 3, 0] rfl
        have hP := hP.sub (ws' := [(xM, .inr (6, [.int (nI 0), .int (nI n), .ref xK, .ref xV, .int (nI ln), .ref xC, .ref xH, .int (nI ct), .ref xT, .ref xP, .int (nI lk), .ref xB, .ref xR, .ref xL, .ref xN, .ref xQ, .int (nI rp.toNat)])), (xK, .inl (cI, 24, .inl km)), (xC, .inl (cI, 3, .inl cq)), (xT, .inl (cI, 30, .inl tq)), (xB, .inl (cI, 4326, .inl B2)), (xR, .inl (cI, 721, .inl Rk2))]) [0, 1, 2, 3, 4, 5] rfl
        have hD := hD.sub (ws' := [(xM, .inr (6, [.int (nI 0), .int (nI n), .ref xK, .ref xV, .int (nI ln), .ref xC, .ref xH, .int (nI ct), .ref xT, .ref xP, .int (nI lk), .ref xB, .ref xR, .ref xL, .ref xN, .ref xQ, .int (nI rp.toNat)])), (xK, .inl (cI, 24, .inl km)), (xC, .inl (cI, 3, .inl cq)), (xT, .inl (cI, 30, .inl tq)), (xB, .inl (cI, 4326, .inl B2)), (xR, .inl (cI, 721, .inl Rk2))]) [0, 1, 2, 3, 4, 5] (by decide) rfl
        exact ih (a + 1) _ _ _ (by omega) ⟨by omega, fun b hb hb2 => by rcases Nat.lt_succ_iff_lt_or_eq.mp hb with h | h; exact hi2 b h hb2; rw [h]; first | exact h117 | (exfalso; have h9 := (hhm.mp h122).1; omega), fun h1 h2 => by rw [← h1, Nat.add_sub_cancel]; first | exact Or.inl h117 | exact Or.inr (hhm.mp h122).2.1, hl, hP, hD, hS⟩
      refine lv_iload_n hx hb d_M_prove_125 rfl (lv_at hl 3 rfl) ?_
      exact xr_i hx hb hrt hlk rfl hP hD hS (B2, Rk2) [0, 1, 2, 3, 4, 5] (by decide) rfl (pr_ret rfl ha9 (fun b hb => hi2 b hb (by omega)) h117 (fun h => by rw [hhm.mpr h] at h122; cases h122)) d_M_prove_126
    have ej : j = a + 1 := by omega
    subst ej
    refine lv_iload_n hx hb d_M_prove_90 rfl (lv_at hl 2 rfl) ?_
    refine lv_iload_n hx hb d_M_prove_91 rfl (lv_at hl 1 rfl) ?_
    refine xb_cne hx hb 113 (by omega) (by omega) d_M_prove_92 rfl (fun h92 => ?_) (fun h92 => ?_)
    · skip
      refine lv_iconst (v := nI 0) hx hb d_M_prove_113 (by decide) ?_
      have hl : lv_has ls 6 [(0, .ref xM), (1, .int (nI (ct * ln))), (2, .int (nI (a + 1))), (3, .int (nI ((inR (Rw n ln mt tt) (a + 1) (Rw n ln mt tt (a + 1))).toNat)))] := lv_sub hl [0, 1, 2, 3] rfl
      have hP := hP.sub (ws' := [(xM, .inr (6, [.int (nI 0), .int (nI n), .ref xK, .ref xV, .int (nI ln), .ref xC, .ref xH, .int (nI ct), .ref xT, .ref xP, .int (nI lk), .ref xB, .ref xR, .ref xL, .ref xN, .ref xQ, .int (nI rp.toNat)])), (xK, .inl (cI, 24, .inl km)), (xC, .inl (cI, 3, .inl cq)), (xT, .inl (cI, 30, .inl tq)), (xB, .inl (cI, 4326, .inl B2)), (xR, .inl (cI, 721, .inl Rk2))]) [0, 1, 2, 3, 4, 5] rfl
      have hD := hD.sub (ws' := [(xM, .inr (6, [.int (nI 0), .int (nI n), .ref xK, .ref xV, .int (nI ln), .ref xC, .ref xH, .int (nI ct), .ref xT, .ref xP, .int (nI lk), .ref xB, .ref xR, .ref xL, .ref xN, .ref xQ, .int (nI rp.toNat)])), (xK, .inl (cI, 24, .inl km)), (xC, .inl (cI, 3, .inl cq)), (xT, .inl (cI, 30, .inl tq)), (xB, .inl (cI, 4326, .inl B2)), (xR, .inl (cI, 721, .inl Rk2))]) [0, 1, 2, 3, 4, 5] (by decide) rfl
      exact hj false _ _ _ ⟨⟨fun h => (by cases h), fun h => (by first | exact absurd h.1 h92 | exact absurd h.2.1 h101 | (rw [h.2.2] at h106; cases h106))⟩, hl, hP, hD, hS⟩
    refine lv_aload_n hx hb d_M_prove_95 rfl (lv_at hl 0 rfl) ?_
    refine va_get (D := D) (ci := 6) (v := .ref xR) (C := R_M) (T := F_M) (N := 17) hx hb hts in_M hown hK hP 0 rfl rfl 12 (by decide) (hts _ (List.mem_cons_of_mem _ k_595)) (fun _ h9 => h9) rfl d_M_prove_96 ?_
    refine lv_iload_n hx hb d_M_prove_99 rfl (lv_at hl 2 rfl) ?_
    refine xa_iald (v := nI (Rw n ln mt tt (a + 1))) hx hb hK hP 5 0 rfl rfl (by omega) (by decide) ((hw6 _ (by omega)).2) d_M_prove_100 ?_
    refine xb_ne hx hb 113 (by have := hlt (a + 1) (by omega); omega) d_M_prove_101 rfl (fun h101 => ?_) (fun h101 => ?_)
    · skip
      refine lv_iconst (v := nI 0) hx hb d_M_prove_113 (by decide) ?_
      have hl : lv_has ls 6 [(0, .ref xM), (1, .int (nI (ct * ln))), (2, .int (nI (a + 1))), (3, .int (nI ((inR (Rw n ln mt tt) (a + 1) (Rw n ln mt tt (a + 1))).toNat)))] := lv_sub hl [0, 1, 2, 3] rfl
      have hP := hP.sub (ws' := [(xM, .inr (6, [.int (nI 0), .int (nI n), .ref xK, .ref xV, .int (nI ln), .ref xC, .ref xH, .int (nI ct), .ref xT, .ref xP, .int (nI lk), .ref xB, .ref xR, .ref xL, .ref xN, .ref xQ, .int (nI rp.toNat)])), (xK, .inl (cI, 24, .inl km)), (xC, .inl (cI, 3, .inl cq)), (xT, .inl (cI, 30, .inl tq)), (xB, .inl (cI, 4326, .inl B2)), (xR, .inl (cI, 721, .inl Rk2))]) [0, 1, 2, 3, 4, 5] rfl
      have hD := hD.sub (ws' := [(xM, .inr (6, [.int (nI 0), .int (nI n), .ref xK, .ref xV, .int (nI ln), .ref xC, .ref xH, .int (nI ct), .ref xT, .ref xP, .int (nI lk), .ref xB, .ref xR, .ref xL, .ref xN, .ref xQ, .int (nI rp.toNat)])), (xK, .inl (cI, 24, .inl km)), (xC, .inl (cI, 3, .inl cq)), (xT, .inl (cI, 30, .inl tq)), (xB, .inl (cI, 4326, .inl B2)), (xR, .inl (cI, 721, .inl Rk2))]) [0, 1, 2, 3, 4, 5] (by decide) rfl
      exact hj false _ _ _ ⟨⟨fun h => (by cases h), fun h => (by first | exact absurd h.1 h92 | exact absurd h.2.1 h101 | (rw [h.2.2] at h106; cases h106))⟩, hl, hP, hD, hS⟩
    refine lv_iload hx hb d_M_prove_104 (lv_at hl 4 rfl) ?_
    refine xb_neB (x := btw (Rw n ln mt tt) (a + 1)) hx hb 113 d_M_prove_106 rfl (fun h106 => ?_) (fun h106 => ?_)
    · skip
      refine lv_iconst (v := nI 0) hx hb d_M_prove_113 (by decide) ?_
      have hl : lv_has ls 6 [(0, .ref xM), (1, .int (nI (ct * ln))), (2, .int (nI (a + 1))), (3, .int (nI ((inR (Rw n ln mt tt) (a + 1) (Rw n ln mt tt (a + 1))).toNat)))] := lv_sub hl [0, 1, 2, 3] rfl
      have hP := hP.sub (ws' := [(xM, .inr (6, [.int (nI 0), .int (nI n), .ref xK, .ref xV, .int (nI ln), .ref xC, .ref xH, .int (nI ct), .ref xT, .ref xP, .int (nI lk), .ref xB, .ref xR, .ref xL, .ref xN, .ref xQ, .int (nI rp.toNat)])), (xK, .inl (cI, 24, .inl km)), (xC, .inl (cI, 3, .inl cq)), (xT, .inl (cI, 30, .inl tq)), (xB, .inl (cI, 4326, .inl B2)), (xR, .inl (cI, 721, .inl Rk2))]) [0, 1, 2, 3, 4, 5] rfl
      have hD := hD.sub (ws' := [(xM, .inr (6, [.int (nI 0), .int (nI n), .ref xK, .ref xV, .int (nI ln), .ref xC, .ref xH, .int (nI ct), .ref xT, .ref xP, .int (nI lk), .ref xB, .ref xR, .ref xL, .ref xN, .ref xQ, .int (nI rp.toNat)])), (xK, .inl (cI, 24, .inl km)), (xC, .inl (cI, 3, .inl cq)), (xT, .inl (cI, 30, .inl tq)), (xB, .inl (cI, 4326, .inl B2)), (xR, .inl (cI, 721, .inl Rk2))]) [0, 1, 2, 3, 4, 5] (by decide) rfl
      exact hj false _ _ _ ⟨⟨fun h => (by cases h), fun h => (by first | exact absurd h.1 h92 | exact absurd h.2.1 h101 | (rw [h.2.2] at h106; cases h106))⟩, hl, hP, hD, hS⟩
    refine lv_iconst (v := nI 1) hx hb d_M_prove_109 (by decide) ?_
    refine lv_goto (tgt := 114) hx hb d_M_prove_110 rfl ?_
    have hl : lv_has ls 6 [(0, .ref xM), (1, .int (nI (ct * ln))), (2, .int (nI (a + 1))), (3, .int (nI ((inR (Rw n ln mt tt) (a + 1) (Rw n ln mt tt (a + 1))).toNat)))] := lv_sub hl [0, 1, 2, 3] rfl
    have hP := hP.sub (ws' := [(xM, .inr (6, [.int (nI 0), .int (nI n), .ref xK, .ref xV, .int (nI ln), .ref xC, .ref xH, .int (nI ct), .ref xT, .ref xP, .int (nI lk), .ref xB, .ref xR, .ref xL, .ref xN, .ref xQ, .int (nI rp.toNat)])), (xK, .inl (cI, 24, .inl km)), (xC, .inl (cI, 3, .inl cq)), (xT, .inl (cI, 30, .inl tq)), (xB, .inl (cI, 4326, .inl B2)), (xR, .inl (cI, 721, .inl Rk2))]) [0, 1, 2, 3, 4, 5] rfl
    have hD := hD.sub (ws' := [(xM, .inr (6, [.int (nI 0), .int (nI n), .ref xK, .ref xV, .int (nI ln), .ref xC, .ref xH, .int (nI ct), .ref xT, .ref xP, .int (nI lk), .ref xB, .ref xR, .ref xL, .ref xN, .ref xQ, .int (nI rp.toNat)])), (xK, .inl (cI, 24, .inl km)), (xC, .inl (cI, 3, .inl cq)), (xT, .inl (cI, 30, .inl tq)), (xB, .inl (cI, 4326, .inl B2)), (xR, .inl (cI, 721, .inl Rk2))]) [0, 1, 2, 3, 4, 5] (by decide) rfl
    exact hj true _ _ _ ⟨⟨fun _ => ⟨h92, h101, h106⟩, fun _ => rfl⟩, hl, hP, hD, hS⟩
  refine xn_pc (pc2 := 31) rfl ?_
  refine xj_1 (fun (g1 : Bool) ls H locs => (g1 = inR (Rw n ln mt tt) (j + 1) (Rw n ln mt tt (a + 1))) ∧ lv_has ls 6 [(0, .ref xM), (1, .int (nI (ct * ln))), (2, .int (nI (a + 1))), (4, .int (nI ((btw (Rw n ln mt tt) j).toNat))), (5, .int (nI j))] ∧ va_P D vwCl [(xM, .inr (6, [.int (nI 0), .int (nI n), .ref xK, .ref xV, .int (nI ln), .ref xC, .ref xH, .int (nI ct), .ref xT, .ref xP, .int (nI lk), .ref xB, .ref xR, .ref xL, .ref xN, .ref xQ, .int (nI rp.toNat)])), (xK, .inl (cI, 24, .inl km)), (xC, .inl (cI, 3, .inl cq)), (xT, .inl (cI, 30, .inl tq)), (xB, .inl (cI, 4326, .inl B2)), (xR, .inl (cI, 721, .inl Rk2))] H ∧ va_D A [(xM, .inr (6, [.int (nI 0), .int (nI n), .ref xK, .ref xV, .int (nI ln), .ref xC, .ref xH, .int (nI ct), .ref xT, .ref xP, .int (nI lk), .ref xB, .ref xR, .ref xL, .ref xN, .ref xQ, .int (nI rp.toNat)])), (xK, .inl (cI, 24, .inl km)), (xC, .inl (cI, 3, .inl cq)), (xT, .inl (cI, 30, .inl tq)), (xB, .inl (cI, 4326, .inl B2)), (xR, .inl (cI, 721, .inl Rk2))] ∧ va_S A s.heap H locs) 56 (fun (g1 : Bool) => [.int (nI g1.toNat)]) 0 0 (fun g1 ls H locs hI => ?_) (fun hj1 => ?_)
  · obtain ⟨hg1, hl, hP, hD, hS⟩ := hI
    refine lv_istore_n hx hb d_M_prove_56 rfl hl (by decide) rfl (fun ls hl => ?_)
    have hl : lv_has ls 6 [(3, .int (nI g1.toNat)), (0, .ref xM), (1, .int (nI (ct * ln))), (2, .int (nI (a + 1))), (4, .int (nI ((btw (Rw n ln mt tt) j).toNat))), (5, .int (nI j))] := hl
    refine xn_pc (pc2 := 57) rfl ?_
    refine xj_1 (fun (g3 : Bool) ls H locs => (g3 = btw (Rw n ln mt tt) (j + 1)) ∧ lv_has ls 6 [(0, .ref xM), (1, .int (nI (ct * ln))), (2, .int (nI (a + 1))), (3, .int (nI g1.toNat)), (5, .int (nI j))] ∧ va_P D vwCl [(xM, .inr (6, [.int (nI 0), .int (nI n), .ref xK, .ref xV, .int (nI ln), .ref xC, .ref xH, .int (nI ct), .ref xT, .ref xP, .int (nI lk), .ref xB, .ref xR, .ref xL, .ref xN, .ref xQ, .int (nI rp.toNat)])), (xK, .inl (cI, 24, .inl km)), (xC, .inl (cI, 3, .inl cq)), (xT, .inl (cI, 30, .inl tq)), (xB, .inl (cI, 4326, .inl B2)), (xR, .inl (cI, 721, .inl Rk2))] H ∧ va_D A [(xM, .inr (6, [.int (nI 0), .int (nI n), .ref xK, .ref xV, .int (nI ln), .ref xC, .ref xH, .int (nI ct), .ref xT, .ref xP, .int (nI lk), .ref xB, .ref xR, .ref xL, .ref xN, .ref xQ, .int (nI rp.toNat)])), (xK, .inl (cI, 24, .inl km)), (xC, .inl (cI, 3, .inl cq)), (xT, .inl (cI, 30, .inl tq)), (xB, .inl (cI, 4326, .inl B2)), (xR, .inl (cI, 721, .inl Rk2))] ∧ va_S A s.heap H locs) 82 (fun (g3 : Bool) => [.int (nI g3.toNat)]) 0 0 (fun g3 ls H locs hI => ?_) (fun hj2 => ?_)
    · obtain ⟨hg3, hl, hP, hD, hS⟩ := hI
      refine lv_istore hx hb d_M_prove_82 hl (by decide) rfl (fun ls hl => ?_)
      have hl : lv_has ls 6 [(4, .int (nI g3.toNat)), (0, .ref xM), (1, .int (nI (ct * ln))), (2, .int (nI (a + 1))), (3, .int (nI g1.toNat)), (5, .int (nI j))] := hl
      refine lv_iinc (k := 5) (v := nI (j + 1)) hx hb d_M_prove_84 hl rfl (xi_1 _) (by decide) rfl (fun ls hl => ?_)
      have hl : lv_has ls 6 [(5, .int (nI (j + 1))), (4, .int (nI g3.toNat)), (0, .ref xM), (1, .int (nI (ct * ln))), (2, .int (nI (a + 1))), (3, .int (nI g1.toNat))] := hl
      refine lv_goto (tgt := 25) hx hb d_M_prove_87 rfl ?_
      have hl : lv_has ls 6 [(0, .ref xM), (1, .int (nI (ct * ln))), (2, .int (nI (a + 1))), (3, .int (nI ((inR (Rw n ln mt tt) (j + 1) (Rw n ln mt tt (a + 1))).toNat))), (4, .int (nI ((btw (Rw n ln mt tt) (j + 1)).toNat))), (5, .int (nI (j + 1)))] := lv_sub hl [2, 3, 4, 5, 1, 0] (by rw [← hg1, ← hg3] <;> rfl)
      have hP := hP.sub (ws' := [(xM, .inr (6, [.int (nI 0), .int (nI n), .ref xK, .ref xV, .int (nI ln), .ref xC, .ref xH, .int (nI ct), .ref xT, .ref xP, .int (nI lk), .ref xB, .ref xR, .ref xL, .ref xN, .ref xQ, .int (nI rp.toNat)])), (xK, .inl (cI, 24, .inl km)), (xC, .inl (cI, 3, .inl cq)), (xT, .inl (cI, 30, .inl tq)), (xB, .inl (cI, 4326, .inl B2)), (xR, .inl (cI, 721, .inl Rk2))]) [0, 1, 2, 3, 4, 5] rfl
      have hD := hD.sub (ws' := [(xM, .inr (6, [.int (nI 0), .int (nI n), .ref xK, .ref xV, .int (nI ln), .ref xC, .ref xH, .int (nI ct), .ref xT, .ref xP, .int (nI lk), .ref xB, .ref xR, .ref xL, .ref xN, .ref xQ, .int (nI rp.toNat)])), (xK, .inl (cI, 24, .inl km)), (xC, .inl (cI, 3, .inl cq)), (xT, .inl (cI, 30, .inl tq)), (xB, .inl (cI, 4326, .inl B2)), (xR, .inl (cI, 721, .inl Rk2))]) [0, 1, 2, 3, 4, 5] (by decide) rfl
      exact ih1 (j + 1) _ _ _ (by omega) ⟨h28, hl, hP, hD, hS⟩
    refine lv_iload hx hb d_M_prove_57 (lv_at hl 4 rfl) ?_
    refine xb_neB (x := btw (Rw n ln mt tt) j) hx hb 77 d_M_prove_59 rfl (fun h59 => ?_) (fun h59 => ?_)
    · skip
      refine lv_iconst (v := nI 1) hx hb d_M_prove_77 (by decide) ?_
      refine lv_goto (tgt := 82) hx hb d_M_prove_78 rfl ?_
      have hl : lv_has ls 6 [(0, .ref xM), (1, .int (nI (ct * ln))), (2, .int (nI (a + 1))), (3, .int (nI g1.toNat)), (5, .int (nI j))] := lv_sub hl [1, 2, 3, 0, 5] rfl
      have hP := hP.sub (ws' := [(xM, .inr (6, [.int (nI 0), .int (nI n), .ref xK, .ref xV, .int (nI ln), .ref xC, .ref xH, .int (nI ct), .ref xT, .ref xP, .int (nI lk), .ref xB, .ref xR, .ref xL, .ref xN, .ref xQ, .int (nI rp.toNat)])), (xK, .inl (cI, 24, .inl km)), (xC, .inl (cI, 3, .inl cq)), (xT, .inl (cI, 30, .inl tq)), (xB, .inl (cI, 4326, .inl B2)), (xR, .inl (cI, 721, .inl Rk2))]) [0, 1, 2, 3, 4, 5] rfl
      have hD := hD.sub (ws' := [(xM, .inr (6, [.int (nI 0), .int (nI n), .ref xK, .ref xV, .int (nI ln), .ref xC, .ref xH, .int (nI ct), .ref xT, .ref xP, .int (nI lk), .ref xB, .ref xR, .ref xL, .ref xN, .ref xQ, .int (nI rp.toNat)])), (xK, .inl (cI, 24, .inl km)), (xC, .inl (cI, 3, .inl cq)), (xT, .inl (cI, 30, .inl tq)), (xB, .inl (cI, 4326, .inl B2)), (xR, .inl (cI, 721, .inl Rk2))]) [0, 1, 2, 3, 4, 5] (by decide) rfl
      exact hj2 true _ _ _ ⟨by rw [btw_s]; first | exact (b_or1 h59).symm | exact (b_or2 (by rw [blt_t h64, beq_t h74]; rfl)).symm, hl, hP, hD, hS⟩
    refine lv_iload hx hb d_M_prove_62 (lv_at hl 5 rfl) ?_
    refine xb_le hx hb 81 (by omega) d_M_prove_64 rfl (fun h64 => ?_) (fun h64 => ?_)
    · skip
      refine lv_iconst (v := nI 0) hx hb d_M_prove_81 (by decide) ?_
      have hl : lv_has ls 6 [(0, .ref xM), (1, .int (nI (ct * ln))), (2, .int (nI (a + 1))), (3, .int (nI g1.toNat)), (5, .int (nI j))] := lv_sub hl [1, 2, 3, 0, 5] rfl
      have hP := hP.sub (ws' := [(xM, .inr (6, [.int (nI 0), .int (nI n), .ref xK, .ref xV, .int (nI ln), .ref xC, .ref xH, .int (nI ct), .ref xT, .ref xP, .int (nI lk), .ref xB, .ref xR, .ref xL, .ref xN, .ref xQ, .int (nI rp.toNat)])), (xK, .inl (cI, 24, .inl km)), (xC, .inl (cI, 3, .inl cq)), (xT, .inl (cI, 30, .inl tq)), (xB, .inl (cI, 4326, .inl B2)), (xR, .inl (cI, 721, .inl Rk2))]) [0, 1, 2, 3, 4, 5] rfl
      have hD := hD.sub (ws' := [(xM, .inr (6, [.int (nI 0), .int (nI n), .ref xK, .ref xV, .int (nI ln), .ref xC, .ref xH, .int (nI ct), .ref xT, .ref xP, .int (nI lk), .ref xB, .ref xR, .ref xL, .ref xN, .ref xQ, .int (nI rp.toNat)])), (xK, .inl (cI, 24, .inl km)), (xC, .inl (cI, 3, .inl cq)), (xT, .inl (cI, 30, .inl tq)), (xB, .inl (cI, 4326, .inl B2)), (xR, .inl (cI, 721, .inl Rk2))]) [0, 1, 2, 3, 4, 5] (by decide) rfl
      exact hj2 false _ _ _ ⟨by rw [btw_s]; first | exact (b_or0 h59 (by rw [h64]; rfl)).symm | exact (b_or0 h59 (by rw [xq_ne h74, Bool.and_false])).symm, hl, hP, hD, hS⟩
    refine lv_aload_n hx hb d_M_prove_67 rfl (lv_at hl 1 rfl) ?_
    refine va_get (D := D) (ci := 6) (v := .ref xR) (C := R_M) (T := F_M) (N := 17) hx hb hts in_M hown hK hP 0 rfl rfl 12 (by decide) (hts _ (List.mem_cons_of_mem _ k_595)) (fun _ h9 => h9) rfl d_M_prove_68 ?_
    refine lv_iload hx hb d_M_prove_71 (lv_at hl 5 rfl) ?_
    refine xa_iald (v := nI (Rw n ln mt tt j)) hx hb hK hP 5 0 rfl rfl (by omega) (by decide) ((hw6 j (by omega)).2) d_M_prove_73 ?_
    refine xb_ne hx hb 81 (by have := hlt j (by omega); omega) d_M_prove_74 rfl (fun h74 => ?_) (fun h74 => ?_)
    · skip
      refine lv_iconst (v := nI 0) hx hb d_M_prove_81 (by decide) ?_
      have hl : lv_has ls 6 [(0, .ref xM), (1, .int (nI (ct * ln))), (2, .int (nI (a + 1))), (3, .int (nI g1.toNat)), (5, .int (nI j))] := lv_sub hl [1, 2, 3, 0, 5] rfl
      have hP := hP.sub (ws' := [(xM, .inr (6, [.int (nI 0), .int (nI n), .ref xK, .ref xV, .int (nI ln), .ref xC, .ref xH, .int (nI ct), .ref xT, .ref xP, .int (nI lk), .ref xB, .ref xR, .ref xL, .ref xN, .ref xQ, .int (nI rp.toNat)])), (xK, .inl (cI, 24, .inl km)), (xC, .inl (cI, 3, .inl cq)), (xT, .inl (cI, 30, .inl tq)), (xB, .inl (cI, 4326, .inl B2)), (xR, .inl (cI, 721, .inl Rk2))]) [0, 1, 2, 3, 4, 5] rfl
      have hD := hD.sub (ws' := [(xM, .inr (6, [.int (nI 0), .int (nI n), .ref xK, .ref xV, .int (nI ln), .ref xC, .ref xH, .int (nI ct), .ref xT, .ref xP, .int (nI lk), .ref xB, .ref xR, .ref xL, .ref xN, .ref xQ, .int (nI rp.toNat)])), (xK, .inl (cI, 24, .inl km)), (xC, .inl (cI, 3, .inl cq)), (xT, .inl (cI, 30, .inl tq)), (xB, .inl (cI, 4326, .inl B2)), (xR, .inl (cI, 721, .inl Rk2))]) [0, 1, 2, 3, 4, 5] (by decide) rfl
      exact hj2 false _ _ _ ⟨by rw [btw_s]; first | exact (b_or0 h59 (by rw [h64]; rfl)).symm | exact (b_or0 h59 (by rw [xq_ne h74, Bool.and_false])).symm, hl, hP, hD, hS⟩
    refine lv_iconst (v := nI 1) hx hb d_M_prove_77 (by decide) ?_
    refine lv_goto (tgt := 82) hx hb d_M_prove_78 rfl ?_
    have hl : lv_has ls 6 [(0, .ref xM), (1, .int (nI (ct * ln))), (2, .int (nI (a + 1))), (3, .int (nI g1.toNat)), (5, .int (nI j))] := lv_sub hl [1, 2, 3, 0, 5] rfl
    have hP := hP.sub (ws' := [(xM, .inr (6, [.int (nI 0), .int (nI n), .ref xK, .ref xV, .int (nI ln), .ref xC, .ref xH, .int (nI ct), .ref xT, .ref xP, .int (nI lk), .ref xB, .ref xR, .ref xL, .ref xN, .ref xQ, .int (nI rp.toNat)])), (xK, .inl (cI, 24, .inl km)), (xC, .inl (cI, 3, .inl cq)), (xT, .inl (cI, 30, .inl tq)), (xB, .inl (cI, 4326, .inl B2)), (xR, .inl (cI, 721, .inl Rk2))]) [0, 1, 2, 3, 4, 5] rfl
    have hD := hD.sub (ws' := [(xM, .inr (6, [.int (nI 0), .int (nI n), .ref xK, .ref xV, .int (nI ln), .ref xC, .ref xH, .int (nI ct), .ref xT, .ref xP, .int (nI lk), .ref xB, .ref xR, .ref xL, .ref xN, .ref xQ, .int (nI rp.toNat)])), (xK, .inl (cI, 24, .inl km)), (xC, .inl (cI, 3, .inl cq)), (xT, .inl (cI, 30, .inl tq)), (xB, .inl (cI, 4326, .inl B2)), (xR, .inl (cI, 721, .inl Rk2))]) [0, 1, 2, 3, 4, 5] (by decide) rfl
    exact hj2 true _ _ _ ⟨by rw [btw_s]; first | exact (b_or1 h59).symm | exact (b_or2 (by rw [blt_t h64, beq_t h74]; rfl)).symm, hl, hP, hD, hS⟩
  refine lv_iload_n hx hb d_M_prove_31 rfl (lv_at hl 3 rfl) ?_
  refine xb_neB (x := inR (Rw n ln mt tt) j (Rw n ln mt tt (a + 1))) hx hb 51 d_M_prove_32 rfl (fun h32 => ?_) (fun h32 => ?_)
  · skip
    refine lv_iconst (v := nI 1) hx hb d_M_prove_51 (by decide) ?_
    refine lv_goto (tgt := 56) hx hb d_M_prove_52 rfl ?_
    have hl : lv_has ls 6 [(0, .ref xM), (1, .int (nI (ct * ln))), (2, .int (nI (a + 1))), (4, .int (nI ((btw (Rw n ln mt tt) j).toNat))), (5, .int (nI j))] := lv_sub hl [0, 1, 2, 4, 5] rfl
    have hP := hP.sub (ws' := [(xM, .inr (6, [.int (nI 0), .int (nI n), .ref xK, .ref xV, .int (nI ln), .ref xC, .ref xH, .int (nI ct), .ref xT, .ref xP, .int (nI lk), .ref xB, .ref xR, .ref xL, .ref xN, .ref xQ, .int (nI rp.toNat)])), (xK, .inl (cI, 24, .inl km)), (xC, .inl (cI, 3, .inl cq)), (xT, .inl (cI, 30, .inl tq)), (xB, .inl (cI, 4326, .inl B2)), (xR, .inl (cI, 721, .inl Rk2))]) [0, 1, 2, 3, 4, 5] rfl
    have hD := hD.sub (ws' := [(xM, .inr (6, [.int (nI 0), .int (nI n), .ref xK, .ref xV, .int (nI ln), .ref xC, .ref xH, .int (nI ct), .ref xT, .ref xP, .int (nI lk), .ref xB, .ref xR, .ref xL, .ref xN, .ref xQ, .int (nI rp.toNat)])), (xK, .inl (cI, 24, .inl km)), (xC, .inl (cI, 3, .inl cq)), (xT, .inl (cI, 30, .inl tq)), (xB, .inl (cI, 4326, .inl B2)), (xR, .inl (cI, 721, .inl Rk2))]) [0, 1, 2, 3, 4, 5] (by decide) rfl
    exact hj1 true _ _ _ ⟨by rw [inR_s]; first | exact (b_or1 h32).symm | exact (b_or2 (beq_t h48)).symm, hl, hP, hD, hS⟩
  refine lv_aload_n hx hb d_M_prove_35 rfl (lv_at hl 0 rfl) ?_
  refine va_get (D := D) (ci := 6) (v := .ref xR) (C := R_M) (T := F_M) (N := 17) hx hb hts in_M hown hK hP 0 rfl rfl 12 (by decide) (hts _ (List.mem_cons_of_mem _ k_595)) (fun _ h9 => h9) rfl d_M_prove_36 ?_
  refine lv_iload hx hb d_M_prove_39 (lv_at hl 5 rfl) ?_
  refine xa_iald (v := nI (Rw n ln mt tt j)) hx hb hK hP 5 0 rfl rfl (by omega) (by decide) ((hw6 j (by omega)).2) d_M_prove_41 ?_
  refine lv_aload_n hx hb d_M_prove_42 rfl (lv_at hl 0 rfl) ?_
  refine va_get (D := D) (ci := 6) (v := .ref xR) (C := R_M) (T := F_M) (N := 17) hx hb hts in_M hown hK hP 0 rfl rfl 12 (by decide) (hts _ (List.mem_cons_of_mem _ k_595)) (fun _ h9 => h9) rfl d_M_prove_43 ?_
  refine lv_iload_n hx hb d_M_prove_46 rfl (lv_at hl 2 rfl) ?_
  refine xa_iald (v := nI (Rw n ln mt tt (a + 1))) hx hb hK hP 5 0 rfl rfl (by omega) (by decide) ((hw6 _ (by omega)).2) d_M_prove_47 ?_
  refine xb_cne hx hb 55 (by have := hlt j (by omega); omega) (by have := hlt (a + 1) (by omega); omega) d_M_prove_48 rfl (fun h48 => ?_) (fun h48 => ?_)
  · skip
    refine lv_iconst (v := nI 0) hx hb d_M_prove_55 (by decide) ?_
    have hl : lv_has ls 6 [(0, .ref xM), (1, .int (nI (ct * ln))), (2, .int (nI (a + 1))), (4, .int (nI ((btw (Rw n ln mt tt) j).toNat))), (5, .int (nI j))] := lv_sub hl [0, 1, 2, 4, 5] rfl
    have hP := hP.sub (ws' := [(xM, .inr (6, [.int (nI 0), .int (nI n), .ref xK, .ref xV, .int (nI ln), .ref xC, .ref xH, .int (nI ct), .ref xT, .ref xP, .int (nI lk), .ref xB, .ref xR, .ref xL, .ref xN, .ref xQ, .int (nI rp.toNat)])), (xK, .inl (cI, 24, .inl km)), (xC, .inl (cI, 3, .inl cq)), (xT, .inl (cI, 30, .inl tq)), (xB, .inl (cI, 4326, .inl B2)), (xR, .inl (cI, 721, .inl Rk2))]) [0, 1, 2, 3, 4, 5] rfl
    have hD := hD.sub (ws' := [(xM, .inr (6, [.int (nI 0), .int (nI n), .ref xK, .ref xV, .int (nI ln), .ref xC, .ref xH, .int (nI ct), .ref xT, .ref xP, .int (nI lk), .ref xB, .ref xR, .ref xL, .ref xN, .ref xQ, .int (nI rp.toNat)])), (xK, .inl (cI, 24, .inl km)), (xC, .inl (cI, 3, .inl cq)), (xT, .inl (cI, 30, .inl tq)), (xB, .inl (cI, 4326, .inl B2)), (xR, .inl (cI, 721, .inl Rk2))]) [0, 1, 2, 3, 4, 5] (by decide) rfl
    exact hj1 false _ _ _ ⟨by rw [inR_s]; exact (b_or0 h32 (xq_ne h48)).symm, hl, hP, hD, hS⟩
  refine lv_iconst (v := nI 1) hx hb d_M_prove_51 (by decide) ?_
  refine lv_goto (tgt := 56) hx hb d_M_prove_52 rfl ?_
  have hl : lv_has ls 6 [(0, .ref xM), (1, .int (nI (ct * ln))), (2, .int (nI (a + 1))), (4, .int (nI ((btw (Rw n ln mt tt) j).toNat))), (5, .int (nI j))] := lv_sub hl [0, 1, 2, 4, 5] rfl
  have hP := hP.sub (ws' := [(xM, .inr (6, [.int (nI 0), .int (nI n), .ref xK, .ref xV, .int (nI ln), .ref xC, .ref xH, .int (nI ct), .ref xT, .ref xP, .int (nI lk), .ref xB, .ref xR, .ref xL, .ref xN, .ref xQ, .int (nI rp.toNat)])), (xK, .inl (cI, 24, .inl km)), (xC, .inl (cI, 3, .inl cq)), (xT, .inl (cI, 30, .inl tq)), (xB, .inl (cI, 4326, .inl B2)), (xR, .inl (cI, 721, .inl Rk2))]) [0, 1, 2, 3, 4, 5] rfl
  have hD := hD.sub (ws' := [(xM, .inr (6, [.int (nI 0), .int (nI n), .ref xK, .ref xV, .int (nI ln), .ref xC, .ref xH, .int (nI ct), .ref xT, .ref xP, .int (nI lk), .ref xB, .ref xR, .ref xL, .ref xN, .ref xQ, .int (nI rp.toNat)])), (xK, .inl (cI, 24, .inl km)), (xC, .inl (cI, 3, .inl cq)), (xT, .inl (cI, 30, .inl tq)), (xB, .inl (cI, 4326, .inl B2)), (xR, .inl (cI, 721, .inl Rk2))]) [0, 1, 2, 3, 4, 5] (by decide) rfl
  exact hj1 true _ _ _ ⟨by rw [inR_s]; first | exact (b_or1 h32).symm | exact (b_or2 (beq_t h48)).symm, hl, hP, hD, hS⟩
end
