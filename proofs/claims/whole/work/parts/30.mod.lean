section
variable {l : Launch} {D : va_G} {cI cZ cJ cG : ClassId} {tF : Nat}
set_option maxHeartbeats 4000000 in
set_option maxRecDepth 100000 in
theorem c_M_isGood (xM : Nat) (cd : Int32) (n : Nat) (xK : Nat) (xV : Nat) (ln : Nat) (xC : Nat) (xH : Nat) (ct : Nat) (xT : Nat) (xP : Nat) (lk : Nat) (xB : Nat) (xR : Nat) (xL : Nat) (xN : Nat) (xQ : Nat) (rp : Bool) (x : Int32) (hn : nb n) : CtI l y_M_isGood (w_M_isGood) ({ frames := 0, cells := 0, slots := 0, locals := 0 }) D vwCl (TYs cI cZ cJ cG) (gG tF) [.ref xM, .int x] [(xM, .inr (6, [.int cd, .int (nI n), .ref xK, .ref xV, .int (nI ln), .ref xC, .ref xH, .int (nI ct), .ref xT, .ref xP, .int (nI lk), .ref xB, .ref xR, .ref xL, .ref xN, .ref xQ, .int (nI rp.toNat)]))] 0 0 (fun _ : Unit => [(xM, .inr (6, [.int cd, .int (nI n), .ref xK, .ref xV, .int (nI ln), .ref xC, .ref xH, .int (nI ct), .ref xT, .ref xP, .int (nI lk), .ref xB, .ref xR, .ref xL, .ref xN, .ref xQ, .int (nI rp.toNat)]))]) (fun (r : Int32) (_ : Unit) => r = nI ((okm n x).toNat)) := by
  refine CtI.of (cc := b_M_isGood) (maxL := 5) (ret := (some .boolean)) (by decide) rfl (Nat.le_of_ble_eq_true rfl) ?_
  intro p e s m args below meth c A ls hF hA hP hK hD hg hS hl
  obtain ⟨hx, hb, hrt, hlk, hml, hown, hts, hnm⟩ := hF
  have hown : s.vm.findClass R_M = some m.cls := hown
  have hl : lv_has ls 5 [(0, .ref xM), (1, .int x)] := hl
  have hn4 : 4 ≤ n := hn.1
  have hn6 : n ≤ 6 := hn.2
  have hfa : fa n ≤ 720 := fa_le hn
  refine lv_iload_n hx hb d_M_isGood_0 rfl (lv_at hl 1 rfl) ?_
  refine lv_if_lt (tgt := 14) hx hb d_M_isGood_1 rfl (fun h1 => ?_) (fun h1 => ?_)
  · skip
    refine lv_iconst (v := nI 0) hx hb d_M_isGood_14 (by decide) ?_
    exact xr_i hx hb hrt hlk rfl hP hD hS () [0] (by decide) rfl (by unfold okm; first | rw [if_pos h1]; rfl | rw [if_neg h1, if_pos (Int32.not_lt.mp h11)]; rfl) d_M_isGood_15
  refine lv_iload_n hx hb d_M_isGood_4 rfl (lv_at hl 1 rfl) ?_
  refine lv_iconst (v := nI 1) hx hb d_M_isGood_5 (by decide) ?_
  refine lv_aload_n hx hb d_M_isGood_6 rfl (lv_at hl 0 rfl) ?_
  refine va_get (D := D) (ci := 6) (v := .int (nI n)) (C := R_M) (T := F_M) (N := 17) hx hb hts in_M hown hK hP 0 rfl rfl 1 (by decide) (hts _ (List.mem_cons_of_mem _ k_584)) (fun _ h9 => h9) rfl d_M_isGood_7 ?_
  refine lv_ishl hx hb d_M_isGood_10 ?_
  refine xn_i (y := nI (2 ^ n)) (xs_shl (by omega)) ?_
  refine lv_icmp_lt (tgt := 16) hx hb d_M_isGood_11 rfl (fun h11 => ?_) (fun h11 => ?_)
  · skip
    obtain ⟨w, hw, rfl⟩ := okm_of hn h1 (Int32.not_le.mpr h11)
    have hw6 := (two_n hn).1
    refine lv_iconst (v := nI 1) hx hb d_M_isGood_16 (by decide) ?_
    refine lv_istore_n hx hb d_M_isGood_17 rfl hl (by decide) rfl (fun ls hl => ?_)
    have hl : lv_has ls 5 [(2, .int (nI 1)), (0, .ref xM), (1, .int (nI w))] := hl
    refine lv_iconst (v := nI 0) hx hb d_M_isGood_18 (by decide) ?_
    refine lv_istore_n hx hb d_M_isGood_19 rfl hl (by decide) rfl (fun ls hl => ?_)
    have hl : lv_has ls 5 [(3, .int (nI 0)), (2, .int (nI 1)), (0, .ref xM), (1, .int (nI w))] := hl
    refine lv_iconst (v := nI 0) hx hb d_M_isGood_20 (by decide) ?_
    refine lv_istore hx hb d_M_isGood_21 hl (by decide) rfl (fun ls hl => ?_)
    have hl : lv_has ls 5 [(4, .int (nI 0)), (3, .int (nI 0)), (2, .int (nI 1)), (0, .ref xM), (1, .int (nI w))] := hl
    have hl : lv_has ls 5 [(0, .ref xM), (1, .int (nI w)), (2, .int (nI ((gfl w 0).toNat))), (3, .int (nI (str w 0))), (4, .int (nI 0))] := lv_sub hl [3, 4, 2, 1, 0] rfl
    have hP := hP.sub (ws' := [(xM, .inr (6, [.int cd, .int (nI n), .ref xK, .ref xV, .int (nI ln), .ref xC, .ref xH, .int (nI ct), .ref xT, .ref xP, .int (nI lk), .ref xB, .ref xR, .ref xL, .ref xN, .ref xQ, .int (nI rp.toNat)]))]) [0] rfl
    have hD := hD.sub (ws' := [(xM, .inr (6, [.int cd, .int (nI n), .ref xK, .ref xV, .int (nI ln), .ref xC, .ref xH, .int (nI ct), .ref xT, .ref xP, .int (nI lk), .ref xB, .ref xR, .ref xL, .ref xN, .ref xQ, .int (nI rp.toNat)]))]) [0] (by decide) rfl
    refine xn_pc (pc2 := 23) rfl ?_
    refine xl_1 (fun (i : Nat) ls H locs => (i ≤ n) ∧ lv_has ls 5 [(0, .ref xM), (1, .int (nI w)), (2, .int (nI ((gfl w i).toNat))), (3, .int (nI (str w i))), (4, .int (nI i))] ∧ va_P D vwCl [(xM, .inr (6, [.int cd, .int (nI n), .ref xK, .ref xV, .int (nI ln), .ref xC, .ref xH, .int (nI ct), .ref xT, .ref xP, .int (nI lk), .ref xB, .ref xR, .ref xL, .ref xN, .ref xQ, .int (nI rp.toNat)]))] H ∧ va_D A [(xM, .inr (6, [.int cd, .int (nI n), .ref xK, .ref xV, .int (nI ln), .ref xC, .ref xH, .int (nI ct), .ref xT, .ref xP, .int (nI lk), .ref xB, .ref xR, .ref xL, .ref xN, .ref xQ, .int (nI rp.toNat)]))] ∧ va_S A s.heap H locs) (fun (i : Nat) => n - i) (fun i ls H locs hI ih => ?_) 0 ⟨Nat.zero_le _, hl, hP, hD, hS⟩
    obtain ⟨hi1, hl, hP, hD, hS⟩ := hI
    refine lv_iload hx hb d_M_isGood_23 (lv_at hl 4 rfl) ?_
    refine lv_aload_n hx hb d_M_isGood_25 rfl (lv_at hl 0 rfl) ?_
    refine va_get (D := D) (ci := 6) (v := .int (nI n)) (C := R_M) (T := F_M) (N := 17) hx hb hts in_M hown hK hP 0 rfl rfl 1 (by decide) (hts _ (List.mem_cons_of_mem _ k_584)) (fun _ h9 => h9) rfl d_M_isGood_26 ?_
    refine xb_cgt hx hb 82 (by omega) (by omega) d_M_isGood_29 rfl (fun h29 => ?_) (fun h29 => ?_)
    · skip
      exact absurd h29 (by omega)
    refine lv_iload hx hb d_M_isGood_32 (lv_at hl 4 rfl) ?_
    refine lv_aload_n hx hb d_M_isGood_34 rfl (lv_at hl 0 rfl) ?_
    refine va_get (D := D) (ci := 6) (v := .int (nI n)) (C := R_M) (T := F_M) (N := 17) hx hb hts in_M hown hK hP 0 rfl rfl 1 (by decide) (hts _ (List.mem_cons_of_mem _ k_584)) (fun _ h9 => h9) rfl d_M_isGood_35 ?_
    refine xb_ceq hx hb 51 (by omega) (by omega) d_M_isGood_38 rfl (fun h38 => ?_) (fun h38 => ?_)
    · skip
      refine lv_iload_n hx hb d_M_isGood_51 rfl (lv_at hl 2 rfl) ?_
      refine xb_eqB (x := gfl w i) hx hb 65 d_M_isGood_52 rfl (fun h52 => ?_) (fun h52 => ?_)
      · skip
        refine lv_iconst (v := nI 0) hx hb d_M_isGood_65 (by decide) ?_
        refine lv_istore_n hx hb d_M_isGood_66 rfl hl (by decide) rfl (fun ls hl => ?_)
        have hl : lv_has ls 5 [(2, .int (nI 0)), (0, .ref xM), (1, .int (nI w)), (3, .int (nI (str w i))), (4, .int (nI i))] := hl
        refine lv_iconst (v := nI 0) hx hb d_M_isGood_67 (by decide) ?_
        refine lv_istore_n hx hb d_M_isGood_68 rfl hl (by decide) rfl (fun ls hl => ?_)
        have hl : lv_has ls 5 [(3, .int (nI 0)), (2, .int (nI 0)), (0, .ref xM), (1, .int (nI w)), (4, .int (nI i))] := hl
        refine lv_goto (tgt := 76) hx hb d_M_isGood_69 rfl ?_
        refine lv_iinc (k := 4) (v := nI (i + 1)) hx hb d_M_isGood_76 hl rfl (xi_1 _) (by decide) rfl (fun ls hl => ?_)
        have hl : lv_has ls 5 [(4, .int (nI (i + 1))), (3, .int (nI 0)), (2, .int (nI 0)), (0, .ref xM), (1, .int (nI w))] := hl
        refine lv_goto (tgt := 23) hx hb d_M_isGood_79 rfl ?_
        refine lv_iload hx hb d_M_isGood_23 (lv_at hl 0 rfl) ?_
        refine lv_aload_n hx hb d_M_isGood_25 rfl (lv_at hl 3 rfl) ?_
        refine va_get (D := D) (ci := 6) (v := .int (nI n)) (C := R_M) (T := F_M) (N := 17) hx hb hts in_M hown hK hP 0 rfl rfl 1 (by decide) (hts _ (List.mem_cons_of_mem _ k_584)) (fun _ h9 => h9) rfl d_M_isGood_26 ?_
        refine xb_cgt hx hb 82 (by omega) (by omega) d_M_isGood_29 rfl (fun h29 => ?_) (fun h29 => ?_)
        · skip
          refine lv_iload_n hx hb d_M_isGood_82 rfl (lv_at hl 2 rfl) ?_
          exact xr_i hx hb hrt hlk rfl hP hD hS () [0] (by decide) rfl (by rw [okm_nI hn hw, ← gfl_n hn hw, ← h38]; exact xp_f (by first | (rw [xg_b h52]; decide) | (rw [xg_c h58]; decide))) d_M_isGood_83
        exact absurd h29 (by omega)
      refine lv_iload_n hx hb d_M_isGood_55 rfl (lv_at hl 3 rfl) ?_
      refine lv_iconst (v := nI 2) hx hb d_M_isGood_56 (by decide) ?_
      refine lv_irem hx hb d_M_isGood_57 (by decide) ?_
      refine xn_i (y := nI ((str w i) % 2)) (pk_rem (by have := str_le w i; omega) (by decide) (by decide)) ?_
      refine xb_ne hx hb 65 (by omega) d_M_isGood_58 rfl (fun h58 => ?_) (fun h58 => ?_)
      · skip
        refine lv_iconst (v := nI 0) hx hb d_M_isGood_65 (by decide) ?_
        refine lv_istore_n hx hb d_M_isGood_66 rfl hl (by decide) rfl (fun ls hl => ?_)
        have hl : lv_has ls 5 [(2, .int (nI 0)), (0, .ref xM), (1, .int (nI w)), (3, .int (nI (str w i))), (4, .int (nI i))] := hl
        refine lv_iconst (v := nI 0) hx hb d_M_isGood_67 (by decide) ?_
        refine lv_istore_n hx hb d_M_isGood_68 rfl hl (by decide) rfl (fun ls hl => ?_)
        have hl : lv_has ls 5 [(3, .int (nI 0)), (2, .int (nI 0)), (0, .ref xM), (1, .int (nI w)), (4, .int (nI i))] := hl
        refine lv_goto (tgt := 76) hx hb d_M_isGood_69 rfl ?_
        refine lv_iinc (k := 4) (v := nI (i + 1)) hx hb d_M_isGood_76 hl rfl (xi_1 _) (by decide) rfl (fun ls hl => ?_)
        have hl : lv_has ls 5 [(4, .int (nI (i + 1))), (3, .int (nI 0)), (2, .int (nI 0)), (0, .ref xM), (1, .int (nI w))] := hl
        refine lv_goto (tgt := 23) hx hb d_M_isGood_79 rfl ?_
        refine lv_iload hx hb d_M_isGood_23 (lv_at hl 0 rfl) ?_
        refine lv_aload_n hx hb d_M_isGood_25 rfl (lv_at hl 3 rfl) ?_
        refine va_get (D := D) (ci := 6) (v := .int (nI n)) (C := R_M) (T := F_M) (N := 17) hx hb hts in_M hown hK hP 0 rfl rfl 1 (by decide) (hts _ (List.mem_cons_of_mem _ k_584)) (fun _ h9 => h9) rfl d_M_isGood_26 ?_
        refine xb_cgt hx hb 82 (by omega) (by omega) d_M_isGood_29 rfl (fun h29 => ?_) (fun h29 => ?_)
        · skip
          refine lv_iload_n hx hb d_M_isGood_82 rfl (lv_at hl 2 rfl) ?_
          exact xr_i hx hb hrt hlk rfl hP hD hS () [0] (by decide) rfl (by rw [okm_nI hn hw, ← gfl_n hn hw, ← h38]; exact xp_f (by first | (rw [xg_b h52]; decide) | (rw [xg_c h58]; decide))) d_M_isGood_83
        exact absurd h29 (by omega)
      refine lv_iconst (v := nI 1) hx hb d_M_isGood_61 (by decide) ?_
      refine lv_goto (tgt := 66) hx hb d_M_isGood_62 rfl ?_
      refine lv_istore_n hx hb d_M_isGood_66 rfl hl (by decide) rfl (fun ls hl => ?_)
      have hl : lv_has ls 5 [(2, .int (nI 1)), (0, .ref xM), (1, .int (nI w)), (3, .int (nI (str w i))), (4, .int (nI i))] := hl
      refine lv_iconst (v := nI 0) hx hb d_M_isGood_67 (by decide) ?_
      refine lv_istore_n hx hb d_M_isGood_68 rfl hl (by decide) rfl (fun ls hl => ?_)
      have hl : lv_has ls 5 [(3, .int (nI 0)), (2, .int (nI 1)), (0, .ref xM), (1, .int (nI w)), (4, .int (nI i))] := hl
      refine lv_goto (tgt := 76) hx hb d_M_isGood_69 rfl ?_
      refine lv_iinc (k := 4) (v := nI (i + 1)) hx hb d_M_isGood_76 hl rfl (xi_1 _) (by decide) rfl (fun ls hl => ?_)
      have hl : lv_has ls 5 [(4, .int (nI (i + 1))), (3, .int (nI 0)), (2, .int (nI 1)), (0, .ref xM), (1, .int (nI w))] := hl
      refine lv_goto (tgt := 23) hx hb d_M_isGood_79 rfl ?_
      refine lv_iload hx hb d_M_isGood_23 (lv_at hl 0 rfl) ?_
      refine lv_aload_n hx hb d_M_isGood_25 rfl (lv_at hl 3 rfl) ?_
      refine va_get (D := D) (ci := 6) (v := .int (nI n)) (C := R_M) (T := F_M) (N := 17) hx hb hts in_M hown hK hP 0 rfl rfl 1 (by decide) (hts _ (List.mem_cons_of_mem _ k_584)) (fun _ h9 => h9) rfl d_M_isGood_26 ?_
      refine xb_cgt hx hb 82 (by omega) (by omega) d_M_isGood_29 rfl (fun h29 => ?_) (fun h29 => ?_)
      · skip
        refine lv_iload_n hx hb d_M_isGood_82 rfl (lv_at hl 2 rfl) ?_
        exact xr_i hx hb hrt hlk rfl hP hD hS () [0] (by decide) rfl (by rw [okm_nI hn hw, ← gfl_n hn hw, ← h38]; exact xp_t (xg_a h52 h58)) d_M_isGood_83
      exact absurd h29 (by omega)
    refine lv_iload_n hx hb d_M_isGood_41 rfl (lv_at hl 1 rfl) ?_
    refine lv_iload hx hb d_M_isGood_42 (lv_at hl 4 rfl) ?_
    refine lv_ishr hx hb d_M_isGood_44 ?_
    refine lv_iconst (v := nI 1) hx hb d_M_isGood_45 (by decide) ?_
    refine lv_iand hx hb d_M_isGood_46 ?_
    refine xn_i (y := nI ((w >>> i) % 2)) (xs_mb (by omega) (by omega)) ?_
    refine lv_iconst (v := nI 1) hx hb d_M_isGood_47 (by decide) ?_
    refine xb_cne hx hb 72 (by omega) (by omega) d_M_isGood_48 rfl (fun h48 => ?_) (fun h48 => ?_)
    · skip
      refine lv_iload_n hx hb d_M_isGood_72 rfl (lv_at hl 3 rfl) ?_
      refine lv_iconst (v := nI 1) hx hb d_M_isGood_73 (by decide) ?_
      refine lv_iadd hx hb d_M_isGood_74 ?_
      refine xn_i (y := nI ((str w i) + 1)) (nI_add _ _) ?_
      refine lv_istore_n hx hb d_M_isGood_75 rfl hl (by decide) rfl (fun ls hl => ?_)
      have hl : lv_has ls 5 [(3, .int (nI ((str w i) + 1))), (0, .ref xM), (1, .int (nI w)), (2, .int (nI ((gfl w i).toNat))), (4, .int (nI i))] := hl
      refine lv_iinc (k := 4) (v := nI (i + 1)) hx hb d_M_isGood_76 hl rfl (xi_1 _) (by decide) rfl (fun ls hl => ?_)
      have hl : lv_has ls 5 [(4, .int (nI (i + 1))), (3, .int (nI ((str w i) + 1))), (0, .ref xM), (1, .int (nI w)), (2, .int (nI ((gfl w i).toNat)))] := hl
      refine lv_goto (tgt := 23) hx hb d_M_isGood_79 rfl ?_
      have eg : gfl w (i + 1) = gfl w i := by rw [gfl_s, if_neg h48]
      have es : str w (i + 1) = str w i + 1 := by rw [str_s, if_neg h48]
      have hl : lv_has ls 5 [(0, .ref xM), (1, .int (nI w)), (2, .int (nI ((gfl w (i + 1)).toNat))), (3, .int (nI (str w (i + 1)))), (4, .int (nI (i + 1)))] := lv_sub hl [2, 3, 4, 1, 0] (by rw [eg, es] <;> rfl)
      have hP := hP.sub (ws' := [(xM, .inr (6, [.int cd, .int (nI n), .ref xK, .ref xV, .int (nI ln), .ref xC, .ref xH, .int (nI ct), .ref xT, .ref xP, .int (nI lk), .ref xB, .ref xR, .ref xL, .ref xN, .ref xQ, .int (nI rp.toNat)]))]) [0] rfl
      have hD := hD.sub (ws' := [(xM, .inr (6, [.int cd, .int (nI n), .ref xK, .ref xV, .int (nI ln), .ref xC, .ref xH, .int (nI ct), .ref xT, .ref xP, .int (nI lk), .ref xB, .ref xR, .ref xL, .ref xN, .ref xQ, .int (nI rp.toNat)]))]) [0] (by decide) rfl
      exact ih (i + 1) _ _ _ (by omega) ⟨by omega, hl, hP, hD, hS⟩
    refine lv_iload_n hx hb d_M_isGood_51 rfl (lv_at hl 2 rfl) ?_
    refine xb_eqB (x := gfl w i) hx hb 65 d_M_isGood_52 rfl (fun h52 => ?_) (fun h52 => ?_)
    · skip
      refine lv_iconst (v := nI 0) hx hb d_M_isGood_65 (by decide) ?_
      refine lv_istore_n hx hb d_M_isGood_66 rfl hl (by decide) rfl (fun ls hl => ?_)
      have hl : lv_has ls 5 [(2, .int (nI 0)), (0, .ref xM), (1, .int (nI w)), (3, .int (nI (str w i))), (4, .int (nI i))] := hl
      refine lv_iconst (v := nI 0) hx hb d_M_isGood_67 (by decide) ?_
      refine lv_istore_n hx hb d_M_isGood_68 rfl hl (by decide) rfl (fun ls hl => ?_)
      have hl : lv_has ls 5 [(3, .int (nI 0)), (2, .int (nI 0)), (0, .ref xM), (1, .int (nI w)), (4, .int (nI i))] := hl
      refine lv_goto (tgt := 76) hx hb d_M_isGood_69 rfl ?_
      refine lv_iinc (k := 4) (v := nI (i + 1)) hx hb d_M_isGood_76 hl rfl (xi_1 _) (by decide) rfl (fun ls hl => ?_)
      have hl : lv_has ls 5 [(4, .int (nI (i + 1))), (3, .int (nI 0)), (2, .int (nI 0)), (0, .ref xM), (1, .int (nI w))] := hl
      refine lv_goto (tgt := 23) hx hb d_M_isGood_79 rfl ?_
      have eg : gfl w (i + 1) = false := by rw [gfl_s, if_pos h48]; first | exact xg_a h52 h58 | exact xg_b h52 | exact xg_c h58
      have es : str w (i + 1) = 0 := by rw [str_s, if_pos h48]
      have hl : lv_has ls 5 [(0, .ref xM), (1, .int (nI w)), (2, .int (nI ((gfl w (i + 1)).toNat))), (3, .int (nI (str w (i + 1)))), (4, .int (nI (i + 1)))] := lv_sub hl [3, 4, 2, 1, 0] (by rw [eg, es] <;> rfl)
      have hP := hP.sub (ws' := [(xM, .inr (6, [.int cd, .int (nI n), .ref xK, .ref xV, .int (nI ln), .ref xC, .ref xH, .int (nI ct), .ref xT, .ref xP, .int (nI lk), .ref xB, .ref xR, .ref xL, .ref xN, .ref xQ, .int (nI rp.toNat)]))]) [0] rfl
      have hD := hD.sub (ws' := [(xM, .inr (6, [.int cd, .int (nI n), .ref xK, .ref xV, .int (nI ln), .ref xC, .ref xH, .int (nI ct), .ref xT, .ref xP, .int (nI lk), .ref xB, .ref xR, .ref xL, .ref xN, .ref xQ, .int (nI rp.toNat)]))]) [0] (by decide) rfl
      exact ih (i + 1) _ _ _ (by omega) ⟨by omega, hl, hP, hD, hS⟩
    refine lv_iload_n hx hb d_M_isGood_55 rfl (lv_at hl 3 rfl) ?_
    refine lv_iconst (v := nI 2) hx hb d_M_isGood_56 (by decide) ?_
    refine lv_irem hx hb d_M_isGood_57 (by decide) ?_
    refine xn_i (y := nI ((str w i) % 2)) (pk_rem (by have := str_le w i; omega) (by decide) (by decide)) ?_
    refine xb_ne hx hb 65 (by omega) d_M_isGood_58 rfl (fun h58 => ?_) (fun h58 => ?_)
    · skip
      refine lv_iconst (v := nI 0) hx hb d_M_isGood_65 (by decide) ?_
      refine lv_istore_n hx hb d_M_isGood_66 rfl hl (by decide) rfl (fun ls hl => ?_)
      have hl : lv_has ls 5 [(2, .int (nI 0)), (0, .ref xM), (1, .int (nI w)), (3, .int (nI (str w i))), (4, .int (nI i))] := hl
      refine lv_iconst (v := nI 0) hx hb d_M_isGood_67 (by decide) ?_
      refine lv_istore_n hx hb d_M_isGood_68 rfl hl (by decide) rfl (fun ls hl => ?_)
      have hl : lv_has ls 5 [(3, .int (nI 0)), (2, .int (nI 0)), (0, .ref xM), (1, .int (nI w)), (4, .int (nI i))] := hl
      refine lv_goto (tgt := 76) hx hb d_M_isGood_69 rfl ?_
      refine lv_iinc (k := 4) (v := nI (i + 1)) hx hb d_M_isGood_76 hl rfl (xi_1 _) (by decide) rfl (fun ls hl => ?_)
      have hl : lv_has ls 5 [(4, .int (nI (i + 1))), (3, .int (nI 0)), (2, .int (nI 0)), (0, .ref xM), (1, .int (nI w))] := hl
      refine lv_goto (tgt := 23) hx hb d_M_isGood_79 rfl ?_
      have eg : gfl w (i + 1) = false := by rw [gfl_s, if_pos h48]; first | exact xg_a h52 h58 | exact xg_b h52 | exact xg_c h58
      have es : str w (i + 1) = 0 := by rw [str_s, if_pos h48]
      have hl : lv_has ls 5 [(0, .ref xM), (1, .int (nI w)), (2, .int (nI ((gfl w (i + 1)).toNat))), (3, .int (nI (str w (i + 1)))), (4, .int (nI (i + 1)))] := lv_sub hl [3, 4, 2, 1, 0] (by rw [eg, es] <;> rfl)
      have hP := hP.sub (ws' := [(xM, .inr (6, [.int cd, .int (nI n), .ref xK, .ref xV, .int (nI ln), .ref xC, .ref xH, .int (nI ct), .ref xT, .ref xP, .int (nI lk), .ref xB, .ref xR, .ref xL, .ref xN, .ref xQ, .int (nI rp.toNat)]))]) [0] rfl
      have hD := hD.sub (ws' := [(xM, .inr (6, [.int cd, .int (nI n), .ref xK, .ref xV, .int (nI ln), .ref xC, .ref xH, .int (nI ct), .ref xT, .ref xP, .int (nI lk), .ref xB, .ref xR, .ref xL, .ref xN, .ref xQ, .int (nI rp.toNat)]))]) [0] (by decide) rfl
      exact ih (i + 1) _ _ _ (by omega) ⟨by omega, hl, hP, hD, hS⟩
    refine lv_iconst (v := nI 1) hx hb d_M_isGood_61 (by decide) ?_
    refine lv_goto (tgt := 66) hx hb d_M_isGood_62 rfl ?_
    refine lv_istore_n hx hb d_M_isGood_66 rfl hl (by decide) rfl (fun ls hl => ?_)
    have hl : lv_has ls 5 [(2, .int (nI 1)), (0, .ref xM), (1, .int (nI w)), (3, .int (nI (str w i))), (4, .int (nI i))] := hl
    refine lv_iconst (v := nI 0) hx hb d_M_isGood_67 (by decide) ?_
    refine lv_istore_n hx hb d_M_isGood_68 rfl hl (by decide) rfl (fun ls hl => ?_)
    have hl : lv_has ls 5 [(3, .int (nI 0)), (2, .int (nI 1)), (0, .ref xM), (1, .int (nI w)), (4, .int (nI i))] := hl
    refine lv_goto (tgt := 76) hx hb d_M_isGood_69 rfl ?_
    refine lv_iinc (k := 4) (v := nI (i + 1)) hx hb d_M_isGood_76 hl rfl (xi_1 _) (by decide) rfl (fun ls hl => ?_)
    have hl : lv_has ls 5 [(4, .int (nI (i + 1))), (3, .int (nI 0)), (2, .int (nI 1)), (0, .ref xM), (1, .int (nI w))] := hl
    refine lv_goto (tgt := 23) hx hb d_M_isGood_79 rfl ?_
    have eg : gfl w (i + 1) = true := by rw [gfl_s, if_pos h48]; first | exact xg_a h52 h58 | exact xg_b h52 | exact xg_c h58
    have es : str w (i + 1) = 0 := by rw [str_s, if_pos h48]
    have hl : lv_has ls 5 [(0, .ref xM), (1, .int (nI w)), (2, .int (nI ((gfl w (i + 1)).toNat))), (3, .int (nI (str w (i + 1)))), (4, .int (nI (i + 1)))] := lv_sub hl [3, 4, 2, 1, 0] (by rw [eg, es] <;> rfl)
    have hP := hP.sub (ws' := [(xM, .inr (6, [.int cd, .int (nI n), .ref xK, .ref xV, .int (nI ln), .ref xC, .ref xH, .int (nI ct), .ref xT, .ref xP, .int (nI lk), .ref xB, .ref xR, .ref xL, .ref xN, .ref xQ, .int (nI rp.toNat)]))]) [0] rfl
    have hD := hD.sub (ws' := [(xM, .inr (6, [.int cd, .int (nI n), .ref xK, .ref xV, .int (nI ln), .ref xC, .ref xH, .int (nI ct), .ref xT, .ref xP, .int (nI lk), .ref xB, .ref xR, .ref xL, .ref xN, .ref xQ, .int (nI rp.toNat)]))]) [0] (by decide) rfl
    exact ih (i + 1) _ _ _ (by omega) ⟨by omega, hl, hP, hD, hS⟩
  refine lv_iconst (v := nI 0) hx hb d_M_isGood_14 (by decide) ?_
  exact xr_i hx hb hrt hlk rfl hP hD hS () [0] (by decide) rfl (by unfold okm; first | rw [if_pos h1]; rfl | rw [if_neg h1, if_pos (Int32.not_lt.mp h11)]; rfl) d_M_isGood_15
set_option maxHeartbeats 4000000 in
set_option maxRecDepth 100000 in
theorem c_M_isCall (xM : Nat) (cd : Int32) (n : Nat) (xK : Nat) (xV : Nat) (ln : Nat) (xC : Nat) (xH : Nat) (ct : Nat) (xT : Nat) (xP : Nat) (lk : Nat) (xB : Nat) (xR : Nat) (xL : Nat) (xN : Nat) (xQ : Nat) (rp : Bool) (x : Int32) (hc : Nat → Int32) (hz : ∀ j, j < 3 → hc j = nI 0 ∨ hc j = nI 1) : CtI l y_M_isCall (w_M_isCall) ({ frames := 0, cells := 0, slots := 0, locals := 0 }) D vwCl (TYs cI cZ cJ cG) (gG tF) [.ref xM, .int x] [(xM, .inr (6, [.int cd, .int (nI n), .ref xK, .ref xV, .int (nI ln), .ref xC, .ref xH, .int (nI ct), .ref xT, .ref xP, .int (nI lk), .ref xB, .ref xR, .ref xL, .ref xN, .ref xQ, .int (nI rp.toNat)])), (xH, .inl (cZ, 3, .inl hc))] 0 0 (fun _ : Unit => [(xM, .inr (6, [.int cd, .int (nI n), .ref xK, .ref xV, .int (nI ln), .ref xC, .ref xH, .int (nI ct), .ref xT, .ref xP, .int (nI lk), .ref xB, .ref xR, .ref xL, .ref xN, .ref xQ, .int (nI rp.toNat)])), (xH, .inl (cZ, 3, .inl hc))]) (fun (r : Int32) (_ : Unit) => r = nI ((hcr hc x).toNat)) := by
  refine CtI.of (cc := b_M_isCall) (maxL := 2) (ret := (some .boolean)) (by decide) rfl (Nat.le_of_ble_eq_true rfl) ?_
  intro p e s m args below meth c A ls hF hA hP hK hD hg hS hl
  obtain ⟨hx, hb, hrt, hlk, hml, hown, hts, hnm⟩ := hF
  have hown : s.vm.findClass R_M = some m.cls := hown
  have hl : lv_has ls 2 [(0, .ref xM), (1, .int x)] := hl
  refine lv_iload_n hx hb d_M_isCall_0 rfl (lv_at hl 1 rfl) ?_
  refine lv_if_eq (tgt := 22) hx hb d_M_isCall_1 rfl (fun h1 => ?_) (fun h1 => ?_)
  · skip
    refine lv_iconst (v := nI 1) hx hb d_M_isCall_22 (by decide) ?_
    refine lv_goto (tgt := 27) hx hb d_M_isCall_23 rfl ?_
    exact xr_i hx hb hrt hlk rfl hP hD hS () [0, 1] (by decide) rfl (xp_t (by first | exact hcr_a h1 | exact hcr_b hk1 hk3 (hz k hk3) h19)) d_M_isCall_27
  refine lv_iload_n hx hb d_M_isCall_4 rfl (lv_at hl 1 rfl) ?_
  refine lv_if_le (tgt := 26) hx hb d_M_isCall_5 rfl (fun h5 => ?_) (fun h5 => ?_)
  · skip
    refine lv_iconst (v := nI 0) hx hb d_M_isCall_26 (by decide) ?_
    exact xr_i hx hb hrt hlk rfl hP hD hS () [0, 1] (by decide) rfl (xp_f (by first | exact hcr_c h1 h5 | exact hcr_d h10 | exact hcr_e hk1 hk3 h19)) d_M_isCall_27
  refine lv_iload_n hx hb d_M_isCall_8 rfl (lv_at hl 1 rfl) ?_
  refine lv_iconst (v := nI 3) hx hb d_M_isCall_9 (by decide) ?_
  refine lv_icmp_ge (tgt := 26) hx hb d_M_isCall_10 rfl (fun h10 => ?_) (fun h10 => ?_)
  · skip
    refine lv_iconst (v := nI 0) hx hb d_M_isCall_26 (by decide) ?_
    exact xr_i hx hb hrt hlk rfl hP hD hS () [0, 1] (by decide) rfl (xp_f (by first | exact hcr_c h1 h5 | exact hcr_d h10 | exact hcr_e hk1 hk3 h19)) d_M_isCall_27
  obtain ⟨k, hk1, hk3, rfl⟩ := hcr_of h5 h10
  refine lv_aload_n hx hb d_M_isCall_13 rfl (lv_at hl 0 rfl) ?_
  refine va_get (D := D) (ci := 6) (v := .ref xH) (C := R_M) (T := F_M) (N := 17) hx hb hts in_M hown hK hP 0 rfl rfl 6 (by decide) (hts _ (List.mem_cons_of_mem _ k_589)) (fun _ h9 => h9) rfl d_M_isCall_14 ?_
  refine lv_iload_n hx hb d_M_isCall_17 rfl (lv_at hl 1 rfl) ?_
  refine xa_zald (v := hc k) hx hb hK hP 1 1 rfl rfl (by omega) (by decide) rfl d_M_isCall_18 ?_
  refine lv_if_eq (tgt := 26) hx hb d_M_isCall_19 rfl (fun h19 => ?_) (fun h19 => ?_)
  · skip
    refine lv_iconst (v := nI 0) hx hb d_M_isCall_26 (by decide) ?_
    exact xr_i hx hb hrt hlk rfl hP hD hS () [0, 1] (by decide) rfl (xp_f (by first | exact hcr_c h1 h5 | exact hcr_d h10 | exact hcr_e hk1 hk3 h19)) d_M_isCall_27
  refine lv_iconst (v := nI 1) hx hb d_M_isCall_22 (by decide) ?_
  refine lv_goto (tgt := 27) hx hb d_M_isCall_23 rfl ?_
  exact xr_i hx hb hrt hlk rfl hP hD hS () [0, 1] (by decide) rfl (xp_t (by first | exact hcr_a h1 | exact hcr_b hk1 hk3 (hz k hk3) h19)) d_M_isCall_27
set_option maxHeartbeats 4000000 in
set_option maxRecDepth 100000 in
theorem c_M_rounds (xM : Nat) (cd : Int32) (n : Nat) (xK : Nat) (xV : Nat) (ln : Nat) (xC : Nat) (xH : Nat) (ct : Nat) (xT : Nat) (xP : Nat) (lk : Nat) (xB : Nat) (xR : Nat) (xL : Nat) (xN : Nat) (xQ : Nat) (rp : Bool) (B : Nat → Int32) (Rk : Nat → Int32) (i : Nat) (hn : nb n) (hi : i < 721) : CtV l y_M_rounds (w_M_rounds) ({ frames := 0, cells := 0, slots := 0, locals := 0 }) D vwCl (TYs cI cZ cJ cG) (gG tF) [.ref xM, .int (nI i)] [(xM, .inr (6, [.int cd, .int (nI n), .ref xK, .ref xV, .int (nI ln), .ref xC, .ref xH, .int (nI ct), .ref xT, .ref xP, .int (nI lk), .ref xB, .ref xR, .ref xL, .ref xN, .ref xQ, .int (nI rp.toNat)])), (xB, .inl (cI, 4326, .inl B)), (xR, .inl (cI, 721, .inl Rk))] 0 0 (fun B2 : (Nat → Int32) => [(xM, .inr (6, [.int cd, .int (nI n), .ref xK, .ref xV, .int (nI ln), .ref xC, .ref xH, .int (nI ct), .ref xT, .ref xP, .int (nI lk), .ref xB, .ref xR, .ref xL, .ref xN, .ref xQ, .int (nI rp.toNat)])), (xB, .inl (cI, 4326, .inl B2)), (xR, .inl (cI, 721, .inl (upd Rk i (nI 0))))]) (fun B2 : (Nat → Int32) => (bh n i 0 B2) ∧ (∀ q, q < 6 * i → B2 q = B q)) := by
  refine CtV.of (cc := b_M_rounds) (maxL := 3) (ret := none) (by decide) rfl (Nat.le_of_ble_eq_true rfl) ?_
  intro p e s m args below meth c A ls hF hA hP hK hD hg hS hl
  obtain ⟨hx, hb, hrt, hlk, hml, hown, hts, hnm⟩ := hF
  have hown : s.vm.findClass R_M = some m.cls := hown
  have hl : lv_has ls 3 [(0, .ref xM), (1, .int (nI i))] := hl
  have hn4 : 4 ≤ n := hn.1
  have hn6 : n ≤ 6 := hn.2
  have hfa : fa n ≤ 720 := fa_le hn
  refine lv_iconst (v := nI 0) hx hb d_M_rounds_0 (by decide) ?_
  refine lv_istore_n hx hb d_M_rounds_1 rfl hl (by decide) rfl (fun ls hl => ?_)
  have hl : lv_has ls 3 [(2, .int (nI 0)), (0, .ref xM), (1, .int (nI i))] := hl
  have hl : lv_has ls 3 [(0, .ref xM), (1, .int (nI i)), (2, .int (nI 0))] := lv_sub hl [1, 2, 0] rfl
  have hP := hP.sub (ws' := [(xM, .inr (6, [.int cd, .int (nI n), .ref xK, .ref xV, .int (nI ln), .ref xC, .ref xH, .int (nI ct), .ref xT, .ref xP, .int (nI lk), .ref xB, .ref xR, .ref xL, .ref xN, .ref xQ, .int (nI rp.toNat)])), (xB, .inl (cI, 4326, .inl B)), (xR, .inl (cI, 721, .inl Rk))]) [0, 1, 2] rfl
  have hD := hD.sub (ws' := [(xM, .inr (6, [.int cd, .int (nI n), .ref xK, .ref xV, .int (nI ln), .ref xC, .ref xH, .int (nI ct), .ref xT, .ref xP, .int (nI lk), .ref xB, .ref xR, .ref xL, .ref xN, .ref xQ, .int (nI rp.toNat)])), (xB, .inl (cI, 4326, .inl B)), (xR, .inl (cI, 721, .inl Rk))]) [0, 1, 2] (by decide) rfl
  refine xn_pc (pc2 := 2) rfl ?_
  refine xl_2 (fun (q : Nat) (g : Nat → Int32) ls H locs => (q ≤ n) ∧ (∀ j, j < q → g (6 * i + j) = nI (j + 1)) ∧ (∀ j, j < 6 * i → g j = B j) ∧ lv_has ls 3 [(0, .ref xM), (1, .int (nI i)), (2, .int (nI q))] ∧ va_P D vwCl [(xM, .inr (6, [.int cd, .int (nI n), .ref xK, .ref xV, .int (nI ln), .ref xC, .ref xH, .int (nI ct), .ref xT, .ref xP, .int (nI lk), .ref xB, .ref xR, .ref xL, .ref xN, .ref xQ, .int (nI rp.toNat)])), (xB, .inl (cI, 4326, .inl g)), (xR, .inl (cI, 721, .inl Rk))] H ∧ va_D A [(xM, .inr (6, [.int cd, .int (nI n), .ref xK, .ref xV, .int (nI ln), .ref xC, .ref xH, .int (nI ct), .ref xT, .ref xP, .int (nI lk), .ref xB, .ref xR, .ref xL, .ref xN, .ref xQ, .int (nI rp.toNat)])), (xB, .inl (cI, 4326, .inl g)), (xR, .inl (cI, 721, .inl Rk))] ∧ va_S A s.heap H locs) (fun (q : Nat) (g : Nat → Int32) => n - q) (fun q g ls H locs hI ih => ?_) 0 B ⟨Nat.zero_le n, fun j hj => absurd hj (Nat.not_lt_zero j), fun j _ => rfl, hl, hP, hD, hS⟩
  obtain ⟨hi1, hi2, hi3, hl, hP, hD, hS⟩ := hI
  refine lv_iload_n hx hb d_M_rounds_2 rfl (lv_at hl 2 rfl) ?_
  refine lv_aload_n hx hb d_M_rounds_3 rfl (lv_at hl 0 rfl) ?_
  refine va_get (D := D) (ci := 6) (v := .int (nI n)) (C := R_M) (T := F_M) (N := 17) hx hb hts in_M hown hK hP 0 rfl rfl 1 (by decide) (hts _ (List.mem_cons_of_mem _ k_584)) (fun _ h9 => h9) rfl d_M_rounds_4 ?_
  refine xb_cge hx hb 30 (by omega) (by omega) d_M_rounds_7 rfl (fun h7 => ?_) (fun h7 => ?_)
  · skip
    refine lv_aload_n hx hb d_M_rounds_30 rfl (lv_at hl 0 rfl) ?_
    refine va_get (D := D) (ci := 6) (v := .ref xR) (C := R_M) (T := F_M) (N := 17) hx hb hts in_M hown hK hP 0 rfl rfl 12 (by decide) (hts _ (List.mem_cons_of_mem _ k_595)) (fun _ h9 => h9) rfl d_M_rounds_31 ?_
    refine lv_iload_n hx hb d_M_rounds_34 rfl (lv_at hl 1 rfl) ?_
    refine lv_iconst (v := nI 0) hx hb d_M_rounds_35 (by decide) ?_
    refine xa_iast hx hb hK hP hD hS 2 0 rfl rfl (by omega) (by decide) d_M_rounds_36 (fun H locs hP hD hS => ?_)
    have hP : va_P D vwCl [(xM, .inr (6, [.int cd, .int (nI n), .ref xK, .ref xV, .int (nI ln), .ref xC, .ref xH, .int (nI ct), .ref xT, .ref xP, .int (nI lk), .ref xB, .ref xR, .ref xL, .ref xN, .ref xQ, .int (nI rp.toNat)])), (xB, .inl (cI, 4326, .inl g)), (xR, .inl (cI, 721, .inl (upd Rk i (nI 0))))] H := hP
    have hD : va_D A [(xM, .inr (6, [.int cd, .int (nI n), .ref xK, .ref xV, .int (nI ln), .ref xC, .ref xH, .int (nI ct), .ref xT, .ref xP, .int (nI lk), .ref xB, .ref xR, .ref xL, .ref xN, .ref xQ, .int (nI rp.toNat)])), (xB, .inl (cI, 4326, .inl g)), (xR, .inl (cI, 721, .inl (upd Rk i (nI 0))))] := hD
    exact xr_v hx hb hrt hlk hP hD hS g [0, 1, 2] (by decide) rfl (⟨fun j hj => by rw [hi2 j (by omega), ro_0 hn hj], hi3⟩) d_M_rounds_37
  refine lv_aload_n hx hb d_M_rounds_10 rfl (lv_at hl 0 rfl) ?_
  refine va_get (D := D) (ci := 6) (v := .ref xB) (C := R_M) (T := F_M) (N := 17) hx hb hts in_M hown hK hP 0 rfl rfl 11 (by decide) (hts _ (List.mem_cons_of_mem _ k_594)) (fun _ h9 => h9) rfl d_M_rounds_11 ?_
  refine lv_bipush (v := nI 6) hx hb d_M_rounds_14 (by decide) ?_
  refine lv_iload_n hx hb d_M_rounds_16 rfl (lv_at hl 1 rfl) ?_
  refine lv_imul hx hb d_M_rounds_17 ?_
  refine xn_i (y := nI (6 * i)) (pk_mul _ _) ?_
  refine lv_iload_n hx hb d_M_rounds_18 rfl (lv_at hl 2 rfl) ?_
  refine lv_iadd hx hb d_M_rounds_19 ?_
  refine xn_i (y := nI ((6 * i) + q)) (nI_add _ _) ?_
  refine lv_iload_n hx hb d_M_rounds_20 rfl (lv_at hl 2 rfl) ?_
  refine lv_iconst (v := nI 1) hx hb d_M_rounds_21 (by decide) ?_
  refine lv_iadd hx hb d_M_rounds_22 ?_
  refine xn_i (y := nI (q + 1)) (nI_add _ _) ?_
  refine xa_iast hx hb hK hP hD hS 1 0 rfl rfl (by omega) (by decide) d_M_rounds_23 (fun H locs hP hD hS => ?_)
  have hP : va_P D vwCl [(xM, .inr (6, [.int cd, .int (nI n), .ref xK, .ref xV, .int (nI ln), .ref xC, .ref xH, .int (nI ct), .ref xT, .ref xP, .int (nI lk), .ref xB, .ref xR, .ref xL, .ref xN, .ref xQ, .int (nI rp.toNat)])), (xB, .inl (cI, 4326, .inl (upd g ((6 * i) + q) (nI (q + 1))))), (xR, .inl (cI, 721, .inl Rk))] H := hP
  have hD : va_D A [(xM, .inr (6, [.int cd, .int (nI n), .ref xK, .ref xV, .int (nI ln), .ref xC, .ref xH, .int (nI ct), .ref xT, .ref xP, .int (nI lk), .ref xB, .ref xR, .ref xL, .ref xN, .ref xQ, .int (nI rp.toNat)])), (xB, .inl (cI, 4326, .inl (upd g ((6 * i) + q) (nI (q + 1))))), (xR, .inl (cI, 721, .inl Rk))] := hD
  refine lv_iinc (k := 2) (v := nI (q + 1)) hx hb d_M_rounds_24 hl rfl (xi_1 _) (by decide) rfl (fun ls hl => ?_)
  have hl : lv_has ls 3 [(2, .int (nI (q + 1))), (0, .ref xM), (1, .int (nI i))] := hl
  refine lv_goto (tgt := 2) hx hb d_M_rounds_27 rfl ?_
  have hl : lv_has ls 3 [(0, .ref xM), (1, .int (nI i)), (2, .int (nI (q + 1)))] := lv_sub hl [1, 2, 0] rfl
  have hP := hP.sub (ws' := [(xM, .inr (6, [.int cd, .int (nI n), .ref xK, .ref xV, .int (nI ln), .ref xC, .ref xH, .int (nI ct), .ref xT, .ref xP, .int (nI lk), .ref xB, .ref xR, .ref xL, .ref xN, .ref xQ, .int (nI rp.toNat)])), (xB, .inl (cI, 4326, .inl (upd g ((6 * i) + q) (nI (q + 1))))), (xR, .inl (cI, 721, .inl Rk))]) [0, 1, 2] rfl
  have hD := hD.sub (ws' := [(xM, .inr (6, [.int cd, .int (nI n), .ref xK, .ref xV, .int (nI ln), .ref xC, .ref xH, .int (nI ct), .ref xT, .ref xP, .int (nI lk), .ref xB, .ref xR, .ref xL, .ref xN, .ref xQ, .int (nI rp.toNat)])), (xB, .inl (cI, 4326, .inl (upd g ((6 * i) + q) (nI (q + 1))))), (xR, .inl (cI, 721, .inl Rk))]) [0, 1, 2] (by decide) rfl
  exact ih (q + 1) (upd g ((6 * i) + q) (nI (q + 1))) _ _ _ (by omega) ⟨h7, fun j hj => by unfold upd; split; (rw [show j = q by omega]); exact hi2 j (by omega), fun j hj => by rw [pk_un (by omega)]; exact hi3 j hj, hl, hP, hD, hS⟩
set_option maxHeartbeats 4000000 in
set_option maxRecDepth 100000 in
theorem c_M_setRank (xM : Nat) (cd : Int32) (n : Nat) (xK : Nat) (xV : Nat) (ln : Nat) (xC : Nat) (xH : Nat) (ct : Nat) (xT : Nat) (xP : Nat) (lk : Nat) (xB : Nat) (xR : Nat) (xL : Nat) (xN : Nat) (xQ : Nat) (rp : Bool) (B : Nat → Int32) (Rk : Nat → Int32) (i : Nat) (k : Nat) (hn : nb n) (hk : k < fa n) (hB : bh n i k B) (hi : i < 721) : CtV l y_M_setRank (w_M_setRank) ({ frames := 0, cells := 0, slots := 0, locals := 0 }) D vwCl (TYs cI cZ cJ cG) (gG tF) [.ref xM, .int (nI i)] [(xM, .inr (6, [.int cd, .int (nI n), .ref xK, .ref xV, .int (nI ln), .ref xC, .ref xH, .int (nI ct), .ref xT, .ref xP, .int (nI lk), .ref xB, .ref xR, .ref xL, .ref xN, .ref xQ, .int (nI rp.toNat)])), (xB, .inl (cI, 4326, .inl B)), (xR, .inl (cI, 721, .inl Rk))] 0 0 (fun _ : Unit => [(xM, .inr (6, [.int cd, .int (nI n), .ref xK, .ref xV, .int (nI ln), .ref xC, .ref xH, .int (nI ct), .ref xT, .ref xP, .int (nI lk), .ref xB, .ref xR, .ref xL, .ref xN, .ref xQ, .int (nI rp.toNat)])), (xB, .inl (cI, 4326, .inl B)), (xR, .inl (cI, 721, .inl (upd Rk i (nI k))))]) (fun _ : Unit => True) := by
  refine CtV.of (cc := b_M_setRank) (maxL := 6) (ret := none) (by decide) rfl (Nat.le_of_ble_eq_true rfl) ?_
  intro p e s m args below meth c A ls hF hA hP hK hD hg hS hl
  obtain ⟨hx, hb, hrt, hlk, hml, hown, hts, hnm⟩ := hF
  have hown : s.vm.findClass R_M = some m.cls := hown
  have hl : lv_has ls 6 [(0, .ref xM), (1, .int (nI i))] := hl
  have hn4 : 4 ≤ n := hn.1
  have hn6 : n ≤ 6 := hn.2
  have hfa : fa n ≤ 720 := fa_le hn
  refine lv_iconst (v := nI 0) hx hb d_M_setRank_0 (by decide) ?_
  refine lv_istore_n hx hb d_M_setRank_1 rfl hl (by decide) rfl (fun ls hl => ?_)
  have hl : lv_has ls 6 [(2, .int (nI 0)), (0, .ref xM), (1, .int (nI i))] := hl
  refine lv_iconst (v := nI 0) hx hb d_M_setRank_2 (by decide) ?_
  refine lv_istore_n hx hb d_M_setRank_3 rfl hl (by decide) rfl (fun ls hl => ?_)
  have hl : lv_has ls 6 [(3, .int (nI 0)), (2, .int (nI 0)), (0, .ref xM), (1, .int (nI i))] := hl
  have hl : lv_has ls 6 [(0, .ref xM), (1, .int (nI i)), (2, .int (nI (hr n k 0))), (3, .int (nI 0))] := lv_sub hl [2, 3, 1, 0] rfl
  have hP := hP.sub (ws' := [(xM, .inr (6, [.int cd, .int (nI n), .ref xK, .ref xV, .int (nI ln), .ref xC, .ref xH, .int (nI ct), .ref xT, .ref xP, .int (nI lk), .ref xB, .ref xR, .ref xL, .ref xN, .ref xQ, .int (nI rp.toNat)])), (xB, .inl (cI, 4326, .inl B)), (xR, .inl (cI, 721, .inl Rk))]) [0, 1, 2] rfl
  have hD := hD.sub (ws' := [(xM, .inr (6, [.int cd, .int (nI n), .ref xK, .ref xV, .int (nI ln), .ref xC, .ref xH, .int (nI ct), .ref xT, .ref xP, .int (nI lk), .ref xB, .ref xR, .ref xL, .ref xN, .ref xQ, .int (nI rp.toNat)])), (xB, .inl (cI, 4326, .inl B)), (xR, .inl (cI, 721, .inl Rk))]) [0, 1, 2] (by decide) rfl
  refine xn_pc (pc2 := 4) rfl ?_
  refine xl_1 (fun (q : Nat) ls H locs => (q ≤ n) ∧ lv_has ls 6 [(0, .ref xM), (1, .int (nI i)), (2, .int (nI (hr n k q))), (3, .int (nI q))] ∧ va_P D vwCl [(xM, .inr (6, [.int cd, .int (nI n), .ref xK, .ref xV, .int (nI ln), .ref xC, .ref xH, .int (nI ct), .ref xT, .ref xP, .int (nI lk), .ref xB, .ref xR, .ref xL, .ref xN, .ref xQ, .int (nI rp.toNat)])), (xB, .inl (cI, 4326, .inl B)), (xR, .inl (cI, 721, .inl Rk))] H ∧ va_D A [(xM, .inr (6, [.int cd, .int (nI n), .ref xK, .ref xV, .int (nI ln), .ref xC, .ref xH, .int (nI ct), .ref xT, .ref xP, .int (nI lk), .ref xB, .ref xR, .ref xL, .ref xN, .ref xQ, .int (nI rp.toNat)])), (xB, .inl (cI, 4326, .inl B)), (xR, .inl (cI, 721, .inl Rk))] ∧ va_S A s.heap H locs) (fun (q : Nat) => n - q) (fun q ls H locs hI ih => ?_) 0 ⟨Nat.zero_le n, hl, hP, hD, hS⟩
  obtain ⟨hi1, hl, hP, hD, hS⟩ := hI
  refine lv_iload_n hx hb d_M_setRank_4 rfl (lv_at hl 3 rfl) ?_
  refine lv_aload_n hx hb d_M_setRank_5 rfl (lv_at hl 0 rfl) ?_
  refine va_get (D := D) (ci := 6) (v := .int (nI n)) (C := R_M) (T := F_M) (N := 17) hx hb hts in_M hown hK hP 0 rfl rfl 1 (by decide) (hts _ (List.mem_cons_of_mem _ k_584)) (fun _ h9 => h9) rfl d_M_setRank_6 ?_
  refine xb_cge hx hb 90 (by omega) (by omega) d_M_setRank_9 rfl (fun h9 => ?_) (fun h9 => ?_)
  · skip
    refine lv_aload_n hx hb d_M_setRank_90 rfl (lv_at hl 0 rfl) ?_
    refine va_get (D := D) (ci := 6) (v := .ref xR) (C := R_M) (T := F_M) (N := 17) hx hb hts in_M hown hK hP 0 rfl rfl 12 (by decide) (hts _ (List.mem_cons_of_mem _ k_595)) (fun _ h9 => h9) rfl d_M_setRank_91 ?_
    refine lv_iload_n hx hb d_M_setRank_94 rfl (lv_at hl 1 rfl) ?_
    refine lv_iload_n hx hb d_M_setRank_95 rfl (lv_at hl 2 rfl) ?_
    refine xa_iast hx hb hK hP hD hS 2 0 rfl rfl (by omega) (by decide) d_M_setRank_96 (fun H locs hP hD hS => ?_)
    have hP : va_P D vwCl [(xM, .inr (6, [.int cd, .int (nI n), .ref xK, .ref xV, .int (nI ln), .ref xC, .ref xH, .int (nI ct), .ref xT, .ref xP, .int (nI lk), .ref xB, .ref xR, .ref xL, .ref xN, .ref xQ, .int (nI rp.toNat)])), (xB, .inl (cI, 4326, .inl B)), (xR, .inl (cI, 721, .inl (upd Rk i (nI (hr n k q)))))] H := hP
    have hD : va_D A [(xM, .inr (6, [.int cd, .int (nI n), .ref xK, .ref xV, .int (nI ln), .ref xC, .ref xH, .int (nI ct), .ref xT, .ref xP, .int (nI lk), .ref xB, .ref xR, .ref xL, .ref xN, .ref xQ, .int (nI rp.toNat)])), (xB, .inl (cI, 4326, .inl B)), (xR, .inl (cI, 721, .inl (upd Rk i (nI (hr n k q)))))] := hD
    have e9 : hr n k q = k := by rw [show q = n by omega, hr_n hn hk]
    exact xr_v hx hb hrt hlk hP hD hS () [0, 1, 2] (by decide) (by rw [e9] <;> rfl) trivial d_M_setRank_97
  refine lv_iconst (v := nI 0) hx hb d_M_setRank_12 (by decide) ?_
  refine lv_istore hx hb d_M_setRank_13 hl (by decide) rfl (fun ls hl => ?_)
  have hl : lv_has ls 6 [(4, .int (nI 0)), (0, .ref xM), (1, .int (nI i)), (2, .int (nI (hr n k q))), (3, .int (nI q))] := hl
  refine lv_iload_n hx hb d_M_setRank_15 rfl (lv_at hl 4 rfl) ?_
  refine lv_iconst (v := nI 1) hx hb d_M_setRank_16 (by decide) ?_
  refine lv_iadd hx hb d_M_setRank_17 ?_
  refine xn_i (y := nI (q + 1)) (nI_add _ _) ?_
  refine lv_istore hx hb d_M_setRank_18 hl (by decide) rfl (fun ls hl => ?_)
  have hl : lv_has ls 6 [(5, .int (nI (q + 1))), (4, .int (nI 0)), (0, .ref xM), (1, .int (nI i)), (2, .int (nI (hr n k q))), (3, .int (nI q))] := hl
  have hl : lv_has ls 6 [(0, .ref xM), (1, .int (nI i)), (2, .int (nI (hr n k q))), (3, .int (nI q)), (4, .int (nI (lsn n k q 0))), (5, .int (nI (q + 1 + 0)))] := lv_sub hl [2, 3, 4, 5, 1, 0] rfl
  have hP := hP.sub (ws' := [(xM, .inr (6, [.int cd, .int (nI n), .ref xK, .ref xV, .int (nI ln), .ref xC, .ref xH, .int (nI ct), .ref xT, .ref xP, .int (nI lk), .ref xB, .ref xR, .ref xL, .ref xN, .ref xQ, .int (nI rp.toNat)])), (xB, .inl (cI, 4326, .inl B)), (xR, .inl (cI, 721, .inl Rk))]) [0, 1, 2] rfl
  have hD := hD.sub (ws' := [(xM, .inr (6, [.int cd, .int (nI n), .ref xK, .ref xV, .int (nI ln), .ref xC, .ref xH, .int (nI ct), .ref xT, .ref xP, .int (nI lk), .ref xB, .ref xR, .ref xL, .ref xN, .ref xQ, .int (nI rp.toNat)])), (xB, .inl (cI, 4326, .inl B)), (xR, .inl (cI, 721, .inl Rk))]) [0, 1, 2] (by decide) rfl
  refine xn_pc (pc2 := 20) rfl ?_
  refine xl_1 (fun (j : Nat) ls H locs => (j ≤ n - 1 - q) ∧ lv_has ls 6 [(0, .ref xM), (1, .int (nI i)), (2, .int (nI (hr n k q))), (3, .int (nI q)), (4, .int (nI (lsn n k q j))), (5, .int (nI (q + 1 + j)))] ∧ va_P D vwCl [(xM, .inr (6, [.int cd, .int (nI n), .ref xK, .ref xV, .int (nI ln), .ref xC, .ref xH, .int (nI ct), .ref xT, .ref xP, .int (nI lk), .ref xB, .ref xR, .ref xL, .ref xN, .ref xQ, .int (nI rp.toNat)])), (xB, .inl (cI, 4326, .inl B)), (xR, .inl (cI, 721, .inl Rk))] H ∧ va_D A [(xM, .inr (6, [.int cd, .int (nI n), .ref xK, .ref xV, .int (nI ln), .ref xC, .ref xH, .int (nI ct), .ref xT, .ref xP, .int (nI lk), .ref xB, .ref xR, .ref xL, .ref xN, .ref xQ, .int (nI rp.toNat)])), (xB, .inl (cI, 4326, .inl B)), (xR, .inl (cI, 721, .inl Rk))] ∧ va_S A s.heap H locs) (fun (j : Nat) => n - 1 - q - j) (fun j ls H locs hI ih1 => ?_) 0 ⟨Nat.zero_le _, hl, hP, hD, hS⟩
  obtain ⟨hi2, hl, hP, hD, hS⟩ := hI
  refine lv_iload hx hb d_M_setRank_20 (lv_at hl 5 rfl) ?_
  refine lv_aload_n hx hb d_M_setRank_22 rfl (lv_at hl 0 rfl) ?_
  refine va_get (D := D) (ci := 6) (v := .int (nI n)) (C := R_M) (T := F_M) (N := 17) hx hb hts in_M hown hK hP 0 rfl rfl 1 (by decide) (hts _ (List.mem_cons_of_mem _ k_584)) (fun _ h9 => h9) rfl d_M_setRank_23 ?_
  refine xb_cge hx hb 72 (by omega) (by omega) d_M_setRank_26 rfl (fun h26 => ?_) (fun h26 => ?_)
  · skip
    refine lv_iload_n hx hb d_M_setRank_72 rfl (lv_at hl 2 rfl) ?_
    refine lv_aload_n hx hb d_M_setRank_73 rfl (lv_at hl 0 rfl) ?_
    refine va_get (D := D) (ci := 6) (v := .int (nI n)) (C := R_M) (T := F_M) (N := 17) hx hb hts in_M hown hK hP 0 rfl rfl 1 (by decide) (hts _ (List.mem_cons_of_mem _ k_584)) (fun _ h9 => h9) rfl d_M_setRank_74 ?_
    refine lv_iload_n hx hb d_M_setRank_77 rfl (lv_at hl 3 rfl) ?_
    refine lv_isub hx hb d_M_setRank_78 ?_
    refine xn_i (y := nI (n - q)) (pk_sub (by omega)) ?_
    refine lv_imul hx hb d_M_setRank_79 ?_
    refine xn_i (y := nI ((hr n k q) * (n - q))) (pk_mul _ _) ?_
    refine lv_iload hx hb d_M_setRank_80 (lv_at hl 4 rfl) ?_
    refine lv_iadd hx hb d_M_setRank_82 ?_
    refine xn_i (y := nI (((hr n k q) * (n - q)) + (lsn n k q j))) (nI_add _ _) ?_
    refine lv_istore_n hx hb d_M_setRank_83 rfl hl (by decide) rfl (fun ls hl => ?_)
    have hl : lv_has ls 6 [(2, .int (nI (((hr n k q) * (n - q)) + (lsn n k q j)))), (0, .ref xM), (1, .int (nI i)), (3, .int (nI q)), (4, .int (nI (lsn n k q j))), (5, .int (nI (q + 1 + j)))] := hl
    refine lv_iinc (k := 3) (v := nI (q + 1)) hx hb d_M_setRank_84 hl rfl (xi_1 _) (by decide) rfl (fun ls hl => ?_)
    have hl : lv_has ls 6 [(3, .int (nI (q + 1))), (2, .int (nI (((hr n k q) * (n - q)) + (lsn n k q j)))), (0, .ref xM), (1, .int (nI i)), (4, .int (nI (lsn n k q j))), (5, .int (nI (q + 1 + j)))] := hl
    refine lv_goto (tgt := 4) hx hb d_M_setRank_87 rfl ?_
    have hl : lv_has ls 6 [(0, .ref xM), (1, .int (nI i)), (2, .int (nI (hr n k (q + 1)))), (3, .int (nI (q + 1)))] := lv_sub hl [2, 3, 1, 0] (by rw [hr_s, show n - 1 - q = j by omega] <;> rfl)
    have hP := hP.sub (ws' := [(xM, .inr (6, [.int cd, .int (nI n), .ref xK, .ref xV, .int (nI ln), .ref xC, .ref xH, .int (nI ct), .ref xT, .ref xP, .int (nI lk), .ref xB, .ref xR, .ref xL, .ref xN, .ref xQ, .int (nI rp.toNat)])), (xB, .inl (cI, 4326, .inl B)), (xR, .inl (cI, 721, .inl Rk))]) [0, 1, 2] rfl
    have hD := hD.sub (ws' := [(xM, .inr (6, [.int cd, .int (nI n), .ref xK, .ref xV, .int (nI ln), .ref xC, .ref xH, .int (nI ct), .ref xT, .ref xP, .int (nI lk), .ref xB, .ref xR, .ref xL, .ref xN, .ref xQ, .int (nI rp.toNat)])), (xB, .inl (cI, 4326, .inl B)), (xR, .inl (cI, 721, .inl Rk))]) [0, 1, 2] (by decide) rfl
    exact ih (q + 1) _ _ _ (by omega) ⟨h9, hl, hP, hD, hS⟩
  refine lv_aload_n hx hb d_M_setRank_29 rfl (lv_at hl 0 rfl) ?_
  refine va_get (D := D) (ci := 6) (v := .ref xB) (C := R_M) (T := F_M) (N := 17) hx hb hts in_M hown hK hP 0 rfl rfl 11 (by decide) (hts _ (List.mem_cons_of_mem _ k_594)) (fun _ h9 => h9) rfl d_M_setRank_30 ?_
  refine lv_bipush (v := nI 6) hx hb d_M_setRank_33 (by decide) ?_
  refine lv_iload_n hx hb d_M_setRank_35 rfl (lv_at hl 1 rfl) ?_
  refine lv_imul hx hb d_M_setRank_36 ?_
  refine xn_i (y := nI (6 * i)) (pk_mul _ _) ?_
  refine lv_iload hx hb d_M_setRank_37 (lv_at hl 5 rfl) ?_
  refine lv_iadd hx hb d_M_setRank_39 ?_
  refine xn_i (y := nI ((6 * i) + (q + 1 + j))) (nI_add _ _) ?_
  refine xa_iald (v := nI (ro n k (q + 1 + j))) hx hb hK hP 1 0 rfl rfl (by omega) (by decide) (hB _ (by omega)) d_M_setRank_40 ?_
  refine lv_aload_n hx hb d_M_setRank_41 rfl (lv_at hl 0 rfl) ?_
  refine va_get (D := D) (ci := 6) (v := .ref xB) (C := R_M) (T := F_M) (N := 17) hx hb hts in_M hown hK hP 0 rfl rfl 11 (by decide) (hts _ (List.mem_cons_of_mem _ k_594)) (fun _ h9 => h9) rfl d_M_setRank_42 ?_
  refine lv_bipush (v := nI 6) hx hb d_M_setRank_45 (by decide) ?_
  refine lv_iload_n hx hb d_M_setRank_47 rfl (lv_at hl 1 rfl) ?_
  refine lv_imul hx hb d_M_setRank_48 ?_
  refine xn_i (y := nI (6 * i)) (pk_mul _ _) ?_
  refine lv_iload_n hx hb d_M_setRank_49 rfl (lv_at hl 3 rfl) ?_
  refine lv_iadd hx hb d_M_setRank_50 ?_
  refine xn_i (y := nI ((6 * i) + q)) (nI_add _ _) ?_
  refine xa_iald (v := nI (ro n k q)) hx hb hK hP 1 0 rfl rfl (by omega) (by decide) (hB _ (by omega)) d_M_setRank_51 ?_
  have hr1 := ro_in hn hk (p := q + 1 + j) (by omega)
  have hr2 := ro_in hn hk (p := q) (by omega)
  refine xb_cge hx hb 62 (by omega) (by omega) d_M_setRank_52 rfl (fun h52 => ?_) (fun h52 => ?_)
  · skip
    refine lv_iload hx hb d_M_setRank_62 (lv_at hl 4 rfl) ?_
    refine lv_istore hx hb d_M_setRank_64 hl (by decide) rfl (fun ls hl => ?_)
    have hl : lv_has ls 6 [(4, .int (nI (lsn n k q j))), (0, .ref xM), (1, .int (nI i)), (2, .int (nI (hr n k q))), (3, .int (nI q)), (5, .int (nI (q + 1 + j)))] := hl
    refine lv_iinc (k := 5) (v := nI (q + 1 + j + 1)) hx hb d_M_setRank_66 hl rfl (xi_1 _) (by decide) rfl (fun ls hl => ?_)
    have hl : lv_has ls 6 [(5, .int (nI (q + 1 + j + 1))), (4, .int (nI (lsn n k q j))), (0, .ref xM), (1, .int (nI i)), (2, .int (nI (hr n k q))), (3, .int (nI q))] := hl
    refine lv_goto (tgt := 20) hx hb d_M_setRank_69 rfl ?_
    have hl : lv_has ls 6 [(0, .ref xM), (1, .int (nI i)), (2, .int (nI (hr n k q))), (3, .int (nI q)), (4, .int (nI (lsn n k q (j + 1)))), (5, .int (nI (q + 1 + (j + 1))))] := lv_sub hl [2, 3, 4, 5, 1, 0] (by rw [lsn_s]; first | rw [if_pos h52] <;> rfl | rw [if_neg (Nat.not_lt.mpr h52)] <;> rfl)
    have hP := hP.sub (ws' := [(xM, .inr (6, [.int cd, .int (nI n), .ref xK, .ref xV, .int (nI ln), .ref xC, .ref xH, .int (nI ct), .ref xT, .ref xP, .int (nI lk), .ref xB, .ref xR, .ref xL, .ref xN, .ref xQ, .int (nI rp.toNat)])), (xB, .inl (cI, 4326, .inl B)), (xR, .inl (cI, 721, .inl Rk))]) [0, 1, 2] rfl
    have hD := hD.sub (ws' := [(xM, .inr (6, [.int cd, .int (nI n), .ref xK, .ref xV, .int (nI ln), .ref xC, .ref xH, .int (nI ct), .ref xT, .ref xP, .int (nI lk), .ref xB, .ref xR, .ref xL, .ref xN, .ref xQ, .int (nI rp.toNat)])), (xB, .inl (cI, 4326, .inl B)), (xR, .inl (cI, 721, .inl Rk))]) [0, 1, 2] (by decide) rfl
    exact ih1 (j + 1) _ _ _ (by omega) ⟨by omega, hl, hP, hD, hS⟩
  refine lv_iload hx hb d_M_setRank_55 (lv_at hl 4 rfl) ?_
  refine lv_iconst (v := nI 1) hx hb d_M_setRank_57 (by decide) ?_
  refine lv_iadd hx hb d_M_setRank_58 ?_
  refine xn_i (y := nI ((lsn n k q j) + 1)) (nI_add _ _) ?_
  refine lv_goto (tgt := 64) hx hb d_M_setRank_59 rfl ?_
  refine lv_istore hx hb d_M_setRank_64 hl (by decide) rfl (fun ls hl => ?_)
  have hl : lv_has ls 6 [(4, .int (nI ((lsn n k q j) + 1))), (0, .ref xM), (1, .int (nI i)), (2, .int (nI (hr n k q))), (3, .int (nI q)), (5, .int (nI (q + 1 + j)))] := hl
  refine lv_iinc (k := 5) (v := nI (q + 1 + j + 1)) hx hb d_M_setRank_66 hl rfl (xi_1 _) (by decide) rfl (fun ls hl => ?_)
  have hl : lv_has ls 6 [(5, .int (nI (q + 1 + j + 1))), (4, .int (nI ((lsn n k q j) + 1))), (0, .ref xM), (1, .int (nI i)), (2, .int (nI (hr n k q))), (3, .int (nI q))] := hl
  refine lv_goto (tgt := 20) hx hb d_M_setRank_69 rfl ?_
  have hl : lv_has ls 6 [(0, .ref xM), (1, .int (nI i)), (2, .int (nI (hr n k q))), (3, .int (nI q)), (4, .int (nI (lsn n k q (j + 1)))), (5, .int (nI (q + 1 + (j + 1))))] := lv_sub hl [2, 3, 4, 5, 1, 0] (by rw [lsn_s]; first | rw [if_pos h52] <;> rfl | rw [if_neg (Nat.not_lt.mpr h52)] <;> rfl)
  have hP := hP.sub (ws' := [(xM, .inr (6, [.int cd, .int (nI n), .ref xK, .ref xV, .int (nI ln), .ref xC, .ref xH, .int (nI ct), .ref xT, .ref xP, .int (nI lk), .ref xB, .ref xR, .ref xL, .ref xN, .ref xQ, .int (nI rp.toNat)])), (xB, .inl (cI, 4326, .inl B)), (xR, .inl (cI, 721, .inl Rk))]) [0, 1, 2] rfl
  have hD := hD.sub (ws' := [(xM, .inr (6, [.int cd, .int (nI n), .ref xK, .ref xV, .int (nI ln), .ref xC, .ref xH, .int (nI ct), .ref xT, .ref xP, .int (nI lk), .ref xB, .ref xR, .ref xL, .ref xN, .ref xQ, .int (nI rp.toNat)])), (xB, .inl (cI, 4326, .inl B)), (xR, .inl (cI, 721, .inl Rk))]) [0, 1, 2] (by decide) rfl
  exact ih1 (j + 1) _ _ _ (by omega) ⟨by omega, hl, hP, hD, hS⟩
set_option maxHeartbeats 4000000 in
set_option maxRecDepth 100000 in
theorem c_M_ring (xM : Nat) (cd : Int32) (n : Nat) (xK : Nat) (xV : Nat) (ln : Nat) (xC : Nat) (xH : Nat) (ct : Nat) (xT : Nat) (xP : Nat) (lk : Nat) (xB : Nat) (xR : Nat) (xL : Nat) (xN : Nat) (xQ : Nat) (rp : Bool) (B : Nat → Int32) (Rk : Nat → Int32) (i : Nat) (w : Nat) (k : Nat) (hn : nb n) (hk : k < fa n) (hw : gd n w = true) (hB : bh n i k B) (hi : i < 720) : CtV l y_M_ring (w_M_ring) ({ frames := 1, cells := 0, slots := 0, locals := 25 }) D vwCl (TYs cI cZ cJ cG) (gG tF) [.ref xM, .int (nI i), .int (nI w)] [(xM, .inr (6, [.int cd, .int (nI n), .ref xK, .ref xV, .int (nI ln), .ref xC, .ref xH, .int (nI ct), .ref xT, .ref xP, .int (nI lk), .ref xB, .ref xR, .ref xL, .ref xN, .ref xQ, .int (nI rp.toNat)])), (xB, .inl (cI, 4326, .inl B)), (xR, .inl (cI, 721, .inl Rk))] 0 0 (fun B2 : (Nat → Int32) => [(xM, .inr (6, [.int cd, .int (nI n), .ref xK, .ref xV, .int (nI ln), .ref xC, .ref xH, .int (nI ct), .ref xT, .ref xP, .int (nI lk), .ref xB, .ref xR, .ref xL, .ref xN, .ref xQ, .int (nI rp.toNat)])), (xB, .inl (cI, 4326, .inl B2)), (xR, .inl (cI, 721, .inl (upd Rk (i + 1) (nI (ch n w k)))))]) (fun B2 : (Nat → Int32) => (bh n (i + 1) (ch n w k) B2) ∧ (∀ q, q < 6 * i + 6 → B2 q = B q)) := by
  refine CtV.of (cc := b_M_ring) (maxL := 5) (ret := none) (by decide) rfl (Nat.le_of_ble_eq_true rfl) ?_
  intro p e s m args below meth c A ls hF hA hP hK hD hg hS hl
  obtain ⟨hx, hb, hrt, hlk, hml, hown, hts, hnm⟩ := hF
  have hown : s.vm.findClass R_M = some m.cls := hown
  have hl : lv_has ls 5 [(0, .ref xM), (1, .int (nI i)), (2, .int (nI w))] := hl
  have hn4 : 4 ≤ n := hn.1
  have hn6 : n ≤ 6 := hn.2
  have hfa : fa n ≤ 720 := fa_le hn
  refine lv_iconst (v := nI 0) hx hb d_M_ring_0 (by decide) ?_
  refine lv_istore_n hx hb d_M_ring_1 rfl hl (by decide) rfl (fun ls hl => ?_)
  have hl : lv_has ls 5 [(3, .int (nI 0)), (0, .ref xM), (1, .int (nI i)), (2, .int (nI w))] := hl
  have hl : lv_has ls 5 [(0, .ref xM), (1, .int (nI i)), (2, .int (nI w)), (3, .int (nI 0))] := lv_sub hl [1, 2, 3, 0] rfl
  have hP := hP.sub (ws' := [(xM, .inr (6, [.int cd, .int (nI n), .ref xK, .ref xV, .int (nI ln), .ref xC, .ref xH, .int (nI ct), .ref xT, .ref xP, .int (nI lk), .ref xB, .ref xR, .ref xL, .ref xN, .ref xQ, .int (nI rp.toNat)])), (xB, .inl (cI, 4326, .inl B)), (xR, .inl (cI, 721, .inl Rk))]) [0, 1, 2] rfl
  have hD := hD.sub (ws' := [(xM, .inr (6, [.int cd, .int (nI n), .ref xK, .ref xV, .int (nI ln), .ref xC, .ref xH, .int (nI ct), .ref xT, .ref xP, .int (nI lk), .ref xB, .ref xR, .ref xL, .ref xN, .ref xQ, .int (nI rp.toNat)])), (xB, .inl (cI, 4326, .inl B)), (xR, .inl (cI, 721, .inl Rk))]) [0, 1, 2] (by decide) rfl
  refine xn_pc (pc2 := 2) rfl ?_
  refine xl_2 (fun (q : Nat) (g : Nat → Int32) ls H locs => (q ≤ n) ∧ (q < n → st w q = true) ∧ (∀ j, j < q → g (6 * i + 6 + j) = nI (ro n k (pt w j))) ∧ (∀ j, j < 6 * i + 6 → g j = B j) ∧ lv_has ls 5 [(0, .ref xM), (1, .int (nI i)), (2, .int (nI w)), (3, .int (nI q))] ∧ va_P D vwCl [(xM, .inr (6, [.int cd, .int (nI n), .ref xK, .ref xV, .int (nI ln), .ref xC, .ref xH, .int (nI ct), .ref xT, .ref xP, .int (nI lk), .ref xB, .ref xR, .ref xL, .ref xN, .ref xQ, .int (nI rp.toNat)])), (xB, .inl (cI, 4326, .inl g)), (xR, .inl (cI, 721, .inl Rk))] H ∧ va_D A [(xM, .inr (6, [.int cd, .int (nI n), .ref xK, .ref xV, .int (nI ln), .ref xC, .ref xH, .int (nI ct), .ref xT, .ref xP, .int (nI lk), .ref xB, .ref xR, .ref xL, .ref xN, .ref xQ, .int (nI rp.toNat)])), (xB, .inl (cI, 4326, .inl g)), (xR, .inl (cI, 721, .inl Rk))] ∧ va_S A s.heap H locs) (fun (q : Nat) (g : Nat → Int32) => n - q) (fun q g ls H locs hI ih => ?_) 0 B ⟨Nat.zero_le n, fun _ => st_0 hn hw, fun j hj => absurd hj (Nat.not_lt_zero j), fun j _ => rfl, hl, hP, hD, hS⟩
  obtain ⟨hi1, hi2, hi3, hi4, hl, hP, hD, hS⟩ := hI
  refine lv_iload_n hx hb d_M_ring_2 rfl (lv_at hl 3 rfl) ?_
  refine lv_aload_n hx hb d_M_ring_3 rfl (lv_at hl 0 rfl) ?_
  refine va_get (D := D) (ci := 6) (v := .int (nI n)) (C := R_M) (T := F_M) (N := 17) hx hb hts in_M hown hK hP 0 rfl rfl 1 (by decide) (hts _ (List.mem_cons_of_mem _ k_584)) (fun _ h9 => h9) rfl d_M_ring_4 ?_
  refine xb_cge hx hb 120 (by omega) (by omega) d_M_ring_7 rfl (fun h7 => ?_) (fun h7 => ?_)
  · skip
    refine lv_aload_n hx hb d_M_ring_120 rfl (lv_at hl 0 rfl) ?_
    refine lv_iload_n hx hb d_M_ring_121 rfl (lv_at hl 1 rfl) ?_
    refine lv_iconst (v := nI 1) hx hb d_M_ring_122 (by decide) ?_
    refine lv_iadd hx hb d_M_ring_123 ?_
    refine xn_i (y := nI (i + 1)) (nI_add _ _) ?_
    refine xc_v (wc := [(xM, .inr (6, [.int cd, .int (nI n), .ref xK, .ref xV, .int (nI ln), .ref xC, .ref xH, .int (nI ct), .ref xT, .ref xP, .int (nI lk), .ref xB, .ref xR, .ref xL, .ref xN, .ref xQ, .int (nI rp.toNat)])), (xB, .inl (cI, 4326, .inl g)), (xR, .inl (cI, 721, .inl Rk))]) (wr := []) (gG_ok tF) hK hP hD hS hA hg [0, 1, 2] [] rfl rfl (by decide) (by decide) (by decide) (fun h1 h2 => va_runV (As := [.int (nI (i + 1))]) (rest := []) ⟨hx, hb, hml, hown, hts⟩ (c_M_setRank xM cd n xK xV ln xC xH ct xT xP lk xB xR xL xN xQ rp g Rk (i + 1) (ch n w k) hn (ch_lt hn hw hk) (rg_n hn hw hk hi3 (by omega)) (by omega) _) (cwV 1 hts (gV k_672 k_674 ks_M_setRank k_7 k_675) rfl rfl rfl (by decide +kernel) ⟨Nat.le_of_ble_eq_true rfl, Nat.le_of_ble_eq_true rfl⟩) ⟨h1, va_recv (q0 := 0) (ci := 6) hK hP rfl rfl, h2⟩ rfl rfl hl.1 rfl (lv_room (Nat.le_of_ble_eq_true rfl)) d_M_ring_124 ⟨Nat.zero_le _, Nat.zero_le _⟩) (fun u H locs hq9 hP hD hS => ?_)
    have hP : va_P D vwCl [(xM, .inr (6, [.int cd, .int (nI n), .ref xK, .ref xV, .int (nI ln), .ref xC, .ref xH, .int (nI ct), .ref xT, .ref xP, .int (nI lk), .ref xB, .ref xR, .ref xL, .ref xN, .ref xQ, .int (nI rp.toNat)])), (xB, .inl (cI, 4326, .inl g)), (xR, .inl (cI, 721, .inl (upd Rk (i + 1) (nI (ch n w k)))))] H := hP
    have hD : va_D A [(xM, .inr (6, [.int cd, .int (nI n), .ref xK, .ref xV, .int (nI ln), .ref xC, .ref xH, .int (nI ct), .ref xT, .ref xP, .int (nI lk), .ref xB, .ref xR, .ref xL, .ref xN, .ref xQ, .int (nI rp.toNat)])), (xB, .inl (cI, 4326, .inl g)), (xR, .inl (cI, 721, .inl (upd Rk (i + 1) (nI (ch n w k)))))] := hD
    exact xr_v hx hb hrt hlk hP hD hS g [0, 1, 2] (by decide) rfl (⟨rg_n hn hw hk hi3 (by omega), hi4⟩) d_M_ring_127
  refine lv_iload_n hx hb d_M_ring_10 rfl (lv_at hl 2 rfl) ?_
  refine lv_iload_n hx hb d_M_ring_11 rfl (lv_at hl 3 rfl) ?_
  refine lv_ishr hx hb d_M_ring_12 ?_
  refine lv_iconst (v := nI 1) hx hb d_M_ring_13 (by decide) ?_
  refine lv_iand hx hb d_M_ring_14 ?_
  refine xn_i (y := nI ((w >>> q) % 2)) (xs_mb (gd_lt hw) (by omega)) ?_
  refine lv_iconst (v := nI 1) hx hb d_M_ring_15 (by decide) ?_
  refine xb_cne hx hb 23 (by omega) (by omega) d_M_ring_16 rfl (fun h16 => ?_) (fun h16 => ?_)
  · obtain ⟨hs1, hs2, hs3, hs4⟩ : q + 1 < n ∧ pt w q = q + 1 ∧ pt w (q + 1) = q ∧ (q + 2 < n → st w (q + 2) = true) := by
      rcases st_at hn hw h7 (hi2 h7) with ⟨h1, -⟩ | ⟨-, h1⟩
      · exact absurd h1 h16
      · exact h1
    refine lv_iconst (v := nI 0) hx hb d_M_ring_23 (by decide) ?_
    refine lv_istore hx hb d_M_ring_24 hl (by decide) rfl (fun ls hl => ?_)
    have hl : lv_has ls 5 [(4, .int (nI 0)), (0, .ref xM), (1, .int (nI i)), (2, .int (nI w)), (3, .int (nI q))] := hl
    refine lv_aload_n hx hb d_M_ring_26 rfl (lv_at hl 1 rfl) ?_
    refine va_get (D := D) (ci := 6) (v := .ref xB) (C := R_M) (T := F_M) (N := 17) hx hb hts in_M hown hK hP 0 rfl rfl 11 (by decide) (hts _ (List.mem_cons_of_mem _ k_594)) (fun _ h9 => h9) rfl d_M_ring_27 ?_
    refine lv_bipush (v := nI 6) hx hb d_M_ring_30 (by decide) ?_
    refine lv_iload_n hx hb d_M_ring_32 rfl (lv_at hl 2 rfl) ?_
    refine lv_imul hx hb d_M_ring_33 ?_
    refine xn_i (y := nI (6 * i)) (pk_mul _ _) ?_
    refine lv_bipush (v := nI 6) hx hb d_M_ring_34 (by decide) ?_
    refine lv_iadd hx hb d_M_ring_36 ?_
    refine xn_i (y := nI ((6 * i) + 6)) (nI_add _ _) ?_
    refine lv_iload_n hx hb d_M_ring_37 rfl (lv_at hl 4 rfl) ?_
    refine lv_iadd hx hb d_M_ring_38 ?_
    refine xn_i (y := nI (((6 * i) + 6) + q)) (nI_add _ _) ?_
    refine lv_iload hx hb d_M_ring_39 (lv_at hl 0 rfl) ?_
    refine xb_eq hx hb 58 (by decide) d_M_ring_41 rfl (fun _ => ?_) (fun h => absurd h (by decide))
    refine lv_aload_n hx hb d_M_ring_58 rfl (lv_at hl 1 rfl) ?_
    refine va_get (D := D) (ci := 6) (v := .ref xB) (C := R_M) (T := F_M) (N := 17) hx hb hts in_M hown hK hP 0 rfl rfl 11 (by decide) (hts _ (List.mem_cons_of_mem _ k_594)) (fun _ h9 => h9) rfl d_M_ring_59 ?_
    refine lv_bipush (v := nI 6) hx hb d_M_ring_62 (by decide) ?_
    refine lv_iload_n hx hb d_M_ring_64 rfl (lv_at hl 2 rfl) ?_
    refine lv_imul hx hb d_M_ring_65 ?_
    refine xn_i (y := nI (6 * i)) (pk_mul _ _) ?_
    refine lv_iload_n hx hb d_M_ring_66 rfl (lv_at hl 4 rfl) ?_
    refine lv_iadd hx hb d_M_ring_67 ?_
    refine xn_i (y := nI ((6 * i) + q)) (nI_add _ _) ?_
    refine lv_iconst (v := nI 1) hx hb d_M_ring_68 (by decide) ?_
    refine lv_iadd hx hb d_M_ring_69 ?_
    refine xn_i (y := nI (((6 * i) + q) + 1)) (nI_add _ _) ?_
    refine xa_iald (v := nI (ro n k (q + 1))) hx hb hK hP 1 0 rfl rfl (by omega) (by decide) (by rw [hi4 _ (by omega)]; exact hB (q + 1) hs1) d_M_ring_70 ?_
    refine xa_iast hx hb hK hP hD hS 1 0 rfl rfl (by omega) (by decide) d_M_ring_71 (fun H locs hP hD hS => ?_)
    have hP : va_P D vwCl [(xM, .inr (6, [.int cd, .int (nI n), .ref xK, .ref xV, .int (nI ln), .ref xC, .ref xH, .int (nI ct), .ref xT, .ref xP, .int (nI lk), .ref xB, .ref xR, .ref xL, .ref xN, .ref xQ, .int (nI rp.toNat)])), (xB, .inl (cI, 4326, .inl (upd g (((6 * i) + 6) + q) (nI (ro n k (q + 1)))))), (xR, .inl (cI, 721, .inl Rk))] H := hP
    have hD : va_D A [(xM, .inr (6, [.int cd, .int (nI n), .ref xK, .ref xV, .int (nI ln), .ref xC, .ref xH, .int (nI ct), .ref xT, .ref xP, .int (nI lk), .ref xB, .ref xR, .ref xL, .ref xN, .ref xQ, .int (nI rp.toNat)])), (xB, .inl (cI, 4326, .inl (upd g (((6 * i) + 6) + q) (nI (ro n k (q + 1)))))), (xR, .inl (cI, 721, .inl Rk))] := hD
    refine lv_iload hx hb d_M_ring_72 (lv_at hl 0 rfl) ?_
    refine xb_ne hx hb 102 (by decide) d_M_ring_74 rfl (fun h => absurd h (by decide)) (fun _ => ?_)
    refine lv_aload_n hx hb d_M_ring_77 rfl (lv_at hl 1 rfl) ?_
    refine va_get (D := D) (ci := 6) (v := .ref xB) (C := R_M) (T := F_M) (N := 17) hx hb hts in_M hown hK hP 0 rfl rfl 11 (by decide) (hts _ (List.mem_cons_of_mem _ k_594)) (fun _ h9 => h9) rfl d_M_ring_78 ?_
    refine lv_bipush (v := nI 6) hx hb d_M_ring_81 (by decide) ?_
    refine lv_iload_n hx hb d_M_ring_83 rfl (lv_at hl 2 rfl) ?_
    refine lv_imul hx hb d_M_ring_84 ?_
    refine xn_i (y := nI (6 * i)) (pk_mul _ _) ?_
    refine lv_bipush (v := nI 7) hx hb d_M_ring_85 (by decide) ?_
    refine lv_iadd hx hb d_M_ring_87 ?_
    refine xn_i (y := nI ((6 * i) + 7)) (nI_add _ _) ?_
    refine lv_iload_n hx hb d_M_ring_88 rfl (lv_at hl 4 rfl) ?_
    refine lv_iadd hx hb d_M_ring_89 ?_
    refine xn_i (y := nI (((6 * i) + 7) + q)) (nI_add _ _) ?_
    refine lv_aload_n hx hb d_M_ring_90 rfl (lv_at hl 1 rfl) ?_
    refine va_get (D := D) (ci := 6) (v := .ref xB) (C := R_M) (T := F_M) (N := 17) hx hb hts in_M hown hK hP 0 rfl rfl 11 (by decide) (hts _ (List.mem_cons_of_mem _ k_594)) (fun _ h9 => h9) rfl d_M_ring_91 ?_
    refine lv_bipush (v := nI 6) hx hb d_M_ring_94 (by decide) ?_
    refine lv_iload_n hx hb d_M_ring_96 rfl (lv_at hl 2 rfl) ?_
    refine lv_imul hx hb d_M_ring_97 ?_
    refine xn_i (y := nI (6 * i)) (pk_mul _ _) ?_
    refine lv_iload_n hx hb d_M_ring_98 rfl (lv_at hl 4 rfl) ?_
    refine lv_iadd hx hb d_M_ring_99 ?_
    refine xn_i (y := nI ((6 * i) + q)) (nI_add _ _) ?_
    refine xa_iald (v := nI (ro n k q)) hx hb hK hP 1 0 rfl rfl (by omega) (by decide) (by rw [pk_un (by omega), hi4 _ (by omega)]; exact hB q h7) d_M_ring_100 ?_
    refine xa_iast hx hb hK hP hD hS 1 0 rfl rfl (by omega) (by decide) d_M_ring_101 (fun H locs hP hD hS => ?_)
    have hP : va_P D vwCl [(xM, .inr (6, [.int cd, .int (nI n), .ref xK, .ref xV, .int (nI ln), .ref xC, .ref xH, .int (nI ct), .ref xT, .ref xP, .int (nI lk), .ref xB, .ref xR, .ref xL, .ref xN, .ref xQ, .int (nI rp.toNat)])), (xB, .inl (cI, 4326, .inl (upd (upd g (((6 * i) + 6) + q) (nI (ro n k (q + 1)))) (((6 * i) + 7) + q) (nI (ro n k q))))), (xR, .inl (cI, 721, .inl Rk))] H := hP
    have hD : va_D A [(xM, .inr (6, [.int cd, .int (nI n), .ref xK, .ref xV, .int (nI ln), .ref xC, .ref xH, .int (nI ct), .ref xT, .ref xP, .int (nI lk), .ref xB, .ref xR, .ref xL, .ref xN, .ref xQ, .int (nI rp.toNat)])), (xB, .inl (cI, 4326, .inl (upd (upd g (((6 * i) + 6) + q) (nI (ro n k (q + 1)))) (((6 * i) + 7) + q) (nI (ro n k q))))), (xR, .inl (cI, 721, .inl Rk))] := hD
    refine lv_iload hx hb d_M_ring_102 (lv_at hl 0 rfl) ?_
    refine xb_eq hx hb 113 (by decide) d_M_ring_104 rfl (fun _ => ?_) (fun h => absurd h (by decide))
    refine lv_iload_n hx hb d_M_ring_113 rfl (lv_at hl 4 rfl) ?_
    refine lv_iconst (v := nI 2) hx hb d_M_ring_114 (by decide) ?_
    refine lv_iadd hx hb d_M_ring_115 ?_
    refine xn_i (y := nI (q + 2)) (nI_add _ _) ?_
    refine lv_istore_n hx hb d_M_ring_116 rfl hl (by decide) rfl (fun ls hl => ?_)
    have hl : lv_has ls 5 [(3, .int (nI (q + 2))), (4, .int (nI 0)), (0, .ref xM), (1, .int (nI i)), (2, .int (nI w))] := hl
    refine lv_goto (tgt := 2) hx hb d_M_ring_117 rfl ?_
    have hl : lv_has ls 5 [(0, .ref xM), (1, .int (nI i)), (2, .int (nI w)), (3, .int (nI (q + 2)))] := lv_sub hl [2, 3, 4, 0] rfl
    have hP := hP.sub (ws' := [(xM, .inr (6, [.int cd, .int (nI n), .ref xK, .ref xV, .int (nI ln), .ref xC, .ref xH, .int (nI ct), .ref xT, .ref xP, .int (nI lk), .ref xB, .ref xR, .ref xL, .ref xN, .ref xQ, .int (nI rp.toNat)])), (xB, .inl (cI, 4326, .inl (upd (upd g (((6 * i) + 6) + q) (nI (ro n k (q + 1)))) (((6 * i) + 7) + q) (nI (ro n k q))))), (xR, .inl (cI, 721, .inl Rk))]) [0, 1, 2] rfl
    have hD := hD.sub (ws' := [(xM, .inr (6, [.int cd, .int (nI n), .ref xK, .ref xV, .int (nI ln), .ref xC, .ref xH, .int (nI ct), .ref xT, .ref xP, .int (nI lk), .ref xB, .ref xR, .ref xL, .ref xN, .ref xQ, .int (nI rp.toNat)])), (xB, .inl (cI, 4326, .inl (upd (upd g (((6 * i) + 6) + q) (nI (ro n k (q + 1)))) (((6 * i) + 7) + q) (nI (ro n k q))))), (xR, .inl (cI, 721, .inl Rk))]) [0, 1, 2] (by decide) rfl
    exact ih (q + 2) (upd (upd g (((6 * i) + 6) + q) (nI (ro n k (q + 1)))) (((6 * i) + 7) + q) (nI (ro n k q))) _ _ _ (by omega) ⟨by omega, hs4, rg_2 hi3 hs2 hs3, fun j hj => by rw [pk_un (by omega), pk_un (by omega)]; exact hi4 j hj, hl, hP, hD, hS⟩
  obtain ⟨hs2, hs3⟩ : pt w q = q ∧ (q + 1 < n → st w (q + 1) = true) := by
    rcases st_at hn hw h7 (hi2 h7) with ⟨-, h1⟩ | ⟨h1, -⟩
    · exact h1
    · omega
  refine lv_iconst (v := nI 1) hx hb d_M_ring_19 (by decide) ?_
  refine lv_goto (tgt := 24) hx hb d_M_ring_20 rfl ?_
  refine lv_istore hx hb d_M_ring_24 hl (by decide) rfl (fun ls hl => ?_)
  have hl : lv_has ls 5 [(4, .int (nI 1)), (0, .ref xM), (1, .int (nI i)), (2, .int (nI w)), (3, .int (nI q))] := hl
  refine lv_aload_n hx hb d_M_ring_26 rfl (lv_at hl 1 rfl) ?_
  refine va_get (D := D) (ci := 6) (v := .ref xB) (C := R_M) (T := F_M) (N := 17) hx hb hts in_M hown hK hP 0 rfl rfl 11 (by decide) (hts _ (List.mem_cons_of_mem _ k_594)) (fun _ h9 => h9) rfl d_M_ring_27 ?_
  refine lv_bipush (v := nI 6) hx hb d_M_ring_30 (by decide) ?_
  refine lv_iload_n hx hb d_M_ring_32 rfl (lv_at hl 2 rfl) ?_
  refine lv_imul hx hb d_M_ring_33 ?_
  refine xn_i (y := nI (6 * i)) (pk_mul _ _) ?_
  refine lv_bipush (v := nI 6) hx hb d_M_ring_34 (by decide) ?_
  refine lv_iadd hx hb d_M_ring_36 ?_
  refine xn_i (y := nI ((6 * i) + 6)) (nI_add _ _) ?_
  refine lv_iload_n hx hb d_M_ring_37 rfl (lv_at hl 4 rfl) ?_
  refine lv_iadd hx hb d_M_ring_38 ?_
  refine xn_i (y := nI (((6 * i) + 6) + q)) (nI_add _ _) ?_
  refine lv_iload hx hb d_M_ring_39 (lv_at hl 0 rfl) ?_
  refine xb_eq hx hb 58 (by decide) d_M_ring_41 rfl (fun h => absurd h (by decide)) (fun _ => ?_)
  refine lv_aload_n hx hb d_M_ring_44 rfl (lv_at hl 1 rfl) ?_
  refine va_get (D := D) (ci := 6) (v := .ref xB) (C := R_M) (T := F_M) (N := 17) hx hb hts in_M hown hK hP 0 rfl rfl 11 (by decide) (hts _ (List.mem_cons_of_mem _ k_594)) (fun _ h9 => h9) rfl d_M_ring_45 ?_
  refine lv_bipush (v := nI 6) hx hb d_M_ring_48 (by decide) ?_
  refine lv_iload_n hx hb d_M_ring_50 rfl (lv_at hl 2 rfl) ?_
  refine lv_imul hx hb d_M_ring_51 ?_
  refine xn_i (y := nI (6 * i)) (pk_mul _ _) ?_
  refine lv_iload_n hx hb d_M_ring_52 rfl (lv_at hl 4 rfl) ?_
  refine lv_iadd hx hb d_M_ring_53 ?_
  refine xn_i (y := nI ((6 * i) + q)) (nI_add _ _) ?_
  refine xa_iald (v := nI (ro n k q)) hx hb hK hP 1 0 rfl rfl (by omega) (by decide) (by rw [hi4 _ (by omega)]; exact hB q h7) d_M_ring_54 ?_
  refine lv_goto (tgt := 71) hx hb d_M_ring_55 rfl ?_
  refine xa_iast hx hb hK hP hD hS 1 0 rfl rfl (by omega) (by decide) d_M_ring_71 (fun H locs hP hD hS => ?_)
  have hP : va_P D vwCl [(xM, .inr (6, [.int cd, .int (nI n), .ref xK, .ref xV, .int (nI ln), .ref xC, .ref xH, .int (nI ct), .ref xT, .ref xP, .int (nI lk), .ref xB, .ref xR, .ref xL, .ref xN, .ref xQ, .int (nI rp.toNat)])), (xB, .inl (cI, 4326, .inl (upd g (((6 * i) + 6) + q) (nI (ro n k q))))), (xR, .inl (cI, 721, .inl Rk))] H := hP
  have hD : va_D A [(xM, .inr (6, [.int cd, .int (nI n), .ref xK, .ref xV, .int (nI ln), .ref xC, .ref xH, .int (nI ct), .ref xT, .ref xP, .int (nI lk), .ref xB, .ref xR, .ref xL, .ref xN, .ref xQ, .int (nI rp.toNat)])), (xB, .inl (cI, 4326, .inl (upd g (((6 * i) + 6) + q) (nI (ro n k q))))), (xR, .inl (cI, 721, .inl Rk))] := hD
  refine lv_iload hx hb d_M_ring_72 (lv_at hl 0 rfl) ?_
  refine xb_ne hx hb 102 (by decide) d_M_ring_74 rfl (fun _ => ?_) (fun h => absurd h (by decide))
  refine lv_iload hx hb d_M_ring_102 (lv_at hl 0 rfl) ?_
  refine xb_eq hx hb 113 (by decide) d_M_ring_104 rfl (fun h => absurd h (by decide)) (fun _ => ?_)
  refine lv_iload_n hx hb d_M_ring_107 rfl (lv_at hl 4 rfl) ?_
  refine lv_iconst (v := nI 1) hx hb d_M_ring_108 (by decide) ?_
  refine lv_iadd hx hb d_M_ring_109 ?_
  refine xn_i (y := nI (q + 1)) (nI_add _ _) ?_
  refine lv_goto (tgt := 116) hx hb d_M_ring_110 rfl ?_
  refine lv_istore_n hx hb d_M_ring_116 rfl hl (by decide) rfl (fun ls hl => ?_)
  have hl : lv_has ls 5 [(3, .int (nI (q + 1))), (4, .int (nI 1)), (0, .ref xM), (1, .int (nI i)), (2, .int (nI w))] := hl
  refine lv_goto (tgt := 2) hx hb d_M_ring_117 rfl ?_
  have hl : lv_has ls 5 [(0, .ref xM), (1, .int (nI i)), (2, .int (nI w)), (3, .int (nI (q + 1)))] := lv_sub hl [2, 3, 4, 0] rfl
  have hP := hP.sub (ws' := [(xM, .inr (6, [.int cd, .int (nI n), .ref xK, .ref xV, .int (nI ln), .ref xC, .ref xH, .int (nI ct), .ref xT, .ref xP, .int (nI lk), .ref xB, .ref xR, .ref xL, .ref xN, .ref xQ, .int (nI rp.toNat)])), (xB, .inl (cI, 4326, .inl (upd g (((6 * i) + 6) + q) (nI (ro n k q))))), (xR, .inl (cI, 721, .inl Rk))]) [0, 1, 2] rfl
  have hD := hD.sub (ws' := [(xM, .inr (6, [.int cd, .int (nI n), .ref xK, .ref xV, .int (nI ln), .ref xC, .ref xH, .int (nI ct), .ref xT, .ref xP, .int (nI lk), .ref xB, .ref xR, .ref xL, .ref xN, .ref xQ, .int (nI rp.toNat)])), (xB, .inl (cI, 4326, .inl (upd g (((6 * i) + 6) + q) (nI (ro n k q))))), (xR, .inl (cI, 721, .inl Rk))]) [0, 1, 2] (by decide) rfl
  exact ih (q + 1) (upd g (((6 * i) + 6) + q) (nI (ro n k q))) _ _ _ (by omega) ⟨by omega, hs3, rg_1 hi3 hs2, fun j hj => by rw [pk_un (by omega)]; exact hi4 j hj, hl, hP, hD, hS⟩
set_option maxHeartbeats 4000000 in
set_option maxRecDepth 100000 in
theorem c_M_lead (xM : Nat) (cd : Int32) (n : Nat) (xK : Nat) (xV : Nat) (ln : Nat) (xC : Nat) (xH : Nat) (ct : Nat) (xT : Nat) (xP : Nat) (lk : Nat) (xB : Nat) (xR : Nat) (xL : Nat) (xN : Nat) (xQ : Nat) (rp : Bool) (B : Nat → Int32) (Rk : Nat → Int32) (km : Nat → Int32) (cq : Nat → Int32) (i : Nat) (kd : Nat) (mw : Nat → Nat) (k : Nat) (hn : nb n) (hk : k < fa n) (hB : bh n i k B) (hi : i + ln ≤ 720) (hkd : kd ≤ 2) (hln : ln ≤ 24) (hm : gmr n ln km cq kd mw) : CtV l y_M_lead (w_M_lead) ({ frames := 2, cells := 0, slots := 0, locals := 49 }) D vwCl (TYs cI cZ cJ cG) (gG tF) [.ref xM, .int (nI i), .int (nI kd)] [(xM, .inr (6, [.int cd, .int (nI n), .ref xK, .ref xV, .int (nI ln), .ref xC, .ref xH, .int (nI ct), .ref xT, .ref xP, .int (nI lk), .ref xB, .ref xR, .ref xL, .ref xN, .ref xQ, .int (nI rp.toNat)])), (xK, .inl (cI, 24, .inl km)), (xC, .inl (cI, 3, .inl cq)), (xB, .inl (cI, 4326, .inl B)), (xR, .inl (cI, 721, .inl Rk))] 0 0 (fun u : (Nat → Int32) × (Nat → Int32) => match u with | (B2, Rk2) => [(xM, .inr (6, [.int cd, .int (nI n), .ref xK, .ref xV, .int (nI ln), .ref xC, .ref xH, .int (nI ct), .ref xT, .ref xP, .int (nI lk), .ref xB, .ref xR, .ref xL, .ref xN, .ref xQ, .int (nI rp.toNat)])), (xK, .inl (cI, 24, .inl km)), (xC, .inl (cI, 3, .inl cq)), (xB, .inl (cI, 4326, .inl B2)), (xR, .inl (cI, 721, .inl Rk2))]) (fun u : (Nat → Int32) × (Nat → Int32) => match u with | (B2, Rk2) => (∀ a, a ≤ ln → bh n (i + a) (ld n mw k a) B2) ∧ (∀ a, 1 ≤ a → a ≤ ln → Rk2 (i + a) = nI (ld n mw k a)) ∧ (∀ q, q < 6 * i + 6 → B2 q = B q) ∧ (∀ a, a ≤ i → Rk2 a = Rk a)) := by
  refine CtV.of (cc := b_M_lead) (maxL := 4) (ret := none) (by decide) rfl (Nat.le_of_ble_eq_true rfl) ?_
  intro p e s m args below meth c A ls hF hA hP hK hD hg hS hl
  obtain ⟨hx, hb, hrt, hlk, hml, hown, hts, hnm⟩ := hF
  have hown : s.vm.findClass R_M = some m.cls := hown
  have hl : lv_has ls 4 [(0, .ref xM), (1, .int (nI i)), (2, .int (nI kd))] := hl
  have hn4 : 4 ≤ n := hn.1
  have hn6 : n ≤ 6 := hn.2
  have hfa : fa n ≤ 720 := fa_le hn
  have hlt : ∀ j, j ≤ ln → ld n mw k j < fa n := ld_lt hn (fun j hj => (hm j hj).2) hk
  refine lv_iconst (v := nI 0) hx hb d_M_lead_0 (by decide) ?_
  refine lv_istore_n hx hb d_M_lead_1 rfl hl (by decide) rfl (fun ls hl => ?_)
  have hl : lv_has ls 4 [(3, .int (nI 0)), (0, .ref xM), (1, .int (nI i)), (2, .int (nI kd))] := hl
  have hl : lv_has ls 4 [(0, .ref xM), (1, .int (nI i)), (2, .int (nI kd)), (3, .int (nI 0))] := lv_sub hl [1, 2, 3, 0] rfl
  have hP := hP.sub (ws' := [(xM, .inr (6, [.int cd, .int (nI n), .ref xK, .ref xV, .int (nI ln), .ref xC, .ref xH, .int (nI ct), .ref xT, .ref xP, .int (nI lk), .ref xB, .ref xR, .ref xL, .ref xN, .ref xQ, .int (nI rp.toNat)])), (xK, .inl (cI, 24, .inl km)), (xC, .inl (cI, 3, .inl cq)), (xB, .inl (cI, 4326, .inl B)), (xR, .inl (cI, 721, .inl Rk))]) [0, 1, 2, 3, 4] rfl
  have hD := hD.sub (ws' := [(xM, .inr (6, [.int cd, .int (nI n), .ref xK, .ref xV, .int (nI ln), .ref xC, .ref xH, .int (nI ct), .ref xT, .ref xP, .int (nI lk), .ref xB, .ref xR, .ref xL, .ref xN, .ref xQ, .int (nI rp.toNat)])), (xK, .inl (cI, 24, .inl km)), (xC, .inl (cI, 3, .inl cq)), (xB, .inl (cI, 4326, .inl B)), (xR, .inl (cI, 721, .inl Rk))]) [0, 1, 2, 3, 4] (by decide) rfl
  refine xn_pc (pc2 := 2) rfl ?_
  refine xl_3 (fun (j : Nat) (B2 : Nat → Int32) (Rk2 : Nat → Int32) ls H locs => (j ≤ ln) ∧ (∀ a, a ≤ j → bh n (i + a) (ld n mw k a) B2) ∧ (∀ a, 1 ≤ a → a ≤ j → Rk2 (i + a) = nI (ld n mw k a)) ∧ (∀ q, q < 6 * i + 6 → B2 q = B q) ∧ (∀ a, a ≤ i → Rk2 a = Rk a) ∧ lv_has ls 4 [(0, .ref xM), (1, .int (nI i)), (2, .int (nI kd)), (3, .int (nI j))] ∧ va_P D vwCl [(xM, .inr (6, [.int cd, .int (nI n), .ref xK, .ref xV, .int (nI ln), .ref xC, .ref xH, .int (nI ct), .ref xT, .ref xP, .int (nI lk), .ref xB, .ref xR, .ref xL, .ref xN, .ref xQ, .int (nI rp.toNat)])), (xK, .inl (cI, 24, .inl km)), (xC, .inl (cI, 3, .inl cq)), (xB, .inl (cI, 4326, .inl B2)), (xR, .inl (cI, 721, .inl Rk2))] H ∧ va_D A [(xM, .inr (6, [.int cd, .int (nI n), .ref xK, .ref xV, .int (nI ln), .ref xC, .ref xH, .int (nI ct), .ref xT, .ref xP, .int (nI lk), .ref xB, .ref xR, .ref xL, .ref xN, .ref xQ, .int (nI rp.toNat)])), (xK, .inl (cI, 24, .inl km)), (xC, .inl (cI, 3, .inl cq)), (xB, .inl (cI, 4326, .inl B2)), (xR, .inl (cI, 721, .inl Rk2))] ∧ va_S A s.heap H locs) (fun (j : Nat) (B2 : Nat → Int32) (Rk2 : Nat → Int32) => ln - j) (fun j B2 Rk2 ls H locs hI ih => ?_) 0 B Rk ⟨Nat.zero_le ln, fun a ha => by rw [show a = 0 by omega]; exact hB, fun a h1 h2 => absurd h2 (by omega), fun q _ => rfl, fun a _ => rfl, hl, hP, hD, hS⟩
  obtain ⟨hi1, hi2, hi3, hi4, hi5, hl, hP, hD, hS⟩ := hI
  refine lv_iload_n hx hb d_M_lead_2 rfl (lv_at hl 3 rfl) ?_
  refine lv_aload_n hx hb d_M_lead_3 rfl (lv_at hl 0 rfl) ?_
  refine va_get (D := D) (ci := 6) (v := .int (nI ln)) (C := R_M) (T := F_M) (N := 17) hx hb hts in_M hown hK hP 0 rfl rfl 4 (by decide) (hts _ (List.mem_cons_of_mem _ k_587)) (fun _ h9 => h9) rfl d_M_lead_4 ?_
  refine xb_cge hx hb 52 (by omega) (by omega) d_M_lead_7 rfl (fun h7 => ?_) (fun h7 => ?_)
  · skip
    have ej : j = ln := by omega
    rw [ej] at hi2 hi3
    exact xr_v hx hb hrt hlk hP hD hS (B2, Rk2) [0, 1, 2, 3, 4] (by decide) rfl (⟨hi2, hi3, hi4, hi5⟩) d_M_lead_52
  refine lv_aload_n hx hb d_M_lead_10 rfl (lv_at hl 0 rfl) ?_
  refine lv_iload_n hx hb d_M_lead_11 rfl (lv_at hl 1 rfl) ?_
  refine lv_iload_n hx hb d_M_lead_12 rfl (lv_at hl 3 rfl) ?_
  refine lv_iadd hx hb d_M_lead_13 ?_
  refine xn_i (y := nI (i + j)) (nI_add _ _) ?_
  refine lv_iload_n hx hb d_M_lead_14 rfl (lv_at hl 2 rfl) ?_
  refine xb_le hx hb 37 (by omega) d_M_lead_15 rfl (fun h15 => ?_) (fun h15 => ?_)
  · skip
    refine lv_aload_n hx hb d_M_lead_37 rfl (lv_at hl 0 rfl) ?_
    refine va_get (D := D) (ci := 6) (v := .ref xK) (C := R_M) (T := F_M) (N := 17) hx hb hts in_M hown hK hP 0 rfl rfl 2 (by decide) (hts _ (List.mem_cons_of_mem _ k_585)) (fun _ h9 => h9) rfl d_M_lead_38 ?_
    refine lv_iload_n hx hb d_M_lead_41 rfl (lv_at hl 3 rfl) ?_
    refine xa_iald (v := nI (mw j)) hx hb hK hP 1 0 rfl rfl (by omega) (by decide) (by have h9 := (hm j h7).1; rw [if_neg (fun h => by first | omega | exact h25 h.2)] at h9; exact h9) d_M_lead_42 ?_
    refine xc_v (wc := [(xM, .inr (6, [.int cd, .int (nI n), .ref xK, .ref xV, .int (nI ln), .ref xC, .ref xH, .int (nI ct), .ref xT, .ref xP, .int (nI lk), .ref xB, .ref xR, .ref xL, .ref xN, .ref xQ, .int (nI rp.toNat)])), (xB, .inl (cI, 4326, .inl B2)), (xR, .inl (cI, 721, .inl Rk2))]) (wr := [(xK, .inl (cI, 24, .inl km)), (xC, .inl (cI, 3, .inl cq))]) (gG_ok tF) hK hP hD hS hA hg [0, 3, 4] [1, 2] rfl rfl (by decide) (by decide) (by decide) (fun h1 h2 => va_runV (As := [.int (nI (i + j)), .int (nI (mw j))]) (rest := []) ⟨hx, hb, hml, hown, hts⟩ (c_M_ring xM cd n xK xV ln xC xH ct xT xP lk xB xR xL xN xQ rp B2 Rk2 (i + j) (mw j) (ld n mw k j) hn (hlt j hi1) ((hm j h7).2) (hi2 j (Nat.le_refl j)) (by omega) _) (cwV 2 hts (gV k_668 k_670 ks_M_ring k_7 k_671) rfl rfl rfl (by decide +kernel) ⟨Nat.le_of_ble_eq_true rfl, Nat.le_of_ble_eq_true rfl⟩) ⟨h1, va_recv (q0 := 0) (ci := 6) hK hP rfl rfl, h2⟩ rfl rfl hl.1 rfl (lv_room (Nat.le_of_ble_eq_true rfl)) d_M_lead_43 ⟨Nat.zero_le _, Nat.zero_le _⟩) (fun B3 H locs hq9 hP hD hS => ?_)
    obtain ⟨hw43_0, hw43_1⟩ := hq9
    have hP : va_P D vwCl [(xK, .inl (cI, 24, .inl km)), (xC, .inl (cI, 3, .inl cq)), (xM, .inr (6, [.int cd, .int (nI n), .ref xK, .ref xV, .int (nI ln), .ref xC, .ref xH, .int (nI ct), .ref xT, .ref xP, .int (nI lk), .ref xB, .ref xR, .ref xL, .ref xN, .ref xQ, .int (nI rp.toNat)])), (xB, .inl (cI, 4326, .inl B3)), (xR, .inl (cI, 721, .inl (upd Rk2 ((i + j) + 1) (nI (ch n (mw j) (ld n mw k j))))))] H := hP
    have hD : va_D A [(xK, .inl (cI, 24, .inl km)), (xC, .inl (cI, 3, .inl cq)), (xM, .inr (6, [.int cd, .int (nI n), .ref xK, .ref xV, .int (nI ln), .ref xC, .ref xH, .int (nI ct), .ref xT, .ref xP, .int (nI lk), .ref xB, .ref xR, .ref xL, .ref xN, .ref xQ, .int (nI rp.toNat)])), (xB, .inl (cI, 4326, .inl B3)), (xR, .inl (cI, 721, .inl (upd Rk2 ((i + j) + 1) (nI (ch n (mw j) (ld n mw k j))))))] := hD
    refine lv_iinc (k := 3) (v := nI (j + 1)) hx hb d_M_lead_46 hl rfl (xi_1 _) (by decide) rfl (fun ls hl => ?_)
    have hl : lv_has ls 4 [(3, .int (nI (j + 1))), (0, .ref xM), (1, .int (nI i)), (2, .int (nI kd))] := hl
    refine lv_goto (tgt := 2) hx hb d_M_lead_49 rfl ?_
    have hl : lv_has ls 4 [(0, .ref xM), (1, .int (nI i)), (2, .int (nI kd)), (3, .int (nI (j + 1)))] := lv_sub hl [1, 2, 3, 0] rfl
    have hP := hP.sub (ws' := [(xM, .inr (6, [.int cd, .int (nI n), .ref xK, .ref xV, .int (nI ln), .ref xC, .ref xH, .int (nI ct), .ref xT, .ref xP, .int (nI lk), .ref xB, .ref xR, .ref xL, .ref xN, .ref xQ, .int (nI rp.toNat)])), (xK, .inl (cI, 24, .inl km)), (xC, .inl (cI, 3, .inl cq)), (xB, .inl (cI, 4326, .inl B3)), (xR, .inl (cI, 721, .inl (upd Rk2 ((i + j) + 1) (nI (ch n (mw j) (ld n mw k j))))))]) [2, 0, 1, 3, 4] rfl
    have hD := hD.sub (ws' := [(xM, .inr (6, [.int cd, .int (nI n), .ref xK, .ref xV, .int (nI ln), .ref xC, .ref xH, .int (nI ct), .ref xT, .ref xP, .int (nI lk), .ref xB, .ref xR, .ref xL, .ref xN, .ref xQ, .int (nI rp.toNat)])), (xK, .inl (cI, 24, .inl km)), (xC, .inl (cI, 3, .inl cq)), (xB, .inl (cI, 4326, .inl B3)), (xR, .inl (cI, 721, .inl (upd Rk2 ((i + j) + 1) (nI (ch n (mw j) (ld n mw k j))))))]) [2, 0, 1, 3, 4] (by decide) rfl
    exact ih (j + 1) B3 (upd Rk2 ((i + j) + 1) (nI (ch n (mw j) (ld n mw k j)))) _ _ _ (by omega) ⟨h7, fun a ha => by rcases Nat.lt_or_eq_of_le ha with h | h; exact bh_keep hn (hi2 a (by omega)) (fun q hq => hw43_1 q (by omega)); rw [h]; exact hw43_0, fun a h1 h2 => by rcases Nat.lt_or_eq_of_le h2 with h | h; rw [pk_un (by omega)]; exact hi3 a h1 (by omega); rw [h]; exact pk_us, fun q hq => by rw [hw43_1 q (by omega)]; exact hi4 q hq, fun a ha => by rw [pk_un (by omega)]; exact hi5 a ha, hl, hP, hD, hS⟩
  refine lv_iload_n hx hb d_M_lead_18 rfl (lv_at hl 3 rfl) ?_
  refine lv_aload_n hx hb d_M_lead_19 rfl (lv_at hl 0 rfl) ?_
  refine va_get (D := D) (ci := 6) (v := .int (nI ln)) (C := R_M) (T := F_M) (N := 17) hx hb hts in_M hown hK hP 0 rfl rfl 4 (by decide) (hts _ (List.mem_cons_of_mem _ k_587)) (fun _ h9 => h9) rfl d_M_lead_20 ?_
  refine lv_iconst (v := nI 1) hx hb d_M_lead_23 (by decide) ?_
  refine lv_isub hx hb d_M_lead_24 ?_
  refine xn_i (y := nI (ln - 1)) (pk_sub (by omega)) ?_
  refine xb_cne hx hb 37 (by omega) (by omega) d_M_lead_25 rfl (fun h25 => ?_) (fun h25 => ?_)
  · skip
    refine lv_aload_n hx hb d_M_lead_37 rfl (lv_at hl 0 rfl) ?_
    refine va_get (D := D) (ci := 6) (v := .ref xK) (C := R_M) (T := F_M) (N := 17) hx hb hts in_M hown hK hP 0 rfl rfl 2 (by decide) (hts _ (List.mem_cons_of_mem _ k_585)) (fun _ h9 => h9) rfl d_M_lead_38 ?_
    refine lv_iload_n hx hb d_M_lead_41 rfl (lv_at hl 3 rfl) ?_
    refine xa_iald (v := nI (mw j)) hx hb hK hP 1 0 rfl rfl (by omega) (by decide) (by have h9 := (hm j h7).1; rw [if_neg (fun h => by first | omega | exact h25 h.2)] at h9; exact h9) d_M_lead_42 ?_
    refine xc_v (wc := [(xM, .inr (6, [.int cd, .int (nI n), .ref xK, .ref xV, .int (nI ln), .ref xC, .ref xH, .int (nI ct), .ref xT, .ref xP, .int (nI lk), .ref xB, .ref xR, .ref xL, .ref xN, .ref xQ, .int (nI rp.toNat)])), (xB, .inl (cI, 4326, .inl B2)), (xR, .inl (cI, 721, .inl Rk2))]) (wr := [(xK, .inl (cI, 24, .inl km)), (xC, .inl (cI, 3, .inl cq))]) (gG_ok tF) hK hP hD hS hA hg [0, 3, 4] [1, 2] rfl rfl (by decide) (by decide) (by decide) (fun h1 h2 => va_runV (As := [.int (nI (i + j)), .int (nI (mw j))]) (rest := []) ⟨hx, hb, hml, hown, hts⟩ (c_M_ring xM cd n xK xV ln xC xH ct xT xP lk xB xR xL xN xQ rp B2 Rk2 (i + j) (mw j) (ld n mw k j) hn (hlt j hi1) ((hm j h7).2) (hi2 j (Nat.le_refl j)) (by omega) _) (cwV 2 hts (gV k_668 k_670 ks_M_ring k_7 k_671) rfl rfl rfl (by decide +kernel) ⟨Nat.le_of_ble_eq_true rfl, Nat.le_of_ble_eq_true rfl⟩) ⟨h1, va_recv (q0 := 0) (ci := 6) hK hP rfl rfl, h2⟩ rfl rfl hl.1 rfl (lv_room (Nat.le_of_ble_eq_true rfl)) d_M_lead_43 ⟨Nat.zero_le _, Nat.zero_le _⟩) (fun B3 H locs hq9 hP hD hS => ?_)
    obtain ⟨hw43_0, hw43_1⟩ := hq9
    have hP : va_P D vwCl [(xK, .inl (cI, 24, .inl km)), (xC, .inl (cI, 3, .inl cq)), (xM, .inr (6, [.int cd, .int (nI n), .ref xK, .ref xV, .int (nI ln), .ref xC, .ref xH, .int (nI ct), .ref xT, .ref xP, .int (nI lk), .ref xB, .ref xR, .ref xL, .ref xN, .ref xQ, .int (nI rp.toNat)])), (xB, .inl (cI, 4326, .inl B3)), (xR, .inl (cI, 721, .inl (upd Rk2 ((i + j) + 1) (nI (ch n (mw j) (ld n mw k j))))))] H := hP
    have hD : va_D A [(xK, .inl (cI, 24, .inl km)), (xC, .inl (cI, 3, .inl cq)), (xM, .inr (6, [.int cd, .int (nI n), .ref xK, .ref xV, .int (nI ln), .ref xC, .ref xH, .int (nI ct), .ref xT, .ref xP, .int (nI lk), .ref xB, .ref xR, .ref xL, .ref xN, .ref xQ, .int (nI rp.toNat)])), (xB, .inl (cI, 4326, .inl B3)), (xR, .inl (cI, 721, .inl (upd Rk2 ((i + j) + 1) (nI (ch n (mw j) (ld n mw k j))))))] := hD
    refine lv_iinc (k := 3) (v := nI (j + 1)) hx hb d_M_lead_46 hl rfl (xi_1 _) (by decide) rfl (fun ls hl => ?_)
    have hl : lv_has ls 4 [(3, .int (nI (j + 1))), (0, .ref xM), (1, .int (nI i)), (2, .int (nI kd))] := hl
    refine lv_goto (tgt := 2) hx hb d_M_lead_49 rfl ?_
    have hl : lv_has ls 4 [(0, .ref xM), (1, .int (nI i)), (2, .int (nI kd)), (3, .int (nI (j + 1)))] := lv_sub hl [1, 2, 3, 0] rfl
    have hP := hP.sub (ws' := [(xM, .inr (6, [.int cd, .int (nI n), .ref xK, .ref xV, .int (nI ln), .ref xC, .ref xH, .int (nI ct), .ref xT, .ref xP, .int (nI lk), .ref xB, .ref xR, .ref xL, .ref xN, .ref xQ, .int (nI rp.toNat)])), (xK, .inl (cI, 24, .inl km)), (xC, .inl (cI, 3, .inl cq)), (xB, .inl (cI, 4326, .inl B3)), (xR, .inl (cI, 721, .inl (upd Rk2 ((i + j) + 1) (nI (ch n (mw j) (ld n mw k j))))))]) [2, 0, 1, 3, 4] rfl
    have hD := hD.sub (ws' := [(xM, .inr (6, [.int cd, .int (nI n), .ref xK, .ref xV, .int (nI ln), .ref xC, .ref xH, .int (nI ct), .ref xT, .ref xP, .int (nI lk), .ref xB, .ref xR, .ref xL, .ref xN, .ref xQ, .int (nI rp.toNat)])), (xK, .inl (cI, 24, .inl km)), (xC, .inl (cI, 3, .inl cq)), (xB, .inl (cI, 4326, .inl B3)), (xR, .inl (cI, 721, .inl (upd Rk2 ((i + j) + 1) (nI (ch n (mw j) (ld n mw k j))))))]) [2, 0, 1, 3, 4] (by decide) rfl
    exact ih (j + 1) B3 (upd Rk2 ((i + j) + 1) (nI (ch n (mw j) (ld n mw k j)))) _ _ _ (by omega) ⟨h7, fun a ha => by rcases Nat.lt_or_eq_of_le ha with h | h; exact bh_keep hn (hi2 a (by omega)) (fun q hq => hw43_1 q (by omega)); rw [h]; exact hw43_0, fun a h1 h2 => by rcases Nat.lt_or_eq_of_le h2 with h | h; rw [pk_un (by omega)]; exact hi3 a h1 (by omega); rw [h]; exact pk_us, fun q hq => by rw [hw43_1 q (by omega)]; exact hi4 q hq, fun a ha => by rw [pk_un (by omega)]; exact hi5 a ha, hl, hP, hD, hS⟩
  refine lv_aload_n hx hb d_M_lead_28 rfl (lv_at hl 0 rfl) ?_
  refine va_get (D := D) (ci := 6) (v := .ref xC) (C := R_M) (T := F_M) (N := 17) hx hb hts in_M hown hK hP 0 rfl rfl 5 (by decide) (hts _ (List.mem_cons_of_mem _ k_588)) (fun _ h9 => h9) rfl d_M_lead_29 ?_
  refine lv_iload_n hx hb d_M_lead_32 rfl (lv_at hl 2 rfl) ?_
  refine xa_iald (v := nI (mw j)) hx hb hK hP 2 0 rfl rfl (by omega) (by decide) (by have h9 := (hm j h7).1; rw [if_pos ⟨h15, h25⟩] at h9; exact h9) d_M_lead_33 ?_
  refine lv_goto (tgt := 43) hx hb d_M_lead_34 rfl ?_
  refine xc_v (wc := [(xM, .inr (6, [.int cd, .int (nI n), .ref xK, .ref xV, .int (nI ln), .ref xC, .ref xH, .int (nI ct), .ref xT, .ref xP, .int (nI lk), .ref xB, .ref xR, .ref xL, .ref xN, .ref xQ, .int (nI rp.toNat)])), (xB, .inl (cI, 4326, .inl B2)), (xR, .inl (cI, 721, .inl Rk2))]) (wr := [(xK, .inl (cI, 24, .inl km)), (xC, .inl (cI, 3, .inl cq))]) (gG_ok tF) hK hP hD hS hA hg [0, 3, 4] [1, 2] rfl rfl (by decide) (by decide) (by decide) (fun h1 h2 => va_runV (As := [.int (nI (i + j)), .int (nI (mw j))]) (rest := []) ⟨hx, hb, hml, hown, hts⟩ (c_M_ring xM cd n xK xV ln xC xH ct xT xP lk xB xR xL xN xQ rp B2 Rk2 (i + j) (mw j) (ld n mw k j) hn (hlt j hi1) ((hm j h7).2) (hi2 j (Nat.le_refl j)) (by omega) _) (cwV 2 hts (gV k_668 k_670 ks_M_ring k_7 k_671) rfl rfl rfl (by decide +kernel) ⟨Nat.le_of_ble_eq_true rfl, Nat.le_of_ble_eq_true rfl⟩) ⟨h1, va_recv (q0 := 0) (ci := 6) hK hP rfl rfl, h2⟩ rfl rfl hl.1 rfl (lv_room (Nat.le_of_ble_eq_true rfl)) d_M_lead_43 ⟨Nat.zero_le _, Nat.zero_le _⟩) (fun B3 H locs hq9 hP hD hS => ?_)
  obtain ⟨hw43_0, hw43_1⟩ := hq9
  have hP : va_P D vwCl [(xK, .inl (cI, 24, .inl km)), (xC, .inl (cI, 3, .inl cq)), (xM, .inr (6, [.int cd, .int (nI n), .ref xK, .ref xV, .int (nI ln), .ref xC, .ref xH, .int (nI ct), .ref xT, .ref xP, .int (nI lk), .ref xB, .ref xR, .ref xL, .ref xN, .ref xQ, .int (nI rp.toNat)])), (xB, .inl (cI, 4326, .inl B3)), (xR, .inl (cI, 721, .inl (upd Rk2 ((i + j) + 1) (nI (ch n (mw j) (ld n mw k j))))))] H := hP
  have hD : va_D A [(xK, .inl (cI, 24, .inl km)), (xC, .inl (cI, 3, .inl cq)), (xM, .inr (6, [.int cd, .int (nI n), .ref xK, .ref xV, .int (nI ln), .ref xC, .ref xH, .int (nI ct), .ref xT, .ref xP, .int (nI lk), .ref xB, .ref xR, .ref xL, .ref xN, .ref xQ, .int (nI rp.toNat)])), (xB, .inl (cI, 4326, .inl B3)), (xR, .inl (cI, 721, .inl (upd Rk2 ((i + j) + 1) (nI (ch n (mw j) (ld n mw k j))))))] := hD
  refine lv_iinc (k := 3) (v := nI (j + 1)) hx hb d_M_lead_46 hl rfl (xi_1 _) (by decide) rfl (fun ls hl => ?_)
  have hl : lv_has ls 4 [(3, .int (nI (j + 1))), (0, .ref xM), (1, .int (nI i)), (2, .int (nI kd))] := hl
  refine lv_goto (tgt := 2) hx hb d_M_lead_49 rfl ?_
  have hl : lv_has ls 4 [(0, .ref xM), (1, .int (nI i)), (2, .int (nI kd)), (3, .int (nI (j + 1)))] := lv_sub hl [1, 2, 3, 0] rfl
  have hP := hP.sub (ws' := [(xM, .inr (6, [.int cd, .int (nI n), .ref xK, .ref xV, .int (nI ln), .ref xC, .ref xH, .int (nI ct), .ref xT, .ref xP, .int (nI lk), .ref xB, .ref xR, .ref xL, .ref xN, .ref xQ, .int (nI rp.toNat)])), (xK, .inl (cI, 24, .inl km)), (xC, .inl (cI, 3, .inl cq)), (xB, .inl (cI, 4326, .inl B3)), (xR, .inl (cI, 721, .inl (upd Rk2 ((i + j) + 1) (nI (ch n (mw j) (ld n mw k j))))))]) [2, 0, 1, 3, 4] rfl
  have hD := hD.sub (ws' := [(xM, .inr (6, [.int cd, .int (nI n), .ref xK, .ref xV, .int (nI ln), .ref xC, .ref xH, .int (nI ct), .ref xT, .ref xP, .int (nI lk), .ref xB, .ref xR, .ref xL, .ref xN, .ref xQ, .int (nI rp.toNat)])), (xK, .inl (cI, 24, .inl km)), (xC, .inl (cI, 3, .inl cq)), (xB, .inl (cI, 4326, .inl B3)), (xR, .inl (cI, 721, .inl (upd Rk2 ((i + j) + 1) (nI (ch n (mw j) (ld n mw k j))))))]) [2, 0, 1, 3, 4] (by decide) rfl
  exact ih (j + 1) B3 (upd Rk2 ((i + j) + 1) (nI (ch n (mw j) (ld n mw k j)))) _ _ _ (by omega) ⟨h7, fun a ha => by rcases Nat.lt_or_eq_of_le ha with h | h; exact bh_keep hn (hi2 a (by omega)) (fun q hq => hw43_1 q (by omega)); rw [h]; exact hw43_0, fun a h1 h2 => by rcases Nat.lt_or_eq_of_le h2 with h | h; rw [pk_un (by omega)]; exact hi3 a h1 (by omega); rw [h]; exact pk_us, fun q hq => by rw [hw43_1 q (by omega)]; exact hi4 q hq, fun a ha => by rw [pk_un (by omega)]; exact hi5 a ha, hl, hP, hD, hS⟩
set_option maxHeartbeats 4000000 in
set_option maxRecDepth 100000 in
theorem c_M_ringAll (xM : Nat) (cd : Int32) (n : Nat) (xK : Nat) (xV : Nat) (ln : Nat) (xC : Nat) (xH : Nat) (ct : Nat) (xT : Nat) (xP : Nat) (lk : Nat) (xB : Nat) (xR : Nat) (xL : Nat) (xN : Nat) (xQ : Nat) (rp : Bool) (B : Nat → Int32) (Rk : Nat → Int32) (km : Nat → Int32) (cq : Nat → Int32) (tq : Nat → Int32) (mt : Nat → Nat → Nat) (tt : Nat → Nat) (hn : nb n) (hct : ct ≤ 30) (hln : ln ≤ 24) (hcl : ct * ln ≤ 720) (hlt : ∀ i, i ≤ ct * ln → Rw n ln mt tt i < fa n) (htt : ∀ a, a < ct → tq a = nI (tt a) ∧ tt a ≤ 2 ∧ gmr n ln km cq (tt a) (mt (tt a))) : CtI l y_M_ringAll (w_M_ringAll) ({ frames := 3, cells := 0, slots := 0, locals := 72 }) D vwCl (TYs cI cZ cJ cG) (gG tF) [.ref xM] [(xM, .inr (6, [.int cd, .int (nI n), .ref xK, .ref xV, .int (nI ln), .ref xC, .ref xH, .int (nI ct), .ref xT, .ref xP, .int (nI lk), .ref xB, .ref xR, .ref xL, .ref xN, .ref xQ, .int (nI rp.toNat)])), (xK, .inl (cI, 24, .inl km)), (xC, .inl (cI, 3, .inl cq)), (xT, .inl (cI, 30, .inl tq)), (xB, .inl (cI, 4326, .inl B)), (xR, .inl (cI, 721, .inl Rk))] 0 0 (fun u : (Nat → Int32) × (Nat → Int32) => match u with | (B2, Rk2) => [(xM, .inr (6, [.int cd, .int (nI n), .ref xK, .ref xV, .int (nI ln), .ref xC, .ref xH, .int (nI ct), .ref xT, .ref xP, .int (nI lk), .ref xB, .ref xR, .ref xL, .ref xN, .ref xQ, .int (nI rp.toNat)])), (xK, .inl (cI, 24, .inl km)), (xC, .inl (cI, 3, .inl cq)), (xT, .inl (cI, 30, .inl tq)), (xB, .inl (cI, 4326, .inl B2)), (xR, .inl (cI, 721, .inl Rk2))]) (fun (r : Int32) (u : (Nat → Int32) × (Nat → Int32)) => match u with | (B2, Rk2) => r = nI (ct * ln) ∧ (∀ i, i ≤ ct * ln → bh n i (Rw n ln mt tt i) B2 ∧ Rk2 i = nI (Rw n ln mt tt i))) := by
  refine CtI.of (cc := b_M_ringAll) (maxL := 2) (ret := (some .int)) (by decide) rfl (Nat.le_of_ble_eq_true rfl) ?_
  intro p e s m args below meth c A ls hF hA hP hK hD hg hS hl
  obtain ⟨hx, hb, hrt, hlk, hml, hown, hts, hnm⟩ := hF
  have hown : s.vm.findClass R_M = some m.cls := hown
  have hl : lv_has ls 2 [(0, .ref xM)] := hl
  have hn4 : 4 ≤ n := hn.1
  have hn6 : n ≤ 6 := hn.2
  have hfa : fa n ≤ 720 := fa_le hn
  refine lv_aload_n hx hb d_M_ringAll_0 rfl (lv_at hl 0 rfl) ?_
  refine lv_iconst (v := nI 0) hx hb d_M_ringAll_1 (by decide) ?_
  refine xc_v (wc := [(xM, .inr (6, [.int cd, .int (nI n), .ref xK, .ref xV, .int (nI ln), .ref xC, .ref xH, .int (nI ct), .ref xT, .ref xP, .int (nI lk), .ref xB, .ref xR, .ref xL, .ref xN, .ref xQ, .int (nI rp.toNat)])), (xB, .inl (cI, 4326, .inl B)), (xR, .inl (cI, 721, .inl Rk))]) (wr := [(xK, .inl (cI, 24, .inl km)), (xC, .inl (cI, 3, .inl cq)), (xT, .inl (cI, 30, .inl tq))]) (gG_ok tF) hK hP hD hS hA hg [0, 4, 5] [1, 2, 3] rfl rfl (by decide) (by decide) (by decide) (fun h1 h2 => va_runV (As := [.int (nI 0)]) (rest := []) ⟨hx, hb, hml, hown, hts⟩ (c_M_rounds xM cd n xK xV ln xC xH ct xT xP lk xB xR xL xN xQ rp B Rk 0 hn (by decide) _) (cwV 1 hts (gV k_660 k_662 ks_M_rounds k_7 k_663) rfl rfl rfl (by decide +kernel) ⟨Nat.le_of_ble_eq_true rfl, Nat.le_of_ble_eq_true rfl⟩) ⟨h1, va_recv (q0 := 0) (ci := 6) hK hP rfl rfl, h2⟩ rfl rfl hl.1 rfl (lv_room (Nat.le_of_ble_eq_true rfl)) d_M_ringAll_2 ⟨Nat.zero_le _, Nat.zero_le _⟩) (fun B2_ H locs hq9 hP hD hS => ?_)
  obtain ⟨hw2_0, hw2_1⟩ := hq9
  have hP : va_P D vwCl [(xK, .inl (cI, 24, .inl km)), (xC, .inl (cI, 3, .inl cq)), (xT, .inl (cI, 30, .inl tq)), (xM, .inr (6, [.int cd, .int (nI n), .ref xK, .ref xV, .int (nI ln), .ref xC, .ref xH, .int (nI ct), .ref xT, .ref xP, .int (nI lk), .ref xB, .ref xR, .ref xL, .ref xN, .ref xQ, .int (nI rp.toNat)])), (xB, .inl (cI, 4326, .inl B2_)), (xR, .inl (cI, 721, .inl (upd Rk 0 (nI 0))))] H := hP
  have hD : va_D A [(xK, .inl (cI, 24, .inl km)), (xC, .inl (cI, 3, .inl cq)), (xT, .inl (cI, 30, .inl tq)), (xM, .inr (6, [.int cd, .int (nI n), .ref xK, .ref xV, .int (nI ln), .ref xC, .ref xH, .int (nI ct), .ref xT, .ref xP, .int (nI lk), .ref xB, .ref xR, .ref xL, .ref xN, .ref xQ, .int (nI rp.toNat)])), (xB, .inl (cI, 4326, .inl B2_)), (xR, .inl (cI, 721, .inl (upd Rk 0 (nI 0))))] := hD
  refine lv_iconst (v := nI 0) hx hb d_M_ringAll_5 (by decide) ?_
  refine lv_istore_n hx hb d_M_ringAll_6 rfl hl (by decide) rfl (fun ls hl => ?_)
  have hl : lv_has ls 2 [(1, .int (nI 0)), (0, .ref xM)] := hl
  have hl : lv_has ls 2 [(0, .ref xM), (1, .int (nI 0))] := lv_sub hl [1, 0] rfl
  have hP := hP.sub (ws' := [(xM, .inr (6, [.int cd, .int (nI n), .ref xK, .ref xV, .int (nI ln), .ref xC, .ref xH, .int (nI ct), .ref xT, .ref xP, .int (nI lk), .ref xB, .ref xR, .ref xL, .ref xN, .ref xQ, .int (nI rp.toNat)])), (xK, .inl (cI, 24, .inl km)), (xC, .inl (cI, 3, .inl cq)), (xT, .inl (cI, 30, .inl tq)), (xB, .inl (cI, 4326, .inl B2_)), (xR, .inl (cI, 721, .inl (upd Rk 0 (nI 0))))]) [3, 0, 1, 2, 4, 5] rfl
  have hD := hD.sub (ws' := [(xM, .inr (6, [.int cd, .int (nI n), .ref xK, .ref xV, .int (nI ln), .ref xC, .ref xH, .int (nI ct), .ref xT, .ref xP, .int (nI lk), .ref xB, .ref xR, .ref xL, .ref xN, .ref xQ, .int (nI rp.toNat)])), (xK, .inl (cI, 24, .inl km)), (xC, .inl (cI, 3, .inl cq)), (xT, .inl (cI, 30, .inl tq)), (xB, .inl (cI, 4326, .inl B2_)), (xR, .inl (cI, 721, .inl (upd Rk 0 (nI 0))))]) [3, 0, 1, 2, 4, 5] (by decide) rfl
  refine xn_pc (pc2 := 7) rfl ?_
  refine xl_3 (fun (a : Nat) (B2 : Nat → Int32) (Rk2 : Nat → Int32) ls H locs => (a ≤ ct) ∧ (∀ i, i ≤ a * ln → bh n i (Rw n ln mt tt i) B2 ∧ Rk2 i = nI (Rw n ln mt tt i)) ∧ lv_has ls 2 [(0, .ref xM), (1, .int (nI a))] ∧ va_P D vwCl [(xM, .inr (6, [.int cd, .int (nI n), .ref xK, .ref xV, .int (nI ln), .ref xC, .ref xH, .int (nI ct), .ref xT, .ref xP, .int (nI lk), .ref xB, .ref xR, .ref xL, .ref xN, .ref xQ, .int (nI rp.toNat)])), (xK, .inl (cI, 24, .inl km)), (xC, .inl (cI, 3, .inl cq)), (xT, .inl (cI, 30, .inl tq)), (xB, .inl (cI, 4326, .inl B2)), (xR, .inl (cI, 721, .inl Rk2))] H ∧ va_D A [(xM, .inr (6, [.int cd, .int (nI n), .ref xK, .ref xV, .int (nI ln), .ref xC, .ref xH, .int (nI ct), .ref xT, .ref xP, .int (nI lk), .ref xB, .ref xR, .ref xL, .ref xN, .ref xQ, .int (nI rp.toNat)])), (xK, .inl (cI, 24, .inl km)), (xC, .inl (cI, 3, .inl cq)), (xT, .inl (cI, 30, .inl tq)), (xB, .inl (cI, 4326, .inl B2)), (xR, .inl (cI, 721, .inl Rk2))] ∧ va_S A s.heap H locs) (fun (a : Nat) (B2 : Nat → Int32) (Rk2 : Nat → Int32) => ct - a) (fun a B2 Rk2 ls H locs hI ih => ?_) 0 B2_ (upd Rk 0 (nI 0)) ⟨Nat.zero_le ct, fun i hi => by rw [show i = 0 by omega]; exact ⟨hw2_0, pk_us⟩, hl, hP, hD, hS⟩
  obtain ⟨hi1, hi2, hl, hP, hD, hS⟩ := hI
  refine lv_iload_n hx hb d_M_ringAll_7 rfl (lv_at hl 1 rfl) ?_
  refine lv_aload_n hx hb d_M_ringAll_8 rfl (lv_at hl 0 rfl) ?_
  refine va_get (D := D) (ci := 6) (v := .int (nI ct)) (C := R_M) (T := F_M) (N := 17) hx hb hts in_M hown hK hP 0 rfl rfl 7 (by decide) (hts _ (List.mem_cons_of_mem _ k_590)) (fun _ h9 => h9) rfl d_M_ringAll_9 ?_
  refine xb_cge hx hb 37 (by omega) (by omega) d_M_ringAll_12 rfl (fun h12 => ?_) (fun h12 => ?_)
  · skip
    refine lv_aload_n hx hb d_M_ringAll_37 rfl (lv_at hl 0 rfl) ?_
    refine va_get (D := D) (ci := 6) (v := .int (nI ct)) (C := R_M) (T := F_M) (N := 17) hx hb hts in_M hown hK hP 0 rfl rfl 7 (by decide) (hts _ (List.mem_cons_of_mem _ k_590)) (fun _ h9 => h9) rfl d_M_ringAll_38 ?_
    refine lv_aload_n hx hb d_M_ringAll_41 rfl (lv_at hl 0 rfl) ?_
    refine va_get (D := D) (ci := 6) (v := .int (nI ln)) (C := R_M) (T := F_M) (N := 17) hx hb hts in_M hown hK hP 0 rfl rfl 4 (by decide) (hts _ (List.mem_cons_of_mem _ k_587)) (fun _ h9 => h9) rfl d_M_ringAll_42 ?_
    refine lv_imul hx hb d_M_ringAll_45 ?_
    refine xn_i (y := nI (ct * ln)) (pk_mul _ _) ?_
    have ea : a = ct := by omega
    rw [ea] at hi2
    exact xr_i hx hb hrt hlk rfl hP hD hS (B2, Rk2) [0, 1, 2, 3, 4, 5] (by decide) rfl (⟨rfl, hi2⟩) d_M_ringAll_46
  have hal : a * ln + ln ≤ ct * ln := by rw [← Nat.succ_mul]; exact Nat.mul_le_mul_right ln h12
  refine lv_aload_n hx hb d_M_ringAll_15 rfl (lv_at hl 0 rfl) ?_
  refine lv_iload_n hx hb d_M_ringAll_16 rfl (lv_at hl 1 rfl) ?_
  refine lv_aload_n hx hb d_M_ringAll_17 rfl (lv_at hl 0 rfl) ?_
  refine va_get (D := D) (ci := 6) (v := .int (nI ln)) (C := R_M) (T := F_M) (N := 17) hx hb hts in_M hown hK hP 0 rfl rfl 4 (by decide) (hts _ (List.mem_cons_of_mem _ k_587)) (fun _ h9 => h9) rfl d_M_ringAll_18 ?_
  refine lv_imul hx hb d_M_ringAll_21 ?_
  refine xn_i (y := nI (a * ln)) (pk_mul _ _) ?_
  refine lv_aload_n hx hb d_M_ringAll_22 rfl (lv_at hl 0 rfl) ?_
  refine va_get (D := D) (ci := 6) (v := .ref xT) (C := R_M) (T := F_M) (N := 17) hx hb hts in_M hown hK hP 0 rfl rfl 8 (by decide) (hts _ (List.mem_cons_of_mem _ k_591)) (fun _ h9 => h9) rfl d_M_ringAll_23 ?_
  refine lv_iload_n hx hb d_M_ringAll_26 rfl (lv_at hl 1 rfl) ?_
  refine xa_iald (v := nI (tt a)) hx hb hK hP 3 0 rfl rfl (by omega) (by decide) ((htt a h12).1) d_M_ringAll_27 ?_
  refine xc_v (wc := [(xM, .inr (6, [.int cd, .int (nI n), .ref xK, .ref xV, .int (nI ln), .ref xC, .ref xH, .int (nI ct), .ref xT, .ref xP, .int (nI lk), .ref xB, .ref xR, .ref xL, .ref xN, .ref xQ, .int (nI rp.toNat)])), (xK, .inl (cI, 24, .inl km)), (xC, .inl (cI, 3, .inl cq)), (xB, .inl (cI, 4326, .inl B2)), (xR, .inl (cI, 721, .inl Rk2))]) (wr := [(xT, .inl (cI, 30, .inl tq))]) (gG_ok tF) hK hP hD hS hA hg [0, 1, 2, 4, 5] [3] rfl rfl (by decide) (by decide) (by decide) (fun h1 h2 => va_runV (As := [.int (nI (a * ln)), .int (nI (tt a))]) (rest := []) ⟨hx, hb, hml, hown, hts⟩ (c_M_lead xM cd n xK xV ln xC xH ct xT xP lk xB xR xL xN xQ rp B2 Rk2 km cq (a * ln) (tt a) (mt (tt a)) (Rw n ln mt tt (a * ln)) hn (hlt _ (by omega)) ((hi2 _ (Nat.le_refl _)).1) (by omega) ((htt a h12).2.1) hln ((htt a h12).2.2) _) (cwV 2 hts (gV k_664 k_666 ks_M_lead k_7 k_667) rfl rfl rfl (by decide +kernel) ⟨Nat.le_of_ble_eq_true rfl, Nat.le_of_ble_eq_true rfl⟩) ⟨h1, va_recv (q0 := 0) (ci := 6) hK hP rfl rfl, h2⟩ rfl rfl hl.1 rfl (lv_room (Nat.le_of_ble_eq_true rfl)) d_M_ringAll_28 ⟨Nat.zero_le _, Nat.zero_le _⟩) (fun u H locs hq9 hP hD hS => ?_)
  obtain ⟨B2_1, Rk2_⟩ := u
  obtain ⟨hw28_0, hw28_1, hw28_2, hw28_3⟩ := hq9
  have hP : va_P D vwCl [(xT, .inl (cI, 30, .inl tq)), (xM, .inr (6, [.int cd, .int (nI n), .ref xK, .ref xV, .int (nI ln), .ref xC, .ref xH, .int (nI ct), .ref xT, .ref xP, .int (nI lk), .ref xB, .ref xR, .ref xL, .ref xN, .ref xQ, .int (nI rp.toNat)])), (xK, .inl (cI, 24, .inl km)), (xC, .inl (cI, 3, .inl cq)), (xB, .inl (cI, 4326, .inl B2_1)), (xR, .inl (cI, 721, .inl Rk2_))] H := hP
  have hD : va_D A [(xT, .inl (cI, 30, .inl tq)), (xM, .inr (6, [.int cd, .int (nI n), .ref xK, .ref xV, .int (nI ln), .ref xC, .ref xH, .int (nI ct), .ref xT, .ref xP, .int (nI lk), .ref xB, .ref xR, .ref xL, .ref xN, .ref xQ, .int (nI rp.toNat)])), (xK, .inl (cI, 24, .inl km)), (xC, .inl (cI, 3, .inl cq)), (xB, .inl (cI, 4326, .inl B2_1)), (xR, .inl (cI, 721, .inl Rk2_))] := hD
  refine lv_iinc (k := 1) (v := nI (a + 1)) hx hb d_M_ringAll_31 hl rfl (xi_1 _) (by decide) rfl (fun ls hl => ?_)
  have hl : lv_has ls 2 [(1, .int (nI (a + 1))), (0, .ref xM)] := hl
  refine lv_goto (tgt := 7) hx hb d_M_ringAll_34 rfl ?_
  have hl : lv_has ls 2 [(0, .ref xM), (1, .int (nI (a + 1)))] := lv_sub hl [1, 0] rfl
  have hP := hP.sub (ws' := [(xM, .inr (6, [.int cd, .int (nI n), .ref xK, .ref xV, .int (nI ln), .ref xC, .ref xH, .int (nI ct), .ref xT, .ref xP, .int (nI lk), .ref xB, .ref xR, .ref xL, .ref xN, .ref xQ, .int (nI rp.toNat)])), (xK, .inl (cI, 24, .inl km)), (xC, .inl (cI, 3, .inl cq)), (xT, .inl (cI, 30, .inl tq)), (xB, .inl (cI, 4326, .inl B2_1)), (xR, .inl (cI, 721, .inl Rk2_))]) [1, 2, 3, 0, 4, 5] rfl
  have hD := hD.sub (ws' := [(xM, .inr (6, [.int cd, .int (nI n), .ref xK, .ref xV, .int (nI ln), .ref xC, .ref xH, .int (nI ct), .ref xT, .ref xP, .int (nI lk), .ref xB, .ref xR, .ref xL, .ref xN, .ref xQ, .int (nI rp.toNat)])), (xK, .inl (cI, 24, .inl km)), (xC, .inl (cI, 3, .inl cq)), (xT, .inl (cI, 30, .inl tq)), (xB, .inl (cI, 4326, .inl B2_1)), (xR, .inl (cI, 721, .inl Rk2_))]) [1, 2, 3, 0, 4, 5] (by decide) rfl
  exact ih (a + 1) B2_1 Rk2_ _ _ _ (by omega) ⟨h12, ra_step hn hi2 hw28_0 hw28_1 hw28_2 hw28_3, hl, hP, hD, hS⟩
set_option maxHeartbeats 4000000 in
set_option maxRecDepth 100000 in
theorem c_M_all (xM : Nat) (cd : Int32) (n : Nat) (xK : Nat) (xV : Nat) (ln : Nat) (xC : Nat) (xH : Nat) (ct : Nat) (xT : Nat) (xP : Nat) (lk : Nat) (xB : Nat) (xR : Nat) (xL : Nat) (xN : Nat) (xQ : Nat) (rp : Bool) (hn : nb n) : CtI l y_M_all (w_M_all) ({ frames := 0, cells := 0, slots := 0, locals := 0 }) D vwCl (TYs cI cZ cJ cG) (gG tF) [.ref xM] [(xM, .inr (6, [.int cd, .int (nI n), .ref xK, .ref xV, .int (nI ln), .ref xC, .ref xH, .int (nI ct), .ref xT, .ref xP, .int (nI lk), .ref xB, .ref xR, .ref xL, .ref xN, .ref xQ, .int (nI rp.toNat)]))] 0 0 (fun _ : Unit => [(xM, .inr (6, [.int cd, .int (nI n), .ref xK, .ref xV, .int (nI ln), .ref xC, .ref xH, .int (nI ct), .ref xT, .ref xP, .int (nI lk), .ref xB, .ref xR, .ref xL, .ref xN, .ref xQ, .int (nI rp.toNat)]))]) (fun (r : Int32) (_ : Unit) => r = nI (fa n)) := by
  refine CtI.of (cc := b_M_all) (maxL := 3) (ret := (some .int)) (by decide) rfl (Nat.le_of_ble_eq_true rfl) ?_
  intro p e s m args below meth c A ls hF hA hP hK hD hg hS hl
  obtain ⟨hx, hb, hrt, hlk, hml, hown, hts, hnm⟩ := hF
  have hown : s.vm.findClass R_M = some m.cls := hown
  have hl : lv_has ls 3 [(0, .ref xM)] := hl
  have hn4 : 4 ≤ n := hn.1
  have hn6 : n ≤ 6 := hn.2
  have hfa : fa n ≤ 720 := fa_le hn
  refine lv_iconst (v := nI 1) hx hb d_M_all_0 (by decide) ?_
  refine lv_istore_n hx hb d_M_all_1 rfl hl (by decide) rfl (fun ls hl => ?_)
  have hl : lv_has ls 3 [(1, .int (nI 1)), (0, .ref xM)] := hl
  refine lv_iconst (v := nI 2) hx hb d_M_all_2 (by decide) ?_
  refine lv_istore_n hx hb d_M_all_3 rfl hl (by decide) rfl (fun ls hl => ?_)
  have hl : lv_has ls 3 [(2, .int (nI 2)), (1, .int (nI 1)), (0, .ref xM)] := hl
  have hl : lv_has ls 3 [(0, .ref xM), (1, .int (nI (fa (2 - 1)))), (2, .int (nI 2))] := lv_sub hl [2, 1, 0] rfl
  have hP := hP.sub (ws' := [(xM, .inr (6, [.int cd, .int (nI n), .ref xK, .ref xV, .int (nI ln), .ref xC, .ref xH, .int (nI ct), .ref xT, .ref xP, .int (nI lk), .ref xB, .ref xR, .ref xL, .ref xN, .ref xQ, .int (nI rp.toNat)]))]) [0] rfl
  have hD := hD.sub (ws' := [(xM, .inr (6, [.int cd, .int (nI n), .ref xK, .ref xV, .int (nI ln), .ref xC, .ref xH, .int (nI ct), .ref xT, .ref xP, .int (nI lk), .ref xB, .ref xR, .ref xL, .ref xN, .ref xQ, .int (nI rp.toNat)]))]) [0] (by decide) rfl
  refine xn_pc (pc2 := 4) rfl ?_
  refine xl_1 (fun (q : Nat) ls H locs => (2 ≤ q) ∧ (q ≤ n + 1) ∧ lv_has ls 3 [(0, .ref xM), (1, .int (nI (fa (q - 1)))), (2, .int (nI q))] ∧ va_P D vwCl [(xM, .inr (6, [.int cd, .int (nI n), .ref xK, .ref xV, .int (nI ln), .ref xC, .ref xH, .int (nI ct), .ref xT, .ref xP, .int (nI lk), .ref xB, .ref xR, .ref xL, .ref xN, .ref xQ, .int (nI rp.toNat)]))] H ∧ va_D A [(xM, .inr (6, [.int cd, .int (nI n), .ref xK, .ref xV, .int (nI ln), .ref xC, .ref xH, .int (nI ct), .ref xT, .ref xP, .int (nI lk), .ref xB, .ref xR, .ref xL, .ref xN, .ref xQ, .int (nI rp.toNat)]))] ∧ va_S A s.heap H locs) (fun (q : Nat) => n + 1 - q) (fun q ls H locs hI ih => ?_) 2 ⟨by omega, by omega, hl, hP, hD, hS⟩
  obtain ⟨hi1, hi2, hl, hP, hD, hS⟩ := hI
  refine lv_iload_n hx hb d_M_all_4 rfl (lv_at hl 2 rfl) ?_
  refine lv_aload_n hx hb d_M_all_5 rfl (lv_at hl 0 rfl) ?_
  refine va_get (D := D) (ci := 6) (v := .int (nI n)) (C := R_M) (T := F_M) (N := 17) hx hb hts in_M hown hK hP 0 rfl rfl 1 (by decide) (hts _ (List.mem_cons_of_mem _ k_584)) (fun _ h9 => h9) rfl d_M_all_6 ?_
  refine xb_cgt hx hb 22 (by omega) (by omega) d_M_all_9 rfl (fun h9 => ?_) (fun h9 => ?_)
  · skip
    refine lv_iload_n hx hb d_M_all_22 rfl (lv_at hl 1 rfl) ?_
    exact xr_i hx hb hrt hlk rfl hP hD hS () [0] (by decide) rfl (by rw [show q - 1 = n by omega]) d_M_all_23
  refine lv_iload_n hx hb d_M_all_12 rfl (lv_at hl 1 rfl) ?_
  refine lv_iload_n hx hb d_M_all_13 rfl (lv_at hl 2 rfl) ?_
  refine lv_imul hx hb d_M_all_14 ?_
  refine xn_i (y := nI ((fa (q - 1)) * q)) (pk_mul _ _) ?_
  refine lv_istore_n hx hb d_M_all_15 rfl hl (by decide) rfl (fun ls hl => ?_)
  have hl : lv_has ls 3 [(1, .int (nI ((fa (q - 1)) * q))), (0, .ref xM), (2, .int (nI q))] := hl
  refine lv_iinc (k := 2) (v := nI (q + 1)) hx hb d_M_all_16 hl rfl (xi_1 _) (by decide) rfl (fun ls hl => ?_)
  have hl : lv_has ls 3 [(2, .int (nI (q + 1))), (1, .int (nI ((fa (q - 1)) * q))), (0, .ref xM)] := hl
  refine lv_goto (tgt := 4) hx hb d_M_all_19 rfl ?_
  have hl : lv_has ls 3 [(0, .ref xM), (1, .int (nI (fa ((q + 1) - 1)))), (2, .int (nI (q + 1)))] := lv_sub hl [2, 1, 0] (by rw [fa_mul hi1 (by omega)] <;> rfl)
  have hP := hP.sub (ws' := [(xM, .inr (6, [.int cd, .int (nI n), .ref xK, .ref xV, .int (nI ln), .ref xC, .ref xH, .int (nI ct), .ref xT, .ref xP, .int (nI lk), .ref xB, .ref xR, .ref xL, .ref xN, .ref xQ, .int (nI rp.toNat)]))]) [0] rfl
  have hD := hD.sub (ws' := [(xM, .inr (6, [.int cd, .int (nI n), .ref xK, .ref xV, .int (nI ln), .ref xC, .ref xH, .int (nI ct), .ref xT, .ref xP, .int (nI lk), .ref xB, .ref xR, .ref xL, .ref xN, .ref xQ, .int (nI rp.toNat)]))]) [0] (by decide) rfl
  exact ih (q + 1) _ _ _ (by omega) ⟨by omega, by omega, hl, hP, hD, hS⟩
set_option maxHeartbeats 4000000 in
set_option maxRecDepth 100000 in
theorem c_M_isRank (xM : Nat) (cd : Int32) (n : Nat) (xK : Nat) (xV : Nat) (ln : Nat) (xC : Nat) (xH : Nat) (ct : Nat) (xT : Nat) (xP : Nat) (lk : Nat) (xB : Nat) (xR : Nat) (xL : Nat) (xN : Nat) (xQ : Nat) (rp : Bool) (x : Int32) (hn : nb n) : CtI l y_M_isRank (w_M_isRank) ({ frames := 1, cells := 0, slots := 0, locals := 22 }) D vwCl (TYs cI cZ cJ cG) (gG tF) [.ref xM, .int x] [(xM, .inr (6, [.int cd, .int (nI n), .ref xK, .ref xV, .int (nI ln), .ref xC, .ref xH, .int (nI ct), .ref xT, .ref xP, .int (nI lk), .ref xB, .ref xR, .ref xL, .ref xN, .ref xQ, .int (nI rp.toNat)]))] 0 0 (fun _ : Unit => [(xM, .inr (6, [.int cd, .int (nI n), .ref xK, .ref xV, .int (nI ln), .ref xC, .ref xH, .int (nI ct), .ref xT, .ref xP, .int (nI lk), .ref xB, .ref xR, .ref xL, .ref xN, .ref xQ, .int (nI rp.toNat)]))]) (fun (r : Int32) (_ : Unit) => r = nI ((okr n x).toNat)) := by
  refine CtI.of (cc := b_M_isRank) (maxL := 2) (ret := (some .boolean)) (by decide) rfl (Nat.le_of_ble_eq_true rfl) ?_
  intro p e s m args below meth c A ls hF hA hP hK hD hg hS hl
  obtain ⟨hx, hb, hrt, hlk, hml, hown, hts, hnm⟩ := hF
  have hown : s.vm.findClass R_M = some m.cls := hown
  have hl : lv_has ls 2 [(0, .ref xM), (1, .int x)] := hl
  refine lv_iload_n hx hb d_M_isRank_0 rfl (lv_at hl 1 rfl) ?_
  refine lv_if_lt (tgt := 16) hx hb d_M_isRank_1 rfl (fun h1 => ?_) (fun h1 => ?_)
  · skip
    refine lv_iconst (v := nI 0) hx hb d_M_isRank_16 (by decide) ?_
    exact xr_i hx hb hrt hlk rfl hP hD hS () [0] (by decide) rfl (by unfold okr; first | rw [if_pos h1]; rfl | rw [if_neg h1, if_pos h9]; rfl) d_M_isRank_17
  refine lv_iload_n hx hb d_M_isRank_4 rfl (lv_at hl 1 rfl) ?_
  refine lv_aload_n hx hb d_M_isRank_5 rfl (lv_at hl 0 rfl) ?_
  refine xc_i (wc := [(xM, .inr (6, [.int cd, .int (nI n), .ref xK, .ref xV, .int (nI ln), .ref xC, .ref xH, .int (nI ct), .ref xT, .ref xP, .int (nI lk), .ref xB, .ref xR, .ref xL, .ref xN, .ref xQ, .int (nI rp.toNat)]))]) (wr := []) (gG_ok tF) hK hP hD hS hA hg [0] [] rfl rfl (by decide) (by decide) (by decide) (fun h1 h2 => va_runV (As := []) (rest := [.int x]) ⟨hx, hb, hml, hown, hts⟩ (c_M_all xM cd n xK xV ln xC xH ct xT xP lk xB xR xL xN xQ rp hn _) (cwV 0 hts (gV k_728 k_730 ks_M_all k_7 k_731) rfl rfl rfl (by decide +kernel) ⟨Nat.le_of_ble_eq_true rfl, Nat.le_of_ble_eq_true rfl⟩) ⟨h1, va_recv (q0 := 0) (ci := 6) hK hP rfl rfl, h2⟩ rfl rfl hl.1 rfl (lv_room (Nat.le_of_ble_eq_true rfl)) d_M_isRank_6 ⟨Nat.zero_le _, Nat.zero_le _⟩) (fun r u H locs hq9 hP hD hS => ?_)
  obtain rfl := hq9
  have hP : va_P D vwCl [(xM, .inr (6, [.int cd, .int (nI n), .ref xK, .ref xV, .int (nI ln), .ref xC, .ref xH, .int (nI ct), .ref xT, .ref xP, .int (nI lk), .ref xB, .ref xR, .ref xL, .ref xN, .ref xQ, .int (nI rp.toNat)]))] H := hP
  have hD : va_D A [(xM, .inr (6, [.int cd, .int (nI n), .ref xK, .ref xV, .int (nI ln), .ref xC, .ref xH, .int (nI ct), .ref xT, .ref xP, .int (nI lk), .ref xB, .ref xR, .ref xL, .ref xN, .ref xQ, .int (nI rp.toNat)]))] := hD
  refine lv_icmp_ge (tgt := 16) hx hb d_M_isRank_9 rfl (fun h9 => ?_) (fun h9 => ?_)
  · skip
    refine lv_iconst (v := nI 0) hx hb d_M_isRank_16 (by decide) ?_
    exact xr_i hx hb hrt hlk rfl hP hD hS () [0] (by decide) rfl (by unfold okr; first | rw [if_pos h1]; rfl | rw [if_neg h1, if_pos h9]; rfl) d_M_isRank_17
  refine lv_iconst (v := nI 1) hx hb d_M_isRank_12 (by decide) ?_
  refine lv_goto (tgt := 17) hx hb d_M_isRank_13 rfl ?_
  exact xr_i hx hb hrt hlk rfl hP hD hS () [0] (by decide) rfl (by unfold okr; rw [if_neg h1, if_neg h9]; rfl) d_M_isRank_17
set_option maxHeartbeats 4000000 in
set_option maxRecDepth 100000 in
theorem c_M_setRow (xM : Nat) (cd : Int32) (n : Nat) (xK : Nat) (xV : Nat) (ln : Nat) (xC : Nat) (xH : Nat) (ct : Nat) (xT : Nat) (xP : Nat) (lk : Nat) (xB : Nat) (xR : Nat) (xL : Nat) (xN : Nat) (xQ : Nat) (rp : Bool) (B : Nat → Int32) (Rk : Nat → Int32) (k : Nat) (hn : nb n) (hk : k < fa n) : CtV l y_M_setRow (w_M_setRow) ({ frames := 1, cells := 0, slots := 0, locals := 22 }) D vwCl (TYs cI cZ cJ cG) (gG tF) [.ref xM, .int (nI k)] [(xM, .inr (6, [.int cd, .int (nI n), .ref xK, .ref xV, .int (nI ln), .ref xC, .ref xH, .int (nI ct), .ref xT, .ref xP, .int (nI lk), .ref xB, .ref xR, .ref xL, .ref xN, .ref xQ, .int (nI rp.toNat)])), (xB, .inl (cI, 4326, .inl B)), (xR, .inl (cI, 721, .inl Rk))] 0 0 (fun B2 : (Nat → Int32) => [(xM, .inr (6, [.int cd, .int (nI n), .ref xK, .ref xV, .int (nI ln), .ref xC, .ref xH, .int (nI ct), .ref xT, .ref xP, .int (nI lk), .ref xB, .ref xR, .ref xL, .ref xN, .ref xQ, .int (nI rp.toNat)])), (xB, .inl (cI, 4326, .inl B2)), (xR, .inl (cI, 721, .inl (upd Rk 0 (nI k))))]) (fun B2 : (Nat → Int32) => bh n 0 k B2) := by
  refine CtV.of (cc := b_M_setRow) (maxL := 8) (ret := none) (by decide) rfl (Nat.le_of_ble_eq_true rfl) ?_
  intro p e s m args below meth c A ls hF hA hP hK hD hg hS hl
  obtain ⟨hx, hb, hrt, hlk, hml, hown, hts, hnm⟩ := hF
  have hown : s.vm.findClass R_M = some m.cls := hown
  have hl : lv_has ls 8 [(0, .ref xM), (1, .int (nI k))] := hl
  have hn4 : 4 ≤ n := hn.1
  have hn6 : n ≤ 6 := hn.2
  have hfa : fa n ≤ 720 := fa_le hn
  refine lv_iload_n hx hb d_M_setRow_0 rfl (lv_at hl 1 rfl) ?_
  refine lv_istore_n hx hb d_M_setRow_1 rfl hl (by decide) rfl (fun ls hl => ?_)
  have hl : lv_has ls 8 [(2, .int (nI k)), (0, .ref xM), (1, .int (nI k))] := hl
  refine lv_aload_n hx hb d_M_setRow_2 rfl (lv_at hl 1 rfl) ?_
  refine xc_i (wc := [(xM, .inr (6, [.int cd, .int (nI n), .ref xK, .ref xV, .int (nI ln), .ref xC, .ref xH, .int (nI ct), .ref xT, .ref xP, .int (nI lk), .ref xB, .ref xR, .ref xL, .ref xN, .ref xQ, .int (nI rp.toNat)]))]) (wr := [(xB, .inl (cI, 4326, .inl B)), (xR, .inl (cI, 721, .inl Rk))]) (gG_ok tF) hK hP hD hS hA hg [0] [1, 2] rfl rfl (by decide) (by decide) (by decide) (fun h1 h2 => va_runV (As := []) (rest := []) ⟨hx, hb, hml, hown, hts⟩ (c_M_all xM cd n xK xV ln xC xH ct xT xP lk xB xR xL xN xQ rp hn _) (cwV 0 hts (gV k_728 k_730 ks_M_all k_7 k_731) rfl rfl rfl (by decide +kernel) ⟨Nat.le_of_ble_eq_true rfl, Nat.le_of_ble_eq_true rfl⟩) ⟨h1, va_recv (q0 := 0) (ci := 6) hK hP rfl rfl, h2⟩ rfl rfl hl.1 rfl (lv_room (Nat.le_of_ble_eq_true rfl)) d_M_setRow_3 ⟨Nat.zero_le _, Nat.zero_le _⟩) (fun r u H locs hq9 hP hD hS => ?_)
  obtain rfl := hq9
  have hP : va_P D vwCl [(xB, .inl (cI, 4326, .inl B)), (xR, .inl (cI, 721, .inl Rk)), (xM, .inr (6, [.int cd, .int (nI n), .ref xK, .ref xV, .int (nI ln), .ref xC, .ref xH, .int (nI ct), .ref xT, .ref xP, .int (nI lk), .ref xB, .ref xR, .ref xL, .ref xN, .ref xQ, .int (nI rp.toNat)]))] H := hP
  have hD : va_D A [(xB, .inl (cI, 4326, .inl B)), (xR, .inl (cI, 721, .inl Rk)), (xM, .inr (6, [.int cd, .int (nI n), .ref xK, .ref xV, .int (nI ln), .ref xC, .ref xH, .int (nI ct), .ref xT, .ref xP, .int (nI lk), .ref xB, .ref xR, .ref xL, .ref xN, .ref xQ, .int (nI rp.toNat)]))] := hD
  refine lv_istore_n hx hb d_M_setRow_6 rfl hl (by decide) rfl (fun ls hl => ?_)
  have hl : lv_has ls 8 [(3, .int (nI (fa n))), (2, .int (nI k)), (0, .ref xM), (1, .int (nI k))] := hl
  refine lv_iconst (v := nI 0) hx hb d_M_setRow_7 (by decide) ?_
  refine lv_istore hx hb d_M_setRow_8 hl (by decide) rfl (fun ls hl => ?_)
  have hl : lv_has ls 8 [(4, .int (nI 0)), (3, .int (nI (fa n))), (2, .int (nI k)), (0, .ref xM), (1, .int (nI k))] := hl
  refine lv_iconst (v := nI 0) hx hb d_M_setRow_10 (by decide) ?_
  refine lv_istore hx hb d_M_setRow_11 hl (by decide) rfl (fun ls hl => ?_)
  have hl : lv_has ls 8 [(5, .int (nI 0)), (4, .int (nI 0)), (3, .int (nI (fa n))), (2, .int (nI k)), (0, .ref xM), (1, .int (nI k))] := hl
  have hl : lv_has ls 8 [(0, .ref xM), (1, .int (nI k)), (2, .int (nI (rs n k 0))), (3, .int (nI (fa (n - 0)))), (4, .int (nI (us n k 0))), (5, .int (nI 0))] := lv_sub hl [4, 5, 3, 2, 1, 0] rfl
  have hP := hP.sub (ws' := [(xM, .inr (6, [.int cd, .int (nI n), .ref xK, .ref xV, .int (nI ln), .ref xC, .ref xH, .int (nI ct), .ref xT, .ref xP, .int (nI lk), .ref xB, .ref xR, .ref xL, .ref xN, .ref xQ, .int (nI rp.toNat)])), (xB, .inl (cI, 4326, .inl B)), (xR, .inl (cI, 721, .inl Rk))]) [2, 0, 1] rfl
  have hD := hD.sub (ws' := [(xM, .inr (6, [.int cd, .int (nI n), .ref xK, .ref xV, .int (nI ln), .ref xC, .ref xH, .int (nI ct), .ref xT, .ref xP, .int (nI lk), .ref xB, .ref xR, .ref xL, .ref xN, .ref xQ, .int (nI rp.toNat)])), (xB, .inl (cI, 4326, .inl B)), (xR, .inl (cI, 721, .inl Rk))]) [2, 0, 1] (by decide) rfl
  refine xn_pc (pc2 := 13) rfl ?_
  refine xl_2 (fun (q : Nat) (g : Nat → Int32) ls H locs => (q ≤ n) ∧ (∀ j, j < q → g j = nI (ro n k j)) ∧ lv_has ls 8 [(0, .ref xM), (1, .int (nI k)), (2, .int (nI (rs n k q))), (3, .int (nI (fa (n - q)))), (4, .int (nI (us n k q))), (5, .int (nI q))] ∧ va_P D vwCl [(xM, .inr (6, [.int cd, .int (nI n), .ref xK, .ref xV, .int (nI ln), .ref xC, .ref xH, .int (nI ct), .ref xT, .ref xP, .int (nI lk), .ref xB, .ref xR, .ref xL, .ref xN, .ref xQ, .int (nI rp.toNat)])), (xB, .inl (cI, 4326, .inl g)), (xR, .inl (cI, 721, .inl Rk))] H ∧ va_D A [(xM, .inr (6, [.int cd, .int (nI n), .ref xK, .ref xV, .int (nI ln), .ref xC, .ref xH, .int (nI ct), .ref xT, .ref xP, .int (nI lk), .ref xB, .ref xR, .ref xL, .ref xN, .ref xQ, .int (nI rp.toNat)])), (xB, .inl (cI, 4326, .inl g)), (xR, .inl (cI, 721, .inl Rk))] ∧ va_S A s.heap H locs) (fun (q : Nat) (g : Nat → Int32) => n - q) (fun q g ls H locs hI ih => ?_) 0 B ⟨Nat.zero_le n, fun j hj => absurd hj (Nat.not_lt_zero j), hl, hP, hD, hS⟩
  obtain ⟨hi1, hi2, hl, hP, hD, hS⟩ := hI
  refine lv_iload hx hb d_M_setRow_13 (lv_at hl 5 rfl) ?_
  refine lv_aload_n hx hb d_M_setRow_15 rfl (lv_at hl 0 rfl) ?_
  refine va_get (D := D) (ci := 6) (v := .int (nI n)) (C := R_M) (T := F_M) (N := 17) hx hb hts in_M hown hK hP 0 rfl rfl 1 (by decide) (hts _ (List.mem_cons_of_mem _ k_584)) (fun _ h9 => h9) rfl d_M_setRow_16 ?_
  refine xb_cge hx hb 115 (by omega) (by omega) d_M_setRow_19 rfl (fun h19 => ?_) (fun h19 => ?_)
  · skip
    refine lv_aload_n hx hb d_M_setRow_115 rfl (lv_at hl 0 rfl) ?_
    refine va_get (D := D) (ci := 6) (v := .ref xR) (C := R_M) (T := F_M) (N := 17) hx hb hts in_M hown hK hP 0 rfl rfl 12 (by decide) (hts _ (List.mem_cons_of_mem _ k_595)) (fun _ h9 => h9) rfl d_M_setRow_116 ?_
    refine lv_iconst (v := nI 0) hx hb d_M_setRow_119 (by decide) ?_
    refine lv_iload_n hx hb d_M_setRow_120 rfl (lv_at hl 1 rfl) ?_
    refine xa_iast hx hb hK hP hD hS 2 0 rfl rfl (by omega) (by decide) d_M_setRow_121 (fun H locs hP hD hS => ?_)
    have hP : va_P D vwCl [(xM, .inr (6, [.int cd, .int (nI n), .ref xK, .ref xV, .int (nI ln), .ref xC, .ref xH, .int (nI ct), .ref xT, .ref xP, .int (nI lk), .ref xB, .ref xR, .ref xL, .ref xN, .ref xQ, .int (nI rp.toNat)])), (xB, .inl (cI, 4326, .inl g)), (xR, .inl (cI, 721, .inl (upd Rk 0 (nI k))))] H := hP
    have hD : va_D A [(xM, .inr (6, [.int cd, .int (nI n), .ref xK, .ref xV, .int (nI ln), .ref xC, .ref xH, .int (nI ct), .ref xT, .ref xP, .int (nI lk), .ref xB, .ref xR, .ref xL, .ref xN, .ref xQ, .int (nI rp.toNat)])), (xB, .inl (cI, 4326, .inl g)), (xR, .inl (cI, 721, .inl (upd Rk 0 (nI k))))] := hD
    exact xr_v hx hb hrt hlk hP hD hS g [0, 1, 2] (by decide) rfl (fun j hj => by rw [Nat.mul_zero, Nat.zero_add]; exact hi2 j (by omega)) d_M_setRow_122
  obtain ⟨hu1, hu2, hu3, hu4⟩ := us_all hn hk h19
  obtain ⟨-, hb2, hb3⟩ := br_all hn hk h19
  obtain ⟨hro1, hro2⟩ := ro_in hn hk h19
  refine lv_iload_n hx hb d_M_setRow_22 rfl (lv_at hl 3 rfl) ?_
  refine lv_aload_n hx hb d_M_setRow_23 rfl (lv_at hl 0 rfl) ?_
  refine va_get (D := D) (ci := 6) (v := .int (nI n)) (C := R_M) (T := F_M) (N := 17) hx hb hts in_M hown hK hP 0 rfl rfl 1 (by decide) (hts _ (List.mem_cons_of_mem _ k_584)) (fun _ h9 => h9) rfl d_M_setRow_24 ?_
  refine lv_iload hx hb d_M_setRow_27 (lv_at hl 5 rfl) ?_
  refine lv_isub hx hb d_M_setRow_29 ?_
  refine xn_i (y := nI (n - q)) (pk_sub (by omega)) ?_
  refine lv_idiv hx hb d_M_setRow_30 (nI_ne0 (by omega) (by omega)) ?_
  refine xn_i (y := nI (fa (n - 1 - q))) (by rw [pk_div (fa_sm _) (by omega) (by omega), fa_div (by omega) (by omega)]) ?_
  refine lv_istore_n hx hb d_M_setRow_31 rfl hl (by decide) rfl (fun ls hl => ?_)
  have hl : lv_has ls 8 [(3, .int (nI (fa (n - 1 - q)))), (0, .ref xM), (1, .int (nI k)), (2, .int (nI (rs n k q))), (4, .int (nI (us n k q))), (5, .int (nI q))] := hl
  refine lv_iload_n hx hb d_M_setRow_32 rfl (lv_at hl 3 rfl) ?_
  refine lv_iload_n hx hb d_M_setRow_33 rfl (lv_at hl 0 rfl) ?_
  refine lv_idiv hx hb d_M_setRow_34 (fa_ne0 _) ?_
  refine xn_i (y := nI ((rs n k q) / (fa (n - 1 - q)))) (pk_div (by omega) (fa_pos _) (fa_sm _)) ?_
  refine lv_istore hx hb d_M_setRow_35 hl (by decide) rfl (fun ls hl => ?_)
  have hl : lv_has ls 8 [(6, .int (nI ((rs n k q) / (fa (n - 1 - q))))), (3, .int (nI (fa (n - 1 - q)))), (0, .ref xM), (1, .int (nI k)), (2, .int (nI (rs n k q))), (4, .int (nI (us n k q))), (5, .int (nI q))] := hl
  refine lv_iload_n hx hb d_M_setRow_37 rfl (lv_at hl 4 rfl) ?_
  refine lv_iload_n hx hb d_M_setRow_38 rfl (lv_at hl 1 rfl) ?_
  refine lv_irem hx hb d_M_setRow_39 (fa_ne0 _) ?_
  refine xn_i (y := nI ((rs n k q) % (fa (n - 1 - q)))) (pk_rem (by omega) (fa_pos _) (fa_sm _)) ?_
  refine lv_istore_n hx hb d_M_setRow_40 rfl hl (by decide) rfl (fun ls hl => ?_)
  have hl : lv_has ls 8 [(2, .int (nI ((rs n k q) % (fa (n - 1 - q))))), (6, .int (nI ((rs n k q) / (fa (n - 1 - q))))), (3, .int (nI (fa (n - 1 - q)))), (0, .ref xM), (1, .int (nI k)), (4, .int (nI (us n k q))), (5, .int (nI q))] := hl
  refine lv_iconst (v := nI 1) hx hb d_M_setRow_41 (by decide) ?_
  refine lv_istore hx hb d_M_setRow_42 hl (by decide) rfl (fun ls hl => ?_)
  have hl : lv_has ls 8 [(7, .int (nI 1)), (2, .int (nI ((rs n k q) % (fa (n - 1 - q))))), (6, .int (nI ((rs n k q) / (fa (n - 1 - q))))), (3, .int (nI (fa (n - 1 - q)))), (0, .ref xM), (1, .int (nI k)), (4, .int (nI (us n k q))), (5, .int (nI q))] := hl
  have hl : lv_has ls 8 [(0, .ref xM), (1, .int (nI k)), (2, .int (nI (rs n k (q + 1)))), (3, .int (nI (fa (n - 1 - q)))), (4, .int (nI (us n k q))), (5, .int (nI q)), (6, .int (nI (sk n k q (ro n k q - 1)))), (7, .int (nI (ro n k q - (ro n k q - 1))))] := lv_sub hl [4, 5, 1, 3, 6, 7, 2, 0] (by rw [hu2, show ro n k q - (ro n k q - 1) = 1 by omega] <;> rfl)
  have hP := hP.sub (ws' := [(xM, .inr (6, [.int cd, .int (nI n), .ref xK, .ref xV, .int (nI ln), .ref xC, .ref xH, .int (nI ct), .ref xT, .ref xP, .int (nI lk), .ref xB, .ref xR, .ref xL, .ref xN, .ref xQ, .int (nI rp.toNat)])), (xB, .inl (cI, 4326, .inl g)), (xR, .inl (cI, 721, .inl Rk))]) [0, 1, 2] rfl
  have hD := hD.sub (ws' := [(xM, .inr (6, [.int cd, .int (nI n), .ref xK, .ref xV, .int (nI ln), .ref xC, .ref xH, .int (nI ct), .ref xT, .ref xP, .int (nI lk), .ref xB, .ref xR, .ref xL, .ref xN, .ref xQ, .int (nI rp.toNat)])), (xB, .inl (cI, 4326, .inl g)), (xR, .inl (cI, 721, .inl Rk))]) [0, 1, 2] (by decide) rfl
  refine xn_pc (pc2 := 44) rfl ?_
  refine xl_1 (fun (c0 : Nat) ls H locs => (c0 ≤ ro n k q - 1) ∧ lv_has ls 8 [(0, .ref xM), (1, .int (nI k)), (2, .int (nI (rs n k (q + 1)))), (3, .int (nI (fa (n - 1 - q)))), (4, .int (nI (us n k q))), (5, .int (nI q)), (6, .int (nI (sk n k q c0))), (7, .int (nI (ro n k q - c0)))] ∧ va_P D vwCl [(xM, .inr (6, [.int cd, .int (nI n), .ref xK, .ref xV, .int (nI ln), .ref xC, .ref xH, .int (nI ct), .ref xT, .ref xP, .int (nI lk), .ref xB, .ref xR, .ref xL, .ref xN, .ref xQ, .int (nI rp.toNat)])), (xB, .inl (cI, 4326, .inl g)), (xR, .inl (cI, 721, .inl Rk))] H ∧ va_D A [(xM, .inr (6, [.int cd, .int (nI n), .ref xK, .ref xV, .int (nI ln), .ref xC, .ref xH, .int (nI ct), .ref xT, .ref xP, .int (nI lk), .ref xB, .ref xR, .ref xL, .ref xN, .ref xQ, .int (nI rp.toNat)])), (xB, .inl (cI, 4326, .inl g)), (xR, .inl (cI, 721, .inl Rk))] ∧ va_S A s.heap H locs) (fun (c0 : Nat) => c0) (fun c0 ls H locs hI ih1 => ?_) (ro n k q - 1) ⟨Nat.le_refl _, hl, hP, hD, hS⟩
  obtain ⟨hi3, hl, hP, hD, hS⟩ := hI
  refine lv_iload hx hb d_M_setRow_44 (lv_at hl 6 rfl) ?_
  refine xb_gt hx hb 60 (sk_sm hn hk h19 hi3) d_M_setRow_46 rfl (fun h46 => ?_) (fun h46 => ?_)
  · skip
    refine lv_iload hx hb d_M_setRow_60 (lv_at hl 4 rfl) ?_
    refine lv_iload hx hb d_M_setRow_62 (lv_at hl 7 rfl) ?_
    refine lv_ishr hx hb d_M_setRow_64 ?_
    refine lv_iconst (v := nI 1) hx hb d_M_setRow_65 (by decide) ?_
    refine lv_iand hx hb d_M_setRow_66 ?_
    refine xn_i (y := nI ((us n k q >>> (ro n k q - c0)) % 2)) (xs_us (by omega) (by omega)) ?_
    refine lv_iconst (v := nI 1) hx hb d_M_setRow_67 (by decide) ?_
    refine xb_cne hx hb 76 (by omega) (by omega) d_M_setRow_68 rfl (fun h68 => ?_) (fun h68 => ?_)
    · skip
      refine lv_iload hx hb d_M_setRow_76 (lv_at hl 6 rfl) ?_
      refine lv_iconst (v := nI 1) hx hb d_M_setRow_78 (by decide) ?_
      refine lv_isub hx hb d_M_setRow_79 ?_
      refine xn_i (y := nI ((sk n k q c0) - 1)) (pk_sub h46) ?_
      refine lv_istore hx hb d_M_setRow_80 hl (by decide) rfl (fun ls hl => ?_)
      have hl : lv_has ls 8 [(6, .int (nI ((sk n k q c0) - 1))), (0, .ref xM), (1, .int (nI k)), (2, .int (nI (rs n k (q + 1)))), (3, .int (nI (fa (n - 1 - q)))), (4, .int (nI (us n k q))), (5, .int (nI q)), (7, .int (nI (ro n k q - c0)))] := hl
      refine lv_iload hx hb d_M_setRow_82 (lv_at hl 7 rfl) ?_
      refine lv_iconst (v := nI 1) hx hb d_M_setRow_84 (by decide) ?_
      refine lv_iadd hx hb d_M_setRow_85 ?_
      refine xn_i (y := nI ((ro n k q - c0) + 1)) (nI_add _ _) ?_
      refine lv_istore hx hb d_M_setRow_86 hl (by decide) rfl (fun ls hl => ?_)
      have hl : lv_has ls 8 [(7, .int (nI ((ro n k q - c0) + 1))), (6, .int (nI ((sk n k q c0) - 1))), (0, .ref xM), (1, .int (nI k)), (2, .int (nI (rs n k (q + 1)))), (3, .int (nI (fa (n - 1 - q)))), (4, .int (nI (us n k q))), (5, .int (nI q))] := hl
      refine lv_goto (tgt := 44) hx hb d_M_setRow_88 rfl ?_
      have hc0 : 0 < c0 := Nat.pos_of_ne_zero (fun e => by rw [e, sk_0] at h46; omega)
      have e7 : ro n k q - c0 + 1 = ro n k q - (c0 - 1) := by omega
      have e6 : sk n k q c0 - 1 = sk n k q (c0 - 1) := su_2 hc0 hi3 h68
      have hl : lv_has ls 8 [(0, .ref xM), (1, .int (nI k)), (2, .int (nI (rs n k (q + 1)))), (3, .int (nI (fa (n - 1 - q)))), (4, .int (nI (us n k q))), (5, .int (nI q)), (6, .int (nI (sk n k q (c0 - 1)))), (7, .int (nI (ro n k q - (c0 - 1))))] := lv_sub hl [2, 3, 4, 5, 6, 7, 1, 0] (by rw [← e6, ← e7] <;> rfl)
      have hP := hP.sub (ws' := [(xM, .inr (6, [.int cd, .int (nI n), .ref xK, .ref xV, .int (nI ln), .ref xC, .ref xH, .int (nI ct), .ref xT, .ref xP, .int (nI lk), .ref xB, .ref xR, .ref xL, .ref xN, .ref xQ, .int (nI rp.toNat)])), (xB, .inl (cI, 4326, .inl g)), (xR, .inl (cI, 721, .inl Rk))]) [0, 1, 2] rfl
      have hD := hD.sub (ws' := [(xM, .inr (6, [.int cd, .int (nI n), .ref xK, .ref xV, .int (nI ln), .ref xC, .ref xH, .int (nI ct), .ref xT, .ref xP, .int (nI lk), .ref xB, .ref xR, .ref xL, .ref xN, .ref xQ, .int (nI rp.toNat)])), (xB, .inl (cI, 4326, .inl g)), (xR, .inl (cI, 721, .inl Rk))]) [0, 1, 2] (by decide) rfl
      exact ih1 (c0 - 1) _ _ _ (by omega) ⟨by omega, hl, hP, hD, hS⟩
    refine lv_iload hx hb d_M_setRow_71 (lv_at hl 6 rfl) ?_
    refine lv_goto (tgt := 80) hx hb d_M_setRow_73 rfl ?_
    refine lv_istore hx hb d_M_setRow_80 hl (by decide) rfl (fun ls hl => ?_)
    have hl : lv_has ls 8 [(6, .int (nI (sk n k q c0))), (0, .ref xM), (1, .int (nI k)), (2, .int (nI (rs n k (q + 1)))), (3, .int (nI (fa (n - 1 - q)))), (4, .int (nI (us n k q))), (5, .int (nI q)), (7, .int (nI (ro n k q - c0)))] := hl
    refine lv_iload hx hb d_M_setRow_82 (lv_at hl 7 rfl) ?_
    refine lv_iconst (v := nI 1) hx hb d_M_setRow_84 (by decide) ?_
    refine lv_iadd hx hb d_M_setRow_85 ?_
    refine xn_i (y := nI ((ro n k q - c0) + 1)) (nI_add _ _) ?_
    refine lv_istore hx hb d_M_setRow_86 hl (by decide) rfl (fun ls hl => ?_)
    have hl : lv_has ls 8 [(7, .int (nI ((ro n k q - c0) + 1))), (6, .int (nI (sk n k q c0))), (0, .ref xM), (1, .int (nI k)), (2, .int (nI (rs n k (q + 1)))), (3, .int (nI (fa (n - 1 - q)))), (4, .int (nI (us n k q))), (5, .int (nI q))] := hl
    refine lv_goto (tgt := 44) hx hb d_M_setRow_88 rfl ?_
    have hc0 : 0 < c0 := Nat.pos_of_ne_zero (fun e => by rw [e, sk_0] at h46; omega)
    have e7 : ro n k q - c0 + 1 = ro n k q - (c0 - 1) := by omega
    have e6 : sk n k q c0 = sk n k q (c0 - 1) := su_1 hc0 hi3 h68
    have hl : lv_has ls 8 [(0, .ref xM), (1, .int (nI k)), (2, .int (nI (rs n k (q + 1)))), (3, .int (nI (fa (n - 1 - q)))), (4, .int (nI (us n k q))), (5, .int (nI q)), (6, .int (nI (sk n k q (c0 - 1)))), (7, .int (nI (ro n k q - (c0 - 1))))] := lv_sub hl [2, 3, 4, 5, 6, 7, 1, 0] (by rw [← e6, ← e7] <;> rfl)
    have hP := hP.sub (ws' := [(xM, .inr (6, [.int cd, .int (nI n), .ref xK, .ref xV, .int (nI ln), .ref xC, .ref xH, .int (nI ct), .ref xT, .ref xP, .int (nI lk), .ref xB, .ref xR, .ref xL, .ref xN, .ref xQ, .int (nI rp.toNat)])), (xB, .inl (cI, 4326, .inl g)), (xR, .inl (cI, 721, .inl Rk))]) [0, 1, 2] rfl
    have hD := hD.sub (ws' := [(xM, .inr (6, [.int cd, .int (nI n), .ref xK, .ref xV, .int (nI ln), .ref xC, .ref xH, .int (nI ct), .ref xT, .ref xP, .int (nI lk), .ref xB, .ref xR, .ref xL, .ref xN, .ref xQ, .int (nI rp.toNat)])), (xB, .inl (cI, 4326, .inl g)), (xR, .inl (cI, 721, .inl Rk))]) [0, 1, 2] (by decide) rfl
    exact ih1 (c0 - 1) _ _ _ (by omega) ⟨by omega, hl, hP, hD, hS⟩
  refine lv_iload hx hb d_M_setRow_49 (lv_at hl 4 rfl) ?_
  refine lv_iload hx hb d_M_setRow_51 (lv_at hl 7 rfl) ?_
  refine lv_ishr hx hb d_M_setRow_53 ?_
  refine lv_iconst (v := nI 1) hx hb d_M_setRow_54 (by decide) ?_
  refine lv_iand hx hb d_M_setRow_55 ?_
  refine xn_i (y := nI ((us n k q >>> (ro n k q - c0)) % 2)) (xs_us (by omega) (by omega)) ?_
  refine lv_iconst (v := nI 1) hx hb d_M_setRow_56 (by decide) ?_
  refine xb_cne hx hb 91 (by omega) (by omega) d_M_setRow_57 rfl (fun h57 => ?_) (fun h57 => ?_)
  · skip
    have ec0 : c0 = 0 := Nat.eq_zero_of_not_pos (fun h => by
      rcases hu4 (c0 - 1) (by omega) with h9 | h9
      · rw [show c0 - 1 + 1 = c0 by omega] at h9; omega
      · rw [show ro n k q - 1 - (c0 - 1) = ro n k q - c0 by omega] at h9; exact h57 h9)
    refine lv_iload hx hb d_M_setRow_91 (lv_at hl 4 rfl) ?_
    refine lv_iconst (v := nI 1) hx hb d_M_setRow_93 (by decide) ?_
    refine lv_iload hx hb d_M_setRow_94 (lv_at hl 7 rfl) ?_
    refine lv_ishl hx hb d_M_setRow_96 ?_
    refine xn_i (y := nI (2 ^ (ro n k q - c0))) (xs_shl (by omega)) ?_
    refine lv_ior hx hb d_M_setRow_97 ?_
    refine xn_i (y := nI (us n k (q + 1))) (by rw [ec0, Nat.sub_zero]; exact xs_or hu3 (by omega) hu1) ?_
    refine lv_istore hx hb d_M_setRow_98 hl (by decide) rfl (fun ls hl => ?_)
    have hl : lv_has ls 8 [(4, .int (nI (us n k (q + 1)))), (0, .ref xM), (1, .int (nI k)), (2, .int (nI (rs n k (q + 1)))), (3, .int (nI (fa (n - 1 - q)))), (5, .int (nI q)), (6, .int (nI (sk n k q c0))), (7, .int (nI (ro n k q - c0)))] := hl
    refine lv_aload_n hx hb d_M_setRow_100 rfl (lv_at hl 1 rfl) ?_
    refine va_get (D := D) (ci := 6) (v := .ref xB) (C := R_M) (T := F_M) (N := 17) hx hb hts in_M hown hK hP 0 rfl rfl 11 (by decide) (hts _ (List.mem_cons_of_mem _ k_594)) (fun _ h9 => h9) rfl d_M_setRow_101 ?_
    refine lv_iload hx hb d_M_setRow_104 (lv_at hl 5 rfl) ?_
    refine lv_iload hx hb d_M_setRow_106 (lv_at hl 7 rfl) ?_
    refine xa_iast hx hb hK hP hD hS 1 0 rfl rfl (by omega) (by decide) d_M_setRow_108 (fun H locs hP hD hS => ?_)
    have hP : va_P D vwCl [(xM, .inr (6, [.int cd, .int (nI n), .ref xK, .ref xV, .int (nI ln), .ref xC, .ref xH, .int (nI ct), .ref xT, .ref xP, .int (nI lk), .ref xB, .ref xR, .ref xL, .ref xN, .ref xQ, .int (nI rp.toNat)])), (xB, .inl (cI, 4326, .inl (upd g q (nI (ro n k q - c0))))), (xR, .inl (cI, 721, .inl Rk))] H := hP
    have hD : va_D A [(xM, .inr (6, [.int cd, .int (nI n), .ref xK, .ref xV, .int (nI ln), .ref xC, .ref xH, .int (nI ct), .ref xT, .ref xP, .int (nI lk), .ref xB, .ref xR, .ref xL, .ref xN, .ref xQ, .int (nI rp.toNat)])), (xB, .inl (cI, 4326, .inl (upd g q (nI (ro n k q - c0))))), (xR, .inl (cI, 721, .inl Rk))] := hD
    refine lv_iinc (k := 5) (v := nI (q + 1)) hx hb d_M_setRow_109 hl rfl (xi_1 _) (by decide) rfl (fun ls hl => ?_)
    have hl : lv_has ls 8 [(5, .int (nI (q + 1))), (4, .int (nI (us n k (q + 1)))), (0, .ref xM), (1, .int (nI k)), (2, .int (nI (rs n k (q + 1)))), (3, .int (nI (fa (n - 1 - q)))), (6, .int (nI (sk n k q c0))), (7, .int (nI (ro n k q - c0)))] := hl
    refine lv_goto (tgt := 13) hx hb d_M_setRow_112 rfl ?_
    have hl : lv_has ls 8 [(0, .ref xM), (1, .int (nI k)), (2, .int (nI (rs n k (q + 1)))), (3, .int (nI (fa (n - (q + 1))))), (4, .int (nI (us n k (q + 1)))), (5, .int (nI (q + 1)))] := lv_sub hl [2, 3, 4, 5, 1, 0] (by rw [show n - (q + 1) = n - 1 - q by omega] <;> rfl)
    have hP := hP.sub (ws' := [(xM, .inr (6, [.int cd, .int (nI n), .ref xK, .ref xV, .int (nI ln), .ref xC, .ref xH, .int (nI ct), .ref xT, .ref xP, .int (nI lk), .ref xB, .ref xR, .ref xL, .ref xN, .ref xQ, .int (nI rp.toNat)])), (xB, .inl (cI, 4326, .inl (upd g q (nI (ro n k q - c0))))), (xR, .inl (cI, 721, .inl Rk))]) [0, 1, 2] rfl
    have hD := hD.sub (ws' := [(xM, .inr (6, [.int cd, .int (nI n), .ref xK, .ref xV, .int (nI ln), .ref xC, .ref xH, .int (nI ct), .ref xT, .ref xP, .int (nI lk), .ref xB, .ref xR, .ref xL, .ref xN, .ref xQ, .int (nI rp.toNat)])), (xB, .inl (cI, 4326, .inl (upd g q (nI (ro n k q - c0))))), (xR, .inl (cI, 721, .inl Rk))]) [0, 1, 2] (by decide) rfl
    exact ih (q + 1) (upd g q (nI (ro n k q - c0))) _ _ _ (by omega) ⟨h19, fun j hj => by unfold upd; split; (rename_i e9; rw [e9, ec0, Nat.sub_zero]); exact hi2 j (by omega), hl, hP, hD, hS⟩
  refine lv_iload hx hb d_M_setRow_60 (lv_at hl 4 rfl) ?_
  refine lv_iload hx hb d_M_setRow_62 (lv_at hl 7 rfl) ?_
  refine lv_ishr hx hb d_M_setRow_64 ?_
  refine lv_iconst (v := nI 1) hx hb d_M_setRow_65 (by decide) ?_
  refine lv_iand hx hb d_M_setRow_66 ?_
  refine xn_i (y := nI ((us n k q >>> (ro n k q - c0)) % 2)) (xs_us (by omega) (by omega)) ?_
  refine lv_iconst (v := nI 1) hx hb d_M_setRow_67 (by decide) ?_
  refine xb_cne hx hb 76 (by omega) (by omega) d_M_setRow_68 rfl (fun h68 => ?_) (fun h68 => ?_)
  · skip
    exact absurd h57 h68
  refine lv_iload hx hb d_M_setRow_71 (lv_at hl 6 rfl) ?_
  refine lv_goto (tgt := 80) hx hb d_M_setRow_73 rfl ?_
  refine lv_istore hx hb d_M_setRow_80 hl (by decide) rfl (fun ls hl => ?_)
  have hl : lv_has ls 8 [(6, .int (nI (sk n k q c0))), (0, .ref xM), (1, .int (nI k)), (2, .int (nI (rs n k (q + 1)))), (3, .int (nI (fa (n - 1 - q)))), (4, .int (nI (us n k q))), (5, .int (nI q)), (7, .int (nI (ro n k q - c0)))] := hl
  refine lv_iload hx hb d_M_setRow_82 (lv_at hl 7 rfl) ?_
  refine lv_iconst (v := nI 1) hx hb d_M_setRow_84 (by decide) ?_
  refine lv_iadd hx hb d_M_setRow_85 ?_
  refine xn_i (y := nI ((ro n k q - c0) + 1)) (nI_add _ _) ?_
  refine lv_istore hx hb d_M_setRow_86 hl (by decide) rfl (fun ls hl => ?_)
  have hl : lv_has ls 8 [(7, .int (nI ((ro n k q - c0) + 1))), (6, .int (nI (sk n k q c0))), (0, .ref xM), (1, .int (nI k)), (2, .int (nI (rs n k (q + 1)))), (3, .int (nI (fa (n - 1 - q)))), (4, .int (nI (us n k q))), (5, .int (nI q))] := hl
  refine lv_goto (tgt := 44) hx hb d_M_setRow_88 rfl ?_
  have hc0 : 0 < c0 := Nat.pos_of_ne_zero (fun e => by rw [e, Nat.sub_zero] at h57; omega)
  have e7 : ro n k q - c0 + 1 = ro n k q - (c0 - 1) := by omega
  have e6 : sk n k q c0 = sk n k q (c0 - 1) := su_1 hc0 hi3 h68
  have hl : lv_has ls 8 [(0, .ref xM), (1, .int (nI k)), (2, .int (nI (rs n k (q + 1)))), (3, .int (nI (fa (n - 1 - q)))), (4, .int (nI (us n k q))), (5, .int (nI q)), (6, .int (nI (sk n k q (c0 - 1)))), (7, .int (nI (ro n k q - (c0 - 1))))] := lv_sub hl [2, 3, 4, 5, 6, 7, 1, 0] (by rw [← e6, ← e7] <;> rfl)
  have hP := hP.sub (ws' := [(xM, .inr (6, [.int cd, .int (nI n), .ref xK, .ref xV, .int (nI ln), .ref xC, .ref xH, .int (nI ct), .ref xT, .ref xP, .int (nI lk), .ref xB, .ref xR, .ref xL, .ref xN, .ref xQ, .int (nI rp.toNat)])), (xB, .inl (cI, 4326, .inl g)), (xR, .inl (cI, 721, .inl Rk))]) [0, 1, 2] rfl
  have hD := hD.sub (ws' := [(xM, .inr (6, [.int cd, .int (nI n), .ref xK, .ref xV, .int (nI ln), .ref xC, .ref xH, .int (nI ct), .ref xT, .ref xP, .int (nI lk), .ref xB, .ref xR, .ref xL, .ref xN, .ref xQ, .int (nI rp.toNat)])), (xB, .inl (cI, 4326, .inl g)), (xR, .inl (cI, 721, .inl Rk))]) [0, 1, 2] (by decide) rfl
  exact ih1 (c0 - 1) _ _ _ (by omega) ⟨by omega, hl, hP, hD, hS⟩
end
