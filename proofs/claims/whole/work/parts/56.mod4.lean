section
variable {l : Launch} {D : va_G} {cI cZ cJ cG : ClassId} {tF : Nat}
set_option maxHeartbeats 4000000 in
set_option maxRecDepth 100000 in
theorem c_M_takeBack (xM : Nat) (cd : Int32) (n : Nat) (xK : Nat) (xV : Nat) (ln : Nat) (xC : Nat) (xH : Nat) (ct : Nat) (xT : Nat) (xP : Nat) (lk : Nat) (xB : Nat) (xR : Nat) (xL : Nat) (xN : Nat) (xQ : Nat) (rp : Bool) (Rk : Nat → Int32) (mq : Nat → Int32) (R : Nat → Nat) (d : Nat) (hln : ln ≤ 24) (hd : d * ln + ln ≤ 720) (hR : ∀ i, i ≤ d * ln + ln → Rk i = nI (R i) ∧ R i < 720) (hmq : mh R (d * ln + 1 + ln) mq) : CtV l y_M_takeBack (w_M_takeBack) ({ frames := 0, cells := 0, slots := 0, locals := 0 }) D vwCl (TYs cI cZ cJ cG) (gG tF) [.ref xM, .int (nI d)] [(xM, .inr (6, [.int cd, .int (nI n), .ref xK, .ref xV, .int (nI ln), .ref xC, .ref xH, .int (nI ct), .ref xT, .ref xP, .int (nI lk), .ref xB, .ref xR, .ref xL, .ref xN, .ref xQ, .int (nI rp.toNat)])), (xR, .inl (cI, 721, .inl Rk)), (xQ, .inl (cI, 720, .inl mq))] 0 0 (fun mq2 : (Nat → Int32) => [(xM, .inr (6, [.int cd, .int (nI n), .ref xK, .ref xV, .int (nI ln), .ref xC, .ref xH, .int (nI ct), .ref xT, .ref xP, .int (nI lk), .ref xB, .ref xR, .ref xL, .ref xN, .ref xQ, .int (nI rp.toNat)])), (xR, .inl (cI, 721, .inl Rk)), (xQ, .inl (cI, 720, .inl mq2))]) (fun mq2 : (Nat → Int32) => mh R (d * ln + 1) mq2) := by
  refine CtV.of (cc := b_M_takeBack) (maxL := 3) (ret := none) (by decide) rfl (Nat.le_of_ble_eq_true rfl) ?_
  intro p e s m args below meth c A ls hF hA hP hK hD hg hS hl
  obtain ⟨hx, hb, hrt, hlk, hml, hown, hts, hnm⟩ := hF
  have hown : s.vm.findClass R_M = some m.cls := hown
  have hl : lv_has ls 3 [(0, .ref xM), (1, .int (nI d))] := hl
  refine lv_iload_n hx hb d_M_takeBack_0 rfl (lv_at hl 1 rfl) ?_
  refine lv_aload_n hx hb d_M_takeBack_1 rfl (lv_at hl 0 rfl) ?_
  refine va_get (D := D) (ci := 6) (v := .int (nI ln)) (C := R_M) (T := F_M) (N := 17) hx hb hts in_M hown hK hP 0 rfl rfl 4 (by decide) (hts _ (List.mem_cons_of_mem _ k_587)) (fun _ h9 => h9) rfl d_M_takeBack_2 ?_
  refine lv_imul hx hb d_M_takeBack_5 ?_
  refine xn_i (y := nI (d * ln)) (pk_mul _ _) ?_
  refine lv_iconst (v := nI 1) hx hb d_M_takeBack_6 (by decide) ?_
  refine lv_iadd hx hb d_M_takeBack_7 ?_
  refine xn_i (y := nI ((d * ln) + 1)) (nI_add _ _) ?_
  refine lv_istore_n hx hb d_M_takeBack_8 rfl hl (by decide) rfl (fun ls hl => ?_)
  have hl : lv_has ls 3 [(2, .int (nI ((d * ln) + 1))), (0, .ref xM), (1, .int (nI d))] := hl
  have hl : lv_has ls 3 [(0, .ref xM), (1, .int (nI d)), (2, .int (nI (d * ln + 1 + 0)))] := lv_sub hl [1, 2, 0] rfl
  have hP := hP.sub (ws' := [(xM, .inr (6, [.int cd, .int (nI n), .ref xK, .ref xV, .int (nI ln), .ref xC, .ref xH, .int (nI ct), .ref xT, .ref xP, .int (nI lk), .ref xB, .ref xR, .ref xL, .ref xN, .ref xQ, .int (nI rp.toNat)])), (xR, .inl (cI, 721, .inl Rk)), (xQ, .inl (cI, 720, .inl mq))]) [0, 1, 2] rfl
  have hD := hD.sub (ws' := [(xM, .inr (6, [.int cd, .int (nI n), .ref xK, .ref xV, .int (nI ln), .ref xC, .ref xH, .int (nI ct), .ref xT, .ref xP, .int (nI lk), .ref xB, .ref xR, .ref xL, .ref xN, .ref xQ, .int (nI rp.toNat)])), (xR, .inl (cI, 721, .inl Rk)), (xQ, .inl (cI, 720, .inl mq))]) [0, 1, 2] (by decide) rfl
  refine xn_pc (pc2 := 9) rfl ?_
  refine xl_2 (fun (j : Nat) (v : Nat → Int32) ls H locs => (j ≤ ln) ∧ (mtb R (d * ln + 1) ln j v) ∧ lv_has ls 3 [(0, .ref xM), (1, .int (nI d)), (2, .int (nI (d * ln + 1 + j)))] ∧ va_P D vwCl [(xM, .inr (6, [.int cd, .int (nI n), .ref xK, .ref xV, .int (nI ln), .ref xC, .ref xH, .int (nI ct), .ref xT, .ref xP, .int (nI lk), .ref xB, .ref xR, .ref xL, .ref xN, .ref xQ, .int (nI rp.toNat)])), (xR, .inl (cI, 721, .inl Rk)), (xQ, .inl (cI, 720, .inl v))] H ∧ va_D A [(xM, .inr (6, [.int cd, .int (nI n), .ref xK, .ref xV, .int (nI ln), .ref xC, .ref xH, .int (nI ct), .ref xT, .ref xP, .int (nI lk), .ref xB, .ref xR, .ref xL, .ref xN, .ref xQ, .int (nI rp.toNat)])), (xR, .inl (cI, 721, .inl Rk)), (xQ, .inl (cI, 720, .inl v))] ∧ va_S A s.heap H locs) (fun (j : Nat) (v : Nat → Int32) => ln - j) (fun j v ls H locs hI ih => ?_) 0 mq ⟨Nat.zero_le ln, mtb_0 hmq, hl, hP, hD, hS⟩
  obtain ⟨hi1, hi2, hl, hP, hD, hS⟩ := hI
  refine lv_iload_n hx hb d_M_takeBack_9 rfl (lv_at hl 2 rfl) ?_
  refine lv_iload_n hx hb d_M_takeBack_10 rfl (lv_at hl 1 rfl) ?_
  refine lv_iconst (v := nI 1) hx hb d_M_takeBack_11 (by decide) ?_
  refine lv_iadd hx hb d_M_takeBack_12 ?_
  refine xn_i (y := nI (d + 1)) (nI_add _ _) ?_
  refine lv_aload_n hx hb d_M_takeBack_13 rfl (lv_at hl 0 rfl) ?_
  refine va_get (D := D) (ci := 6) (v := .int (nI ln)) (C := R_M) (T := F_M) (N := 17) hx hb hts in_M hown hK hP 0 rfl rfl 4 (by decide) (hts _ (List.mem_cons_of_mem _ k_587)) (fun _ h9 => h9) rfl d_M_takeBack_14 ?_
  refine lv_imul hx hb d_M_takeBack_17 ?_
  refine xn_i (y := nI ((d + 1) * ln)) (pk_mul _ _) ?_
  refine xb_cgt hx hb 51 (by omega) (by rw [Nat.succ_mul]; omega) d_M_takeBack_18 rfl (fun h18 => ?_) (fun h18 => ?_)
  · rw [Nat.succ_mul] at h18
    exact xr_v hx hb hrt hlk hP hD hS v [0, 1, 2] (by decide) rfl (by have h9 := hi2; rw [show j = ln by omega] at h9; exact mtb_n h9) d_M_takeBack_51
  rw [Nat.succ_mul] at h18
  obtain ⟨hR1, hR2⟩ := hR (d * ln + 1 + j) (by omega)
  refine lv_aload_n hx hb d_M_takeBack_21 rfl (lv_at hl 0 rfl) ?_
  refine va_get (D := D) (ci := 6) (v := .ref xQ) (C := R_M) (T := F_M) (N := 17) hx hb hts in_M hown hK hP 0 rfl rfl 15 (by decide) (hts _ (List.mem_cons_of_mem _ k_598)) (fun _ h9 => h9) rfl d_M_takeBack_22 ?_
  refine lv_aload_n hx hb d_M_takeBack_25 rfl (lv_at hl 0 rfl) ?_
  refine va_get (D := D) (ci := 6) (v := .ref xR) (C := R_M) (T := F_M) (N := 17) hx hb hts in_M hown hK hP 0 rfl rfl 12 (by decide) (hts _ (List.mem_cons_of_mem _ k_595)) (fun _ h9 => h9) rfl d_M_takeBack_26 ?_
  refine lv_iload_n hx hb d_M_takeBack_29 rfl (lv_at hl 2 rfl) ?_
  refine xa_iald (v := nI (R (d * ln + 1 + j))) hx hb hK hP 1 0 rfl rfl (by omega) (by decide) hR1 d_M_takeBack_30 ?_
  refine lv_aload_n hx hb d_M_takeBack_31 rfl (lv_at hl 0 rfl) ?_
  refine va_get (D := D) (ci := 6) (v := .ref xQ) (C := R_M) (T := F_M) (N := 17) hx hb hts in_M hown hK hP 0 rfl rfl 15 (by decide) (hts _ (List.mem_cons_of_mem _ k_598)) (fun _ h9 => h9) rfl d_M_takeBack_32 ?_
  refine lv_aload_n hx hb d_M_takeBack_35 rfl (lv_at hl 0 rfl) ?_
  refine va_get (D := D) (ci := 6) (v := .ref xR) (C := R_M) (T := F_M) (N := 17) hx hb hts in_M hown hK hP 0 rfl rfl 12 (by decide) (hts _ (List.mem_cons_of_mem _ k_595)) (fun _ h9 => h9) rfl d_M_takeBack_36 ?_
  refine lv_iload_n hx hb d_M_takeBack_39 rfl (lv_at hl 2 rfl) ?_
  refine xa_iald (v := nI (R (d * ln + 1 + j))) hx hb hK hP 1 0 rfl rfl (by omega) (by decide) hR1 d_M_takeBack_40 ?_
  refine xa_iald (v := nI (cr R (d * ln + 1 + ln) (R (d * ln + 1 + j)) + cr R (d * ln + 1) (R (d * ln + 1 + j)) - cr R (d * ln + 1 + j) (R (d * ln + 1 + j)))) hx hb hK hP 2 0 rfl rfl (by omega) (by decide) (hi2 _ hR2) d_M_takeBack_41 ?_
  refine lv_iconst (v := nI 1) hx hb d_M_takeBack_42 (by decide) ?_
  refine lv_isub hx hb d_M_takeBack_43 ?_
  refine xn_i (y := nI ((cr R (d * ln + 1 + ln) (R (d * ln + 1 + j)) + cr R (d * ln + 1) (R (d * ln + 1 + j)) - cr R (d * ln + 1 + j) (R (d * ln + 1 + j))) - 1)) (pk_sub (mtb_v (by omega))) ?_
  refine xa_iast hx hb hK hP hD hS 2 0 rfl rfl (by omega) (by decide) d_M_takeBack_44 (fun H locs hP hD hS => ?_)
  have hP : va_P D vwCl [(xM, .inr (6, [.int cd, .int (nI n), .ref xK, .ref xV, .int (nI ln), .ref xC, .ref xH, .int (nI ct), .ref xT, .ref xP, .int (nI lk), .ref xB, .ref xR, .ref xL, .ref xN, .ref xQ, .int (nI rp.toNat)])), (xR, .inl (cI, 721, .inl Rk)), (xQ, .inl (cI, 720, .inl (upd v (R (d * ln + 1 + j)) (nI ((cr R (d * ln + 1 + ln) (R (d * ln + 1 + j)) + cr R (d * ln + 1) (R (d * ln + 1 + j)) - cr R (d * ln + 1 + j) (R (d * ln + 1 + j))) - 1)))))] H := hP
  have hD : va_D A [(xM, .inr (6, [.int cd, .int (nI n), .ref xK, .ref xV, .int (nI ln), .ref xC, .ref xH, .int (nI ct), .ref xT, .ref xP, .int (nI lk), .ref xB, .ref xR, .ref xL, .ref xN, .ref xQ, .int (nI rp.toNat)])), (xR, .inl (cI, 721, .inl Rk)), (xQ, .inl (cI, 720, .inl (upd v (R (d * ln + 1 + j)) (nI ((cr R (d * ln + 1 + ln) (R (d * ln + 1 + j)) + cr R (d * ln + 1) (R (d * ln + 1 + j)) - cr R (d * ln + 1 + j) (R (d * ln + 1 + j))) - 1)))))] := hD
  refine lv_iinc (k := 2) (v := nI (d * ln + 1 + j + 1)) hx hb d_M_takeBack_45 hl rfl (xi_1 _) (by decide) rfl (fun ls hl => ?_)
  have hl : lv_has ls 3 [(2, .int (nI (d * ln + 1 + j + 1))), (0, .ref xM), (1, .int (nI d))] := hl
  refine lv_goto (tgt := 9) hx hb d_M_takeBack_48 rfl ?_
  have hl : lv_has ls 3 [(0, .ref xM), (1, .int (nI d)), (2, .int (nI (d * ln + 1 + (j + 1))))] := lv_sub hl [1, 2, 0] rfl
  have hP := hP.sub (ws' := [(xM, .inr (6, [.int cd, .int (nI n), .ref xK, .ref xV, .int (nI ln), .ref xC, .ref xH, .int (nI ct), .ref xT, .ref xP, .int (nI lk), .ref xB, .ref xR, .ref xL, .ref xN, .ref xQ, .int (nI rp.toNat)])), (xR, .inl (cI, 721, .inl Rk)), (xQ, .inl (cI, 720, .inl (upd v (R (d * ln + 1 + j)) (nI ((cr R (d * ln + 1 + ln) (R (d * ln + 1 + j)) + cr R (d * ln + 1) (R (d * ln + 1 + j)) - cr R (d * ln + 1 + j) (R (d * ln + 1 + j))) - 1)))))]) [0, 1, 2] rfl
  have hD := hD.sub (ws' := [(xM, .inr (6, [.int cd, .int (nI n), .ref xK, .ref xV, .int (nI ln), .ref xC, .ref xH, .int (nI ct), .ref xT, .ref xP, .int (nI lk), .ref xB, .ref xR, .ref xL, .ref xN, .ref xQ, .int (nI rp.toNat)])), (xR, .inl (cI, 721, .inl Rk)), (xQ, .inl (cI, 720, .inl (upd v (R (d * ln + 1 + j)) (nI ((cr R (d * ln + 1 + ln) (R (d * ln + 1 + j)) + cr R (d * ln + 1) (R (d * ln + 1 + j)) - cr R (d * ln + 1 + j) (R (d * ln + 1 + j))) - 1)))))]) [0, 1, 2] (by decide) rfl
  exact ih (j + 1) (upd v (R (d * ln + 1 + j)) (nI ((cr R (d * ln + 1 + ln) (R (d * ln + 1 + j)) + cr R (d * ln + 1) (R (d * ln + 1 + j)) - cr R (d * ln + 1 + j) (R (d * ln + 1 + j))) - 1))) _ _ _ (by omega) ⟨by omega, mtb_s (by omega) hi2, hl, hP, hD, hS⟩
set_option maxHeartbeats 4000000 in
set_option maxRecDepth 100000 in
theorem c_M_tryCall (xM : Nat) (cd : Int32) (n : Nat) (xK : Nat) (xV : Nat) (ln : Nat) (xC : Nat) (xH : Nat) (ct : Nat) (xT : Nat) (xP : Nat) (lk : Nat) (xB : Nat) (xR : Nat) (xL : Nat) (xN : Nat) (xQ : Nat) (rp : Bool) (B : Nat → Int32) (Rk : Nat → Int32) (km : Nat → Int32) (cq : Nat → Int32) (ls_ : Nat → Int32) (mq : Nat → Int32) (mt : Nat → Nat → Nat) (rcs : List Nat) (kd : Nat) (hn : nb n) (hln : 1 ≤ ln ∧ ln ≤ 24) (hd : rcs.length < 30) (hdl : rcs.length * ln + ln ≤ 720) (hkd : kd ≤ 2) (hgm : gmr n ln km cq kd (mt kd)) (hPl : ∀ i, i ≤ rcs.length * ln → PR n ln mt rcs i < fa n) (hp : pth n ln mt rcs B Rk) (hmq : mh (PR n ln mt rcs) (rcs.length * ln + 1) mq) (hnz : nz n ln mt rcs) : CtV l y_M_tryCall (w_M_tryCall) ({ frames := 3, cells := 0, slots := 0, locals := 72 }) D vwCl (TYs cI cZ cJ cG) (gG tF) [.ref xM, .int (nI rcs.length), .int (nI kd)] [(xM, .inr (6, [.int cd, .int (nI n), .ref xK, .ref xV, .int (nI ln), .ref xC, .ref xH, .int (nI ct), .ref xT, .ref xP, .int (nI lk), .ref xB, .ref xR, .ref xL, .ref xN, .ref xQ, .int (nI rp.toNat)])), (xK, .inl (cI, 24, .inl km)), (xC, .inl (cI, 3, .inl cq)), (xL, .inl (cI, 31, .inl ls_)), (xQ, .inl (cI, 720, .inl mq)), (xB, .inl (cI, 4326, .inl B)), (xR, .inl (cI, 721, .inl Rk))] 0 0 (fun u : (Nat → Int32) × (Nat → Int32) × (Nat → Int32) => match u with | (B2, Rk2, mq2) => [(xM, .inr (6, [.int cd, .int (nI n), .ref xK, .ref xV, .int (nI ln), .ref xC, .ref xH, .int (nI ct), .ref xT, .ref xP, .int (nI lk), .ref xB, .ref xR, .ref xL, .ref xN, .ref xQ, .int (nI ((rpv n ln mt rcs kd).toNat))])), (xK, .inl (cI, 24, .inl km)), (xC, .inl (cI, 3, .inl cq)), (xL, .inl (cI, 31, .inl (upd ls_ rcs.length (nI kd)))), (xQ, .inl (cI, 720, .inl mq2)), (xB, .inl (cI, 4326, .inl B2)), (xR, .inl (cI, 721, .inl Rk2))]) (fun u : (Nat → Int32) × (Nat → Int32) × (Nat → Int32) => match u with | (B2, Rk2, mq2) => (pth n ln mt (kd :: rcs) B2 Rk2) ∧ (mh (PR n ln mt (kd :: rcs)) (rcs.length * ln + 1 + ln) mq2)) := by
  refine CtV.of (cc := b_M_tryCall) (maxL := 6) (ret := none) (by decide) rfl (Nat.le_of_ble_eq_true rfl) ?_
  intro p e s m args below meth c A ls hF hA hP hK hD hg hS hl
  obtain ⟨hx, hb, hrt, hlk, hml, hown, hts, hnm⟩ := hF
  have hown : s.vm.findClass R_M = some m.cls := hown
  have hl : lv_has ls 6 [(0, .ref xM), (1, .int (nI rcs.length)), (2, .int (nI kd))] := hl
  have hn4 : 4 ≤ n := hn.1
  have hn6 : n ≤ 6 := hn.2
  have hfa : fa n ≤ 720 := fa_le hn
  obtain ⟨hl1, hl2⟩ := hln
  have hPl2 := PR_lt (ln := ln) (mt := mt) (k := kd) hn (fun j hj => (hgm j hj).2) hPl
  have hPs : ∀ i, i ≤ rcs.length * ln + ln → PR n ln mt (kd :: rcs) i < 720 := fun i hi => by have h9 := hPl2 i (by rw [List.length_cons, Nat.succ_mul]; omega); omega
  refine lv_aload_n hx hb d_M_tryCall_0 rfl (lv_at hl 0 rfl) ?_
  refine va_get (D := D) (ci := 6) (v := .ref xL) (C := R_M) (T := F_M) (N := 17) hx hb hts in_M hown hK hP 0 rfl rfl 13 (by decide) (hts _ (List.mem_cons_of_mem _ k_596)) (fun _ h9 => h9) rfl d_M_tryCall_1 ?_
  refine lv_iload_n hx hb d_M_tryCall_4 rfl (lv_at hl 1 rfl) ?_
  refine lv_iload_n hx hb d_M_tryCall_5 rfl (lv_at hl 2 rfl) ?_
  refine xa_iast hx hb hK hP hD hS 3 0 rfl rfl (by omega) (by decide) d_M_tryCall_6 (fun H locs hP hD hS => ?_)
  have hP : va_P D vwCl [(xM, .inr (6, [.int cd, .int (nI n), .ref xK, .ref xV, .int (nI ln), .ref xC, .ref xH, .int (nI ct), .ref xT, .ref xP, .int (nI lk), .ref xB, .ref xR, .ref xL, .ref xN, .ref xQ, .int (nI rp.toNat)])), (xK, .inl (cI, 24, .inl km)), (xC, .inl (cI, 3, .inl cq)), (xL, .inl (cI, 31, .inl (upd ls_ rcs.length (nI kd)))), (xQ, .inl (cI, 720, .inl mq)), (xB, .inl (cI, 4326, .inl B)), (xR, .inl (cI, 721, .inl Rk))] H := hP
  have hD : va_D A [(xM, .inr (6, [.int cd, .int (nI n), .ref xK, .ref xV, .int (nI ln), .ref xC, .ref xH, .int (nI ct), .ref xT, .ref xP, .int (nI lk), .ref xB, .ref xR, .ref xL, .ref xN, .ref xQ, .int (nI rp.toNat)])), (xK, .inl (cI, 24, .inl km)), (xC, .inl (cI, 3, .inl cq)), (xL, .inl (cI, 31, .inl (upd ls_ rcs.length (nI kd)))), (xQ, .inl (cI, 720, .inl mq)), (xB, .inl (cI, 4326, .inl B)), (xR, .inl (cI, 721, .inl Rk))] := hD
  refine lv_aload_n hx hb d_M_tryCall_7 rfl (lv_at hl 0 rfl) ?_
  refine lv_iload_n hx hb d_M_tryCall_8 rfl (lv_at hl 1 rfl) ?_
  refine lv_aload_n hx hb d_M_tryCall_9 rfl (lv_at hl 0 rfl) ?_
  refine va_get (D := D) (ci := 6) (v := .int (nI ln)) (C := R_M) (T := F_M) (N := 17) hx hb hts in_M hown hK hP 0 rfl rfl 4 (by decide) (hts _ (List.mem_cons_of_mem _ k_587)) (fun _ h9 => h9) rfl d_M_tryCall_10 ?_
  refine lv_imul hx hb d_M_tryCall_13 ?_
  refine xn_i (y := nI (rcs.length * ln)) (pk_mul _ _) ?_
  refine lv_iload_n hx hb d_M_tryCall_14 rfl (lv_at hl 2 rfl) ?_
  refine xc_v (wc := [(xM, .inr (6, [.int cd, .int (nI n), .ref xK, .ref xV, .int (nI ln), .ref xC, .ref xH, .int (nI ct), .ref xT, .ref xP, .int (nI lk), .ref xB, .ref xR, .ref xL, .ref xN, .ref xQ, .int (nI rp.toNat)])), (xK, .inl (cI, 24, .inl km)), (xC, .inl (cI, 3, .inl cq)), (xB, .inl (cI, 4326, .inl B)), (xR, .inl (cI, 721, .inl Rk))]) (wr := [(xL, .inl (cI, 31, .inl (upd ls_ rcs.length (nI kd)))), (xQ, .inl (cI, 720, .inl mq))]) (gG_ok tF) hK hP hD hS hA hg [0, 1, 2, 5, 6] [3, 4] rfl rfl (by decide) (by decide) (by decide) (fun h1 h2 => va_runV (As := [.int (nI (rcs.length * ln)), .int (nI kd)]) (rest := []) ⟨hx, hb, hml, hown, hts⟩ (c_M_lead xM cd n xK xV ln xC xH ct xT xP lk xB xR xL xN xQ rp B Rk km cq (rcs.length * ln) kd (mt kd) (PR n ln mt rcs (rcs.length * ln)) hn (hPl _ (Nat.le_refl _)) ((hp _ (Nat.le_refl _)).1) hdl hkd hl2 hgm _) (cwV 2 hts (gV k_664 k_666 ks_M_lead k_7 k_667) rfl rfl rfl (by decide +kernel) ⟨Nat.le_of_ble_eq_true rfl, Nat.le_of_ble_eq_true rfl⟩) ⟨h1, va_recv (q0 := 0) (ci := 6) hK hP rfl rfl, h2⟩ rfl rfl hl.1 rfl (lv_room (Nat.le_of_ble_eq_true rfl)) d_M_tryCall_15 ⟨Nat.zero_le _, Nat.zero_le _⟩) (fun u H locs hq9 hP hD hS => ?_)
  obtain ⟨B3, Rk3⟩ := u
  obtain ⟨hw15_0, hw15_1, hw15_2, hw15_3⟩ := hq9
  have hP : va_P D vwCl [(xL, .inl (cI, 31, .inl (upd ls_ rcs.length (nI kd)))), (xQ, .inl (cI, 720, .inl mq)), (xM, .inr (6, [.int cd, .int (nI n), .ref xK, .ref xV, .int (nI ln), .ref xC, .ref xH, .int (nI ct), .ref xT, .ref xP, .int (nI lk), .ref xB, .ref xR, .ref xL, .ref xN, .ref xQ, .int (nI rp.toNat)])), (xK, .inl (cI, 24, .inl km)), (xC, .inl (cI, 3, .inl cq)), (xB, .inl (cI, 4326, .inl B3)), (xR, .inl (cI, 721, .inl Rk3))] H := hP
  have hD : va_D A [(xL, .inl (cI, 31, .inl (upd ls_ rcs.length (nI kd)))), (xQ, .inl (cI, 720, .inl mq)), (xM, .inr (6, [.int cd, .int (nI n), .ref xK, .ref xV, .int (nI ln), .ref xC, .ref xH, .int (nI ct), .ref xT, .ref xP, .int (nI lk), .ref xB, .ref xR, .ref xL, .ref xN, .ref xQ, .int (nI rp.toNat)])), (xK, .inl (cI, 24, .inl km)), (xC, .inl (cI, 3, .inl cq)), (xB, .inl (cI, 4326, .inl B3)), (xR, .inl (cI, 721, .inl Rk3))] := hD
  have hp2 := pth_lead (mt := mt) (k := kd) hn hp hw15_0 hw15_1 hw15_2 hw15_3
  refine lv_aload_n hx hb d_M_tryCall_18 rfl (lv_at hl 0 rfl) ?_
  refine lv_iconst (v := nI 0) hx hb d_M_tryCall_19 (by decide) ?_
  refine va_put (D := D) (ci := 6) (v := .int (nI 0)) (ty := .boolean) (C := R_M) (T := F_M) (N := 17) hx hb hts in_M t_M t_M_ok n_M hown hK hP hD hS 2 rfl rfl 16 (by decide) (hts _ (List.mem_cons_of_mem _ k_599)) (fun _ h9 => h9) rfl (by decide +kernel) rfl rfl (Nat.le_of_ble_eq_true rfl) d_M_tryCall_20 (fun H locs hP hD hS => ?_)
  have hP : va_P D vwCl [(xL, .inl (cI, 31, .inl (upd ls_ rcs.length (nI kd)))), (xQ, .inl (cI, 720, .inl mq)), (xM, .inr (6, [.int cd, .int (nI n), .ref xK, .ref xV, .int (nI ln), .ref xC, .ref xH, .int (nI ct), .ref xT, .ref xP, .int (nI lk), .ref xB, .ref xR, .ref xL, .ref xN, .ref xQ, .int (nI 0)])), (xK, .inl (cI, 24, .inl km)), (xC, .inl (cI, 3, .inl cq)), (xB, .inl (cI, 4326, .inl B3)), (xR, .inl (cI, 721, .inl Rk3))] H := hP
  have hD : va_D A [(xL, .inl (cI, 31, .inl (upd ls_ rcs.length (nI kd)))), (xQ, .inl (cI, 720, .inl mq)), (xM, .inr (6, [.int cd, .int (nI n), .ref xK, .ref xV, .int (nI ln), .ref xC, .ref xH, .int (nI ct), .ref xT, .ref xP, .int (nI lk), .ref xB, .ref xR, .ref xL, .ref xN, .ref xQ, .int (nI 0)])), (xK, .inl (cI, 24, .inl km)), (xC, .inl (cI, 3, .inl cq)), (xB, .inl (cI, 4326, .inl B3)), (xR, .inl (cI, 721, .inl Rk3))] := hD
  refine lv_iload_n hx hb d_M_tryCall_23 rfl (lv_at hl 1 rfl) ?_
  refine lv_iconst (v := nI 1) hx hb d_M_tryCall_24 (by decide) ?_
  refine lv_iadd hx hb d_M_tryCall_25 ?_
  refine xn_i (y := nI (rcs.length + 1)) (nI_add _ _) ?_
  refine lv_aload_n hx hb d_M_tryCall_26 rfl (lv_at hl 0 rfl) ?_
  refine va_get (D := D) (ci := 6) (v := .int (nI ln)) (C := R_M) (T := F_M) (N := 17) hx hb hts in_M hown hK hP 2 rfl rfl 4 (by decide) (hts _ (List.mem_cons_of_mem _ k_587)) (fun _ h9 => h9) rfl d_M_tryCall_27 ?_
  refine lv_imul hx hb d_M_tryCall_30 ?_
  refine xn_i (y := nI ((rcs.length + 1) * ln)) (pk_mul _ _) ?_
  refine lv_istore_n hx hb d_M_tryCall_31 rfl hl (by decide) rfl (fun ls hl => ?_)
  have hl : lv_has ls 6 [(3, .int (nI ((rcs.length + 1) * ln))), (0, .ref xM), (1, .int (nI rcs.length)), (2, .int (nI kd))] := hl
  refine lv_iload_n hx hb d_M_tryCall_32 rfl (lv_at hl 2 rfl) ?_
  refine lv_aload_n hx hb d_M_tryCall_33 rfl (lv_at hl 1 rfl) ?_
  refine va_get (D := D) (ci := 6) (v := .int (nI ln)) (C := R_M) (T := F_M) (N := 17) hx hb hts in_M hown hK hP 2 rfl rfl 4 (by decide) (hts _ (List.mem_cons_of_mem _ k_587)) (fun _ h9 => h9) rfl d_M_tryCall_34 ?_
  refine lv_imul hx hb d_M_tryCall_37 ?_
  refine xn_i (y := nI (rcs.length * ln)) (pk_mul _ _) ?_
  refine lv_iconst (v := nI 1) hx hb d_M_tryCall_38 (by decide) ?_
  refine lv_iadd hx hb d_M_tryCall_39 ?_
  refine xn_i (y := nI ((rcs.length * ln) + 1)) (nI_add _ _) ?_
  refine lv_istore hx hb d_M_tryCall_40 hl (by decide) rfl (fun ls hl => ?_)
  have hl : lv_has ls 6 [(4, .int (nI ((rcs.length * ln) + 1))), (3, .int (nI ((rcs.length + 1) * ln))), (0, .ref xM), (1, .int (nI rcs.length)), (2, .int (nI kd))] := hl
  have hl : lv_has ls 6 [(0, .ref xM), (1, .int (nI rcs.length)), (2, .int (nI kd)), (3, .int (nI ((rcs.length + 1) * ln))), (4, .int (nI (rcs.length * ln + 1 + 0)))] := lv_sub hl [2, 3, 4, 1, 0] rfl
  have hP := hP.sub (ws' := [(xM, .inr (6, [.int cd, .int (nI n), .ref xK, .ref xV, .int (nI ln), .ref xC, .ref xH, .int (nI ct), .ref xT, .ref xP, .int (nI lk), .ref xB, .ref xR, .ref xL, .ref xN, .ref xQ, .int (nI ((rpo (PR n ln mt (kd :: rcs)) (rcs.length * ln + 1) ln 0).toNat))])), (xK, .inl (cI, 24, .inl km)), (xC, .inl (cI, 3, .inl cq)), (xL, .inl (cI, 31, .inl (upd ls_ rcs.length (nI kd)))), (xQ, .inl (cI, 720, .inl mq)), (xB, .inl (cI, 4326, .inl B3)), (xR, .inl (cI, 721, .inl Rk3))]) [2, 3, 4, 0, 1, 5, 6] rfl
  have hD := hD.sub (ws' := [(xM, .inr (6, [.int cd, .int (nI n), .ref xK, .ref xV, .int (nI ln), .ref xC, .ref xH, .int (nI ct), .ref xT, .ref xP, .int (nI lk), .ref xB, .ref xR, .ref xL, .ref xN, .ref xQ, .int (nI ((rpo (PR n ln mt (kd :: rcs)) (rcs.length * ln + 1) ln 0).toNat))])), (xK, .inl (cI, 24, .inl km)), (xC, .inl (cI, 3, .inl cq)), (xL, .inl (cI, 31, .inl (upd ls_ rcs.length (nI kd)))), (xQ, .inl (cI, 720, .inl mq)), (xB, .inl (cI, 4326, .inl B3)), (xR, .inl (cI, 721, .inl Rk3))]) [2, 3, 4, 0, 1, 5, 6] (by decide) rfl
  refine xn_pc (pc2 := 42) rfl ?_
  refine xl_2 (fun (j : Nat) (v : Nat → Int32) ls H locs => (j ≤ ln) ∧ (mh (PR n ln mt (kd :: rcs)) (rcs.length * ln + 1 + j) v) ∧ lv_has ls 6 [(0, .ref xM), (1, .int (nI rcs.length)), (2, .int (nI kd)), (3, .int (nI ((rcs.length + 1) * ln))), (4, .int (nI (rcs.length * ln + 1 + j)))] ∧ va_P D vwCl [(xM, .inr (6, [.int cd, .int (nI n), .ref xK, .ref xV, .int (nI ln), .ref xC, .ref xH, .int (nI ct), .ref xT, .ref xP, .int (nI lk), .ref xB, .ref xR, .ref xL, .ref xN, .ref xQ, .int (nI ((rpo (PR n ln mt (kd :: rcs)) (rcs.length * ln + 1) ln j).toNat))])), (xK, .inl (cI, 24, .inl km)), (xC, .inl (cI, 3, .inl cq)), (xL, .inl (cI, 31, .inl (upd ls_ rcs.length (nI kd)))), (xQ, .inl (cI, 720, .inl v)), (xB, .inl (cI, 4326, .inl B3)), (xR, .inl (cI, 721, .inl Rk3))] H ∧ va_D A [(xM, .inr (6, [.int cd, .int (nI n), .ref xK, .ref xV, .int (nI ln), .ref xC, .ref xH, .int (nI ct), .ref xT, .ref xP, .int (nI lk), .ref xB, .ref xR, .ref xL, .ref xN, .ref xQ, .int (nI ((rpo (PR n ln mt (kd :: rcs)) (rcs.length * ln + 1) ln j).toNat))])), (xK, .inl (cI, 24, .inl km)), (xC, .inl (cI, 3, .inl cq)), (xL, .inl (cI, 31, .inl (upd ls_ rcs.length (nI kd)))), (xQ, .inl (cI, 720, .inl v)), (xB, .inl (cI, 4326, .inl B3)), (xR, .inl (cI, 721, .inl Rk3))] ∧ va_S A s.heap H locs) (fun (j : Nat) (v : Nat → Int32) => ln - j) (fun j v ls H locs hI ih => ?_) 0 mq ⟨Nat.zero_le ln, mh_ext hmq (fun i hi => (PR_lo (by omega)).symm), hl, hP, hD, hS⟩
  obtain ⟨hi1, hi2, hl, hP, hD, hS⟩ := hI
  refine lv_iload hx hb d_M_tryCall_42 (lv_at hl 4 rfl) ?_
  refine lv_iload_n hx hb d_M_tryCall_44 rfl (lv_at hl 3 rfl) ?_
  refine xb_cgt hx hb 149 (by omega) (by rw [Nat.succ_mul]; omega) d_M_tryCall_45 rfl (fun h45 => ?_) (fun h45 => ?_)
  · rw [Nat.succ_mul] at h45
    have ej : j = ln := by omega
    have er := rpo_end (mt := mt) (k := kd) hnz
    exact xr_v hx hb hrt hlk hP hD hS (B3, Rk3, v) [0, 1, 2, 3, 4, 5, 6] (by decide) (by rw [← er, ej] <;> rfl) (⟨hp2, by have h9 := hi2; rw [ej] at h9; exact h9⟩) d_M_tryCall_149
  rw [Nat.succ_mul] at h45
  have hRv : Rk3 (rcs.length * ln + 1 + j) = nI (PR n ln mt (kd :: rcs) (rcs.length * ln + 1 + j)) := (hp2 _ (by rw [List.length_cons, Nat.succ_mul]; omega)).2
  have hRl := hPs (rcs.length * ln + 1 + j) (by omega)
  refine xn_pc (pc2 := 48) rfl ?_
  refine xj_1 (fun (g1 : Bool) ls H locs => (g1 = hmB (PR n ln mt (kd :: rcs)) (rcs.length * ln + 1) ln j) ∧ lv_has ls 6 [(0, .ref xM), (1, .int (nI rcs.length)), (2, .int (nI kd)), (3, .int (nI ((rcs.length + 1) * ln))), (4, .int (nI (rcs.length * ln + 1 + j)))] ∧ va_P D vwCl [(xM, .inr (6, [.int cd, .int (nI n), .ref xK, .ref xV, .int (nI ln), .ref xC, .ref xH, .int (nI ct), .ref xT, .ref xP, .int (nI lk), .ref xB, .ref xR, .ref xL, .ref xN, .ref xQ, .int (nI ((rpo (PR n ln mt (kd :: rcs)) (rcs.length * ln + 1) ln j).toNat))])), (xK, .inl (cI, 24, .inl km)), (xC, .inl (cI, 3, .inl cq)), (xL, .inl (cI, 31, .inl (upd ls_ rcs.length (nI kd)))), (xQ, .inl (cI, 720, .inl v)), (xB, .inl (cI, 4326, .inl B3)), (xR, .inl (cI, 721, .inl Rk3))] H ∧ va_D A [(xM, .inr (6, [.int cd, .int (nI n), .ref xK, .ref xV, .int (nI ln), .ref xC, .ref xH, .int (nI ct), .ref xT, .ref xP, .int (nI lk), .ref xB, .ref xR, .ref xL, .ref xN, .ref xQ, .int (nI ((rpo (PR n ln mt (kd :: rcs)) (rcs.length * ln + 1) ln j).toNat))])), (xK, .inl (cI, 24, .inl km)), (xC, .inl (cI, 3, .inl cq)), (xL, .inl (cI, 31, .inl (upd ls_ rcs.length (nI kd)))), (xQ, .inl (cI, 720, .inl v)), (xB, .inl (cI, 4326, .inl B3)), (xR, .inl (cI, 721, .inl Rk3))] ∧ va_S A s.heap H locs) 79 (fun (g1 : Bool) => [.int (nI g1.toNat)]) 0 0 (fun g1 ls H locs hI => ?_) (fun hj => ?_)
  · obtain ⟨hg1, hl, hP, hD, hS⟩ := hI
    refine lv_istore hx hb d_M_tryCall_79 hl (by decide) rfl (fun ls hl => ?_)
    have hl : lv_has ls 6 [(5, .int (nI g1.toNat)), (0, .ref xM), (1, .int (nI rcs.length)), (2, .int (nI kd)), (3, .int (nI ((rcs.length + 1) * ln))), (4, .int (nI (rcs.length * ln + 1 + j)))] := hl
    refine lv_aload_n hx hb d_M_tryCall_81 rfl (lv_at hl 1 rfl) ?_
    refine lv_aload_n hx hb d_M_tryCall_82 rfl (lv_at hl 1 rfl) ?_
    refine xn_pc (pc2 := 83) rfl ?_
    refine xj_1 (fun (g2 : Bool) ls H locs => (g2 = rpo (PR n ln mt (kd :: rcs)) (rcs.length * ln + 1) ln (j + 1)) ∧ lv_has ls 6 [(0, .ref xM), (1, .int (nI rcs.length)), (2, .int (nI kd)), (3, .int (nI ((rcs.length + 1) * ln))), (4, .int (nI (rcs.length * ln + 1 + j)))] ∧ va_P D vwCl [(xM, .inr (6, [.int cd, .int (nI n), .ref xK, .ref xV, .int (nI ln), .ref xC, .ref xH, .int (nI ct), .ref xT, .ref xP, .int (nI lk), .ref xB, .ref xR, .ref xL, .ref xN, .ref xQ, .int (nI ((rpo (PR n ln mt (kd :: rcs)) (rcs.length * ln + 1) ln j).toNat))])), (xK, .inl (cI, 24, .inl km)), (xC, .inl (cI, 3, .inl cq)), (xL, .inl (cI, 31, .inl (upd ls_ rcs.length (nI kd)))), (xQ, .inl (cI, 720, .inl v)), (xB, .inl (cI, 4326, .inl B3)), (xR, .inl (cI, 721, .inl Rk3))] H ∧ va_D A [(xM, .inr (6, [.int cd, .int (nI n), .ref xK, .ref xV, .int (nI ln), .ref xC, .ref xH, .int (nI ct), .ref xT, .ref xP, .int (nI lk), .ref xB, .ref xR, .ref xL, .ref xN, .ref xQ, .int (nI ((rpo (PR n ln mt (kd :: rcs)) (rcs.length * ln + 1) ln j).toNat))])), (xK, .inl (cI, 24, .inl km)), (xC, .inl (cI, 3, .inl cq)), (xL, .inl (cI, 31, .inl (upd ls_ rcs.length (nI kd)))), (xQ, .inl (cI, 720, .inl v)), (xB, .inl (cI, 4326, .inl B3)), (xR, .inl (cI, 721, .inl Rk3))] ∧ va_S A s.heap H locs) 114 (fun (g2 : Bool) => [.int (nI g2.toNat), .ref xM]) 0 0 (fun g2 ls H locs hI => ?_) (fun hj1 => ?_)
    · obtain ⟨hg2, hl, hP, hD, hS⟩ := hI
      refine va_put (D := D) (ci := 6) (v := .int (nI g2.toNat)) (ty := .boolean) (C := R_M) (T := F_M) (N := 17) hx hb hts in_M t_M t_M_ok n_M hown hK hP hD hS 0 rfl rfl 16 (by decide) (hts _ (List.mem_cons_of_mem _ k_599)) (fun _ h9 => h9) rfl (by decide +kernel) (xz_B _) (xz_F _) (Nat.le_of_ble_eq_true rfl) d_M_tryCall_114 (fun H locs hP hD hS => ?_)
      have hP : va_P D vwCl [(xM, .inr (6, [.int cd, .int (nI n), .ref xK, .ref xV, .int (nI ln), .ref xC, .ref xH, .int (nI ct), .ref xT, .ref xP, .int (nI lk), .ref xB, .ref xR, .ref xL, .ref xN, .ref xQ, .int (nI g2.toNat)])), (xK, .inl (cI, 24, .inl km)), (xC, .inl (cI, 3, .inl cq)), (xL, .inl (cI, 31, .inl (upd ls_ rcs.length (nI kd)))), (xQ, .inl (cI, 720, .inl v)), (xB, .inl (cI, 4326, .inl B3)), (xR, .inl (cI, 721, .inl Rk3))] H := hP
      have hD : va_D A [(xM, .inr (6, [.int cd, .int (nI n), .ref xK, .ref xV, .int (nI ln), .ref xC, .ref xH, .int (nI ct), .ref xT, .ref xP, .int (nI lk), .ref xB, .ref xR, .ref xL, .ref xN, .ref xQ, .int (nI g2.toNat)])), (xK, .inl (cI, 24, .inl km)), (xC, .inl (cI, 3, .inl cq)), (xL, .inl (cI, 31, .inl (upd ls_ rcs.length (nI kd)))), (xQ, .inl (cI, 720, .inl v)), (xB, .inl (cI, 4326, .inl B3)), (xR, .inl (cI, 721, .inl Rk3))] := hD
      refine lv_aload_n hx hb d_M_tryCall_117 rfl (lv_at hl 0 rfl) ?_
      refine va_get (D := D) (ci := 6) (v := .ref xQ) (C := R_M) (T := F_M) (N := 17) hx hb hts in_M hown hK hP 0 rfl rfl 15 (by decide) (hts _ (List.mem_cons_of_mem _ k_598)) (fun _ h9 => h9) rfl d_M_tryCall_118 ?_
      refine lv_aload_n hx hb d_M_tryCall_121 rfl (lv_at hl 0 rfl) ?_
      refine va_get (D := D) (ci := 6) (v := .ref xR) (C := R_M) (T := F_M) (N := 17) hx hb hts in_M hown hK hP 0 rfl rfl 12 (by decide) (hts _ (List.mem_cons_of_mem _ k_595)) (fun _ h9 => h9) rfl d_M_tryCall_122 ?_
      refine lv_iload hx hb d_M_tryCall_125 (lv_at hl 4 rfl) ?_
      refine xa_iald (v := nI (PR n ln mt (kd :: rcs) (rcs.length * ln + 1 + j))) hx hb hK hP 6 0 rfl rfl (by omega) (by decide) hRv d_M_tryCall_127 ?_
      refine lv_aload_n hx hb d_M_tryCall_128 rfl (lv_at hl 0 rfl) ?_
      refine va_get (D := D) (ci := 6) (v := .ref xQ) (C := R_M) (T := F_M) (N := 17) hx hb hts in_M hown hK hP 0 rfl rfl 15 (by decide) (hts _ (List.mem_cons_of_mem _ k_598)) (fun _ h9 => h9) rfl d_M_tryCall_129 ?_
      refine lv_aload_n hx hb d_M_tryCall_132 rfl (lv_at hl 0 rfl) ?_
      refine va_get (D := D) (ci := 6) (v := .ref xR) (C := R_M) (T := F_M) (N := 17) hx hb hts in_M hown hK hP 0 rfl rfl 12 (by decide) (hts _ (List.mem_cons_of_mem _ k_595)) (fun _ h9 => h9) rfl d_M_tryCall_133 ?_
      refine lv_iload hx hb d_M_tryCall_136 (lv_at hl 4 rfl) ?_
      refine xa_iald (v := nI (PR n ln mt (kd :: rcs) (rcs.length * ln + 1 + j))) hx hb hK hP 6 0 rfl rfl (by omega) (by decide) hRv d_M_tryCall_138 ?_
      refine xa_iald (v := nI (cr (PR n ln mt (kd :: rcs)) (rcs.length * ln + 1 + j) (PR n ln mt (kd :: rcs) (rcs.length * ln + 1 + j)))) hx hb hK hP 4 0 rfl rfl (by omega) (by decide) (hi2 _ hRl) d_M_tryCall_139 ?_
      refine lv_iconst (v := nI 1) hx hb d_M_tryCall_140 (by decide) ?_
      refine lv_iadd hx hb d_M_tryCall_141 ?_
      refine xn_i (y := nI ((cr (PR n ln mt (kd :: rcs)) (rcs.length * ln + 1 + j) (PR n ln mt (kd :: rcs) (rcs.length * ln + 1 + j))) + 1)) (nI_add _ _) ?_
      refine xa_iast hx hb hK hP hD hS 4 0 rfl rfl hRl (by decide) d_M_tryCall_142 (fun H locs hP hD hS => ?_)
      have hP : va_P D vwCl [(xM, .inr (6, [.int cd, .int (nI n), .ref xK, .ref xV, .int (nI ln), .ref xC, .ref xH, .int (nI ct), .ref xT, .ref xP, .int (nI lk), .ref xB, .ref xR, .ref xL, .ref xN, .ref xQ, .int (nI g2.toNat)])), (xK, .inl (cI, 24, .inl km)), (xC, .inl (cI, 3, .inl cq)), (xL, .inl (cI, 31, .inl (upd ls_ rcs.length (nI kd)))), (xQ, .inl (cI, 720, .inl (upd v (PR n ln mt (kd :: rcs) (rcs.length * ln + 1 + j)) (nI ((cr (PR n ln mt (kd :: rcs)) (rcs.length * ln + 1 + j) (PR n ln mt (kd :: rcs) (rcs.length * ln + 1 + j))) + 1))))), (xB, .inl (cI, 4326, .inl B3)), (xR, .inl (cI, 721, .inl Rk3))] H := hP
      have hD : va_D A [(xM, .inr (6, [.int cd, .int (nI n), .ref xK, .ref xV, .int (nI ln), .ref xC, .ref xH, .int (nI ct), .ref xT, .ref xP, .int (nI lk), .ref xB, .ref xR, .ref xL, .ref xN, .ref xQ, .int (nI g2.toNat)])), (xK, .inl (cI, 24, .inl km)), (xC, .inl (cI, 3, .inl cq)), (xL, .inl (cI, 31, .inl (upd ls_ rcs.length (nI kd)))), (xQ, .inl (cI, 720, .inl (upd v (PR n ln mt (kd :: rcs) (rcs.length * ln + 1 + j)) (nI ((cr (PR n ln mt (kd :: rcs)) (rcs.length * ln + 1 + j) (PR n ln mt (kd :: rcs) (rcs.length * ln + 1 + j))) + 1))))), (xB, .inl (cI, 4326, .inl B3)), (xR, .inl (cI, 721, .inl Rk3))] := hD
      refine lv_iinc (k := 4) (v := nI (rcs.length * ln + 1 + j + 1)) hx hb d_M_tryCall_143 hl rfl (xi_1 _) (by decide) rfl (fun ls hl => ?_)
      have hl : lv_has ls 6 [(4, .int (nI (rcs.length * ln + 1 + j + 1))), (0, .ref xM), (1, .int (nI rcs.length)), (2, .int (nI kd)), (3, .int (nI ((rcs.length + 1) * ln)))] := hl
      refine lv_goto (tgt := 42) hx hb d_M_tryCall_146 rfl ?_
      have hl : lv_has ls 6 [(0, .ref xM), (1, .int (nI rcs.length)), (2, .int (nI kd)), (3, .int (nI ((rcs.length + 1) * ln))), (4, .int (nI (rcs.length * ln + 1 + (j + 1))))] := lv_sub hl [1, 2, 3, 4, 0] rfl
      have hP := hP.sub (ws' := [(xM, .inr (6, [.int cd, .int (nI n), .ref xK, .ref xV, .int (nI ln), .ref xC, .ref xH, .int (nI ct), .ref xT, .ref xP, .int (nI lk), .ref xB, .ref xR, .ref xL, .ref xN, .ref xQ, .int (nI ((rpo (PR n ln mt (kd :: rcs)) (rcs.length * ln + 1) ln (j + 1)).toNat))])), (xK, .inl (cI, 24, .inl km)), (xC, .inl (cI, 3, .inl cq)), (xL, .inl (cI, 31, .inl (upd ls_ rcs.length (nI kd)))), (xQ, .inl (cI, 720, .inl (upd v (PR n ln mt (kd :: rcs) (rcs.length * ln + 1 + j)) (nI ((cr (PR n ln mt (kd :: rcs)) (rcs.length * ln + 1 + j) (PR n ln mt (kd :: rcs) (rcs.length * ln + 1 + j))) + 1))))), (xB, .inl (cI, 4326, .inl B3)), (xR, .inl (cI, 721, .inl Rk3))]) [0, 1, 2, 3, 4, 5, 6] (by rw [← hg2] <;> rfl)
      have hD := hD.sub (ws' := [(xM, .inr (6, [.int cd, .int (nI n), .ref xK, .ref xV, .int (nI ln), .ref xC, .ref xH, .int (nI ct), .ref xT, .ref xP, .int (nI lk), .ref xB, .ref xR, .ref xL, .ref xN, .ref xQ, .int (nI ((rpo (PR n ln mt (kd :: rcs)) (rcs.length * ln + 1) ln (j + 1)).toNat))])), (xK, .inl (cI, 24, .inl km)), (xC, .inl (cI, 3, .inl cq)), (xL, .inl (cI, 31, .inl (upd ls_ rcs.length (nI kd)))), (xQ, .inl (cI, 720, .inl (upd v (PR n ln mt (kd :: rcs) (rcs.length * ln + 1 + j)) (nI ((cr (PR n ln mt (kd :: rcs)) (rcs.length * ln + 1 + j) (PR n ln mt (kd :: rcs) (rcs.length * ln + 1 + j))) + 1))))), (xB, .inl (cI, 4326, .inl B3)), (xR, .inl (cI, 721, .inl Rk3))]) [0, 1, 2, 3, 4, 5, 6] (by decide) (by rw [← hg2] <;> rfl)
      exact ih (j + 1) (upd v (PR n ln mt (kd :: rcs) (rcs.length * ln + 1 + j)) (nI ((cr (PR n ln mt (kd :: rcs)) (rcs.length * ln + 1 + j) (PR n ln mt (kd :: rcs) (rcs.length * ln + 1 + j))) + 1))) _ _ _ (by omega) ⟨by omega, mh_s hi2, hl, hP, hD, hS⟩
    refine va_get (D := D) (ci := 6) (v := .int (nI ((rpo (PR n ln mt (kd :: rcs)) (rcs.length * ln + 1) ln j).toNat))) (C := R_M) (T := F_M) (N := 17) hx hb hts in_M hown hK hP 0 rfl rfl 16 (by decide) (hts _ (List.mem_cons_of_mem _ k_599)) (fun _ h9 => h9) rfl d_M_tryCall_83 ?_
    refine xb_neB (x := rpo (PR n ln mt (kd :: rcs)) (rcs.length * ln + 1) ln j) hx hb 109 d_M_tryCall_86 rfl (fun h86 => ?_) (fun h86 => ?_)
    · skip
      refine lv_iconst (v := nI 1) hx hb d_M_tryCall_109 (by decide) ?_
      refine lv_goto (tgt := 114) hx hb d_M_tryCall_110 rfl ?_
      have hl : lv_has ls 6 [(0, .ref xM), (1, .int (nI rcs.length)), (2, .int (nI kd)), (3, .int (nI ((rcs.length + 1) * ln))), (4, .int (nI (rcs.length * ln + 1 + j)))] := lv_sub hl [1, 2, 3, 4, 5] rfl
      have hP := hP.sub (ws' := [(xM, .inr (6, [.int cd, .int (nI n), .ref xK, .ref xV, .int (nI ln), .ref xC, .ref xH, .int (nI ct), .ref xT, .ref xP, .int (nI lk), .ref xB, .ref xR, .ref xL, .ref xN, .ref xQ, .int (nI ((rpo (PR n ln mt (kd :: rcs)) (rcs.length * ln + 1) ln j).toNat))])), (xK, .inl (cI, 24, .inl km)), (xC, .inl (cI, 3, .inl cq)), (xL, .inl (cI, 31, .inl (upd ls_ rcs.length (nI kd)))), (xQ, .inl (cI, 720, .inl v)), (xB, .inl (cI, 4326, .inl B3)), (xR, .inl (cI, 721, .inl Rk3))]) [0, 1, 2, 3, 4, 5, 6] rfl
      have hD := hD.sub (ws' := [(xM, .inr (6, [.int cd, .int (nI n), .ref xK, .ref xV, .int (nI ln), .ref xC, .ref xH, .int (nI ct), .ref xT, .ref xP, .int (nI lk), .ref xB, .ref xR, .ref xL, .ref xN, .ref xQ, .int (nI ((rpo (PR n ln mt (kd :: rcs)) (rcs.length * ln + 1) ln j).toNat))])), (xK, .inl (cI, 24, .inl km)), (xC, .inl (cI, 3, .inl cq)), (xL, .inl (cI, 31, .inl (upd ls_ rcs.length (nI kd)))), (xQ, .inl (cI, 720, .inl v)), (xB, .inl (cI, 4326, .inl B3)), (xR, .inl (cI, 721, .inl Rk3))]) [0, 1, 2, 3, 4, 5, 6] (by decide) rfl
      exact hj1 true _ _ _ ⟨by rw [rpo_s]; first | exact (b_or1 h86).symm | exact (b_or2 (by rw [blt_t h101, ← hg1, h106]; rfl)).symm, hl, hP, hD, hS⟩
    refine lv_aload_n hx hb d_M_tryCall_89 rfl (lv_at hl 1 rfl) ?_
    refine va_get (D := D) (ci := 6) (v := .ref xQ) (C := R_M) (T := F_M) (N := 17) hx hb hts in_M hown hK hP 0 rfl rfl 15 (by decide) (hts _ (List.mem_cons_of_mem _ k_598)) (fun _ h9 => h9) rfl d_M_tryCall_90 ?_
    refine lv_aload_n hx hb d_M_tryCall_93 rfl (lv_at hl 1 rfl) ?_
    refine va_get (D := D) (ci := 6) (v := .ref xR) (C := R_M) (T := F_M) (N := 17) hx hb hts in_M hown hK hP 0 rfl rfl 12 (by decide) (hts _ (List.mem_cons_of_mem _ k_595)) (fun _ h9 => h9) rfl d_M_tryCall_94 ?_
    refine lv_iload hx hb d_M_tryCall_97 (lv_at hl 5 rfl) ?_
    refine xa_iald (v := nI (PR n ln mt (kd :: rcs) (rcs.length * ln + 1 + j))) hx hb hK hP 6 0 rfl rfl (by omega) (by decide) hRv d_M_tryCall_99 ?_
    refine xa_iald (v := nI (cr (PR n ln mt (kd :: rcs)) (rcs.length * ln + 1 + j) (PR n ln mt (kd :: rcs) (rcs.length * ln + 1 + j)))) hx hb hK hP 4 0 rfl rfl (by omega) (by decide) (hi2 _ hRl) d_M_tryCall_100 ?_
    refine xb_le hx hb 113 (by have := cr_le (PR n ln mt (kd :: rcs)) (PR n ln mt (kd :: rcs) (rcs.length * ln + 1 + j)) (rcs.length * ln + 1 + j); omega) d_M_tryCall_101 rfl (fun h101 => ?_) (fun h101 => ?_)
    · skip
      refine lv_iconst (v := nI 0) hx hb d_M_tryCall_113 (by decide) ?_
      have hl : lv_has ls 6 [(0, .ref xM), (1, .int (nI rcs.length)), (2, .int (nI kd)), (3, .int (nI ((rcs.length + 1) * ln))), (4, .int (nI (rcs.length * ln + 1 + j)))] := lv_sub hl [1, 2, 3, 4, 5] rfl
      have hP := hP.sub (ws' := [(xM, .inr (6, [.int cd, .int (nI n), .ref xK, .ref xV, .int (nI ln), .ref xC, .ref xH, .int (nI ct), .ref xT, .ref xP, .int (nI lk), .ref xB, .ref xR, .ref xL, .ref xN, .ref xQ, .int (nI ((rpo (PR n ln mt (kd :: rcs)) (rcs.length * ln + 1) ln j).toNat))])), (xK, .inl (cI, 24, .inl km)), (xC, .inl (cI, 3, .inl cq)), (xL, .inl (cI, 31, .inl (upd ls_ rcs.length (nI kd)))), (xQ, .inl (cI, 720, .inl v)), (xB, .inl (cI, 4326, .inl B3)), (xR, .inl (cI, 721, .inl Rk3))]) [0, 1, 2, 3, 4, 5, 6] rfl
      have hD := hD.sub (ws' := [(xM, .inr (6, [.int cd, .int (nI n), .ref xK, .ref xV, .int (nI ln), .ref xC, .ref xH, .int (nI ct), .ref xT, .ref xP, .int (nI lk), .ref xB, .ref xR, .ref xL, .ref xN, .ref xQ, .int (nI ((rpo (PR n ln mt (kd :: rcs)) (rcs.length * ln + 1) ln j).toNat))])), (xK, .inl (cI, 24, .inl km)), (xC, .inl (cI, 3, .inl cq)), (xL, .inl (cI, 31, .inl (upd ls_ rcs.length (nI kd)))), (xQ, .inl (cI, 720, .inl v)), (xB, .inl (cI, 4326, .inl B3)), (xR, .inl (cI, 721, .inl Rk3))]) [0, 1, 2, 3, 4, 5, 6] (by decide) rfl
      exact hj1 false _ _ _ ⟨by rw [rpo_s]; first | exact (b_or0 h86 (by rw [h101]; rfl)).symm | exact (b_or0 h86 (by rw [← hg1, h106, Bool.not_true, Bool.and_false])).symm, hl, hP, hD, hS⟩
    refine lv_iload hx hb d_M_tryCall_104 (lv_at hl 0 rfl) ?_
    refine xb_neB (x := g1) hx hb 113 d_M_tryCall_106 rfl (fun h106 => ?_) (fun h106 => ?_)
    · skip
      refine lv_iconst (v := nI 0) hx hb d_M_tryCall_113 (by decide) ?_
      have hl : lv_has ls 6 [(0, .ref xM), (1, .int (nI rcs.length)), (2, .int (nI kd)), (3, .int (nI ((rcs.length + 1) * ln))), (4, .int (nI (rcs.length * ln + 1 + j)))] := lv_sub hl [1, 2, 3, 4, 5] rfl
      have hP := hP.sub (ws' := [(xM, .inr (6, [.int cd, .int (nI n), .ref xK, .ref xV, .int (nI ln), .ref xC, .ref xH, .int (nI ct), .ref xT, .ref xP, .int (nI lk), .ref xB, .ref xR, .ref xL, .ref xN, .ref xQ, .int (nI ((rpo (PR n ln mt (kd :: rcs)) (rcs.length * ln + 1) ln j).toNat))])), (xK, .inl (cI, 24, .inl km)), (xC, .inl (cI, 3, .inl cq)), (xL, .inl (cI, 31, .inl (upd ls_ rcs.length (nI kd)))), (xQ, .inl (cI, 720, .inl v)), (xB, .inl (cI, 4326, .inl B3)), (xR, .inl (cI, 721, .inl Rk3))]) [0, 1, 2, 3, 4, 5, 6] rfl
      have hD := hD.sub (ws' := [(xM, .inr (6, [.int cd, .int (nI n), .ref xK, .ref xV, .int (nI ln), .ref xC, .ref xH, .int (nI ct), .ref xT, .ref xP, .int (nI lk), .ref xB, .ref xR, .ref xL, .ref xN, .ref xQ, .int (nI ((rpo (PR n ln mt (kd :: rcs)) (rcs.length * ln + 1) ln j).toNat))])), (xK, .inl (cI, 24, .inl km)), (xC, .inl (cI, 3, .inl cq)), (xL, .inl (cI, 31, .inl (upd ls_ rcs.length (nI kd)))), (xQ, .inl (cI, 720, .inl v)), (xB, .inl (cI, 4326, .inl B3)), (xR, .inl (cI, 721, .inl Rk3))]) [0, 1, 2, 3, 4, 5, 6] (by decide) rfl
      exact hj1 false _ _ _ ⟨by rw [rpo_s]; first | exact (b_or0 h86 (by rw [h101]; rfl)).symm | exact (b_or0 h86 (by rw [← hg1, h106, Bool.not_true, Bool.and_false])).symm, hl, hP, hD, hS⟩
    refine lv_iconst (v := nI 1) hx hb d_M_tryCall_109 (by decide) ?_
    refine lv_goto (tgt := 114) hx hb d_M_tryCall_110 rfl ?_
    have hl : lv_has ls 6 [(0, .ref xM), (1, .int (nI rcs.length)), (2, .int (nI kd)), (3, .int (nI ((rcs.length + 1) * ln))), (4, .int (nI (rcs.length * ln + 1 + j)))] := lv_sub hl [1, 2, 3, 4, 5] rfl
    have hP := hP.sub (ws' := [(xM, .inr (6, [.int cd, .int (nI n), .ref xK, .ref xV, .int (nI ln), .ref xC, .ref xH, .int (nI ct), .ref xT, .ref xP, .int (nI lk), .ref xB, .ref xR, .ref xL, .ref xN, .ref xQ, .int (nI ((rpo (PR n ln mt (kd :: rcs)) (rcs.length * ln + 1) ln j).toNat))])), (xK, .inl (cI, 24, .inl km)), (xC, .inl (cI, 3, .inl cq)), (xL, .inl (cI, 31, .inl (upd ls_ rcs.length (nI kd)))), (xQ, .inl (cI, 720, .inl v)), (xB, .inl (cI, 4326, .inl B3)), (xR, .inl (cI, 721, .inl Rk3))]) [0, 1, 2, 3, 4, 5, 6] rfl
    have hD := hD.sub (ws' := [(xM, .inr (6, [.int cd, .int (nI n), .ref xK, .ref xV, .int (nI ln), .ref xC, .ref xH, .int (nI ct), .ref xT, .ref xP, .int (nI lk), .ref xB, .ref xR, .ref xL, .ref xN, .ref xQ, .int (nI ((rpo (PR n ln mt (kd :: rcs)) (rcs.length * ln + 1) ln j).toNat))])), (xK, .inl (cI, 24, .inl km)), (xC, .inl (cI, 3, .inl cq)), (xL, .inl (cI, 31, .inl (upd ls_ rcs.length (nI kd)))), (xQ, .inl (cI, 720, .inl v)), (xB, .inl (cI, 4326, .inl B3)), (xR, .inl (cI, 721, .inl Rk3))]) [0, 1, 2, 3, 4, 5, 6] (by decide) rfl
    exact hj1 true _ _ _ ⟨by rw [rpo_s]; first | exact (b_or1 h86).symm | exact (b_or2 (by rw [blt_t h101, ← hg1, h106]; rfl)).symm, hl, hP, hD, hS⟩
  refine lv_iload hx hb d_M_tryCall_48 (lv_at hl 4 rfl) ?_
  refine lv_iload_n hx hb d_M_tryCall_50 rfl (lv_at hl 3 rfl) ?_
  refine xb_cne hx hb 78 (by omega) (by rw [Nat.succ_mul]; omega) d_M_tryCall_51 rfl (fun h51 => ?_) (fun h51 => ?_)
  · rw [Nat.succ_mul] at h51
    refine lv_iconst (v := nI 0) hx hb d_M_tryCall_78 (by decide) ?_
    have hl : lv_has ls 6 [(0, .ref xM), (1, .int (nI rcs.length)), (2, .int (nI kd)), (3, .int (nI ((rcs.length + 1) * ln))), (4, .int (nI (rcs.length * ln + 1 + j)))] := lv_sub hl [0, 1, 2, 3, 4] rfl
    have hP := hP.sub (ws' := [(xM, .inr (6, [.int cd, .int (nI n), .ref xK, .ref xV, .int (nI ln), .ref xC, .ref xH, .int (nI ct), .ref xT, .ref xP, .int (nI lk), .ref xB, .ref xR, .ref xL, .ref xN, .ref xQ, .int (nI ((rpo (PR n ln mt (kd :: rcs)) (rcs.length * ln + 1) ln j).toNat))])), (xK, .inl (cI, 24, .inl km)), (xC, .inl (cI, 3, .inl cq)), (xL, .inl (cI, 31, .inl (upd ls_ rcs.length (nI kd)))), (xQ, .inl (cI, 720, .inl v)), (xB, .inl (cI, 4326, .inl B3)), (xR, .inl (cI, 721, .inl Rk3))]) [0, 1, 2, 3, 4, 5, 6] rfl
    have hD := hD.sub (ws' := [(xM, .inr (6, [.int cd, .int (nI n), .ref xK, .ref xV, .int (nI ln), .ref xC, .ref xH, .int (nI ct), .ref xT, .ref xP, .int (nI lk), .ref xB, .ref xR, .ref xL, .ref xN, .ref xQ, .int (nI ((rpo (PR n ln mt (kd :: rcs)) (rcs.length * ln + 1) ln j).toNat))])), (xK, .inl (cI, 24, .inl km)), (xC, .inl (cI, 3, .inl cq)), (xL, .inl (cI, 31, .inl (upd ls_ rcs.length (nI kd)))), (xQ, .inl (cI, 720, .inl v)), (xB, .inl (cI, 4326, .inl B3)), (xR, .inl (cI, 721, .inl Rk3))]) [0, 1, 2, 3, 4, 5, 6] (by decide) rfl
    exact hj false _ _ _ ⟨(decide_eq_false (fun q => by first | omega | exact h61 q.2.1 | exact h71 q.2.2)).symm, hl, hP, hD, hS⟩
  rw [Nat.succ_mul] at h51
  refine lv_aload_n hx hb d_M_tryCall_54 rfl (lv_at hl 0 rfl) ?_
  refine va_get (D := D) (ci := 6) (v := .ref xR) (C := R_M) (T := F_M) (N := 17) hx hb hts in_M hown hK hP 0 rfl rfl 12 (by decide) (hts _ (List.mem_cons_of_mem _ k_595)) (fun _ h9 => h9) rfl d_M_tryCall_55 ?_
  refine lv_iload hx hb d_M_tryCall_58 (lv_at hl 4 rfl) ?_
  refine xa_iald (v := nI (PR n ln mt (kd :: rcs) (rcs.length * ln + 1 + j))) hx hb hK hP 6 0 rfl rfl (by omega) (by decide) hRv d_M_tryCall_60 ?_
  refine xb_ne hx hb 78 (by omega) d_M_tryCall_61 rfl (fun h61 => ?_) (fun h61 => ?_)
  · skip
    refine lv_iconst (v := nI 0) hx hb d_M_tryCall_78 (by decide) ?_
    have hl : lv_has ls 6 [(0, .ref xM), (1, .int (nI rcs.length)), (2, .int (nI kd)), (3, .int (nI ((rcs.length + 1) * ln))), (4, .int (nI (rcs.length * ln + 1 + j)))] := lv_sub hl [0, 1, 2, 3, 4] rfl
    have hP := hP.sub (ws' := [(xM, .inr (6, [.int cd, .int (nI n), .ref xK, .ref xV, .int (nI ln), .ref xC, .ref xH, .int (nI ct), .ref xT, .ref xP, .int (nI lk), .ref xB, .ref xR, .ref xL, .ref xN, .ref xQ, .int (nI ((rpo (PR n ln mt (kd :: rcs)) (rcs.length * ln + 1) ln j).toNat))])), (xK, .inl (cI, 24, .inl km)), (xC, .inl (cI, 3, .inl cq)), (xL, .inl (cI, 31, .inl (upd ls_ rcs.length (nI kd)))), (xQ, .inl (cI, 720, .inl v)), (xB, .inl (cI, 4326, .inl B3)), (xR, .inl (cI, 721, .inl Rk3))]) [0, 1, 2, 3, 4, 5, 6] rfl
    have hD := hD.sub (ws' := [(xM, .inr (6, [.int cd, .int (nI n), .ref xK, .ref xV, .int (nI ln), .ref xC, .ref xH, .int (nI ct), .ref xT, .ref xP, .int (nI lk), .ref xB, .ref xR, .ref xL, .ref xN, .ref xQ, .int (nI ((rpo (PR n ln mt (kd :: rcs)) (rcs.length * ln + 1) ln j).toNat))])), (xK, .inl (cI, 24, .inl km)), (xC, .inl (cI, 3, .inl cq)), (xL, .inl (cI, 31, .inl (upd ls_ rcs.length (nI kd)))), (xQ, .inl (cI, 720, .inl v)), (xB, .inl (cI, 4326, .inl B3)), (xR, .inl (cI, 721, .inl Rk3))]) [0, 1, 2, 3, 4, 5, 6] (by decide) rfl
    exact hj false _ _ _ ⟨(decide_eq_false (fun q => by first | omega | exact h61 q.2.1 | exact h71 q.2.2)).symm, hl, hP, hD, hS⟩
  refine lv_aload_n hx hb d_M_tryCall_64 rfl (lv_at hl 0 rfl) ?_
  refine va_get (D := D) (ci := 6) (v := .ref xQ) (C := R_M) (T := F_M) (N := 17) hx hb hts in_M hown hK hP 0 rfl rfl 15 (by decide) (hts _ (List.mem_cons_of_mem _ k_598)) (fun _ h9 => h9) rfl d_M_tryCall_65 ?_
  refine lv_iconst (v := nI 0) hx hb d_M_tryCall_68 (by decide) ?_
  refine xa_iald (v := nI (cr (PR n ln mt (kd :: rcs)) (rcs.length * ln + 1 + j) 0)) hx hb hK hP 4 0 rfl rfl (by omega) (by decide) (hi2 0 (by decide)) d_M_tryCall_69 ?_
  refine lv_iconst (v := nI 1) hx hb d_M_tryCall_70 (by decide) ?_
  refine xb_cne hx hb 78 (by have := cr_le (PR n ln mt (kd :: rcs)) 0 (rcs.length * ln + 1 + j); omega) (by omega) d_M_tryCall_71 rfl (fun h71 => ?_) (fun h71 => ?_)
  · skip
    refine lv_iconst (v := nI 0) hx hb d_M_tryCall_78 (by decide) ?_
    have hl : lv_has ls 6 [(0, .ref xM), (1, .int (nI rcs.length)), (2, .int (nI kd)), (3, .int (nI ((rcs.length + 1) * ln))), (4, .int (nI (rcs.length * ln + 1 + j)))] := lv_sub hl [0, 1, 2, 3, 4] rfl
    have hP := hP.sub (ws' := [(xM, .inr (6, [.int cd, .int (nI n), .ref xK, .ref xV, .int (nI ln), .ref xC, .ref xH, .int (nI ct), .ref xT, .ref xP, .int (nI lk), .ref xB, .ref xR, .ref xL, .ref xN, .ref xQ, .int (nI ((rpo (PR n ln mt (kd :: rcs)) (rcs.length * ln + 1) ln j).toNat))])), (xK, .inl (cI, 24, .inl km)), (xC, .inl (cI, 3, .inl cq)), (xL, .inl (cI, 31, .inl (upd ls_ rcs.length (nI kd)))), (xQ, .inl (cI, 720, .inl v)), (xB, .inl (cI, 4326, .inl B3)), (xR, .inl (cI, 721, .inl Rk3))]) [0, 1, 2, 3, 4, 5, 6] rfl
    have hD := hD.sub (ws' := [(xM, .inr (6, [.int cd, .int (nI n), .ref xK, .ref xV, .int (nI ln), .ref xC, .ref xH, .int (nI ct), .ref xT, .ref xP, .int (nI lk), .ref xB, .ref xR, .ref xL, .ref xN, .ref xQ, .int (nI ((rpo (PR n ln mt (kd :: rcs)) (rcs.length * ln + 1) ln j).toNat))])), (xK, .inl (cI, 24, .inl km)), (xC, .inl (cI, 3, .inl cq)), (xL, .inl (cI, 31, .inl (upd ls_ rcs.length (nI kd)))), (xQ, .inl (cI, 720, .inl v)), (xB, .inl (cI, 4326, .inl B3)), (xR, .inl (cI, 721, .inl Rk3))]) [0, 1, 2, 3, 4, 5, 6] (by decide) rfl
    exact hj false _ _ _ ⟨(decide_eq_false (fun q => by first | omega | exact h61 q.2.1 | exact h71 q.2.2)).symm, hl, hP, hD, hS⟩
  refine lv_iconst (v := nI 1) hx hb d_M_tryCall_74 (by decide) ?_
  refine lv_goto (tgt := 79) hx hb d_M_tryCall_75 rfl ?_
  have hl : lv_has ls 6 [(0, .ref xM), (1, .int (nI rcs.length)), (2, .int (nI kd)), (3, .int (nI ((rcs.length + 1) * ln))), (4, .int (nI (rcs.length * ln + 1 + j)))] := lv_sub hl [0, 1, 2, 3, 4] rfl
  have hP := hP.sub (ws' := [(xM, .inr (6, [.int cd, .int (nI n), .ref xK, .ref xV, .int (nI ln), .ref xC, .ref xH, .int (nI ct), .ref xT, .ref xP, .int (nI lk), .ref xB, .ref xR, .ref xL, .ref xN, .ref xQ, .int (nI ((rpo (PR n ln mt (kd :: rcs)) (rcs.length * ln + 1) ln j).toNat))])), (xK, .inl (cI, 24, .inl km)), (xC, .inl (cI, 3, .inl cq)), (xL, .inl (cI, 31, .inl (upd ls_ rcs.length (nI kd)))), (xQ, .inl (cI, 720, .inl v)), (xB, .inl (cI, 4326, .inl B3)), (xR, .inl (cI, 721, .inl Rk3))]) [0, 1, 2, 3, 4, 5, 6] rfl
  have hD := hD.sub (ws' := [(xM, .inr (6, [.int cd, .int (nI n), .ref xK, .ref xV, .int (nI ln), .ref xC, .ref xH, .int (nI ct), .ref xT, .ref xP, .int (nI lk), .ref xB, .ref xR, .ref xL, .ref xN, .ref xQ, .int (nI ((rpo (PR n ln mt (kd :: rcs)) (rcs.length * ln + 1) ln j).toNat))])), (xK, .inl (cI, 24, .inl km)), (xC, .inl (cI, 3, .inl cq)), (xL, .inl (cI, 31, .inl (upd ls_ rcs.length (nI kd)))), (xQ, .inl (cI, 720, .inl v)), (xB, .inl (cI, 4326, .inl B3)), (xR, .inl (cI, 721, .inl Rk3))]) [0, 1, 2, 3, 4, 5, 6] (by decide) rfl
  exact hj true _ _ _ ⟨(decide_eq_true ⟨by omega, h61, h71⟩).symm, hl, hP, hD, hS⟩
end
