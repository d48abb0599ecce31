section
variable {l : Launch} {D : va_G} {cI cZ cJ cG : ClassId} {tF : Nat}
set_option maxHeartbeats 4000000 in
set_option maxRecDepth 100000 in
theorem c_M_music_no (xM : Nat) (cd : Int32) (n : Nat) (xK : Nat) (xV : Nat) (ln : Nat) (xC : Nat) (xH : Nat) (ct : Nat) (xT : Nat) (xP : Nat) (lk : Nat) (xB : Nat) (xR : Nat) (xL : Nat) (xN : Nat) (xQ : Nat) (rp : Bool) (x : Int32) (hno : okp x = false) : CtI l y_M_music (w_M_music) ({ frames := 0, cells := 0, slots := 0, locals := 0 }) D vwCl (TYs cI cZ cJ cG) (gG tF) [.ref xM, .int x] [(xM, .inr (6, [.int cd, .int (nI n), .ref xK, .ref xV, .int (nI ln), .ref xC, .ref xH, .int (nI ct), .ref xT, .ref xP, .int (nI lk), .ref xB, .ref xR, .ref xL, .ref xN, .ref xQ, .int (nI rp.toNat)]))] 0 0 (fun _ : Unit => [(xM, .inr (6, [.int (nI 0), .int (nI n), .ref xK, .ref xV, .int (nI ln), .ref xC, .ref xH, .int (nI ct), .ref xT, .ref xP, .int (nI lk), .ref xB, .ref xR, .ref xL, .ref xN, .ref xQ, .int (nI rp.toNat)]))]) (fun (r : Int32) (_ : Unit) => r = (-1)) := by
  refine CtI.of (cc := b_M_music) (maxL := 8) (ret := (some .int)) (by decide) rfl (Nat.le_of_ble_eq_true rfl) ?_
  intro p e s m args below meth c A ls hF hA hP hK hD hg hS hl
  obtain ⟨hx, hb, hrt, hlk, hml, hown, hts, hnm⟩ := hF
  have hown : s.vm.findClass R_M = some m.cls := hown
  have hl : lv_has ls 8 [(0, .ref xM), (1, .int x)] := hl
  refine lv_aload_n hx hb d_M_music_0 rfl (lv_at hl 0 rfl) ?_
  refine lv_iconst (v := nI 0) hx hb d_M_music_1 (by decide) ?_
  refine va_put (D := D) (ci := 6) (v := .int (nI 0)) (ty := .int) (C := R_M) (T := F_M) (N := 17) hx hb hts in_M t_M t_M_ok n_M hown hK hP hD hS 0 rfl rfl 0 (by decide) (hts _ (List.mem_cons_of_mem _ k_583)) (fun _ h9 => h9) rfl (by decide +kernel) rfl rfl (Nat.le_of_ble_eq_true rfl) d_M_music_2 (fun H locs hP hD hS => ?_)
  have hP : va_P D vwCl [(xM, .inr (6, [.int (nI 0), .int (nI n), .ref xK, .ref xV, .int (nI ln), .ref xC, .ref xH, .int (nI ct), .ref xT, .ref xP, .int (nI lk), .ref xB, .ref xR, .ref xL, .ref xN, .ref xQ, .int (nI rp.toNat)]))] H := hP
  have hD : va_D A [(xM, .inr (6, [.int (nI 0), .int (nI n), .ref xK, .ref xV, .int (nI ln), .ref xC, .ref xH, .int (nI ct), .ref xT, .ref xP, .int (nI lk), .ref xB, .ref xR, .ref xL, .ref xN, .ref xQ, .int (nI rp.toNat)]))] := hD
  refine lv_iload_n hx hb d_M_music_5 rfl (lv_at hl 1 rfl) ?_
  refine lv_if_lt (tgt := 14) hx hb d_M_music_6 rfl (fun h6 => ?_) (fun h6 => ?_)
  · skip
    refine lv_iconst (v := (-1)) hx hb d_M_music_14 (by decide) ?_
    exact xr_i hx hb hrt hlk rfl hP hD hS () [0] (by decide) rfl rfl d_M_music_15
  refine lv_iload_n hx hb d_M_music_9 rfl (lv_at hl 1 rfl) ?_
  refine lv_iconst (v := nI 3) hx hb d_M_music_10 (by decide) ?_
  refine lv_icmp_le (tgt := 16) hx hb d_M_music_11 rfl (fun h11 => ?_) (fun h11 => ?_)
  · skip
    exact absurd hno (by unfold okp; rw [if_neg h6, if_neg (x4b h11)]; decide)
  refine lv_iconst (v := (-1)) hx hb d_M_music_14 (by decide) ?_
  exact xr_i hx hb hrt hlk rfl hP hD hS () [0] (by decide) rfl rfl d_M_music_15
set_option maxHeartbeats 4000000 in
set_option maxRecDepth 100000 in
theorem c_M_music (xM : Nat) (cd : Int32) (n : Nat) (xK : Nat) (xV : Nat) (ln : Nat) (xC : Nat) (xH : Nat) (ct : Nat) (xT : Nat) (xP : Nat) (lk : Nat) (xB : Nat) (xR : Nat) (xL : Nat) (xN : Nat) (xQ : Nat) (rp : Bool) (B : Nat → Int32) (Rk : Nat → Int32) (km : Nat → Int32) (cq : Nat → Int32) (tq : Nat → Int32) (mt : Nat → Nat → Nat) (tt : Nat → Nat) (pq : Nat → Int32) (w : Nat) (hn : nb n) (hct : ct ≤ 30) (hln : ln ≤ 24) (hlt : ∀ i, i ≤ ct * ln → Rw n ln mt tt i < fa n) (htt : ∀ a, a < ct → tq a = nI (tt a) ∧ tt a ≤ 2 ∧ gmr n ln km cq (tt a) (mt (tt a))) (hw : w < 4) : CtI l y_M_music (w_M_music) ({ frames := 4, cells := 0, slots := 0, locals := 93 }) D vwCl (TYs cI cZ cJ cG) (gG tF) [.ref xM, .int (nI w)] [(xM, .inr (6, [.int cd, .int (nI n), .ref xK, .ref xV, .int (nI ln), .ref xC, .ref xH, .int (nI ct), .ref xT, .ref xP, .int (nI lk), .ref xB, .ref xR, .ref xL, .ref xN, .ref xQ, .int (nI rp.toNat)])), (xK, .inl (cI, 24, .inl km)), (xC, .inl (cI, 3, .inl cq)), (xT, .inl (cI, 30, .inl tq)), (xP, .inl (cI, 24, .inl pq)), (xB, .inl (cI, 4326, .inl B)), (xR, .inl (cI, 721, .inl Rk))] 0 0 (fun u : (Nat → Int32) × (Nat → Int32) => match u with | (B2, Rk2) => [(xM, .inr (6, [.int (nI 0), .int (nI n), .ref xK, .ref xV, .int (nI ln), .ref xC, .ref xH, .int (nI ct), .ref xT, .ref xP, .int (nI lk), .ref xB, .ref xR, .ref xL, .ref xN, .ref xQ, .int (nI rp.toNat)])), (xK, .inl (cI, 24, .inl km)), (xC, .inl (cI, 3, .inl cq)), (xT, .inl (cI, 30, .inl tq)), (xP, .inl (cI, 24, .inl pq)), (xB, .inl (cI, 4326, .inl B2)), (xR, .inl (cI, 721, .inl Rk2))]) (fun (r : Int32) (u : (Nat → Int32) × (Nat → Int32)) => match u with | (B2, Rk2) => r = nI (cnt (mtR n (Rw n ln mt tt) (fun p => pq (6 * w + p))) (ct * ln))) := by
  refine CtI.of (cc := b_M_music) (maxL := 8) (ret := (some .int)) (by decide) rfl (Nat.le_of_ble_eq_true rfl) ?_
  intro p e s m args below meth c A ls hF hA hP hK hD hg hS hl
  obtain ⟨hx, hb, hrt, hlk, hml, hown, hts, hnm⟩ := hF
  have hown : s.vm.findClass R_M = some m.cls := hown
  have hl : lv_has ls 8 [(0, .ref xM), (1, .int (nI w))] := hl
  have hn4 : 4 ≤ n := hn.1
  have hn6 : n ≤ 6 := hn.2
  have hfa : fa n ≤ 720 := fa_le hn
  have hcl : ct * ln ≤ 720 := by have := Nat.mul_le_mul hct hln; omega
  refine lv_aload_n hx hb d_M_music_0 rfl (lv_at hl 0 rfl) ?_
  refine lv_iconst (v := nI 0) hx hb d_M_music_1 (by decide) ?_
  refine va_put (D := D) (ci := 6) (v := .int (nI 0)) (ty := .int) (C := R_M) (T := F_M) (N := 17) hx hb hts in_M t_M t_M_ok n_M hown hK hP hD hS 0 rfl rfl 0 (by decide) (hts _ (List.mem_cons_of_mem _ k_583)) (fun _ h9 => h9) rfl (by decide +kernel) rfl rfl (Nat.le_of_ble_eq_true rfl) d_M_music_2 (fun H locs hP hD hS => ?_)
  have hP : va_P D vwCl [(xM, .inr (6, [.int (nI 0), .int (nI n), .ref xK, .ref xV, .int (nI ln), .ref xC, .ref xH, .int (nI ct), .ref xT, .ref xP, .int (nI lk), .ref xB, .ref xR, .ref xL, .ref xN, .ref xQ, .int (nI rp.toNat)])), (xK, .inl (cI, 24, .inl km)), (xC, .inl (cI, 3, .inl cq)), (xT, .inl (cI, 30, .inl tq)), (xP, .inl (cI, 24, .inl pq)), (xB, .inl (cI, 4326, .inl B)), (xR, .inl (cI, 721, .inl Rk))] H := hP
  have hD : va_D A [(xM, .inr (6, [.int (nI 0), .int (nI n), .ref xK, .ref xV, .int (nI ln), .ref xC, .ref xH, .int (nI ct), .ref xT, .ref xP, .int (nI lk), .ref xB, .ref xR, .ref xL, .ref xN, .ref xQ, .int (nI rp.toNat)])), (xK, .inl (cI, 24, .inl km)), (xC, .inl (cI, 3, .inl cq)), (xT, .inl (cI, 30, .inl tq)), (xP, .inl (cI, 24, .inl pq)), (xB, .inl (cI, 4326, .inl B)), (xR, .inl (cI, 721, .inl Rk))] := hD
  refine lv_iload_n hx hb d_M_music_5 rfl (lv_at hl 1 rfl) ?_
  refine xb_lt hx hb 14 (by omega) d_M_music_6 rfl ?_
  refine lv_iload_n hx hb d_M_music_9 rfl (lv_at hl 1 rfl) ?_
  refine lv_iconst (v := nI 3) hx hb d_M_music_10 (by decide) ?_
  refine xb_cle hx hb 16 (by omega) (by omega) d_M_music_11 rfl (fun h11 => ?_) (fun h11 => ?_)
  · skip
    refine lv_iconst (v := nI 0) hx hb d_M_music_16 (by decide) ?_
    refine lv_istore_n hx hb d_M_music_17 rfl hl (by decide) rfl (fun ls hl => ?_)
    have hl : lv_has ls 8 [(2, .int (nI 0)), (0, .ref xM), (1, .int (nI w))] := hl
    refine lv_aload_n hx hb d_M_music_18 rfl (lv_at hl 1 rfl) ?_
    refine xc_i (wc := [(xM, .inr (6, [.int (nI 0), .int (nI n), .ref xK, .ref xV, .int (nI ln), .ref xC, .ref xH, .int (nI ct), .ref xT, .ref xP, .int (nI lk), .ref xB, .ref xR, .ref xL, .ref xN, .ref xQ, .int (nI rp.toNat)])), (xK, .inl (cI, 24, .inl km)), (xC, .inl (cI, 3, .inl cq)), (xT, .inl (cI, 30, .inl tq)), (xB, .inl (cI, 4326, .inl B)), (xR, .inl (cI, 721, .inl Rk))]) (wr := [(xP, .inl (cI, 24, .inl pq))]) (gG_ok tF) hK hP hD hS hA hg [0, 1, 2, 3, 5, 6] [4] rfl rfl (by decide) (by decide) (by decide) (fun h1 h2 => va_runV (As := []) (rest := []) ⟨hx, hb, hml, hown, hts⟩ (c_M_ringAll xM (nI 0) n xK xV ln xC xH ct xT xP lk xB xR xL xN xQ rp B Rk km cq tq mt tt hn hct hln hcl hlt htt _) (cwV 0 hts (gV k_704 k_706 ks_M_ringAll k_7 k_707) rfl rfl rfl (by decide +kernel) ⟨Nat.le_of_ble_eq_true rfl, Nat.le_of_ble_eq_true rfl⟩) ⟨h1, va_recv (q0 := 0) (ci := 6) hK hP rfl rfl, h2⟩ rfl rfl hl.1 rfl (lv_room (Nat.le_of_ble_eq_true rfl)) d_M_music_19 ⟨Nat.zero_le _, Nat.zero_le _⟩) (fun r u H locs hq9 hP hD hS => ?_)
    obtain ⟨B2, Rk2⟩ := u
    obtain ⟨rfl, hw19⟩ := hq9
    have hP : va_P D vwCl [(xP, .inl (cI, 24, .inl pq)), (xM, .inr (6, [.int (nI 0), .int (nI n), .ref xK, .ref xV, .int (nI ln), .ref xC, .ref xH, .int (nI ct), .ref xT, .ref xP, .int (nI lk), .ref xB, .ref xR, .ref xL, .ref xN, .ref xQ, .int (nI rp.toNat)])), (xK, .inl (cI, 24, .inl km)), (xC, .inl (cI, 3, .inl cq)), (xT, .inl (cI, 30, .inl tq)), (xB, .inl (cI, 4326, .inl B2)), (xR, .inl (cI, 721, .inl Rk2))] H := hP
    have hD : va_D A [(xP, .inl (cI, 24, .inl pq)), (xM, .inr (6, [.int (nI 0), .int (nI n), .ref xK, .ref xV, .int (nI ln), .ref xC, .ref xH, .int (nI ct), .ref xT, .ref xP, .int (nI lk), .ref xB, .ref xR, .ref xL, .ref xN, .ref xQ, .int (nI rp.toNat)])), (xK, .inl (cI, 24, .inl km)), (xC, .inl (cI, 3, .inl cq)), (xT, .inl (cI, 30, .inl tq)), (xB, .inl (cI, 4326, .inl B2)), (xR, .inl (cI, 721, .inl Rk2))] := hD
    refine lv_istore_n hx hb d_M_music_22 rfl hl (by decide) rfl (fun ls hl => ?_)
    have hl : lv_has ls 8 [(3, .int (nI (ct * ln))), (2, .int (nI 0)), (0, .ref xM), (1, .int (nI w))] := hl
    refine lv_iconst (v := nI 1) hx hb d_M_music_23 (by decide) ?_
    refine lv_istore hx hb d_M_music_24 hl (by decide) rfl (fun ls hl => ?_)
    have hl : lv_has ls 8 [(4, .int (nI 1)), (3, .int (nI (ct * ln))), (2, .int (nI 0)), (0, .ref xM), (1, .int (nI w))] := hl
    have hl : lv_has ls 8 [(0, .ref xM), (1, .int (nI w)), (2, .int (nI (cnt (mtR n (Rw n ln mt tt) (fun p => pq (6 * w + p))) 0))), (3, .int (nI (ct * ln))), (4, .int (nI (0 + 1)))] := lv_sub hl [3, 4, 2, 1, 0] rfl
    have hP := hP.sub (ws' := [(xM, .inr (6, [.int (nI 0), .int (nI n), .ref xK, .ref xV, .int (nI ln), .ref xC, .ref xH, .int (nI ct), .ref xT, .ref xP, .int (nI lk), .ref xB, .ref xR, .ref xL, .ref xN, .ref xQ, .int (nI rp.toNat)])), (xK, .inl (cI, 24, .inl km)), (xC, .inl (cI, 3, .inl cq)), (xT, .inl (cI, 30, .inl tq)), (xP, .inl (cI, 24, .inl pq)), (xB, .inl (cI, 4326, .inl B2)), (xR, .inl (cI, 721, .inl Rk2))]) [1, 2, 3, 4, 0, 5, 6] rfl
    have hD := hD.sub (ws' := [(xM, .inr (6, [.int (nI 0), .int (nI n), .ref xK, .ref xV, .int (nI ln), .ref xC, .ref xH, .int (nI ct), .ref xT, .ref xP, .int (nI lk), .ref xB, .ref xR, .ref xL, .ref xN, .ref xQ, .int (nI rp.toNat)])), (xK, .inl (cI, 24, .inl km)), (xC, .inl (cI, 3, .inl cq)), (xT, .inl (cI, 30, .inl tq)), (xP, .inl (cI, 24, .inl pq)), (xB, .inl (cI, 4326, .inl B2)), (xR, .inl (cI, 721, .inl Rk2))]) [1, 2, 3, 4, 0, 5, 6] (by decide) rfl
    refine xn_pc (pc2 := 26) rfl ?_
    refine xl_1 (fun (a : Nat) ls H locs => (a ≤ ct * ln) ∧ lv_has ls 8 [(0, .ref xM), (1, .int (nI w)), (2, .int (nI (cnt (mtR n (Rw n ln mt tt) (fun p => pq (6 * w + p))) a))), (3, .int (nI (ct * ln))), (4, .int (nI (a + 1)))] ∧ va_P D vwCl [(xM, .inr (6, [.int (nI 0), .int (nI n), .ref xK, .ref xV, .int (nI ln), .ref xC, .ref xH, .int (nI ct), .ref xT, .ref xP, .int (nI lk), .ref xB, .ref xR, .ref xL, .ref xN, .ref xQ, .int (nI rp.toNat)])), (xK, .inl (cI, 24, .inl km)), (xC, .inl (cI, 3, .inl cq)), (xT, .inl (cI, 30, .inl tq)), (xP, .inl (cI, 24, .inl pq)), (xB, .inl (cI, 4326, .inl B2)), (xR, .inl (cI, 721, .inl Rk2))] H ∧ va_D A [(xM, .inr (6, [.int (nI 0), .int (nI n), .ref xK, .ref xV, .int (nI ln), .ref xC, .ref xH, .int (nI ct), .ref xT, .ref xP, .int (nI lk), .ref xB, .ref xR, .ref xL, .ref xN, .ref xQ, .int (nI rp.toNat)])), (xK, .inl (cI, 24, .inl km)), (xC, .inl (cI, 3, .inl cq)), (xT, .inl (cI, 30, .inl tq)), (xP, .inl (cI, 24, .inl pq)), (xB, .inl (cI, 4326, .inl B2)), (xR, .inl (cI, 721, .inl Rk2))] ∧ va_S A s.heap H locs) (fun (a : Nat) => ct * ln - a) (fun a ls H locs hI ih => ?_) 0 ⟨Nat.zero_le _, hl, hP, hD, hS⟩
    obtain ⟨hi1, hl, hP, hD, hS⟩ := hI
    refine lv_iload hx hb d_M_music_26 (lv_at hl 4 rfl) ?_
    refine lv_iload_n hx hb d_M_music_28 rfl (lv_at hl 3 rfl) ?_
    refine xb_cgt hx hb 121 (by omega) (by omega) d_M_music_29 rfl (fun h29 => ?_) (fun h29 => ?_)
    · skip
      refine lv_iload_n hx hb d_M_music_121 rfl (lv_at hl 2 rfl) ?_
      exact xr_i hx hb hrt hlk rfl hP hD hS (B2, Rk2) [0, 1, 2, 3, 4, 5, 6] (by decide) rfl (by rw [show a = ct * ln by omega]) d_M_music_122
    refine lv_iconst (v := nI 1) hx hb d_M_music_32 (by decide) ?_
    refine lv_istore hx hb d_M_music_33 hl (by decide) rfl (fun ls hl => ?_)
    have hl : lv_has ls 8 [(5, .int (nI 1)), (0, .ref xM), (1, .int (nI w)), (2, .int (nI (cnt (mtR n (Rw n ln mt tt) (fun p => pq (6 * w + p))) a))), (3, .int (nI (ct * ln))), (4, .int (nI (a + 1)))] := hl
    refine lv_iconst (v := nI 0) hx hb d_M_music_35 (by decide) ?_
    refine lv_istore hx hb d_M_music_36 hl (by decide) rfl (fun ls hl => ?_)
    have hl : lv_has ls 8 [(6, .int (nI 0)), (5, .int (nI 1)), (0, .ref xM), (1, .int (nI w)), (2, .int (nI (cnt (mtR n (Rw n ln mt tt) (fun p => pq (6 * w + p))) a))), (3, .int (nI (ct * ln))), (4, .int (nI (a + 1)))] := hl
    have hl : lv_has ls 8 [(0, .ref xM), (1, .int (nI w)), (2, .int (nI (cnt (mtR n (Rw n ln mt tt) (fun p => pq (6 * w + p))) a))), (3, .int (nI (ct * ln))), (4, .int (nI (a + 1))), (5, .int (nI ((mpr n (Rw n ln mt tt (a + 1)) (fun p => pq (6 * w + p)) 0).toNat))), (6, .int (nI 0))] := lv_sub hl [2, 3, 4, 5, 6, 1, 0] (by rw [show mpr n (Rw n ln mt tt (a + 1)) (fun p => pq (6 * w + p)) 0 = true from decide_eq_true (fun q hq => absurd hq (Nat.not_lt_zero q))] <;> rfl)
    have hP := hP.sub (ws' := [(xM, .inr (6, [.int (nI 0), .int (nI n), .ref xK, .ref xV, .int (nI ln), .ref xC, .ref xH, .int (nI ct), .ref xT, .ref xP, .int (nI lk), .ref xB, .ref xR, .ref xL, .ref xN, .ref xQ, .int (nI rp.toNat)])), (xK, .inl (cI, 24, .inl km)), (xC, .inl (cI, 3, .inl cq)), (xT, .inl (cI, 30, .inl tq)), (xP, .inl (cI, 24, .inl pq)), (xB, .inl (cI, 4326, .inl B2)), (xR, .inl (cI, 721, .inl Rk2))]) [0, 1, 2, 3, 4, 5, 6] rfl
    have hD := hD.sub (ws' := [(xM, .inr (6, [.int (nI 0), .int (nI n), .ref xK, .ref xV, .int (nI ln), .ref xC, .ref xH, .int (nI ct), .ref xT, .ref xP, .int (nI lk), .ref xB, .ref xR, .ref xL, .ref xN, .ref xQ, .int (nI rp.toNat)])), (xK, .inl (cI, 24, .inl km)), (xC, .inl (cI, 3, .inl cq)), (xT, .inl (cI, 30, .inl tq)), (xP, .inl (cI, 24, .inl pq)), (xB, .inl (cI, 4326, .inl B2)), (xR, .inl (cI, 721, .inl Rk2))]) [0, 1, 2, 3, 4, 5, 6] (by decide) rfl
    refine xn_pc (pc2 := 38) rfl ?_
    refine xl_1 (fun (q : Nat) ls H locs => (q ≤ n) ∧ lv_has ls 8 [(0, .ref xM), (1, .int (nI w)), (2, .int (nI (cnt (mtR n (Rw n ln mt tt) (fun p => pq (6 * w + p))) a))), (3, .int (nI (ct * ln))), (4, .int (nI (a + 1))), (5, .int (nI ((mpr n (Rw n ln mt tt (a + 1)) (fun p => pq (6 * w + p)) q).toNat))), (6, .int (nI q))] ∧ va_P D vwCl [(xM, .inr (6, [.int (nI 0), .int (nI n), .ref xK, .ref xV, .int (nI ln), .ref xC, .ref xH, .int (nI ct), .ref xT, .ref xP, .int (nI lk), .ref xB, .ref xR, .ref xL, .ref xN, .ref xQ, .int (nI rp.toNat)])), (xK, .inl (cI, 24, .inl km)), (xC, .inl (cI, 3, .inl cq)), (xT, .inl (cI, 30, .inl tq)), (xP, .inl (cI, 24, .inl pq)), (xB, .inl (cI, 4326, .inl B2)), (xR, .inl (cI, 721, .inl Rk2))] H ∧ va_D A [(xM, .inr (6, [.int (nI 0), .int (nI n), .ref xK, .ref xV, .int (nI ln), .ref xC, .ref xH, .int (nI ct), .ref xT, .ref xP, .int (nI lk), .ref xB, .ref xR, .ref xL, .ref xN, .ref xQ, .int (nI rp.toNat)])), (xK, .inl (cI, 24, .inl km)), (xC, .inl (cI, 3, .inl cq)), (xT, .inl (cI, 30, .inl tq)), (xP, .inl (cI, 24, .inl pq)), (xB, .inl (cI, 4326, .inl B2)), (xR, .inl (cI, 721, .inl Rk2))] ∧ va_S A s.heap H locs) (fun (q : Nat) => n - q) (fun q ls H locs hI ih1 => ?_) 0 ⟨Nat.zero_le n, hl, hP, hD, hS⟩
    obtain ⟨hj1, hl, hP, hD, hS⟩ := hI
    refine lv_iload hx hb d_M_music_38 (lv_at hl 6 rfl) ?_
    refine lv_aload_n hx hb d_M_music_40 rfl (lv_at hl 0 rfl) ?_
    refine va_get (D := D) (ci := 6) (v := .int (nI n)) (C := R_M) (T := F_M) (N := 17) hx hb hts in_M hown hK hP 0 rfl rfl 1 (by decide) (hts _ (List.mem_cons_of_mem _ k_584)) (fun _ h9 => h9) rfl d_M_music_41 ?_
    refine xb_cge hx hb 102 (by omega) (by omega) d_M_music_44 rfl (fun h44 => ?_) (fun h44 => ?_)
    · skip
      refine lv_iload hx hb d_M_music_102 (lv_at hl 5 rfl) ?_
      refine xb_eqB (x := mpr n (Rw n ln mt tt (a + 1)) (fun p => pq (6 * w + p)) q) hx hb 113 d_M_music_104 rfl (fun h104 => ?_) (fun h104 => ?_)
      · have h104 : mtR n (Rw n ln mt tt) (fun p => pq (6 * w + p)) a = false := by have h9 := h104; rw [show q = n by omega] at h9; exact h9
        refine lv_iload_n hx hb d_M_music_113 rfl (lv_at hl 2 rfl) ?_
        refine lv_istore_n hx hb d_M_music_114 rfl hl (by decide) rfl (fun ls hl => ?_)
        have hl : lv_has ls 8 [(2, .int (nI (cnt (mtR n (Rw n ln mt tt) (fun p => pq (6 * w + p))) a))), (0, .ref xM), (1, .int (nI w)), (3, .int (nI (ct * ln))), (4, .int (nI (a + 1))), (5, .int (nI ((mpr n (Rw n ln mt tt (a + 1)) (fun p => pq (6 * w + p)) q).toNat))), (6, .int (nI q))] := hl
        refine lv_iinc (k := 4) (v := nI (a + 1 + 1)) hx hb d_M_music_115 hl rfl (xi_1 _) (by decide) rfl (fun ls hl => ?_)
        have hl : lv_has ls 8 [(4, .int (nI (a + 1 + 1))), (2, .int (nI (cnt (mtR n (Rw n ln mt tt) (fun p => pq (6 * w + p))) a))), (0, .ref xM), (1, .int (nI w)), (3, .int (nI (ct * ln))), (5, .int (nI ((mpr n (Rw n ln mt tt (a + 1)) (fun p => pq (6 * w + p)) q).toNat))), (6, .int (nI q))] := hl
        refine lv_goto (tgt := 26) hx hb d_M_music_118 rfl ?_
        have ec : cnt (mtR n (Rw n ln mt tt) (fun p => pq (6 * w + p))) (a + 1) = cnt (mtR n (Rw n ln mt tt) (fun p => pq (6 * w + p))) a := cr_cn0 h104
        have hl : lv_has ls 8 [(0, .ref xM), (1, .int (nI w)), (2, .int (nI (cnt (mtR n (Rw n ln mt tt) (fun p => pq (6 * w + p))) (a + 1)))), (3, .int (nI (ct * ln))), (4, .int (nI ((a + 1) + 1)))] := lv_sub hl [2, 3, 1, 4, 0] (by rw [ec] <;> rfl)
        have hP := hP.sub (ws' := [(xM, .inr (6, [.int (nI 0), .int (nI n), .ref xK, .ref xV, .int (nI ln), .ref xC, .ref xH, .int (nI ct), .ref xT, .ref xP, .int (nI lk), .ref xB, .ref xR, .ref xL, .ref xN, .ref xQ, .int (nI rp.toNat)])), (xK, .inl (cI, 24, .inl km)), (xC, .inl (cI, 3, .inl cq)), (xT, .inl (cI, 30, .inl tq)), (xP, .inl (cI, 24, .inl pq)), (xB, .inl (cI, 4326, .inl B2)), (xR, .inl (cI, 721, .inl Rk2))]) [0, 1, 2, 3, 4, 5, 6] rfl
        have hD := hD.sub (ws' := [(xM, .inr (6, [.int (nI 0), .int (nI n), .ref xK, .ref xV, .int (nI ln), .ref xC, .ref xH, .int (nI ct), .ref xT, .ref xP, .int (nI lk), .ref xB, .ref xR, .ref xL, .ref xN, .ref xQ, .int (nI rp.toNat)])), (xK, .inl (cI, 24, .inl km)), (xC, .inl (cI, 3, .inl cq)), (xT, .inl (cI, 30, .inl tq)), (xP, .inl (cI, 24, .inl pq)), (xB, .inl (cI, 4326, .inl B2)), (xR, .inl (cI, 721, .inl Rk2))]) [0, 1, 2, 3, 4, 5, 6] (by decide) rfl
        exact ih (a + 1) _ _ _ (by omega) ⟨by omega, hl, hP, hD, hS⟩
      have h104 : mtR n (Rw n ln mt tt) (fun p => pq (6 * w + p)) a = true := by have h9 := h104; rw [show q = n by omega] at h9; exact h9
      refine lv_iload_n hx hb d_M_music_107 rfl (lv_at hl 2 rfl) ?_
      refine lv_iconst (v := nI 1) hx hb d_M_music_108 (by decide) ?_
      refine lv_iadd hx hb d_M_music_109 ?_
      refine xn_i (y := nI ((cnt (mtR n (Rw n ln mt tt) (fun p => pq (6 * w + p))) a) + 1)) (nI_add _ _) ?_
      refine lv_goto (tgt := 114) hx hb d_M_music_110 rfl ?_
      refine lv_istore_n hx hb d_M_music_114 rfl hl (by decide) rfl (fun ls hl => ?_)
      have hl : lv_has ls 8 [(2, .int (nI ((cnt (mtR n (Rw n ln mt tt) (fun p => pq (6 * w + p))) a) + 1))), (0, .ref xM), (1, .int (nI w)), (3, .int (nI (ct * ln))), (4, .int (nI (a + 1))), (5, .int (nI ((mpr n (Rw n ln mt tt (a + 1)) (fun p => pq (6 * w + p)) q).toNat))), (6, .int (nI q))] := hl
      refine lv_iinc (k := 4) (v := nI (a + 1 + 1)) hx hb d_M_music_115 hl rfl (xi_1 _) (by decide) rfl (fun ls hl => ?_)
      have hl : lv_has ls 8 [(4, .int (nI (a + 1 + 1))), (2, .int (nI ((cnt (mtR n (Rw n ln mt tt) (fun p => pq (6 * w + p))) a) + 1))), (0, .ref xM), (1, .int (nI w)), (3, .int (nI (ct * ln))), (5, .int (nI ((mpr n (Rw n ln mt tt (a + 1)) (fun p => pq (6 * w + p)) q).toNat))), (6, .int (nI q))] := hl
      refine lv_goto (tgt := 26) hx hb d_M_music_118 rfl ?_
      have ec : cnt (mtR n (Rw n ln mt tt) (fun p => pq (6 * w + p))) (a + 1) = cnt (mtR n (Rw n ln mt tt) (fun p => pq (6 * w + p))) a + 1 := cr_cnt h104
      have hl : lv_has ls 8 [(0, .ref xM), (1, .int (nI w)), (2, .int (nI (cnt (mtR n (Rw n ln mt tt) (fun p => pq (6 * w + p))) (a + 1)))), (3, .int (nI (ct * ln))), (4, .int (nI ((a + 1) + 1)))] := lv_sub hl [2, 3, 1, 4, 0] (by rw [ec] <;> rfl)
      have hP := hP.sub (ws' := [(xM, .inr (6, [.int (nI 0), .int (nI n), .ref xK, .ref xV, .int (nI ln), .ref xC, .ref xH, .int (nI ct), .ref xT, .ref xP, .int (nI lk), .ref xB, .ref xR, .ref xL, .ref xN, .ref xQ, .int (nI rp.toNat)])), (xK, .inl (cI, 24, .inl km)), (xC, .inl (cI, 3, .inl cq)), (xT, .inl (cI, 30, .inl tq)), (xP, .inl (cI, 24, .inl pq)), (xB, .inl (cI, 4326, .inl B2)), (xR, .inl (cI, 721, .inl Rk2))]) [0, 1, 2, 3, 4, 5, 6] rfl
      have hD := hD.sub (ws' := [(xM, .inr (6, [.int (nI 0), .int (nI n), .ref xK, .ref xV, .int (nI ln), .ref xC, .ref xH, .int (nI ct), .ref xT, .ref xP, .int (nI lk), .ref xB, .ref xR, .ref xL, .ref xN, .ref xQ, .int (nI rp.toNat)])), (xK, .inl (cI, 24, .inl km)), (xC, .inl (cI, 3, .inl cq)), (xT, .inl (cI, 30, .inl tq)), (xP, .inl (cI, 24, .inl pq)), (xB, .inl (cI, 4326, .inl B2)), (xR, .inl (cI, 721, .inl Rk2))]) [0, 1, 2, 3, 4, 5, 6] (by decide) rfl
      exact ih (a + 1) _ _ _ (by omega) ⟨by omega, hl, hP, hD, hS⟩
    refine lv_aload_n hx hb d_M_music_47 rfl (lv_at hl 0 rfl) ?_
    refine va_get (D := D) (ci := 6) (v := .ref xP) (C := R_M) (T := F_M) (N := 17) hx hb hts in_M hown hK hP 0 rfl rfl 9 (by decide) (hts _ (List.mem_cons_of_mem _ k_592)) (fun _ h9 => h9) rfl d_M_music_48 ?_
    refine lv_bipush (v := nI 6) hx hb d_M_music_51 (by decide) ?_
    refine lv_iload_n hx hb d_M_music_53 rfl (lv_at hl 1 rfl) ?_
    refine lv_imul hx hb d_M_music_54 ?_
    refine xn_i (y := nI (6 * w)) (pk_mul _ _) ?_
    refine lv_iload hx hb d_M_music_55 (lv_at hl 6 rfl) ?_
    refine lv_iadd hx hb d_M_music_57 ?_
    refine xn_i (y := nI ((6 * w) + q)) (nI_add _ _) ?_
    refine xa_iald (v := pq (6 * w + q)) hx hb hK hP 4 0 rfl rfl (by omega) (by decide) rfl d_M_music_58 ?_
    refine lv_istore hx hb d_M_music_59 hl (by decide) rfl (fun ls hl => ?_)
    have hl : lv_has ls 8 [(7, .int (pq (6 * w + q))), (0, .ref xM), (1, .int (nI w)), (2, .int (nI (cnt (mtR n (Rw n ln mt tt) (fun p => pq (6 * w + p))) a))), (3, .int (nI (ct * ln))), (4, .int (nI (a + 1))), (5, .int (nI ((mpr n (Rw n ln mt tt (a + 1)) (fun p => pq (6 * w + p)) q).toNat))), (6, .int (nI q))] := hl
    refine xn_pc (pc2 := 61) rfl ?_
    refine xj_1 (fun (g1 : Bool) ls H locs => (g1 = mpr n (Rw n ln mt tt (a + 1)) (fun p => pq (6 * w + p)) (q + 1)) ∧ lv_has ls 8 [(0, .ref xM), (1, .int (nI w)), (2, .int (nI (cnt (mtR n (Rw n ln mt tt) (fun p => pq (6 * w + p))) a))), (3, .int (nI (ct * ln))), (4, .int (nI (a + 1))), (6, .int (nI q))] ∧ va_P D vwCl [(xM, .inr (6, [.int (nI 0), .int (nI n), .ref xK, .ref xV, .int (nI ln), .ref xC, .ref xH, .int (nI ct), .ref xT, .ref xP, .int (nI lk), .ref xB, .ref xR, .ref xL, .ref xN, .ref xQ, .int (nI rp.toNat)])), (xK, .inl (cI, 24, .inl km)), (xC, .inl (cI, 3, .inl cq)), (xT, .inl (cI, 30, .inl tq)), (xP, .inl (cI, 24, .inl pq)), (xB, .inl (cI, 4326, .inl B2)), (xR, .inl (cI, 721, .inl Rk2))] H ∧ va_D A [(xM, .inr (6, [.int (nI 0), .int (nI n), .ref xK, .ref xV, .int (nI ln), .ref xC, .ref xH, .int (nI ct), .ref xT, .ref xP, .int (nI lk), .ref xB, .ref xR, .ref xL, .ref xN, .ref xQ, .int (nI rp.toNat)])), (xK, .inl (cI, 24, .inl km)), (xC, .inl (cI, 3, .inl cq)), (xT, .inl (cI, 30, .inl tq)), (xP, .inl (cI, 24, .inl pq)), (xB, .inl (cI, 4326, .inl B2)), (xR, .inl (cI, 721, .inl Rk2))] ∧ va_S A s.heap H locs) 94 (fun (g1 : Bool) => [.int (nI g1.toNat)]) 0 0 (fun g1 ls H locs hI => ?_) (fun hj => ?_)
    · obtain ⟨hg1, hl, hP, hD, hS⟩ := hI
      refine lv_istore hx hb d_M_music_94 hl (by decide) rfl (fun ls hl => ?_)
      have hl : lv_has ls 8 [(5, .int (nI g1.toNat)), (0, .ref xM), (1, .int (nI w)), (2, .int (nI (cnt (mtR n (Rw n ln mt tt) (fun p => pq (6 * w + p))) a))), (3, .int (nI (ct * ln))), (4, .int (nI (a + 1))), (6, .int (nI q))] := hl
      refine lv_iinc (k := 6) (v := nI (q + 1)) hx hb d_M_music_96 hl rfl (xi_1 _) (by decide) rfl (fun ls hl => ?_)
      have hl : lv_has ls 8 [(6, .int (nI (q + 1))), (5, .int (nI g1.toNat)), (0, .ref xM), (1, .int (nI w)), (2, .int (nI (cnt (mtR n (Rw n ln mt tt) (fun p => pq (6 * w + p))) a))), (3, .int (nI (ct * ln))), (4, .int (nI (a + 1)))] := hl
      refine lv_goto (tgt := 38) hx hb d_M_music_99 rfl ?_
      have hl : lv_has ls 8 [(0, .ref xM), (1, .int (nI w)), (2, .int (nI (cnt (mtR n (Rw n ln mt tt) (fun p => pq (6 * w + p))) a))), (3, .int (nI (ct * ln))), (4, .int (nI (a + 1))), (5, .int (nI ((mpr n (Rw n ln mt tt (a + 1)) (fun p => pq (6 * w + p)) (q + 1)).toNat))), (6, .int (nI (q + 1)))] := lv_sub hl [2, 3, 4, 5, 6, 1, 0] (by rw [← hg1] <;> rfl)
      have hP := hP.sub (ws' := [(xM, .inr (6, [.int (nI 0), .int (nI n), .ref xK, .ref xV, .int (nI ln), .ref xC, .ref xH, .int (nI ct), .ref xT, .ref xP, .int (nI lk), .ref xB, .ref xR, .ref xL, .ref xN, .ref xQ, .int (nI rp.toNat)])), (xK, .inl (cI, 24, .inl km)), (xC, .inl (cI, 3, .inl cq)), (xT, .inl (cI, 30, .inl tq)), (xP, .inl (cI, 24, .inl pq)), (xB, .inl (cI, 4326, .inl B2)), (xR, .inl (cI, 721, .inl Rk2))]) [0, 1, 2, 3, 4, 5, 6] rfl
      have hD := hD.sub (ws' := [(xM, .inr (6, [.int (nI 0), .int (nI n), .ref xK, .ref xV, .int (nI ln), .ref xC, .ref xH, .int (nI ct), .ref xT, .ref xP, .int (nI lk), .ref xB, .ref xR, .ref xL, .ref xN, .ref xQ, .int (nI rp.toNat)])), (xK, .inl (cI, 24, .inl km)), (xC, .inl (cI, 3, .inl cq)), (xT, .inl (cI, 30, .inl tq)), (xP, .inl (cI, 24, .inl pq)), (xB, .inl (cI, 4326, .inl B2)), (xR, .inl (cI, 721, .inl Rk2))]) [0, 1, 2, 3, 4, 5, 6] (by decide) rfl
      exact ih1 (q + 1) _ _ _ (by omega) ⟨h44, hl, hP, hD, hS⟩
    refine lv_iload hx hb d_M_music_61 (lv_at hl 6 rfl) ?_
    refine xb_eqB (x := mpr n (Rw n ln mt tt (a + 1)) (fun p => pq (6 * w + p)) q) hx hb 93 d_M_music_63 rfl (fun h63 => ?_) (fun h63 => ?_)
    · skip
      refine lv_iconst (v := nI 0) hx hb d_M_music_93 (by decide) ?_
      have hl : lv_has ls 8 [(0, .ref xM), (1, .int (nI w)), (2, .int (nI (cnt (mtR n (Rw n ln mt tt) (fun p => pq (6 * w + p))) a))), (3, .int (nI (ct * ln))), (4, .int (nI (a + 1))), (6, .int (nI q))] := lv_sub hl [1, 2, 3, 4, 5, 7] rfl
      have hP := hP.sub (ws' := [(xM, .inr (6, [.int (nI 0), .int (nI n), .ref xK, .ref xV, .int (nI ln), .ref xC, .ref xH, .int (nI ct), .ref xT, .ref xP, .int (nI lk), .ref xB, .ref xR, .ref xL, .ref xN, .ref xQ, .int (nI rp.toNat)])), (xK, .inl (cI, 24, .inl km)), (xC, .inl (cI, 3, .inl cq)), (xT, .inl (cI, 30, .inl tq)), (xP, .inl (cI, 24, .inl pq)), (xB, .inl (cI, 4326, .inl B2)), (xR, .inl (cI, 721, .inl Rk2))]) [0, 1, 2, 3, 4, 5, 6] rfl
      have hD := hD.sub (ws' := [(xM, .inr (6, [.int (nI 0), .int (nI n), .ref xK, .ref xV, .int (nI ln), .ref xC, .ref xH, .int (nI ct), .ref xT, .ref xP, .int (nI lk), .ref xB, .ref xR, .ref xL, .ref xN, .ref xQ, .int (nI rp.toNat)])), (xK, .inl (cI, 24, .inl km)), (xC, .inl (cI, 3, .inl cq)), (xT, .inl (cI, 30, .inl tq)), (xP, .inl (cI, 24, .inl pq)), (xB, .inl (cI, 4326, .inl B2)), (xR, .inl (cI, 721, .inl Rk2))]) [0, 1, 2, 3, 4, 5, 6] (by decide) rfl
      exact hj false _ _ _ ⟨by first | exact mpr_f1 h63 | exact mpr_f2 h68 h86, hl, hP, hD, hS⟩
    refine lv_iload hx hb d_M_music_66 (lv_at hl 0 rfl) ?_
    refine lv_if_eq (tgt := 89) hx hb d_M_music_68 rfl (fun h68 => ?_) (fun h68 => ?_)
    · skip
      refine lv_iconst (v := nI 1) hx hb d_M_music_89 (by decide) ?_
      refine lv_goto (tgt := 94) hx hb d_M_music_90 rfl ?_
      have hl : lv_has ls 8 [(0, .ref xM), (1, .int (nI w)), (2, .int (nI (cnt (mtR n (Rw n ln mt tt) (fun p => pq (6 * w + p))) a))), (3, .int (nI (ct * ln))), (4, .int (nI (a + 1))), (6, .int (nI q))] := lv_sub hl [1, 2, 3, 4, 5, 7] rfl
      have hP := hP.sub (ws' := [(xM, .inr (6, [.int (nI 0), .int (nI n), .ref xK, .ref xV, .int (nI ln), .ref xC, .ref xH, .int (nI ct), .ref xT, .ref xP, .int (nI lk), .ref xB, .ref xR, .ref xL, .ref xN, .ref xQ, .int (nI rp.toNat)])), (xK, .inl (cI, 24, .inl km)), (xC, .inl (cI, 3, .inl cq)), (xT, .inl (cI, 30, .inl tq)), (xP, .inl (cI, 24, .inl pq)), (xB, .inl (cI, 4326, .inl B2)), (xR, .inl (cI, 721, .inl Rk2))]) [0, 1, 2, 3, 4, 5, 6] rfl
      have hD := hD.sub (ws' := [(xM, .inr (6, [.int (nI 0), .int (nI n), .ref xK, .ref xV, .int (nI ln), .ref xC, .ref xH, .int (nI ct), .ref xT, .ref xP, .int (nI lk), .ref xB, .ref xR, .ref xL, .ref xN, .ref xQ, .int (nI rp.toNat)])), (xK, .inl (cI, 24, .inl km)), (xC, .inl (cI, 3, .inl cq)), (xT, .inl (cI, 30, .inl tq)), (xP, .inl (cI, 24, .inl pq)), (xB, .inl (cI, 4326, .inl B2)), (xR, .inl (cI, 721, .inl Rk2))]) [0, 1, 2, 3, 4, 5, 6] (by decide) rfl
      exact hj true _ _ _ ⟨mpr_t h63 (by first | exact Or.inl h68 | exact Or.inr h86), hl, hP, hD, hS⟩
    refine lv_iload hx hb d_M_music_71 (lv_at hl 0 rfl) ?_
    refine lv_aload_n hx hb d_M_music_73 rfl (lv_at hl 1 rfl) ?_
    refine va_get (D := D) (ci := 6) (v := .ref xB) (C := R_M) (T := F_M) (N := 17) hx hb hts in_M hown hK hP 0 rfl rfl 11 (by decide) (hts _ (List.mem_cons_of_mem _ k_594)) (fun _ h9 => h9) rfl d_M_music_74 ?_
    refine lv_bipush (v := nI 6) hx hb d_M_music_77 (by decide) ?_
    refine lv_iload hx hb d_M_music_79 (lv_at hl 5 rfl) ?_
    refine lv_imul hx hb d_M_music_81 ?_
    refine xn_i (y := nI (6 * (a + 1))) (pk_mul _ _) ?_
    refine lv_iload hx hb d_M_music_82 (lv_at hl 7 rfl) ?_
    refine lv_iadd hx hb d_M_music_84 ?_
    refine xn_i (y := nI ((6 * (a + 1)) + q)) (nI_add _ _) ?_
    refine xa_iald (v := nI (ro n (Rw n ln mt tt (a + 1)) q)) hx hb hK hP 5 0 rfl rfl (by omega) (by decide) ((hw19 _ (by omega)).1 q h44) d_M_music_85 ?_
    refine lv_icmp_ne (tgt := 93) hx hb d_M_music_86 rfl (fun h86 => ?_) (fun h86 => ?_)
    · skip
      refine lv_iconst (v := nI 0) hx hb d_M_music_93 (by decide) ?_
      have hl : lv_has ls 8 [(0, .ref xM), (1, .int (nI w)), (2, .int (nI (cnt (mtR n (Rw n ln mt tt) (fun p => pq (6 * w + p))) a))), (3, .int (nI (ct * ln))), (4, .int (nI (a + 1))), (6, .int (nI q))] := lv_sub hl [1, 2, 3, 4, 5, 7] rfl
      have hP := hP.sub (ws' := [(xM, .inr (6, [.int (nI 0), .int (nI n), .ref xK, .ref xV, .int (nI ln), .ref xC, .ref xH, .int (nI ct), .ref xT, .ref xP, .int (nI lk), .ref xB, .ref xR, .ref xL, .ref xN, .ref xQ, .int (nI rp.toNat)])), (xK, .inl (cI, 24, .inl km)), (xC, .inl (cI, 3, .inl cq)), (xT, .inl (cI, 30, .inl tq)), (xP, .inl (cI, 24, .inl pq)), (xB, .inl (cI, 4326, .inl B2)), (xR, .inl (cI, 721, .inl Rk2))]) [0, 1, 2, 3, 4, 5, 6] rfl
      have hD := hD.sub (ws' := [(xM, .inr (6, [.int (nI 0), .int (nI n), .ref xK, .ref xV, .int (nI ln), .ref xC, .ref xH, .int (nI ct), .ref xT, .ref xP, .int (nI lk), .ref xB, .ref xR, .ref xL, .ref xN, .ref xQ, .int (nI rp.toNat)])), (xK, .inl (cI, 24, .inl km)), (xC, .inl (cI, 3, .inl cq)), (xT, .inl (cI, 30, .inl tq)), (xP, .inl (cI, 24, .inl pq)), (xB, .inl (cI, 4326, .inl B2)), (xR, .inl (cI, 721, .inl Rk2))]) [0, 1, 2, 3, 4, 5, 6] (by decide) rfl
      exact hj false _ _ _ ⟨by first | exact mpr_f1 h63 | exact mpr_f2 h68 h86, hl, hP, hD, hS⟩
    refine lv_iconst (v := nI 1) hx hb d_M_music_89 (by decide) ?_
    refine lv_goto (tgt := 94) hx hb d_M_music_90 rfl ?_
    have hl : lv_has ls 8 [(0, .ref xM), (1, .int (nI w)), (2, .int (nI (cnt (mtR n (Rw n ln mt tt) (fun p => pq (6 * w + p))) a))), (3, .int (nI (ct * ln))), (4, .int (nI (a + 1))), (6, .int (nI q))] := lv_sub hl [1, 2, 3, 4, 5, 7] rfl
    have hP := hP.sub (ws' := [(xM, .inr (6, [.int (nI 0), .int (nI n), .ref xK, .ref xV, .int (nI ln), .ref xC, .ref xH, .int (nI ct), .ref xT, .ref xP, .int (nI lk), .ref xB, .ref xR, .ref xL, .ref xN, .ref xQ, .int (nI rp.toNat)])), (xK, .inl (cI, 24, .inl km)), (xC, .inl (cI, 3, .inl cq)), (xT, .inl (cI, 30, .inl tq)), (xP, .inl (cI, 24, .inl pq)), (xB, .inl (cI, 4326, .inl B2)), (xR, .inl (cI, 721, .inl Rk2))]) [0, 1, 2, 3, 4, 5, 6] rfl
    have hD := hD.sub (ws' := [(xM, .inr (6, [.int (nI 0), .int (nI n), .ref xK, .ref xV, .int (nI ln), .ref xC, .ref xH, .int (nI ct), .ref xT, .ref xP, .int (nI lk), .ref xB, .ref xR, .ref xL, .ref xN, .ref xQ, .int (nI rp.toNat)])), (xK, .inl (cI, 24, .inl km)), (xC, .inl (cI, 3, .inl cq)), (xT, .inl (cI, 30, .inl tq)), (xP, .inl (cI, 24, .inl pq)), (xB, .inl (cI, 4326, .inl B2)), (xR, .inl (cI, 721, .inl Rk2))]) [0, 1, 2, 3, 4, 5, 6] (by decide) rfl
    exact hj true _ _ _ ⟨mpr_t h63 (by first | exact Or.inl h68 | exact Or.inr h86), hl, hP, hD, hS⟩
  exact absurd h11 (by omega)
set_option maxHeartbeats 4000000 in
set_option maxRecDepth 100000 in
theorem c_M_course_1 (xM : Nat) (cd : Int32) (n : Nat) (xK : Nat) (xV : Nat) (xC : Nat) (xH : Nat) (ct : Nat) (xT : Nat) (xP : Nat) (lk : Nat) (xB : Nat) (xR : Nat) (xL : Nat) (xN : Nat) (xQ : Nat) (rp : Bool)  : CtI l y_M_course (w_M_course) ({ frames := 0, cells := 0, slots := 0, locals := 0 }) D vwCl (TYs cI cZ cJ cG) (gG tF) [.ref xM] [(xM, .inr (6, [.int cd, .int (nI n), .ref xK, .ref xV, .int (nI 0), .ref xC, .ref xH, .int (nI ct), .ref xT, .ref xP, .int (nI lk), .ref xB, .ref xR, .ref xL, .ref xN, .ref xQ, .int (nI rp.toNat)]))] 0 0 (fun _ : Unit => [(xM, .inr (6, [.int (nI 1), .int (nI n), .ref xK, .ref xV, .int (nI 0), .ref xC, .ref xH, .int (nI ct), .ref xT, .ref xP, .int (nI lk), .ref xB, .ref xR, .ref xL, .ref xN, .ref xQ, .int (nI rp.toNat)]))]) (fun (r : Int32) (_ : Unit) => r = nI 0) := by
  refine CtI.of (cc := b_M_course) (maxL := 4) (ret := (some .int)) (by decide) rfl (Nat.le_of_ble_eq_true rfl) ?_
  intro p e s m args below meth c A ls hF hA hP hK hD hg hS hl
  obtain ⟨hx, hb, hrt, hlk, hml, hown, hts, hnm⟩ := hF
  have hown : s.vm.findClass R_M = some m.cls := hown
  have hl : lv_has ls 4 [(0, .ref xM)] := hl
  refine lv_aload_n hx hb d_M_course_0 rfl (lv_at hl 0 rfl) ?_
  refine lv_aload_n hx hb d_M_course_1 rfl (lv_at hl 0 rfl) ?_
  refine va_get (D := D) (ci := 6) (v := .int (nI 0)) (C := R_M) (T := F_M) (N := 17) hx hb hts in_M hown hK hP 0 rfl rfl 4 (by decide) (hts _ (List.mem_cons_of_mem _ k_587)) (fun _ h9 => h9) rfl d_M_course_2 ?_
  refine xb_ne hx hb 12 (by decide) d_M_course_5 rfl (fun h => absurd h (by decide)) (fun _ => ?_)
  refine lv_iconst (v := nI 1) hx hb d_M_course_8 (by decide) ?_
  refine lv_goto (tgt := 13) hx hb d_M_course_9 rfl ?_
  refine va_put (D := D) (ci := 6) (v := .int (nI 1)) (ty := .int) (C := R_M) (T := F_M) (N := 17) hx hb hts in_M t_M t_M_ok n_M hown hK hP hD hS 0 rfl rfl 0 (by decide) (hts _ (List.mem_cons_of_mem _ k_583)) (fun _ h9 => h9) rfl (by decide +kernel) rfl rfl (Nat.le_of_ble_eq_true rfl) d_M_course_13 (fun H locs hP hD hS => ?_)
  have hP : va_P D vwCl [(xM, .inr (6, [.int (nI 1), .int (nI n), .ref xK, .ref xV, .int (nI 0), .ref xC, .ref xH, .int (nI ct), .ref xT, .ref xP, .int (nI lk), .ref xB, .ref xR, .ref xL, .ref xN, .ref xQ, .int (nI rp.toNat)]))] H := hP
  have hD : va_D A [(xM, .inr (6, [.int (nI 1), .int (nI n), .ref xK, .ref xV, .int (nI 0), .ref xC, .ref xH, .int (nI ct), .ref xT, .ref xP, .int (nI lk), .ref xB, .ref xR, .ref xL, .ref xN, .ref xQ, .int (nI rp.toNat)]))] := hD
  refine lv_aload_n hx hb d_M_course_16 rfl (lv_at hl 0 rfl) ?_
  refine va_get (D := D) (ci := 6) (v := .int (nI 1)) (C := R_M) (T := F_M) (N := 17) hx hb hts in_M hown hK hP 0 rfl rfl 0 (by decide) (hts _ (List.mem_cons_of_mem _ k_583)) (fun _ h9 => h9) rfl d_M_course_17 ?_
  refine xb_le hx hb 25 (by decide) d_M_course_20 rfl (fun h => absurd h (by decide)) (fun _ => ?_)
  refine lv_iconst (v := nI 0) hx hb d_M_course_23 (by decide) ?_
  exact xr_i hx hb hrt hlk rfl hP hD hS () [0] (by decide) rfl rfl d_M_course_24
set_option maxHeartbeats 4000000 in
set_option maxRecDepth 100000 in
theorem c_M_course (xM : Nat) (cd : Int32) (n : Nat) (xK : Nat) (xV : Nat) (ln : Nat) (xC : Nat) (xH : Nat) (ct : Nat) (xT : Nat) (xP : Nat) (lk : Nat) (xB : Nat) (xR : Nat) (xL : Nat) (xN : Nat) (xQ : Nat) (rp : Bool) (B : Nat → Int32) (Rk : Nat → Int32) (km : Nat → Int32) (cq : Nat → Int32) (mw : Nat → Nat) (hn : nb n) (hl1 : 1 ≤ ln) (hln : ln ≤ 24) (hgm : gmr n ln km cq 0 mw) : CtI l y_M_course (w_M_course) ({ frames := 3, cells := 0, slots := 0, locals := 72 }) D vwCl (TYs cI cZ cJ cG) (gG tF) [.ref xM] [(xM, .inr (6, [.int cd, .int (nI n), .ref xK, .ref xV, .int (nI ln), .ref xC, .ref xH, .int (nI ct), .ref xT, .ref xP, .int (nI lk), .ref xB, .ref xR, .ref xL, .ref xN, .ref xQ, .int (nI rp.toNat)])), (xK, .inl (cI, 24, .inl km)), (xC, .inl (cI, 3, .inl cq)), (xB, .inl (cI, 4326, .inl B)), (xR, .inl (cI, 721, .inl Rk))] 0 0 (fun u : (Nat → Int32) × (Nat → Int32) => match u with | (B2, Rk2) => [(xM, .inr (6, [.int (nI 0), .int (nI n), .ref xK, .ref xV, .int (nI ln), .ref xC, .ref xH, .int (nI ct), .ref xT, .ref xP, .int (nI lk), .ref xB, .ref xR, .ref xL, .ref xN, .ref xQ, .int (nI rp.toNat)])), (xK, .inl (cI, 24, .inl km)), (xC, .inl (cI, 3, .inl cq)), (xB, .inl (cI, 4326, .inl B2)), (xR, .inl (cI, 721, .inl Rk2))]) (fun (r : Int32) (u : (Nat → Int32) × (Nat → Int32)) => match u with | (B2, Rk2) => r = nI (crs n mw ln)) := by
  refine CtI.of (cc := b_M_course) (maxL := 4) (ret := (some .int)) (by decide) rfl (Nat.le_of_ble_eq_true rfl) ?_
  intro p e s m args below meth c A ls hF hA hP hK hD hg hS hl
  obtain ⟨hx, hb, hrt, hlk, hml, hown, hts, hnm⟩ := hF
  have hown : s.vm.findClass R_M = some m.cls := hown
  have hl : lv_has ls 4 [(0, .ref xM)] := hl
  have hn4 : 4 ≤ n := hn.1
  have hn6 : n ≤ 6 := hn.2
  have hfa : fa n ≤ 720 := fa_le hn
  have hm : ∀ j, j < ln → gd n (mw j) = true := fun j hj => (hgm j hj).2
  have hil := itr_lt hn hm
  refine lv_aload_n hx hb d_M_course_0 rfl (lv_at hl 0 rfl) ?_
  refine lv_aload_n hx hb d_M_course_1 rfl (lv_at hl 0 rfl) ?_
  refine va_get (D := D) (ci := 6) (v := .int (nI ln)) (C := R_M) (T := F_M) (N := 17) hx hb hts in_M hown hK hP 0 rfl rfl 4 (by decide) (hts _ (List.mem_cons_of_mem _ k_587)) (fun _ h9 => h9) rfl d_M_course_2 ?_
  refine xb_ne hx hb 12 (by omega) d_M_course_5 rfl (fun h5 => ?_) (fun h5 => ?_)
  · skip
    refine lv_iconst (v := nI 0) hx hb d_M_course_12 (by decide) ?_
    refine va_put (D := D) (ci := 6) (v := .int (nI 0)) (ty := .int) (C := R_M) (T := F_M) (N := 17) hx hb hts in_M t_M t_M_ok n_M hown hK hP hD hS 0 rfl rfl 0 (by decide) (hts _ (List.mem_cons_of_mem _ k_583)) (fun _ h9 => h9) rfl (by decide +kernel) rfl rfl (Nat.le_of_ble_eq_true rfl) d_M_course_13 (fun H locs hP hD hS => ?_)
    have hP : va_P D vwCl [(xM, .inr (6, [.int (nI 0), .int (nI n), .ref xK, .ref xV, .int (nI ln), .ref xC, .ref xH, .int (nI ct), .ref xT, .ref xP, .int (nI lk), .ref xB, .ref xR, .ref xL, .ref xN, .ref xQ, .int (nI rp.toNat)])), (xK, .inl (cI, 24, .inl km)), (xC, .inl (cI, 3, .inl cq)), (xB, .inl (cI, 4326, .inl B)), (xR, .inl (cI, 721, .inl Rk))] H := hP
    have hD : va_D A [(xM, .inr (6, [.int (nI 0), .int (nI n), .ref xK, .ref xV, .int (nI ln), .ref xC, .ref xH, .int (nI ct), .ref xT, .ref xP, .int (nI lk), .ref xB, .ref xR, .ref xL, .ref xN, .ref xQ, .int (nI rp.toNat)])), (xK, .inl (cI, 24, .inl km)), (xC, .inl (cI, 3, .inl cq)), (xB, .inl (cI, 4326, .inl B)), (xR, .inl (cI, 721, .inl Rk))] := hD
    refine lv_aload_n hx hb d_M_course_16 rfl (lv_at hl 0 rfl) ?_
    refine va_get (D := D) (ci := 6) (v := .int (nI 0)) (C := R_M) (T := F_M) (N := 17) hx hb hts in_M hown hK hP 0 rfl rfl 0 (by decide) (hts _ (List.mem_cons_of_mem _ k_583)) (fun _ h9 => h9) rfl d_M_course_17 ?_
    refine xb_le hx hb 25 (by decide) d_M_course_20 rfl (fun _ => ?_) (fun h => absurd h (by decide))
    refine lv_aload_n hx hb d_M_course_25 rfl (lv_at hl 0 rfl) ?_
    refine lv_iconst (v := nI 0) hx hb d_M_course_26 (by decide) ?_
    refine xc_v (wc := [(xM, .inr (6, [.int (nI 0), .int (nI n), .ref xK, .ref xV, .int (nI ln), .ref xC, .ref xH, .int (nI ct), .ref xT, .ref xP, .int (nI lk), .ref xB, .ref xR, .ref xL, .ref xN, .ref xQ, .int (nI rp.toNat)])), (xB, .inl (cI, 4326, .inl B)), (xR, .inl (cI, 721, .inl Rk))]) (wr := [(xK, .inl (cI, 24, .inl km)), (xC, .inl (cI, 3, .inl cq))]) (gG_ok tF) hK hP hD hS hA hg [0, 3, 4] [1, 2] rfl rfl (by decide) (by decide) (by decide) (fun h1 h2 => va_runV (As := [.int (nI 0)]) (rest := []) ⟨hx, hb, hml, hown, hts⟩ (c_M_rounds xM (nI 0) n xK xV ln xC xH ct xT xP lk xB xR xL xN xQ rp B Rk 0 hn (by decide) _) (cwV 1 hts (gV k_660 k_662 ks_M_rounds k_7 k_663) rfl rfl rfl (by decide +kernel) ⟨Nat.le_of_ble_eq_true rfl, Nat.le_of_ble_eq_true rfl⟩) ⟨h1, va_recv (q0 := 0) (ci := 6) hK hP rfl rfl, h2⟩ rfl rfl hl.1 rfl (lv_room (Nat.le_of_ble_eq_true rfl)) d_M_course_27 ⟨Nat.zero_le _, Nat.zero_le _⟩) (fun B2_ H locs hq9 hP hD hS => ?_)
    obtain ⟨hw27_0, hw27_1⟩ := hq9
    have hP : va_P D vwCl [(xK, .inl (cI, 24, .inl km)), (xC, .inl (cI, 3, .inl cq)), (xM, .inr (6, [.int (nI 0), .int (nI n), .ref xK, .ref xV, .int (nI ln), .ref xC, .ref xH, .int (nI ct), .ref xT, .ref xP, .int (nI lk), .ref xB, .ref xR, .ref xL, .ref xN, .ref xQ, .int (nI rp.toNat)])), (xB, .inl (cI, 4326, .inl B2_)), (xR, .inl (cI, 721, .inl (upd Rk 0 (nI 0))))] H := hP
    have hD : va_D A [(xK, .inl (cI, 24, .inl km)), (xC, .inl (cI, 3, .inl cq)), (xM, .inr (6, [.int (nI 0), .int (nI n), .ref xK, .ref xV, .int (nI ln), .ref xC, .ref xH, .int (nI ct), .ref xT, .ref xP, .int (nI lk), .ref xB, .ref xR, .ref xL, .ref xN, .ref xQ, .int (nI rp.toNat)])), (xB, .inl (cI, 4326, .inl B2_)), (xR, .inl (cI, 721, .inl (upd Rk 0 (nI 0))))] := hD
    refine lv_iconst (v := nI 0) hx hb d_M_course_30 (by decide) ?_
    refine lv_istore_n hx hb d_M_course_31 rfl hl (by decide) rfl (fun ls hl => ?_)
    have hl : lv_has ls 4 [(1, .int (nI 0)), (0, .ref xM)] := hl
    refine lv_iconst (v := nI 1) hx hb d_M_course_32 (by decide) ?_
    refine lv_istore_n hx hb d_M_course_33 rfl hl (by decide) rfl (fun ls hl => ?_)
    have hl : lv_has ls 4 [(2, .int (nI 1)), (1, .int (nI 0)), (0, .ref xM)] := hl
    have hl : lv_has ls 4 [(0, .ref xM), (1, .int (nI 0)), (2, .int (nI true.toNat))] := lv_sub hl [2, 1, 0] rfl
    have hP := hP.sub (ws' := [(xM, .inr (6, [.int (nI 0), .int (nI n), .ref xK, .ref xV, .int (nI ln), .ref xC, .ref xH, .int (nI ct), .ref xT, .ref xP, .int (nI lk), .ref xB, .ref xR, .ref xL, .ref xN, .ref xQ, .int (nI rp.toNat)])), (xK, .inl (cI, 24, .inl km)), (xC, .inl (cI, 3, .inl cq)), (xB, .inl (cI, 4326, .inl B2_)), (xR, .inl (cI, 721, .inl (upd Rk 0 (nI 0))))]) [2, 0, 1, 3, 4] rfl
    have hD := hD.sub (ws' := [(xM, .inr (6, [.int (nI 0), .int (nI n), .ref xK, .ref xV, .int (nI ln), .ref xC, .ref xH, .int (nI ct), .ref xT, .ref xP, .int (nI lk), .ref xB, .ref xR, .ref xL, .ref xN, .ref xQ, .int (nI rp.toNat)])), (xK, .inl (cI, 24, .inl km)), (xC, .inl (cI, 3, .inl cq)), (xB, .inl (cI, 4326, .inl B2_)), (xR, .inl (cI, 721, .inl (upd Rk 0 (nI 0))))]) [2, 0, 1, 3, 4] (by decide) rfl
    refine xn_pc (pc2 := 34) rfl ?_
    refine xl_4 (fun (a : Nat) (mo : Bool) (B2 : Nat → Int32) (Rk2 : Nat → Int32) ls H locs => (mo = true ↔ (a = 0 ∨ itr n mw ln a ≠ 0)) ∧ (bh n 0 (itr n mw ln a) B2) ∧ (∀ i, i + 1 < a → itr n mw ln (i + 1) ≠ 0) ∧ (a ≤ 720) ∧ lv_has ls 4 [(0, .ref xM), (1, .int (nI a)), (2, .int (nI mo.toNat))] ∧ va_P D vwCl [(xM, .inr (6, [.int (nI 0), .int (nI n), .ref xK, .ref xV, .int (nI ln), .ref xC, .ref xH, .int (nI ct), .ref xT, .ref xP, .int (nI lk), .ref xB, .ref xR, .ref xL, .ref xN, .ref xQ, .int (nI rp.toNat)])), (xK, .inl (cI, 24, .inl km)), (xC, .inl (cI, 3, .inl cq)), (xB, .inl (cI, 4326, .inl B2)), (xR, .inl (cI, 721, .inl Rk2))] H ∧ va_D A [(xM, .inr (6, [.int (nI 0), .int (nI n), .ref xK, .ref xV, .int (nI ln), .ref xC, .ref xH, .int (nI ct), .ref xT, .ref xP, .int (nI lk), .ref xB, .ref xR, .ref xL, .ref xN, .ref xQ, .int (nI rp.toNat)])), (xK, .inl (cI, 24, .inl km)), (xC, .inl (cI, 3, .inl cq)), (xB, .inl (cI, 4326, .inl B2)), (xR, .inl (cI, 721, .inl Rk2))] ∧ va_S A s.heap H locs) (fun (a : Nat) (mo : Bool) (B2 : Nat → Int32) (Rk2 : Nat → Int32) => 721 - a) (fun a mo B2 Rk2 ls H locs hI ih => ?_) 0 true B2_ (upd Rk 0 (nI 0)) ⟨⟨fun _ => Or.inl rfl, fun _ => rfl⟩, hw27_0, fun i hi => absurd hi (by omega), by decide, hl, hP, hD, hS⟩
    obtain ⟨hi1, hi2, hi3, hi4, hl, hP, hD, hS⟩ := hI
    refine lv_iload_n hx hb d_M_course_34 rfl (lv_at hl 2 rfl) ?_
    refine xb_eqB (x := mo) hx hb 105 d_M_course_35 rfl (fun h35 => ?_) (fun h35 => ?_)
    · skip
      refine lv_iload_n hx hb d_M_course_105 rfl (lv_at hl 1 rfl) ?_
      have hz : ¬ (a = 0 ∨ itr n mw ln a ≠ 0) := fun h => by rw [hi1.mpr h] at h35; cases h35
      exact xr_i hx hb hrt hlk rfl hP hD hS (B2, Rk2) [0, 1, 2, 3, 4] (by decide) rfl (congrArg nI (crs_is hi3 (Nat.pos_of_ne_zero fun h => hz (Or.inl h)) hi4 (Classical.byContradiction fun h => hz (Or.inr h)))) d_M_course_106
    have ha7 := crs_go hn hm hi3 (hi1.mp h35)
    refine lv_aload_n hx hb d_M_course_38 rfl (lv_at hl 0 rfl) ?_
    refine lv_iconst (v := nI 0) hx hb d_M_course_39 (by decide) ?_
    refine lv_iconst (v := nI 0) hx hb d_M_course_40 (by decide) ?_
    refine xc_v (wc := [(xM, .inr (6, [.int (nI 0), .int (nI n), .ref xK, .ref xV, .int (nI ln), .ref xC, .ref xH, .int (nI ct), .ref xT, .ref xP, .int (nI lk), .ref xB, .ref xR, .ref xL, .ref xN, .ref xQ, .int (nI rp.toNat)])), (xK, .inl (cI, 24, .inl km)), (xC, .inl (cI, 3, .inl cq)), (xB, .inl (cI, 4326, .inl B2)), (xR, .inl (cI, 721, .inl Rk2))]) (wr := []) (gG_ok tF) hK hP hD hS hA hg [0, 1, 2, 3, 4] [] rfl rfl (by decide) (by decide) (by decide) (fun h1 h2 => va_runV (As := [.int (nI 0), .int (nI 0)]) (rest := []) ⟨hx, hb, hml, hown, hts⟩ (c_M_lead xM (nI 0) n xK xV ln xC xH ct xT xP lk xB xR xL xN xQ rp B2 Rk2 km cq 0 0 mw (itr n mw ln a) hn (hil a) hi2 (by omega) (by decide) hln hgm _) (cwV 2 hts (gV k_664 k_666 ks_M_lead k_7 k_667) rfl rfl rfl (by decide +kernel) ⟨Nat.le_of_ble_eq_true rfl, Nat.le_of_ble_eq_true rfl⟩) ⟨h1, va_recv (q0 := 0) (ci := 6) hK hP rfl rfl, h2⟩ rfl rfl hl.1 rfl (lv_room (Nat.le_of_ble_eq_true rfl)) d_M_course_41 ⟨Nat.zero_le _, Nat.zero_le _⟩) (fun u H locs hq9 hP hD hS => ?_)
    obtain ⟨B3, Rk3⟩ := u
    obtain ⟨hw41_0, hw41_1, hw41_2, hw41_3⟩ := hq9
    have hP : va_P D vwCl [(xM, .inr (6, [.int (nI 0), .int (nI n), .ref xK, .ref xV, .int (nI ln), .ref xC, .ref xH, .int (nI ct), .ref xT, .ref xP, .int (nI lk), .ref xB, .ref xR, .ref xL, .ref xN, .ref xQ, .int (nI rp.toNat)])), (xK, .inl (cI, 24, .inl km)), (xC, .inl (cI, 3, .inl cq)), (xB, .inl (cI, 4326, .inl B3)), (xR, .inl (cI, 721, .inl Rk3))] H := hP
    have hD : va_D A [(xM, .inr (6, [.int (nI 0), .int (nI n), .ref xK, .ref xV, .int (nI ln), .ref xC, .ref xH, .int (nI ct), .ref xT, .ref xP, .int (nI lk), .ref xB, .ref xR, .ref xL, .ref xN, .ref xQ, .int (nI rp.toNat)])), (xK, .inl (cI, 24, .inl km)), (xC, .inl (cI, 3, .inl cq)), (xB, .inl (cI, 4326, .inl B3)), (xR, .inl (cI, 721, .inl Rk3))] := hD
    have hz1 : Rk3 ln = nI (itr n mw ln (a + 1)) := by have h9 := hw41_1 ln hl1 (Nat.le_refl ln); rw [Nat.zero_add] at h9; exact h9
    have hz2 : bh n ln (itr n mw ln (a + 1)) B3 := by have h9 := hw41_0 ln (Nat.le_refl ln); rw [Nat.zero_add] at h9; exact h9
    refine lv_iload_n hx hb d_M_course_44 rfl (lv_at hl 1 rfl) ?_
    refine lv_iconst (v := nI 1) hx hb d_M_course_45 (by decide) ?_
    refine lv_iadd hx hb d_M_course_46 ?_
    refine xn_i (y := nI (a + 1)) (nI_add _ _) ?_
    refine lv_istore_n hx hb d_M_course_47 rfl hl (by decide) rfl (fun ls hl => ?_)
    have hl : lv_has ls 4 [(1, .int (nI (a + 1))), (0, .ref xM), (2, .int (nI mo.toNat))] := hl
    refine xn_pc (pc2 := 48) rfl ?_
    refine xj_1 (fun (g1 : Bool) ls H locs => (g1 = true ↔ itr n mw ln (a + 1) ≠ 0) ∧ lv_has ls 4 [(0, .ref xM), (1, .int (nI (a + 1)))] ∧ va_P D vwCl [(xM, .inr (6, [.int (nI 0), .int (nI n), .ref xK, .ref xV, .int (nI ln), .ref xC, .ref xH, .int (nI ct), .ref xT, .ref xP, .int (nI lk), .ref xB, .ref xR, .ref xL, .ref xN, .ref xQ, .int (nI rp.toNat)])), (xK, .inl (cI, 24, .inl km)), (xC, .inl (cI, 3, .inl cq)), (xB, .inl (cI, 4326, .inl B3)), (xR, .inl (cI, 721, .inl Rk3))] H ∧ va_D A [(xM, .inr (6, [.int (nI 0), .int (nI n), .ref xK, .ref xV, .int (nI ln), .ref xC, .ref xH, .int (nI ct), .ref xT, .ref xP, .int (nI lk), .ref xB, .ref xR, .ref xL, .ref xN, .ref xQ, .int (nI rp.toNat)])), (xK, .inl (cI, 24, .inl km)), (xC, .inl (cI, 3, .inl cq)), (xB, .inl (cI, 4326, .inl B3)), (xR, .inl (cI, 721, .inl Rk3))] ∧ va_S A s.heap H locs) 65 (fun (g1 : Bool) => [.int (nI g1.toNat)]) 0 0 (fun g1 ls H locs hI => ?_) (fun hj => ?_)
    · obtain ⟨hg1, hl, hP, hD, hS⟩ := hI
      refine lv_istore_n hx hb d_M_course_65 rfl hl (by decide) rfl (fun ls hl => ?_)
      have hl : lv_has ls 4 [(2, .int (nI g1.toNat)), (0, .ref xM), (1, .int (nI (a + 1)))] := hl
      refine lv_iconst (v := nI 0) hx hb d_M_course_66 (by decide) ?_
      refine lv_istore_n hx hb d_M_course_67 rfl hl (by decide) rfl (fun ls hl => ?_)
      have hl : lv_has ls 4 [(3, .int (nI 0)), (2, .int (nI g1.toNat)), (0, .ref xM), (1, .int (nI (a + 1)))] := hl
      have hl : lv_has ls 4 [(0, .ref xM), (1, .int (nI (a + 1))), (2, .int (nI g1.toNat)), (3, .int (nI 0))] := lv_sub hl [2, 3, 1, 0] rfl
      have hP := hP.sub (ws' := [(xM, .inr (6, [.int (nI 0), .int (nI n), .ref xK, .ref xV, .int (nI ln), .ref xC, .ref xH, .int (nI ct), .ref xT, .ref xP, .int (nI lk), .ref xB, .ref xR, .ref xL, .ref xN, .ref xQ, .int (nI rp.toNat)])), (xK, .inl (cI, 24, .inl km)), (xC, .inl (cI, 3, .inl cq)), (xB, .inl (cI, 4326, .inl B3)), (xR, .inl (cI, 721, .inl Rk3))]) [0, 1, 2, 3, 4] rfl
      have hD := hD.sub (ws' := [(xM, .inr (6, [.int (nI 0), .int (nI n), .ref xK, .ref xV, .int (nI ln), .ref xC, .ref xH, .int (nI ct), .ref xT, .ref xP, .int (nI lk), .ref xB, .ref xR, .ref xL, .ref xN, .ref xQ, .int (nI rp.toNat)])), (xK, .inl (cI, 24, .inl km)), (xC, .inl (cI, 3, .inl cq)), (xB, .inl (cI, 4326, .inl B3)), (xR, .inl (cI, 721, .inl Rk3))]) [0, 1, 2, 3, 4] (by decide) rfl
      refine xn_pc (pc2 := 68) rfl ?_
      refine xl_2 (fun (q : Nat) (v : Nat → Int32) ls H locs => (q ≤ n) ∧ (∀ j, j < q → v j = nI (ro n (itr n mw ln (a + 1)) j)) ∧ (∀ j, 6 ≤ j → v j = B3 j) ∧ lv_has ls 4 [(0, .ref xM), (1, .int (nI (a + 1))), (2, .int (nI g1.toNat)), (3, .int (nI q))] ∧ va_P D vwCl [(xM, .inr (6, [.int (nI 0), .int (nI n), .ref xK, .ref xV, .int (nI ln), .ref xC, .ref xH, .int (nI ct), .ref xT, .ref xP, .int (nI lk), .ref xB, .ref xR, .ref xL, .ref xN, .ref xQ, .int (nI rp.toNat)])), (xK, .inl (cI, 24, .inl km)), (xC, .inl (cI, 3, .inl cq)), (xB, .inl (cI, 4326, .inl v)), (xR, .inl (cI, 721, .inl Rk3))] H ∧ va_D A [(xM, .inr (6, [.int (nI 0), .int (nI n), .ref xK, .ref xV, .int (nI ln), .ref xC, .ref xH, .int (nI ct), .ref xT, .ref xP, .int (nI lk), .ref xB, .ref xR, .ref xL, .ref xN, .ref xQ, .int (nI rp.toNat)])), (xK, .inl (cI, 24, .inl km)), (xC, .inl (cI, 3, .inl cq)), (xB, .inl (cI, 4326, .inl v)), (xR, .inl (cI, 721, .inl Rk3))] ∧ va_S A s.heap H locs) (fun (q : Nat) (v : Nat → Int32) => n - q) (fun q v ls H locs hI ih1 => ?_) 0 B3 ⟨Nat.zero_le n, fun j hj => absurd hj (Nat.not_lt_zero j), fun j _ => rfl, hl, hP, hD, hS⟩
      obtain ⟨hj1, hj2, hj3, hl, hP, hD, hS⟩ := hI
      refine lv_iload_n hx hb d_M_course_68 rfl (lv_at hl 3 rfl) ?_
      refine lv_aload_n hx hb d_M_course_69 rfl (lv_at hl 0 rfl) ?_
      refine va_get (D := D) (ci := 6) (v := .int (nI n)) (C := R_M) (T := F_M) (N := 17) hx hb hts in_M hown hK hP 0 rfl rfl 1 (by decide) (hts _ (List.mem_cons_of_mem _ k_584)) (fun _ h9 => h9) rfl d_M_course_70 ?_
      refine xb_cge hx hb 102 (by omega) (by omega) d_M_course_73 rfl (fun h73 => ?_) (fun h73 => ?_)
      · skip
        refine lv_goto (tgt := 34) hx hb d_M_course_102 rfl ?_
        have hl : lv_has ls 4 [(0, .ref xM), (1, .int (nI (a + 1))), (2, .int (nI g1.toNat))] := lv_sub hl [0, 1, 2] rfl
        have hP := hP.sub (ws' := [(xM, .inr (6, [.int (nI 0), .int (nI n), .ref xK, .ref xV, .int (nI ln), .ref xC, .ref xH, .int (nI ct), .ref xT, .ref xP, .int (nI lk), .ref xB, .ref xR, .ref xL, .ref xN, .ref xQ, .int (nI rp.toNat)])), (xK, .inl (cI, 24, .inl km)), (xC, .inl (cI, 3, .inl cq)), (xB, .inl (cI, 4326, .inl v)), (xR, .inl (cI, 721, .inl Rk3))]) [0, 1, 2, 3, 4] rfl
        have hD := hD.sub (ws' := [(xM, .inr (6, [.int (nI 0), .int (nI n), .ref xK, .ref xV, .int (nI ln), .ref xC, .ref xH, .int (nI ct), .ref xT, .ref xP, .int (nI lk), .ref xB, .ref xR, .ref xL, .ref xN, .ref xQ, .int (nI rp.toNat)])), (xK, .inl (cI, 24, .inl km)), (xC, .inl (cI, 3, .inl cq)), (xB, .inl (cI, 4326, .inl v)), (xR, .inl (cI, 721, .inl Rk3))]) [0, 1, 2, 3, 4] (by decide) rfl
        exact ih (a + 1) g1 v Rk3 _ _ _ (by omega) ⟨hg1.trans ⟨Or.inr, fun h => h.resolve_left (by omega)⟩, fun j hj => by rw [Nat.mul_zero, Nat.zero_add]; exact hj2 j (by omega), fun i hi => by rcases Nat.lt_or_ge (i + 1) a with h9 | h9; exact hi3 i h9; (have e9 : i + 1 = a := by omega); rw [e9]; exact (hi1.mp h35).resolve_left (by omega), by omega, hl, hP, hD, hS⟩
      refine lv_aload_n hx hb d_M_course_76 rfl (lv_at hl 0 rfl) ?_
      refine va_get (D := D) (ci := 6) (v := .ref xB) (C := R_M) (T := F_M) (N := 17) hx hb hts in_M hown hK hP 0 rfl rfl 11 (by decide) (hts _ (List.mem_cons_of_mem _ k_594)) (fun _ h9 => h9) rfl d_M_course_77 ?_
      refine lv_iload_n hx hb d_M_course_80 rfl (lv_at hl 3 rfl) ?_
      refine lv_aload_n hx hb d_M_course_81 rfl (lv_at hl 0 rfl) ?_
      refine va_get (D := D) (ci := 6) (v := .ref xB) (C := R_M) (T := F_M) (N := 17) hx hb hts in_M hown hK hP 0 rfl rfl 11 (by decide) (hts _ (List.mem_cons_of_mem _ k_594)) (fun _ h9 => h9) rfl d_M_course_82 ?_
      refine lv_bipush (v := nI 6) hx hb d_M_course_85 (by decide) ?_
      refine lv_aload_n hx hb d_M_course_87 rfl (lv_at hl 0 rfl) ?_
      refine va_get (D := D) (ci := 6) (v := .int (nI ln)) (C := R_M) (T := F_M) (N := 17) hx hb hts in_M hown hK hP 0 rfl rfl 4 (by decide) (hts _ (List.mem_cons_of_mem _ k_587)) (fun _ h9 => h9) rfl d_M_course_88 ?_
      refine lv_imul hx hb d_M_course_91 ?_
      refine xn_i (y := nI (6 * ln)) (pk_mul _ _) ?_
      refine lv_iload_n hx hb d_M_course_92 rfl (lv_at hl 3 rfl) ?_
      refine lv_iadd hx hb d_M_course_93 ?_
      refine xn_i (y := nI ((6 * ln) + q)) (nI_add _ _) ?_
      refine xa_iald (v := nI (ro n (itr n mw ln (a + 1)) q)) hx hb hK hP 3 0 rfl rfl (by omega) (by decide) (by rw [hj3 _ (by omega)]; exact hz2 q h73) d_M_course_94 ?_
      refine xa_iast hx hb hK hP hD hS 3 0 rfl rfl (by omega) (by decide) d_M_course_95 (fun H locs hP hD hS => ?_)
      have hP : va_P D vwCl [(xM, .inr (6, [.int (nI 0), .int (nI n), .ref xK, .ref xV, .int (nI ln), .ref xC, .ref xH, .int (nI ct), .ref xT, .ref xP, .int (nI lk), .ref xB, .ref xR, .ref xL, .ref xN, .ref xQ, .int (nI rp.toNat)])), (xK, .inl (cI, 24, .inl km)), (xC, .inl (cI, 3, .inl cq)), (xB, .inl (cI, 4326, .inl (upd v q (nI (ro n (itr n mw ln (a + 1)) q))))), (xR, .inl (cI, 721, .inl Rk3))] H := hP
      have hD : va_D A [(xM, .inr (6, [.int (nI 0), .int (nI n), .ref xK, .ref xV, .int (nI ln), .ref xC, .ref xH, .int (nI ct), .ref xT, .ref xP, .int (nI lk), .ref xB, .ref xR, .ref xL, .ref xN, .ref xQ, .int (nI rp.toNat)])), (xK, .inl (cI, 24, .inl km)), (xC, .inl (cI, 3, .inl cq)), (xB, .inl (cI, 4326, .inl (upd v q (nI (ro n (itr n mw ln (a + 1)) q))))), (xR, .inl (cI, 721, .inl Rk3))] := hD
      refine lv_iinc (k := 3) (v := nI (q + 1)) hx hb d_M_course_96 hl rfl (xi_1 _) (by decide) rfl (fun ls hl => ?_)
      have hl : lv_has ls 4 [(3, .int (nI (q + 1))), (0, .ref xM), (1, .int (nI (a + 1))), (2, .int (nI g1.toNat))] := hl
      refine lv_goto (tgt := 68) hx hb d_M_course_99 rfl ?_
      have hl : lv_has ls 4 [(0, .ref xM), (1, .int (nI (a + 1))), (2, .int (nI g1.toNat)), (3, .int (nI (q + 1)))] := lv_sub hl [1, 2, 3, 0] rfl
      have hP := hP.sub (ws' := [(xM, .inr (6, [.int (nI 0), .int (nI n), .ref xK, .ref xV, .int (nI ln), .ref xC, .ref xH, .int (nI ct), .ref xT, .ref xP, .int (nI lk), .ref xB, .ref xR, .ref xL, .ref xN, .ref xQ, .int (nI rp.toNat)])), (xK, .inl (cI, 24, .inl km)), (xC, .inl (cI, 3, .inl cq)), (xB, .inl (cI, 4326, .inl (upd v q (nI (ro n (itr n mw ln (a + 1)) q))))), (xR, .inl (cI, 721, .inl Rk3))]) [0, 1, 2, 3, 4] rfl
      have hD := hD.sub (ws' := [(xM, .inr (6, [.int (nI 0), .int (nI n), .ref xK, .ref xV, .int (nI ln), .ref xC, .ref xH, .int (nI ct), .ref xT, .ref xP, .int (nI lk), .ref xB, .ref xR, .ref xL, .ref xN, .ref xQ, .int (nI rp.toNat)])), (xK, .inl (cI, 24, .inl km)), (xC, .inl (cI, 3, .inl cq)), (xB, .inl (cI, 4326, .inl (upd v q (nI (ro n (itr n mw ln (a + 1)) q))))), (xR, .inl (cI, 721, .inl Rk3))]) [0, 1, 2, 3, 4] (by decide) rfl
      exact ih1 (q + 1) (upd v q (nI (ro n (itr n mw ln (a + 1)) q))) _ _ _ (by omega) ⟨h73, fun j hj => by unfold upd; split; (rename_i e9; rw [e9]); exact hj2 j (by omega), fun j hj => by rw [pk_un (by omega)]; exact hj3 j hj, hl, hP, hD, hS⟩
    refine lv_aload_n hx hb d_M_course_48 rfl (lv_at hl 1 rfl) ?_
    refine va_get (D := D) (ci := 6) (v := .ref xR) (C := R_M) (T := F_M) (N := 17) hx hb hts in_M hown hK hP 0 rfl rfl 12 (by decide) (hts _ (List.mem_cons_of_mem _ k_595)) (fun _ h9 => h9) rfl d_M_course_49 ?_
    refine lv_aload_n hx hb d_M_course_52 rfl (lv_at hl 1 rfl) ?_
    refine va_get (D := D) (ci := 6) (v := .int (nI ln)) (C := R_M) (T := F_M) (N := 17) hx hb hts in_M hown hK hP 0 rfl rfl 4 (by decide) (hts _ (List.mem_cons_of_mem _ k_587)) (fun _ h9 => h9) rfl d_M_course_53 ?_
    refine xa_iald (v := nI (itr n mw ln (a + 1))) hx hb hK hP 4 0 rfl rfl (by omega) (by decide) hz1 d_M_course_56 ?_
    refine xb_eq hx hb 64 (by have := hil (a + 1); omega) d_M_course_57 rfl (fun h57 => ?_) (fun h57 => ?_)
    · skip
      refine lv_iconst (v := nI 0) hx hb d_M_course_64 (by decide) ?_
      have hl : lv_has ls 4 [(0, .ref xM), (1, .int (nI (a + 1)))] := lv_sub hl [1, 0] rfl
      have hP := hP.sub (ws' := [(xM, .inr (6, [.int (nI 0), .int (nI n), .ref xK, .ref xV, .int (nI ln), .ref xC, .ref xH, .int (nI ct), .ref xT, .ref xP, .int (nI lk), .ref xB, .ref xR, .ref xL, .ref xN, .ref xQ, .int (nI rp.toNat)])), (xK, .inl (cI, 24, .inl km)), (xC, .inl (cI, 3, .inl cq)), (xB, .inl (cI, 4326, .inl B3)), (xR, .inl (cI, 721, .inl Rk3))]) [0, 1, 2, 3, 4] rfl
      have hD := hD.sub (ws' := [(xM, .inr (6, [.int (nI 0), .int (nI n), .ref xK, .ref xV, .int (nI ln), .ref xC, .ref xH, .int (nI ct), .ref xT, .ref xP, .int (nI lk), .ref xB, .ref xR, .ref xL, .ref xN, .ref xQ, .int (nI rp.toNat)])), (xK, .inl (cI, 24, .inl km)), (xC, .inl (cI, 3, .inl cq)), (xB, .inl (cI, 4326, .inl B3)), (xR, .inl (cI, 721, .inl Rk3))]) [0, 1, 2, 3, 4] (by decide) rfl
      exact hj false _ _ _ ⟨⟨fun h => (by cases h), fun h => absurd h57 h⟩, hl, hP, hD, hS⟩
    refine lv_iconst (v := nI 1) hx hb d_M_course_60 (by decide) ?_
    refine lv_goto (tgt := 65) hx hb d_M_course_61 rfl ?_
    have hl : lv_has ls 4 [(0, .ref xM), (1, .int (nI (a + 1)))] := lv_sub hl [1, 0] rfl
    have hP := hP.sub (ws' := [(xM, .inr (6, [.int (nI 0), .int (nI n), .ref xK, .ref xV, .int (nI ln), .ref xC, .ref xH, .int (nI ct), .ref xT, .ref xP, .int (nI lk), .ref xB, .ref xR, .ref xL, .ref xN, .ref xQ, .int (nI rp.toNat)])), (xK, .inl (cI, 24, .inl km)), (xC, .inl (cI, 3, .inl cq)), (xB, .inl (cI, 4326, .inl B3)), (xR, .inl (cI, 721, .inl Rk3))]) [0, 1, 2, 3, 4] rfl
    have hD := hD.sub (ws' := [(xM, .inr (6, [.int (nI 0), .int (nI n), .ref xK, .ref xV, .int (nI ln), .ref xC, .ref xH, .int (nI ct), .ref xT, .ref xP, .int (nI lk), .ref xB, .ref xR, .ref xL, .ref xN, .ref xQ, .int (nI rp.toNat)])), (xK, .inl (cI, 24, .inl km)), (xC, .inl (cI, 3, .inl cq)), (xB, .inl (cI, 4326, .inl B3)), (xR, .inl (cI, 721, .inl Rk3))]) [0, 1, 2, 3, 4] (by decide) rfl
    exact hj true _ _ _ ⟨⟨fun _ => h57, fun _ => rfl⟩, hl, hP, hD, hS⟩
  exact absurd h5 (by omega)
set_option maxHeartbeats 4000000 in
set_option maxRecDepth 100000 in
theorem c_M_false_1 (xM : Nat) (cd : Int32) (n : Nat) (xK : Nat) (xV : Nat) (xC : Nat) (xH : Nat) (ct : Nat) (xT : Nat) (xP : Nat) (lk : Nat) (xB : Nat) (xR : Nat) (xL : Nat) (xN : Nat) (xQ : Nat) (rp : Bool) (x : Int32) (y : Int32)  : CtI l y_M_falseLeads (w_M_falseLeads) ({ frames := 0, cells := 0, slots := 0, locals := 0 }) D vwCl (TYs cI cZ cJ cG) (gG tF) [.ref xM, .int x, .int y] [(xM, .inr (6, [.int cd, .int (nI n), .ref xK, .ref xV, .int (nI 0), .ref xC, .ref xH, .int (nI ct), .ref xT, .ref xP, .int (nI lk), .ref xB, .ref xR, .ref xL, .ref xN, .ref xQ, .int (nI rp.toNat)]))] 0 0 (fun _ : Unit => [(xM, .inr (6, [.int (nI 1), .int (nI n), .ref xK, .ref xV, .int (nI 0), .ref xC, .ref xH, .int (nI ct), .ref xT, .ref xP, .int (nI lk), .ref xB, .ref xR, .ref xL, .ref xN, .ref xQ, .int (nI rp.toNat)]))]) (fun (r : Int32) (_ : Unit) => r = nI 0) := by
  refine CtI.of (cc := b_M_falseLeads) (maxL := 5) (ret := (some .boolean)) (by decide) rfl (Nat.le_of_ble_eq_true rfl) ?_
  intro p e s m args below meth c A ls hF hA hP hK hD hg hS hl
  obtain ⟨hx, hb, hrt, hlk, hml, hown, hts, hnm⟩ := hF
  have hown : s.vm.findClass R_M = some m.cls := hown
  have hl : lv_has ls 5 [(0, .ref xM), (1, .int x), (2, .int y)] := hl
  refine lv_aload_n hx hb d_M_falseLeads_0 rfl (lv_at hl 0 rfl) ?_
  refine lv_aload_n hx hb d_M_falseLeads_1 rfl (lv_at hl 0 rfl) ?_
  refine va_get (D := D) (ci := 6) (v := .int (nI 0)) (C := R_M) (T := F_M) (N := 17) hx hb hts in_M hown hK hP 0 rfl rfl 4 (by decide) (hts _ (List.mem_cons_of_mem _ k_587)) (fun _ h9 => h9) rfl d_M_falseLeads_2 ?_
  refine xb_ne hx hb 12 (by decide) d_M_falseLeads_5 rfl (fun h => absurd h (by decide)) (fun _ => ?_)
  refine lv_iconst (v := nI 1) hx hb d_M_falseLeads_8 (by decide) ?_
  refine lv_goto (tgt := 33) hx hb d_M_falseLeads_9 rfl ?_
  refine va_put (D := D) (ci := 6) (v := .int (nI 1)) (ty := .int) (C := R_M) (T := F_M) (N := 17) hx hb hts in_M t_M t_M_ok n_M hown hK hP hD hS 0 rfl rfl 0 (by decide) (hts _ (List.mem_cons_of_mem _ k_583)) (fun _ h9 => h9) rfl (by decide +kernel) rfl rfl (Nat.le_of_ble_eq_true rfl) d_M_falseLeads_33 (fun H locs hP hD hS => ?_)
  have hP : va_P D vwCl [(xM, .inr (6, [.int (nI 1), .int (nI n), .ref xK, .ref xV, .int (nI 0), .ref xC, .ref xH, .int (nI ct), .ref xT, .ref xP, .int (nI lk), .ref xB, .ref xR, .ref xL, .ref xN, .ref xQ, .int (nI rp.toNat)]))] H := hP
  have hD : va_D A [(xM, .inr (6, [.int (nI 1), .int (nI n), .ref xK, .ref xV, .int (nI 0), .ref xC, .ref xH, .int (nI ct), .ref xT, .ref xP, .int (nI lk), .ref xB, .ref xR, .ref xL, .ref xN, .ref xQ, .int (nI rp.toNat)]))] := hD
  refine lv_aload_n hx hb d_M_falseLeads_36 rfl (lv_at hl 0 rfl) ?_
  refine va_get (D := D) (ci := 6) (v := .int (nI 1)) (C := R_M) (T := F_M) (N := 17) hx hb hts in_M hown hK hP 0 rfl rfl 0 (by decide) (hts _ (List.mem_cons_of_mem _ k_583)) (fun _ h9 => h9) rfl d_M_falseLeads_37 ?_
  refine xb_le hx hb 45 (by decide) d_M_falseLeads_40 rfl (fun h => absurd h (by decide)) (fun _ => ?_)
  refine lv_iconst (v := nI 0) hx hb d_M_falseLeads_43 (by decide) ?_
  exact xr_i hx hb hrt hlk rfl hP hD hS () [0] (by decide) rfl rfl d_M_falseLeads_44
set_option maxHeartbeats 4000000 in
set_option maxRecDepth 100000 in
theorem c_M_false_2 (xM : Nat) (cd : Int32) (n : Nat) (xK : Nat) (xV : Nat) (ln : Nat) (xC : Nat) (xH : Nat) (ct : Nat) (xT : Nat) (xP : Nat) (lk : Nat) (xB : Nat) (xR : Nat) (xL : Nat) (xN : Nat) (xQ : Nat) (rp : Bool) (x : Int32) (y : Int32) (hn : nb n) (hl1 : 1 ≤ ln) (hln : ln ≤ 24) (hno : (okr n x && okr n y) = false) : CtI l y_M_falseLeads (w_M_falseLeads) ({ frames := 2, cells := 0, slots := 0, locals := 43 }) D vwCl (TYs cI cZ cJ cG) (gG tF) [.ref xM, .int x, .int y] [(xM, .inr (6, [.int cd, .int (nI n), .ref xK, .ref xV, .int (nI ln), .ref xC, .ref xH, .int (nI ct), .ref xT, .ref xP, .int (nI lk), .ref xB, .ref xR, .ref xL, .ref xN, .ref xQ, .int (nI rp.toNat)]))] 0 0 (fun _ : Unit => [(xM, .inr (6, [.int (nI 2), .int (nI n), .ref xK, .ref xV, .int (nI ln), .ref xC, .ref xH, .int (nI ct), .ref xT, .ref xP, .int (nI lk), .ref xB, .ref xR, .ref xL, .ref xN, .ref xQ, .int (nI rp.toNat)]))]) (fun (r : Int32) (_ : Unit) => r = nI 0) := by
  refine CtI.of (cc := b_M_falseLeads) (maxL := 5) (ret := (some .boolean)) (by decide) rfl (Nat.le_of_ble_eq_true rfl) ?_
  intro p e s m args below meth c A ls hF hA hP hK hD hg hS hl
  obtain ⟨hx, hb, hrt, hlk, hml, hown, hts, hnm⟩ := hF
  have hown : s.vm.findClass R_M = some m.cls := hown
  have hl : lv_has ls 5 [(0, .ref xM), (1, .int x), (2, .int y)] := hl
  refine lv_aload_n hx hb d_M_falseLeads_0 rfl (lv_at hl 0 rfl) ?_
  refine lv_aload_n hx hb d_M_falseLeads_1 rfl (lv_at hl 0 rfl) ?_
  refine va_get (D := D) (ci := 6) (v := .int (nI ln)) (C := R_M) (T := F_M) (N := 17) hx hb hts in_M hown hK hP 0 rfl rfl 4 (by decide) (hts _ (List.mem_cons_of_mem _ k_587)) (fun _ h9 => h9) rfl d_M_falseLeads_2 ?_
  refine xb_ne hx hb 12 (by omega) d_M_falseLeads_5 rfl (fun h5 => ?_) (fun h5 => ?_)
  · skip
    refine lv_aload_n hx hb d_M_falseLeads_12 rfl (lv_at hl 0 rfl) ?_
    refine lv_iload_n hx hb d_M_falseLeads_13 rfl (lv_at hl 1 rfl) ?_
    refine xc_i (wc := [(xM, .inr (6, [.int cd, .int (nI n), .ref xK, .ref xV, .int (nI ln), .ref xC, .ref xH, .int (nI ct), .ref xT, .ref xP, .int (nI lk), .ref xB, .ref xR, .ref xL, .ref xN, .ref xQ, .int (nI rp.toNat)]))]) (wr := []) (gG_ok tF) hK hP hD hS hA hg [0] [] rfl rfl (by decide) (by decide) (by decide) (fun h1 h2 => va_runV (As := [.int x]) (rest := [.ref xM]) ⟨hx, hb, hml, hown, hts⟩ (c_M_isRank xM cd n xK xV ln xC xH ct xT xP lk xB xR xL xN xQ rp x hn _) (cwV 1 hts (gV k_724 k_726 ks_M_isRank k_7 k_727) rfl rfl rfl (by decide +kernel) ⟨Nat.le_of_ble_eq_true rfl, Nat.le_of_ble_eq_true rfl⟩) ⟨h1, va_recv (q0 := 0) (ci := 6) hK hP rfl rfl, h2⟩ rfl rfl hl.1 rfl (lv_room (Nat.le_of_ble_eq_true rfl)) d_M_falseLeads_14 ⟨Nat.zero_le _, Nat.zero_le _⟩) (fun r u H locs hq9 hP hD hS => ?_)
    obtain rfl := hq9
    have hP : va_P D vwCl [(xM, .inr (6, [.int cd, .int (nI n), .ref xK, .ref xV, .int (nI ln), .ref xC, .ref xH, .int (nI ct), .ref xT, .ref xP, .int (nI lk), .ref xB, .ref xR, .ref xL, .ref xN, .ref xQ, .int (nI rp.toNat)]))] H := hP
    have hD : va_D A [(xM, .inr (6, [.int cd, .int (nI n), .ref xK, .ref xV, .int (nI ln), .ref xC, .ref xH, .int (nI ct), .ref xT, .ref xP, .int (nI lk), .ref xB, .ref xR, .ref xL, .ref xN, .ref xQ, .int (nI rp.toNat)]))] := hD
    refine xb_eqB (x := okr n x) hx hb 28 d_M_falseLeads_17 rfl (fun h17 => ?_) (fun h17 => ?_)
    · skip
      refine lv_iconst (v := nI 2) hx hb d_M_falseLeads_28 (by decide) ?_
      refine lv_goto (tgt := 33) hx hb d_M_falseLeads_29 rfl ?_
      refine va_put (D := D) (ci := 6) (v := .int (nI 2)) (ty := .int) (C := R_M) (T := F_M) (N := 17) hx hb hts in_M t_M t_M_ok n_M hown hK hP hD hS 0 rfl rfl 0 (by decide) (hts _ (List.mem_cons_of_mem _ k_583)) (fun _ h9 => h9) rfl (by decide +kernel) rfl rfl (Nat.le_of_ble_eq_true rfl) d_M_falseLeads_33 (fun H locs hP hD hS => ?_)
      have hP : va_P D vwCl [(xM, .inr (6, [.int (nI 2), .int (nI n), .ref xK, .ref xV, .int (nI ln), .ref xC, .ref xH, .int (nI ct), .ref xT, .ref xP, .int (nI lk), .ref xB, .ref xR, .ref xL, .ref xN, .ref xQ, .int (nI rp.toNat)]))] H := hP
      have hD : va_D A [(xM, .inr (6, [.int (nI 2), .int (nI n), .ref xK, .ref xV, .int (nI ln), .ref xC, .ref xH, .int (nI ct), .ref xT, .ref xP, .int (nI lk), .ref xB, .ref xR, .ref xL, .ref xN, .ref xQ, .int (nI rp.toNat)]))] := hD
      refine lv_aload_n hx hb d_M_falseLeads_36 rfl (lv_at hl 0 rfl) ?_
      refine va_get (D := D) (ci := 6) (v := .int (nI 2)) (C := R_M) (T := F_M) (N := 17) hx hb hts in_M hown hK hP 0 rfl rfl 0 (by decide) (hts _ (List.mem_cons_of_mem _ k_583)) (fun _ h9 => h9) rfl d_M_falseLeads_37 ?_
      refine xb_le hx hb 45 (by decide) d_M_falseLeads_40 rfl (fun h => absurd h (by decide)) (fun _ => ?_)
      refine lv_iconst (v := nI 0) hx hb d_M_falseLeads_43 (by decide) ?_
      exact xr_i hx hb hrt hlk rfl hP hD hS () [0] (by decide) rfl rfl d_M_falseLeads_44
    refine lv_aload_n hx hb d_M_falseLeads_20 rfl (lv_at hl 0 rfl) ?_
    refine lv_iload_n hx hb d_M_falseLeads_21 rfl (lv_at hl 2 rfl) ?_
    refine xc_i (wc := [(xM, .inr (6, [.int cd, .int (nI n), .ref xK, .ref xV, .int (nI ln), .ref xC, .ref xH, .int (nI ct), .ref xT, .ref xP, .int (nI lk), .ref xB, .ref xR, .ref xL, .ref xN, .ref xQ, .int (nI rp.toNat)]))]) (wr := []) (gG_ok tF) hK hP hD hS hA hg [0] [] rfl rfl (by decide) (by decide) (by decide) (fun h1 h2 => va_runV (As := [.int y]) (rest := [.ref xM]) ⟨hx, hb, hml, hown, hts⟩ (c_M_isRank xM cd n xK xV ln xC xH ct xT xP lk xB xR xL xN xQ rp y hn _) (cwV 1 hts (gV k_724 k_726 ks_M_isRank k_7 k_727) rfl rfl rfl (by decide +kernel) ⟨Nat.le_of_ble_eq_true rfl, Nat.le_of_ble_eq_true rfl⟩) ⟨h1, va_recv (q0 := 0) (ci := 6) hK hP rfl rfl, h2⟩ rfl rfl hl.1 rfl (lv_room (Nat.le_of_ble_eq_true rfl)) d_M_falseLeads_22 ⟨Nat.zero_le _, Nat.zero_le _⟩) (fun r u H locs hq9 hP hD hS => ?_)
    obtain rfl := hq9
    have hP : va_P D vwCl [(xM, .inr (6, [.int cd, .int (nI n), .ref xK, .ref xV, .int (nI ln), .ref xC, .ref xH, .int (nI ct), .ref xT, .ref xP, .int (nI lk), .ref xB, .ref xR, .ref xL, .ref xN, .ref xQ, .int (nI rp.toNat)]))] H := hP
    have hD : va_D A [(xM, .inr (6, [.int cd, .int (nI n), .ref xK, .ref xV, .int (nI ln), .ref xC, .ref xH, .int (nI ct), .ref xT, .ref xP, .int (nI lk), .ref xB, .ref xR, .ref xL, .ref xN, .ref xQ, .int (nI rp.toNat)]))] := hD
    refine xb_neB (x := okr n y) hx hb 32 d_M_falseLeads_25 rfl (fun h25 => ?_) (fun h25 => ?_)
    · skip
      rw [h17, h25] at hno
      cases hno
    refine lv_iconst (v := nI 2) hx hb d_M_falseLeads_28 (by decide) ?_
    refine lv_goto (tgt := 33) hx hb d_M_falseLeads_29 rfl ?_
    refine va_put (D := D) (ci := 6) (v := .int (nI 2)) (ty := .int) (C := R_M) (T := F_M) (N := 17) hx hb hts in_M t_M t_M_ok n_M hown hK hP hD hS 0 rfl rfl 0 (by decide) (hts _ (List.mem_cons_of_mem _ k_583)) (fun _ h9 => h9) rfl (by decide +kernel) rfl rfl (Nat.le_of_ble_eq_true rfl) d_M_falseLeads_33 (fun H locs hP hD hS => ?_)
    have hP : va_P D vwCl [(xM, .inr (6, [.int (nI 2), .int (nI n), .ref xK, .ref xV, .int (nI ln), .ref xC, .ref xH, .int (nI ct), .ref xT, .ref xP, .int (nI lk), .ref xB, .ref xR, .ref xL, .ref xN, .ref xQ, .int (nI rp.toNat)]))] H := hP
    have hD : va_D A [(xM, .inr (6, [.int (nI 2), .int (nI n), .ref xK, .ref xV, .int (nI ln), .ref xC, .ref xH, .int (nI ct), .ref xT, .ref xP, .int (nI lk), .ref xB, .ref xR, .ref xL, .ref xN, .ref xQ, .int (nI rp.toNat)]))] := hD
    refine lv_aload_n hx hb d_M_falseLeads_36 rfl (lv_at hl 0 rfl) ?_
    refine va_get (D := D) (ci := 6) (v := .int (nI 2)) (C := R_M) (T := F_M) (N := 17) hx hb hts in_M hown hK hP 0 rfl rfl 0 (by decide) (hts _ (List.mem_cons_of_mem _ k_583)) (fun _ h9 => h9) rfl d_M_falseLeads_37 ?_
    refine xb_le hx hb 45 (by decide) d_M_falseLeads_40 rfl (fun h => absurd h (by decide)) (fun _ => ?_)
    refine lv_iconst (v := nI 0) hx hb d_M_falseLeads_43 (by decide) ?_
    exact xr_i hx hb hrt hlk rfl hP hD hS () [0] (by decide) rfl rfl d_M_falseLeads_44
  exact absurd h5 (by omega)
set_option maxHeartbeats 4000000 in
set_option maxRecDepth 100000 in
theorem c_M_false (xM : Nat) (cd : Int32) (n : Nat) (xK : Nat) (xV : Nat) (ln : Nat) (xC : Nat) (xH : Nat) (ct : Nat) (xT : Nat) (xP : Nat) (lk : Nat) (xB : Nat) (xR : Nat) (xL : Nat) (xN : Nat) (xQ : Nat) (rp : Bool) (B : Nat → Int32) (Rk : Nat → Int32) (km : Nat → Int32) (cq : Nat → Int32) (mq : Nat → Int32) (mw : Nat → Nat) (a : Nat) (b : Nat) (hn : nb n) (hl1 : 1 ≤ ln) (hln : ln ≤ 24) (hgm : gmr n ln km cq 0 mw) (ha : a < fa n) (hbn : b < fa n) : CtI l y_M_falseLeads (w_M_falseLeads) ({ frames := 3, cells := 0, slots := 0, locals := 72 }) D vwCl (TYs cI cZ cJ cG) (gG tF) [.ref xM, .int (nI a), .int (nI b)] [(xM, .inr (6, [.int cd, .int (nI n), .ref xK, .ref xV, .int (nI ln), .ref xC, .ref xH, .int (nI ct), .ref xT, .ref xP, .int (nI lk), .ref xB, .ref xR, .ref xL, .ref xN, .ref xQ, .int (nI rp.toNat)])), (xK, .inl (cI, 24, .inl km)), (xC, .inl (cI, 3, .inl cq)), (xQ, .inl (cI, 720, .inl mq)), (xB, .inl (cI, 4326, .inl B)), (xR, .inl (cI, 721, .inl Rk))] 0 0 (fun u : (Nat → Int32) × (Nat → Int32) × (Nat → Int32) => match u with | (B2, Rk2, mq2) => [(xM, .inr (6, [.int (nI 0), .int (nI n), .ref xK, .ref xV, .int (nI ln), .ref xC, .ref xH, .int (nI ct), .ref xT, .ref xP, .int (nI lk), .ref xB, .ref xR, .ref xL, .ref xN, .ref xQ, .int (nI rp.toNat)])), (xK, .inl (cI, 24, .inl km)), (xC, .inl (cI, 3, .inl cq)), (xQ, .inl (cI, 720, .inl mq2)), (xB, .inl (cI, 4326, .inl B2)), (xR, .inl (cI, 721, .inl Rk2))]) (fun (r : Int32) (u : (Nat → Int32) × (Nat → Int32) × (Nat → Int32)) => match u with | (B2, Rk2, mq2) => r = nI ((flm n mw ln a b).toNat)) := by
  refine CtI.of (cc := b_M_falseLeads) (maxL := 5) (ret := (some .boolean)) (by decide) rfl (Nat.le_of_ble_eq_true rfl) ?_
  intro p e s m args below meth c A ls hF hA hP hK hD hg hS hl
  obtain ⟨hx, hb, hrt, hlk, hml, hown, hts, hnm⟩ := hF
  have hown : s.vm.findClass R_M = some m.cls := hown
  have hl : lv_has ls 5 [(0, .ref xM), (1, .int (nI a)), (2, .int (nI b))] := hl
  have hn4 : 4 ≤ n := hn.1
  have hn6 : n ≤ 6 := hn.2
  have hfa : fa n ≤ 720 := fa_le hn
  have hm : ∀ j, j < ln → gd n (mw j) = true := fun j hj => (hgm j hj).2
  have hla := ld_lt (ln := ln) hn hm ha
  have hlb := ld_lt (ln := ln) hn hm hbn
  refine lv_aload_n hx hb d_M_falseLeads_0 rfl (lv_at hl 0 rfl) ?_
  refine lv_aload_n hx hb d_M_falseLeads_1 rfl (lv_at hl 0 rfl) ?_
  refine va_get (D := D) (ci := 6) (v := .int (nI ln)) (C := R_M) (T := F_M) (N := 17) hx hb hts in_M hown hK hP 0 rfl rfl 4 (by decide) (hts _ (List.mem_cons_of_mem _ k_587)) (fun _ h9 => h9) rfl d_M_falseLeads_2 ?_
  refine xb_ne hx hb 12 (by omega) d_M_falseLeads_5 rfl (fun h5 => ?_) (fun h5 => ?_)
  · skip
    refine lv_aload_n hx hb d_M_falseLeads_12 rfl (lv_at hl 0 rfl) ?_
    refine lv_iload_n hx hb d_M_falseLeads_13 rfl (lv_at hl 1 rfl) ?_
    refine xc_i (wc := [(xM, .inr (6, [.int cd, .int (nI n), .ref xK, .ref xV, .int (nI ln), .ref xC, .ref xH, .int (nI ct), .ref xT, .ref xP, .int (nI lk), .ref xB, .ref xR, .ref xL, .ref xN, .ref xQ, .int (nI rp.toNat)]))]) (wr := [(xK, .inl (cI, 24, .inl km)), (xC, .inl (cI, 3, .inl cq)), (xQ, .inl (cI, 720, .inl mq)), (xB, .inl (cI, 4326, .inl B)), (xR, .inl (cI, 721, .inl Rk))]) (gG_ok tF) hK hP hD hS hA hg [0] [1, 2, 3, 4, 5] rfl rfl (by decide) (by decide) (by decide) (fun h1 h2 => va_runV (As := [.int (nI a)]) (rest := [.ref xM]) ⟨hx, hb, hml, hown, hts⟩ (c_M_isRank xM cd n xK xV ln xC xH ct xT xP lk xB xR xL xN xQ rp (nI a) hn _) (cwV 1 hts (gV k_724 k_726 ks_M_isRank k_7 k_727) rfl rfl rfl (by decide +kernel) ⟨Nat.le_of_ble_eq_true rfl, Nat.le_of_ble_eq_true rfl⟩) ⟨h1, va_recv (q0 := 0) (ci := 6) hK hP rfl rfl, h2⟩ rfl rfl hl.1 rfl (lv_room (Nat.le_of_ble_eq_true rfl)) d_M_falseLeads_14 ⟨Nat.zero_le _, Nat.zero_le _⟩) (fun r u H locs hq9 hP hD hS => ?_)
    obtain rfl := hq9
    have hP : va_P D vwCl [(xK, .inl (cI, 24, .inl km)), (xC, .inl (cI, 3, .inl cq)), (xQ, .inl (cI, 720, .inl mq)), (xB, .inl (cI, 4326, .inl B)), (xR, .inl (cI, 721, .inl Rk)), (xM, .inr (6, [.int cd, .int (nI n), .ref xK, .ref xV, .int (nI ln), .ref xC, .ref xH, .int (nI ct), .ref xT, .ref xP, .int (nI lk), .ref xB, .ref xR, .ref xL, .ref xN, .ref xQ, .int (nI rp.toNat)]))] H := hP
    have hD : va_D A [(xK, .inl (cI, 24, .inl km)), (xC, .inl (cI, 3, .inl cq)), (xQ, .inl (cI, 720, .inl mq)), (xB, .inl (cI, 4326, .inl B)), (xR, .inl (cI, 721, .inl Rk)), (xM, .inr (6, [.int cd, .int (nI n), .ref xK, .ref xV, .int (nI ln), .ref xC, .ref xH, .int (nI ct), .ref xT, .ref xP, .int (nI lk), .ref xB, .ref xR, .ref xL, .ref xN, .ref xQ, .int (nI rp.toNat)]))] := hD
    refine xb_eqB (x := okr n (nI a)) hx hb 28 d_M_falseLeads_17 rfl (fun h17 => ?_) (fun h17 => ?_)
    · skip
      exact absurd h17 (by unfold okr; rw [if_neg (nI_pos (by omega)), if_neg (nI_ge ha (fa_sm n))]; decide)
    refine lv_aload_n hx hb d_M_falseLeads_20 rfl (lv_at hl 0 rfl) ?_
    refine lv_iload_n hx hb d_M_falseLeads_21 rfl (lv_at hl 2 rfl) ?_
    refine xc_i (wc := [(xM, .inr (6, [.int cd, .int (nI n), .ref xK, .ref xV, .int (nI ln), .ref xC, .ref xH, .int (nI ct), .ref xT, .ref xP, .int (nI lk), .ref xB, .ref xR, .ref xL, .ref xN, .ref xQ, .int (nI rp.toNat)]))]) (wr := [(xK, .inl (cI, 24, .inl km)), (xC, .inl (cI, 3, .inl cq)), (xQ, .inl (cI, 720, .inl mq)), (xB, .inl (cI, 4326, .inl B)), (xR, .inl (cI, 721, .inl Rk))]) (gG_ok tF) hK hP hD hS hA hg [5] [0, 1, 2, 3, 4] rfl rfl (by decide) (by decide) (by decide) (fun h1 h2 => va_runV (As := [.int (nI b)]) (rest := [.ref xM]) ⟨hx, hb, hml, hown, hts⟩ (c_M_isRank xM cd n xK xV ln xC xH ct xT xP lk xB xR xL xN xQ rp (nI b) hn _) (cwV 1 hts (gV k_724 k_726 ks_M_isRank k_7 k_727) rfl rfl rfl (by decide +kernel) ⟨Nat.le_of_ble_eq_true rfl, Nat.le_of_ble_eq_true rfl⟩) ⟨h1, va_recv (q0 := 5) (ci := 6) hK hP rfl rfl, h2⟩ rfl rfl hl.1 rfl (lv_room (Nat.le_of_ble_eq_true rfl)) d_M_falseLeads_22 ⟨Nat.zero_le _, Nat.zero_le _⟩) (fun r u H locs hq9 hP hD hS => ?_)
    obtain rfl := hq9
    have hP : va_P D vwCl [(xK, .inl (cI, 24, .inl km)), (xC, .inl (cI, 3, .inl cq)), (xQ, .inl (cI, 720, .inl mq)), (xB, .inl (cI, 4326, .inl B)), (xR, .inl (cI, 721, .inl Rk)), (xM, .inr (6, [.int cd, .int (nI n), .ref xK, .ref xV, .int (nI ln), .ref xC, .ref xH, .int (nI ct), .ref xT, .ref xP, .int (nI lk), .ref xB, .ref xR, .ref xL, .ref xN, .ref xQ, .int (nI rp.toNat)]))] H := hP
    have hD : va_D A [(xK, .inl (cI, 24, .inl km)), (xC, .inl (cI, 3, .inl cq)), (xQ, .inl (cI, 720, .inl mq)), (xB, .inl (cI, 4326, .inl B)), (xR, .inl (cI, 721, .inl Rk)), (xM, .inr (6, [.int cd, .int (nI n), .ref xK, .ref xV, .int (nI ln), .ref xC, .ref xH, .int (nI ct), .ref xT, .ref xP, .int (nI lk), .ref xB, .ref xR, .ref xL, .ref xN, .ref xQ, .int (nI rp.toNat)]))] := hD
    refine xb_neB (x := okr n (nI b)) hx hb 32 d_M_falseLeads_25 rfl (fun h25 => ?_) (fun h25 => ?_)
    · skip
      refine lv_iconst (v := nI 0) hx hb d_M_falseLeads_32 (by decide) ?_
      refine va_put (D := D) (ci := 6) (v := .int (nI 0)) (ty := .int) (C := R_M) (T := F_M) (N := 17) hx hb hts in_M t_M t_M_ok n_M hown hK hP hD hS 5 rfl rfl 0 (by decide) (hts _ (List.mem_cons_of_mem _ k_583)) (fun _ h9 => h9) rfl (by decide +kernel) rfl rfl (Nat.le_of_ble_eq_true rfl) d_M_falseLeads_33 (fun H locs hP hD hS => ?_)
      have hP : va_P D vwCl [(xK, .inl (cI, 24, .inl km)), (xC, .inl (cI, 3, .inl cq)), (xQ, .inl (cI, 720, .inl mq)), (xB, .inl (cI, 4326, .inl B)), (xR, .inl (cI, 721, .inl Rk)), (xM, .inr (6, [.int (nI 0), .int (nI n), .ref xK, .ref xV, .int (nI ln), .ref xC, .ref xH, .int (nI ct), .ref xT, .ref xP, .int (nI lk), .ref xB, .ref xR, .ref xL, .ref xN, .ref xQ, .int (nI rp.toNat)]))] H := hP
      have hD : va_D A [(xK, .inl (cI, 24, .inl km)), (xC, .inl (cI, 3, .inl cq)), (xQ, .inl (cI, 720, .inl mq)), (xB, .inl (cI, 4326, .inl B)), (xR, .inl (cI, 721, .inl Rk)), (xM, .inr (6, [.int (nI 0), .int (nI n), .ref xK, .ref xV, .int (nI ln), .ref xC, .ref xH, .int (nI ct), .ref xT, .ref xP, .int (nI lk), .ref xB, .ref xR, .ref xL, .ref xN, .ref xQ, .int (nI rp.toNat)]))] := hD
      refine lv_aload_n hx hb d_M_falseLeads_36 rfl (lv_at hl 0 rfl) ?_
      refine va_get (D := D) (ci := 6) (v := .int (nI 0)) (C := R_M) (T := F_M) (N := 17) hx hb hts in_M hown hK hP 5 rfl rfl 0 (by decide) (hts _ (List.mem_cons_of_mem _ k_583)) (fun _ h9 => h9) rfl d_M_falseLeads_37 ?_
      refine xb_le hx hb 45 (by decide) d_M_falseLeads_40 rfl (fun _ => ?_) (fun h => absurd h (by decide))
      refine lv_iconst (v := nI 0) hx hb d_M_falseLeads_45 (by decide) ?_
      refine lv_istore_n hx hb d_M_falseLeads_46 rfl hl (by decide) rfl (fun ls hl => ?_)
      have hl : lv_has ls 5 [(3, .int (nI 0)), (0, .ref xM), (1, .int (nI a)), (2, .int (nI b))] := hl
      have hl : lv_has ls 5 [(0, .ref xM), (1, .int (nI a)), (2, .int (nI b)), (3, .int (nI 0))] := lv_sub hl [1, 2, 3, 0] rfl
      have hP := hP.sub (ws' := [(xM, .inr (6, [.int (nI 0), .int (nI n), .ref xK, .ref xV, .int (nI ln), .ref xC, .ref xH, .int (nI ct), .ref xT, .ref xP, .int (nI lk), .ref xB, .ref xR, .ref xL, .ref xN, .ref xQ, .int (nI rp.toNat)])), (xK, .inl (cI, 24, .inl km)), (xC, .inl (cI, 3, .inl cq)), (xQ, .inl (cI, 720, .inl mq)), (xB, .inl (cI, 4326, .inl B)), (xR, .inl (cI, 721, .inl Rk))]) [5, 0, 1, 2, 3, 4] rfl
      have hD := hD.sub (ws' := [(xM, .inr (6, [.int (nI 0), .int (nI n), .ref xK, .ref xV, .int (nI ln), .ref xC, .ref xH, .int (nI ct), .ref xT, .ref xP, .int (nI lk), .ref xB, .ref xR, .ref xL, .ref xN, .ref xQ, .int (nI rp.toNat)])), (xK, .inl (cI, 24, .inl km)), (xC, .inl (cI, 3, .inl cq)), (xQ, .inl (cI, 720, .inl mq)), (xB, .inl (cI, 4326, .inl B)), (xR, .inl (cI, 721, .inl Rk))]) [5, 0, 1, 2, 3, 4] (by decide) rfl
      refine xn_pc (pc2 := 47) rfl ?_
      refine xl_2 (fun (i : Nat) (mq2 : Nat → Int32) ls H locs => (i ≤ 720) ∧ (∀ j, j < i → mq2 j = nI 0) ∧ lv_has ls 5 [(0, .ref xM), (1, .int (nI a)), (2, .int (nI b)), (3, .int (nI i))] ∧ va_P D vwCl [(xM, .inr (6, [.int (nI 0), .int (nI n), .ref xK, .ref xV, .int (nI ln), .ref xC, .ref xH, .int (nI ct), .ref xT, .ref xP, .int (nI lk), .ref xB, .ref xR, .ref xL, .ref xN, .ref xQ, .int (nI rp.toNat)])), (xK, .inl (cI, 24, .inl km)), (xC, .inl (cI, 3, .inl cq)), (xQ, .inl (cI, 720, .inl mq2)), (xB, .inl (cI, 4326, .inl B)), (xR, .inl (cI, 721, .inl Rk))] H ∧ va_D A [(xM, .inr (6, [.int (nI 0), .int (nI n), .ref xK, .ref xV, .int (nI ln), .ref xC, .ref xH, .int (nI ct), .ref xT, .ref xP, .int (nI lk), .ref xB, .ref xR, .ref xL, .ref xN, .ref xQ, .int (nI rp.toNat)])), (xK, .inl (cI, 24, .inl km)), (xC, .inl (cI, 3, .inl cq)), (xQ, .inl (cI, 720, .inl mq2)), (xB, .inl (cI, 4326, .inl B)), (xR, .inl (cI, 721, .inl Rk))] ∧ va_S A s.heap H locs) (fun (i : Nat) (mq2 : Nat → Int32) => 720 - i) (fun i mq2 ls H locs hI ih => ?_) 0 mq ⟨Nat.zero_le _, fun j hj => absurd hj (Nat.not_lt_zero j), hl, hP, hD, hS⟩
      obtain ⟨hi1, hi2, hl, hP, hD, hS⟩ := hI
      refine lv_iload_n hx hb d_M_falseLeads_47 rfl (lv_at hl 3 rfl) ?_
      refine lv_sipush (v := nI 720) hx hb d_M_falseLeads_48 (by decide) ?_
      refine xb_cge hx hb 67 (by omega) (by omega) d_M_falseLeads_51 rfl (fun h51 => ?_) (fun h51 => ?_)
      · skip
        refine lv_aload_n hx hb d_M_falseLeads_67 rfl (lv_at hl 0 rfl) ?_
        refine lv_iload_n hx hb d_M_falseLeads_68 rfl (lv_at hl 1 rfl) ?_
        refine xc_v (wc := [(xM, .inr (6, [.int (nI 0), .int (nI n), .ref xK, .ref xV, .int (nI ln), .ref xC, .ref xH, .int (nI ct), .ref xT, .ref xP, .int (nI lk), .ref xB, .ref xR, .ref xL, .ref xN, .ref xQ, .int (nI rp.toNat)])), (xB, .inl (cI, 4326, .inl B)), (xR, .inl (cI, 721, .inl Rk))]) (wr := [(xK, .inl (cI, 24, .inl km)), (xC, .inl (cI, 3, .inl cq)), (xQ, .inl (cI, 720, .inl mq2))]) (gG_ok tF) hK hP hD hS hA hg [0, 4, 5] [1, 2, 3] rfl rfl (by decide) (by decide) (by decide) (fun h1 h2 => va_runV (As := [.int (nI a)]) (rest := []) ⟨hx, hb, hml, hown, hts⟩ (c_M_setRow xM (nI 0) n xK xV ln xC xH ct xT xP lk xB xR xL xN xQ rp B Rk a hn ha _) (cwV 1 hts (gV k_732 k_734 ks_M_setRow k_7 k_735) rfl rfl rfl (by decide +kernel) ⟨Nat.le_of_ble_eq_true rfl, Nat.le_of_ble_eq_true rfl⟩) ⟨h1, va_recv (q0 := 0) (ci := 6) hK hP rfl rfl, h2⟩ rfl rfl hl.1 rfl (lv_room (Nat.le_of_ble_eq_true rfl)) d_M_falseLeads_69 ⟨Nat.zero_le _, Nat.zero_le _⟩) (fun B2_ H locs hq9 hP hD hS => ?_)
        have hw69 := hq9
        have hP : va_P D vwCl [(xK, .inl (cI, 24, .inl km)), (xC, .inl (cI, 3, .inl cq)), (xQ, .inl (cI, 720, .inl mq2)), (xM, .inr (6, [.int (nI 0), .int (nI n), .ref xK, .ref xV, .int (nI ln), .ref xC, .ref xH, .int (nI ct), .ref xT, .ref xP, .int (nI lk), .ref xB, .ref xR, .ref xL, .ref xN, .ref xQ, .int (nI rp.toNat)])), (xB, .inl (cI, 4326, .inl B2_)), (xR, .inl (cI, 721, .inl (upd Rk 0 (nI a))))] H := hP
        have hD : va_D A [(xK, .inl (cI, 24, .inl km)), (xC, .inl (cI, 3, .inl cq)), (xQ, .inl (cI, 720, .inl mq2)), (xM, .inr (6, [.int (nI 0), .int (nI n), .ref xK, .ref xV, .int (nI ln), .ref xC, .ref xH, .int (nI ct), .ref xT, .ref xP, .int (nI lk), .ref xB, .ref xR, .ref xL, .ref xN, .ref xQ, .int (nI rp.toNat)])), (xB, .inl (cI, 4326, .inl B2_)), (xR, .inl (cI, 721, .inl (upd Rk 0 (nI a))))] := hD
        refine lv_aload_n hx hb d_M_falseLeads_72 rfl (lv_at hl 0 rfl) ?_
        refine lv_iconst (v := nI 0) hx hb d_M_falseLeads_73 (by decide) ?_
        refine lv_iconst (v := nI 0) hx hb d_M_falseLeads_74 (by decide) ?_
        refine xc_v (wc := [(xM, .inr (6, [.int (nI 0), .int (nI n), .ref xK, .ref xV, .int (nI ln), .ref xC, .ref xH, .int (nI ct), .ref xT, .ref xP, .int (nI lk), .ref xB, .ref xR, .ref xL, .ref xN, .ref xQ, .int (nI rp.toNat)])), (xK, .inl (cI, 24, .inl km)), (xC, .inl (cI, 3, .inl cq)), (xB, .inl (cI, 4326, .inl B2_)), (xR, .inl (cI, 721, .inl (upd Rk 0 (nI a))))]) (wr := [(xQ, .inl (cI, 720, .inl mq2))]) (gG_ok tF) hK hP hD hS hA hg [3, 0, 1, 4, 5] [2] rfl rfl (by decide) (by decide) (by decide) (fun h1 h2 => va_runV (As := [.int (nI 0), .int (nI 0)]) (rest := []) ⟨hx, hb, hml, hown, hts⟩ (c_M_lead xM (nI 0) n xK xV ln xC xH ct xT xP lk xB xR xL xN xQ rp B2_ (upd Rk 0 (nI a)) km cq 0 0 mw a hn ha hw69 (by omega) (by decide) hln hgm _) (cwV 2 hts (gV k_664 k_666 ks_M_lead k_7 k_667) rfl rfl rfl (by decide +kernel) ⟨Nat.le_of_ble_eq_true rfl, Nat.le_of_ble_eq_true rfl⟩) ⟨h1, va_recv (q0 := 3) (ci := 6) hK hP rfl rfl, h2⟩ rfl rfl hl.1 rfl (lv_room (Nat.le_of_ble_eq_true rfl)) d_M_falseLeads_75 ⟨Nat.zero_le _, Nat.zero_le _⟩) (fun u H locs hq9 hP hD hS => ?_)
        obtain ⟨B3, Rk3⟩ := u
        obtain ⟨hw75_0, hw75_1, hw75_2, hw75_3⟩ := hq9
        have hP : va_P D vwCl [(xQ, .inl (cI, 720, .inl mq2)), (xM, .inr (6, [.int (nI 0), .int (nI n), .ref xK, .ref xV, .int (nI ln), .ref xC, .ref xH, .int (nI ct), .ref xT, .ref xP, .int (nI lk), .ref xB, .ref xR, .ref xL, .ref xN, .ref xQ, .int (nI rp.toNat)])), (xK, .inl (cI, 24, .inl km)), (xC, .inl (cI, 3, .inl cq)), (xB, .inl (cI, 4326, .inl B3)), (xR, .inl (cI, 721, .inl Rk3))] H := hP
        have hD : va_D A [(xQ, .inl (cI, 720, .inl mq2)), (xM, .inr (6, [.int (nI 0), .int (nI n), .ref xK, .ref xV, .int (nI ln), .ref xC, .ref xH, .int (nI ct), .ref xT, .ref xP, .int (nI lk), .ref xB, .ref xR, .ref xL, .ref xN, .ref xQ, .int (nI rp.toNat)])), (xK, .inl (cI, 24, .inl km)), (xC, .inl (cI, 3, .inl cq)), (xB, .inl (cI, 4326, .inl B3)), (xR, .inl (cI, 721, .inl Rk3))] := hD
        refine lv_iconst (v := nI 1) hx hb d_M_falseLeads_78 (by decide) ?_
        refine lv_istore_n hx hb d_M_falseLeads_79 rfl hl (by decide) rfl (fun ls hl => ?_)
        have hl : lv_has ls 5 [(3, .int (nI 1)), (0, .ref xM), (1, .int (nI a)), (2, .int (nI b))] := hl
        have hl : lv_has ls 5 [(0, .ref xM), (1, .int (nI a)), (2, .int (nI b)), (3, .int (nI (0 + 1)))] := lv_sub hl [1, 2, 3, 0] rfl
        have hP := hP.sub (ws' := [(xM, .inr (6, [.int (nI 0), .int (nI n), .ref xK, .ref xV, .int (nI ln), .ref xC, .ref xH, .int (nI ct), .ref xT, .ref xP, .int (nI lk), .ref xB, .ref xR, .ref xL, .ref xN, .ref xQ, .int (nI rp.toNat)])), (xK, .inl (cI, 24, .inl km)), (xC, .inl (cI, 3, .inl cq)), (xQ, .inl (cI, 720, .inl mq2)), (xB, .inl (cI, 4326, .inl B3)), (xR, .inl (cI, 721, .inl Rk3))]) [1, 2, 3, 0, 4, 5] rfl
        have hD := hD.sub (ws' := [(xM, .inr (6, [.int (nI 0), .int (nI n), .ref xK, .ref xV, .int (nI ln), .ref xC, .ref xH, .int (nI ct), .ref xT, .ref xP, .int (nI lk), .ref xB, .ref xR, .ref xL, .ref xN, .ref xQ, .int (nI rp.toNat)])), (xK, .inl (cI, 24, .inl km)), (xC, .inl (cI, 3, .inl cq)), (xQ, .inl (cI, 720, .inl mq2)), (xB, .inl (cI, 4326, .inl B3)), (xR, .inl (cI, 721, .inl Rk3))]) [1, 2, 3, 0, 4, 5] (by decide) rfl
        refine xn_pc (pc2 := 80) rfl ?_
        refine xl_2 (fun (k : Nat) (mq3 : Nat → Int32) ls H locs => (k ≤ ln) ∧ (mkd n mw a k mq3) ∧ lv_has ls 5 [(0, .ref xM), (1, .int (nI a)), (2, .int (nI b)), (3, .int (nI (k + 1)))] ∧ va_P D vwCl [(xM, .inr (6, [.int (nI 0), .int (nI n), .ref xK, .ref xV, .int (nI ln), .ref xC, .ref xH, .int (nI ct), .ref xT, .ref xP, .int (nI lk), .ref xB, .ref xR, .ref xL, .ref xN, .ref xQ, .int (nI rp.toNat)])), (xK, .inl (cI, 24, .inl km)), (xC, .inl (cI, 3, .inl cq)), (xQ, .inl (cI, 720, .inl mq3)), (xB, .inl (cI, 4326, .inl B3)), (xR, .inl (cI, 721, .inl Rk3))] H ∧ va_D A [(xM, .inr (6, [.int (nI 0), .int (nI n), .ref xK, .ref xV, .int (nI ln), .ref xC, .ref xH, .int (nI ct), .ref xT, .ref xP, .int (nI lk), .ref xB, .ref xR, .ref xL, .ref xN, .ref xQ, .int (nI rp.toNat)])), (xK, .inl (cI, 24, .inl km)), (xC, .inl (cI, 3, .inl cq)), (xQ, .inl (cI, 720, .inl mq3)), (xB, .inl (cI, 4326, .inl B3)), (xR, .inl (cI, 721, .inl Rk3))] ∧ va_S A s.heap H locs) (fun (k : Nat) (mq3 : Nat → Int32) => ln - k) (fun k mq3 ls H locs hI ih1 => ?_) 0 mq2 ⟨Nat.zero_le _, mkd_0 (fun r hr => hi2 r (by omega)), hl, hP, hD, hS⟩
        obtain ⟨hk1, hk2, hl, hP, hD, hS⟩ := hI
        refine lv_iload_n hx hb d_M_falseLeads_80 rfl (lv_at hl 3 rfl) ?_
        refine lv_aload_n hx hb d_M_falseLeads_81 rfl (lv_at hl 0 rfl) ?_
        refine va_get (D := D) (ci := 6) (v := .int (nI ln)) (C := R_M) (T := F_M) (N := 17) hx hb hts in_M hown hK hP 0 rfl rfl 4 (by decide) (hts _ (List.mem_cons_of_mem _ k_587)) (fun _ h9 => h9) rfl d_M_falseLeads_82 ?_
        refine xb_cgt hx hb 106 (by omega) (by omega) d_M_falseLeads_85 rfl (fun h85 => ?_) (fun h85 => ?_)
        · skip
          have hmk : mkd n mw a ln mq3 := by have h9 := hk2; rw [show k = ln by omega] at h9; exact h9
          refine lv_aload_n hx hb d_M_falseLeads_106 rfl (lv_at hl 0 rfl) ?_
          refine lv_iload_n hx hb d_M_falseLeads_107 rfl (lv_at hl 2 rfl) ?_
          refine xc_v (wc := [(xM, .inr (6, [.int (nI 0), .int (nI n), .ref xK, .ref xV, .int (nI ln), .ref xC, .ref xH, .int (nI ct), .ref xT, .ref xP, .int (nI lk), .ref xB, .ref xR, .ref xL, .ref xN, .ref xQ, .int (nI rp.toNat)])), (xB, .inl (cI, 4326, .inl B3)), (xR, .inl (cI, 721, .inl Rk3))]) (wr := [(xK, .inl (cI, 24, .inl km)), (xC, .inl (cI, 3, .inl cq)), (xQ, .inl (cI, 720, .inl mq3))]) (gG_ok tF) hK hP hD hS hA hg [0, 4, 5] [1, 2, 3] rfl rfl (by decide) (by decide) (by decide) (fun h1 h2 => va_runV (As := [.int (nI b)]) (rest := []) ⟨hx, hb, hml, hown, hts⟩ (c_M_setRow xM (nI 0) n xK xV ln xC xH ct xT xP lk xB xR xL xN xQ rp B3 Rk3 b hn hbn _) (cwV 1 hts (gV k_732 k_734 ks_M_setRow k_7 k_735) rfl rfl rfl (by decide +kernel) ⟨Nat.le_of_ble_eq_true rfl, Nat.le_of_ble_eq_true rfl⟩) ⟨h1, va_recv (q0 := 0) (ci := 6) hK hP rfl rfl, h2⟩ rfl rfl hl.1 rfl (lv_room (Nat.le_of_ble_eq_true rfl)) d_M_falseLeads_108 ⟨Nat.zero_le _, Nat.zero_le _⟩) (fun B2_1 H locs hq9 hP hD hS => ?_)
          have hw108 := hq9
          have hP : va_P D vwCl [(xK, .inl (cI, 24, .inl km)), (xC, .inl (cI, 3, .inl cq)), (xQ, .inl (cI, 720, .inl mq3)), (xM, .inr (6, [.int (nI 0), .int (nI n), .ref xK, .ref xV, .int (nI ln), .ref xC, .ref xH, .int (nI ct), .ref xT, .ref xP, .int (nI lk), .ref xB, .ref xR, .ref xL, .ref xN, .ref xQ, .int (nI rp.toNat)])), (xB, .inl (cI, 4326, .inl B2_1)), (xR, .inl (cI, 721, .inl (upd Rk3 0 (nI b))))] H := hP
          have hD : va_D A [(xK, .inl (cI, 24, .inl km)), (xC, .inl (cI, 3, .inl cq)), (xQ, .inl (cI, 720, .inl mq3)), (xM, .inr (6, [.int (nI 0), .int (nI n), .ref xK, .ref xV, .int (nI ln), .ref xC, .ref xH, .int (nI ct), .ref xT, .ref xP, .int (nI lk), .ref xB, .ref xR, .ref xL, .ref xN, .ref xQ, .int (nI rp.toNat)])), (xB, .inl (cI, 4326, .inl B2_1)), (xR, .inl (cI, 721, .inl (upd Rk3 0 (nI b))))] := hD
          refine lv_aload_n hx hb d_M_falseLeads_111 rfl (lv_at hl 0 rfl) ?_
          refine lv_iconst (v := nI 0) hx hb d_M_falseLeads_112 (by decide) ?_
          refine lv_iconst (v := nI 0) hx hb d_M_falseLeads_113 (by decide) ?_
          refine xc_v (wc := [(xM, .inr (6, [.int (nI 0), .int (nI n), .ref xK, .ref xV, .int (nI ln), .ref xC, .ref xH, .int (nI ct), .ref xT, .ref xP, .int (nI lk), .ref xB, .ref xR, .ref xL, .ref xN, .ref xQ, .int (nI rp.toNat)])), (xK, .inl (cI, 24, .inl km)), (xC, .inl (cI, 3, .inl cq)), (xB, .inl (cI, 4326, .inl B2_1)), (xR, .inl (cI, 721, .inl (upd Rk3 0 (nI b))))]) (wr := [(xQ, .inl (cI, 720, .inl mq3))]) (gG_ok tF) hK hP hD hS hA hg [3, 0, 1, 4, 5] [2] rfl rfl (by decide) (by decide) (by decide) (fun h1 h2 => va_runV (As := [.int (nI 0), .int (nI 0)]) (rest := []) ⟨hx, hb, hml, hown, hts⟩ (c_M_lead xM (nI 0) n xK xV ln xC xH ct xT xP lk xB xR xL xN xQ rp B2_1 (upd Rk3 0 (nI b)) km cq 0 0 mw b hn hbn hw108 (by omega) (by decide) hln hgm _) (cwV 2 hts (gV k_664 k_666 ks_M_lead k_7 k_667) rfl rfl rfl (by decide +kernel) ⟨Nat.le_of_ble_eq_true rfl, Nat.le_of_ble_eq_true rfl⟩) ⟨h1, va_recv (q0 := 3) (ci := 6) hK hP rfl rfl, h2⟩ rfl rfl hl.1 rfl (lv_room (Nat.le_of_ble_eq_true rfl)) d_M_falseLeads_114 ⟨Nat.zero_le _, Nat.zero_le _⟩) (fun u H locs hq9 hP hD hS => ?_)
          obtain ⟨B4, Rk4⟩ := u
          obtain ⟨hw114_0, hw114_1, hw114_2, hw114_3⟩ := hq9
          have hP : va_P D vwCl [(xQ, .inl (cI, 720, .inl mq3)), (xM, .inr (6, [.int (nI 0), .int (nI n), .ref xK, .ref xV, .int (nI ln), .ref xC, .ref xH, .int (nI ct), .ref xT, .ref xP, .int (nI lk), .ref xB, .ref xR, .ref xL, .ref xN, .ref xQ, .int (nI rp.toNat)])), (xK, .inl (cI, 24, .inl km)), (xC, .inl (cI, 3, .inl cq)), (xB, .inl (cI, 4326, .inl B4)), (xR, .inl (cI, 721, .inl Rk4))] H := hP
          have hD : va_D A [(xQ, .inl (cI, 720, .inl mq3)), (xM, .inr (6, [.int (nI 0), .int (nI n), .ref xK, .ref xV, .int (nI ln), .ref xC, .ref xH, .int (nI ct), .ref xT, .ref xP, .int (nI lk), .ref xB, .ref xR, .ref xL, .ref xN, .ref xQ, .int (nI rp.toNat)])), (xK, .inl (cI, 24, .inl km)), (xC, .inl (cI, 3, .inl cq)), (xB, .inl (cI, 4326, .inl B4)), (xR, .inl (cI, 721, .inl Rk4))] := hD
          refine lv_iconst (v := nI 0) hx hb d_M_falseLeads_117 (by decide) ?_
          refine lv_istore_n hx hb d_M_falseLeads_118 rfl hl (by decide) rfl (fun ls hl => ?_)
          have hl : lv_has ls 5 [(3, .int (nI 0)), (0, .ref xM), (1, .int (nI a)), (2, .int (nI b))] := hl
          refine lv_iconst (v := nI 1) hx hb d_M_falseLeads_119 (by decide) ?_
          refine lv_istore hx hb d_M_falseLeads_120 hl (by decide) rfl (fun ls hl => ?_)
          have hl : lv_has ls 5 [(4, .int (nI 1)), (3, .int (nI 0)), (0, .ref xM), (1, .int (nI a)), (2, .int (nI b))] := hl
          have hl : lv_has ls 5 [(0, .ref xM), (1, .int (nI a)), (2, .int (nI b)), (3, .int (nI false.toNat)), (4, .int (nI (0 + 1)))] := lv_sub hl [2, 3, 4, 1, 0] rfl
          have hP := hP.sub (ws' := [(xM, .inr (6, [.int (nI 0), .int (nI n), .ref xK, .ref xV, .int (nI ln), .ref xC, .ref xH, .int (nI ct), .ref xT, .ref xP, .int (nI lk), .ref xB, .ref xR, .ref xL, .ref xN, .ref xQ, .int (nI rp.toNat)])), (xK, .inl (cI, 24, .inl km)), (xC, .inl (cI, 3, .inl cq)), (xQ, .inl (cI, 720, .inl mq3)), (xB, .inl (cI, 4326, .inl B4)), (xR, .inl (cI, 721, .inl Rk4))]) [1, 2, 3, 0, 4, 5] rfl
          have hD := hD.sub (ws' := [(xM, .inr (6, [.int (nI 0), .int (nI n), .ref xK, .ref xV, .int (nI ln), .ref xC, .ref xH, .int (nI ct), .ref xT, .ref xP, .int (nI lk), .ref xB, .ref xR, .ref xL, .ref xN, .ref xQ, .int (nI rp.toNat)])), (xK, .inl (cI, 24, .inl km)), (xC, .inl (cI, 3, .inl cq)), (xQ, .inl (cI, 720, .inl mq3)), (xB, .inl (cI, 4326, .inl B4)), (xR, .inl (cI, 721, .inl Rk4))]) [1, 2, 3, 0, 4, 5] (by decide) rfl
          refine xn_pc (pc2 := 122) rfl ?_
          refine xl_2 (fun (j : Nat) (gc : Bool) ls H locs => (j ≤ ln) ∧ (gc = flj n mw ln a b j) ∧ lv_has ls 5 [(0, .ref xM), (1, .int (nI a)), (2, .int (nI b)), (3, .int (nI gc.toNat)), (4, .int (nI (j + 1)))] ∧ va_P D vwCl [(xM, .inr (6, [.int (nI 0), .int (nI n), .ref xK, .ref xV, .int (nI ln), .ref xC, .ref xH, .int (nI ct), .ref xT, .ref xP, .int (nI lk), .ref xB, .ref xR, .ref xL, .ref xN, .ref xQ, .int (nI rp.toNat)])), (xK, .inl (cI, 24, .inl km)), (xC, .inl (cI, 3, .inl cq)), (xQ, .inl (cI, 720, .inl mq3)), (xB, .inl (cI, 4326, .inl B4)), (xR, .inl (cI, 721, .inl Rk4))] H ∧ va_D A [(xM, .inr (6, [.int (nI 0), .int (nI n), .ref xK, .ref xV, .int (nI ln), .ref xC, .ref xH, .int (nI ct), .ref xT, .ref xP, .int (nI lk), .ref xB, .ref xR, .ref xL, .ref xN, .ref xQ, .int (nI rp.toNat)])), (xK, .inl (cI, 24, .inl km)), (xC, .inl (cI, 3, .inl cq)), (xQ, .inl (cI, 720, .inl mq3)), (xB, .inl (cI, 4326, .inl B4)), (xR, .inl (cI, 721, .inl Rk4))] ∧ va_S A s.heap H locs) (fun (j : Nat) (gc : Bool) => ln - j) (fun j gc ls H locs hI ih2 => ?_) 0 false ⟨Nat.zero_le _, (@decide_eq_false _ (Classical.propDecidable _) (fun ⟨c, h, _⟩ => absurd h (Nat.not_lt_zero c))).symm, hl, hP, hD, hS⟩
          obtain ⟨hj1, hj2, hl, hP, hD, hS⟩ := hI
          refine lv_iload hx hb d_M_falseLeads_122 (lv_at hl 4 rfl) ?_
          refine lv_aload_n hx hb d_M_falseLeads_124 rfl (lv_at hl 0 rfl) ?_
          refine va_get (D := D) (ci := 6) (v := .int (nI ln)) (C := R_M) (T := F_M) (N := 17) hx hb hts in_M hown hK hP 0 rfl rfl 4 (by decide) (hts _ (List.mem_cons_of_mem _ k_587)) (fun _ h9 => h9) rfl d_M_falseLeads_125 ?_
          refine xb_cgt hx hb 163 (by omega) (by omega) d_M_falseLeads_128 rfl (fun h128 => ?_) (fun h128 => ?_)
          · skip
            refine lv_iload_n hx hb d_M_falseLeads_163 rfl (lv_at hl 3 rfl) ?_
            exact xr_i hx hb hrt hlk (xz_B _) hP hD hS (B4, Rk4, mq3) [0, 1, 2, 3, 4, 5] (by decide) rfl (by rw [hj2, ← flj_n, show j = ln by omega]) d_M_falseLeads_164
          refine xn_pc (pc2 := 131) rfl ?_
          refine xj_1 (fun (g1 : Bool) ls H locs => (g1 = flj n mw ln a b (j + 1)) ∧ lv_has ls 5 [(0, .ref xM), (1, .int (nI a)), (2, .int (nI b)), (4, .int (nI (j + 1)))] ∧ va_P D vwCl [(xM, .inr (6, [.int (nI 0), .int (nI n), .ref xK, .ref xV, .int (nI ln), .ref xC, .ref xH, .int (nI ct), .ref xT, .ref xP, .int (nI lk), .ref xB, .ref xR, .ref xL, .ref xN, .ref xQ, .int (nI rp.toNat)])), (xK, .inl (cI, 24, .inl km)), (xC, .inl (cI, 3, .inl cq)), (xQ, .inl (cI, 720, .inl mq3)), (xB, .inl (cI, 4326, .inl B4)), (xR, .inl (cI, 721, .inl Rk4))] H ∧ va_D A [(xM, .inr (6, [.int (nI 0), .int (nI n), .ref xK, .ref xV, .int (nI ln), .ref xC, .ref xH, .int (nI ct), .ref xT, .ref xP, .int (nI lk), .ref xB, .ref xR, .ref xL, .ref xN, .ref xQ, .int (nI rp.toNat)])), (xK, .inl (cI, 24, .inl km)), (xC, .inl (cI, 3, .inl cq)), (xQ, .inl (cI, 720, .inl mq3)), (xB, .inl (cI, 4326, .inl B4)), (xR, .inl (cI, 721, .inl Rk4))] ∧ va_S A s.heap H locs) 156 (fun (g1 : Bool) => [.int (nI g1.toNat)]) 0 0 (fun g1 ls H locs hI => ?_) (fun hj => ?_)
          · obtain ⟨hg1, hl, hP, hD, hS⟩ := hI
            refine lv_istore_n hx hb d_M_falseLeads_156 rfl hl (by decide) rfl (fun ls hl => ?_)
            have hl : lv_has ls 5 [(3, .int (nI g1.toNat)), (0, .ref xM), (1, .int (nI a)), (2, .int (nI b)), (4, .int (nI (j + 1)))] := hl
            refine lv_iinc (k := 4) (v := nI (j + 1 + 1)) hx hb d_M_falseLeads_157 hl rfl (xi_1 _) (by decide) rfl (fun ls hl => ?_)
            have hl : lv_has ls 5 [(4, .int (nI (j + 1 + 1))), (3, .int (nI g1.toNat)), (0, .ref xM), (1, .int (nI a)), (2, .int (nI b))] := hl
            refine lv_goto (tgt := 122) hx hb d_M_falseLeads_160 rfl ?_
            have hl : lv_has ls 5 [(0, .ref xM), (1, .int (nI a)), (2, .int (nI b)), (3, .int (nI g1.toNat)), (4, .int (nI ((j + 1) + 1)))] := lv_sub hl [2, 3, 4, 1, 0] rfl
            have hP := hP.sub (ws' := [(xM, .inr (6, [.int (nI 0), .int (nI n), .ref xK, .ref xV, .int (nI ln), .ref xC, .ref xH, .int (nI ct), .ref xT, .ref xP, .int (nI lk), .ref xB, .ref xR, .ref xL, .ref xN, .ref xQ, .int (nI rp.toNat)])), (xK, .inl (cI, 24, .inl km)), (xC, .inl (cI, 3, .inl cq)), (xQ, .inl (cI, 720, .inl mq3)), (xB, .inl (cI, 4326, .inl B4)), (xR, .inl (cI, 721, .inl Rk4))]) [0, 1, 2, 3, 4, 5] rfl
            have hD := hD.sub (ws' := [(xM, .inr (6, [.int (nI 0), .int (nI n), .ref xK, .ref xV, .int (nI ln), .ref xC, .ref xH, .int (nI ct), .ref xT, .ref xP, .int (nI lk), .ref xB, .ref xR, .ref xL, .ref xN, .ref xQ, .int (nI rp.toNat)])), (xK, .inl (cI, 24, .inl km)), (xC, .inl (cI, 3, .inl cq)), (xQ, .inl (cI, 720, .inl mq3)), (xB, .inl (cI, 4326, .inl B4)), (xR, .inl (cI, 721, .inl Rk4))]) [0, 1, 2, 3, 4, 5] (by decide) rfl
            exact ih2 (j + 1) g1 _ _ _ (by omega) ⟨by omega, hg1, hl, hP, hD, hS⟩
          refine lv_iload_n hx hb d_M_falseLeads_131 rfl (lv_at hl 3 rfl) ?_
          refine xb_neB (x := gc) hx hb 151 d_M_falseLeads_132 rfl (fun h132 => ?_) (fun h132 => ?_)
          · rw [hj2] at h132
            refine lv_iconst (v := nI 1) hx hb d_M_falseLeads_151 (by decide) ?_
            refine lv_goto (tgt := 156) hx hb d_M_falseLeads_152 rfl ?_
            have hl : lv_has ls 5 [(0, .ref xM), (1, .int (nI a)), (2, .int (nI b)), (4, .int (nI (j + 1)))] := lv_sub hl [0, 1, 2, 4] rfl
            have hP := hP.sub (ws' := [(xM, .inr (6, [.int (nI 0), .int (nI n), .ref xK, .ref xV, .int (nI ln), .ref xC, .ref xH, .int (nI ct), .ref xT, .ref xP, .int (nI lk), .ref xB, .ref xR, .ref xL, .ref xN, .ref xQ, .int (nI rp.toNat)])), (xK, .inl (cI, 24, .inl km)), (xC, .inl (cI, 3, .inl cq)), (xQ, .inl (cI, 720, .inl mq3)), (xB, .inl (cI, 4326, .inl B4)), (xR, .inl (cI, 721, .inl Rk4))]) [0, 1, 2, 3, 4, 5] rfl
            have hD := hD.sub (ws' := [(xM, .inr (6, [.int (nI 0), .int (nI n), .ref xK, .ref xV, .int (nI ln), .ref xC, .ref xH, .int (nI ct), .ref xT, .ref xP, .int (nI lk), .ref xB, .ref xR, .ref xL, .ref xN, .ref xQ, .int (nI rp.toNat)])), (xK, .inl (cI, 24, .inl km)), (xC, .inl (cI, 3, .inl cq)), (xQ, .inl (cI, 720, .inl mq3)), (xB, .inl (cI, 4326, .inl B4)), (xR, .inl (cI, 721, .inl Rk4))]) [0, 1, 2, 3, 4, 5] (by decide) rfl
            exact hj true _ _ _ ⟨by first | exact flj_t1 h132 | exact flj_t2 hmk (by have := hlb (j + 1) (by omega); omega) h148, hl, hP, hD, hS⟩
          rw [hj2] at h132
          refine lv_aload_n hx hb d_M_falseLeads_135 rfl (lv_at hl 0 rfl) ?_
          refine va_get (D := D) (ci := 6) (v := .ref xQ) (C := R_M) (T := F_M) (N := 17) hx hb hts in_M hown hK hP 0 rfl rfl 15 (by decide) (hts _ (List.mem_cons_of_mem _ k_598)) (fun _ h9 => h9) rfl d_M_falseLeads_136 ?_
          refine lv_aload_n hx hb d_M_falseLeads_139 rfl (lv_at hl 0 rfl) ?_
          refine va_get (D := D) (ci := 6) (v := .ref xR) (C := R_M) (T := F_M) (N := 17) hx hb hts in_M hown hK hP 0 rfl rfl 12 (by decide) (hts _ (List.mem_cons_of_mem _ k_595)) (fun _ h9 => h9) rfl d_M_falseLeads_140 ?_
          refine lv_iload hx hb d_M_falseLeads_143 (lv_at hl 4 rfl) ?_
          refine xa_iald (v := nI (ld n mw b (j + 1))) hx hb hK hP 5 0 rfl rfl (by omega) (by decide) (by have h9 := hw114_1 (j + 1) (by omega) (by omega); rw [Nat.zero_add] at h9; exact h9) d_M_falseLeads_145 ?_
          refine xa_iald (v := mq3 (ld n mw b (j + 1))) hx hb hK hP 3 0 rfl rfl (by have := hlb (j + 1) (by omega); omega) (by decide) rfl d_M_falseLeads_146 ?_
          refine lv_iconst (v := nI 1) hx hb d_M_falseLeads_147 (by decide) ?_
          refine lv_icmp_ne (tgt := 155) hx hb d_M_falseLeads_148 rfl (fun h148 => ?_) (fun h148 => ?_)
          · skip
            refine lv_iconst (v := nI 0) hx hb d_M_falseLeads_155 (by decide) ?_
            have hl : lv_has ls 5 [(0, .ref xM), (1, .int (nI a)), (2, .int (nI b)), (4, .int (nI (j + 1)))] := lv_sub hl [0, 1, 2, 4] rfl
            have hP := hP.sub (ws' := [(xM, .inr (6, [.int (nI 0), .int (nI n), .ref xK, .ref xV, .int (nI ln), .ref xC, .ref xH, .int (nI ct), .ref xT, .ref xP, .int (nI lk), .ref xB, .ref xR, .ref xL, .ref xN, .ref xQ, .int (nI rp.toNat)])), (xK, .inl (cI, 24, .inl km)), (xC, .inl (cI, 3, .inl cq)), (xQ, .inl (cI, 720, .inl mq3)), (xB, .inl (cI, 4326, .inl B4)), (xR, .inl (cI, 721, .inl Rk4))]) [0, 1, 2, 3, 4, 5] rfl
            have hD := hD.sub (ws' := [(xM, .inr (6, [.int (nI 0), .int (nI n), .ref xK, .ref xV, .int (nI ln), .ref xC, .ref xH, .int (nI ct), .ref xT, .ref xP, .int (nI lk), .ref xB, .ref xR, .ref xL, .ref xN, .ref xQ, .int (nI rp.toNat)])), (xK, .inl (cI, 24, .inl km)), (xC, .inl (cI, 3, .inl cq)), (xQ, .inl (cI, 720, .inl mq3)), (xB, .inl (cI, 4326, .inl B4)), (xR, .inl (cI, 721, .inl Rk4))]) [0, 1, 2, 3, 4, 5] (by decide) rfl
            exact hj false _ _ _ ⟨flj_f h132 hmk (by have := hlb (j + 1) (by omega); omega) h148, hl, hP, hD, hS⟩
          refine lv_iconst (v := nI 1) hx hb d_M_falseLeads_151 (by decide) ?_
          refine lv_goto (tgt := 156) hx hb d_M_falseLeads_152 rfl ?_
          have hl : lv_has ls 5 [(0, .ref xM), (1, .int (nI a)), (2, .int (nI b)), (4, .int (nI (j + 1)))] := lv_sub hl [0, 1, 2, 4] rfl
          have hP := hP.sub (ws' := [(xM, .inr (6, [.int (nI 0), .int (nI n), .ref xK, .ref xV, .int (nI ln), .ref xC, .ref xH, .int (nI ct), .ref xT, .ref xP, .int (nI lk), .ref xB, .ref xR, .ref xL, .ref xN, .ref xQ, .int (nI rp.toNat)])), (xK, .inl (cI, 24, .inl km)), (xC, .inl (cI, 3, .inl cq)), (xQ, .inl (cI, 720, .inl mq3)), (xB, .inl (cI, 4326, .inl B4)), (xR, .inl (cI, 721, .inl Rk4))]) [0, 1, 2, 3, 4, 5] rfl
          have hD := hD.sub (ws' := [(xM, .inr (6, [.int (nI 0), .int (nI n), .ref xK, .ref xV, .int (nI ln), .ref xC, .ref xH, .int (nI ct), .ref xT, .ref xP, .int (nI lk), .ref xB, .ref xR, .ref xL, .ref xN, .ref xQ, .int (nI rp.toNat)])), (xK, .inl (cI, 24, .inl km)), (xC, .inl (cI, 3, .inl cq)), (xQ, .inl (cI, 720, .inl mq3)), (xB, .inl (cI, 4326, .inl B4)), (xR, .inl (cI, 721, .inl Rk4))]) [0, 1, 2, 3, 4, 5] (by decide) rfl
          exact hj true _ _ _ ⟨by first | exact flj_t1 h132 | exact flj_t2 hmk (by have := hlb (j + 1) (by omega); omega) h148, hl, hP, hD, hS⟩
        refine lv_aload_n hx hb d_M_falseLeads_88 rfl (lv_at hl 0 rfl) ?_
        refine va_get (D := D) (ci := 6) (v := .ref xQ) (C := R_M) (T := F_M) (N := 17) hx hb hts in_M hown hK hP 0 rfl rfl 15 (by decide) (hts _ (List.mem_cons_of_mem _ k_598)) (fun _ h9 => h9) rfl d_M_falseLeads_89 ?_
        refine lv_aload_n hx hb d_M_falseLeads_92 rfl (lv_at hl 0 rfl) ?_
        refine va_get (D := D) (ci := 6) (v := .ref xR) (C := R_M) (T := F_M) (N := 17) hx hb hts in_M hown hK hP 0 rfl rfl 12 (by decide) (hts _ (List.mem_cons_of_mem _ k_595)) (fun _ h9 => h9) rfl d_M_falseLeads_93 ?_
        refine lv_iload_n hx hb d_M_falseLeads_96 rfl (lv_at hl 3 rfl) ?_
        refine xa_iald (v := nI (ld n mw a (k + 1))) hx hb hK hP 5 0 rfl rfl (by omega) (by decide) (by have h9 := hw75_1 (k + 1) (by omega) (by omega); rw [Nat.zero_add] at h9; exact h9) d_M_falseLeads_97 ?_
        refine lv_iconst (v := nI 1) hx hb d_M_falseLeads_98 (by decide) ?_
        refine xa_iast hx hb hK hP hD hS 3 0 rfl rfl (by have := hla (k + 1) (by omega); omega) (by decide) d_M_falseLeads_99 (fun H locs hP hD hS => ?_)
        have hP : va_P D vwCl [(xM, .inr (6, [.int (nI 0), .int (nI n), .ref xK, .ref xV, .int (nI ln), .ref xC, .ref xH, .int (nI ct), .ref xT, .ref xP, .int (nI lk), .ref xB, .ref xR, .ref xL, .ref xN, .ref xQ, .int (nI rp.toNat)])), (xK, .inl (cI, 24, .inl km)), (xC, .inl (cI, 3, .inl cq)), (xQ, .inl (cI, 720, .inl (upd mq3 (ld n mw a (k + 1)) (nI 1)))), (xB, .inl (cI, 4326, .inl B3)), (xR, .inl (cI, 721, .inl Rk3))] H := hP
        have hD : va_D A [(xM, .inr (6, [.int (nI 0), .int (nI n), .ref xK, .ref xV, .int (nI ln), .ref xC, .ref xH, .int (nI ct), .ref xT, .ref xP, .int (nI lk), .ref xB, .ref xR, .ref xL, .ref xN, .ref xQ, .int (nI rp.toNat)])), (xK, .inl (cI, 24, .inl km)), (xC, .inl (cI, 3, .inl cq)), (xQ, .inl (cI, 720, .inl (upd mq3 (ld n mw a (k + 1)) (nI 1)))), (xB, .inl (cI, 4326, .inl B3)), (xR, .inl (cI, 721, .inl Rk3))] := hD
        refine lv_iinc (k := 3) (v := nI (k + 1 + 1)) hx hb d_M_falseLeads_100 hl rfl (xi_1 _) (by decide) rfl (fun ls hl => ?_)
        have hl : lv_has ls 5 [(3, .int (nI (k + 1 + 1))), (0, .ref xM), (1, .int (nI a)), (2, .int (nI b))] := hl
        refine lv_goto (tgt := 80) hx hb d_M_falseLeads_103 rfl ?_
        have hl : lv_has ls 5 [(0, .ref xM), (1, .int (nI a)), (2, .int (nI b)), (3, .int (nI ((k + 1) + 1)))] := lv_sub hl [1, 2, 3, 0] rfl
        have hP := hP.sub (ws' := [(xM, .inr (6, [.int (nI 0), .int (nI n), .ref xK, .ref xV, .int (nI ln), .ref xC, .ref xH, .int (nI ct), .ref xT, .ref xP, .int (nI lk), .ref xB, .ref xR, .ref xL, .ref xN, .ref xQ, .int (nI rp.toNat)])), (xK, .inl (cI, 24, .inl km)), (xC, .inl (cI, 3, .inl cq)), (xQ, .inl (cI, 720, .inl (upd mq3 (ld n mw a (k + 1)) (nI 1)))), (xB, .inl (cI, 4326, .inl B3)), (xR, .inl (cI, 721, .inl Rk3))]) [0, 1, 2, 3, 4, 5] rfl
        have hD := hD.sub (ws' := [(xM, .inr (6, [.int (nI 0), .int (nI n), .ref xK, .ref xV, .int (nI ln), .ref xC, .ref xH, .int (nI ct), .ref xT, .ref xP, .int (nI lk), .ref xB, .ref xR, .ref xL, .ref xN, .ref xQ, .int (nI rp.toNat)])), (xK, .inl (cI, 24, .inl km)), (xC, .inl (cI, 3, .inl cq)), (xQ, .inl (cI, 720, .inl (upd mq3 (ld n mw a (k + 1)) (nI 1)))), (xB, .inl (cI, 4326, .inl B3)), (xR, .inl (cI, 721, .inl Rk3))]) [0, 1, 2, 3, 4, 5] (by decide) rfl
        exact ih1 (k + 1) (upd mq3 (ld n mw a (k + 1)) (nI 1)) _ _ _ (by omega) ⟨by omega, mkd_s hk2, hl, hP, hD, hS⟩
      refine lv_aload_n hx hb d_M_falseLeads_54 rfl (lv_at hl 0 rfl) ?_
      refine va_get (D := D) (ci := 6) (v := .ref xQ) (C := R_M) (T := F_M) (N := 17) hx hb hts in_M hown hK hP 0 rfl rfl 15 (by decide) (hts _ (List.mem_cons_of_mem _ k_598)) (fun _ h9 => h9) rfl d_M_falseLeads_55 ?_
      refine lv_iload_n hx hb d_M_falseLeads_58 rfl (lv_at hl 3 rfl) ?_
      refine lv_iconst (v := nI 0) hx hb d_M_falseLeads_59 (by decide) ?_
      refine xa_iast hx hb hK hP hD hS 3 0 rfl rfl (by omega) (by decide) d_M_falseLeads_60 (fun H locs hP hD hS => ?_)
      have hP : va_P D vwCl [(xM, .inr (6, [.int (nI 0), .int (nI n), .ref xK, .ref xV, .int (nI ln), .ref xC, .ref xH, .int (nI ct), .ref xT, .ref xP, .int (nI lk), .ref xB, .ref xR, .ref xL, .ref xN, .ref xQ, .int (nI rp.toNat)])), (xK, .inl (cI, 24, .inl km)), (xC, .inl (cI, 3, .inl cq)), (xQ, .inl (cI, 720, .inl (upd mq2 i (nI 0)))), (xB, .inl (cI, 4326, .inl B)), (xR, .inl (cI, 721, .inl Rk))] H := hP
      have hD : va_D A [(xM, .inr (6, [.int (nI 0), .int (nI n), .ref xK, .ref xV, .int (nI ln), .ref xC, .ref xH, .int (nI ct), .ref xT, .ref xP, .int (nI lk), .ref xB, .ref xR, .ref xL, .ref xN, .ref xQ, .int (nI rp.toNat)])), (xK, .inl (cI, 24, .inl km)), (xC, .inl (cI, 3, .inl cq)), (xQ, .inl (cI, 720, .inl (upd mq2 i (nI 0)))), (xB, .inl (cI, 4326, .inl B)), (xR, .inl (cI, 721, .inl Rk))] := hD
      refine lv_iinc (k := 3) (v := nI (i + 1)) hx hb d_M_falseLeads_61 hl rfl (xi_1 _) (by decide) rfl (fun ls hl => ?_)
      have hl : lv_has ls 5 [(3, .int (nI (i + 1))), (0, .ref xM), (1, .int (nI a)), (2, .int (nI b))] := hl
      refine lv_goto (tgt := 47) hx hb d_M_falseLeads_64 rfl ?_
      have hl : lv_has ls 5 [(0, .ref xM), (1, .int (nI a)), (2, .int (nI b)), (3, .int (nI (i + 1)))] := lv_sub hl [1, 2, 3, 0] rfl
      have hP := hP.sub (ws' := [(xM, .inr (6, [.int (nI 0), .int (nI n), .ref xK, .ref xV, .int (nI ln), .ref xC, .ref xH, .int (nI ct), .ref xT, .ref xP, .int (nI lk), .ref xB, .ref xR, .ref xL, .ref xN, .ref xQ, .int (nI rp.toNat)])), (xK, .inl (cI, 24, .inl km)), (xC, .inl (cI, 3, .inl cq)), (xQ, .inl (cI, 720, .inl (upd mq2 i (nI 0)))), (xB, .inl (cI, 4326, .inl B)), (xR, .inl (cI, 721, .inl Rk))]) [0, 1, 2, 3, 4, 5] rfl
      have hD := hD.sub (ws' := [(xM, .inr (6, [.int (nI 0), .int (nI n), .ref xK, .ref xV, .int (nI ln), .ref xC, .ref xH, .int (nI ct), .ref xT, .ref xP, .int (nI lk), .ref xB, .ref xR, .ref xL, .ref xN, .ref xQ, .int (nI rp.toNat)])), (xK, .inl (cI, 24, .inl km)), (xC, .inl (cI, 3, .inl cq)), (xQ, .inl (cI, 720, .inl (upd mq2 i (nI 0)))), (xB, .inl (cI, 4326, .inl B)), (xR, .inl (cI, 721, .inl Rk))]) [0, 1, 2, 3, 4, 5] (by decide) rfl
      exact ih (i + 1) (upd mq2 i (nI 0)) _ _ _ (by omega) ⟨h51, fun j hj => by unfold upd; split; rfl; exact hi2 j (by omega), hl, hP, hD, hS⟩
    exact absurd h25 (by unfold okr; rw [if_neg (nI_pos (by omega)), if_neg (nI_ge hbn (fa_sm n))]; decide)
  exact absurd h5 (by omega)
end
