section
variable {l : Launch} {D : va_G} {cI cZ cJ cG : ClassId} {tF : Nat}
set_option maxHeartbeats 4000000 in
set_option maxRecDepth 100000 in
theorem c_bitCount (b : Nat) (hb6 : b < 64) : CtI l y_Int_bitCount (w_Int_bitCount) ({ frames := 0, cells := 0, slots := 0, locals := 0 }) D vwCl (TYs cI cZ cJ cG) (gG tF) [.int (nI b)] [] 0 0 (fun _ : Unit => []) (fun (r : Int32) (_ : Unit) => r = nI (pc6 b)) := by
  refine CtI.of (cc := b_Int_bitCount) (maxL := 1) (ret := (some .int)) (by decide) rfl (Nat.le_of_ble_eq_true rfl) ?_
  intro p e s m args below meth c A ls hF hA hP hK hD hg hS hl
  obtain ⟨hx, hb, hrt, hlk, hml, hown, hts, hnm⟩ := hF
  have hown : s.vm.findClass R_Int = some m.cls := hown
  have hl : lv_has ls 1 [(0, .int (nI b))] := hl
  refine lv_iload_n hx hb d_Int_bitCount_0 rfl (lv_at hl 0 rfl) ?_
  refine lv_iload_n hx hb d_Int_bitCount_1 rfl (lv_at hl 0 rfl) ?_
  refine lv_iconst (v := nI 1) hx hb d_Int_bitCount_2 (by decide) ?_
  refine lv_iushr (v := nI (b / 2 ^ 1)) hx hb d_Int_bitCount_3 (pk_ushrN (by omega) _ 1 (by decide)) ?_
  refine lv_ldcw (v := 1431655765) hx hb hown (hts _ (List.mem_cons_of_mem _ k_302)) d_Int_bitCount_4 ?_
  refine xn_i (y := nI 1431655765) (by decide) ?_
  refine lv_iand hx hb d_Int_bitCount_7 ?_
  refine xn_i (y := nI (b / 2 ^ 1 &&& 1431655765)) (nx_and _ _) ?_
  refine lv_isub hx hb d_Int_bitCount_8 ?_
  refine xn_i (y := nI (bc1 b)) (xs_bc1 hb6) ?_
  refine lv_istore_n hx hb d_Int_bitCount_9 rfl hl (by decide) rfl (fun ls hl => ?_)
  have hl : lv_has ls 1 [(0, .int (nI (bc1 b)))] := hl
  refine lv_iload_n hx hb d_Int_bitCount_10 rfl (lv_at hl 0 rfl) ?_
  refine lv_ldcw (v := 858993459) hx hb hown (hts _ (List.mem_cons_of_mem _ k_303)) d_Int_bitCount_11 ?_
  refine xn_i (y := nI 858993459) (by decide) ?_
  refine lv_iand hx hb d_Int_bitCount_14 ?_
  refine xn_i (y := nI (bc1 b &&& 858993459)) (nx_and _ _) ?_
  refine lv_iload_n hx hb d_Int_bitCount_15 rfl (lv_at hl 0 rfl) ?_
  refine lv_iconst (v := nI 2) hx hb d_Int_bitCount_16 (by decide) ?_
  refine lv_iushr (v := nI ((bc1 b) / 2 ^ 2)) hx hb d_Int_bitCount_17 (pk_ushrN (by have := bc_lt hb6; omega) _ 2 (by decide)) ?_
  refine lv_ldcw (v := 858993459) hx hb hown (hts _ (List.mem_cons_of_mem _ k_303)) d_Int_bitCount_18 ?_
  refine xn_i (y := nI 858993459) (by decide) ?_
  refine lv_iand hx hb d_Int_bitCount_21 ?_
  refine xn_i (y := nI (bc1 b / 2 ^ 2 &&& 858993459)) (nx_and _ _) ?_
  refine lv_iadd hx hb d_Int_bitCount_22 ?_
  refine xn_i (y := nI (bc2 b)) (nI_add _ _) ?_
  refine lv_istore_n hx hb d_Int_bitCount_23 rfl hl (by decide) rfl (fun ls hl => ?_)
  have hl : lv_has ls 1 [(0, .int (nI (bc2 b)))] := hl
  refine lv_iload_n hx hb d_Int_bitCount_24 rfl (lv_at hl 0 rfl) ?_
  refine lv_iload_n hx hb d_Int_bitCount_25 rfl (lv_at hl 0 rfl) ?_
  refine lv_iconst (v := nI 4) hx hb d_Int_bitCount_26 (by decide) ?_
  refine lv_iushr (v := nI ((bc2 b) / 2 ^ 4)) hx hb d_Int_bitCount_27 (pk_ushrN (by have := bc_lt hb6; omega) _ 4 (by decide)) ?_
  refine lv_iadd hx hb d_Int_bitCount_28 ?_
  refine xn_i (y := nI (bc2 b + bc2 b / 2 ^ 4)) (nI_add _ _) ?_
  refine lv_ldcw (v := 252645135) hx hb hown (hts _ (List.mem_cons_of_mem _ k_304)) d_Int_bitCount_29 ?_
  refine xn_i (y := nI 252645135) (by decide) ?_
  refine lv_iand hx hb d_Int_bitCount_32 ?_
  refine xn_i (y := nI (bc3 b)) (nx_and _ _) ?_
  refine lv_istore_n hx hb d_Int_bitCount_33 rfl hl (by decide) rfl (fun ls hl => ?_)
  have hl : lv_has ls 1 [(0, .int (nI (bc3 b)))] := hl
  refine lv_iload_n hx hb d_Int_bitCount_34 rfl (lv_at hl 0 rfl) ?_
  refine lv_iload_n hx hb d_Int_bitCount_35 rfl (lv_at hl 0 rfl) ?_
  refine lv_bipush (v := nI 8) hx hb d_Int_bitCount_36 (by decide) ?_
  refine lv_iushr (v := nI ((bc3 b) / 2 ^ 8)) hx hb d_Int_bitCount_38 (pk_ushrN (by have := bc_lt hb6; omega) _ 8 (by decide)) ?_
  refine lv_iadd hx hb d_Int_bitCount_39 ?_
  refine xn_i (y := nI (bc4 b)) (nI_add _ _) ?_
  refine lv_istore_n hx hb d_Int_bitCount_40 rfl hl (by decide) rfl (fun ls hl => ?_)
  have hl : lv_has ls 1 [(0, .int (nI (bc4 b)))] := hl
  refine lv_iload_n hx hb d_Int_bitCount_41 rfl (lv_at hl 0 rfl) ?_
  refine lv_iload_n hx hb d_Int_bitCount_42 rfl (lv_at hl 0 rfl) ?_
  refine lv_bipush (v := nI 16) hx hb d_Int_bitCount_43 (by decide) ?_
  refine lv_iushr (v := nI ((bc4 b) / 2 ^ 16)) hx hb d_Int_bitCount_45 (pk_ushrN (by have := bc_lt hb6; omega) _ 16 (by decide)) ?_
  refine lv_iadd hx hb d_Int_bitCount_46 ?_
  refine xn_i (y := nI (bc5 b)) (nI_add _ _) ?_
  refine lv_istore_n hx hb d_Int_bitCount_47 rfl hl (by decide) rfl (fun ls hl => ?_)
  have hl : lv_has ls 1 [(0, .int (nI (bc5 b)))] := hl
  refine lv_iload_n hx hb d_Int_bitCount_48 rfl (lv_at hl 0 rfl) ?_
  refine lv_bipush (v := nI 63) hx hb d_Int_bitCount_49 (by decide) ?_
  refine lv_iand hx hb d_Int_bitCount_51 ?_
  refine xn_i (y := nI (bc5 b &&& 63)) (nx_and _ _) ?_
  exact xr_i hx hb hrt hlk rfl hP hD hS () [] (by decide) rfl (by rw [xs_bc5 hb6]) d_Int_bitCount_52
end
