/-! what ties the class's cells to the reference's -/
def MREL (n : Nat) (mk km gv : Nat → Int32) : Prop := ∀ j, j < 24 → (gv j = nI 1 ∧ mk j = km j ∧ okm n (mk j) = true) ∨ (gv j = nI 0 ∧ mk j = (-1))
def CRE1 (n : Nat) (b q h : Int32) : Prop := (h = nI 1 ∧ b = q ∧ okm n b = true) ∨ (h = nI 0 ∧ b = (-1))
def kok (b1 b2 : Int32) (kd : Nat) : Prop := kd ≤ 2 ∧ (kd = 1 → b1 ≠ (-1)) ∧ (kd = 2 → b2 ≠ (-1))
def TRE (b1 b2 : Int32) (ct : Nat) (tq xtq : Nat → Int32) : Prop := ∀ a, a < ct → tq a = xtq a ∧ ∃ kd, tq a = nI kd ∧ kok b1 b2 kd
def PREL (g0 g1 g2 g3 pq : Nat → Int32) : Prop := ∀ j, j < 6 → g0 j = pq j ∧ g1 j = pq (6 + j) ∧ g2 j = pq (12 + j) ∧ g3 j = pq (18 + j)
def LREL (n ln ct : Nat) (mk : Nat → Int32) (b1 b2 : Int32) (tq g0 g1 g2 g3 : Nat → Int32) (z : Nat) (R : Nat → Nat) (rk nu km gv cq hcq xtq pq : Nat → Int32) : Prop :=
  nb n ∧ ln ≤ 24 ∧ ct ≤ 30 ∧ (0 < ct → 1 ≤ ln) ∧ MREL n mk km gv ∧ (∀ j, j < ln → gv j = nI 1) ∧ CRE1 n b1 (cq 1) (hcq 1) ∧ CRE1 n b2 (cq 2) (hcq 2) ∧ (hcq 0 = nI 0 ∨ hcq 0 = nI 1) ∧ TRE b1 b2 ct tq xtq ∧ PREL g0 g1 g2 g3 pq ∧ si z R rk nu
def MTf (ln : Nat) (mk : Nat → Int32) (b1 b2 : Int32) (kd j : Nat) : Nat := (mkf ln mk b1 b2 kd j).toNatClampNeg
def TTf (tq : Nat → Int32) (a : Nat) : Nat := (tq a).toNatClampNeg
def HCf (ln : Nat) (b1 b2 : Int32) (kd : Nat) : Bool := hcl ln b1 b2 (nI kd)
theorem okm_nat {n : Nat} {x : Int32} (hn : nb n) (h : okm n x = true) : x = nI x.toNatClampNeg ∧ gd n x.toNatClampNeg = true ∧ x ≠ (-1) := by
  unfold okm at h
  by_cases h0 : x < 0
  · rw [if_pos h0] at h; cases h
  rw [if_neg h0] at h
  by_cases h1 : nI (2 ^ n) ≤ x
  · rw [if_pos h1] at h; cases h
  rw [if_neg h1] at h
  obtain ⟨w, hw, e⟩ := okm_of hn h0 h1
  have h2 := (two_n hn).1
  refine ⟨?_, h, fun q => h0 (by rw [q]; decide)⟩
  rw [e, nI_clamp (by omega)]
theorem n01 : nI 1 ≠ nI 0 := by decide
theorem c1iff {n : Nat} {b q h : Int32} (hn : nb n) (c : CRE1 n b q h) : (b ≠ (-1) ↔ h = nI 1) := by
  rcases c with ⟨a1, a2, a3⟩ | ⟨a1, a2⟩
  · exact ⟨fun _ => a1, fun _ => (okm_nat hn a3).2.2⟩
  · exact ⟨fun q => absurd a2 q, fun q => absurd (q.symm.trans a1) n01⟩
theorem c1ok {n : Nat} {b q h : Int32} (c : CRE1 n b q h) (hb : b ≠ (-1)) : b = q ∧ okm n b = true := by
  rcases c with ⟨a1, a2, a3⟩ | ⟨a1, a2⟩
  · exact ⟨a2, a3⟩
  · exact absurd a2 hb
section LRS
variable {n ln ct : Nat} {mk : Nat → Int32} {b1 b2 : Int32} {tq g0 g1 g2 g3 : Nat → Int32} {z : Nat} {R : Nat → Nat} {rk nu km gv cq hcq xtq pq : Nat → Int32}
theorem mk_ok (h : LREL n ln ct mk b1 b2 tq g0 g1 g2 g3 z R rk nu km gv cq hcq xtq pq) {j : Nat} (hj : j < ln) : mk j = km j ∧ okm n (mk j) = true := by
  obtain ⟨hn, hl, -, -, hm, hg, -⟩ := h
  rcases hm j (by omega) with q | q
  · exact ⟨q.2.1, q.2.2⟩
  · exact absurd ((hg j hj).symm.trans q.1) n01
theorem mkf_ok (h : LREL n ln ct mk b1 b2 tq g0 g1 g2 g3 z R rk nu km gv cq hcq xtq pq) {kd j : Nat} (hk : kok b1 b2 kd) (hj : j < ln) : okm n (mkf ln mk b1 b2 kd j) = true ∧ (if 0 < kd ∧ j = ln - 1 then cq kd else km j) = mkf ln mk b1 b2 kd j := by
  have hm := mk_ok h hj
  obtain ⟨hn, hl, -, -, -, hg, hc1, hc2, -⟩ := h
  obtain ⟨k1, k2, k3⟩ := hk
  unfold mkf
  by_cases e0 : kd = 0
  · rw [if_pos e0, if_neg (by omega)]; exact ⟨hm.2, hm.1.symm⟩
  rw [if_neg e0]
  by_cases e1 : j = ln - 1
  · rw [if_pos e1, if_pos (show 0 < kd ∧ j = ln - 1 from ⟨by omega, e1⟩)]
    by_cases e2 : kd = 1
    · rw [if_pos e2]
      have q := c1ok hc1 (k2 e2)
      exact ⟨q.2, by rw [e2]; exact q.1.symm⟩
    · rw [if_neg e2]
      have e3 : kd = 2 := by omega
      have q := c1ok hc2 (k3 e3)
      exact ⟨q.2, by rw [e3]; exact q.1.symm⟩
  · rw [if_neg e1, if_neg (fun q => e1 q.2)]; exact ⟨hm.2, hm.1.symm⟩
theorem MT_w (h : LREL n ln ct mk b1 b2 tq g0 g1 g2 g3 z R rk nu km gv cq hcq xtq pq) {kd : Nat} (hk : kok b1 b2 kd) : gmw n ln mk b1 b2 kd (MTf ln mk b1 b2 kd) := fun j hj => by
  have q := okm_nat h.1 (mkf_ok h hk hj).1
  exact ⟨q.1, q.2.1⟩
theorem MT_r (h : LREL n ln ct mk b1 b2 tq g0 g1 g2 g3 z R rk nu km gv cq hcq xtq pq) {kd : Nat} (hk : kok b1 b2 kd) : gmr n ln km cq kd (MTf ln mk b1 b2 kd) := fun j hj => by
  have q := okm_nat h.1 (mkf_ok h hk hj).1
  exact ⟨(mkf_ok h hk hj).2.trans q.1, q.2.1⟩
theorem kok0 : kok b1 b2 0 := ⟨by decide, fun h => absurd h (by decide), fun h => absurd h (by decide)⟩
theorem TT_k (h : LREL n ln ct mk b1 b2 tq g0 g1 g2 g3 z R rk nu km gv cq hcq xtq pq) {a : Nat} (ha : a < ct) : tq a = nI (TTf tq a) ∧ xtq a = nI (TTf tq a) ∧ kok b1 b2 (TTf tq a) := by
  obtain ⟨e, kd, e2, hk⟩ := h.2.2.2.2.2.2.2.2.2.1 a ha
  have e3 : TTf tq a = kd := by unfold TTf; rw [e2]; exact nI_clamp (by have := hk.1; omega)
  rw [e3]
  exact ⟨e2, e ▸ e2, hk⟩
theorem TT_w (h : LREL n ln ct mk b1 b2 tq g0 g1 g2 g3 z R rk nu km gv cq hcq xtq pq) : ∀ a, a < ct → tq a = nI (TTf tq a) ∧ TTf tq a ≤ 2 ∧ gmw n ln mk b1 b2 (TTf tq a) (MTf ln mk b1 b2 (TTf tq a)) := fun a ha => by
  obtain ⟨q1, -, q3⟩ := TT_k h ha
  exact ⟨q1, q3.1, MT_w h q3⟩
theorem TT_r (h : LREL n ln ct mk b1 b2 tq g0 g1 g2 g3 z R rk nu km gv cq hcq xtq pq) : ∀ a, a < ct → xtq a = nI (TTf tq a) ∧ TTf tq a ≤ 2 ∧ gmr n ln km cq (TTf tq a) (MTf ln mk b1 b2 (TTf tq a)) := fun a ha => by
  obtain ⟨-, q2, q3⟩ := TT_k h ha
  exact ⟨q2, q3.1, MT_r h q3⟩
theorem RW_lt (h : LREL n ln ct mk b1 b2 tq g0 g1 g2 g3 z R rk nu km gv cq hcq xtq pq) : ∀ i, i ≤ ct * ln → Rw n ln (MTf ln mk b1 b2) (TTf tq) i < fa n
  | 0, _ => fa_pos n
  | i + 1, hi => by
    have h0 : 0 < ln := by
      rcases Nat.eq_zero_or_pos ln with e | e
      · rw [e, Nat.mul_zero] at hi; omega
      · exact e
    have h1 : i / ln < ct := (Nat.div_lt_iff_lt_mul h0).mpr hi
    have h2 : i % ln < ln := Nat.mod_lt _ h0
    rw [Rw_s]
    exact ch_lt h.1 ((TT_w h (i / ln) h1).2.2 (i % ln) h2).2 (RW_lt h i (by omega))
theorem hc_eq (h : LREL n ln ct mk b1 b2 tq g0 g1 g2 g3 z R rk nu km gv cq hcq xtq pq) (hl : 1 ≤ ln) (x : Int32) : hcl ln b1 b2 x = hcr hcq x := by
  have q1 := c1iff h.1 h.2.2.2.2.2.2.1
  have q2 := c1iff h.1 h.2.2.2.2.2.2.2.1
  unfold hcl hcr
  refine decide_eq_decide.mpr ?_
  rw [q1, q2]
  constructor
  · rintro (⟨a, -⟩ | a | a)
    · exact Or.inl a
    · exact Or.inr (Or.inl a)
    · exact Or.inr (Or.inr a)
  · rintro (a | a | a)
    · exact Or.inl ⟨a, by omega⟩
    · exact Or.inr (Or.inl a)
    · exact Or.inr (Or.inr a)
theorem hcl_of {x : Int32} (h : hcl ln b1 b2 x = true) : ∃ kd, x = nI kd ∧ kok b1 b2 kd := by
  rcases of_decide_eq_true h with ⟨a, -⟩ | ⟨a, q⟩ | ⟨a, q⟩
  · exact ⟨0, a, kok0⟩
  · exact ⟨1, a, by decide, fun _ => q, fun e => absurd e (by decide)⟩
  · exact ⟨2, a, by decide, fun e => absurd e (by decide), fun _ => q⟩
theorem HC_k {kd : Nat} (hk : kd ≤ 2) (h : HCf ln b1 b2 kd = true) : kok b1 b2 kd := by
  obtain ⟨k, e, q⟩ := hcl_of h
  have e2 := (nI_eq (by omega) (by have := q.1; omega)).mp e
  rw [e2]; exact q
theorem hz_of (h : LREL n ln ct mk b1 b2 tq g0 g1 g2 g3 z R rk nu km gv cq hcq xtq pq) : ∀ j, j < 3 → hcq j = nI 0 ∨ hcq j = nI 1 := fun j hj => by
  obtain ⟨-, -, -, -, -, -, c1, c2, c0, -⟩ := h
  match j, hj with
  | 0, _ => exact c0
  | 1, _ => exact c1.elim (fun q => Or.inr q.1) (fun q => Or.inl q.1)
  | 2, _ => exact c2.elim (fun q => Or.inr q.1) (fun q => Or.inl q.1)
  | k + 3, hk => exact absurd hk (by omega)
theorem gz_of (h : LREL n ln ct mk b1 b2 tq g0 g1 g2 g3 z R rk nu km gv cq hcq xtq pq) : ∀ j, j < 24 → gv j = nI 0 ∨ gv j = nI 1 := fun j hj => (h.2.2.2.2.1 j hj).elim (fun q => Or.inr q.1) (fun q => Or.inl q.1)
theorem th_eq (h : LREL n ln ct mk b1 b2 tq g0 g1 g2 g3 z R rk nu km gv cq hcq xtq pq) (x : Int32) : thas xtq ct x = thas tq ct x := by
  unfold thas
  refine decide_eq_decide.mpr ⟨?_, ?_⟩
  · rintro ⟨j, hj, e⟩; exact ⟨j, hj, (h.2.2.2.2.2.2.2.2.2.1 j hj).1.trans e⟩
  · rintro ⟨j, hj, e⟩; exact ⟨j, hj, (h.2.2.2.2.2.2.2.2.2.1 j hj).1.symm.trans e⟩
theorem cn_eq (h : LREL n ln ct mk b1 b2 tq g0 g1 g2 g3 z R rk nu km gv cq hcq xtq pq) (x y : Int32) : cnk xtq ct n x y = cnk tq ct n x y := by
  unfold cnk; rw [th_eq h]
theorem ch_eq (h : LREL n ln ct mk b1 b2 tq g0 g1 g2 g3 z R rk nu km gv cq hcq xtq pq) (x y : Int32) : chk (hcr hcq y) ct x = chk (hcl ln b1 b2 y) ct x := by
  rcases Nat.eq_zero_or_pos ct with e | e
  · unfold chk
    rw [e]
    by_cases q : x < 0
    · rw [if_pos q, if_pos q]
    · rw [if_neg q, if_neg q, if_pos (by rw [nI_0]; exact Int32.not_lt.mp q), if_pos (by rw [nI_0]; exact Int32.not_lt.mp q)]
  · rw [hc_eq h (h.2.2.2.1 e)]
theorem cnk_of {x y : Int32} (h : cnk tq ct n x y = true) : ∃ kd, 1 ≤ kd ∧ kd ≤ 2 ∧ x = nI kd ∧ okm n y = true ∧ thas tq ct (nI kd) = false := by
  unfold cnk at h
  by_cases q : x = nI 1 ∨ x = nI 2
  · rw [if_pos q] at h
    by_cases q2 : okm n y = true
    · rw [if_pos q2] at h
      have q3 : thas tq ct x = false := by cases e : thas tq ct x with | false => rfl | true => rw [e] at h; cases h
      rcases q with e | e
      · exact ⟨1, by decide, by decide, e, q2, e ▸ q3⟩
      · exact ⟨2, by decide, by decide, e, q2, e ▸ q3⟩
    · rw [if_neg q2] at h; cases h
  · rw [if_neg q] at h; cases h
theorem ck_of {hc : Bool} {x : Int32} (hct : ct ≤ 30) (h : chk hc ct x = true) : ∃ i, i < ct ∧ x = nI i ∧ hc = true := by
  unfold chk at h
  by_cases h0 : x < 0
  · rw [if_pos h0] at h; cases h
  rw [if_neg h0] at h
  by_cases h1 : nI ct ≤ x
  · rw [if_pos h1] at h; cases h
  rw [if_neg h1] at h
  obtain ⟨i, hi, e⟩ := xi_of (by omega) h0 h1
  exact ⟨i, hi, e, h⟩
theorem kp_of {x : Int32} {N : Nat} (hN : N < 100000) (h : kpk N x = true) : ∃ i, i ≤ N ∧ x = nI i := by
  unfold kpk at h
  by_cases h0 : x < 0
  · rw [if_pos h0] at h; cases h
  rw [if_neg h0] at h
  by_cases h1 : nI N < x
  · rw [if_pos h1] at h; cases h
  have h2 : ¬ nI (N + 1) ≤ x := fun q => h1 (Int32.lt_of_lt_of_le (nI_lt (Nat.lt_succ_self N) (by omega)) q)
  obtain ⟨i, hi, e⟩ := xi_of (by omega) h0 h2
  exact ⟨i, by omega, e⟩
theorem nt_of {x y : Int32} (h : ntk ln n x y = true) : ln = 0 ∧ ∃ i, i < 24 ∧ x = nI i ∧ okm n y = true := by
  unfold ntk at h
  by_cases h9 : 0 < ln
  · rw [if_pos h9] at h; cases h
  rw [if_neg h9] at h
  by_cases h0 : x < 0
  · rw [if_pos h0] at h; cases h
  rw [if_neg h0] at h
  by_cases h1 : nI 24 ≤ x
  · rw [if_pos h1] at h; cases h
  rw [if_neg h1] at h
  obtain ⟨i, hi, e⟩ := xi_of (by decide) h0 h1
  exact ⟨by omega, i, hi, e, h⟩
theorem be_of {x y : Int32} {N : Nat} (hn : nb n) (hN : N < 100000) (h : bek N n x y = true) : ∃ i q, i ≤ N ∧ q < n ∧ x = nI i ∧ y = nI (q + 1) := by
  unfold bek at h
  by_cases h0 : x < 0
  · rw [if_pos h0] at h; cases h
  rw [if_neg h0] at h
  by_cases h1 : nI N < x
  · rw [if_pos h1] at h; cases h
  rw [if_neg h1] at h
  obtain ⟨i, hi, e⟩ := kp_of hN (show kpk N x = true by unfold kpk; rw [if_neg h0, if_neg h1])
  obtain ⟨q, hq, e2⟩ := okl_of hn h
  exact ⟨i, q, hi, hq, e, e2⟩
theorem ur_of {x y : Int32} (hn : nb n) (h : urk n x y = true) : ∃ k q, k < fa n ∧ q < n ∧ x = nI k ∧ y = nI (q + 1) := by
  unfold urk at h
  by_cases h0 : okr n x = true
  · rw [if_pos h0] at h
    obtain ⟨k, hk, e⟩ := okr_of h0
    obtain ⟨q, hq, e2⟩ := okl_of hn h
    exact ⟨k, q, hk, hq, e, e2⟩
  · rw [if_neg h0] at h; cases h
theorem op_of {x : Int32} (h : okp x = true) : ∃ w, w < 4 ∧ x = nI w := by
  unfold okp at h
  by_cases h0 : x < 0
  · rw [if_pos h0] at h; cases h
  rw [if_neg h0] at h
  by_cases h1 : nI 4 ≤ x
  · rw [if_pos h1] at h; cases h
  exact xi_of (by decide) h0 h1
theorem pt_of {x y v : Int32} (hn : nb n) (h : ptk n x y v = true) : ∃ w q b, w < 4 ∧ q < n ∧ b ≤ n ∧ x = nI w ∧ y = nI (q + 1) ∧ v = nI b := by
  unfold ptk at h
  by_cases h0 : okp x = true
  · rw [if_pos h0] at h
    by_cases h1 : okl n y = true
    · rw [if_pos h1] at h
      obtain ⟨w, hw, e⟩ := op_of h0
      obtain ⟨q, hq, e2⟩ := okl_of hn h1
      have hn6 : n ≤ 6 := hn.2
      obtain ⟨b, hb, e3⟩ := kp_of (N := n) (x := v) (by omega) (show kpk n v = true from h)
      exact ⟨w, q, b, hw, hq, hb, e, e2, e3⟩
    · rw [if_neg h1] at h; cases h
  · rw [if_neg h0] at h; cases h
theorem rr_of {x y : Int32} (h : (okr n x && okr n y) = true) : ∃ a b, a < fa n ∧ b < fa n ∧ x = nI a ∧ y = nI b := by
  rw [Bool.and_eq_true] at h
  obtain ⟨a, ha, e⟩ := okr_of h.1
  obtain ⟨b, hb, e2⟩ := okr_of h.2
  exact ⟨a, b, ha, hb, e, e2⟩
theorem do_of (h : LREL n ln ct mk b1 b2 tq g0 g1 g2 g3 z R rk nu km gv cq hcq xtq pq) {x : Int32} (hd : dok mk x = true) : ∃ len, 1 ≤ len ∧ len ≤ 24 ∧ x = nI len ∧ hfm mk len = true ∧ (∀ j, j < len → gv j = nI 1) ∧ (∀ j, j < len → mk j = nI (MTf len mk b1 b2 0 j) ∧ gd n (MTf len mk b1 b2 0 j) = true) ∧ (∀ j, j < len → km j = nI (MTf len mk b1 b2 0 j) ∧ gd n (MTf len mk b1 b2 0 j) = true) := by
  unfold dok at hd
  by_cases h0 : x < nI 1
  · rw [if_pos h0] at hd; cases hd
  rw [if_neg h0] at hd
  by_cases h1 : nI 24 < x
  · rw [if_pos h1] at hd; cases hd
  rw [if_neg h1] at hd
  obtain ⟨len, hl1, hl2, e⟩ := dok_of h0 h1
  rw [e, nI_clamp (by omega)] at hd
  have hd2 := of_decide_eq_true hd
  have hal : ∀ j, j < len → gv j = nI 1 ∧ mk j = km j ∧ okm n (mk j) = true := fun j hj => (h.2.2.2.2.1 j (by omega)).elim id (fun q => absurd q.2 (hd2 j hj))
  have hmm : ∀ j, MTf len mk b1 b2 0 j = (mk j).toNatClampNeg := fun j => by unfold MTf mkf; rw [if_pos rfl]
  refine ⟨len, hl1, hl2, e, hd, fun j hj => (hal j hj).1, fun j hj => ?_, fun j hj => ?_⟩
  · have q := okm_nat h.1 (hal j hj).2.2
    rw [hmm]; exact ⟨q.1, q.2.1⟩
  · have q := okm_nat h.1 (hal j hj).2.2
    rw [hmm]; exact ⟨(hal j hj).2.1.symm.trans q.1, q.2.1⟩
theorem dg_no (h : LREL n ln ct mk b1 b2 tq g0 g1 g2 g3 z R rk nu km gv cq hcq xtq pq) {x : Int32} (hd : dok mk x = false) : ¬ dgv gv x := by
  rintro ⟨len, hl1, hl2, e, hg⟩
  have : dok mk x = true := by
    unfold dok
    rw [e, if_neg (nI_nlt hl1 (by omega)), if_neg (nI_nlt hl2 (by decide)), nI_clamp (by omega)]
    refine decide_eq_true fun j hj => ?_
    rcases h.2.2.2.2.1 j (by omega) with q | q
    · exact (okm_nat h.1 q.2.2).2.2
    · exact absurd ((hg j hj).symm.trans q.1) n01
  rw [this] at hd; cases hd
theorem mu_eq (h : LREL n ln ct mk b1 b2 tq g0 g1 g2 g3 z R rk nu km gv cq hcq xtq pq) {g : Nat → Int32} {w : Nat} (hg : ∀ j, j < 6 → g j = pq (6 * w + j)) (RR : Nat → Nat) (N : Nat) : cnt (mtR n RR (fun p => pq (6 * w + p))) N = cnt (mtR n RR g) N := by
  have hn6 : n ≤ 6 := h.1.2
  have e : mtR n RR (fun p => pq (6 * w + p)) = mtR n RR g := funext fun i => by
    unfold mtR mtc
    refine decide_eq_decide.mpr ⟨fun q p hp => ?_, fun q p hp => ?_⟩
    · rw [hg p (by omega)]; exact q p hp
    · have := q p hp; rw [hg p (by omega)] at this; exact this
  rw [e]
end LRS
section LRP
variable {n ln ct : Nat} {mk : Nat → Int32} {b1 b2 : Int32} {tq g0 g1 g2 g3 : Nat → Int32} {z : Nat} {R : Nat → Nat} {rk nu km gv cq hcq xtq pq : Nat → Int32}
theorem LR_bells {n2 : Nat} {mk2 h0 h1 h2 h3 gv2 pq2 hc2 : Nat → Int32} (hn2 : nb n2) (hmk : ∀ j, j < 24 → mk2 j = (-1)) (q0 : z6 h0) (q1 : z6 h1) (q2 : z6 h2) (q3 : z6 h3) (hgv : ∀ j, j < 24 → gv2 j = nI 0) (hpq : ∀ j, j < 24 → pq2 j = nI 0) (hhc : ∀ j, j < 3 → hc2 j = nI 0) (hs : si z R rk nu) :
    LREL n2 0 0 mk2 (-1) (-1) tq h0 h1 h2 h3 z R rk nu km gv2 cq hc2 xtq pq2 :=
  ⟨hn2, by decide, by decide, fun h => absurd h (by decide), fun j hj => Or.inr ⟨hgv j hj, hmk j hj⟩, fun j hj => absurd hj (Nat.not_lt_zero j), Or.inr ⟨hhc 1 (by decide), rfl⟩, Or.inr ⟨hhc 2 (by decide), rfl⟩, Or.inl (hhc 0 (by decide)), fun a ha => absurd ha (Nat.not_lt_zero a),
    fun j hj => ⟨by rw [q0 j hj, hpq j (by omega)], by rw [q1 j hj, hpq (6 + j) (by omega)], by rw [q2 j hj, hpq (12 + j) (by omega)], by rw [q3 j hj, hpq (18 + j) (by omega)]⟩, hs⟩
theorem LR_not (h : LREL n ln ct mk b1 b2 tq g0 g1 g2 g3 z R rk nu km gv cq hcq xtq pq) (hl : ln = 0) {i : Nat} {y : Int32} (hok : okm n y = true) :
    LREL n ln ct (upd mk i y) b1 b2 tq g0 g1 g2 g3 z R rk nu (upd km i y) (upd gv i (nI 1)) cq hcq xtq pq := by
  obtain ⟨a1, a2, a3, a4, a5, a6, a7⟩ := h
  refine ⟨a1, a2, a3, a4, fun j hj => ?_, fun j hj => absurd hj (by omega), a7⟩
  by_cases e : j = i
  · rw [e, pk_us, pk_us, pk_us]; exact Or.inl ⟨rfl, rfl, hok⟩
  · rw [pk_un e, pk_un e, pk_un e]; exact a5 j hj
theorem LR_cn (h : LREL n ln ct mk b1 b2 tq g0 g1 g2 g3 z R rk nu km gv cq hcq xtq pq) {kd : Nat} {y : Int32} (hk1 : 1 ≤ kd) (hk2 : kd ≤ 2) (hok : okm n y = true) :
    LREL n ln ct mk (if kd = 1 then y else b1) (if kd = 1 then b2 else y) tq g0 g1 g2 g3 z R rk nu km gv (upd cq kd y) (upd hcq kd (nI 1)) xtq pq := by
  obtain ⟨a1, a2, a3, a4, a5, a6, c1, c2, c0, t, pr⟩ := h
  have hy := (okm_nat a1 hok).2.2
  rcases (show kd = 1 ∨ kd = 2 by omega) with e | e
  · subst e
    rw [if_pos rfl, if_pos rfl]
    refine ⟨a1, a2, a3, a4, a5, a6, Or.inl ⟨pk_us, pk_us.symm, hok⟩, by rw [pk_un (by decide), pk_un (by decide)]; exact c2, by rw [pk_un (by decide)]; exact c0, fun a ha => ?_, pr⟩
    obtain ⟨q1, k, q2, q3, q4, q5⟩ := t a ha
    exact ⟨q1, k, q2, q3, fun _ => hy, q5⟩
  · subst e
    rw [if_neg (by decide), if_neg (by decide)]
    refine ⟨a1, a2, a3, a4, a5, a6, by rw [pk_un (by decide), pk_un (by decide)]; exact c1, Or.inl ⟨pk_us, pk_us.symm, hok⟩, by rw [pk_un (by decide)]; exact c0, fun a ha => ?_, pr⟩
    obtain ⟨q1, k, q2, q3, q4, q5⟩ := t a ha
    exact ⟨q1, k, q2, q3, q4, fun _ => hy⟩
theorem LR_def (h : LREL n 0 ct mk b1 b2 tq g0 g1 g2 g3 z R rk nu km gv cq hcq xtq pq) {len : Nat} {d : Bool} (hl1 : 1 ≤ len) (hl2 : len ≤ 24) (hg : ∀ j, j < len → gv j = nI 1) :
    LREL n (if d then len else 0) ct mk b1 b2 tq g0 g1 g2 g3 z R rk nu km gv cq hcq xtq pq := by
  cases d with
  | false => exact h
  | true =>
    obtain ⟨a1, a2, a3, a4, a5, a6, a7⟩ := h
    exact ⟨a1, hl2, a3, fun _ => hl1, a5, hg, a7⟩
theorem LR_call (h : LREL n ln ct mk b1 b2 tq g0 g1 g2 g3 z R rk nu km gv cq hcq xtq pq) {x : Int32} (hl : 1 ≤ ln) (hct : ct < 30) (hok : hcl ln b1 b2 x = true) :
    LREL n ln (ct + 1) mk b1 b2 (upd tq ct x) g0 g1 g2 g3 z R rk nu km gv cq hcq (upd xtq ct x) pq := by
  obtain ⟨a1, a2, a3, a4, a5, a6, c1, c2, c0, t, pr⟩ := h
  refine ⟨a1, a2, hct, fun _ => hl, a5, a6, c1, c2, c0, fun a ha => ?_, pr⟩
  by_cases e : a = ct
  · rw [e, pk_us, pk_us]; exact ⟨rfl, hcl_of hok⟩
  · rw [pk_un e, pk_un e]; exact t a (by omega)
theorem LR_chg (h : LREL n ln ct mk b1 b2 tq g0 g1 g2 g3 z R rk nu km gv cq hcq xtq pq) {i : Nat} {x : Int32} (hok : hcl ln b1 b2 x = true) :
    LREL n ln ct mk b1 b2 (upd tq i x) g0 g1 g2 g3 z R rk nu km gv cq hcq (upd xtq i x) pq := by
  obtain ⟨a1, a2, a3, a4, a5, a6, c1, c2, c0, t, pr⟩ := h
  refine ⟨a1, a2, a3, a4, a5, a6, c1, c2, c0, fun a ha => ?_, pr⟩
  by_cases e : a = i
  · rw [e, pk_us, pk_us]; exact ⟨rfl, hcl_of hok⟩
  · rw [pk_un e, pk_un e]; exact t a ha
theorem LR_keep (h : LREL n ln ct mk b1 b2 tq g0 g1 g2 g3 z R rk nu km gv cq hcq xtq pq) {i : Nat} (hi : i ≤ ct) :
    LREL n ln i mk b1 b2 tq g0 g1 g2 g3 z R rk nu km gv cq hcq xtq pq := by
  obtain ⟨a1, a2, a3, a4, a5, a6, c1, c2, c0, t, pr⟩ := h
  exact ⟨a1, a2, by omega, fun q => a4 (by omega), a5, a6, c1, c2, c0, fun a ha => t a (by omega), pr⟩
theorem LR_pat (h : LREL n ln ct mk b1 b2 tq g0 g1 g2 g3 z R rk nu km gv cq hcq xtq pq) {w q : Nat} {v : Int32} (hw : w < 4) (hq : q < n) :
    LREL n ln ct mk b1 b2 tq (if w = 0 then upd g0 q v else g0) (if w = 1 then upd g1 q v else g1) (if w = 2 then upd g2 q v else g2) (if w = 3 then upd g3 q v else g3) z R rk nu km gv cq hcq xtq (upd pq (6 * w + q) v) := by
  obtain ⟨a1, a2, a3, a4, a5, a6, c1, c2, c0, t, pr, hs⟩ := h
  have hn6 : n ≤ 6 := a1.2
  refine ⟨a1, a2, a3, a4, a5, a6, c1, c2, c0, t, fun j hj => ?_, hs⟩
  obtain ⟨p0, p1, p2, p3⟩ := pr j hj
  have go : ∀ (k : Nat) (g : Nat → Int32), g j = pq (6 * k + j) → (if w = k then upd g q v else g) j = upd pq (6 * w + q) v (6 * k + j) := fun k g e => by
    by_cases ew : w = k
    · rw [if_pos ew]
      by_cases ej : j = q
      · rw [ej, pk_us, ew, pk_us]
      · rw [pk_un ej, pk_un (by omega)]; exact e
    · rw [if_neg ew, pk_un (by omega)]; exact e
  have r0 := go 0 g0 (by rw [Nat.mul_zero, Nat.zero_add]; exact p0)
  have r1 := go 1 g1 (by rw [Nat.mul_one]; exact p1)
  have r2 := go 2 g2 p2
  have r3 := go 3 g3 p3
  rw [Nat.mul_zero, Nat.zero_add] at r0
  rw [Nat.mul_one] at r1
  exact ⟨r0, r1, r2, r3⟩
theorem LR_si (h : LREL n ln ct mk b1 b2 tq g0 g1 g2 g3 z R rk nu km gv cq hcq xtq pq) {z2 : Nat} {R2 : Nat → Nat} {rk2 nu2 : Nat → Int32} (hs : si z2 R2 rk2 nu2) :
    LREL n ln ct mk b1 b2 tq g0 g1 g2 g3 z2 R2 rk2 nu2 km gv cq hcq xtq pq := by
  obtain ⟨a1, a2, a3, a4, a5, a6, c1, c2, c0, t, pr, -⟩ := h
  exact ⟨a1, a2, a3, a4, a5, a6, c1, c2, c0, t, pr, hs⟩
theorem LR_sr (h : LREL n ln ct mk b1 b2 tq g0 g1 g2 g3 z R rk nu km gv cq hcq xtq pq) (hl : 1 ≤ ln) {L : List Nat} (hrc : rcok (HCf ln b1 b2) L) {c2 : Nat} {t2 x2 : Nat → Int32} (hc : c2 = L.length) (h1 : ∀ a, a < c2 → t2 a = nI (L.reverse.getD a 0)) (h2 : ∀ a, a < c2 → x2 a = nI (L.reverse.getD a 0)) :
    LREL n ln c2 mk b1 b2 t2 g0 g1 g2 g3 z R rk nu km gv cq hcq x2 pq := by
  obtain ⟨a1, a2, a3, a4, a5, a6, c1, c2', c0, t, pr⟩ := h
  subst hc
  refine ⟨a1, a2, hrc.1, fun _ => hl, a5, a6, c1, c2', c0, fun a ha => ⟨(h1 a ha).trans (h2 a ha).symm, L.reverse.getD a 0, h1 a ha, ?_⟩, pr⟩
  have hm : L.reverse.getD a 0 ∈ L := by
    have hl2 : a < L.reverse.length := by rw [List.length_reverse]; exact ha
    rw [List.getD_eq_getElem?_getD, List.getElem?_eq_getElem hl2]
    exact List.mem_reverse.mp (List.getElem_mem hl2)
  obtain ⟨q1, q2⟩ := hrc.2 _ hm
  exact HC_k q1 q2
theorem LR_0 {mk2 h0 h1 h2 h3 : Nat → Int32} (hmk : ∀ j, j < 24 → mk2 j = (-1)) (q0 : z6 h0) (q1 : z6 h1) (q2 : z6 h2) (q3 : z6 h3) : LREL 6 0 0 mk2 (-1) (-1) (fun _ => nI 0) h0 h1 h2 h3 0 (fun _ => 0) (fun _ => nI 0) (fun _ => nI 0) (fun _ => nI 0) (fun _ => nI 0) (fun _ => nI 0) (fun _ => nI 0) (fun _ => nI 0) (fun _ => nI 0) :=
  LR_bells ⟨by decide, by decide⟩ hmk q0 q1 q2 q3 (fun _ _ => rfl) (fun _ _ => rfl) (fun _ _ => rfl) ⟨fun i hi => absurd hi (Nat.not_lt_zero i), fun j _ => ⟨0, by decide, rfl⟩, fun j _ => ⟨0, by decide, rfl⟩, by decide⟩
end LRP
