/-! music, course, false leads, in the reference -/
theorem x4b {x : Int32} (h : x ≤ nI 3) : ¬ nI 4 ≤ x := x4 (Int32.not_lt.mpr h)
/-- places before p match -/
def mpr (n k : Nat) (g : Nat → Int32) (p : Nat) : Bool := decide (∀ q, q < p → g q = 0 ∨ g q = nI (ro n k q))
theorem mpr_t {n k p : Nat} {g : Nat → Int32} (h : mpr n k g p = true) (h2 : g p = 0 ∨ g p = nI (ro n k p)) : true = mpr n k g (p + 1) := (decide_eq_true (lt_s (of_decide_eq_true h) h2)).symm
theorem mpr_f1 {n k p : Nat} {g : Nat → Int32} (h : mpr n k g p = false) : false = mpr n k g (p + 1) := (decide_eq_false (fun h2 => of_decide_eq_false h (fun q hq => h2 q (by omega)))).symm
theorem mpr_f2 {n k p : Nat} {g : Nat → Int32} (h1 : ¬ g p = 0) (h2 : ¬ g p = nI (ro n k p)) : false = mpr n k g (p + 1) := (decide_eq_false (fun h => (h p (by omega)).elim h1 h2)).symm
theorem cr_cnt {P : Nat → Bool} {a : Nat} (h : P a = true) : cnt P (a + 1) = cnt P a + 1 := by show cnt P a + (P a).toNat = _; rw [h]; rfl
theorem cr_cn0 {P : Nat → Bool} {a : Nat} (h : P a = false) : cnt P (a + 1) = cnt P a := by show cnt P a + (P a).toNat = _; rw [h]; rfl
theorem crs_is {n ln a : Nat} {mw : Nat → Nat} (h1 : ∀ i, i + 1 < a → itr n mw ln (i + 1) ≠ 0) (h2 : 0 < a) (h3 : a ≤ 720) (h4 : itr n mw ln a = 0) : a = crs n mw ln := by
  unfold crs
  rw [lf_is (i := a - 1) (fun j hj => xq_ne (h1 j (by omega))) (by omega) (fun _ => by rw [show a - 1 + 1 = a by omega, h4]; rfl)]
  omega
theorem crs_go {n ln a : Nat} {mw : Nat → Nat} (hn : nb n) (hm : ∀ j, j < ln → gd n (mw j) = true) (h1 : ∀ i, i + 1 < a → itr n mw ln (i + 1) ≠ 0) (h2 : a = 0 ∨ itr n mw ln a ≠ 0) : a < 720 := by
  have hc := crs_le hn hm
  have hy := lf_yes hc
  have hy2 : Nat.beq (itr n mw ln (lf (fun a => Nat.beq (itr n mw ln (a + 1)) 0) 720 + 1)) 0 = true := hy
  have e := Nat.eq_of_beq_eq_true hy2
  generalize lf (fun a => Nat.beq (itr n mw ln (a + 1)) 0) 720 = b at hc e
  rcases Nat.lt_or_ge a 720 with h | h
  · exact h
  · rcases Nat.lt_or_ge (b + 1) a with h3 | h3
    · exact absurd e (h1 b h3)
    · have : b + 1 = a := by omega
      rw [this] at e
      rcases h2 with h2 | h2
      · omega
      · exact absurd e h2
/-- the marks of the rows of a lead -/
def mkd (n : Nat) (mw : Nat → Nat) (a j : Nat) (mq : Nat → Int32) : Prop := ∀ r, r < 720 → ((∃ i, i < j ∧ ld n mw a (i + 1) = r) → mq r = nI 1) ∧ ((¬ ∃ i, i < j ∧ ld n mw a (i + 1) = r) → mq r = nI 0)
theorem mkd_0 {n a : Nat} {mw : Nat → Nat} {mq : Nat → Int32} (h : ∀ r, r < 720 → mq r = nI 0) : mkd n mw a 0 mq := fun r hr => ⟨fun ⟨i, h1, _⟩ => absurd h1 (Nat.not_lt_zero i), fun _ => h r hr⟩
theorem mkd_s {n a j : Nat} {mw : Nat → Nat} {mq : Nat → Int32} (h : mkd n mw a j mq) : mkd n mw a (j + 1) (upd mq (ld n mw a (j + 1)) (nI 1)) := fun r hr => by
  by_cases e : r = ld n mw a (j + 1)
  · rw [e, pk_us]
    exact ⟨fun _ => rfl, fun hno => absurd ⟨j, by omega, rfl⟩ hno⟩
  · rw [pk_un e]
    refine ⟨fun ⟨i, h1, h2⟩ => (h r hr).1 ⟨i, ?_, h2⟩, fun hno => (h r hr).2 (fun ⟨i, h1, h2⟩ => hno ⟨i, by omega, h2⟩)⟩
    rcases Nat.lt_succ_iff_lt_or_eq.mp h1 with h3 | h3
    · exact h3
    · exact absurd (by rw [← h2, h3]) e
/-- the first j rows of b's lead meet a's lead -/
noncomputable def flj (n : Nat) (mw : Nat → Nat) (ln a b j : Nat) : Bool := @decide (∃ c, c < j ∧ ∃ i, i < ln ∧ ld n mw a (i + 1) = ld n mw b (c + 1)) (Classical.propDecidable _)
theorem flj_t1 {n ln a b j : Nat} {mw : Nat → Nat} (h : flj n mw ln a b j = true) : true = flj n mw ln a b (j + 1) := by
  unfold flj at h ⊢
  obtain ⟨c, h1, h2⟩ := @of_decide_eq_true _ (Classical.propDecidable _) h
  exact (@decide_eq_true _ (Classical.propDecidable _) ⟨c, by omega, h2⟩).symm
theorem flj_t2 {n ln a b j : Nat} {mw : Nat → Nat} {mq : Nat → Int32} (h : mkd n mw a ln mq) (hb : ld n mw b (j + 1) < 720) (h1 : mq (ld n mw b (j + 1)) = nI 1) : true = flj n mw ln a b (j + 1) := by
  unfold flj
  refine (@decide_eq_true _ (Classical.propDecidable _) ⟨j, by omega, ?_⟩).symm
  refine Classical.byContradiction fun hno => ?_
  rw [(h _ hb).2 hno] at h1
  exact absurd h1 (by decide)
theorem flj_f {n ln a b j : Nat} {mw : Nat → Nat} {mq : Nat → Int32} (h0 : flj n mw ln a b j = false) (h : mkd n mw a ln mq) (hb : ld n mw b (j + 1) < 720) (h1 : ¬ mq (ld n mw b (j + 1)) = nI 1) : false = flj n mw ln a b (j + 1) := by
  unfold flj at h0 ⊢
  have h0 := @of_decide_eq_false _ (Classical.propDecidable _) h0
  refine (@decide_eq_false _ (Classical.propDecidable _) (fun ⟨c, c1, c2⟩ => ?_)).symm
  rcases Nat.lt_succ_iff_lt_or_eq.mp c1 with h3 | h3
  · exact h0 ⟨c, h3, c2⟩
  · rw [h3] at c2
    exact h1 ((h _ hb).1 c2)
theorem flj_n (n : Nat) (mw : Nat → Nat) (ln a b : Nat) : flj n mw ln a b ln = flm n mw ln a b := by
  unfold flj flm
  congr
