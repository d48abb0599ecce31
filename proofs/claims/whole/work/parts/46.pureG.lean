/-! the reference's questions -/
theorem x24 {x : Int32} (h : ¬ nI 23 < x) : ¬ nI 24 ≤ x := fun q => h (Int32.lt_of_lt_of_le (show nI 23 < nI 24 by decide) q)
theorem x4 {x : Int32} (h : ¬ nI 3 < x) : ¬ nI 4 ≤ x := fun q => h (Int32.lt_of_lt_of_le (show nI 3 < nI 4 by decide) q)
theorem cn_of {x : Int32} (h1 : ¬ x < nI 1) (h2 : ¬ nI 2 < x) : x = nI 1 ∨ x = nI 2 := by
  rcases pk_ix x (show 3 < 2 ^ 31 by decide) with h3 | h3 | ⟨j, hj, e⟩
  · exact absurd (Int32.lt_trans h3 (by decide)) h1
  · exact absurd (Int32.lt_of_lt_of_le (show nI 2 < nI 3 by decide) h3) h2
  · subst e
    have h4 : ¬ j < 1 := fun q => h1 (nI_lt q (by decide))
    rcases (show j = 1 ∨ j = 2 by omega) with e | e
    · exact Or.inl (by rw [e])
    · exact Or.inr (by rw [e])
theorem thas_no {tq : Nat → Int32} {ct : Nat} {x : Int32} (h : ∀ i, i < ct → tq i ≠ x) : thas tq ct x = false := decide_eq_false (fun ⟨i, h1, h2⟩ => h i h1 h2)
theorem thas_yes {tq : Nat → Int32} {ct j : Nat} {x : Int32} (h1 : j < ct) (h2 : tq j = x) : thas tq ct x = true := decide_eq_true ⟨j, h1, h2⟩
/-- the masks up to len are given -/
def dgv (gv : Nat → Int32) (x : Int32) : Prop := ∃ len, 1 ≤ len ∧ len ≤ 24 ∧ x = nI len ∧ ∀ j, j < len → gv j = nI 1
theorem dg_of {x : Int32} (h1 : ¬ x ≤ 0) (h2 : ¬ nI 25 ≤ x) : ∃ len, 1 ≤ len ∧ len ≤ 24 ∧ x = nI len := by
  rcases pk_ix x (show 25 < 2 ^ 31 by decide) with h3 | h3 | ⟨j, hj, e⟩
  · exact absurd (Int32.le_of_lt h3) h1
  · exact absurd h3 h2
  · subst e
    exact ⟨j, Nat.pos_of_ne_zero (fun e0 => h1 (by rw [e0, nI_0]; exact Int32.le_refl 0)), by omega, rfl⟩
noncomputable def btw (R : Nat → Nat) (j : Nat) : Bool := @Nat.rec (fun _ => Bool) false (fun i b => or b (and (Nat.blt 0 i) (Nat.beq (R i) 0))) j
theorem btw_s (R : Nat → Nat) (j : Nat) : btw R (j + 1) = or (btw R j) (and (Nat.blt 0 j) (Nat.beq (R j) 0)) := rfl
theorem inR_s (R : Nat → Nat) (j k : Nat) : inR R (j + 1) k = or (inR R j k) (Nat.beq (R j) k) := rfl
theorem btw_of {R : Nat → Nat} : ∀ {j : Nat}, btw R j = true → ∃ i, 0 < i ∧ i < j ∧ R i = 0
  | 0, h => by cases h
  | j + 1, h => by
    rw [btw_s, Bool.or_eq_true, Bool.and_eq_true] at h
    rcases h with h | ⟨h1, h2⟩
    · obtain ⟨i, a, b, c⟩ := btw_of h; exact ⟨i, a, by omega, c⟩
    · exact ⟨j, Nat.le_of_ble_eq_true h1, by omega, Nat.eq_of_beq_eq_true h2⟩
theorem btw_in {R : Nat → Nat} {i : Nat} : ∀ {j : Nat}, 0 < i → i < j → R i = 0 → btw R j = true
  | 0, _, h, _ => absurd h (Nat.not_lt_zero i)
  | j + 1, h0, h, e => by
    rw [btw_s, Bool.or_eq_true, Bool.and_eq_true]
    rcases Nat.lt_succ_iff_lt_or_eq.mp h with h1 | h1
    · exact Or.inl (btw_in h0 h1 e)
    · exact Or.inr ⟨Nat.ble_eq_true_of_le (by omega), by rw [← h1, e]; rfl⟩
/-- a repeated row, not home: the answer -/
theorem pr_ret {R : Nat → Nat} {ct ln a : Nat} (h0 : R 0 = 0) (ha : a < ct * ln) (h : ∀ b, b < a → rpR R b = false) (hs : rpR R a = true) (hh : ¬ (a + 1 = ct * ln ∧ R (a + 1) = 0 ∧ btw R (a + 1) = false)) : nI (a + 1) = pvI R ct ln := by
  have hl : lf (rpR R) (ct * ln) = a := lf_is h (by omega) (fun _ => hs)
  unfold pvI
  rw [hl, if_pos ha, if_neg]
  rintro ⟨h1, h2⟩
  cases hb : btw R (a + 1) with
  | false => exact hh ⟨h1, h2, hb⟩
  | true =>
    obtain ⟨i, c1, c2, c3⟩ := btw_of hb
    have h3 := h (i - 1) (by omega)
    unfold rpR at h3
    rw [show i - 1 + 1 = i by omega] at h3
    have h4 := (inR_iff R (R i) i).mpr ⟨0, c1, by rw [h0, c3]⟩
    rw [h3] at h4
    cases h4
theorem pr_end {R : Nat → Nat} {ct ln : Nat} (h0 : R 0 = 0) (hct : 0 < ct → 1 ≤ ln) (h : ∀ b, b + 1 < ct * ln → rpR R b = false) (hl : 0 < ct * ln → rpR R (ct * ln - 1) = false ∨ R (ct * ln) = 0) : pvI R ct ln = if ct * ln = 0 ∨ R (ct * ln) = 0 then nI 0 else (-1) := by
  by_cases hz : ct * ln = 0
  · rw [if_pos (Or.inl hz), pv_end (fun i hi => absurd hi (by omega))]
    rw [if_pos]
    rcases Nat.mul_eq_zero.mp hz with e | e
    · exact e
    · by_cases hc : ct = 0
      · exact hc
      · have := hct (by omega); omega
  · have hp : 0 < ct * ln := Nat.pos_of_ne_zero hz
    have hc0 : ¬ ct = 0 := fun e => hz (by rw [e, Nat.zero_mul])
    by_cases hr : rpR R (ct * ln - 1) = true
    · have hR : R (ct * ln) = 0 := (hl hp).resolve_left (by rw [hr]; decide)
      have e1 : lf (rpR R) (ct * ln) = ct * ln - 1 := lf_is (fun j hj => h j (by omega)) (by omega) (fun _ => hr)
      unfold pvI
      rw [e1, if_pos (by omega), show ct * ln - 1 + 1 = ct * ln by omega, if_pos ⟨rfl, hR⟩, if_pos (Or.inr hR)]
    · have hr2 : rpR R (ct * ln - 1) = false := Bool.eq_false_iff.mpr hr
      have hn : ¬ R (ct * ln) = 0 := fun e => by
        unfold rpR at hr2
        rw [show ct * ln - 1 + 1 = ct * ln by omega] at hr2
        have h4 := (inR_iff R (R (ct * ln)) (ct * ln)).mpr ⟨0, hp, by rw [h0, e]⟩
        rw [hr2] at h4
        cases h4
      rw [if_neg (fun q => q.elim hz hn), pv_end (fun i hi => by
        by_cases e : i + 1 < ct * ln
        · exact h i e
        · rw [show i = ct * ln - 1 by omega]; exact hr2), if_neg hc0]
theorem b_or1 {a b : Bool} (h : a = true) : (or a b) = true := by rw [h]; rfl
theorem b_or2 {a b : Bool} (h : b = true) : (or a b) = true := by rw [h]; cases a <;> rfl
theorem b_or0 {a b : Bool} (h1 : a = false) (h2 : b = false) : (or a b) = false := by rw [h1, h2]; rfl
theorem beq_t {a b : Nat} (h : a = b) : Nat.beq a b = true := by rw [h]; exact Nat.beq_refl b
theorem blt_t {a b : Nat} (h : a < b) : Nat.blt a b = true := Nat.ble_eq_true_of_le h
theorem blt0 : Nat.blt 0 0 = false := rfl
