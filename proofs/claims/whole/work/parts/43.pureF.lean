/-! define, prove, music, patterns -/
def dok (mk : Nat → Int32) (x : Int32) : Bool := if x < nI 1 then false else if nI 24 < x then false else hfm mk x.toNatClampNeg
theorem dok_of {x : Int32} (h1 : ¬ x < nI 1) (h2 : ¬ nI 24 < x) : ∃ len, 1 ≤ len ∧ len ≤ 24 ∧ x = nI len := by
  rcases pk_ix x (show 25 < 2 ^ 31 by decide) with h3 | h3 | ⟨j, hj, e⟩
  · exact absurd (Int32.lt_trans h3 (by decide)) h1
  · exact absurd (Int32.lt_of_lt_of_le (show nI 24 < nI 25 by decide) h3) h2
  · subst e
    have h4 : ¬ j < 1 := fun q => h1 (nI_lt q (by decide))
    exact ⟨j, by omega, by omega, rfl⟩
theorem dok_nI {mk : Nat → Int32} {len : Nat} (h1 : 1 ≤ len) (h2 : len ≤ 24) : dok mk (nI len) = hfm mk len := by
  unfold dok
  rw [if_neg (nI_nlt h1 (by omega)), if_neg (nI_nlt h2 (by decide)), nI_clamp (by omega)]
/-- row i + 1 was rung before -/
noncomputable def rpR (R : Nat → Nat) (i : Nat) : Bool := inR R (i + 1) (R (i + 1))
noncomputable def pvI (R : Nat → Nat) (ct ln : Nat) : Int32 :=
  if lf (rpR R) (ct * ln) < ct * ln then (if lf (rpR R) (ct * ln) + 1 = ct * ln ∧ R (lf (rpR R) (ct * ln) + 1) = 0 then nI 0 else nI (lf (rpR R) (ct * ln) + 1)) else if ct = 0 then nI 0 else (-1)
theorem inR_ext {R R2 : Nat → Nat} {z k : Nat} (h : ∀ i, i < z → R i = R2 i) : inR R z k = inR R2 z k := by
  have h1 := inR_iff R k z
  have h2 := inR_iff R2 k z
  have h3 : (inR R z k = true) ↔ (inR R2 z k = true) := by
    rw [h1, h2]
    constructor
    · rintro ⟨i, a, b⟩; exact ⟨i, a, by rw [← h i a]; exact b⟩
    · rintro ⟨i, a, b⟩; exact ⟨i, a, by rw [h i a]; exact b⟩
  cases ha : inR R z k <;> cases hb : inR R2 z k
  · rfl
  · rw [ha, hb] at h3; exact absurd (h3.mpr rfl) Bool.false_ne_true
  · rw [ha, hb] at h3; exact absurd (h3.mp rfl) Bool.false_ne_true
  · rfl
theorem RL_Rw {n ln a : Nat} {mt : Nat → Nat → Nat} {tt : Nat → Nat} {i : Nat} (h : i < (a + 1) * ln + 1) : RL n (mt (tt a)) (Rw n ln mt tt (a * ln)) (a * ln + 1) (Rw n ln mt tt) i = Rw n ln mt tt i := by
  unfold RL
  split
  · rfl
  · rename_i h1
    rw [Nat.succ_mul] at h
    obtain ⟨j, rfl⟩ : ∃ j, i = a * ln + j := ⟨i - a * ln, by omega⟩
    rw [Rw_ld a j (by omega), show a * ln + j + 1 - (a * ln + 1) = j by omega]
theorem rpt_Rw {n ln a j : Nat} {mt : Nat → Nat → Nat} {tt : Nat → Nat} (h : j < ln) : rpt n (mt (tt a)) (Rw n ln mt tt (a * ln)) (a * ln + 1) (Rw n ln mt tt) j = rpR (Rw n ln mt tt) (a * ln + j) := by
  unfold rpt rpR
  rw [show a * ln + j + 1 = a * ln + (j + 1) by omega, Rw_ld a (j + 1) (by omega), show a * ln + 1 + j = a * ln + (j + 1) by omega]
  exact inR_ext (fun i hi => RL_Rw (by rw [Nat.succ_mul]; omega))
theorem pv_go {n ln a : Nat} {mt : Nat → Nat → Nat} {tt : Nat → Nat} (h : ∀ i, i < a * ln → rpR (Rw n ln mt tt) i = false) (hj : jl n (mt (tt a)) (Rw n ln mt tt (a * ln)) (a * ln + 1) (Rw n ln mt tt) ln = ln) : ∀ i, i < (a + 1) * ln → rpR (Rw n ln mt tt) i = false := by
  intro i hi
  rw [Nat.succ_mul] at hi
  by_cases e : i < a * ln
  · exact h i e
  · obtain ⟨j, rfl⟩ : ∃ j, i = a * ln + j := ⟨i - a * ln, by omega⟩
    rw [← rpt_Rw (by omega)]
    unfold jl at hj
    exact lf_no (n := ln) (by rw [hj]; omega)
theorem pv_ret {n ln a ct : Nat} {mt : Nat → Nat → Nat} {tt : Nat → Nat} (ha : a < ct) (h : ∀ i, i < a * ln → rpR (Rw n ln mt tt) i = false) (hj : jl n (mt (tt a)) (Rw n ln mt tt (a * ln)) (a * ln + 1) (Rw n ln mt tt) ln < ln) :
    pvI (Rw n ln mt tt) ct ln = if a * ln + 1 + jl n (mt (tt a)) (Rw n ln mt tt (a * ln)) (a * ln + 1) (Rw n ln mt tt) ln = ct * ln ∧ ld n (mt (tt a)) (Rw n ln mt tt (a * ln)) (jl n (mt (tt a)) (Rw n ln mt tt (a * ln)) (a * ln + 1) (Rw n ln mt tt) ln + 1) = 0 then nI 0 else nI (a * ln + 1 + jl n (mt (tt a)) (Rw n ln mt tt (a * ln)) (a * ln + 1) (Rw n ln mt tt) ln) := by
  have hy := lf_yes (P := rpt n (mt (tt a)) (Rw n ln mt tt (a * ln)) (a * ln + 1) (Rw n ln mt tt)) (n := ln) hj
  have hno := fun i (hi : i < jl n (mt (tt a)) (Rw n ln mt tt (a * ln)) (a * ln + 1) (Rw n ln mt tt) ln) => lf_no (P := rpt n (mt (tt a)) (Rw n ln mt tt (a * ln)) (a * ln + 1) (Rw n ln mt tt)) (n := ln) hi
  have hy2 : rpt n (mt (tt a)) (Rw n ln mt tt (a * ln)) (a * ln + 1) (Rw n ln mt tt) (jl n (mt (tt a)) (Rw n ln mt tt (a * ln)) (a * ln + 1) (Rw n ln mt tt) ln) = true := hy
  generalize jl n (mt (tt a)) (Rw n ln mt tt (a * ln)) (a * ln + 1) (Rw n ln mt tt) ln = j at hj hy2 hno ⊢
  have hc : a * ln + ln ≤ ct * ln := by rw [← Nat.succ_mul]; exact Nat.mul_le_mul_right ln ha
  have hl : lf (rpR (Rw n ln mt tt)) (ct * ln) = a * ln + j := by
    refine lf_is (fun i hi => ?_) (by omega) (fun _ => by rw [← rpt_Rw hj]; exact hy2)
    by_cases e : i < a * ln
    · exact h i e
    · obtain ⟨d, rfl⟩ : ∃ d, i = a * ln + d := ⟨i - a * ln, by omega⟩
      rw [← rpt_Rw (by omega)]
      exact hno d (by omega)
  unfold pvI
  rw [hl, if_pos (by omega), show a * ln + j + 1 = a * ln + 1 + j by omega]
  have e9 : Rw n ln mt tt (a * ln + 1 + j) = ld n (mt (tt a)) (Rw n ln mt tt (a * ln)) (j + 1) := by rw [show a * ln + 1 + j = a * ln + (j + 1) by omega]; exact Rw_ld a (j + 1) (by omega)
  rw [e9]
theorem pv_end {R : Nat → Nat} {ct ln : Nat} (h : ∀ i, i < ct * ln → rpR R i = false) : pvI R ct ln = if ct = 0 then nI 0 else (-1) := by
  have hl : lf (rpR R) (ct * ln) = ct * ln := lf_is h (Nat.le_refl _) (fun q => absurd q (Nat.lt_irrefl _))
  unfold pvI
  rw [hl, if_neg (Nat.lt_irrefl _)]
/-- how many -/
def cnt (P : Nat → Bool) : Nat → Nat
  | 0 => 0
  | i + 1 => cnt P i + (P i).toNat
theorem cnt_le (P : Nat → Bool) : ∀ i, cnt P i ≤ i
  | 0 => Nat.le_refl 0
  | i + 1 => by
    have h1 := cnt_le P i
    have h2 : (P i).toNat ≤ 1 := by cases P i <;> decide
    show cnt P i + (P i).toNat ≤ i + 1
    omega
/-- row i + 1 of the touch matches -/
def mtR (n : Nat) (R : Nat → Nat) (g : Nat → Int32) (i : Nat) : Bool := mtc n (R (i + 1)) g
def ptk (n : Nat) (x y z : Int32) : Bool := if okp x then (if okl n y then (if z < 0 then false else if nI n < z then false else true) else false) else false
def bek (N n : Nat) (x y : Int32) : Bool := if x < 0 then false else if nI N < x then false else okl n y
def urk (n : Nat) (x y : Int32) : Bool := if okr n x then okl n y else false
