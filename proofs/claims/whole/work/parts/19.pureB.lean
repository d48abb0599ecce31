/-! the reference's rows -/
/-- row i of the grid holds the row with rank k -/
def bh (n i k : Nat) (B : Nat → Int32) : Prop := ∀ p, p < n → B (6 * i + p) = nI (ro n k p)
theorem bh_keep {n i k : Nat} {B B2 : Nat → Int32} (hn : nb n) (h : bh n i k B) (e : ∀ q, q < 6 * i + 6 → B2 q = B q) : bh n i k B2 := fun p hp => by
  have := hn.2
  rw [e _ (by omega)]; exact h p hp
noncomputable def str (w p : Nat) : Nat := @Nat.rec (fun _ => Nat) 0 (fun i s => if (w >>> i) % 2 = 1 then 0 else s + 1) p
noncomputable def gfl (w p : Nat) : Bool := @Nat.rec (fun _ => Bool) true (fun i g => if (w >>> i) % 2 = 1 then and g (Nat.beq (str w i % 2) 0) else g) p
theorem str_s (w p : Nat) : str w (p + 1) = if (w >>> p) % 2 = 1 then 0 else str w p + 1 := rfl
theorem gfl_s (w p : Nat) : gfl w (p + 1) = if (w >>> p) % 2 = 1 then and (gfl w p) (Nat.beq (str w p % 2) 0) else gfl w p := rfl
theorem gfl_n0 {n : Nat} (hn : nb n) : bl (fun w => (and (gfl w n) (Nat.beq (str w n % 2) 0)) == gd n w) (2 ^ n) = true :=
  nb_all (P := fun n => bl (fun w => (and (gfl w n) (Nat.beq (str w n % 2) 0)) == gd n w) (2 ^ n) = true) (by decide +kernel) (by decide +kernel) (by decide +kernel) hn
theorem gfl_n {n w : Nat} (hn : nb n) (hw : w < 2 ^ n) : (and (gfl w n) (Nat.beq (str w n % 2) 0)) = gd n w := eq_of_beq (bl_at (gfl_n0 hn) w hw)
theorem str_le (w : Nat) : ∀ p, str w p ≤ p
  | 0 => Nat.le_refl 0
  | p + 1 => by
    have := str_le w p
    rw [str_s]
    split <;> omega
theorem gfl_no {w : Nat} : ∀ {p q : Nat}, gfl w p = false → p ≤ q → gfl w q = false
  | p, 0, h, hq => by rw [show p = 0 by omega] at h; exact h
  | p, q + 1, h, hq => by
    by_cases e : p = q + 1
    · rw [← e]; exact h
    · have h2 := gfl_no h (show p ≤ q by omega)
      rw [gfl_s]
      split
      · rw [h2]; rfl
      · exact h2
/-- the mask is good, for any int -/
def okm (n : Nat) (x : Int32) : Bool := if x < 0 then false else if nI (2 ^ n) ≤ x then false else gd n x.toNatClampNeg
theorem two_n {n : Nat} (hn : nb n) : 2 ^ n ≤ 64 ∧ 16 ≤ 2 ^ n := by
  rcases nb_cases hn with e | e | e <;> rw [e] <;> decide
theorem okm_of {n : Nat} (hn : nb n) {x : Int32} (h0 : ¬ x < 0) (h1 : ¬ nI (2 ^ n) ≤ x) : ∃ w, w < 2 ^ n ∧ x = nI w := by
  have h2 := (two_n hn).1
  rcases pk_ix x (show 2 ^ n < 2 ^ 31 by omega) with h | h | ⟨j, hj, e⟩
  · exact absurd h h0
  · exact absurd h h1
  · exact ⟨j, hj, e⟩
theorem okm_nI {n w : Nat} (hn : nb n) (hw : w < 2 ^ n) : okm n (nI w) = gd n w := by
  have h2 := (two_n hn).1
  unfold okm
  rw [if_neg (nI_pos (by omega)), if_neg (nI_ge hw (by omega)), nI_clamp (by omega)]
/-- the masks of a lead, as the reference holds them -/
def gmr (n ln : Nat) (km cq : Nat → Int32) (kd : Nat) (mw : Nat → Nat) : Prop := ∀ j, j < ln → (if 0 < kd ∧ j = ln - 1 then cq kd else km j) = nI (mw j) ∧ gd n (mw j) = true
/-- row i of a touch: mt kind step is the mask, tt k the kind of call k -/
noncomputable def Rw (n ln : Nat) (mt : Nat → Nat → Nat) (tt : Nat → Nat) (i : Nat) : Nat := @Nat.rec (fun _ => Nat) 0 (fun i r => ch n (mt (tt (i / ln)) (i % ln)) r) i
theorem Rw_0 (n ln : Nat) (mt : Nat → Nat → Nat) (tt : Nat → Nat) : Rw n ln mt tt 0 = 0 := rfl
theorem Rw_s (n ln : Nat) (mt : Nat → Nat → Nat) (tt : Nat → Nat) (i : Nat) : Rw n ln mt tt (i + 1) = ch n (mt (tt (i / ln)) (i % ln)) (Rw n ln mt tt i) := rfl
theorem Rw_ld {n ln : Nat} {mt : Nat → Nat → Nat} {tt : Nat → Nat} (k : Nat) : ∀ j, j ≤ ln → Rw n ln mt tt (k * ln + j) = ld n (mt (tt k)) (Rw n ln mt tt (k * ln)) j
  | 0, _ => rfl
  | j + 1, h => by
    rw [show k * ln + (j + 1) = (k * ln + j) + 1 by omega, Rw_s, ld_s, Rw_ld k j (by omega)]
    rw [show (k * ln + j) / ln = k by rw [Nat.mul_comm, Nat.mul_add_div (by omega), Nat.div_eq_of_lt (by omega)]; omega, show (k * ln + j) % ln = j by rw [Nat.mul_comm, Nat.mul_add_mod, Nat.mod_eq_of_lt (by omega)]]
theorem Rw_k {n ln : Nat} {mt : Nat → Nat → Nat} {tt : Nat → Nat} (k : Nat) : Rw n ln mt tt ((k + 1) * ln) = ld n (mt (tt k)) (Rw n ln mt tt (k * ln)) ln := by
  rw [Nat.succ_mul]; exact Rw_ld k ln (Nat.le_refl ln)
/-- plain leads one behind another, from rounds -/
noncomputable def itr (n : Nat) (mw : Nat → Nat) (ln a : Nat) : Nat := @Nat.rec (fun _ => Nat) 0 (fun _ r => ld n mw r ln) a
theorem itr_s (n : Nat) (mw : Nat → Nat) (ln a : Nat) : itr n mw ln (a + 1) = ld n mw (itr n mw ln a) ln := rfl
noncomputable def crs (n : Nat) (mw : Nat → Nat) (ln : Nat) : Nat := lf (fun a => Nat.beq (itr n mw ln (a + 1)) 0) 720 + 1
theorem ld_inj {n ln : Nat} {mw : Nat → Nat} (hn : nb n) (hm : ∀ j, j < ln → gd n (mw j) = true) {k k' : Nat} (hk : k < fa n) (hk' : k' < fa n) : ∀ j, j ≤ ln → ld n mw k j = ld n mw k' j → k = k'
  | 0, _, e => e
  | j + 1, h, e => by
    rw [ld_s, ld_s] at e
    have h1 := ch_inv hn (hm j h) (ld_lt hn hm hk j (by omega))
    have h2 := ch_inv hn (hm j h) (ld_lt hn hm hk' j (by omega))
    exact ld_inj hn hm hk hk' j (by omega) (by rw [← h1, ← h2, e])
theorem itr_lt {n ln : Nat} {mw : Nat → Nat} (hn : nb n) (hm : ∀ j, j < ln → gd n (mw j) = true) : ∀ a, itr n mw ln a < fa n
  | 0 => fa_pos n
  | a + 1 => by rw [itr_s]; exact ld_lt hn hm (itr_lt hn hm a) ln (Nat.le_refl ln)
theorem itr_back {n ln : Nat} {mw : Nat → Nat} (hn : nb n) (hm : ∀ j, j < ln → gd n (mw j) = true) : ∀ i d, itr n mw ln i = itr n mw ln (i + d) → itr n mw ln d = 0
  | 0, d, e => by rw [Nat.zero_add] at e; exact e.symm
  | i + 1, d, e => by
    rw [show i + 1 + d = (i + d) + 1 by omega, itr_s, itr_s] at e
    exact itr_back hn hm i d (ld_inj hn hm (itr_lt hn hm i) (itr_lt hn hm (i + d)) ln (Nat.le_refl ln) e)
theorem crs_le {n ln : Nat} {mw : Nat → Nat} (hn : nb n) (hm : ∀ j, j < ln → gd n (mw j) = true) : lf (fun a => Nat.beq (itr n mw ln (a + 1)) 0) 720 < 720 := by
  have h0 := lf_le (fun a => Nat.beq (itr n mw ln (a + 1)) 0) 720
  refine Nat.lt_of_le_of_ne h0 (fun he => ?_)
  have hz : ∀ d, 0 < d → d ≤ 720 → itr n mw ln d ≠ 0 := fun d h1 h2 e => by
    have h3 := lf_no (P := fun a => Nat.beq (itr n mw ln (a + 1)) 0) (n := 720) (i := d - 1) (by omega)
    have h4 : Nat.beq (itr n mw ln (d - 1 + 1)) 0 = false := h3
    rw [show d - 1 + 1 = d by omega, e] at h4
    cases h4
  have h1 := pg_hole 720 721 (fun i => itr n mw ln i) (fun i _ => Nat.lt_of_lt_of_le (itr_lt hn hm i) (fa_le hn)) (fun i j hi hj e => by
    rcases Nat.lt_trichotomy i j with h | h | h
    · exact absurd (itr_back hn hm i (j - i) (by rw [show i + (j - i) = j by omega]; exact e)) (hz _ (by omega) (by omega))
    · exact h
    · exact absurd (itr_back hn hm j (i - j) (by rw [show j + (i - j) = i by omega]; exact e.symm)) (hz _ (by omega) (by omega)))
  omega
/-- the plain leads from a and b have a row in common -/
noncomputable def flm (n : Nat) (mw : Nat → Nat) (ln a b : Nat) : Bool := decide (∃ j, j < ln ∧ ∃ i, i < ln ∧ ld n mw a (i + 1) = ld n mw b (j + 1))
theorem azR_in {R : Nat → Nat} {z k : Nat} (q : Nat) : inR (azR R z k) (azz R z k) q = true ↔ inR R z q = true ∨ k = q := by
  unfold azR azz
  cases h : inR R z k with
  | true =>
    simp only [if_true]
    constructor
    · exact Or.inl
    · rintro (h1 | h1)
      · exact h1
      · rw [← h1]; exact h
  | false =>
    simp only [Bool.false_eq_true, if_false]
    rw [inR_iff, inR_iff]
    constructor
    · rintro ⟨i, h1, h2⟩
      unfold rx at h2
      split at h2
      · exact Or.inr h2
      · exact Or.inl ⟨i, by omega, h2⟩
    · rintro (⟨i, h1, h2⟩ | h1)
      · exact ⟨i, by omega, by unfold rx; rw [if_neg (by omega)]; exact h2⟩
      · exact ⟨z, by omega, by unfold rx; rw [if_pos rfl]; exact h1⟩
theorem xm_or {n a j q : Nat} {mw : Nat → Nat} : (∃ i, i < j ∧ ld n mw a (i + 1) = q) ∨ ld n mw a (j + 1) = q ↔ ∃ i, i < j + 1 ∧ ld n mw a (i + 1) = q := by
  constructor
  · rintro (⟨i, h1, h2⟩ | h)
    · exact ⟨i, by omega, h2⟩
    · exact ⟨j, by omega, h⟩
  · rintro ⟨i, h1, h2⟩
    rcases Nat.lt_succ_iff_lt_or_eq.mp h1 with h | h
    · exact Or.inl ⟨i, h, h2⟩
    · right; rw [← h]; exact h2
theorem xm_t {n a b j i ln z : Nat} {mw : Nat → Nat} {R : Nat → Nat} (h4 : ∀ q, inR R z q = true ↔ ∃ i, i < j ∧ ld n mw a (i + 1) = q) (hj : j ≤ ln) (hi : i < ln) (h : inR R z (ld n mw b (i + 1)) = true) : ∃ j, j < ln ∧ ∃ i, i < ln ∧ ld n mw a (i + 1) = ld n mw b (j + 1) := by
  obtain ⟨c, h1, h2⟩ := (h4 _).mp h
  exact ⟨i, hi, c, by omega, h2⟩
theorem xm_f {n a b j i ln z : Nat} {mw : Nat → Nat} {R : Nat → Nat} (h4 : ∀ q, inR R z q = true ↔ ∃ i, i < j ∧ ld n mw a (i + 1) = q) (hj : ln ≤ j) (hi : ln ≤ i) (h3 : ∀ q, q < i → inR R z (ld n mw b (q + 1)) = false) (h : ∃ j, j < ln ∧ ∃ i, i < ln ∧ ld n mw a (i + 1) = ld n mw b (j + 1)) : False := by
  obtain ⟨c, h1, d, h2, h5⟩ := h
  have h6 := (h4 _).mpr ⟨d, by omega, h5⟩
  rw [h3 c (by omega)] at h6
  cases h6
