/-! the reference's looking: marks count rows; its stack is the path -/
/-- how many of the first z rows have the rank r -/
noncomputable def cr (R : Nat → Nat) (z r : Nat) : Nat := @Nat.rec (fun _ => Nat) 0 (fun i c => c + (Nat.beq (R i) r).toNat) z
theorem cr_s (R : Nat → Nat) (z r : Nat) : cr R (z + 1) r = cr R z r + (Nat.beq (R z) r).toNat := rfl
theorem cr_eq {R : Nat → Nat} {z r : Nat} (h : R z = r) : cr R (z + 1) r = cr R z r + 1 := by rw [cr_s, beq_t h]; rfl
theorem cr_ne {R : Nat → Nat} {z r : Nat} (h : R z ≠ r) : cr R (z + 1) r = cr R z r := by rw [cr_s, xq_ne h]; rfl
theorem cr_mono {R : Nat → Nat} {z r : Nat} : ∀ d, cr R z r ≤ cr R (z + d) r
  | 0 => Nat.le_refl _
  | d + 1 => Nat.le_trans (cr_mono d) (by rw [show z + (d + 1) = (z + d) + 1 by omega, cr_s]; omega)
theorem cr_le (R : Nat → Nat) (r : Nat) : ∀ z, cr R z r ≤ z
  | 0 => Nat.le_refl 0
  | z + 1 => by
    have h1 := cr_le R r z
    have h2 : (Nat.beq (R z) r).toNat ≤ 1 := by cases Nat.beq (R z) r <;> decide
    rw [cr_s]; omega
theorem cr_in {R : Nat → Nat} {r : Nat} : ∀ {z : Nat}, 0 < cr R z r ↔ inR R z r = true
  | 0 => ⟨fun h => absurd h (Nat.lt_irrefl 0), fun h => (by cases h)⟩
  | z + 1 => by
    rw [cr_s, inR_s, Bool.or_eq_true, ← cr_in (z := z)]
    cases h : Nat.beq (R z) r with
    | true => exact ⟨fun _ => Or.inr rfl, fun _ => by show 0 < _ + 1; omega⟩
    | false => exact ⟨fun q => Or.inl q, fun q => q.elim id (fun q => by cases q)⟩
theorem cr_ext {R R2 : Nat → Nat} {r : Nat} : ∀ {z : Nat}, (∀ i, i < z → R i = R2 i) → cr R z r = cr R2 z r
  | 0, _ => rfl
  | z + 1, h => by rw [cr_s, cr_s, h z (by omega), cr_ext (fun i hi => h i (by omega))]
theorem cr_one {R : Nat → Nat} (h0 : R 0 = 0) : ∀ {z : Nat}, 0 < z → (∀ i, 0 < i → i < z → R i ≠ 0) → cr R z 0 = 1
  | 0, h, _ => absurd h (Nat.lt_irrefl 0)
  | 1, _, _ => cr_eq h0
  | z + 2, _, h => by rw [cr_ne (h (z + 1) (by omega) (by omega))]; exact cr_one h0 (by omega) (fun i a b => h i a (by omega))
/-- the marks hold the counts -/
def mh (R : Nat → Nat) (z : Nat) (mq : Nat → Int32) : Prop := ∀ r, r < 720 → mq r = nI (cr R z r)
theorem mh_ext {R R2 : Nat → Nat} {z : Nat} {mq : Nat → Int32} (h : mh R z mq) (e : ∀ i, i < z → R i = R2 i) : mh R2 z mq := fun r hr => by rw [h r hr, cr_ext e]
theorem mh_s {R : Nat → Nat} {z : Nat} {mq : Nat → Int32} (h : mh R z mq) : mh R (z + 1) (upd mq (R z) (nI (cr R z (R z) + 1))) := fun r hr => by
  by_cases e : r = R z
  · rw [e, pk_us, cr_eq rfl]
  · rw [pk_un e, h r hr, cr_ne (fun q => e q.symm)]
/-- j rows of the lead taken back, from its first -/
def mtb (R : Nat → Nat) (z ln j : Nat) (mq : Nat → Int32) : Prop := ∀ r, r < 720 → mq r = nI (cr R (z + ln) r + cr R z r - cr R (z + j) r)
theorem mtb_0 {R : Nat → Nat} {z ln : Nat} {mq : Nat → Int32} (h : mh R (z + ln) mq) : mtb R z ln 0 mq := fun r hr => by rw [h r hr, Nat.add_zero, Nat.add_sub_cancel]
theorem mtb_n {R : Nat → Nat} {z ln : Nat} {mq : Nat → Int32} (h : mtb R z ln ln mq) : mh R z mq := fun r hr => by rw [h r hr, Nat.add_comm, Nat.add_sub_cancel]
theorem mtb_v {R : Nat → Nat} {z ln j : Nat} (hj : j < ln) : 1 ≤ cr R (z + ln) (R (z + j)) + cr R z (R (z + j)) - cr R (z + j) (R (z + j)) := by
  have h1 : cr R (z + (j + 1)) (R (z + j)) = cr R (z + j) (R (z + j)) + 1 := cr_eq rfl
  have h2 := cr_mono (R := R) (z := z + (j + 1)) (r := R (z + j)) (ln - (j + 1))
  rw [show z + (j + 1) + (ln - (j + 1)) = z + ln by omega] at h2
  omega
theorem mtb_s {R : Nat → Nat} {z ln j : Nat} {mq : Nat → Int32} (hj : j < ln) (h : mtb R z ln j mq) : mtb R z ln (j + 1) (upd mq (R (z + j)) (nI (cr R (z + ln) (R (z + j)) + cr R z (R (z + j)) - cr R (z + j) (R (z + j)) - 1))) := fun r hr => by
  by_cases e : r = R (z + j)
  · rw [e, pk_us, show cr R (z + (j + 1)) (R (z + j)) = cr R (z + j) (R (z + j)) + 1 from cr_eq rfl]
    congr 1
  · rw [pk_un e, h r hr, show cr R (z + (j + 1)) r = cr R (z + j) r from cr_ne (fun q => e q.symm)]
/-- repeated, j rows of the lead looked at -/
noncomputable def hmB (R : Nat → Nat) (z ln j : Nat) : Bool := decide (j + 1 = ln ∧ R (z + j) = 0 ∧ cr R (z + j) 0 = 1)
noncomputable def rpo (R : Nat → Nat) (z ln j : Nat) : Bool := @Nat.rec (fun _ => Bool) false (fun j b => or b (and (Nat.blt 0 (cr R (z + j) (R (z + j)))) (!(hmB R z ln j)))) j
theorem rpo_s (R : Nat → Nat) (z ln j : Nat) : rpo R z ln (j + 1) = or (rpo R z ln j) (and (Nat.blt 0 (cr R (z + j) (R (z + j)))) (!(hmB R z ln j))) := rfl
noncomputable def rpv (n ln : Nat) (mt : Nat → Nat → Nat) (rcs : List Nat) (k : Nat) : Bool := decide (jlp n ln mt rcs k < ln ∧ ¬ (jlp n ln mt rcs k + 1 = ln ∧ PR n ln mt (k :: rcs) (rcs.length * ln + 1 + jlp n ln mt rcs k) = 0))
theorem rpo_f {R : Nat → Nat} {z ln : Nat} : ∀ {J : Nat}, (∀ j, j < J → inR R (z + j) (R (z + j)) = false) → rpo R z ln J = false
  | 0, _ => rfl
  | J + 1, h => by
    rw [rpo_s, rpo_f (fun j hj => h j (by omega))]
    have h1 : ¬ 0 < cr R (z + J) (R (z + J)) := fun q => by rw [cr_in, h J (by omega)] at q; cases q
    rw [show cr R (z + J) (R (z + J)) = 0 by omega]
    rfl
theorem rpo_t {R : Nat → Nat} {z ln J : Nat} (h : rpo R z ln J = true) : ∀ d, rpo R z ln (J + d) = true
  | 0 => h
  | d + 1 => by rw [show J + (d + 1) = (J + d) + 1 by omega, rpo_s, rpo_t h d]; rfl
theorem rpt_PR {n ln j k : Nat} {mt : Nat → Nat → Nat} {rcs : List Nat} (h : j < ln) : rpt n (mt k) (PR n ln mt rcs (rcs.length * ln)) (rcs.length * ln + 1) (PR n ln mt rcs) j = inR (PR n ln mt (k :: rcs)) (rcs.length * ln + 1 + j) (PR n ln mt (k :: rcs) (rcs.length * ln + 1 + j)) := by
  unfold rpt
  rw [show PR n ln mt (k :: rcs) (rcs.length * ln + 1 + j) = ld n (mt k) (PR n ln mt rcs (rcs.length * ln)) (j + 1) by rw [show rcs.length * ln + 1 + j = rcs.length * ln + (j + 1) by omega]; exact PR_ld (by omega)]
  rfl
theorem jlp_no {n ln j k : Nat} {mt : Nat → Nat → Nat} {rcs : List Nat} (h : j < jlp n ln mt rcs k) : inR (PR n ln mt (k :: rcs)) (rcs.length * ln + 1 + j) (PR n ln mt (k :: rcs) (rcs.length * ln + 1 + j)) = false := by
  have hl : jlp n ln mt rcs k ≤ ln := lf_le _ _
  rw [← rpt_PR (by omega)]
  exact lf_no (n := ln) h
theorem jlp_yes {n ln k : Nat} {mt : Nat → Nat → Nat} {rcs : List Nat} (h : jlp n ln mt rcs k < ln) : inR (PR n ln mt (k :: rcs)) (rcs.length * ln + 1 + jlp n ln mt rcs k) (PR n ln mt (k :: rcs) (rcs.length * ln + 1 + jlp n ln mt rcs k)) = true := by
  rw [← rpt_PR h]
  exact lf_yes (n := ln) h
theorem PR_0 {n ln : Nat} {mt : Nat → Nat → Nat} : ∀ rcs, PR n ln mt rcs 0 = 0
  | [] => rfl
  | k :: rcs => by rw [PR_lo (Nat.zero_le _)]; exact PR_0 rcs
/-- no row of the path but the first is rounds -/
def nz (n ln : Nat) (mt : Nat → Nat → Nat) (rcs : List Nat) : Prop := ∀ i, 0 < i → i ≤ rcs.length * ln → PR n ln mt rcs i ≠ 0
theorem nz_more {n ln k : Nat} {mt : Nat → Nat → Nat} {rcs : List Nat} (h : nz n ln mt rcs) {i : Nat} (h0 : 0 < i) (hi : i < rcs.length * ln + 1 + jlp n ln mt rcs k) : PR n ln mt (k :: rcs) i ≠ 0 := by
  by_cases e : i ≤ rcs.length * ln
  · rw [PR_lo e]; exact h i h0 e
  · intro q
    have h1 := jlp_no (n := n) (ln := ln) (mt := mt) (rcs := rcs) (k := k) (j := i - (rcs.length * ln + 1)) (by omega)
    rw [show rcs.length * ln + 1 + (i - (rcs.length * ln + 1)) = i by omega, q] at h1
    have h2 := (inR_iff (PR n ln mt (k :: rcs)) 0 i).mpr ⟨0, h0, PR_0 _⟩
    rw [h1] at h2; cases h2
theorem nz_down {n ln k : Nat} {mt : Nat → Nat → Nat} {rcs : List Nat} (h : nz n ln mt rcs) (hj : jlp n ln mt rcs k = ln) : nz n ln mt (k :: rcs) := fun i h0 hi => by
  rw [List.length_cons, Nat.succ_mul] at hi
  exact nz_more h h0 (by omega)
theorem rpo_end {n ln k : Nat} {mt : Nat → Nat → Nat} {rcs : List Nat} (h : nz n ln mt rcs) : rpo (PR n ln mt (k :: rcs)) (rcs.length * ln + 1) ln ln = rpv n ln mt rcs k := by
  have hl : jlp n ln mt rcs k ≤ ln := lf_le _ _
  have h1 : rpo (PR n ln mt (k :: rcs)) (rcs.length * ln + 1) ln (jlp n ln mt rcs k) = false := rpo_f (fun j hj => jlp_no hj)
  unfold rpv
  by_cases e : jlp n ln mt rcs k = ln
  · rw [decide_eq_false (fun q => by omega)]
    rw [e] at h1; exact h1
  · have hlt : jlp n ln mt rcs k < ln := by omega
    have h2 := cr_in.mpr (jlp_yes hlt)
    have h3 := rpo_s (PR n ln mt (k :: rcs)) (rcs.length * ln + 1) ln (jlp n ln mt rcs k)
    rw [h1, blt_t h2, Bool.false_or, Bool.true_and] at h3
    have h4 : cr (PR n ln mt (k :: rcs)) (rcs.length * ln + 1 + jlp n ln mt rcs k) 0 = 1 := cr_one (PR_0 _) (by omega) (fun i a b => nz_more h a b)
    by_cases q : jlp n ln mt rcs k + 1 = ln ∧ PR n ln mt (k :: rcs) (rcs.length * ln + 1 + jlp n ln mt rcs k) = 0
    · rw [decide_eq_false (fun z => z.2 q)]
      unfold hmB at h3
      rw [decide_eq_true ⟨q.1, q.2, h4⟩, q.1] at h3
      exact h3
    · rw [decide_eq_true ⟨hlt, q⟩]
      unfold hmB at h3
      rw [decide_eq_false (fun z => q ⟨z.1, z.2.1⟩)] at h3
      have h5 := rpo_t (J := jlp n ln mt rcs k + 1) h3 (ln - (jlp n ln mt rcs k + 1))
      rw [show jlp n ln mt rcs k + 1 + (ln - (jlp n ln mt rcs k + 1)) = ln by omega] at h5
      exact h5
/-- the reference's rows of a path -/
def pth (n ln : Nat) (mt : Nat → Nat → Nat) (rcs : List Nat) (B Rk : Nat → Int32) : Prop := ∀ i, i ≤ rcs.length * ln → bh n i (PR n ln mt rcs i) B ∧ Rk i = nI (PR n ln mt rcs i)
theorem pth_up {n ln k : Nat} {mt : Nat → Nat → Nat} {rcs : List Nat} {B Rk : Nat → Int32} (h : pth n ln mt (k :: rcs) B Rk) : pth n ln mt rcs B Rk := fun i hi => by
  have := h i (by rw [List.length_cons, Nat.succ_mul]; omega)
  rw [PR_lo hi] at this; exact this
theorem pth_lead {n ln k : Nat} {mt : Nat → Nat → Nat} {rcs : List Nat} {B Rk B2 Rk2 : Nat → Int32} (hn : nb n) (h : pth n ln mt rcs B Rk)
    (h0 : ∀ j, j ≤ ln → bh n (rcs.length * ln + j) (ld n (mt k) (PR n ln mt rcs (rcs.length * ln)) j) B2) (h1 : ∀ j, 1 ≤ j → j ≤ ln → Rk2 (rcs.length * ln + j) = nI (ld n (mt k) (PR n ln mt rcs (rcs.length * ln)) j)) (h2 : ∀ q, q < 6 * (rcs.length * ln) + 6 → B2 q = B q) (h3 : ∀ i, i ≤ rcs.length * ln → Rk2 i = Rk i) : pth n ln mt (k :: rcs) B2 Rk2 := fun i hi => by
  rw [List.length_cons, Nat.succ_mul] at hi
  by_cases e : i ≤ rcs.length * ln
  · have := h i e
    rw [PR_lo e]
    exact ⟨bh_keep hn this.1 (fun q hq => h2 q (by omega)), by rw [h3 i e]; exact this.2⟩
  · obtain ⟨j, rfl⟩ : ∃ j, i = rcs.length * ln + j := ⟨i - rcs.length * ln, by omega⟩
    rw [PR_ld (by omega)]
    exact ⟨h0 j (by omega), h1 j (by omega) (by omega)⟩
theorem xz_F (b : Bool) : fits .boolean (.int (nI b.toNat)) = true := by cases b <;> rfl
