theorem mh_start {n ln : Nat} {mt : Nat → Nat → Nat} {v : Nat → Int32} (h : ∀ j, j < 720 → v j = nI 0) : mh (PR n ln mt []) (([] : List Nat).length * ln + 1) (upd v 0 (nI 1)) := fun r hr => by
  rw [show ([] : List Nat).length * ln + 1 = 0 + 1 by rw [List.length_nil, Nat.zero_mul]]
  by_cases e : r = 0
  · rw [e, pk_us, cr_eq (show PR n ln mt [] 0 = 0 from rfl)]; rfl
  · rw [pk_un e, h r hr, cr_ne (show PR n ln mt [] 0 ≠ r from fun q => e q.symm)]; rfl
theorem pth_start {n ln : Nat} {mt : Nat → Nat → Nat} {B Rk : Nat → Int32} (h1 : bh n 0 0 B) (h2 : Rk 0 = nI 0) : pth n ln mt [] B Rk := fun i hi => by
  rw [List.length_nil, Nat.zero_mul] at hi
  rw [show i = 0 by omega]
  exact ⟨h1, h2⟩
theorem nz_start {n ln : Nat} {mt : Nat → Nat → Nat} : nz n ln mt [] := fun i h0 hi => by
  rw [List.length_nil, Nat.zero_mul] at hi; omega
theorem rpv_f {n ln k : Nat} {mt : Nat → Nat → Nat} {rcs : List Nat} (h : rpv n ln mt rcs k = false) (hj : jlp n ln mt rcs k ≠ ln) : jlp n ln mt rcs k + 1 = ln ∧ PR n ln mt (k :: rcs) (rcs.length * ln + 1 + jlp n ln mt rcs k) = 0 := by
  have h1 := of_decide_eq_false h
  have hl : jlp n ln mt rcs k ≤ ln := lf_le _ _
  exact Classical.byContradiction fun q => h1 ⟨by omega, q⟩
theorem jl_all {n ln k : Nat} {mt : Nat → Nat → Nat} {rcs : List Nat} (h : rpv n ln mt rcs k = false) (h2 : PR n ln mt (k :: rcs) ((rcs.length + 1) * ln) ≠ 0) : jlp n ln mt rcs k = ln := by
  refine Classical.byContradiction fun hj => ?_
  obtain ⟨a, b⟩ := rpv_f h hj
  rw [show rcs.length * ln + 1 + jlp n ln mt rcs k = (rcs.length + 1) * ln by rw [Nat.succ_mul]; omega] at b
  exact h2 b
theorem jl_not {n ln k : Nat} {mt : Nat → Nat → Nat} {rcs : List Nat} (hl : 1 ≤ ln) (h : rpv n ln mt rcs k = true ∨ PR n ln mt (k :: rcs) ((rcs.length + 1) * ln) = 0) (hnz : nz n ln mt rcs) : jlp n ln mt rcs k ≠ ln := fun hj => by
  rcases h with h | h
  · have := (of_decide_eq_true h).1; omega
  · exact nz_down hnz hj ((rcs.length + 1) * ln) (by rw [Nat.succ_mul]; omega) (by rw [List.length_cons]; exact Nat.le_refl _) h
theorem lok_iff {n ln k le : Nat} {mt : Nat → Nat → Nat} {rcs : List Nat} (hj : jlp n ln mt rcs k ≠ ln) : lok n ln mt le rcs k ↔ (rpv n ln mt rcs k = false ∧ le ≤ (rcs.length + 1) * ln) := by
  have hl : jlp n ln mt rcs k ≤ ln := lf_le _ _
  have e9 : PR n ln mt (k :: rcs) (rcs.length * ln + 1 + jlp n ln mt rcs k) = ld n (mt k) (PR n ln mt rcs (rcs.length * ln)) (jlp n ln mt rcs k + 1) := by
    rw [show rcs.length * ln + 1 + jlp n ln mt rcs k = rcs.length * ln + (jlp n ln mt rcs k + 1) by omega]; exact PR_ld (by omega)
  constructor
  · rintro ⟨h1, h2, h3⟩
    refine ⟨decide_eq_false (fun q => q.2 ⟨?_, by rw [e9]; exact h3⟩), by omega⟩
    rw [Nat.succ_mul] at h2; omega
  · rintro ⟨h1, h2⟩
    obtain ⟨a, b⟩ := rpv_f h1 hj
    refine ⟨?_, ?_, by rw [← e9]; exact b⟩
    · rw [Nat.succ_mul] at h2; omega
    · rw [Nat.succ_mul]; omega
theorem lend_of {on : Bool} {S : LSt} (h1 : S.2.2.1 = false) (h2 : on = true → ¬ 0 < S.2.1) : lend on S = false := by
  unfold lend
  rw [h1, Bool.false_or]
  cases on with
  | false => rfl
  | true =>
    rw [Bool.true_and]
    have := h2 rfl
    rw [show S.2.1 = 0 by omega]; rfl
theorem lend_sp {on : Bool} {a b : Nat} {r : List Nat} : lend on (a, b, true, r) = true := rfl
theorem lend_fd {on : Bool} {a b : Nat} {c : Bool} {r : List Nat} (h : on = true) : lend on (a, b + 1, c, r) = true := by
  unfold lend; rw [h]; show (c || (true && Nat.blt 0 (b + 1))) = true
  rw [blt_t (show 0 < b + 1 by omega)]; cases c <;> rfl
