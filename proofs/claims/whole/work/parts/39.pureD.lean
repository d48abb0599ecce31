/-! looking through lists of calls: one picture for the class's recursion and the reference's loop. A path is the list of its kinds, the last call first. -/
/-- the rows of a path -/
noncomputable def PR (n ln : Nat) (mt : Nat → Nat → Nat) : List Nat → Nat → Nat
  | [] => fun _ => 0
  | k :: rcs => RL n (mt k) (PR n ln mt rcs (rcs.length * ln)) (rcs.length * ln + 1) (PR n ln mt rcs)
/-- looked, found, spent, the list found last -/
abbrev LSt : Type := Nat × Nat × Bool × List Nat
def lend (one : Bool) (S : LSt) : Bool := S.2.2.1 || (one && Nat.blt 0 S.2.1)
noncomputable def jlp (n ln : Nat) (mt : Nat → Nat → Nat) (rcs : List Nat) (k : Nat) : Nat := jl n (mt k) (PR n ln mt rcs (rcs.length * ln)) (rcs.length * ln + 1) (PR n ln mt rcs) ln
/-- the first repeated row is the last one, rounds, and there are rows enough -/
noncomputable def lok (n ln : Nat) (mt : Nat → Nat → Nat) (least : Nat) (rcs : List Nat) (k : Nat) : Prop := least ≤ rcs.length * ln + 1 + jlp n ln mt rcs k ∧ rcs.length * ln + 1 + jlp n ln mt rcs k = (rcs.length + 1) * ln ∧ ld n (mt k) (PR n ln mt rcs (rcs.length * ln)) (jlp n ln mt rcs k + 1) = 0
noncomputable def LA (n ln : Nat) (mt : Nat → Nat → Nat) (least budget : Nat) (rb : List Nat → LSt → LSt) (rcs : List Nat) (k : Nat) (S : LSt) : LSt :=
  if S.1 = budget then (S.1, S.2.1, true, S.2.2.2)
  else if jlp n ln mt rcs k = ln then rb (k :: rcs) (S.1 + 1, S.2.1, S.2.2.1, S.2.2.2)
  else @ite _ (lok n ln mt least rcs k) (Classical.propDecidable _) (S.1 + 1, S.2.1 + 1, S.2.2.1, k :: rcs) (S.1 + 1, S.2.1, S.2.2.1, S.2.2.2)
/-- the last c kinds at a path -/
noncomputable def LK (n ln : Nat) (mt : Nat → Nat → Nat) (hc : Nat → Bool) (least budget : Nat) (one : Bool) (rb : List Nat → LSt → LSt) (rcs : List Nat) : Nat → LSt → LSt
  | 0, S => S
  | c + 1, S => LK n ln mt hc least budget one rb rcs c (if lend one S then S else if hc (2 - c) then LA n ln mt least budget rb rcs (2 - c) S else S)
noncomputable def LB (n ln : Nat) (mt : Nat → Nat → Nat) (hc : Nat → Bool) (least most budget : Nat) (one : Bool) : Nat → List Nat → LSt → LSt
  | 0, _, S => S
  | u + 1, rcs, S => if (rcs.length + 1) * ln ≤ most then LK n ln mt hc least budget one (LB n ln mt hc least most budget one u) rcs 3 S else S
/-! the desk's small questions -/
def okp (x : Int32) : Bool := if x < 0 then false else if nI 4 ≤ x then false else true
def okl (n : Nat) (x : Int32) : Bool := if x < nI 1 then false else if nI n < x then false else true
theorem okl_of {n : Nat} {x : Int32} (hn : nb n) (h : okl n x = true) : ∃ q, q < n ∧ x = nI (q + 1) := by
  unfold okl at h
  have h6 := hn.2
  split at h
  · cases h
  · split at h
    · cases h
    · rename_i h1 h2
      rcases pk_ix x (show 7 < 2 ^ 31 by decide) with h3 | h3 | ⟨j, hj, e⟩
      · exact absurd (Int32.lt_trans h3 (by decide)) h1
      · exact absurd (Int32.lt_of_lt_of_le (nI_lt (show n < 7 by omega) (by decide)) h3) h2
      · subst e
        have h4 : ¬ j < 1 := fun q => h1 (nI_lt q (by decide))
        have h5 : ¬ n < j := fun q => h2 (nI_lt q (by omega))
        exact ⟨j - 1, by omega, by rw [show j - 1 + 1 = j by omega]⟩
theorem okp_of {x : Int32} (h : okp x = true) : ∃ q, q < 4 ∧ x = nI q := by
  unfold okp at h
  split at h
  · cases h
  · split at h
    · cases h
    · rename_i h1 h2
      rcases pk_ix x (show 4 < 2 ^ 31 by decide) with h3 | h3 | h3
      · exact absurd h3 h1
      · exact absurd h3 h2
      · exact h3
theorem okr_of {n : Nat} {x : Int32} (h : okr n x = true) : ∃ k, k < fa n ∧ x = nI k := by
  unfold okr at h
  split at h
  · cases h
  · split at h
    · cases h
    · rename_i h1 h2
      rcases pk_ix x (show fa n < 2 ^ 31 from fa_sm n) with h3 | h3 | h3
      · exact absurd h3 h1
      · exact absurd h3 h2
      · exact h3
/-- the touch has the call -/
noncomputable def thas (tq : Nat → Int32) (ct : Nat) (x : Int32) : Bool := decide (∃ j, j < ct ∧ tq j = x)
theorem xi_of {x : Int32} {n : Nat} (hn : n < 2147483648) (h1 : ¬ x < 0) (h2 : ¬ nI n ≤ x) : ∃ j, j < n ∧ x = nI j := by
  rcases pk_ix x (show n < 2 ^ 31 from hn) with h3 | h3 | h3
  · exact absurd h3 h1
  · exact absurd h3 h2
  · exact h3
