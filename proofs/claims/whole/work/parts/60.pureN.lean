/-- the limits of a search -/
def slk (x y z : Int32) : Bool := if x < nI 1 then false else if y < x then false else if nI 720 < y then false else if z < nI 1 then false else if nI 2000 < z then false else true
theorem slk_of {x y z : Int32} (h : slk x y z = true) : ∃ le mo bu : Nat, x = nI le ∧ y = nI mo ∧ z = nI bu ∧ 1 ≤ le ∧ le ≤ mo ∧ mo ≤ 720 ∧ 1 ≤ bu ∧ bu ≤ 2000 := by
  unfold slk at h
  by_cases h1 : x < nI 1
  · rw [if_pos h1] at h; cases h
  rw [if_neg h1] at h
  by_cases h2 : y < x
  · rw [if_pos h2] at h; cases h
  rw [if_neg h2] at h
  by_cases h3 : nI 720 < y
  · rw [if_pos h3] at h; cases h
  rw [if_neg h3] at h
  by_cases h4 : z < nI 1
  · rw [if_pos h4] at h; cases h
  rw [if_neg h4] at h
  by_cases h5 : nI 2000 < z
  · rw [if_pos h5] at h; cases h
  have a1 := Int32.not_lt.mp h1
  have a2 := Int32.not_lt.mp h2
  have a3 := Int32.not_lt.mp h3
  have a4 := Int32.not_lt.mp h4
  have a5 := Int32.not_lt.mp h5
  rw [Int32.le_iff_toInt_le] at a1 a2 a3 a4 a5
  rw [show (nI 1).toInt = 1 by decide] at a1 a4
  rw [show (nI 720).toInt = 720 by decide] at a3
  rw [show (nI 2000).toInt = 2000 by decide] at a5
  have gx : ∀ q : Int32, 1 ≤ q.toInt → ∃ k : Nat, q = nI k ∧ q.toInt = k := fun q hq => by
    obtain ⟨k, hk, e⟩ := nI_of (x := q) (fun w => by rw [Int32.lt_iff_toInt_lt] at w; have w : q.toInt < 0 := w; omega)
    refine ⟨k, e, ?_⟩
    rw [e]; exact nI_toInt hk
  obtain ⟨le, e1, f1⟩ := gx x a1
  obtain ⟨mo, e2, f2⟩ := gx y (by omega)
  obtain ⟨bu, e3, f3⟩ := gx z a4
  exact ⟨le, mo, bu, e1, e2, e3, by omega, by omega, by omega, by omega, by omega⟩
theorem srp {a : Nat} {b : Bool} {r : Int32} (e : r = (if b then (-1) else nI a)) (h1 : a ≤ 1) (h : 0 ≤ r) : r = nI (if 0 < a then 1 else if b then 2 else 0) := by
  cases b with
  | true => rw [e, if_pos rfl] at h; exact absurd h (by decide)
  | false =>
    rw [e, if_neg (by decide)]
    rcases Nat.lt_or_ge 0 a with h2 | h2
    · rw [if_pos h2, show a = 1 by omega]
    · rw [if_neg (by omega), show a = 0 by omega]; rfl
theorem srn {a : Nat} {b : Bool} (h1 : a ≤ 1) (h2 : b = true → a = 0) (h : ¬ 0 ≤ (if b then (-1) else nI a : Int32)) : nI 2 = nI (if 0 < a then 1 else if b then 2 else 0) := by
  cases b with
  | true => rw [if_neg (by have := h2 rfl; omega)]; rfl
  | false => rw [if_neg (by decide)] at h; exact absurd (nI_pos' (by omega)) h
