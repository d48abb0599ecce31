/-! the reference's loop: what is still to be done from a path and a kind on -/
section FINS
variable {n ln : Nat} {mt : Nat → Nat → Nat} {hc : Nat → Bool} {le mo bu : Nat} {on : Bool}
/-- the kinds from kd on, at the path -/
noncomputable def LKr (n ln : Nat) (mt : Nat → Nat → Nat) (hc : Nat → Bool) (le mo bu : Nat) (on : Bool) (rcs : List Nat) (kd : Nat) (S : LSt) : LSt :=
  if rcs.length < 30 ∧ (rcs.length + 1) * ln ≤ mo then LK n ln mt hc le bu on (LB n ln mt hc le mo bu on (29 - rcs.length)) rcs (3 - kd) S else S
noncomputable def FIN (n ln : Nat) (mt : Nat → Nat → Nat) (hc : Nat → Bool) (le mo bu : Nat) (on : Bool) : List Nat → Nat → LSt → LSt
  | [], kd, S => LKr n ln mt hc le mo bu on [] kd S
  | k0 :: rest, kd, S => if lend on (LKr n ln mt hc le mo bu on (k0 :: rest) kd S) then LKr n ln mt hc le mo bu on (k0 :: rest) kd S else FIN n ln mt hc le mo bu on rest (k0 + 1) (LKr n ln mt hc le mo bu on (k0 :: rest) kd S)
theorem FIN_c (k0 : Nat) (rest : List Nat) (kd : Nat) (S : LSt) : FIN n ln mt hc le mo bu on (k0 :: rest) kd S = if lend on (LKr n ln mt hc le mo bu on (k0 :: rest) kd S) then LKr n ln mt hc le mo bu on (k0 :: rest) kd S else FIN n ln mt hc le mo bu on rest (k0 + 1) (LKr n ln mt hc le mo bu on (k0 :: rest) kd S) := rfl
/-- what is done is decided by the kinds' result alone -/
theorem FIN_eq {rcs : List Nat} {kd kd2 : Nat} {S S2 : LSt} (h : LKr n ln mt hc le mo bu on rcs kd S = LKr n ln mt hc le mo bu on rcs kd2 S2) : FIN n ln mt hc le mo bu on rcs kd S = FIN n ln mt hc le mo bu on rcs kd2 S2 := by
  cases rcs with
  | nil => exact h
  | cons k0 rest => rw [FIN_c, FIN_c, h]
theorem FIN_end {rcs : List Nat} {kd : Nat} {S X : LSt} (h : LKr n ln mt hc le mo bu on rcs kd S = X) (he : lend on X = true) : FIN n ln mt hc le mo bu on rcs kd S = X := by
  cases rcs with
  | nil => exact h
  | cons k0 rest => rw [FIN_c, h, if_pos he]
theorem LKr_out {rcs : List Nat} {kd : Nat} {S : LSt} (h : 2 < kd ∨ ¬ (rcs.length < 30 ∧ (rcs.length + 1) * ln ≤ mo)) : LKr n ln mt hc le mo bu on rcs kd S = S := by
  unfold LKr
  split
  · rename_i h1
    rw [show 3 - kd = 0 by rcases h with h | h; omega; exact absurd h1 h]; rfl
  · rfl
theorem FIN_pop {k0 kd : Nat} {rest : List Nat} {S : LSt} (h : 2 < kd ∨ ¬ ((k0 :: rest).length < 30 ∧ ((k0 :: rest).length + 1) * ln ≤ mo)) (hne : lend on S = false) : FIN n ln mt hc le mo bu on (k0 :: rest) kd S = FIN n ln mt hc le mo bu on rest (k0 + 1) S := by
  rw [FIN_c, LKr_out h, if_neg (by rw [hne]; decide)]
theorem LKr_in {rcs : List Nat} {kd : Nat} {S : LSt} (hf : rcs.length < 30 ∧ (rcs.length + 1) * ln ≤ mo) (hk : kd ≤ 2) : LKr n ln mt hc le mo bu on rcs kd S = LK n ln mt hc le bu on (LB n ln mt hc le mo bu on (29 - rcs.length)) rcs ((2 - kd) + 1) S := by
  unfold LKr; rw [if_pos hf, show 3 - kd = (2 - kd) + 1 by omega]
theorem LKr_in2 {rcs : List Nat} {kd : Nat} {S : LSt} (hf : rcs.length < 30 ∧ (rcs.length + 1) * ln ≤ mo) (hk : kd ≤ 2) : LKr n ln mt hc le mo bu on rcs (kd + 1) S = LK n ln mt hc le bu on (LB n ln mt hc le mo bu on (29 - rcs.length)) rcs (2 - kd) S := by
  unfold LKr; rw [if_pos hf, show 3 - (kd + 1) = 2 - kd by omega]
theorem FIN_skip {rcs : List Nat} {kd : Nat} {S : LSt} (hf : rcs.length < 30 ∧ (rcs.length + 1) * ln ≤ mo) (hk : kd ≤ 2) (hne : lend on S = false) (h : hc kd = false) : FIN n ln mt hc le mo bu on rcs kd S = FIN n ln mt hc le mo bu on rcs (kd + 1) S :=
  FIN_eq (by rw [LKr_in hf hk, LKr_in2 hf hk, LK_no hne (by omega) h])
theorem LKr_go {rcs : List Nat} {kd : Nat} {S : LSt} (hf : rcs.length < 30 ∧ (rcs.length + 1) * ln ≤ mo) (hk : kd ≤ 2) (hne : lend on S = false) (h : hc kd = true) : LKr n ln mt hc le mo bu on rcs kd S = LKr n ln mt hc le mo bu on rcs (kd + 1) (LA n ln mt le bu (LB n ln mt hc le mo bu on (29 - rcs.length)) rcs kd S) := by
  rw [LKr_in hf hk, LKr_in2 hf hk, LK_go hne (by omega) h]
theorem LKr_stop {rcs : List Nat} {kd : Nat} {S : LSt} (h : lend on S = true) : LKr n ln mt hc le mo bu on rcs kd S = S := by
  unfold LKr
  split
  · exact LK_end h _
  · rfl
theorem FIN_go {rcs : List Nat} {kd : Nat} {S X : LSt} (hf : rcs.length < 30 ∧ (rcs.length + 1) * ln ≤ mo) (hk : kd ≤ 2) (hne : lend on S = false) (h : hc kd = true) (hX : LA n ln mt le bu (LB n ln mt hc le mo bu on (29 - rcs.length)) rcs kd S = X) : FIN n ln mt hc le mo bu on rcs kd S = FIN n ln mt hc le mo bu on rcs (kd + 1) X :=
  FIN_eq (by rw [LKr_go hf hk hne h, hX])
theorem FIN_stop {rcs : List Nat} {kd : Nat} {S X : LSt} (hf : rcs.length < 30 ∧ (rcs.length + 1) * ln ≤ mo) (hk : kd ≤ 2) (hne : lend on S = false) (h : hc kd = true) (hX : LA n ln mt le bu (LB n ln mt hc le mo bu on (29 - rcs.length)) rcs kd S = X) (he : lend on X = true) : FIN n ln mt hc le mo bu on rcs kd S = X :=
  FIN_end (by rw [LKr_go hf hk hne h, hX, LKr_stop he]) he
theorem LB_LKr {rcs : List Nat} {S : LSt} (h : rcs.length ≤ 30) : LB n ln mt hc le mo bu on (30 - rcs.length) rcs S = LKr n ln mt hc le mo bu on rcs 0 S := by
  unfold LKr
  by_cases e : rcs.length = 30
  · rw [if_neg (by omega), show 30 - rcs.length = 0 by omega]; rfl
  · rw [show 30 - rcs.length = (29 - rcs.length) + 1 by omega]
    by_cases hf : (rcs.length + 1) * ln ≤ mo
    · rw [if_pos ⟨by omega, hf⟩, LB_s hf]
    · rw [if_neg (fun q => hf q.2), LB_n hf]
theorem FIN_down {rcs : List Nat} {kd : Nat} {S : LSt} (hf : rcs.length < 30 ∧ (rcs.length + 1) * ln ≤ mo) (hk : kd ≤ 2) (hne : lend on S = false) (h : hc kd = true) (hb : S.1 ≠ bu) (hj : jlp n ln mt rcs kd = ln) : FIN n ln mt hc le mo bu on rcs kd S = FIN n ln mt hc le mo bu on (kd :: rcs) 0 (S.1 + 1, S.2.1, S.2.2.1, S.2.2.2) := by
  have hX := LA_r (least := le) (rb := LB n ln mt hc le mo bu on (29 - rcs.length)) hb hj
  have h9 := LB_LKr (n := n) (ln := ln) (mt := mt) (hc := hc) (le := le) (mo := mo) (bu := bu) (on := on) (rcs := kd :: rcs) (S := (S.1 + 1, S.2.1, S.2.2.1, S.2.2.2)) (by rw [List.length_cons]; omega)
  rw [List.length_cons, show 30 - (rcs.length + 1) = 29 - rcs.length by omega] at h9
  rw [h9] at hX
  rw [FIN_go hf hk hne h hX, FIN_c]
  by_cases he : lend on (LKr n ln mt hc le mo bu on (kd :: rcs) 0 (S.1 + 1, S.2.1, S.2.2.1, S.2.2.2)) = true
  · rw [if_pos he]; exact FIN_end (LKr_stop he) he
  · rw [if_neg he]
theorem FIN_all : FIN n ln mt hc le mo bu on [] 0 (0, 0, false, []) = LBA n ln mt hc le mo bu on := (LB_LKr (rcs := []) (Nat.zero_le 30)).symm
end FINS
def potR : List Nat → Nat
  | [] => 0
  | k :: r => (3 - k) + potR r
theorem potR_le : ∀ r : List Nat, potR r ≤ 3 * r.length
  | [] => Nat.le_refl 0
  | k :: r => by
    have := potR_le r
    show (3 - k) + potR r ≤ 3 * (r.length + 1)
    omega
/-- the stack 'next' of the path -/
def nxo (rcs : List Nat) (nx : Nat → Int32) : Prop := ∀ a, a < rcs.length → nx a = nI (rcs.reverse.getD a 0 + 1)
theorem nxo_up {k : Nat} {rcs : List Nat} {nx : Nat → Int32} (h : nxo (k :: rcs) nx) : nxo rcs nx ∧ nx rcs.length = nI (k + 1) :=
  ⟨fun a ha => by have h1 := h a (by rw [List.length_cons]; omega); rw [rev_lt ha] at h1; exact h1, by have h1 := h rcs.length (by rw [List.length_cons]; omega); rw [rev_eq] at h1; exact h1⟩
theorem nxo_down {k : Nat} {rcs : List Nat} {nx : Nat → Int32} {x : Int32} (h : nxo rcs nx) : nxo (k :: rcs) (upd (upd nx rcs.length (nI (k + 1))) (rcs.length + 1) x) := fun a ha => by
  rw [List.length_cons] at ha
  rw [pk_un (by omega)]
  by_cases e : a = rcs.length
  · rw [e, pk_us, rev_eq]
  · rw [pk_un e, h a (by omega), rev_lt (by omega)]
theorem nxo_keep {rcs : List Nat} {nx : Nat → Int32} {x : Int32} (h : nxo rcs nx) : nxo rcs (upd nx rcs.length x) := fun a ha => by rw [pk_un (by omega)]; exact h a ha
def lso (rcs : List Nat) (ls : Nat → Int32) : Prop := ∀ a, a < rcs.length → ls a = nI (rcs.reverse.getD a 0)
theorem lso_up {k : Nat} {rcs : List Nat} {ls : Nat → Int32} (h : lso (k :: rcs) ls) : lso rcs ls := fun a ha => by have h1 := h a (by rw [List.length_cons]; omega); rw [rev_lt ha] at h1; exact h1
theorem lso_down {k : Nat} {rcs : List Nat} {ls : Nat → Int32} (h : lso rcs ls) : lso (k :: rcs) (upd ls rcs.length (nI k)) := fun a ha => by
  rw [List.length_cons] at ha
  by_cases e : a = rcs.length
  · rw [e, pk_us, rev_eq]
  · rw [pk_un e, h a (by omega), rev_lt (by omega)]
theorem lso_keep {rcs : List Nat} {ls : Nat → Int32} {x : Int32} (h : lso rcs ls) : lso rcs (upd ls rcs.length x) := fun a ha => by rw [pk_un (by omega)]; exact h a ha
