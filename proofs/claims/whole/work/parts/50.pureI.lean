/-! looking: what stays, step by step -/
def LI (n ln : Nat) (mt : Nat → Nat → Nat) (bu : Nat) (on : Bool) (rcs : List Nat) (S : LSt) (z : Nat) (R : Nat → Nat) (rk nu tl : Nat → Int32) (lc : Nat) : Prop :=
  si z R rk nu ∧ rcs.length * ln + 1 ≤ z ∧ (∀ i, i ≤ rcs.length * ln → R i = PR n ln mt rcs i) ∧ S.1 ≤ bu ∧ S.2.1 ≤ S.1 ∧ (∀ a, a < rcs.length → tl a = nI (rcs.reverse.getD a 0)) ∧ (on = true → 0 < S.2.1 → lc = S.2.2.2.length ∧ ∀ a, a < S.2.2.2.length → tl a = nI (S.2.2.2.reverse.getD a 0))
theorem rev_lt {k a : Nat} {rcs : List Nat} (h : a < rcs.length) : (k :: rcs).reverse.getD a 0 = rcs.reverse.getD a 0 := by
  rw [List.reverse_cons, List.getD_eq_getElem?_getD, List.getD_eq_getElem?_getD, List.getElem?_append_left (by rw [List.length_reverse]; exact h)]
theorem rev_eq {k : Nat} {rcs : List Nat} : (k :: rcs).reverse.getD rcs.length 0 = k := by
  rw [List.reverse_cons, List.getD_eq_getElem?_getD, List.getElem?_append_right (by rw [List.length_reverse]; exact Nat.le_refl _), List.length_reverse, Nat.sub_self]
  rfl
theorem PR_cons (n ln : Nat) (mt : Nat → Nat → Nat) (k : Nat) (rcs : List Nat) : PR n ln mt (k :: rcs) = RL n (mt k) (PR n ln mt rcs (rcs.length * ln)) (rcs.length * ln + 1) (PR n ln mt rcs) := rfl
theorem PR_lo {n ln k i : Nat} {mt : Nat → Nat → Nat} {rcs : List Nat} (h : i ≤ rcs.length * ln) : PR n ln mt (k :: rcs) i = PR n ln mt rcs i := by
  rw [PR_cons]; unfold RL; rw [if_pos (by omega)]
theorem PR_ld {n ln k j : Nat} {mt : Nat → Nat → Nat} {rcs : List Nat} (h : j ≤ ln) : PR n ln mt (k :: rcs) (rcs.length * ln + j) = ld n (mt k) (PR n ln mt rcs (rcs.length * ln)) j := by
  rw [PR_cons]; unfold RL
  split
  · rename_i h1
    rw [show j = 0 by omega]
    rfl
  · rw [show rcs.length * ln + j + 1 - (rcs.length * ln + 1) = j by omega]
theorem PR_lt {n ln k : Nat} {mt : Nat → Nat → Nat} {rcs : List Nat} (hn : nb n) (hm : ∀ j, j < ln → gd n (mt k j) = true) (h : ∀ i, i ≤ rcs.length * ln → PR n ln mt rcs i < fa n) : ∀ i, i ≤ (k :: rcs).length * ln → PR n ln mt (k :: rcs) i < fa n := by
  intro i hi
  rw [List.length_cons, Nat.succ_mul] at hi
  by_cases e : i ≤ rcs.length * ln
  · rw [PR_lo e]; exact h i e
  · obtain ⟨j, rfl⟩ : ∃ j, i = rcs.length * ln + j := ⟨i - rcs.length * ln, by omega⟩
    rw [PR_ld (by omega)]
    exact ld_lt hn hm (h _ (Nat.le_refl _)) j (by omega)
theorem LI_back {n ln bu lc k z : Nat} {mt : Nat → Nat → Nat} {on : Bool} {rcs : List Nat} {S : LSt} {R : Nat → Nat} {rk nu tl : Nat → Int32} (h : LI n ln mt bu on (k :: rcs) S z R rk nu tl lc) : LI n ln mt bu on rcs S z R rk nu tl lc := by
  obtain ⟨h1, h2, h3, h4, h5, h6, h7⟩ := h
  rw [List.length_cons] at h2 h3 h6
  rw [Nat.succ_mul] at h2 h3
  refine ⟨h1, by omega, fun i hi => ?_, h4, h5, fun a ha => ?_, h7⟩
  · rw [h3 i (by omega)]; exact PR_lo hi
  · rw [h6 a (by omega)]; congr 1; exact rev_lt ha
theorem LI_down {n ln bu lc k : Nat} {mt : Nat → Nat → Nat} {on : Bool} {rcs : List Nat} {S2 : LSt} {rk nu tl : Nat → Int32} (hs : si (rcs.length * ln + 1 + ln) (PR n ln mt (k :: rcs)) rk nu) (h1 : S2.1 ≤ bu) (h2 : S2.2.1 ≤ S2.1) (h3 : ∀ a, a < rcs.length → tl a = nI (rcs.reverse.getD a 0)) (h4 : on = true → ¬ 0 < S2.2.1) : LI n ln mt bu on (k :: rcs) S2 (rcs.length * ln + 1 + ln) (PR n ln mt (k :: rcs)) rk nu (upd tl rcs.length (nI k)) lc := by
  refine ⟨hs, by rw [List.length_cons, Nat.succ_mul]; omega, fun i _ => rfl, h1, h2, fun a ha => ?_, fun q1 q2 => absurd q2 (h4 q1)⟩
  rw [List.length_cons] at ha
  by_cases e : a = rcs.length
  · rw [e, pk_us, rev_eq]
  · rw [pk_un e, h3 a (by omega)]; congr 1; exact (rev_lt (by omega)).symm
theorem LI_here {n ln bu lc k z : Nat} {mt : Nat → Nat → Nat} {on : Bool} {rcs : List Nat} {S2 : LSt} {R : Nat → Nat} {rk nu tl : Nat → Int32} (hs : si z R rk nu) (hz : rcs.length * ln + 1 ≤ z) (hR : ∀ i, i ≤ rcs.length * ln → R i = PR n ln mt rcs i) (h1 : S2.1 ≤ bu) (h2 : S2.2.1 ≤ S2.1) (h3 : ∀ a, a < rcs.length → tl a = nI (rcs.reverse.getD a 0)) (h4 : on = true → ¬ 0 < S2.2.1) : LI n ln mt bu on rcs S2 z R rk nu (upd tl rcs.length (nI k)) lc :=
  ⟨hs, hz, hR, h1, h2, fun a ha => by rw [pk_un (by omega)]; exact h3 a ha, fun q1 q2 => absurd q2 (h4 q1)⟩
theorem LI_found {n ln bu k z : Nat} {mt : Nat → Nat → Nat} {on : Bool} {rcs : List Nat} {a b : Nat} {c : Bool} {R : Nat → Nat} {rk nu tl : Nat → Int32} (hs : si z R rk nu) (hz : rcs.length * ln + 1 ≤ z) (hR : ∀ i, i ≤ rcs.length * ln → R i = PR n ln mt rcs i) (h1 : a ≤ bu) (h2 : b ≤ a) (h3 : ∀ a, a < rcs.length → tl a = nI (rcs.reverse.getD a 0)) : LI n ln mt bu on rcs (a, b, c, k :: rcs) z R rk nu (upd tl rcs.length (nI k)) (rcs.length + 1) :=
  ⟨hs, hz, hR, h1, h2, fun a ha => by rw [pk_un (by omega)]; exact h3 a ha, fun _ _ => ⟨rfl, fun q hq => by
    have hq2 : q < (k :: rcs).length := hq
    rw [List.length_cons] at hq2
    show upd tl rcs.length (nI k) q = nI ((k :: rcs).reverse.getD q 0)
    by_cases e : q = rcs.length
    · rw [e, pk_us, rev_eq]
    · rw [pk_un e, h3 q (by omega)]; congr 1; exact (rev_lt (by omega)).symm⟩⟩
theorem lend_no {on : Bool} {S : LSt} (h : lend on S = false) : S.2.2.1 = false ∧ (on = true → ¬ 0 < S.2.1) := by
  unfold lend at h
  rw [Bool.or_eq_false_iff] at h
  refine ⟨h.1, fun h1 h2 => ?_⟩
  rw [h1, show Nat.blt 0 S.2.1 = true from blt_t h2] at h
  exact absurd h.2 (by decide)
section LKS
variable {n ln : Nat} {mt : Nat → Nat → Nat} {hc : Nat → Bool} {least most budget : Nat} {one : Bool} {rb : List Nat → LSt → LSt} {rcs : List Nat} {S : LSt}
theorem LK_0 : LK n ln mt hc least budget one rb rcs 0 S = S := rfl
theorem LK_end (h : lend one S = true) : ∀ c, LK n ln mt hc least budget one rb rcs c S = S
  | 0 => rfl
  | c + 1 => by
    show LK n ln mt hc least budget one rb rcs c (if lend one S then S else if hc (2 - c) then LA n ln mt least budget rb rcs (2 - c) S else S) = S
    rw [if_pos h]; exact LK_end h c
theorem LK_no {c k : Nat} (h : lend one S = false) (hk : 2 - c = k) (h2 : hc k = false) : LK n ln mt hc least budget one rb rcs (c + 1) S = LK n ln mt hc least budget one rb rcs c S := by
  show LK n ln mt hc least budget one rb rcs c (if lend one S then S else if hc (2 - c) then LA n ln mt least budget rb rcs (2 - c) S else S) = _
  rw [if_neg (by rw [h]; decide), hk, if_neg (by rw [h2]; decide)]
theorem LK_go {c k : Nat} (h : lend one S = false) (hk : 2 - c = k) (h2 : hc k = true) : LK n ln mt hc least budget one rb rcs (c + 1) S = LK n ln mt hc least budget one rb rcs c (LA n ln mt least budget rb rcs k S) := by
  show LK n ln mt hc least budget one rb rcs c (if lend one S then S else if hc (2 - c) then LA n ln mt least budget rb rcs (2 - c) S else S) = _
  rw [if_neg (by rw [h]; decide), hk, if_pos h2]
theorem LB_s {u : Nat} (h : (rcs.length + 1) * ln ≤ most) : LB n ln mt hc least most budget one (u + 1) rcs S = LK n ln mt hc least budget one (LB n ln mt hc least most budget one u) rcs 3 S := by
  show (if (rcs.length + 1) * ln ≤ most then _ else S) = _
  rw [if_pos h]
theorem LB_n {u : Nat} (h : ¬ (rcs.length + 1) * ln ≤ most) : LB n ln mt hc least most budget one (u + 1) rcs S = S := by
  show (if (rcs.length + 1) * ln ≤ most then _ else S) = _
  rw [if_neg h]
theorem LA_b {k : Nat} (h : S.1 = budget) : LA n ln mt least budget rb rcs k S = (S.1, S.2.1, true, S.2.2.2) := by unfold LA; rw [if_pos h]
theorem LA_r {k : Nat} (h : S.1 ≠ budget) (h2 : jlp n ln mt rcs k = ln) : LA n ln mt least budget rb rcs k S = rb (k :: rcs) (S.1 + 1, S.2.1, S.2.2.1, S.2.2.2) := by unfold LA; rw [if_neg h, if_pos h2]
theorem LA_f {k : Nat} (h : S.1 ≠ budget) (h2 : jlp n ln mt rcs k ≠ ln) (h3 : lok n ln mt least rcs k) : LA n ln mt least budget rb rcs k S = (S.1 + 1, S.2.1 + 1, S.2.2.1, k :: rcs) := by unfold LA; rw [if_neg h, if_neg h2, if_pos h3]
theorem LA_n {k : Nat} (h : S.1 ≠ budget) (h2 : jlp n ln mt rcs k ≠ ln) (h3 : ¬ lok n ln mt least rcs k) : LA n ln mt least budget rb rcs k S = (S.1 + 1, S.2.1, S.2.2.1, S.2.2.2) := by unfold LA; rw [if_neg h, if_neg h2, if_neg h3]
end LKS
section XLQ
variable {p : Program} {l : Launch} {e : Env} {R : Room} {s : State} {m : MethodId} {args : Array Value} {below : List Frame} {meth : Method} {c : Code} {H : Heap} {locs : List Loc} {cells slots : Nat} {Q : State → Prop} {pc : Nat} {ls : Array Slot} {st : List Value}
theorem xl_9 {A1 A2 A3 A4 A5 A6 A7 A8 A9 : Type} (I : A1 → A2 → A3 → A4 → A5 → A6 → A7 → A8 → A9 → Array Slot → Heap → List Loc → Prop) (μ : A1 → A2 → A3 → A4 → A5 → A6 → A7 → A8 → A9 → Nat)
    (step : ∀ (a1 : A1) (a2 : A2) (a3 : A3) (a4 : A4) (a5 : A5) (a6 : A6) (a7 : A7) (a8 : A8) (a9 : A9) (ls : Array Slot) (H : Heap) (locs : List Loc), I a1 a2 a3 a4 a5 a6 a7 a8 a9 ls H locs → (∀ (b1 : A1) (b2 : A2) (b3 : A3) (b4 : A4) (b5 : A5) (b6 : A6) (b7 : A7) (b8 : A8) (b9 : A9) (ls : Array Slot) (H : Heap) (locs : List Loc), μ b1 b2 b3 b4 b5 b6 b7 b8 b9 < μ a1 a2 a3 a4 a5 a6 a7 a8 a9 → I b1 b2 b3 b4 b5 b6 b7 b8 b9 ls H locs → W p l e R s m args below meth c H locs cells slots Q (F0 m pc ls st)) → W p l e R s m args below meth c H locs cells slots Q (F0 m pc ls st))
    (a1 : A1) (a2 : A2) (a3 : A3) (a4 : A4) (a5 : A5) (a6 : A6) (a7 : A7) (a8 : A8) (a9 : A9) (h : I a1 a2 a3 a4 a5 a6 a7 a8 a9 ls H locs) : W p l e R s m args below meth c H locs cells slots Q (F0 m pc ls st) := by
  suffices hh : ∀ (n : Nat) (a1 : A1) (a2 : A2) (a3 : A3) (a4 : A4) (a5 : A5) (a6 : A6) (a7 : A7) (a8 : A8) (a9 : A9) (ls : Array Slot) (H : Heap) (locs : List Loc), μ a1 a2 a3 a4 a5 a6 a7 a8 a9 < n → I a1 a2 a3 a4 a5 a6 a7 a8 a9 ls H locs → W p l e R s m args below meth c H locs cells slots Q (F0 m pc ls st) from hh _ a1 a2 a3 a4 a5 a6 a7 a8 a9 ls H locs (Nat.lt_succ_self _) h
  intro n
  induction n with
  | zero => intro a1 a2 a3 a4 a5 a6 a7 a8 a9 ls H locs hn; exact absurd hn (Nat.not_lt_zero _)
  | succ n ih => intro a1 a2 a3 a4 a5 a6 a7 a8 a9 ls H locs hn hI; exact step a1 a2 a3 a4 a5 a6 a7 a8 a9 ls H locs hI (fun b1 b2 b3 b4 b5 b6 b7 b8 b9 ls H locs h1 h2 => ih b1 b2 b3 b4 b5 b6 b7 b8 b9 ls H locs (Nat.lt_of_lt_of_le h1 (Nat.le_of_lt_succ hn)) h2)
theorem xj_9 {A1 A2 A3 A4 A5 A6 A7 A8 A9 : Type} (I : A1 → A2 → A3 → A4 → A5 → A6 → A7 → A8 → A9 → Array Slot → Heap → List Loc → Prop) (pcj : Nat) (stj : A1 → A2 → A3 → A4 → A5 → A6 → A7 → A8 → A9 → List Value) (cells2 slots2 : Nat)
    (kk : ∀ (a1 : A1) (a2 : A2) (a3 : A3) (a4 : A4) (a5 : A5) (a6 : A6) (a7 : A7) (a8 : A8) (a9 : A9) (ls : Array Slot) (H : Heap) (locs : List Loc), I a1 a2 a3 a4 a5 a6 a7 a8 a9 ls H locs → W p l e R s m args below meth c H locs cells2 slots2 Q (F0 m pcj ls (stj a1 a2 a3 a4 a5 a6 a7 a8 a9)))
    (body : (∀ (a1 : A1) (a2 : A2) (a3 : A3) (a4 : A4) (a5 : A5) (a6 : A6) (a7 : A7) (a8 : A8) (a9 : A9) (ls : Array Slot) (H : Heap) (locs : List Loc), I a1 a2 a3 a4 a5 a6 a7 a8 a9 ls H locs → W p l e R s m args below meth c H locs cells2 slots2 Q (F0 m pcj ls (stj a1 a2 a3 a4 a5 a6 a7 a8 a9))) → W p l e R s m args below meth c H locs cells slots Q (F0 m pc ls st)) : W p l e R s m args below meth c H locs cells slots Q (F0 m pc ls st) := body kk
theorem xl_10 {A1 A2 A3 A4 A5 A6 A7 A8 A9 A10 : Type} (I : A1 → A2 → A3 → A4 → A5 → A6 → A7 → A8 → A9 → A10 → Array Slot → Heap → List Loc → Prop) (μ : A1 → A2 → A3 → A4 → A5 → A6 → A7 → A8 → A9 → A10 → Nat)
    (step : ∀ (a1 : A1) (a2 : A2) (a3 : A3) (a4 : A4) (a5 : A5) (a6 : A6) (a7 : A7) (a8 : A8) (a9 : A9) (a10 : A10) (ls : Array Slot) (H : Heap) (locs : List Loc), I a1 a2 a3 a4 a5 a6 a7 a8 a9 a10 ls H locs → (∀ (b1 : A1) (b2 : A2) (b3 : A3) (b4 : A4) (b5 : A5) (b6 : A6) (b7 : A7) (b8 : A8) (b9 : A9) (b10 : A10) (ls : Array Slot) (H : Heap) (locs : List Loc), μ b1 b2 b3 b4 b5 b6 b7 b8 b9 b10 < μ a1 a2 a3 a4 a5 a6 a7 a8 a9 a10 → I b1 b2 b3 b4 b5 b6 b7 b8 b9 b10 ls H locs → W p l e R s m args below meth c H locs cells slots Q (F0 m pc ls st)) → W p l e R s m args below meth c H locs cells slots Q (F0 m pc ls st))
    (a1 : A1) (a2 : A2) (a3 : A3) (a4 : A4) (a5 : A5) (a6 : A6) (a7 : A7) (a8 : A8) (a9 : A9) (a10 : A10) (h : I a1 a2 a3 a4 a5 a6 a7 a8 a9 a10 ls H locs) : W p l e R s m args below meth c H locs cells slots Q (F0 m pc ls st) := by
  suffices hh : ∀ (n : Nat) (a1 : A1) (a2 : A2) (a3 : A3) (a4 : A4) (a5 : A5) (a6 : A6) (a7 : A7) (a8 : A8) (a9 : A9) (a10 : A10) (ls : Array Slot) (H : Heap) (locs : List Loc), μ a1 a2 a3 a4 a5 a6 a7 a8 a9 a10 < n → I a1 a2 a3 a4 a5 a6 a7 a8 a9 a10 ls H locs → W p l e R s m args below meth c H locs cells slots Q (F0 m pc ls st) from hh _ a1 a2 a3 a4 a5 a6 a7 a8 a9 a10 ls H locs (Nat.lt_succ_self _) h
  intro n
  induction n with
  | zero => intro a1 a2 a3 a4 a5 a6 a7 a8 a9 a10 ls H locs hn; exact absurd hn (Nat.not_lt_zero _)
  | succ n ih => intro a1 a2 a3 a4 a5 a6 a7 a8 a9 a10 ls H locs hn hI; exact step a1 a2 a3 a4 a5 a6 a7 a8 a9 a10 ls H locs hI (fun b1 b2 b3 b4 b5 b6 b7 b8 b9 b10 ls H locs h1 h2 => ih b1 b2 b3 b4 b5 b6 b7 b8 b9 b10 ls H locs (Nat.lt_of_lt_of_le h1 (Nat.le_of_lt_succ hn)) h2)
theorem xj_10 {A1 A2 A3 A4 A5 A6 A7 A8 A9 A10 : Type} (I : A1 → A2 → A3 → A4 → A5 → A6 → A7 → A8 → A9 → A10 → Array Slot → Heap → List Loc → Prop) (pcj : Nat) (stj : A1 → A2 → A3 → A4 → A5 → A6 → A7 → A8 → A9 → A10 → List Value) (cells2 slots2 : Nat)
    (kk : ∀ (a1 : A1) (a2 : A2) (a3 : A3) (a4 : A4) (a5 : A5) (a6 : A6) (a7 : A7) (a8 : A8) (a9 : A9) (a10 : A10) (ls : Array Slot) (H : Heap) (locs : List Loc), I a1 a2 a3 a4 a5 a6 a7 a8 a9 a10 ls H locs → W p l e R s m args below meth c H locs cells2 slots2 Q (F0 m pcj ls (stj a1 a2 a3 a4 a5 a6 a7 a8 a9 a10)))
    (body : (∀ (a1 : A1) (a2 : A2) (a3 : A3) (a4 : A4) (a5 : A5) (a6 : A6) (a7 : A7) (a8 : A8) (a9 : A9) (a10 : A10) (ls : Array Slot) (H : Heap) (locs : List Loc), I a1 a2 a3 a4 a5 a6 a7 a8 a9 a10 ls H locs → W p l e R s m args below meth c H locs cells2 slots2 Q (F0 m pcj ls (stj a1 a2 a3 a4 a5 a6 a7 a8 a9 a10))) → W p l e R s m args below meth c H locs cells slots Q (F0 m pc ls st)) : W p l e R s m args below meth c H locs cells slots Q (F0 m pc ls st) := body kk
theorem xl_11 {A1 A2 A3 A4 A5 A6 A7 A8 A9 A10 A11 : Type} (I : A1 → A2 → A3 → A4 → A5 → A6 → A7 → A8 → A9 → A10 → A11 → Array Slot → Heap → List Loc → Prop) (μ : A1 → A2 → A3 → A4 → A5 → A6 → A7 → A8 → A9 → A10 → A11 → Nat)
    (step : ∀ (a1 : A1) (a2 : A2) (a3 : A3) (a4 : A4) (a5 : A5) (a6 : A6) (a7 : A7) (a8 : A8) (a9 : A9) (a10 : A10) (a11 : A11) (ls : Array Slot) (H : Heap) (locs : List Loc), I a1 a2 a3 a4 a5 a6 a7 a8 a9 a10 a11 ls H locs → (∀ (b1 : A1) (b2 : A2) (b3 : A3) (b4 : A4) (b5 : A5) (b6 : A6) (b7 : A7) (b8 : A8) (b9 : A9) (b10 : A10) (b11 : A11) (ls : Array Slot) (H : Heap) (locs : List Loc), μ b1 b2 b3 b4 b5 b6 b7 b8 b9 b10 b11 < μ a1 a2 a3 a4 a5 a6 a7 a8 a9 a10 a11 → I b1 b2 b3 b4 b5 b6 b7 b8 b9 b10 b11 ls H locs → W p l e R s m args below meth c H locs cells slots Q (F0 m pc ls st)) → W p l e R s m args below meth c H locs cells slots Q (F0 m pc ls st))
    (a1 : A1) (a2 : A2) (a3 : A3) (a4 : A4) (a5 : A5) (a6 : A6) (a7 : A7) (a8 : A8) (a9 : A9) (a10 : A10) (a11 : A11) (h : I a1 a2 a3 a4 a5 a6 a7 a8 a9 a10 a11 ls H locs) : W p l e R s m args below meth c H locs cells slots Q (F0 m pc ls st) := by
  suffices hh : ∀ (n : Nat) (a1 : A1) (a2 : A2) (a3 : A3) (a4 : A4) (a5 : A5) (a6 : A6) (a7 : A7) (a8 : A8) (a9 : A9) (a10 : A10) (a11 : A11) (ls : Array Slot) (H : Heap) (locs : List Loc), μ a1 a2 a3 a4 a5 a6 a7 a8 a9 a10 a11 < n → I a1 a2 a3 a4 a5 a6 a7 a8 a9 a10 a11 ls H locs → W p l e R s m args below meth c H locs cells slots Q (F0 m pc ls st) from hh _ a1 a2 a3 a4 a5 a6 a7 a8 a9 a10 a11 ls H locs (Nat.lt_succ_self _) h
  intro n
  induction n with
  | zero => intro a1 a2 a3 a4 a5 a6 a7 a8 a9 a10 a11 ls H locs hn; exact absurd hn (Nat.not_lt_zero _)
  | succ n ih => intro a1 a2 a3 a4 a5 a6 a7 a8 a9 a10 a11 ls H locs hn hI; exact step a1 a2 a3 a4 a5 a6 a7 a8 a9 a10 a11 ls H locs hI (fun b1 b2 b3 b4 b5 b6 b7 b8 b9 b10 b11 ls H locs h1 h2 => ih b1 b2 b3 b4 b5 b6 b7 b8 b9 b10 b11 ls H locs (Nat.lt_of_lt_of_le h1 (Nat.le_of_lt_succ hn)) h2)
theorem xj_11 {A1 A2 A3 A4 A5 A6 A7 A8 A9 A10 A11 : Type} (I : A1 → A2 → A3 → A4 → A5 → A6 → A7 → A8 → A9 → A10 → A11 → Array Slot → Heap → List Loc → Prop) (pcj : Nat) (stj : A1 → A2 → A3 → A4 → A5 → A6 → A7 → A8 → A9 → A10 → A11 → List Value) (cells2 slots2 : Nat)
    (kk : ∀ (a1 : A1) (a2 : A2) (a3 : A3) (a4 : A4) (a5 : A5) (a6 : A6) (a7 : A7) (a8 : A8) (a9 : A9) (a10 : A10) (a11 : A11) (ls : Array Slot) (H : Heap) (locs : List Loc), I a1 a2 a3 a4 a5 a6 a7 a8 a9 a10 a11 ls H locs → W p l e R s m args below meth c H locs cells2 slots2 Q (F0 m pcj ls (stj a1 a2 a3 a4 a5 a6 a7 a8 a9 a10 a11)))
    (body : (∀ (a1 : A1) (a2 : A2) (a3 : A3) (a4 : A4) (a5 : A5) (a6 : A6) (a7 : A7) (a8 : A8) (a9 : A9) (a10 : A10) (a11 : A11) (ls : Array Slot) (H : Heap) (locs : List Loc), I a1 a2 a3 a4 a5 a6 a7 a8 a9 a10 a11 ls H locs → W p l e R s m args below meth c H locs cells2 slots2 Q (F0 m pcj ls (stj a1 a2 a3 a4 a5 a6 a7 a8 a9 a10 a11))) → W p l e R s m args below meth c H locs cells slots Q (F0 m pc ls st)) : W p l e R s m args below meth c H locs cells slots Q (F0 m pc ls st) := body kk
theorem xl_12 {A1 A2 A3 A4 A5 A6 A7 A8 A9 A10 A11 A12 : Type} (I : A1 → A2 → A3 → A4 → A5 → A6 → A7 → A8 → A9 → A10 → A11 → A12 → Array Slot → Heap → List Loc → Prop) (μ : A1 → A2 → A3 → A4 → A5 → A6 → A7 → A8 → A9 → A10 → A11 → A12 → Nat)
    (step : ∀ (a1 : A1) (a2 : A2) (a3 : A3) (a4 : A4) (a5 : A5) (a6 : A6) (a7 : A7) (a8 : A8) (a9 : A9) (a10 : A10) (a11 : A11) (a12 : A12) (ls : Array Slot) (H : Heap) (locs : List Loc), I a1 a2 a3 a4 a5 a6 a7 a8 a9 a10 a11 a12 ls H locs → (∀ (b1 : A1) (b2 : A2) (b3 : A3) (b4 : A4) (b5 : A5) (b6 : A6) (b7 : A7) (b8 : A8) (b9 : A9) (b10 : A10) (b11 : A11) (b12 : A12) (ls : Array Slot) (H : Heap) (locs : List Loc), μ b1 b2 b3 b4 b5 b6 b7 b8 b9 b10 b11 b12 < μ a1 a2 a3 a4 a5 a6 a7 a8 a9 a10 a11 a12 → I b1 b2 b3 b4 b5 b6 b7 b8 b9 b10 b11 b12 ls H locs → W p l e R s m args below meth c H locs cells slots Q (F0 m pc ls st)) → W p l e R s m args below meth c H locs cells slots Q (F0 m pc ls st))
    (a1 : A1) (a2 : A2) (a3 : A3) (a4 : A4) (a5 : A5) (a6 : A6) (a7 : A7) (a8 : A8) (a9 : A9) (a10 : A10) (a11 : A11) (a12 : A12) (h : I a1 a2 a3 a4 a5 a6 a7 a8 a9 a10 a11 a12 ls H locs) : W p l e R s m args below meth c H locs cells slots Q (F0 m pc ls st) := by
  suffices hh : ∀ (n : Nat) (a1 : A1) (a2 : A2) (a3 : A3) (a4 : A4) (a5 : A5) (a6 : A6) (a7 : A7) (a8 : A8) (a9 : A9) (a10 : A10) (a11 : A11) (a12 : A12) (ls : Array Slot) (H : Heap) (locs : List Loc), μ a1 a2 a3 a4 a5 a6 a7 a8 a9 a10 a11 a12 < n → I a1 a2 a3 a4 a5 a6 a7 a8 a9 a10 a11 a12 ls H locs → W p l e R s m args below meth c H locs cells slots Q (F0 m pc ls st) from hh _ a1 a2 a3 a4 a5 a6 a7 a8 a9 a10 a11 a12 ls H locs (Nat.lt_succ_self _) h
  intro n
  induction n with
  | zero => intro a1 a2 a3 a4 a5 a6 a7 a8 a9 a10 a11 a12 ls H locs hn; exact absurd hn (Nat.not_lt_zero _)
  | succ n ih => intro a1 a2 a3 a4 a5 a6 a7 a8 a9 a10 a11 a12 ls H locs hn hI; exact step a1 a2 a3 a4 a5 a6 a7 a8 a9 a10 a11 a12 ls H locs hI (fun b1 b2 b3 b4 b5 b6 b7 b8 b9 b10 b11 b12 ls H locs h1 h2 => ih b1 b2 b3 b4 b5 b6 b7 b8 b9 b10 b11 b12 ls H locs (Nat.lt_of_lt_of_le h1 (Nat.le_of_lt_succ hn)) h2)
theorem xj_12 {A1 A2 A3 A4 A5 A6 A7 A8 A9 A10 A11 A12 : Type} (I : A1 → A2 → A3 → A4 → A5 → A6 → A7 → A8 → A9 → A10 → A11 → A12 → Array Slot → Heap → List Loc → Prop) (pcj : Nat) (stj : A1 → A2 → A3 → A4 → A5 → A6 → A7 → A8 → A9 → A10 → A11 → A12 → List Value) (cells2 slots2 : Nat)
    (kk : ∀ (a1 : A1) (a2 : A2) (a3 : A3) (a4 : A4) (a5 : A5) (a6 : A6) (a7 : A7) (a8 : A8) (a9 : A9) (a10 : A10) (a11 : A11) (a12 : A12) (ls : Array Slot) (H : Heap) (locs : List Loc), I a1 a2 a3 a4 a5 a6 a7 a8 a9 a10 a11 a12 ls H locs → W p l e R s m args below meth c H locs cells2 slots2 Q (F0 m pcj ls (stj a1 a2 a3 a4 a5 a6 a7 a8 a9 a10 a11 a12)))
    (body : (∀ (a1 : A1) (a2 : A2) (a3 : A3) (a4 : A4) (a5 : A5) (a6 : A6) (a7 : A7) (a8 : A8) (a9 : A9) (a10 : A10) (a11 : A11) (a12 : A12) (ls : Array Slot) (H : Heap) (locs : List Loc), I a1 a2 a3 a4 a5 a6 a7 a8 a9 a10 a11 a12 ls H locs → W p l e R s m args below meth c H locs cells2 slots2 Q (F0 m pcj ls (stj a1 a2 a3 a4 a5 a6 a7 a8 a9 a10 a11 a12))) → W p l e R s m args below meth c H locs cells slots Q (F0 m pc ls st)) : W p l e R s m args below meth c H locs cells slots Q (F0 m pc ls st) := body kk
end XLQ
