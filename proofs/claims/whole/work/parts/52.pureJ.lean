/-! what a look leaves -/
/-- the list found last: calls that there are, at most thirty -/
def rcok (hc : Nat → Bool) (rc : List Nat) : Prop := rc.length ≤ 30 ∧ ∀ k, k ∈ rc → k ≤ 2 ∧ hc k = true
section LBR
variable {n ln : Nat} {mt : Nat → Nat → Nat} {hc : Nat → Bool} {least most budget : Nat} {one : Bool}
theorem LA_rc {rb : List Nat → LSt → LSt} {rcs : List Nat} {k : Nat} {S : LSt} (hrb : ∀ S, rcok hc S.2.2.2 → rcok hc (rb (k :: rcs) S).2.2.2) (hk : rcok hc (k :: rcs)) (hS : rcok hc S.2.2.2) : rcok hc (LA n ln mt least budget rb rcs k S).2.2.2 := by
  by_cases h1 : S.1 = budget
  · rw [LA_b h1]; exact hS
  · by_cases h2 : jlp n ln mt rcs k = ln
    · rw [LA_r h1 h2]; exact hrb _ hS
    · by_cases h3 : lok n ln mt least rcs k
      · rw [LA_f h1 h2 h3]; exact hk
      · rw [LA_n h1 h2 h3]; exact hS
theorem LK_rc {rb : List Nat → LSt → LSt} {rcs : List Nat} (hrb : ∀ k S, k ≤ 2 → hc k = true → rcok hc S.2.2.2 → rcok hc (rb (k :: rcs) S).2.2.2) (hr : rcok hc rcs) (hl : rcs.length < 30) : ∀ c S, c ≤ 3 → rcok hc S.2.2.2 → rcok hc (LK n ln mt hc least budget one rb rcs c S).2.2.2
  | 0, _, _, h => h
  | c + 1, S, hc3, h => by
    show rcok hc (LK n ln mt hc least budget one rb rcs c (if lend one S then S else if hc (2 - c) then LA n ln mt least budget rb rcs (2 - c) S else S)).2.2.2
    refine LK_rc hrb hr hl c _ (by omega) ?_
    split
    · exact h
    · split
      · rename_i h2
        refine LA_rc (fun S hS => hrb _ S (by omega) h2 hS) ⟨by rw [List.length_cons]; omega, fun q hq => ?_⟩ h
        rcases List.mem_cons.mp hq with e | e
        · rw [e]; exact ⟨by omega, h2⟩
        · exact hr.2 q e
      · exact h
theorem LB_rc : ∀ (u : Nat) (rcs : List Nat) (S : LSt), rcs.length + u = 30 → rcok hc rcs → rcok hc S.2.2.2 → rcok hc (LB n ln mt hc least most budget one u rcs S).2.2.2
  | 0, _, _, _, _, h => h
  | u + 1, rcs, S, hu, hr, h => by
    by_cases hf : (rcs.length + 1) * ln ≤ most
    · rw [LB_s hf]
      refine LK_rc (fun k S hk h2 hS => LB_rc u (k :: rcs) S (by rw [List.length_cons]; omega) ⟨by rw [List.length_cons]; omega, fun q hq => ?_⟩ hS) hr (by omega) 3 S (Nat.le_refl 3) h
      rcases List.mem_cons.mp hq with e | e
      · rw [e]; exact ⟨hk, h2⟩
      · exact hr.2 q e
    · rw [LB_n hf]; exact h
end LBR
theorem rc_nil (hc : Nat → Bool) : rcok hc [] := ⟨Nat.zero_le 30, fun _ h => absurd h List.not_mem_nil⟩
theorem LI_start {n ln bu lc : Nat} {mt : Nat → Nat → Nat} {on : Bool} {rk nu tl : Nat → Int32} (h : si 1 (fun _ => 0) rk nu) : LI n ln mt bu on [] (0, 0, false, []) 1 (fun _ => 0) rk nu tl lc :=
  ⟨h, by rw [List.length_nil, Nat.zero_mul]; exact Nat.le_refl 1, fun i _ => rfl, Nat.zero_le _, Nat.le_refl 0, fun a ha => absurd ha (Nat.not_lt_zero a), fun _ h2 => absurd h2 (Nat.lt_irrefl 0)⟩
/-- all that search and count look through -/
noncomputable def LBA (n ln : Nat) (mt : Nat → Nat → Nat) (hc : Nat → Bool) (le mo bu : Nat) (on : Bool) : LSt := LB n ln mt hc le mo bu on 30 [] (0, 0, false, [])
theorem LBA_rc {n ln : Nat} {mt : Nat → Nat → Nat} {hc : Nat → Bool} {le mo bu : Nat} {on : Bool} : rcok hc (LBA n ln mt hc le mo bu on).2.2.2 := LB_rc 30 [] _ rfl (rc_nil hc) (rc_nil hc)
