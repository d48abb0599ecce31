theorem xg_a {a : Bool} {x : Nat} (h1 : a = true) (h2 : x % 2 = 0) : (and a (Nat.beq (x % 2) 0)) = true := by rw [h1, h2]; rfl
theorem xg_b {a : Bool} {x : Nat} (h1 : a = false) : (and a (Nat.beq (x % 2) 0)) = false := by rw [h1]; rfl
theorem xg_c {a : Bool} {x : Nat} (h2 : x % 2 ≠ 0) : (and a (Nat.beq (x % 2) 0)) = false := by
  rw [show x % 2 = 1 by omega]; cases a <;> rfl
theorem xg_and {a b : Bool} (h : a = b) : a = b := h
theorem xg_ret {a b : Bool} (h : a = b) : nI b.toNat = nI a.toNat := by rw [h]
def hcr (hc : Nat → Int32) (x : Int32) : Bool := decide (x = 0 ∨ (x = nI 1 ∧ hc 1 = nI 1) ∨ (x = nI 2 ∧ hc 2 = nI 1))
theorem hcr_of {x : Int32} (h5 : ¬ x ≤ 0) (h10 : ¬ nI 3 ≤ x) : ∃ k, 0 < k ∧ k < 3 ∧ x = nI k := by
  rcases pk_ix x (show 3 < 2 ^ 31 by decide) with h | h | ⟨j, hj, e⟩
  · exact absurd (Int32.le_of_lt h) h5
  · exact absurd h h10
  · refine ⟨j, Nat.pos_of_ne_zero (fun e0 => h5 ?_), hj, e⟩
    rw [e, e0, nI_0]; exact Int32.le_refl 0
theorem hcr_a {hc : Nat → Int32} {x : Int32} (h : x = 0) : hcr hc x = true := decide_eq_true (Or.inl h)
theorem hcr_b {hc : Nat → Int32} {k : Nat} (h1 : 0 < k) (h3 : k < 3) (hz : hc k = nI 0 ∨ hc k = nI 1) (h : ¬ hc k = 0) : hcr hc (nI k) = true := by
  have h2 : hc k = nI 1 := hz.resolve_left (by rw [nI_0]; exact h)
  rcases (show k = 1 ∨ k = 2 by omega) with e | e
  · rw [e] at h2 ⊢; exact decide_eq_true (Or.inr (Or.inl ⟨rfl, h2⟩))
  · rw [e] at h2 ⊢; exact decide_eq_true (Or.inr (Or.inr ⟨rfl, h2⟩))
theorem hcr_c {hc : Nat → Int32} {x : Int32} (h1 : ¬ x = 0) (h5 : x ≤ 0) : ¬ hcr hc x = true := fun h => by
  rcases of_decide_eq_true h with h | h | h
  · exact h1 h
  · rw [h.1] at h5; exact absurd h5 (by decide)
  · rw [h.1] at h5; exact absurd h5 (by decide)
theorem hcr_d {hc : Nat → Int32} {x : Int32} (h10 : nI 3 ≤ x) : ¬ hcr hc x = true := fun h => by
  rcases of_decide_eq_true h with h | h | h
  · rw [h] at h10; exact absurd h10 (by decide)
  · rw [h.1] at h10; exact absurd h10 (by decide)
  · rw [h.1] at h10; exact absurd h10 (by decide)
theorem hcr_e {hc : Nat → Int32} {k : Nat} (h1 : 0 < k) (h3 : k < 3) (h : hc k = 0) : ¬ hcr hc (nI k) = true := fun h9 => by
  rcases (show k = 1 ∨ k = 2 by omega) with e | e
  · rw [e] at h h9
    rcases of_decide_eq_true h9 with h | h | h
    · exact absurd h (by decide)
    · rename_i h7; rw [h7] at h; exact absurd h.2 (by decide)
    · exact absurd h.1 (by decide)
  · rw [e] at h h9
    rcases of_decide_eq_true h9 with h | h | h
    · exact absurd h (by decide)
    · exact absurd h.1 (by decide)
    · rename_i h7; rw [h7] at h; exact absurd h.2 (by decide)
theorem rg_1 {n k w i q : Nat} {g : Nat → Int32} (h : ∀ j, j < q → g (6 * i + 6 + j) = nI (ro n k (pt w j))) (hp : pt w q = q) : ∀ j, j < q + 1 → upd g (6 * i + 6 + q) (nI (ro n k q)) (6 * i + 6 + j) = nI (ro n k (pt w j)) := by
  intro j hj
  by_cases e : j = q
  · rw [e, pk_us, hp]
  · rw [pk_un (by omega)]; exact h j (by omega)
theorem rg_2 {n k w i q : Nat} {g : Nat → Int32} (h : ∀ j, j < q → g (6 * i + 6 + j) = nI (ro n k (pt w j))) (h1 : pt w q = q + 1) (h2 : pt w (q + 1) = q) : ∀ j, j < q + 2 → upd (upd g (6 * i + 6 + q) (nI (ro n k (q + 1)))) (6 * i + 7 + q) (nI (ro n k q)) (6 * i + 6 + j) = nI (ro n k (pt w j)) := by
  intro j hj
  by_cases e : j = q + 1
  · rw [e, show 6 * i + 6 + (q + 1) = 6 * i + 7 + q by omega, pk_us, h2]
  · rw [pk_un (by omega)]
    by_cases e2 : j = q
    · rw [e2, pk_us, h1]
    · rw [pk_un (by omega)]; exact h j (by omega)
theorem rg_n {n k w i q : Nat} {g : Nat → Int32} (hn : nb n) (hw : gd n w = true) (hk : k < fa n) (h : ∀ j, j < q → g (6 * i + 6 + j) = nI (ro n k (pt w j))) (hq : n ≤ q) : bh n (i + 1) (ch n w k) g := by
  intro j hj
  rw [show 6 * (i + 1) + j = 6 * i + 6 + j by omega, h j (by omega), ch_ok hn hw hk hj]
theorem ra_step {n ln a : Nat} {mt : Nat → Nat → Nat} {tt : Nat → Nat} {B B2 Rk Rk2 : Nat → Int32} (hn : nb n) (h : ∀ i, i ≤ a * ln → bh n i (Rw n ln mt tt i) B ∧ Rk i = nI (Rw n ln mt tt i))
    (h0 : ∀ j, j ≤ ln → bh n (a * ln + j) (ld n (mt (tt a)) (Rw n ln mt tt (a * ln)) j) B2) (h1 : ∀ j, 1 ≤ j → j ≤ ln → Rk2 (a * ln + j) = nI (ld n (mt (tt a)) (Rw n ln mt tt (a * ln)) j)) (h2 : ∀ q, q < 6 * (a * ln) + 6 → B2 q = B q) (h3 : ∀ i, i ≤ a * ln → Rk2 i = Rk i) :
    ∀ i, i ≤ (a + 1) * ln → bh n i (Rw n ln mt tt i) B2 ∧ Rk2 i = nI (Rw n ln mt tt i) := by
  intro i hi
  rw [Nat.succ_mul] at hi
  by_cases e : i ≤ a * ln
  · have := h i e
    exact ⟨bh_keep hn this.1 (fun q hq => h2 q (by omega)), by rw [h3 i e]; exact this.2⟩
  · obtain ⟨j, rfl⟩ : ∃ j, i = a * ln + j := ⟨i - a * ln, by omega⟩
    rw [Rw_ld a j (by omega)]
    exact ⟨h0 j (by omega), h1 j (by omega) (by omega)⟩
theorem fa_mul {q : Nat} (h1 : 2 ≤ q) (h2 : q ≤ 6) : fa (q + 1 - 1) = fa (q - 1) * q := by
  rcases (show q = 2 ∨ q = 3 ∨ q = 4 ∨ q = 5 ∨ q = 6 by omega) with e | e | e | e | e <;> rw [e] <;> rfl
theorem fa_div {n q : Nat} (h1 : q < n) (h2 : n ≤ 6) : fa (n - q) / (n - q) = fa (n - 1 - q) := by
  obtain ⟨m, e⟩ : ∃ m, n - q = m + 1 := ⟨n - q - 1, by omega⟩
  rw [show n - 1 - q = m by omega, e]
  rcases (show m = 0 ∨ m = 1 ∨ m = 2 ∨ m = 3 ∨ m = 4 ∨ m = 5 by omega) with e | e | e | e | e | e <;> rw [e] <;> rfl
theorem xs_us0 : bl (fun u => bl (fun b => (nI u >>> (nI b &&& 31)) &&& nI 1 == nI ((u >>> b) % 2)) 7) 128 = true := by decide +kernel
theorem xs_us {u b : Nat} (hu : u < 128) (hb : b < 7) : (nI u >>> (nI b &&& 31)) &&& nI 1 = nI ((u >>> b) % 2) := eq_of_beq (bl_at (bl_at xs_us0 u hu) b hb)
theorem xs_or0 : bl (fun u => bl (fun b => or (!(Nat.beq ((u >>> b) % 2) 0)) (nI u ||| nI (2 ^ b) == nI (u + 2 ^ b))) 7) 128 = true := by decide +kernel
theorem xs_or {u b : Nat} (hu : u < 128) (hb : b < 7) (h : (u >>> b) % 2 = 0) : nI u ||| nI (2 ^ b) = nI (u + 2 ^ b) := by
  have h1 := bl_at (bl_at xs_or0 u hu) b hb
  rw [h] at h1
  exact eq_of_beq h1
theorem sk_le (n k q : Nat) : ∀ c, sk n k q c ≤ c
  | 0 => Nat.le_refl 0
  | c + 1 => by
    have := sk_le n k q c
    rw [sk_s]
    split <;> omega
theorem sk_sm {n k q c : Nat} (hn : nb n) (hk : k < fa n) (hq : q < n) (hc : c ≤ ro n k q - 1) : sk n k q c < 2147483648 := by
  have h1 := sk_le n k q c
  have h2 := ro_in hn hk hq
  have h3 := hn.2
  omega
theorem su_1 {n k q c : Nat} (hc : 0 < c) (h : c ≤ ro n k q - 1) (hb : (us n k q >>> (ro n k q - c)) % 2 = 1) : sk n k q c = sk n k q (c - 1) := by
  obtain ⟨d, rfl⟩ : ∃ d, c = d + 1 := ⟨c - 1, by omega⟩
  rw [sk_s, show ro n k q - 1 - d = ro n k q - (d + 1) by omega, if_pos hb]
  rfl
theorem su_2 {n k q c : Nat} (hc : 0 < c) (h : c ≤ ro n k q - 1) (hb : (us n k q >>> (ro n k q - c)) % 2 ≠ 1) : sk n k q c - 1 = sk n k q (c - 1) := by
  obtain ⟨d, rfl⟩ : ∃ d, c = d + 1 := ⟨c - 1, by omega⟩
  rw [sk_s, show ro n k q - 1 - d = ro n k q - (d + 1) by omega, if_neg hb]
  rfl
