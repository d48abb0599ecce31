/-! numbers: Int32 facts on small naturals -/
/-- the array holds the row with rank k -/
def hold (n k : Nat) (f : Nat → Int32) : Prop := ∀ p, p < n → f p = nI (ro n k p)
theorem xq_ne {a b : Nat} (h : a ≠ b) : Nat.beq a b = false := by
  cases h9 : Nat.beq a b with
  | false => rfl
  | true => exact absurd (Nat.eq_of_beq_eq_true h9) h
def mb (w p : Nat) : Bool := (w >>> p) % 2 == 1
theorem xs_mb0 : bl (fun w => bl (fun p => (nI w >>> (nI p &&& 31)) &&& nI 1 == nI ((w >>> p) % 2)) 6) 64 = true := by decide +kernel
theorem xs_mb {w p : Nat} (hw : w < 64) (hp : p < 6) : (nI w >>> (nI p &&& 31)) &&& nI 1 = nI ((w >>> p) % 2) := eq_of_beq (bl_at (bl_at xs_mb0 w hw) p hp)
theorem xs_shl0 : bl (fun p => nI 1 <<< (nI p &&& 31) == nI (2 ^ p)) 7 = true := by decide +kernel
theorem xs_shl {p : Nat} (hp : p < 7) : nI 1 <<< (nI p &&& 31) = nI (2 ^ p) := eq_of_beq (bl_at xs_shl0 p hp)
theorem xs_cl0 : bl (fun b => bl (fun o => nI b &&& (nI (2 ^ o) ^^^ (-1)) == nI (cl b (o + 1))) 6) 64 = true := by decide +kernel
theorem xs_cl {b o : Nat} (hb : b < 64) (h1 : 1 ≤ o) (h6 : o ≤ 6) : nI b &&& (nI (2 ^ (o - 1)) ^^^ (-1)) = nI (cl b o) := by
  have h := eq_of_beq (bl_at (bl_at xs_cl0 b hb) (o - 1) (by omega))
  rw [show o - 1 + 1 = o by omega] at h
  exact h
theorem xs_and0 : bl (fun b => bl (fun o => nI b &&& nI (2 ^ o - 1) == nI (b % 2 ^ o)) 6) 64 = true := by decide +kernel
theorem xs_and {b o : Nat} (hb : b < 64) (ho : o < 6) : nI b &&& nI (2 ^ o - 1) = nI (b % 2 ^ o) := eq_of_beq (bl_at (bl_at xs_and0 b hb) o ho)
theorem xi_m1 {a : Nat} (h : 0 < a) : nI a + Int32.ofInt (-1) = nI (a - 1) := by
  obtain ⟨b, rfl⟩ : ∃ b, a = b + 1 := ⟨a - 1, by omega⟩
  exact pk_m1 b
theorem fa_sm (n : Nat) : fa n < 2147483648 := by
  unfold fa
  repeat' split
  all_goals decide
theorem fa_ne0 (n : Nat) : ¬ nI (fa n) = 0 := nI_ne0 (fa_pos n) (fa_sm n)
def okr (n : Nat) (x : Int32) : Bool := if x < 0 then false else if nI (fa n) ≤ x then false else true
/-- bringForward -/
def bf (p q : Nat) (f : Nat → Int32) (j : Nat) : Int32 := if j < p then f j else if j = p then f q else if j ≤ q then f (j - 1) else f j
theorem bf_step {p q i : Nat} {f g : Nat → Int32} (hpi : p < i) (hiq : i ≤ q) (h : ∀ j, g j = if i < j ∧ j ≤ q then f (j - 1) else f j) : ∀ j, upd g i (g (i - 1)) j = if i - 1 < j ∧ j ≤ q then f (j - 1) else f j := by
  intro j
  unfold upd
  by_cases e : j = i
  · rw [if_pos e, if_pos (by omega), h (i - 1), if_neg (by omega), e]
  · rw [if_neg e, h j]
    by_cases e2 : i < j ∧ j ≤ q
    · rw [if_pos e2, if_pos (by omega)]
    · rw [if_neg e2, if_neg (by omega)]
theorem bf_end {p q i : Nat} {f g : Nat → Int32} (hi : i = p) (hpq : p ≤ q) (h : ∀ j, g j = if i < j ∧ j ≤ q then f (j - 1) else f j) : ∀ j, upd g p (f q) j = bf p q f j := by
  intro j
  unfold upd bf
  subst hi
  by_cases e : j = i
  · rw [if_pos e, if_neg (by omega), if_pos e]
  · rw [if_neg e, h j]
    by_cases e2 : j < i
    · rw [if_pos e2, if_neg (by omega)]
    · rw [if_neg e2, if_neg e]
      by_cases e3 : j ≤ q
      · rw [if_pos e3, if_pos (by omega)]
      · rw [if_neg e3, if_neg (by omega)]
theorem bf_br {n k p : Nat} {f g : Nat → Int32} (hq : p + rs n k p / fa (n - 1 - p) < n) (h : ∀ j, j < n → f j = nI (br n k p j)) (hg : ∀ j, g j = bf p (p + rs n k p / fa (n - 1 - p)) f j) : ∀ j, j < n → g j = nI (br n k (p + 1) j) := by
  intro j hj
  rw [hg j, br_s]
  unfold bf
  by_cases e : j < p
  · rw [if_pos e, if_pos e, h j hj]
  · rw [if_neg e, if_neg e]
    by_cases e2 : j = p
    · rw [if_pos e2, if_pos e2, h _ hq]
    · rw [if_neg e2, if_neg e2]
      by_cases e3 : j ≤ p + rs n k p / fa (n - 1 - p)
      · rw [if_pos e3, if_pos e3, h _ (by omega)]
      · rw [if_neg e3, if_neg e3, h _ hj]
/-- changeBy, done up to place q -/
def cgi (n k w q : Nat) (g : Nat → Int32) : Prop := (∀ j, j < q → g j = nI (ro n k (pt w j))) ∧ ∀ j, q ≤ j → j < n → g j = nI (ro n k j)
theorem cgi_0 {n k w : Nat} {g : Nat → Int32} (h : hold n k g) : cgi n k w 0 g := ⟨fun j hj => absurd hj (Nat.not_lt_zero j), fun j _ hj => h j hj⟩
theorem cgi_1 {n k w q : Nat} {g : Nat → Int32} (hq : q < n) (h : cgi n k w q g) (hp : pt w q = q) : cgi n k w (q + 1) g :=
  ⟨fun j hj => by
    rcases Nat.lt_succ_iff_lt_or_eq.mp hj with h1 | h1
    · exact h.1 j h1
    · rw [h1, hp]; exact h.2 q (Nat.le_refl q) hq, fun j h1 h2 => h.2 j (by omega) h2⟩
theorem cgi_2 {n k w q : Nat} {g : Nat → Int32} (hq : q + 1 < n) (h : cgi n k w q g) (h1 : pt w q = q + 1) (h2 : pt w (q + 1) = q) : cgi n k w (q + 2) (upd (upd g q (g (q + 1))) (q + 1) (g q)) := by
  refine ⟨fun j hj => ?_, fun j h3 h4 => ?_⟩
  · by_cases e : j = q + 1
    · rw [e, pk_us, h2]; exact h.2 q (Nat.le_refl q) (by omega)
    · rw [pk_un e]
      by_cases e2 : j = q
      · rw [e2, pk_us, h1]; exact h.2 (q + 1) (by omega) hq
      · rw [pk_un e2]; exact h.1 j (by omega)
  · rw [pk_un (by omega), pk_un (by omega)]
    exact h.2 j (by omega) h4
theorem cgi_n {n k w q : Nat} {g : Nat → Int32} (hn : nb n) (hw : gd n w = true) (hk : k < fa n) (hq : q ≤ n) (hq2 : n ≤ q + 1) (hs : q < n → st w q = true) (h : cgi n k w q g) : hold n (ch n w k) g := by
  intro j hj
  rw [ch_ok hn hw hk hj]
  by_cases e : j < q
  · exact h.1 j e
  · have e2 : j = q := by omega
    subst e2
    rcases st_at hn hw hj (hs hj) with ⟨-, h1, -⟩ | ⟨-, h1, -⟩
    · rw [h1]; exact h.2 j (Nat.le_refl j) hj
    · omega
/-- the row matches the pattern -/
def mtc (n k : Nat) (g : Nat → Int32) : Bool := decide (∀ p, p < n → g p = 0 ∨ g p = nI (ro n k p))
/-- branches on a boolean -/
theorem toNat_lt (x : Bool) : x.toNat < 2147483648 := by cases x <;> decide
section XWB
variable {p : Program} {l : Launch} {e : Env} {R : Room} {s : State} {m : MethodId} {args : Array Value} {below : List Frame} {meth : Method} {c : Code} {H : Heap} {locs : List Loc} {cells slots : Nat} {Q : State → Prop}
variable {cc : ByteArray} {pc : Nat} {ls : Array Slot} {rest st : List Value}
theorem xb_eqB {x : Bool} (hx : p.tables.exec = Jvm.exec) (hb : c.code = cc) {off : Int} (tgt : Nat) (hdg : decode cc pc = .ok (.ifCond .eq off, 3)) (ht : (pc : Int) + off = (tgt : Int)) (kt : x = false → W p l e R s m args below meth c H locs cells slots Q (F0 m tgt ls rest)) (kf : x = true → W p l e R s m args below meth c H locs cells slots Q (F0 m (pc + 3) ls rest)) : W p l e R s m args below meth c H locs cells slots Q (F0 m pc ls (.int (nI x.toNat) :: rest)) :=
  xb_eq hx hb tgt (toNat_lt x) hdg ht (fun h => kt (by cases x; rfl; cases h)) (fun h => kf (by cases x; exact absurd rfl h; rfl))
theorem xb_neB {x : Bool} (hx : p.tables.exec = Jvm.exec) (hb : c.code = cc) {off : Int} (tgt : Nat) (hdg : decode cc pc = .ok (.ifCond .ne off, 3)) (ht : (pc : Int) + off = (tgt : Int)) (kt : x = true → W p l e R s m args below meth c H locs cells slots Q (F0 m tgt ls rest)) (kf : x = false → W p l e R s m args below meth c H locs cells slots Q (F0 m (pc + 3) ls rest)) : W p l e R s m args below meth c H locs cells slots Q (F0 m pc ls (.int (nI x.toNat) :: rest)) :=
  xb_ne hx hb tgt (toNat_lt x) hdg ht (fun h => kt (by cases x; exact absurd rfl h; rfl)) (fun h => kf (by cases x; rfl; cases h))
end XWB
/-! the method's cells, the set of rows -/
def mkf (ln : Nat) (mk : Nat → Int32) (b1 b2 : Int32) (kd j : Nat) : Int32 := if kd = 0 then mk j else if j = ln - 1 then (if kd = 1 then b1 else b2) else mk j
def hcl (ln : Nat) (b1 b2 x : Int32) : Bool := decide ((x = 0 ∧ 0 < ln) ∨ (x = nI 1 ∧ b1 ≠ (-1)) ∨ (x = nI 2 ∧ b2 ≠ (-1)))
def hfm (mk : Nat → Int32) (len : Nat) : Bool := decide (∀ j, j < len → mk j ≠ (-1))
noncomputable def inR (R : Nat → Nat) (z k : Nat) : Bool := @Nat.rec (fun _ => Bool) false (fun i b => or b (Nat.beq (R i) k)) z
theorem inR_iff (R : Nat → Nat) (k : Nat) : ∀ z, inR R z k = true ↔ ∃ i, i < z ∧ R i = k
  | 0 => ⟨fun h => (by cases h), fun ⟨i, h, _⟩ => absurd h (Nat.not_lt_zero i)⟩
  | z + 1 => by
    have e : inR R (z + 1) k = or (inR R z k) (Nat.beq (R z) k) := rfl
    rw [e, Bool.or_eq_true, inR_iff R k z]
    constructor
    · rintro (⟨i, h1, h2⟩ | h)
      · exact ⟨i, by omega, h2⟩
      · exact ⟨z, by omega, Nat.eq_of_beq_eq_true h⟩
    · rintro ⟨i, h1, h2⟩
      rcases Nat.lt_succ_iff_lt_or_eq.mp h1 with h | h
      · exact Or.inl ⟨i, h, h2⟩
      · right; rw [← h, h2]; exact Nat.beq_refl k
theorem inR_not {R : Nat → Nat} {z k : Nat} (h : inR R z k = false) : ∀ i, i < z → R i ≠ k := fun i hi he => by
  have := (inR_iff R k z).mpr ⟨i, hi, he⟩
  rw [h] at this; cases this
/-- the set holds the ranks R 0 .. R (z-1), all different; each number stands in its place -/
def si (z : Nat) (R : Nat → Nat) (rk nu : Nat → Int32) : Prop :=
  (∀ i, i < z → rk i = nI (R i) ∧ R i < 720 ∧ nu (R i) = nI i) ∧ (∀ j, j < 720 → ∃ a, a < 720 ∧ nu j = nI a) ∧ (∀ j, j < 720 → ∃ a, a < 720 ∧ rk j = nI a) ∧ z ≤ 720
theorem si_inj {z : Nat} {R : Nat → Nat} {rk nu : Nat → Int32} (h : si z R rk nu) {i j : Nat} (hi : i < z) (hj : j < z) (e : R i = R j) : i = j := by
  have h1 := (h.1 i hi).2.2
  have h2 := (h.1 j hj).2.2
  have h4 := h.2.2.2
  rw [e] at h1
  exact (nI_eq (by omega) (by omega)).mp (h1.symm.trans h2)
theorem si_0 {z : Nat} {R : Nat → Nat} {rk nu : Nat → Int32} (h : si z R rk nu) (R2 : Nat → Nat) : si 0 R2 rk nu := ⟨fun i hi => absurd hi (Nat.not_lt_zero i), h.2.1, h.2.2.1, Nat.zero_le _⟩
theorem si_drop {z y : Nat} {R : Nat → Nat} {rk nu : Nat → Int32} (h : si z R rk nu) (hy : y ≤ z) : si y R rk nu := ⟨fun i hi => h.1 i (by omega), h.2.1, h.2.2.1, by have := h.2.2.2; omega⟩
theorem si_ext {z : Nat} {R R2 : Nat → Nat} {rk nu : Nat → Int32} (h : si z R rk nu) (e : ∀ i, i < z → R2 i = R i) : si z R2 rk nu := ⟨fun i hi => by rw [e i hi]; exact h.1 i hi, h.2⟩
/-- has: the number a that stands at k -/
theorem si_has {z k a : Nat} {R : Nat → Nat} {rk nu : Nat → Int32} (h : si z R rk nu) (ha : nu k = nI a) (ha2 : a < 720) : inR R z k = true ↔ a < z ∧ rk a = nI k ∧ k < 720 := by
  have h4 := h.2.2.2
  rw [inR_iff]
  constructor
  · rintro ⟨i, h1, h2⟩
    have h3 := h.1 i h1
    rw [h2] at h3
    have e : a = i := (nI_eq (by omega) (by omega)).mp (ha.symm.trans h3.2.2)
    rw [e]
    exact ⟨h1, h3.1, h3.2.1⟩
  · rintro ⟨h1, h2, h5⟩
    have h3 := h.1 a h1
    exact ⟨a, h1, (nI_eq (by omega) (by omega)).mp (h3.1.symm.trans h2)⟩
theorem si_room {z k : Nat} {R : Nat → Nat} {rk nu : Nat → Int32} (h : si z R rk nu) (hk : k < 720) (hn : inR R z k = false) : z < 720 := by
  have h1 := pg_hole 720 (z + 1) (fun i => if i = z then k else R i) (fun i hi => by
    show (if i = z then k else R i) < 720
    split
    · exact hk
    · exact (h.1 i (by omega)).2.1) (fun i j hi hj e => by
    have e2 : (if i = z then k else R i) = (if j = z then k else R j) := e
    split at e2 <;> split at e2
    · omega
    · exact absurd e2.symm (inR_not hn j (by omega))
    · exact absurd e2 (inR_not hn i (by omega))
    · exact si_inj h (by omega) (by omega) e2)
  omega
/-- one more -/
def rx (R : Nat → Nat) (z k : Nat) : Nat → Nat := fun i => if i = z then k else R i
theorem si_add {z k : Nat} {R : Nat → Nat} {rk nu : Nat → Int32} (h : si z R rk nu) (hk : k < 720) (hn : inR R z k = false) : si (z + 1) (rx R z k) (upd rk z (nI k)) (upd nu k (nI z)) := by
  have hz := si_room h hk hn
  refine ⟨fun i hi => ?_, fun j hj => ?_, fun j hj => ?_, by omega⟩
  · unfold rx
    by_cases e : i = z
    · rw [if_pos e, e]
      exact ⟨pk_us, hk, pk_us⟩
    · rw [if_neg e]
      have h1 := h.1 i (by omega)
      exact ⟨by rw [pk_un e]; exact h1.1, h1.2.1, by rw [pk_un (inR_not hn i (by omega))]; exact h1.2.2⟩
  · by_cases e : j = k
    · rw [e, pk_us]; exact ⟨z, hz, rfl⟩
    · rw [pk_un e]; exact h.2.1 j hj
  · by_cases e : j = z
    · rw [e, pk_us]; exact ⟨k, hk, rfl⟩
    · rw [pk_un e]; exact h.2.2.1 j hj
/-- what add leaves: the numbers and ranks -/
noncomputable def azz (R : Nat → Nat) (z k : Nat) : Nat := if inR R z k then z else z + 1
noncomputable def azR (R : Nat → Nat) (z k : Nat) : Nat → Nat := if inR R z k then R else rx R z k
theorem xp_f {b : Bool} (h : ¬ b = true) : nI 0 = nI b.toNat := by cases b; rfl; exact absurd rfl h
theorem xp_t {b : Bool} (h : b = true) : nI 1 = nI b.toNat := by rw [h]; rfl
/-! leads; the first of a kind -/
/-- the least i below n with P i; n if there is none -/
def lf (P : Nat → Bool) : Nat → Nat
  | 0 => 0
  | n + 1 => if lf P n < n then lf P n else if P n then n else n + 1
theorem lf_le (P : Nat → Bool) : ∀ n, lf P n ≤ n
  | 0 => Nat.le_refl 0
  | n + 1 => by
    have h := lf_le P n
    show (if lf P n < n then lf P n else if P n then n else n + 1) ≤ n + 1
    split
    · omega
    · split <;> omega
theorem lf_no {P : Nat → Bool} : ∀ {n i : Nat}, i < lf P n → P i = false
  | 0, i, h => absurd h (Nat.not_lt_zero i)
  | n + 1, i, h => by
    have h0 := lf_le P n
    have h1 : i < (if lf P n < n then lf P n else if P n then n else n + 1) := h
    split at h1
    · exact lf_no h1
    · split at h1
      · exact lf_no (n := n) (by omega)
      · rename_i h2 h3
        by_cases e : i = n
        · rw [e]; exact Bool.eq_false_iff.mpr h3
        · exact lf_no (n := n) (by omega)
theorem lf_yes {P : Nat → Bool} : ∀ {n : Nat}, lf P n < n → P (lf P n) = true
  | 0, h => absurd h (Nat.not_lt_zero _)
  | n + 1, h => by
    have h1 : (if lf P n < n then lf P n else if P n then n else n + 1) < n + 1 := h
    show P (if lf P n < n then lf P n else if P n then n else n + 1) = true
    split at h1
    · rename_i h2; rw [if_pos h2]; exact lf_yes h2
    · rename_i h2
      rw [if_neg h2]
      split at h1
      · rename_i h3; rw [if_pos h3]; exact h3
      · omega
theorem lf_is {P : Nat → Bool} {n i : Nat} (h1 : ∀ j, j < i → P j = false) (h2 : i ≤ n) (h3 : i < n → P i = true) : lf P n = i := by
  have h4 := lf_le P n
  rcases Nat.lt_trichotomy (lf P n) i with h | h | h
  · have h5 := lf_yes (P := P) (n := n) (by omega)
    rw [h1 _ h] at h5; cases h5
  · exact h
  · have h5 := lf_no (P := P) (n := n) h
    rw [h3 (by omega)] at h5; cases h5
/-- the row after j changes of a lead with the masks mw, from the row k -/
noncomputable def ld (n : Nat) (mw : Nat → Nat) (k j : Nat) : Nat := @Nat.rec (fun _ => Nat) k (fun i r => ch n (mw i) r) j
theorem ld_0 (n : Nat) (mw : Nat → Nat) (k : Nat) : ld n mw k 0 = k := rfl
theorem ld_s (n : Nat) (mw : Nat → Nat) (k j : Nat) : ld n mw k (j + 1) = ch n (mw j) (ld n mw k j) := rfl
/-- the masks of a lead are good, and the cells hold them -/
def gmw (n ln : Nat) (mk : Nat → Int32) (b1 b2 : Int32) (kd : Nat) (mw : Nat → Nat) : Prop := ∀ j, j < ln → mkf ln mk b1 b2 kd j = nI (mw j) ∧ gd n (mw j) = true
theorem ld_lt {n ln k : Nat} {mw : Nat → Nat} (hn : nb n) (hm : ∀ j, j < ln → gd n (mw j) = true) (hk : k < fa n) : ∀ j, j ≤ ln → ld n mw k j < fa n
  | 0, _ => hk
  | j + 1, h => by rw [ld_s]; exact ch_lt hn (hm j h) (ld_lt hn hm hk j (by omega))
/-- the rows that were rung, and behind them those of the lead -/
noncomputable def RL (n : Nat) (mw : Nat → Nat) (k z : Nat) (R : Nat → Nat) : Nat → Nat := fun i => if i < z then R i else ld n mw k (i + 1 - z)
/-- row j + 1 of the lead was rung before -/
noncomputable def rpt (n : Nat) (mw : Nat → Nat) (k z : Nat) (R : Nat → Nat) (j : Nat) : Bool := inR (RL n mw k z R) (z + j) (ld n mw k (j + 1))
noncomputable def jl (n : Nat) (mw : Nat → Nat) (k z : Nat) (R : Nat → Nat) (ln : Nat) : Nat := lf (rpt n mw k z R) ln
def rlr (z ln j : Nat) : Nat := if j = ln then 0 else z + j
def rlk (ln j : Nat) : Nat := if j = ln then ln else j + 1
theorem si_lead {n k z j : Nat} {mw : Nat → Nat} {R : Nat → Nat} {rk nu : Nat → Int32} (h : si (azz (RL n mw k z R) (z + j) (ld n mw k (j + 1))) (azR (RL n mw k z R) (z + j) (ld n mw k (j + 1))) rk nu) (hn : rpt n mw k z R j = false) : si (z + (j + 1)) (RL n mw k z R) rk nu := by
  have hn' : inR (RL n mw k z R) (z + j) (ld n mw k (j + 1)) = false := hn
  unfold azz azR at h
  rw [hn'] at h
  refine si_ext (z := z + (j + 1)) h (fun i hi => ?_)
  show RL n mw k z R i = rx (RL n mw k z R) (z + j) (ld n mw k (j + 1)) i
  unfold rx
  split
  · rename_i e
    rw [e]
    unfold RL
    rw [if_neg (by omega), show z + j + 1 - z = j + 1 by omega]
  · rfl
theorem azz_lead {n k z j : Nat} {mw : Nat → Nat} {R : Nat → Nat} (hn : rpt n mw k z R j = false) : azz (RL n mw k z R) (z + j) (ld n mw k (j + 1)) = z + (j + 1) := by
  have hn' : inR (RL n mw k z R) (z + j) (ld n mw k (j + 1)) = false := hn
  unfold azz
  rw [hn']
  rfl
theorem nx_and (a b : Nat) : nI a &&& nI b = nI (a &&& b) := by
  apply Int32.toBitVec_inj.mp
  show BitVec.ofNat 32 a &&& BitVec.ofNat 32 b = BitVec.ofNat 32 (a &&& b)
  apply BitVec.eq_of_getLsbD_eq
  intro i hi
  simp [hi]
def bc1 (b : Nat) : Nat := b - (b / 2 ^ 1 &&& 1431655765)
def bc2 (b : Nat) : Nat := (bc1 b &&& 858993459) + (bc1 b / 2 ^ 2 &&& 858993459)
def bc3 (b : Nat) : Nat := bc2 b + bc2 b / 2 ^ 4 &&& 252645135
def bc4 (b : Nat) : Nat := bc3 b + bc3 b / 2 ^ 8
def bc5 (b : Nat) : Nat := bc4 b + bc4 b / 2 ^ 16
theorem xs_bc0 : bl (fun b => Nat.ble (b / 2 ^ 1 &&& 1431655765) b && Nat.beq (bc5 b &&& 63) (pc6 b) && Nat.blt (bc1 b) 1000 && Nat.blt (bc2 b) 1000 && Nat.blt (bc3 b) 1000 && Nat.blt (bc4 b) 1000) 64 = true := by decide +kernel
theorem xs_bca {b : Nat} (h : b < 64) : (b / 2 ^ 1 &&& 1431655765) ≤ b ∧ (bc5 b &&& 63) = pc6 b ∧ bc1 b < 1000 ∧ bc2 b < 1000 ∧ bc3 b < 1000 ∧ bc4 b < 1000 := by
  have h1 := bl_at xs_bc0 b h
  simp only [Bool.and_eq_true] at h1
  obtain ⟨⟨⟨⟨⟨a1, a2⟩, a3⟩, a4⟩, a5⟩, a6⟩ := h1
  exact ⟨Nat.le_of_ble_eq_true a1, Nat.eq_of_beq_eq_true a2, Nat.le_of_ble_eq_true a3, Nat.le_of_ble_eq_true a4, Nat.le_of_ble_eq_true a5, Nat.le_of_ble_eq_true a6⟩
theorem xs_bc1 {b : Nat} (h : b < 64) : nI b - nI (b / 2 ^ 1 &&& 1431655765) = nI (bc1 b) := pk_sub (xs_bca h).1
theorem xs_bc5 {b : Nat} (h : b < 64) : (bc5 b &&& 63) = pc6 b := (xs_bca h).2.1
theorem bc_lt {b : Nat} (h : b < 64) : bc1 b < 1000 ∧ bc2 b < 1000 ∧ bc3 b < 1000 ∧ bc4 b < 1000 := (xs_bca h).2.2
