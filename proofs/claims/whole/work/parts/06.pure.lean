/-! numbers: Int32 facts on small naturals -/
/-- the array holds the row with rank k -/
def hold (n k : Nat) (f : Nat → Int32) : Prop := ∀ p, p < n → f p = nI (ro n k p)
def mb (w p : Nat) : Bool := (w >>> p) % 2 == 1
theorem xs_mb0 : bl (fun w => bl (fun p => (nI w >>> (nI p &&& 31)) &&& nI 1 == nI ((w >>> p) % 2)) 6) 64 = true := by decide +kernel
theorem xs_mb {w p : Nat} (hw : w < 64) (hp : p < 6) : (nI w >>> (nI p &&& 31)) &&& nI 1 = nI ((w >>> p) % 2) := eq_of_beq (bl_at (bl_at xs_mb0 w hw) p hp)
theorem xs_shl0 : bl (fun p => nI 1 <<< (nI p &&& 31) == nI (2 ^ p)) 7 = true := by decide +kernel
theorem xs_shl {p : Nat} (hp : p < 7) : nI 1 <<< (nI p &&& 31) = nI (2 ^ p) := eq_of_beq (bl_at xs_shl0 p hp)
theorem xs_cl0 : bl (fun b => bl (fun o => nI b &&& (nI (2 ^ o) ^^^ (-1)) == nI (cl b (o + 1))) 6) 64 = true := by decide +kernel
theorem xs_cl {b o : Nat} (hb : b < 64) (h1 : 1 ≤ o) (h6 : o ≤ 6) : nI b &&& (nI (2 ^ (o - 1)) ^^^ (-1)) = nI (cl b o) := by
  have h := eq_of_beq (bl_at (bl_at xs_cl0 b hb) (o - 1) (by omega))
  rw [show o - 1 + 1 = o by omega] at h
  exact h
theorem xs_and0 : bl (fun b => bl (fun o => nI b &&& nI (2 ^ o - 1) == nI (b % 2 ^ o)) 6) 64 = true := by decide +kernel
theorem xs_and {b o : Nat} (hb : b < 64) (ho : o < 6) : nI b &&& nI (2 ^ o - 1) = nI (b % 2 ^ o) := eq_of_beq (bl_at (bl_at xs_and0 b hb) o ho)
theorem xi_m1 {a : Nat} (h : 0 < a) : nI a + Int32.ofInt (-1) = nI (a - 1) := by
  obtain ⟨b, rfl⟩ : ∃ b, a = b + 1 := ⟨a - 1, by omega⟩
  exact pk_m1 b
theorem fa_sm (n : Nat) : fa n < 2147483648 := by
  unfold fa
  repeat' split
  all_goals decide
theorem fa_ne0 (n : Nat) : ¬ nI (fa n) = 0 := nI_ne0 (fa_pos n) (fa_sm n)
def okr (n : Nat) (x : Int32) : Bool := if x < 0 then false else if nI (fa n) ≤ x then false else true
/-- bringForward -/
def bf (p q : Nat) (f : Nat → Int32) (j : Nat) : Int32 := if j < p then f j else if j = p then f q else if j ≤ q then f (j - 1) else f j
theorem bf_step {p q i : Nat} {f g : Nat → Int32} (hpi : p < i) (hiq : i ≤ q) (h : ∀ j, g j = if i < j ∧ j ≤ q then f (j - 1) else f j) : ∀ j, upd g i (g (i - 1)) j = if i - 1 < j ∧ j ≤ q then f (j - 1) else f j := by
  intro j
  unfold upd
  by_cases e : j = i
  · rw [if_pos e, if_pos (by omega), h (i - 1), if_neg (by omega), e]
  · rw [if_neg e, h j]
    by_cases e2 : i < j ∧ j ≤ q
    · rw [if_pos e2, if_pos (by omega)]
    · rw [if_neg e2, if_neg (by omega)]
theorem bf_end {p q i : Nat} {f g : Nat → Int32} (hi : i = p) (hpq : p ≤ q) (h : ∀ j, g j = if i < j ∧ j ≤ q then f (j - 1) else f j) : ∀ j, upd g p (f q) j = bf p q f j := by
  intro j
  unfold upd bf
  subst hi
  by_cases e : j = i
  · rw [if_pos e, if_neg (by omega), if_pos e]
  · rw [if_neg e, h j]
    by_cases e2 : j < i
    · rw [if_pos e2, if_neg (by omega)]
    · rw [if_neg e2, if_neg e]
      by_cases e3 : j ≤ q
      · rw [if_pos e3, if_pos (by omega)]
      · rw [if_neg e3, if_neg (by omega)]
theorem bf_br {n k p : Nat} {f g : Nat → Int32} (hq : p + rs n k p / fa (n - 1 - p) < n) (h : ∀ j, j < n → f j = nI (br n k p j)) (hg : ∀ j, g j = bf p (p + rs n k p / fa (n - 1 - p)) f j) : ∀ j, j < n → g j = nI (br n k (p + 1) j) := by
  intro j hj
  rw [hg j, br_s]
  unfold bf
  by_cases e : j < p
  · rw [if_pos e, if_pos e, h j hj]
  · rw [if_neg e, if_neg e]
    by_cases e2 : j = p
    · rw [if_pos e2, if_pos e2, h _ hq]
    · rw [if_neg e2, if_neg e2]
      by_cases e3 : j ≤ p + rs n k p / fa (n - 1 - p)
      · rw [if_pos e3, if_pos e3, h _ (by omega)]
      · rw [if_neg e3, if_neg e3, h _ hj]
/-- changeBy, done up to place q -/
def cgi (n k w q : Nat) (g : Nat → Int32) : Prop := (∀ j, j < q → g j = nI (ro n k (pt w j))) ∧ ∀ j, q ≤ j → j < n → g j = nI (ro n k j)
theorem cgi_0 {n k w : Nat} {g : Nat → Int32} (h : hold n k g) : cgi n k w 0 g := ⟨fun j hj => absurd hj (Nat.not_lt_zero j), fun j _ hj => h j hj⟩
theorem cgi_1 {n k w q : Nat} {g : Nat → Int32} (hq : q < n) (h : cgi n k w q g) (hp : pt w q = q) : cgi n k w (q + 1) g :=
  ⟨fun j hj => by
    rcases Nat.lt_succ_iff_lt_or_eq.mp hj with h1 | h1
    · exact h.1 j h1
    · rw [h1, hp]; exact h.2 q (Nat.le_refl q) hq, fun j h1 h2 => h.2 j (by omega) h2⟩
theorem cgi_2 {n k w q : Nat} {g : Nat → Int32} (hq : q + 1 < n) (h : cgi n k w q g) (h1 : pt w q = q + 1) (h2 : pt w (q + 1) = q) : cgi n k w (q + 2) (upd (upd g q (g (q + 1))) (q + 1) (g q)) := by
  refine ⟨fun j hj => ?_, fun j h3 h4 => ?_⟩
  · by_cases e : j = q + 1
    · rw [e, pk_us, h2]; exact h.2 q (Nat.le_refl q) (by omega)
    · rw [pk_un e]
      by_cases e2 : j = q
      · rw [e2, pk_us, h1]; exact h.2 (q + 1) (by omega) hq
      · rw [pk_un e2]; exact h.1 j (by omega)
  · rw [pk_un (by omega), pk_un (by omega)]
    exact h.2 j (by omega) h4
theorem cgi_n {n k w q : Nat} {g : Nat → Int32} (hn : nb n) (hw : gd n w = true) (hk : k < fa n) (hq : q ≤ n) (hq2 : n ≤ q + 1) (hs : q < n → st w q = true) (h : cgi n k w q g) : hold n (ch n w k) g := by
  intro j hj
  rw [ch_ok hn hw hk hj]
  by_cases e : j < q
  · exact h.1 j e
  · have e2 : j = q := by omega
    subst e2
    rcases st_at hn hw hj (hs hj) with ⟨-, h1, -⟩ | ⟨-, h1, -⟩
    · rw [h1]; exact h.2 j (Nat.le_refl j) hj
    · omega
/-- the row matches the pattern -/
def mt (n k : Nat) (g : Nat → Int32) : Bool := decide (∀ p, p < n → g p = 0 ∨ g p = nI (ro n k p))
/-- branches on a boolean -/
theorem toNat_lt (x : Bool) : x.toNat < 2147483648 := by cases x <;> decide
section XWB
variable {p : Program} {l : Launch} {e : Env} {R : Room} {s : State} {m : MethodId} {args : Array Value} {below : List Frame} {meth : Method} {c : Code} {H : Heap} {locs : List Loc} {cells slots : Nat} {Q : State → Prop}
variable {cc : ByteArray} {pc : Nat} {ls : Array Slot} {rest st : List Value}
theorem xb_eqB {x : Bool} (hx : p.tables.exec = Jvm.exec) (hb : c.code = cc) {off : Int} (tgt : Nat) (hdg : decode cc pc = .ok (.ifCond .eq off, 3)) (ht : (pc : Int) + off = (tgt : Int)) (kt : x = false → W p l e R s m args below meth c H locs cells slots Q (F0 m tgt ls rest)) (kf : x = true → W p l e R s m args below meth c H locs cells slots Q (F0 m (pc + 3) ls rest)) : W p l e R s m args below meth c H locs cells slots Q (F0 m pc ls (.int (nI x.toNat) :: rest)) :=
  xb_eq hx hb tgt (toNat_lt x) hdg ht (fun h => kt (by cases x; rfl; cases h)) (fun h => kf (by cases x; exact absurd rfl h; rfl))
theorem xb_neB {x : Bool} (hx : p.tables.exec = Jvm.exec) (hb : c.code = cc) {off : Int} (tgt : Nat) (hdg : decode cc pc = .ok (.ifCond .ne off, 3)) (ht : (pc : Int) + off = (tgt : Int)) (kt : x = true → W p l e R s m args below meth c H locs cells slots Q (F0 m tgt ls rest)) (kf : x = false → W p l e R s m args below meth c H locs cells slots Q (F0 m (pc + 3) ls rest)) : W p l e R s m args below meth c H locs cells slots Q (F0 m pc ls (.int (nI x.toNat) :: rest)) :=
  xb_ne hx hb tgt (toNat_lt x) hdg ht (fun h => kt (by cases x; exact absurd rfl h; rfl)) (fun h => kf (by cases x; rfl; cases h))
end XWB
/-! the method's cells, the set of rows -/
def mkf (ln : Nat) (mk : Nat → Int32) (b1 b2 : Int32) (kd j : Nat) : Int32 := if kd = 0 then mk j else if j = ln - 1 then (if kd = 1 then b1 else b2) else mk j
def hcl (ln : Nat) (b1 b2 x : Int32) : Bool := decide ((x = 0 ∧ 0 < ln) ∨ (x = nI 1 ∧ b1 ≠ (-1)) ∨ (x = nI 2 ∧ b2 ≠ (-1)))
def hfm (mk : Nat → Int32) (len : Nat) : Bool := decide (∀ j, j < len → mk j ≠ (-1))
noncomputable def inR (R : Nat → Nat) (z k : Nat) : Bool := @Nat.rec (fun _ => Bool) false (fun i b => or b (Nat.beq (R i) k)) z
theorem inR_iff (R : Nat → Nat) (k : Nat) : ∀ z, inR R z k = true ↔ ∃ i, i < z ∧ R i = k
  | 0 => ⟨fun h => (by cases h), fun ⟨i, h, _⟩ => absurd h (Nat.not_lt_zero i)⟩
  | z + 1 => by
    have e : inR R (z + 1) k = or (inR R z k) (Nat.beq (R z) k) := rfl
    rw [e, Bool.or_eq_true, inR_iff R k z]
    constructor
    · rintro (⟨i, h1, h2⟩ | h)
      · exact ⟨i, by omega, h2⟩
      · exact ⟨z, by omega, Nat.eq_of_beq_eq_true h⟩
    · rintro ⟨i, h1, h2⟩
      rcases Nat.lt_succ_iff_lt_or_eq.mp h1 with h | h
      · exact Or.inl ⟨i, h, h2⟩
      · right; rw [← h, h2]; exact Nat.beq_refl k
theorem inR_not {R : Nat → Nat} {z k : Nat} (h : inR R z k = false) : ∀ i, i < z → R i ≠ k := fun i hi he => by
  have := (inR_iff R k z).mpr ⟨i, hi, he⟩
  rw [h] at this; cases this
/-- the set holds the ranks R 0 .. R (z-1), all different; each number stands in its place -/
def si (z : Nat) (R : Nat → Nat) (rk nu : Nat → Int32) : Prop :=
  (∀ i, i < z → rk i = nI (R i) ∧ R i < 720 ∧ nu (R i) = nI i) ∧ (∀ j, j < 720 → ∃ a, a < 720 ∧ nu j = nI a) ∧ (∀ j, j < 720 → ∃ a, a < 720 ∧ rk j = nI a) ∧ z ≤ 720
theorem si_inj {z : Nat} {R : Nat → Nat} {rk nu : Nat → Int32} (h : si z R rk nu) {i j : Nat} (hi : i < z) (hj : j < z) (e : R i = R j) : i = j := by
  have h1 := (h.1 i hi).2.2
  have h2 := (h.1 j hj).2.2
  have h4 := h.2.2.2
  rw [e] at h1
  exact (nI_eq (by omega) (by omega)).mp (h1.symm.trans h2)
theorem si_0 {z : Nat} {R : Nat → Nat} {rk nu : Nat → Int32} (h : si z R rk nu) (R2 : Nat → Nat) : si 0 R2 rk nu := ⟨fun i hi => absurd hi (Nat.not_lt_zero i), h.2.1, h.2.2.1, Nat.zero_le _⟩
theorem si_drop {z y : Nat} {R : Nat → Nat} {rk nu : Nat → Int32} (h : si z R rk nu) (hy : y ≤ z) : si y R rk nu := ⟨fun i hi => h.1 i (by omega), h.2.1, h.2.2.1, by have := h.2.2.2; omega⟩
theorem si_ext {z : Nat} {R R2 : Nat → Nat} {rk nu : Nat → Int32} (h : si z R rk nu) (e : ∀ i, i < z → R2 i = R i) : si z R2 rk nu := ⟨fun i hi => by rw [e i hi]; exact h.1 i hi, h.2⟩
/-- has: the number a that stands at k -/
theorem si_has {z k a : Nat} {R : Nat → Nat} {rk nu : Nat → Int32} (h : si z R rk nu) (ha : nu k = nI a) (ha2 : a < 720) : inR R z k = true ↔ a < z ∧ rk a = nI k ∧ k < 720 := by
  have h4 := h.2.2.2
  rw [inR_iff]
  constructor
  · rintro ⟨i, h1, h2⟩
    have h3 := h.1 i h1
    rw [h2] at h3
    have e : a = i := (nI_eq (by omega) (by omega)).mp (ha.symm.trans h3.2.2)
    rw [e]
    exact ⟨h1, h3.1, h3.2.1⟩
  · rintro ⟨h1, h2, h5⟩
    have h3 := h.1 a h1
    exact ⟨a, h1, (nI_eq (by omega) (by omega)).mp (h3.1.symm.trans h2)⟩
theorem si_room {z k : Nat} {R : Nat → Nat} {rk nu : Nat → Int32} (h : si z R rk nu) (hk : k < 720) (hn : inR R z k = false) : z < 720 := by
  have h1 := pg_hole 720 (z + 1) (fun i => if i = z then k else R i) (fun i hi => by
    show (if i = z then k else R i) < 720
    split
    · exact hk
    · exact (h.1 i (by omega)).2.1) (fun i j hi hj e => by
    have e2 : (if i = z then k else R i) = (if j = z then k else R j) := e
    split at e2 <;> split at e2
    · omega
    · exact absurd e2.symm (inR_not hn j (by omega))
    · exact absurd e2 (inR_not hn i (by omega))
    · exact si_inj h (by omega) (by omega) e2)
  omega
/-- one more -/
def rx (R : Nat → Nat) (z k : Nat) : Nat → Nat := fun i => if i = z then k else R i
theorem si_add {z k : Nat} {R : Nat → Nat} {rk nu : Nat → Int32} (h : si z R rk nu) (hk : k < 720) (hn : inR R z k = false) : si (z + 1) (rx R z k) (upd rk z (nI k)) (upd nu k (nI z)) := by
  have hz := si_room h hk hn
  refine ⟨fun i hi => ?_, fun j hj => ?_, fun j hj => ?_, by omega⟩
  · unfold rx
    by_cases e : i = z
    · rw [if_pos e, e]
      exact ⟨pk_us, hk, pk_us⟩
    · rw [if_neg e]
      have h1 := h.1 i (by omega)
      exact ⟨by rw [pk_un e]; exact h1.1, h1.2.1, by rw [pk_un (inR_not hn i (by omega))]; exact h1.2.2⟩
  · by_cases e : j = k
    · rw [e, pk_us]; exact ⟨z, hz, rfl⟩
    · rw [pk_un e]; exact h.2.1 j hj
  · by_cases e : j = z
    · rw [e, pk_us]; exact ⟨k, hk, rfl⟩
    · rw [pk_un e]; exact h.2.2.1 j hj
/-- what add leaves: the numbers and ranks -/
noncomputable def azz (R : Nat → Nat) (z k : Nat) : Nat := if inR R z k then z else z + 1
noncomputable def azR (R : Nat → Nat) (z k : Nat) : Nat → Nat := if inR R z k then R else rx R z k
theorem xp_f {b : Bool} (h : ¬ b = true) : nI 0 = nI b.toNat := by cases b; rfl; exact absurd rfl h
theorem xp_t {b : Bool} (h : b = true) : nI 1 = nI b.toNat := by rw [h]; rfl
/-! leads; the first of a kind -/
/-- the least i below n with P i; n if there is none -/
def lf (P : Nat → Bool) : Nat → Nat
  | 0 => 0
  | n + 1 => if lf P n < n then lf P n else if P n then n else n + 1
theorem lf_le (P : Nat → Bool) : ∀ n, lf P n ≤ n
  | 0 => Nat.le_refl 0
  | n + 1 => by
    have h := lf_le P n
    show (if lf P n < n then lf P n else if P n then n else n + 1) ≤ n + 1
    split
    · omega
    · split <;> omega
theorem lf_no {P : Nat → Bool} : ∀ {n i : Nat}, i < lf P n → P i = false
  | 0, i, h => absurd h (Nat.not_lt_zero i)
  | n + 1, i, h => by
    have h0 := lf_le P n
    have h1 : i < (if lf P n < n then lf P n else if P n then n else n + 1) := h
    split at h1
    · exact lf_no h1
    · split at h1
      · exact lf_no (n := n) (by omega)
      · rename_i h2 h3
        by_cases e : i = n
        · rw [e]; exact Bool.eq_false_iff.mpr h3
        · exact lf_no (n := n) (by omega)
theorem lf_yes {P : Nat → Bool} : ∀ {n : Nat}, lf P n < n → P (lf P n) = true
  | 0, h => absurd h (Nat.not_lt_zero _)
  | n + 1, h => by
    have h1 : (if lf P n < n then lf P n else if P n then n else n + 1) < n + 1 := h
    show P (if lf P n < n then lf P n else if P n then n else n + 1) = true
    split at h1
    · rename_i h2; rw [if_pos h2]; exact lf_yes h2
    · rename_i h2
      rw [if_neg h2]
      split at h1
      · rename_i h3; rw [if_pos h3]; exact h3
      · omega
theorem lf_is {P : Nat → Bool} {n i : Nat} (h1 : ∀ j, j < i → P j = false) (h2 : i ≤ n) (h3 : i < n → P i = true) : lf P n = i := by
  have h4 := lf_le P n
  rcases Nat.lt_trichotomy (lf P n) i with h | h | h
  · have h5 := lf_yes (P := P) (n := n) (by omega)
    rw [h1 _ h] at h5; cases h5
  · exact h
  · have h5 := lf_no (P := P) (n := n) h
    rw [h3 (by omega)] at h5; cases h5
/-- the row after j changes of a lead with the masks mw, from the row k -/
noncomputable def ld (n : Nat) (mw : Nat → Nat) (k j : Nat) : Nat := @Nat.rec (fun _ => Nat) k (fun i r => ch n (mw i) r) j
theorem ld_0 (n : Nat) (mw : Nat → Nat) (k : Nat) : ld n mw k 0 = k := rfl
theorem ld_s (n : Nat) (mw : Nat → Nat) (k j : Nat) : ld n mw k (j + 1) = ch n (mw j) (ld n mw k j) := rfl
/-- the masks of a lead are good, and the cells hold them -/
def gmw (n ln : Nat) (mk : Nat → Int32) (b1 b2 : Int32) (kd : Nat) (mw : Nat → Nat) : Prop := ∀ j, j < ln → mkf ln mk b1 b2 kd j = nI (mw j) ∧ gd n (mw j) = true
theorem ld_lt {n ln k : Nat} {mw : Nat → Nat} (hn : nb n) (hm : ∀ j, j < ln → gd n (mw j) = true) (hk : k < fa n) : ∀ j, j ≤ ln → ld n mw k j < fa n
  | 0, _ => hk
  | j + 1, h => by rw [ld_s]; exact ch_lt hn (hm j h) (ld_lt hn hm hk j (by omega))
/-- the rows that were rung, and behind them those of the lead -/
noncomputable def RL (n : Nat) (mw : Nat → Nat) (k z : Nat) (R : Nat → Nat) : Nat → Nat := fun i => if i < z then R i else ld n mw k (i + 1 - z)
/-- row j + 1 of the lead was rung before -/
noncomputable def rpt (n : Nat) (mw : Nat → Nat) (k z : Nat) (R : Nat → Nat) (j : Nat) : Bool := inR (RL n mw k z R) (z + j) (ld n mw k (j + 1))
noncomputable def jl (n : Nat) (mw : Nat → Nat) (k z : Nat) (R : Nat → Nat) (ln : Nat) : Nat := lf (rpt n mw k z R) ln
def rlr (z ln j : Nat) : Nat := if j = ln then 0 else z + j
def rlk (ln j : Nat) : Nat := if j = ln then ln else j + 1
theorem si_lead {n k z j : Nat} {mw : Nat → Nat} {R : Nat → Nat} {rk nu : Nat → Int32} (h : si (azz (RL n mw k z R) (z + j) (ld n mw k (j + 1))) (azR (RL n mw k z R) (z + j) (ld n mw k (j + 1))) rk nu) (hn : rpt n mw k z R j = false) : si (z + (j + 1)) (RL n mw k z R) rk nu := by
  have hn' : inR (RL n mw k z R) (z + j) (ld n mw k (j + 1)) = false := hn
  unfold azz azR at h
  rw [hn'] at h
  refine si_ext (z := z + (j + 1)) h (fun i hi => ?_)
  show RL n mw k z R i = rx (RL n mw k z R) (z + j) (ld n mw k (j + 1)) i
  unfold rx
  split
  · rename_i e
    rw [e]
    unfold RL
    rw [if_neg (by omega), show z + j + 1 - z = j + 1 by omega]
  · rfl
theorem azz_lead {n k z j : Nat} {mw : Nat → Nat} {R : Nat → Nat} (hn : rpt n mw k z R j = false) : azz (RL n mw k z R) (z + j) (ld n mw k (j + 1)) = z + (j + 1) := by
  have hn' : inR (RL n mw k z R) (z + j) (ld n mw k (j + 1)) = false := hn
  unfold azz
  rw [hn']
  rfl
/-! the reference's rows -/
/-- row i of the grid holds the row with rank k -/
def bh (n i k : Nat) (B : Nat → Int32) : Prop := ∀ p, p < n → B (6 * i + p) = nI (ro n k p)
theorem bh_keep {n i k : Nat} {B B2 : Nat → Int32} (hn : nb n) (h : bh n i k B) (e : ∀ q, q < 6 * i + 6 → B2 q = B q) : bh n i k B2 := fun p hp => by
  have := hn.2
  rw [e _ (by omega)]; exact h p hp
noncomputable def str (w p : Nat) : Nat := @Nat.rec (fun _ => Nat) 0 (fun i s => if (w >>> i) % 2 = 1 then 0 else s + 1) p
noncomputable def gfl (w p : Nat) : Bool := @Nat.rec (fun _ => Bool) true (fun i g => if (w >>> i) % 2 = 1 then and g (Nat.beq (str w i % 2) 0) else g) p
theorem str_s (w p : Nat) : str w (p + 1) = if (w >>> p) % 2 = 1 then 0 else str w p + 1 := rfl
theorem gfl_s (w p : Nat) : gfl w (p + 1) = if (w >>> p) % 2 = 1 then and (gfl w p) (Nat.beq (str w p % 2) 0) else gfl w p := rfl
theorem gfl_n0 {n : Nat} (hn : nb n) : bl (fun w => (and (gfl w n) (Nat.beq (str w n % 2) 0)) == gd n w) (2 ^ n) = true :=
  nb_all (P := fun n => bl (fun w => (and (gfl w n) (Nat.beq (str w n % 2) 0)) == gd n w) (2 ^ n) = true) (by decide +kernel) (by decide +kernel) (by decide +kernel) hn
theorem gfl_n {n w : Nat} (hn : nb n) (hw : w < 2 ^ n) : (and (gfl w n) (Nat.beq (str w n % 2) 0)) = gd n w := eq_of_beq (bl_at (gfl_n0 hn) w hw)
theorem str_le (w : Nat) : ∀ p, str w p ≤ p
  | 0 => Nat.le_refl 0
  | p + 1 => by
    have := str_le w p
    rw [str_s]
    split <;> omega
theorem gfl_no {w : Nat} : ∀ {p q : Nat}, gfl w p = false → p ≤ q → gfl w q = false
  | p, 0, h, hq => by rw [show p = 0 by omega] at h; exact h
  | p, q + 1, h, hq => by
    by_cases e : p = q + 1
    · rw [← e]; exact h
    · have h2 := gfl_no h (show p ≤ q by omega)
      rw [gfl_s]
      split
      · rw [h2]; rfl
      · exact h2
/-- the mask is good, for any int -/
def okm (n : Nat) (x : Int32) : Bool := if x < 0 then false else if nI (2 ^ n) ≤ x then false else gd n x.toNatClampNeg
theorem two_n {n : Nat} (hn : nb n) : 2 ^ n ≤ 64 ∧ 16 ≤ 2 ^ n := by
  rcases nb_cases hn with e | e | e <;> rw [e] <;> decide
theorem okm_of {n : Nat} (hn : nb n) {x : Int32} (h0 : ¬ x < 0) (h1 : ¬ nI (2 ^ n) ≤ x) : ∃ w, w < 2 ^ n ∧ x = nI w := by
  have h2 := (two_n hn).1
  rcases pk_ix x (show 2 ^ n < 2 ^ 31 by omega) with h | h | ⟨j, hj, e⟩
  · exact absurd h h0
  · exact absurd h h1
  · exact ⟨j, hj, e⟩
theorem okm_nI {n w : Nat} (hn : nb n) (hw : w < 2 ^ n) : okm n (nI w) = gd n w := by
  have h2 := (two_n hn).1
  unfold okm
  rw [if_neg (nI_pos (by omega)), if_neg (nI_ge hw (by omega)), nI_clamp (by omega)]
/-- the masks of a lead, as the reference holds them -/
def gmr (n ln : Nat) (km cq : Nat → Int32) (kd : Nat) (mw : Nat → Nat) : Prop := ∀ j, j < ln → (if 0 < kd ∧ j = ln - 1 then cq kd else km j) = nI (mw j) ∧ gd n (mw j) = true
/-- row i of a touch: mt kind step is the mask, tt k the kind of call k -/
noncomputable def Rw (n ln : Nat) (mt : Nat → Nat → Nat) (tt : Nat → Nat) (i : Nat) : Nat := @Nat.rec (fun _ => Nat) 0 (fun i r => ch n (mt (tt (i / ln)) (i % ln)) r) i
theorem Rw_0 (n ln : Nat) (mt : Nat → Nat → Nat) (tt : Nat → Nat) : Rw n ln mt tt 0 = 0 := rfl
theorem Rw_s (n ln : Nat) (mt : Nat → Nat → Nat) (tt : Nat → Nat) (i : Nat) : Rw n ln mt tt (i + 1) = ch n (mt (tt (i / ln)) (i % ln)) (Rw n ln mt tt i) := rfl
theorem Rw_ld {n ln : Nat} {mt : Nat → Nat → Nat} {tt : Nat → Nat} (k : Nat) : ∀ j, j ≤ ln → Rw n ln mt tt (k * ln + j) = ld n (mt (tt k)) (Rw n ln mt tt (k * ln)) j
  | 0, _ => rfl
  | j + 1, h => by
    rw [show k * ln + (j + 1) = (k * ln + j) + 1 by omega, Rw_s, ld_s, Rw_ld k j (by omega)]
    rw [show (k * ln + j) / ln = k by rw [Nat.mul_comm, Nat.mul_add_div (by omega), Nat.div_eq_of_lt (by omega)]; omega, show (k * ln + j) % ln = j by rw [Nat.mul_comm, Nat.mul_add_mod, Nat.mod_eq_of_lt (by omega)]]
theorem Rw_k {n ln : Nat} {mt : Nat → Nat → Nat} {tt : Nat → Nat} (k : Nat) : Rw n ln mt tt ((k + 1) * ln) = ld n (mt (tt k)) (Rw n ln mt tt (k * ln)) ln := by
  rw [Nat.succ_mul]; exact Rw_ld k ln (Nat.le_refl ln)
/-- plain leads one behind another, from rounds -/
noncomputable def itr (n : Nat) (mw : Nat → Nat) (ln a : Nat) : Nat := @Nat.rec (fun _ => Nat) 0 (fun _ r => ld n mw r ln) a
theorem itr_s (n : Nat) (mw : Nat → Nat) (ln a : Nat) : itr n mw ln (a + 1) = ld n mw (itr n mw ln a) ln := rfl
noncomputable def crs (n : Nat) (mw : Nat → Nat) (ln : Nat) : Nat := lf (fun a => Nat.beq (itr n mw ln (a + 1)) 0) 720 + 1
theorem ld_inj {n ln : Nat} {mw : Nat → Nat} (hn : nb n) (hm : ∀ j, j < ln → gd n (mw j) = true) {k k' : Nat} (hk : k < fa n) (hk' : k' < fa n) : ∀ j, j ≤ ln → ld n mw k j = ld n mw k' j → k = k'
  | 0, _, e => e
  | j + 1, h, e => by
    rw [ld_s, ld_s] at e
    have h1 := ch_inv hn (hm j h) (ld_lt hn hm hk j (by omega))
    have h2 := ch_inv hn (hm j h) (ld_lt hn hm hk' j (by omega))
    exact ld_inj hn hm hk hk' j (by omega) (by rw [← h1, ← h2, e])
theorem itr_lt {n ln : Nat} {mw : Nat → Nat} (hn : nb n) (hm : ∀ j, j < ln → gd n (mw j) = true) : ∀ a, itr n mw ln a < fa n
  | 0 => fa_pos n
  | a + 1 => by rw [itr_s]; exact ld_lt hn hm (itr_lt hn hm a) ln (Nat.le_refl ln)
theorem itr_back {n ln : Nat} {mw : Nat → Nat} (hn : nb n) (hm : ∀ j, j < ln → gd n (mw j) = true) : ∀ i d, itr n mw ln i = itr n mw ln (i + d) → itr n mw ln d = 0
  | 0, d, e => by rw [Nat.zero_add] at e; exact e.symm
  | i + 1, d, e => by
    rw [show i + 1 + d = (i + d) + 1 by omega, itr_s, itr_s] at e
    exact itr_back hn hm i d (ld_inj hn hm (itr_lt hn hm i) (itr_lt hn hm (i + d)) ln (Nat.le_refl ln) e)
theorem crs_le {n ln : Nat} {mw : Nat → Nat} (hn : nb n) (hm : ∀ j, j < ln → gd n (mw j) = true) : lf (fun a => Nat.beq (itr n mw ln (a + 1)) 0) 720 < 720 := by
  have h0 := lf_le (fun a => Nat.beq (itr n mw ln (a + 1)) 0) 720
  refine Nat.lt_of_le_of_ne h0 (fun he => ?_)
  have hz : ∀ d, 0 < d → d ≤ 720 → itr n mw ln d ≠ 0 := fun d h1 h2 e => by
    have h3 := lf_no (P := fun a => Nat.beq (itr n mw ln (a + 1)) 0) (n := 720) (i := d - 1) (by omega)
    have h4 : Nat.beq (itr n mw ln (d - 1 + 1)) 0 = false := h3
    rw [show d - 1 + 1 = d by omega, e] at h4
    cases h4
  have h1 := pg_hole 720 721 (fun i => itr n mw ln i) (fun i _ => Nat.lt_of_lt_of_le (itr_lt hn hm i) (fa_le hn)) (fun i j hi hj e => by
    rcases Nat.lt_trichotomy i j with h | h | h
    · exact absurd (itr_back hn hm i (j - i) (by rw [show i + (j - i) = j by omega]; exact e)) (hz _ (by omega) (by omega))
    · exact h
    · exact absurd (itr_back hn hm j (i - j) (by rw [show j + (i - j) = i by omega]; exact e.symm)) (hz _ (by omega) (by omega)))
  omega
/-- the plain leads from a and b have a row in common -/
noncomputable def flm (n : Nat) (mw : Nat → Nat) (ln a b : Nat) : Bool := @decide (∃ j, j < ln ∧ ∃ i, i < ln ∧ ld n mw a (i + 1) = ld n mw b (j + 1)) (Classical.propDecidable _)
theorem azR_in {R : Nat → Nat} {z k : Nat} (q : Nat) : inR (azR R z k) (azz R z k) q = true ↔ inR R z q = true ∨ k = q := by
  unfold azR azz
  cases h : inR R z k with
  | true =>
    simp only [if_true]
    constructor
    · exact Or.inl
    · rintro (h1 | h1)
      · exact h1
      · rw [← h1]; exact h
  | false =>
    simp only [Bool.false_eq_true, if_false]
    rw [inR_iff, inR_iff]
    constructor
    · rintro ⟨i, h1, h2⟩
      unfold rx at h2
      split at h2
      · exact Or.inr h2
      · exact Or.inl ⟨i, by omega, h2⟩
    · rintro (⟨i, h1, h2⟩ | h1)
      · exact ⟨i, by omega, by unfold rx; rw [if_neg (by omega)]; exact h2⟩
      · exact ⟨z, by omega, by unfold rx; rw [if_pos rfl]; exact h1⟩
theorem xm_or {n a j q : Nat} {mw : Nat → Nat} : (∃ i, i < j ∧ ld n mw a (i + 1) = q) ∨ ld n mw a (j + 1) = q ↔ ∃ i, i < j + 1 ∧ ld n mw a (i + 1) = q := by
  constructor
  · rintro (⟨i, h1, h2⟩ | h)
    · exact ⟨i, by omega, h2⟩
    · exact ⟨j, by omega, h⟩
  · rintro ⟨i, h1, h2⟩
    rcases Nat.lt_succ_iff_lt_or_eq.mp h1 with h | h
    · exact Or.inl ⟨i, h, h2⟩
    · right; rw [← h]; exact h2
theorem xm_t {n a b j i ln z : Nat} {mw : Nat → Nat} {R : Nat → Nat} (h4 : ∀ q, inR R z q = true ↔ ∃ i, i < j ∧ ld n mw a (i + 1) = q) (hj : j ≤ ln) (hi : i < ln) (h : inR R z (ld n mw b (i + 1)) = true) : ∃ j, j < ln ∧ ∃ i, i < ln ∧ ld n mw a (i + 1) = ld n mw b (j + 1) := by
  obtain ⟨c, h1, h2⟩ := (h4 _).mp h
  exact ⟨i, hi, c, by omega, h2⟩
theorem xm_f {n a b j i ln z : Nat} {mw : Nat → Nat} {R : Nat → Nat} (h4 : ∀ q, inR R z q = true ↔ ∃ i, i < j ∧ ld n mw a (i + 1) = q) (hj : ln ≤ j) (hi : ln ≤ i) (h3 : ∀ q, q < i → inR R z (ld n mw b (q + 1)) = false) (h : ∃ j, j < ln ∧ ∃ i, i < ln ∧ ld n mw a (i + 1) = ld n mw b (j + 1)) : False := by
  obtain ⟨c, h1, d, h2, h5⟩ := h
  have h6 := (h4 _).mpr ⟨d, by omega, h5⟩
  rw [h3 c (by omega)] at h6
  cases h6
theorem xg_a {a : Bool} {x : Nat} (h1 : a = true) (h2 : x % 2 = 0) : (and a (Nat.beq (x % 2) 0)) = true := by rw [h1, h2]; rfl
theorem xg_b {a : Bool} {x : Nat} (h1 : a = false) : (and a (Nat.beq (x % 2) 0)) = false := by rw [h1]; rfl
theorem xg_c {a : Bool} {x : Nat} (h2 : x % 2 ≠ 0) : (and a (Nat.beq (x % 2) 0)) = false := by
  rw [show x % 2 = 1 by omega]; cases a <;> rfl
theorem xg_and {a b : Bool} (h : a = b) : a = b := h
theorem xg_ret {a b : Bool} (h : a = b) : nI b.toNat = nI a.toNat := by rw [h]
def hcr (hc : Nat → Int32) (x : Int32) : Bool := decide (x = 0 ∨ (x = nI 1 ∧ hc 1 = nI 1) ∨ (x = nI 2 ∧ hc 2 = nI 1))
theorem hcr_of {x : Int32} (h5 : ¬ x ≤ 0) (h10 : ¬ nI 3 ≤ x) : ∃ k, 0 < k ∧ k < 3 ∧ x = nI k := by
  rcases pk_ix x (show 3 < 2 ^ 31 by decide) with h | h | ⟨j, hj, e⟩
  · exact absurd (Int32.le_of_lt h) h5
  · exact absurd h h10
  · refine ⟨j, Nat.pos_of_ne_zero (fun e0 => h5 ?_), hj, e⟩
    rw [e, e0, nI_0]; exact Int32.le_refl 0
theorem hcr_a {hc : Nat → Int32} {x : Int32} (h : x = 0) : hcr hc x = true := decide_eq_true (Or.inl h)
theorem hcr_b {hc : Nat → Int32} {k : Nat} (h1 : 0 < k) (h3 : k < 3) (hz : hc k = nI 0 ∨ hc k = nI 1) (h : ¬ hc k = 0) : hcr hc (nI k) = true := by
  have h2 : hc k = nI 1 := hz.resolve_left (by rw [nI_0]; exact h)
  rcases (show k = 1 ∨ k = 2 by omega) with e | e
  · rw [e] at h2 ⊢; exact decide_eq_true (Or.inr (Or.inl ⟨rfl, h2⟩))
  · rw [e] at h2 ⊢; exact decide_eq_true (Or.inr (Or.inr ⟨rfl, h2⟩))
theorem hcr_c {hc : Nat → Int32} {x : Int32} (h1 : ¬ x = 0) (h5 : x ≤ 0) : ¬ hcr hc x = true := fun h => by
  rcases of_decide_eq_true h with h | h | h
  · exact h1 h
  · rw [h.1] at h5; exact absurd h5 (by decide)
  · rw [h.1] at h5; exact absurd h5 (by decide)
theorem hcr_d {hc : Nat → Int32} {x : Int32} (h10 : nI 3 ≤ x) : ¬ hcr hc x = true := fun h => by
  rcases of_decide_eq_true h with h | h | h
  · rw [h] at h10; exact absurd h10 (by decide)
  · rw [h.1] at h10; exact absurd h10 (by decide)
  · rw [h.1] at h10; exact absurd h10 (by decide)
theorem hcr_e {hc : Nat → Int32} {k : Nat} (h1 : 0 < k) (h3 : k < 3) (h : hc k = 0) : ¬ hcr hc (nI k) = true := fun h9 => by
  rcases (show k = 1 ∨ k = 2 by omega) with e | e
  · rw [e] at h h9
    rcases of_decide_eq_true h9 with h | h | h
    · exact absurd h (by decide)
    · rename_i h7; rw [h7] at h; exact absurd h.2 (by decide)
    · exact absurd h.1 (by decide)
  · rw [e] at h h9
    rcases of_decide_eq_true h9 with h | h | h
    · exact absurd h (by decide)
    · exact absurd h.1 (by decide)
    · rename_i h7; rw [h7] at h; exact absurd h.2 (by decide)
theorem rg_1 {n k w i q : Nat} {g : Nat → Int32} (h : ∀ j, j < q → g (6 * i + 6 + j) = nI (ro n k (pt w j))) (hp : pt w q = q) : ∀ j, j < q + 1 → upd g (6 * i + 6 + q) (nI (ro n k q)) (6 * i + 6 + j) = nI (ro n k (pt w j)) := by
  intro j hj
  by_cases e : j = q
  · rw [e, pk_us, hp]
  · rw [pk_un (by omega)]; exact h j (by omega)
theorem rg_2 {n k w i q : Nat} {g : Nat → Int32} (h : ∀ j, j < q → g (6 * i + 6 + j) = nI (ro n k (pt w j))) (h1 : pt w q = q + 1) (h2 : pt w (q + 1) = q) : ∀ j, j < q + 2 → upd (upd g (6 * i + 6 + q) (nI (ro n k (q + 1)))) (6 * i + 7 + q) (nI (ro n k q)) (6 * i + 6 + j) = nI (ro n k (pt w j)) := by
  intro j hj
  by_cases e : j = q + 1
  · rw [e, show 6 * i + 6 + (q + 1) = 6 * i + 7 + q by omega, pk_us, h2]
  · rw [pk_un (by omega)]
    by_cases e2 : j = q
    · rw [e2, pk_us, h1]
    · rw [pk_un (by omega)]; exact h j (by omega)
theorem rg_n {n k w i q : Nat} {g : Nat → Int32} (hn : nb n) (hw : gd n w = true) (hk : k < fa n) (h : ∀ j, j < q → g (6 * i + 6 + j) = nI (ro n k (pt w j))) (hq : n ≤ q) : bh n (i + 1) (ch n w k) g := by
  intro j hj
  rw [show 6 * (i + 1) + j = 6 * i + 6 + j by omega, h j (by omega), ch_ok hn hw hk hj]
theorem ra_step {n ln a : Nat} {mt : Nat → Nat → Nat} {tt : Nat → Nat} {B B2 Rk Rk2 : Nat → Int32} (hn : nb n) (h : ∀ i, i ≤ a * ln → bh n i (Rw n ln mt tt i) B ∧ Rk i = nI (Rw n ln mt tt i))
    (h0 : ∀ j, j ≤ ln → bh n (a * ln + j) (ld n (mt (tt a)) (Rw n ln mt tt (a * ln)) j) B2) (h1 : ∀ j, 1 ≤ j → j ≤ ln → Rk2 (a * ln + j) = nI (ld n (mt (tt a)) (Rw n ln mt tt (a * ln)) j)) (h2 : ∀ q, q < 6 * (a * ln) + 6 → B2 q = B q) (h3 : ∀ i, i ≤ a * ln → Rk2 i = Rk i) :
    ∀ i, i ≤ (a + 1) * ln → bh n i (Rw n ln mt tt i) B2 ∧ Rk2 i = nI (Rw n ln mt tt i) := by
  intro i hi
  rw [Nat.succ_mul] at hi
  by_cases e : i ≤ a * ln
  · have := h i e
    exact ⟨bh_keep hn this.1 (fun q hq => h2 q (by omega)), by rw [h3 i e]; exact this.2⟩
  · obtain ⟨j, rfl⟩ : ∃ j, i = a * ln + j := ⟨i - a * ln, by omega⟩
    rw [Rw_ld a j (by omega)]
    exact ⟨h0 j (by omega), h1 j (by omega) (by omega)⟩
theorem fa_mul {q : Nat} (h1 : 2 ≤ q) (h2 : q ≤ 6) : fa (q + 1 - 1) = fa (q - 1) * q := by
  rcases (show q = 2 ∨ q = 3 ∨ q = 4 ∨ q = 5 ∨ q = 6 by omega) with e | e | e | e | e <;> rw [e] <;> rfl
theorem fa_div {n q : Nat} (h1 : q < n) (h2 : n ≤ 6) : fa (n - q) / (n - q) = fa (n - 1 - q) := by
  obtain ⟨m, e⟩ : ∃ m, n - q = m + 1 := ⟨n - q - 1, by omega⟩
  rw [show n - 1 - q = m by omega, e]
  rcases (show m = 0 ∨ m = 1 ∨ m = 2 ∨ m = 3 ∨ m = 4 ∨ m = 5 by omega) with e | e | e | e | e | e <;> rw [e] <;> rfl
theorem xs_us0 : bl (fun u => bl (fun b => (nI u >>> (nI b &&& 31)) &&& nI 1 == nI ((u >>> b) % 2)) 7) 128 = true := by decide +kernel
theorem xs_us {u b : Nat} (hu : u < 128) (hb : b < 7) : (nI u >>> (nI b &&& 31)) &&& nI 1 = nI ((u >>> b) % 2) := eq_of_beq (bl_at (bl_at xs_us0 u hu) b hb)
theorem xs_or0 : bl (fun u => bl (fun b => or (!(Nat.beq ((u >>> b) % 2) 0)) (nI u ||| nI (2 ^ b) == nI (u + 2 ^ b))) 7) 128 = true := by decide +kernel
theorem xs_or {u b : Nat} (hu : u < 128) (hb : b < 7) (h : (u >>> b) % 2 = 0) : nI u ||| nI (2 ^ b) = nI (u + 2 ^ b) := by
  have h1 := bl_at (bl_at xs_or0 u hu) b hb
  rw [h] at h1
  exact eq_of_beq h1
theorem sk_le (n k q : Nat) : ∀ c, sk n k q c ≤ c
  | 0 => Nat.le_refl 0
  | c + 1 => by
    have := sk_le n k q c
    rw [sk_s]
    split <;> omega
theorem sk_sm {n k q c : Nat} (hn : nb n) (hk : k < fa n) (hq : q < n) (hc : c ≤ ro n k q - 1) : sk n k q c < 2147483648 := by
  have h1 := sk_le n k q c
  have h2 := ro_in hn hk hq
  have h3 := hn.2
  omega
theorem su_1 {n k q c : Nat} (hc : 0 < c) (h : c ≤ ro n k q - 1) (hb : (us n k q >>> (ro n k q - c)) % 2 = 1) : sk n k q c = sk n k q (c - 1) := by
  obtain ⟨d, rfl⟩ : ∃ d, c = d + 1 := ⟨c - 1, by omega⟩
  rw [sk_s, show ro n k q - 1 - d = ro n k q - (d + 1) by omega, if_pos hb]
  rfl
theorem su_2 {n k q c : Nat} (hc : 0 < c) (h : c ≤ ro n k q - 1) (hb : (us n k q >>> (ro n k q - c)) % 2 ≠ 1) : sk n k q c - 1 = sk n k q (c - 1) := by
  obtain ⟨d, rfl⟩ : ∃ d, c = d + 1 := ⟨c - 1, by omega⟩
  rw [sk_s, show ro n k q - 1 - d = ro n k q - (d + 1) by omega, if_neg hb]
  rfl
/-! looking through lists of calls: one picture for the class's recursion and the reference's loop. A path is the list of its kinds, the last call first. -/
/-- the rows of a path -/
noncomputable def PR (n ln : Nat) (mt : Nat → Nat → Nat) : List Nat → Nat → Nat
  | [] => fun _ => 0
  | k :: rcs => RL n (mt k) (PR n ln mt rcs (rcs.length * ln)) (rcs.length * ln + 1) (PR n ln mt rcs)
/-- looked, found, spent, the list found last -/
abbrev LSt : Type := Nat × Nat × Bool × List Nat
def lend (one : Bool) (S : LSt) : Bool := S.2.2.1 || (one && Nat.blt 0 S.2.1)
noncomputable def jlp (n ln : Nat) (mt : Nat → Nat → Nat) (rcs : List Nat) (k : Nat) : Nat := jl n (mt k) (PR n ln mt rcs (rcs.length * ln)) (rcs.length * ln + 1) (PR n ln mt rcs) ln
/-- the first repeated row is the last one, rounds, and there are rows enough -/
noncomputable def lok (n ln : Nat) (mt : Nat → Nat → Nat) (least : Nat) (rcs : List Nat) (k : Nat) : Prop := least ≤ rcs.length * ln + 1 + jlp n ln mt rcs k ∧ rcs.length * ln + 1 + jlp n ln mt rcs k = (rcs.length + 1) * ln ∧ ld n (mt k) (PR n ln mt rcs (rcs.length * ln)) (jlp n ln mt rcs k + 1) = 0
noncomputable def LA (n ln : Nat) (mt : Nat → Nat → Nat) (least budget : Nat) (rb : List Nat → LSt → LSt) (rcs : List Nat) (k : Nat) (S : LSt) : LSt :=
  if S.1 = budget then (S.1, S.2.1, true, S.2.2.2)
  else if jlp n ln mt rcs k = ln then rb (k :: rcs) (S.1 + 1, S.2.1, S.2.2.1, S.2.2.2)
  else @ite _ (lok n ln mt least rcs k) (Classical.propDecidable _) (S.1 + 1, S.2.1 + 1, S.2.2.1, k :: rcs) (S.1 + 1, S.2.1, S.2.2.1, S.2.2.2)
/-- the last c kinds at a path -/
noncomputable def LK (n ln : Nat) (mt : Nat → Nat → Nat) (hc : Nat → Bool) (least budget : Nat) (one : Bool) (rb : List Nat → LSt → LSt) (rcs : List Nat) : Nat → LSt → LSt
  | 0, S => S
  | c + 1, S => LK n ln mt hc least budget one rb rcs c (if lend one S then S else if hc (2 - c) then LA n ln mt least budget rb rcs (2 - c) S else S)
noncomputable def LB (n ln : Nat) (mt : Nat → Nat → Nat) (hc : Nat → Bool) (least most budget : Nat) (one : Bool) : Nat → List Nat → LSt → LSt
  | 0, _, S => S
  | u + 1, rcs, S => if (rcs.length + 1) * ln ≤ most then LK n ln mt hc least budget one (LB n ln mt hc least most budget one u) rcs 3 S else S
/-! the desk's small questions -/
def okp (x : Int32) : Bool := if x < 0 then false else if nI 4 ≤ x then false else true
def okl (n : Nat) (x : Int32) : Bool := if x < nI 1 then false else if nI n < x then false else true
theorem okl_of {n : Nat} {x : Int32} (hn : nb n) (h : okl n x = true) : ∃ q, q < n ∧ x = nI (q + 1) := by
  unfold okl at h
  have h6 := hn.2
  split at h
  · cases h
  · split at h
    · cases h
    · rename_i h1 h2
      rcases pk_ix x (show 7 < 2 ^ 31 by decide) with h3 | h3 | ⟨j, hj, e⟩
      · exact absurd (Int32.lt_trans h3 (by decide)) h1
      · exact absurd (Int32.lt_of_lt_of_le (nI_lt (show n < 7 by omega) (by decide)) h3) h2
      · subst e
        have h4 : ¬ j < 1 := fun q => h1 (nI_lt q (by decide))
        have h5 : ¬ n < j := fun q => h2 (nI_lt q (by omega))
        exact ⟨j - 1, by omega, by rw [show j - 1 + 1 = j by omega]⟩
theorem okp_of {x : Int32} (h : okp x = true) : ∃ q, q < 4 ∧ x = nI q := by
  unfold okp at h
  split at h
  · cases h
  · split at h
    · cases h
    · rename_i h1 h2
      rcases pk_ix x (show 4 < 2 ^ 31 by decide) with h3 | h3 | h3
      · exact absurd h3 h1
      · exact absurd h3 h2
      · exact h3
theorem okr_of {n : Nat} {x : Int32} (h : okr n x = true) : ∃ k, k < fa n ∧ x = nI k := by
  unfold okr at h
  split at h
  · cases h
  · split at h
    · cases h
    · rename_i h1 h2
      rcases pk_ix x (show fa n < 2 ^ 31 from fa_sm n) with h3 | h3 | h3
      · exact absurd h3 h1
      · exact absurd h3 h2
      · exact h3
/-- the touch has the call -/
noncomputable def thas (tq : Nat → Int32) (ct : Nat) (x : Int32) : Bool := @decide (∃ j, j < ct ∧ tq j = x) (Classical.propDecidable _)
theorem xi_of {x : Int32} {n : Nat} (hn : n < 2147483648) (h1 : ¬ x < 0) (h2 : ¬ nI n ≤ x) : ∃ j, j < n ∧ x = nI j := by
  rcases pk_ix x (show n < 2 ^ 31 from hn) with h3 | h3 | h3
  · exact absurd h3 h1
  · exact absurd h3 h2
  · exact h3
theorem nx_and (a b : Nat) : nI a &&& nI b = nI (a &&& b) := by
  apply Int32.toBitVec_inj.mp
  show BitVec.ofNat 32 a &&& BitVec.ofNat 32 b = BitVec.ofNat 32 (a &&& b)
  apply BitVec.eq_of_getLsbD_eq
  intro i hi
  simp [hi]
def bc1 (b : Nat) : Nat := b - (b / 2 ^ 1 &&& 1431655765)
def bc2 (b : Nat) : Nat := (bc1 b &&& 858993459) + (bc1 b / 2 ^ 2 &&& 858993459)
def bc3 (b : Nat) : Nat := bc2 b + bc2 b / 2 ^ 4 &&& 252645135
def bc4 (b : Nat) : Nat := bc3 b + bc3 b / 2 ^ 8
def bc5 (b : Nat) : Nat := bc4 b + bc4 b / 2 ^ 16
theorem xs_bc0 : bl (fun b => Nat.ble (b / 2 ^ 1 &&& 1431655765) b && Nat.beq (bc5 b &&& 63) (pc6 b) && Nat.blt (bc1 b) 1000 && Nat.blt (bc2 b) 1000 && Nat.blt (bc3 b) 1000 && Nat.blt (bc4 b) 1000) 64 = true := by decide +kernel
theorem xs_bca {b : Nat} (h : b < 64) : (b / 2 ^ 1 &&& 1431655765) ≤ b ∧ (bc5 b &&& 63) = pc6 b ∧ bc1 b < 1000 ∧ bc2 b < 1000 ∧ bc3 b < 1000 ∧ bc4 b < 1000 := by
  have h1 := bl_at xs_bc0 b h
  simp only [Bool.and_eq_true] at h1
  obtain ⟨⟨⟨⟨⟨a1, a2⟩, a3⟩, a4⟩, a5⟩, a6⟩ := h1
  exact ⟨Nat.le_of_ble_eq_true a1, Nat.eq_of_beq_eq_true a2, Nat.le_of_ble_eq_true a3, Nat.le_of_ble_eq_true a4, Nat.le_of_ble_eq_true a5, Nat.le_of_ble_eq_true a6⟩
theorem xs_bc1 {b : Nat} (h : b < 64) : nI b - nI (b / 2 ^ 1 &&& 1431655765) = nI (bc1 b) := pk_sub (xs_bca h).1
theorem xs_bc5 {b : Nat} (h : b < 64) : (bc5 b &&& 63) = pc6 b := (xs_bca h).2.1
theorem bc_lt {b : Nat} (h : b < 64) : bc1 b < 1000 ∧ bc2 b < 1000 ∧ bc3 b < 1000 ∧ bc4 b < 1000 := (xs_bca h).2.2
