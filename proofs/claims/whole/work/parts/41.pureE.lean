/-! the desk's methods: what is asked of their arguments -/
/-- four arrays in an array -/
def pO (a0 a1 a2 a3 : Nat) (i : Nat) : Option Nat := if i = 0 then some a0 else if i = 1 then some a1 else if i = 2 then some a2 else some a3
section XGL
variable {p : Program} {l : Launch} {e : Env} {R : Room} {s : State} {m : MethodId} {args : Array Value} {below : List Frame} {meth : Method} {c : Code} {H : Heap} {locs : List Loc} {cells slots : Nat} {Q : State → Prop}
variable {cc : ByteArray} {pc : Nat} {ls : Array Slot} {rest : List Value} {D : va_G} {cl : List vw_C} {a : Nat} {TY : List (ClassId × FieldType)} {ws : va_W} {A : Nat → Prop}
theorem xa_gald (hx : p.tables.exec = Jvm.exec) (hb : c.code = cc) (hK : va_K D cl TY s) (hP : va_P D cl ws H) (q0 t0 : Nat) {cA : ClassId} {n : Nat} {f : Nat → Option Nat} (ha : ws[q0]? = some (a, .inl (cA, n, .inr (.inr (.inr (.inr f)))))) (ht : TY[t0]? = some (cA, .array .int)) {j v : Nat} (hj : j < n) (hn : n < 2147483648) (hv : f j = some v) (hdg : decode cc pc = .ok (.aaload, 1))
    (kk : W p l e R s m args below meth c H locs cells slots Q (F0 m (pc + 1) ls (.ref v :: rest))) : W p l e R s m args below meth c H locs cells slots Q (F0 m pc ls (.int (nI j) :: .ref a :: rest)) := by
  have hin := vp_in_nI hj hn
  have hcl : (nI j).toNatClampNeg = j := nI_clamp (Nat.lt_trans hj hn)
  refine W.aald (v := .ref v) (ty := .array .int) hx hb (hP q0 _ ha) ((hK.2 t0 _ ht).1 n (fun j => va_rf (f j))) rfl (fun q => by cases q) (by show ¬ (nI j < 0 ∨ (arrV _ _ _).slots.size ≤ _); rw [arrV_size]; exact hin) (by show (arrV _ _ _).slots[_]? = _; rw [arrV_read _ _ (by rw [hcl]; exact hj), hcl, hv]; rfl) rfl rfl hdg kk
theorem xa_zast (hx : p.tables.exec = Jvm.exec) (hb : c.code = cc) (hK : va_K D cl TY s) (hP : va_P D cl ws H) (hD : va_D A ws) {H0 : Heap} (hS : va_S A H0 H locs) (q0 t0 : Nat) {cA : ClassId} {n : Nat} {f : Nat → Int32} (ha : ws[q0]? = some (a, .inl (cA, n, .inl f))) (ht : TY[t0]? = some (cA, .boolean)) {j : Nat} {x : Int32} (hj : j < n) (hn : n < 2147483648) (hz : vp_nar .boolean x = x) (hdg : decode cc pc = .ok (.bastore, 1))
    (kk : ∀ (H1 : Heap) (locs1 : List Loc), va_P D cl (ws.set q0 (a, .inl (cA, n, .inl (upd f j x)))) H1 → va_D A (ws.set q0 (a, .inl (cA, n, .inl (upd f j x)))) → va_S A H0 H1 locs1 → W p l e R s m args below meth c H1 locs1 cells slots Q (F0 m (pc + 1) ls rest)) : W p l e R s m args below meth c H locs cells slots Q (F0 m pc ls (.int x :: .int (nI j) :: .ref a :: rest)) := by
  refine va_zast hx hb hK hP hD hS q0 t0 ha ht (vp_in_nI hj hn) hdg ?_
  rw [nI_clamp (Nat.lt_trans hj hn), hz]
  exact kk
end XGL
def z6 (g : Nat → Int32) : Prop := ∀ j, j < 6 → g j = nI 0
def okb (x : Int32) : Bool := if x < nI 4 then false else if nI 6 < x then false else true
theorem okb_of {x : Int32} (h : okb x = true) : ∃ n, nb n ∧ x = nI n := by
  unfold okb at h
  split at h
  · cases h
  · split at h
    · cases h
    · rename_i h1 h2
      rcases pk_ix x (show 7 < 2 ^ 31 by decide) with h3 | h3 | ⟨j, hj, e⟩
      · exact absurd (Int32.lt_trans h3 (by decide)) h1
      · exact absurd (Int32.lt_of_lt_of_le (show nI 6 < nI 7 by decide) h3) h2
      · subst e
        have h4 : ¬ j < 4 := fun q => h1 (nI_lt q (by decide))
        exact ⟨j, ⟨by omega, by omega⟩, rfl⟩
def ntk (ln n : Nat) (x y : Int32) : Bool := if 0 < ln then false else if x < 0 then false else if nI 24 ≤ x then false else okm n y
noncomputable def cnk (tq : Nat → Int32) (ct n : Nat) (x y : Int32) : Bool := if x = nI 1 ∨ x = nI 2 then (if okm n y then !(thas tq ct x) else false) else false
def chk (hc : Bool) (ct : Nat) (x : Int32) : Bool := if x < 0 then false else if nI ct ≤ x then false else hc
def kpk (ct : Nat) (x : Int32) : Bool := if x < 0 then false else if nI ct < x then false else true
theorem xz_B (b : Bool) : narrow .boolean (.int (nI b.toNat)) = .int (nI b.toNat) := by cases b <;> rfl
theorem xe_a {sp on : Bool} {fo : Nat} (h : sp = true) : (sp || (on && Nat.blt 0 fo)) = true := by rw [h]; rfl
theorem xe_b {sp on : Bool} {fo : Nat} (h1 : on = true) (h2 : 0 < fo) : (sp || (on && Nat.blt 0 fo)) = true := by
  rw [h1, show Nat.blt 0 fo = true from Nat.ble_eq_true_of_le h2]; cases sp <;> rfl
theorem xe_c {sp on : Bool} {fo : Nat} (h1 : sp = false) (h2 : on = false) : ¬ (sp || (on && Nat.blt 0 fo)) = true := by rw [h1, h2]; exact Bool.false_ne_true
theorem xe_d {sp on : Bool} {fo : Nat} (h1 : sp = false) (h2 : fo = 0) : ¬ (sp || (on && Nat.blt 0 fo)) = true := by rw [h1, h2]; cases on <;> decide
