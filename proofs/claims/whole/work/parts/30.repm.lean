/-! THE REFERENCE, as the same state: its flat rows are functions of CS; roles 30 .. 44 -/
def RepM (cA : Nat → ClassId) (adr : Nat → Nat) (S : CS) (th : Int32) (E : Nat → va_E) : Prop :=
  E 30 = .inr (4, [.int th, .ref (adr 31), .ref (adr 32), .ref (adr 33), .ref (adr 34), .int (nI (c_ct S)), .ref (adr 35), .ref (adr 36), .ref (adr 37), .ref (adr 38), .ref (adr 39), .ref (adr 40), .ref (adr 41), .ref (adr 42), .ref (adr 43), .ref (adr 44)]) ∧
  E 31 = .inl (cA 0, 5, .inl (fun j => nI (c_lf S j))) ∧ E 32 = .inl (cA 0, 5, .inl (fun j => nI (c_mk S j))) ∧
  E 33 = .inl (cA 0, 30, .inl (fun x => c_ow S (x / 6) (x % 6))) ∧ E 34 = .inl (cA 0, 30, .inl (fun x => c_re S (x / 6) (x % 6))) ∧
  E 35 = .inl (cA 0, 120, .inl (fun j => nI (c_nm S j / 512))) ∧ E 36 = .inl (cA 0, 120, .inl (fun j => nI (c_nm S j / 128 % 4))) ∧ E 37 = .inl (cA 0, 120, .inl (fun j => nI (c_nm S j % 128))) ∧
  E 38 = .inl (cA 0, 120, .inl (fun j => nI (c_td S j / 2 ^ 20 % 8))) ∧ E 39 = .inl (cA 0, 120, .inl (c_vl S)) ∧ E 40 = .inl (cA 0, 120, .inl (fun j => nI (c_td S j % 2 ^ 20))) ∧ E 41 = .inl (cA 1, 120, .inl (fun j => bI (c_sd S j))) ∧
  E 42 = .inl (cA 0, 360, .inl (fun x => c_mo S (x / 120) (x % 120))) ∧ E 43 = .inl (cA 0, 3, .inl (c_mt S)) ∧ E 44 = .inl (cA 1, 3, .inl (fun j => bI (c_ib S j)))
/-- what a state of the class keeps to -/
def Inv (S : CS) : Prop :=
  c_ct S ≤ 120 ∧ (∀ j, c_nm S j < 2560) ∧ (∀ j, c_td S j < 2 ^ 30) ∧ (∀ t, t < 5 → c_mk S t ≤ 6) ∧ (∀ t, t < 5 → c_lf S t ≤ 3) ∧
  (∀ j, j < c_ct S → c_td S j / 2 ^ 23 = c_nm S j % 128) ∧ (∀ j, j < c_ct S → c_nm S j % 128 < 100) ∧
  (∀ d, d < 3 → c_sn S d = nI (ctB (fun i => c_see S d i) (c_ct S)) ∧ c_wt S d = nI (ctB (fun i => decide (c_mo S d i < 0)) (c_ct S))) ∧
  (∀ d j, d < 3 → c_ct S ≤ j → c_mo S d j = 0) ∧
  (∀ d, d < 3 → ∃ m : Nat, c_mt S d = nI m ∧ m ≤ ctB (fun i => c_see S d i) (c_ct S) ∧ ∀ j, c_mo S d j = -1 ∨ ∃ v : Nat, v ≤ m ∧ c_mo S d j = nI v) ∧
  (∀ d, d < 3 → c_ib S d = false → ∀ j, ¬ c_mo S d j = -1) ∧
  (∀ t j, t < 5 → j < c_mk S t → ∃ a b : Nat, a ≤ 1000000 ∧ b ≤ 1000000 ∧ c_ow S t j = nI a ∧ c_re S t j = nI b) ∧
  (∀ t j, t < 5 → j + 1 < c_mk S t → c_ow S t j < c_ow S t (j + 1) ∧ c_re S t j ≤ c_re S t (j + 1))
section WDE
variable {p : Program} {l : Launch} {e : Env} {R : Room} {s : State} {m : MethodId} {args : Array Value} {below : List Frame} {meth : Method} {c : Code} {H : Heap} {locs : List Loc} {cells slots : Nat} {Q : State → Prop}
variable {cc : ByteArray} {pc : Nat} {ls : Array Slot} {rest : List Value} {D : va_G} {cA : Nat → ClassId} {adr : Nat → Nat} {n : Nat} {E : Nat → va_E}
theorem wn_ialde (hexec : p.tables.exec = Jvm.exec) (hb : c.code = cc) (hK : va_K D kcl (kty cA) s) (hP : va_P D kcl (wl adr n E) H) {k0 N j : Nat} (hk0 : k0 < n) {f : Nat → Int32} (hE : E k0 = .inl (cA 0, N, .inl f)) (hj : j < N) (hN : N < 2 ^ 31) {v : Int32} (hv : f j = v) (hdg : decode cc pc = .ok (.iaload, 1))
    (kk : W p l e R s m args below meth c H locs cells slots Q (F0 m (pc + 1) ls (.int v :: rest))) : W p l e R s m args below meth c H locs cells slots Q (F0 m pc ls (.int (nI j) :: .ref (adr k0) :: rest)) :=
  wn_iald hexec hb hK hP hk0 hE hj hN hdg (by rw [hv]; exact kk)
end WDE
theorem fl_at {N t j : Nat} (f : Nat → Nat → Int32) (hj : j < N) : f ((N * t + j) / N) ((N * t + j) % N) = f t j := by
  rw [Nat.mul_add_div (by omega), Nat.div_eq_of_lt hj, Nat.mul_add_mod, Nat.mod_eq_of_lt hj, Nat.add_zero]
theorem fl_upd {N t j : Nat} (f : Nat → Nat → Int32) (x : Int32) (hj : j < N) : upd (fun y => f (y / N) (y % N)) (N * t + j) x = fun y => va_up f t (upd (f t) j x) (y / N) (y % N) := by
  funext y
  unfold upd va_up
  by_cases e : y = N * t + j
  · subst e
    rw [Nat.mul_add_div (by omega), Nat.div_eq_of_lt hj, Nat.mul_add_mod, Nat.mod_eq_of_lt hj, Nat.add_zero]
    simp
  · simp only [e, if_false]
    by_cases e1 : y / N = t
    · have e2 : ¬ y % N = j := fun q => e (by have := Nat.div_add_mod y N; rw [e1, q] at this; exact this.symm)
      simp only [e1, if_true, e2, if_false]
    · simp only [e1, if_false]
theorem in32 (x lo hi : Int32) : (decide (lo.toInt64 ≤ x.toInt64) && decide (x.toInt64 ≤ hi.toInt64)) = (decide (lo ≤ x) && decide (x ≤ hi)) := by
  have h1 : ∀ a b : Int32, a.toInt64 ≤ b.toInt64 ↔ a ≤ b := fun a b => by
    rw [Int64.le_iff_toInt_le, Int32.toInt_toInt64, Int32.toInt_toInt64, Int32.le_iff_toInt_le]
  rw [decide_eq_decide.mpr (h1 lo x), decide_eq_decide.mpr (h1 x hi)]
theorem in_inN (x : Int32) (n : Nat) (hn : n + 1 < 2 ^ 31) : (decide ((0 : Int32) ≤ x) && decide (x ≤ nI n)) = inN x (n + 1) := by
  unfold inN
  have h : (x ≤ nI n) ↔ x.toInt < ((n + 1 : Nat) : Int) := by rw [Int32.le_iff_toInt_le, nI_toInt (by omega)]; omega
  rw [decide_eq_decide.mpr h]
