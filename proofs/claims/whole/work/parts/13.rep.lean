/-! THE CLASS'S STATE, and how it lies in the world: roles 0 the object, 1 tellers, 2 desks, 3 kept (3+1 .. 3+4 its rows), 8 heard, 9+2d a desk and its row, 15+3t a teller and its two rows -/
abbrev CS : Type := Nat × (Nat → Nat) × (Nat → Nat) × (Nat → Int32) × (Nat → Bool) × (Nat → Nat → Int32) × (Nat → Int32) × (Nat → Int32) × (Nat → Int32) × (Nat → Bool) × (Nat → Nat) × (Nat → Nat) × (Nat → Nat → Int32) × (Nat → Nat → Int32)
abbrev c_ct (S : CS) : Nat := S.1
abbrev c_nm (S : CS) : Nat → Nat := S.2.1
abbrev c_td (S : CS) : Nat → Nat := S.2.2.1
abbrev c_vl (S : CS) : Nat → Int32 := S.2.2.2.1
abbrev c_sd (S : CS) : Nat → Bool := S.2.2.2.2.1
abbrev c_mo (S : CS) : Nat → Nat → Int32 := S.2.2.2.2.2.1
abbrev c_mt (S : CS) : Nat → Int32 := S.2.2.2.2.2.2.1
abbrev c_sn (S : CS) : Nat → Int32 := S.2.2.2.2.2.2.2.1
abbrev c_wt (S : CS) : Nat → Int32 := S.2.2.2.2.2.2.2.2.1
abbrev c_ib (S : CS) : Nat → Bool := S.2.2.2.2.2.2.2.2.2.1
abbrev c_mk (S : CS) : Nat → Nat := S.2.2.2.2.2.2.2.2.2.2.1
abbrev c_lf (S : CS) : Nat → Nat := S.2.2.2.2.2.2.2.2.2.2.2.1
abbrev c_ow (S : CS) : Nat → Nat → Int32 := S.2.2.2.2.2.2.2.2.2.2.2.2.1
abbrev c_re (S : CS) : Nat → Nat → Int32 := S.2.2.2.2.2.2.2.2.2.2.2.2.2
def Rep (cA : Nat → ClassId) (adr : Nat → Nat) (S : CS) (E : Nat → va_E) : Prop :=
  E 0 = .inr (3, [.ref (adr 1), .ref (adr 2), .ref (adr 3), .ref (adr 8)]) ∧
  E 1 = .inl (cA 2, 5, .inr (.inr (.inr (.inr (fun j => some (adr (15 + 3 * j))))))) ∧
  E 2 = .inl (cA 3, 3, .inr (.inr (.inr (.inr (fun j => some (adr (9 + 2 * j))))))) ∧
  E 3 = .inr (2, [.ref (adr (3 + 1)), .ref (adr (3 + 2)), .ref (adr (3 + 3)), .ref (adr (3 + 4)), .int (nI (c_ct S))]) ∧
  E (3 + 1) = .inl (cA 0, 120, .inl (fun j => nI (c_nm S j))) ∧ E (3 + 2) = .inl (cA 0, 120, .inl (fun j => nI (c_td S j))) ∧ E (3 + 3) = .inl (cA 0, 120, .inl (c_vl S)) ∧ E (3 + 4) = .inl (cA 1, 120, .inl (fun j => bI (c_sd S j))) ∧
  (∃ hd : Nat → Bool, E 8 = .inl (cA 1, 100, .inl (fun j => bI (hd j)))) ∧
  (∀ d, d < 3 → E (9 + 2 * d) = .inr (0, [.ref (adr (9 + 2 * d + 1)), .int (c_mt S d), .int (c_sn S d), .int (c_wt S d), .int (bI (c_ib S d))]) ∧ E (9 + 2 * d + 1) = .inl (cA 0, 120, .inl (c_mo S d))) ∧
  (∀ t, t < 5 → E (15 + 3 * t) = .inr (1, [.ref (adr (15 + 3 * t + 1)), .ref (adr (15 + 3 * t + 2)), .int (nI (c_mk S t)), .int (nI (c_lf S t))]) ∧ E (15 + 3 * t + 1) = .inl (cA 0, 6, .inl (c_ow S t)) ∧ E (15 + 3 * t + 2) = .inl (cA 0, 6, .inl (c_re S t))) ∧
  c_ct S ≤ 120 ∧ (∀ j, c_nm S j < 2560) ∧ (∀ j, c_td S j < 2 ^ 30) ∧ (∀ t, t < 5 → c_mk S t ≤ 6) ∧ (∀ t, t < 5 → c_lf S t ≤ 3)
def c_rv (S : CS) (i j : Nat) : Bool := !decide (i = j) && decide (c_nm S i = c_nm S j)
def c_has (S : CS) (d j : Nat) : Bool := !decide (c_mo S d j = 0)
def c_see (S : CS) (d j : Nat) : Bool := decide (0 < c_mo S d j)
def c_had (S : CS) (d j : Nat) (by_ : Int32) : Bool := decide (0 < c_mo S d j) && decide (c_mo S d j ≤ by_)
def c_beg (S : CS) (d i : Nat) : Bool := !c_sd S i && (!anB (fun r => c_rv S i r && c_see S d r && (decide (r < i) || c_sd S r)) (c_ct S)) && anB (fun r => c_rv S i r && c_see S d r) (c_ct S)
def c_cnt (S : CS) (d i : Nat) (m : Int32) : Bool := c_sd S i || !anB (fun r => c_rv S i r && (c_sd S r || c_had S d r m)) (c_ct S)
def c_rt (S : CS) (i : Nat) : Int32 := rt (c_mk S (c_nm S i / 512)) (c_ow S (c_nm S i / 512)) (c_re S (c_nm S i / 512)) (nI (c_td S i % 2 ^ 20))
def c_rk (S : CS) (i : Nat) : Nat := c_nm S i / 128 % 4 * 1024 + c_nm S i / 512 * 128 + c_nm S i % 128
def c_ltr (S : CS) (i j : Nat) : Bool := if c_rt S i = c_rt S j then decide (c_rk S j < c_rk S i) else decide (c_rt S j < c_rt S i)
def lsB (P : Nat → Bool) (L : Nat → Nat → Bool) : Nat → Option Nat
  | 0 => none
  | n + 1 => if P n && (match lsB P L n with | none => true | some b => L n b) then some n else lsB P L n
theorem lsB_lt {P : Nat → Bool} {L : Nat → Nat → Bool} {n b : Nat} (h : lsB P L n = some b) : b < n := by
  induction n with
  | zero => cases h
  | succ n ih =>
    simp only [lsB] at h
    by_cases hc : (P n && (match lsB P L n with | none => true | some b => L n b)) = true
    · rw [if_pos hc] at h
      have := Option.some.inj h; omega
    · rw [if_neg hc] at h
      have := ih h; omega
def c_lst (S : CS) (d : Nat) (key : Nat) (m : Int32) : Option Nat := lsB (fun i => decide (c_td S i / 2 ^ 20 % 8 = key) && c_had S d i m && c_cnt S d i m) (c_ltr S) (c_ct S)
theorem oI_n1 {o : Option Nat} (h : ∀ b, o = some b → b < 2 ^ 31) : oI o = -1 ↔ o = none := by
  cases o with
  | none => simp [oI]
  | some b =>
    have hb := h b rfl
    simp only [oI]
    constructor
    · intro e
      have h1 := nI_pos hb
      rw [e] at h1
      exact absurd (by decide) h1
    · intro e; cases e
section WDA
variable {p : Program} {l : Launch} {e : Env} {R : Room} {s : State} {m : MethodId} {args : Array Value} {below : List Frame} {meth : Method} {c : Code} {H : Heap} {locs : List Loc} {cells slots : Nat} {Q : State → Prop}
variable {cc : ByteArray} {pc : Nat} {ls : Array Slot} {rest : List Value} {D : va_G} {cA : Nat → ClassId} {adr : Nat → Nat} {n : Nat} {E : Nat → va_E}
theorem wn_ald (hexec : p.tables.exec = Jvm.exec) (hb : c.code = cc) (hK : va_K D kcl (kty cA) s) (hP : va_P D kcl (wl adr n E) H) (t0 : Nat) {C : String} {k0 N j : Nat} (hk0 : k0 < n) {g : Nat → Nat} (hE : E k0 = .inl (cA t0, N, .inr (.inr (.inr (.inr (fun j => some (adr (g j)))))))) (ht : (kty cA)[t0]? = some (cA t0, .object C)) (hj : j < N) (hN : N < 2 ^ 31) (hdg : decode cc pc = .ok (.aaload, 1))
    (kk : W p l e R s m args below meth c H locs cells slots Q (F0 m (pc + 1) ls (.ref (adr (g j)) :: rest))) : W p l e R s m args below meth c H locs cells slots Q (F0 m pc ls (.int (nI j) :: .ref (adr k0) :: rest)) :=
  va_aldq hexec hb hK hP k0 t0 (wl_at hk0 hE) ht (vp_in_nI hj hN) hdg (by rw [nI_clamp (by omega)]; exact kk)
end WDA
