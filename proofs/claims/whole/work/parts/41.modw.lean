/-! ONE ROW OF THE REFERENCE WRITTEN: the state behind it -/
def w_sd (S : CS) (f : Nat → Bool) : CS := (c_ct S, c_nm S, c_td S, c_vl S, f, c_mo S, c_mt S, c_sn S, c_wt S, c_ib S, c_mk S, c_lf S, c_ow S, c_re S)
theorem repm_sd {cA : Nat → ClassId} {adr : Nat → Nat} {S : CS} {th : Int32} {E E2 : Nat → va_E} (hR : RepM cA adr S th E) {f : Nat → Bool} (h9 : E2 41 = .inl (cA 1, 120, .inl (fun j => bI (f j)))) (hF : ∀ j, j ≠ 41 → E2 j = E j) : RepM cA adr (w_sd S f) th E2 := by
  obtain ⟨hM0, hM1, hM2, hM3, hM4, hM5, hM6, hM7, hM8, hM9, hM10, hM11, hM12, hM13, hM14⟩ := hR
  exact ⟨(hF 30 (by omega)).trans hM0, (hF 31 (by omega)).trans hM1, (hF 32 (by omega)).trans hM2, (hF 33 (by omega)).trans hM3, (hF 34 (by omega)).trans hM4, (hF 35 (by omega)).trans hM5, (hF 36 (by omega)).trans hM6, (hF 37 (by omega)).trans hM7, (hF 38 (by omega)).trans hM8, (hF 39 (by omega)).trans hM9, (hF 40 (by omega)).trans hM10, h9, (hF 42 (by omega)).trans hM12, (hF 43 (by omega)).trans hM13, (hF 44 (by omega)).trans hM14⟩
def w_mo (S : CS) (f : Nat → Nat → Int32) : CS := (c_ct S, c_nm S, c_td S, c_vl S, c_sd S, f, c_mt S, c_sn S, c_wt S, c_ib S, c_mk S, c_lf S, c_ow S, c_re S)
theorem repm_mo {cA : Nat → ClassId} {adr : Nat → Nat} {S : CS} {th : Int32} {E E2 : Nat → va_E} (hR : RepM cA adr S th E) {f : Nat → Nat → Int32} (h9 : E2 42 = .inl (cA 0, 360, .inl (fun x => f (x / 120) (x % 120)))) (hF : ∀ j, j ≠ 42 → E2 j = E j) : RepM cA adr (w_mo S f) th E2 := by
  obtain ⟨hM0, hM1, hM2, hM3, hM4, hM5, hM6, hM7, hM8, hM9, hM10, hM11, hM12, hM13, hM14⟩ := hR
  exact ⟨(hF 30 (by omega)).trans hM0, (hF 31 (by omega)).trans hM1, (hF 32 (by omega)).trans hM2, (hF 33 (by omega)).trans hM3, (hF 34 (by omega)).trans hM4, (hF 35 (by omega)).trans hM5, (hF 36 (by omega)).trans hM6, (hF 37 (by omega)).trans hM7, (hF 38 (by omega)).trans hM8, (hF 39 (by omega)).trans hM9, (hF 40 (by omega)).trans hM10, (hF 41 (by omega)).trans hM11, h9, (hF 43 (by omega)).trans hM13, (hF 44 (by omega)).trans hM14⟩
def w_mt (S : CS) (f : Nat → Int32) : CS := (c_ct S, c_nm S, c_td S, c_vl S, c_sd S, c_mo S, f, c_sn S, c_wt S, c_ib S, c_mk S, c_lf S, c_ow S, c_re S)
theorem repm_mt {cA : Nat → ClassId} {adr : Nat → Nat} {S : CS} {th : Int32} {E E2 : Nat → va_E} (hR : RepM cA adr S th E) {f : Nat → Int32} (h9 : E2 43 = .inl (cA 0, 3, .inl f)) (hF : ∀ j, j ≠ 43 → E2 j = E j) : RepM cA adr (w_mt S f) th E2 := by
  obtain ⟨hM0, hM1, hM2, hM3, hM4, hM5, hM6, hM7, hM8, hM9, hM10, hM11, hM12, hM13, hM14⟩ := hR
  exact ⟨(hF 30 (by omega)).trans hM0, (hF 31 (by omega)).trans hM1, (hF 32 (by omega)).trans hM2, (hF 33 (by omega)).trans hM3, (hF 34 (by omega)).trans hM4, (hF 35 (by omega)).trans hM5, (hF 36 (by omega)).trans hM6, (hF 37 (by omega)).trans hM7, (hF 38 (by omega)).trans hM8, (hF 39 (by omega)).trans hM9, (hF 40 (by omega)).trans hM10, (hF 41 (by omega)).trans hM11, (hF 42 (by omega)).trans hM12, h9, (hF 44 (by omega)).trans hM14⟩
def w_ib (S : CS) (f : Nat → Bool) : CS := (c_ct S, c_nm S, c_td S, c_vl S, c_sd S, c_mo S, c_mt S, c_sn S, c_wt S, f, c_mk S, c_lf S, c_ow S, c_re S)
theorem repm_ib {cA : Nat → ClassId} {adr : Nat → Nat} {S : CS} {th : Int32} {E E2 : Nat → va_E} (hR : RepM cA adr S th E) {f : Nat → Bool} (h9 : E2 44 = .inl (cA 1, 3, .inl (fun j => bI (f j)))) (hF : ∀ j, j ≠ 44 → E2 j = E j) : RepM cA adr (w_ib S f) th E2 := by
  obtain ⟨hM0, hM1, hM2, hM3, hM4, hM5, hM6, hM7, hM8, hM9, hM10, hM11, hM12, hM13, hM14⟩ := hR
  exact ⟨(hF 30 (by omega)).trans hM0, (hF 31 (by omega)).trans hM1, (hF 32 (by omega)).trans hM2, (hF 33 (by omega)).trans hM3, (hF 34 (by omega)).trans hM4, (hF 35 (by omega)).trans hM5, (hF 36 (by omega)).trans hM6, (hF 37 (by omega)).trans hM7, (hF 38 (by omega)).trans hM8, (hF 39 (by omega)).trans hM9, (hF 40 (by omega)).trans hM10, (hF 41 (by omega)).trans hM11, (hF 42 (by omega)).trans hM12, (hF 43 (by omega)).trans hM13, h9⟩
def w_mk (S : CS) (f : Nat → Nat) : CS := (c_ct S, c_nm S, c_td S, c_vl S, c_sd S, c_mo S, c_mt S, c_sn S, c_wt S, c_ib S, f, c_lf S, c_ow S, c_re S)
theorem repm_mk {cA : Nat → ClassId} {adr : Nat → Nat} {S : CS} {th : Int32} {E E2 : Nat → va_E} (hR : RepM cA adr S th E) {f : Nat → Nat} (h9 : E2 32 = .inl (cA 0, 5, .inl (fun j => nI (f j)))) (hF : ∀ j, j ≠ 32 → E2 j = E j) : RepM cA adr (w_mk S f) th E2 := by
  obtain ⟨hM0, hM1, hM2, hM3, hM4, hM5, hM6, hM7, hM8, hM9, hM10, hM11, hM12, hM13, hM14⟩ := hR
  exact ⟨(hF 30 (by omega)).trans hM0, (hF 31 (by omega)).trans hM1, h9, (hF 33 (by omega)).trans hM3, (hF 34 (by omega)).trans hM4, (hF 35 (by omega)).trans hM5, (hF 36 (by omega)).trans hM6, (hF 37 (by omega)).trans hM7, (hF 38 (by omega)).trans hM8, (hF 39 (by omega)).trans hM9, (hF 40 (by omega)).trans hM10, (hF 41 (by omega)).trans hM11, (hF 42 (by omega)).trans hM12, (hF 43 (by omega)).trans hM13, (hF 44 (by omega)).trans hM14⟩
def w_ow (S : CS) (f : Nat → Nat → Int32) : CS := (c_ct S, c_nm S, c_td S, c_vl S, c_sd S, c_mo S, c_mt S, c_sn S, c_wt S, c_ib S, c_mk S, c_lf S, f, c_re S)
theorem repm_ow {cA : Nat → ClassId} {adr : Nat → Nat} {S : CS} {th : Int32} {E E2 : Nat → va_E} (hR : RepM cA adr S th E) {f : Nat → Nat → Int32} (h9 : E2 33 = .inl (cA 0, 30, .inl (fun x => f (x / 6) (x % 6)))) (hF : ∀ j, j ≠ 33 → E2 j = E j) : RepM cA adr (w_ow S f) th E2 := by
  obtain ⟨hM0, hM1, hM2, hM3, hM4, hM5, hM6, hM7, hM8, hM9, hM10, hM11, hM12, hM13, hM14⟩ := hR
  exact ⟨(hF 30 (by omega)).trans hM0, (hF 31 (by omega)).trans hM1, (hF 32 (by omega)).trans hM2, h9, (hF 34 (by omega)).trans hM4, (hF 35 (by omega)).trans hM5, (hF 36 (by omega)).trans hM6, (hF 37 (by omega)).trans hM7, (hF 38 (by omega)).trans hM8, (hF 39 (by omega)).trans hM9, (hF 40 (by omega)).trans hM10, (hF 41 (by omega)).trans hM11, (hF 42 (by omega)).trans hM12, (hF 43 (by omega)).trans hM13, (hF 44 (by omega)).trans hM14⟩
def w_re (S : CS) (f : Nat → Nat → Int32) : CS := (c_ct S, c_nm S, c_td S, c_vl S, c_sd S, c_mo S, c_mt S, c_sn S, c_wt S, c_ib S, c_mk S, c_lf S, c_ow S, f)
theorem repm_re {cA : Nat → ClassId} {adr : Nat → Nat} {S : CS} {th : Int32} {E E2 : Nat → va_E} (hR : RepM cA adr S th E) {f : Nat → Nat → Int32} (h9 : E2 34 = .inl (cA 0, 30, .inl (fun x => f (x / 6) (x % 6)))) (hF : ∀ j, j ≠ 34 → E2 j = E j) : RepM cA adr (w_re S f) th E2 := by
  obtain ⟨hM0, hM1, hM2, hM3, hM4, hM5, hM6, hM7, hM8, hM9, hM10, hM11, hM12, hM13, hM14⟩ := hR
  exact ⟨(hF 30 (by omega)).trans hM0, (hF 31 (by omega)).trans hM1, (hF 32 (by omega)).trans hM2, (hF 33 (by omega)).trans hM3, h9, (hF 35 (by omega)).trans hM5, (hF 36 (by omega)).trans hM6, (hF 37 (by omega)).trans hM7, (hF 38 (by omega)).trans hM8, (hF 39 (by omega)).trans hM9, (hF 40 (by omega)).trans hM10, (hF 41 (by omega)).trans hM11, (hF 42 (by omega)).trans hM12, (hF 43 (by omega)).trans hM13, (hF 44 (by omega)).trans hM14⟩
theorem repm_ext {cA : Nat → ClassId} {adr : Nat → Nat} {S S2 : CS} {th : Int32} {E : Nat → va_E} (hR : RepM cA adr S th E) (h1 : c_ct S2 = c_ct S) (h2 : c_nm S2 = c_nm S) (h3 : c_td S2 = c_td S) (h4 : c_vl S2 = c_vl S) (h5 : c_sd S2 = c_sd S) (h6 : c_mo S2 = c_mo S) (h7 : c_mt S2 = c_mt S) (h8 : c_ib S2 = c_ib S) (h9 : c_mk S2 = c_mk S) (h10 : c_lf S2 = c_lf S) (h11 : c_ow S2 = c_ow S) (h12 : c_re S2 = c_re S) : RepM cA adr S2 th E := by
  unfold RepM at hR ⊢
  rw [h1, h2, h3, h4, h5, h6, h7, h8, h9, h10, h11, h12]
  exact hR
theorem upN_id (f : Nat → Nat) (k : Nat) : upN f k (f k) = f := by
  funext j; unfold upN; split
  · rename_i h; rw [h]
  · rfl
theorem upZ_up (f : Nat → Bool) (k : Nat) (x : Bool) : upZ f k x = va_up f k x := rfl
theorem fiB_f {P : Nat → Bool} {n : Nat} (h : P n = false) : fiB P (n + 1) = fiB P n := by
  simp only [fiB, h]
  cases fiB P n <;> rfl
theorem cf_eq {S : CS} {d i n : Nat} {x4 x5 x6 : Bool} (hn : n = c_ct S) (h4 : (c_see S d i && !anB (fun r => c_rv S i r && c_see S d r && decide (r < i)) n) = x4) (h5 : anB (fun r => c_rv S i r && c_see S d r) n = x5) (h6 : (!c_sd S i && !anB (fun r => c_rv S i r && c_see S d r && c_sd S r) n) = x6) : (c_see S d i && c_beg S d i) = (x4 && x5 && x6) := by
  subst hn
  unfold c_beg
  rw [anB_or (A := fun r => c_rv S i r && c_see S d r) (B := fun r => decide (r < i)) (C := fun r => c_sd S r), ← h4, ← h5, ← h6, Bool.not_or]
  ac_rfl
/-! settling -/
def qF (S : CS) (x : Int32) (j : Nat) : Bool := decide (x = nI (c_nm S j))
def qK (S : CS) (x k : Int32) (j : Nat) : Bool := qF S x j && decide (nI (ctB (qF S x) j) = k)
theorem ctB_mono {P : Nat → Bool} {i j : Nat} (h : i ≤ j) : ctB P i ≤ ctB P j := by
  induction j with
  | zero => rw [show i = 0 from by omega]; exact Nat.le_refl _
  | succ j ih =>
    by_cases e : i = j + 1
    · rw [e]; exact Nat.le_refl _
    · have := ih (by omega)
      cases hc : P j
      · rw [ctB_f hc]; exact this
      · rw [ctB_t hc]; omega
theorem qK_none {S : CS} {x k : Int32} {i : Nat} (hi : i < 2 ^ 31) (hq : qF S x i = true) (hk : nI (ctB (qF S x) i) = k) : fiB (qK S x k) i = none := by
  cases h : fiB (qK S x k) i with
  | none => rfl
  | some z =>
    obtain ⟨h1, h2, -⟩ := fiB_spec h
    unfold qK at h2
    simp only [Bool.and_eq_true, decide_eq_true_eq] at h2
    have e1 := ctB_t h2.1
    have e2 := ctB_mono (P := qF S x) (show z + 1 ≤ i by omega)
    have b : ctB (qF S x) i ≤ i := ctB_le
    have e3 := (nI_eq (by omega) (by omega)).mp (h2.2.trans hk.symm)
    omega
theorem nm_bits {x : Int32} {a : Nat} (ha : a < 2560) : (nI (a / 512) = x >>> ((9 : Int32) &&& 31) ∧ nI (a / 128 % 4) = x >>> ((7 : Int32) &&& 31) &&& 3 ∧ nI (a % 128) = x &&& 127) ↔ x = nI a := by
  have key : ∀ c : Nat, c < 2560 → (nI c) >>> ((9 : Int32) &&& 31) = nI (c / 512) ∧ (nI c) >>> ((7 : Int32) &&& 31) &&& 3 = nI (c / 128 % 4) ∧ nI c &&& 127 = nI (c % 128) := by
    intro c hc
    refine ⟨?_, ?_, ?_⟩
    · apply Int32.toInt_inj.mp
      rw [pk_shr (nI c) ((9 : Int32) &&& 31) 9 (by decide), Int.shiftRight_eq_div_pow, nI_toInt (by omega), nI_toInt (by omega)]; rfl
    · have h7 : (nI c) >>> ((7 : Int32) &&& 31) = nI (c / 128) := by
        apply Int32.toInt_inj.mp
        rw [pk_shr (nI c) ((7 : Int32) &&& 31) 7 (by decide), Int.shiftRight_eq_div_pow, nI_toInt (by omega), nI_toInt (by omega)]; rfl
      rw [h7]; exact pk_andN (by omega) 2 (by decide)
    · exact pk_andN (by omega) 7 (by decide)
  constructor
  · intro ⟨h1, h2, h3⟩
    have hin : inN x 2560 = true := by rw [← inN_shr, ← h1]; exact inN_nI (by omega) (by decide)
    obtain ⟨c, hc, rfl⟩ := inN_of hin (by decide)
    obtain ⟨k1, k2, k3⟩ := key c hc
    rw [k1] at h1; rw [k2] at h2; rw [k3] at h3
    have e1 := (nI_eq (by omega) (by omega)).mp h1
    have e2 := (nI_eq (by omega) (by omega)).mp h2
    have e3 := (nI_eq (by omega) (by omega)).mp h3
    congr 1; omega
  · intro h
    subst h
    obtain ⟨k1, k2, k3⟩ := key a ha
    exact ⟨k1.symm, k2.symm, k3.symm⟩
theorem kth_q {S : CS} {x k : Int32} (hV : Inv S) (hx : nOK x = true) (hk : 0 ≤ k) : kth S x.toNatClampNeg k.toNatClampNeg = fiB (qK S x k) (c_ct S) := by
  unfold nOK at hx
  simp only [Bool.and_eq_true] at hx
  obtain ⟨a, ha, rfl⟩ := inN_of hx.1 (by decide)
  obtain ⟨q, hq, rfl⟩ := nI_of (Int32.not_lt.mpr hk)
  rw [nI_clamp (by omega), nI_clamp hq]
  unfold kth
  have hnm := hV.2.1
  have e0 : ∀ j, decide (c_nm S j = a) = qF S (nI a) j := fun j => by
    unfold qF
    have := hnm j
    exact decide_eq_decide.mpr ⟨fun h => by rw [h], fun h => ((nI_eq (by omega) (by omega)).mp h).symm⟩
  refine fiB_congr (fun j hj => ?_)
  have b : ctB (qF S (nI a)) j ≤ j := ctB_le
  have := hV.1
  rw [show (fun j => decide (c_nm S j = a)) = qF S (nI a) from funext e0]
  unfold qK
  rw [e0 j]
  congr 1
  exact decide_eq_decide.mpr (nI_eq (by omega) hq).symm
theorem kset_1 {S : CS} {x k : Int32} (hV : Inv S) (h : fiB (qK S x k) (c_ct S) = none) : k_set S x k = 1 := by
  unfold k_set
  by_cases hc : (nOK x && decide (0 ≤ k)) = true
  · rw [if_pos hc]
    simp only [Bool.and_eq_true, decide_eq_true_eq] at hc
    rw [kth_q hV hc.1 hc.2, if_pos h]
  · rw [if_neg hc]
theorem kset_0 {S : CS} {x k : Int32} {z : Nat} (hV : Inv S) (h : fiB (qK S x k) (c_ct S) = some z) : k_set S x k = 0 ∧ kth S x.toNatClampNeg k.toNatClampNeg = some z ∧ z < c_ct S := by
  obtain ⟨h1, h2, -⟩ := fiB_spec h
  unfold qK qF at h2
  simp only [Bool.and_eq_true, decide_eq_true_eq] at h2
  have hct := hV.1
  have hnm := hV.2.1 z
  have hnu := hV.2.2.2.2.2.2.1 z h1
  have b : ctB (qF S x) z ≤ z := ctB_le
  have hx : nOK x = true := by
    unfold nOK
    rw [h2.1, inN_nI hnm (by decide), nI_clamp (by omega), decide_eq_true hnu]; rfl
  have hk : 0 ≤ k := by rw [← h2.2]; exact nI_pos' (by show ctB (qF S x) z < _; omega)
  have e := kth_q hV hx hk
  rw [h] at e
  refine ⟨?_, e, h1⟩
  unfold k_set
  rw [hx, decide_eq_true hk, e]; rfl
theorem set_st {S : CS} {z i : Nat} (hi : i < c_ct S) : (fun j => if j < i + 1 ∧ c_rv S j z = true then false else c_sd S j) = if c_rv S i z = true then upZ (fun j => if j < i ∧ c_rv S j z = true then false else c_sd S j) i false else (fun j => if j < i ∧ c_rv S j z = true then false else c_sd S j) := by
  funext j
  by_cases hr : c_rv S i z = true
  · rw [if_pos hr]
    unfold upZ
    by_cases e : j = i
    · subst e; simp [hr]
    · rw [if_neg e]
      by_cases q : j < i
      · simp [q, Nat.lt_succ_of_lt q]
      · simp [q, show ¬ j < i + 1 by omega]
  · rw [if_neg hr]
    by_cases e : j = i
    · subst e; simp [hr]
    · by_cases q : j < i
      · simp [q, Nat.lt_succ_of_lt q]
      · simp [q, show ¬ j < i + 1 by omega]
theorem set_fin {S : CS} {z : Nat} (hz : z < c_ct S) : upZ (fun j => if j < c_ct S ∧ c_rv S j z = true then false else c_sd S j) z true = fun j => if j < c_ct S ∧ c_nm S j = c_nm S z then decide (j = z) else c_sd S j := by
  funext j
  unfold upZ
  by_cases e : j = z
  · subst e; rw [if_pos rfl, if_pos ⟨hz, rfl⟩]; simp
  · rw [if_neg e]
    unfold c_rv
    dsimp only
    by_cases q : j < c_ct S ∧ c_nm S j = c_nm S z
    · rw [if_pos q, if_pos ⟨q.1, by rw [decide_eq_false e, decide_eq_true q.2]; rfl⟩, decide_eq_false e]
    · rw [if_neg q, if_neg (fun g => q ⟨g.1, by have := g.2; simp only [Bool.and_eq_true, decide_eq_true_eq] at this; exact this.2⟩)]
