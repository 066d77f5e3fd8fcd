/-! STEPS OF THE CLASS'S STATE, and the world behind them -/
def uT (S : CS) (t mk lf : Nat) (ow re : Nat → Int32) : CS := (c_ct S, c_nm S, c_td S, c_vl S, c_sd S, c_mo S, c_mt S, c_sn S, c_wt S, c_ib S, upN (c_mk S) t mk, upN (c_lf S) t lf, va_up (c_ow S) t ow, va_up (c_re S) t re)
def uD (S : CS) (d : Nat) (mo : Nat → Int32) (mt sn wt : Int32) (ib : Bool) : CS := (c_ct S, c_nm S, c_td S, c_vl S, c_sd S, va_up (c_mo S) d mo, va_up (c_mt S) d mt, va_up (c_sn S) d sn, va_up (c_wt S) d wt, va_up (c_ib S) d ib, c_mk S, c_lf S, c_ow S, c_re S)
def uK (S : CS) (ct : Nat) (nm td : Nat → Nat) (vl : Nat → Int32) (sd : Nat → Bool) : CS := (ct, nm, td, vl, sd, c_mo S, c_mt S, c_sn S, c_wt S, c_ib S, c_mk S, c_lf S, c_ow S, c_re S)
theorem upN_self (f : Nat → Nat) (k x : Nat) : upN f k x k = x := by simp [upN]
theorem upN_ne (f : Nat → Nat) {k j : Nat} (x : Nat) (h : j ≠ k) : upN f k x j = f j := by simp [upN, h]
theorem uT_ct (S : CS) (t mk lf : Nat) (ow re : Nat → Int32) : c_ct (uT S t mk lf ow re) = c_ct S := rfl
theorem uT_nm (S : CS) (t mk lf : Nat) (ow re : Nat → Int32) : c_nm (uT S t mk lf ow re) = c_nm S := rfl
theorem uT_td (S : CS) (t mk lf : Nat) (ow re : Nat → Int32) : c_td (uT S t mk lf ow re) = c_td S := rfl
theorem uT_vl (S : CS) (t mk lf : Nat) (ow re : Nat → Int32) : c_vl (uT S t mk lf ow re) = c_vl S := rfl
theorem uT_sd (S : CS) (t mk lf : Nat) (ow re : Nat → Int32) : c_sd (uT S t mk lf ow re) = c_sd S := rfl
theorem uT_mo (S : CS) (t mk lf : Nat) (ow re : Nat → Int32) : c_mo (uT S t mk lf ow re) = c_mo S := rfl
theorem uT_mt (S : CS) (t mk lf : Nat) (ow re : Nat → Int32) : c_mt (uT S t mk lf ow re) = c_mt S := rfl
theorem uT_sn (S : CS) (t mk lf : Nat) (ow re : Nat → Int32) : c_sn (uT S t mk lf ow re) = c_sn S := rfl
theorem uT_wt (S : CS) (t mk lf : Nat) (ow re : Nat → Int32) : c_wt (uT S t mk lf ow re) = c_wt S := rfl
theorem uT_ib (S : CS) (t mk lf : Nat) (ow re : Nat → Int32) : c_ib (uT S t mk lf ow re) = c_ib S := rfl
theorem uT_mk (S : CS) (t mk lf : Nat) (ow re : Nat → Int32) : c_mk (uT S t mk lf ow re) = upN (c_mk S) t mk := rfl
theorem uT_lf (S : CS) (t mk lf : Nat) (ow re : Nat → Int32) : c_lf (uT S t mk lf ow re) = upN (c_lf S) t lf := rfl
theorem uT_ow (S : CS) (t mk lf : Nat) (ow re : Nat → Int32) : c_ow (uT S t mk lf ow re) = va_up (c_ow S) t ow := rfl
theorem uT_re (S : CS) (t mk lf : Nat) (ow re : Nat → Int32) : c_re (uT S t mk lf ow re) = va_up (c_re S) t re := rfl
theorem uD_ct (S : CS) (d : Nat) (mo : Nat → Int32) (mt sn wt : Int32) (ib : Bool) : c_ct (uD S d mo mt sn wt ib) = c_ct S := rfl
theorem uD_nm (S : CS) (d : Nat) (mo : Nat → Int32) (mt sn wt : Int32) (ib : Bool) : c_nm (uD S d mo mt sn wt ib) = c_nm S := rfl
theorem uD_td (S : CS) (d : Nat) (mo : Nat → Int32) (mt sn wt : Int32) (ib : Bool) : c_td (uD S d mo mt sn wt ib) = c_td S := rfl
theorem uD_vl (S : CS) (d : Nat) (mo : Nat → Int32) (mt sn wt : Int32) (ib : Bool) : c_vl (uD S d mo mt sn wt ib) = c_vl S := rfl
theorem uD_sd (S : CS) (d : Nat) (mo : Nat → Int32) (mt sn wt : Int32) (ib : Bool) : c_sd (uD S d mo mt sn wt ib) = c_sd S := rfl
theorem uD_mo (S : CS) (d : Nat) (mo : Nat → Int32) (mt sn wt : Int32) (ib : Bool) : c_mo (uD S d mo mt sn wt ib) = va_up (c_mo S) d mo := rfl
theorem uD_mt (S : CS) (d : Nat) (mo : Nat → Int32) (mt sn wt : Int32) (ib : Bool) : c_mt (uD S d mo mt sn wt ib) = va_up (c_mt S) d mt := rfl
theorem uD_sn (S : CS) (d : Nat) (mo : Nat → Int32) (mt sn wt : Int32) (ib : Bool) : c_sn (uD S d mo mt sn wt ib) = va_up (c_sn S) d sn := rfl
theorem uD_wt (S : CS) (d : Nat) (mo : Nat → Int32) (mt sn wt : Int32) (ib : Bool) : c_wt (uD S d mo mt sn wt ib) = va_up (c_wt S) d wt := rfl
theorem uD_ib (S : CS) (d : Nat) (mo : Nat → Int32) (mt sn wt : Int32) (ib : Bool) : c_ib (uD S d mo mt sn wt ib) = va_up (c_ib S) d ib := rfl
theorem uD_mk (S : CS) (d : Nat) (mo : Nat → Int32) (mt sn wt : Int32) (ib : Bool) : c_mk (uD S d mo mt sn wt ib) = c_mk S := rfl
theorem uD_lf (S : CS) (d : Nat) (mo : Nat → Int32) (mt sn wt : Int32) (ib : Bool) : c_lf (uD S d mo mt sn wt ib) = c_lf S := rfl
theorem uD_ow (S : CS) (d : Nat) (mo : Nat → Int32) (mt sn wt : Int32) (ib : Bool) : c_ow (uD S d mo mt sn wt ib) = c_ow S := rfl
theorem uD_re (S : CS) (d : Nat) (mo : Nat → Int32) (mt sn wt : Int32) (ib : Bool) : c_re (uD S d mo mt sn wt ib) = c_re S := rfl
theorem uK_ct (S : CS) (ct : Nat) (nm td : Nat → Nat) (vl : Nat → Int32) (sd : Nat → Bool) : c_ct (uK S ct nm td vl sd) = ct := rfl
theorem uK_nm (S : CS) (ct : Nat) (nm td : Nat → Nat) (vl : Nat → Int32) (sd : Nat → Bool) : c_nm (uK S ct nm td vl sd) = nm := rfl
theorem uK_td (S : CS) (ct : Nat) (nm td : Nat → Nat) (vl : Nat → Int32) (sd : Nat → Bool) : c_td (uK S ct nm td vl sd) = td := rfl
theorem uK_vl (S : CS) (ct : Nat) (nm td : Nat → Nat) (vl : Nat → Int32) (sd : Nat → Bool) : c_vl (uK S ct nm td vl sd) = vl := rfl
theorem uK_sd (S : CS) (ct : Nat) (nm td : Nat → Nat) (vl : Nat → Int32) (sd : Nat → Bool) : c_sd (uK S ct nm td vl sd) = sd := rfl
theorem uK_mo (S : CS) (ct : Nat) (nm td : Nat → Nat) (vl : Nat → Int32) (sd : Nat → Bool) : c_mo (uK S ct nm td vl sd) = c_mo S := rfl
theorem uK_mt (S : CS) (ct : Nat) (nm td : Nat → Nat) (vl : Nat → Int32) (sd : Nat → Bool) : c_mt (uK S ct nm td vl sd) = c_mt S := rfl
theorem uK_sn (S : CS) (ct : Nat) (nm td : Nat → Nat) (vl : Nat → Int32) (sd : Nat → Bool) : c_sn (uK S ct nm td vl sd) = c_sn S := rfl
theorem uK_wt (S : CS) (ct : Nat) (nm td : Nat → Nat) (vl : Nat → Int32) (sd : Nat → Bool) : c_wt (uK S ct nm td vl sd) = c_wt S := rfl
theorem uK_ib (S : CS) (ct : Nat) (nm td : Nat → Nat) (vl : Nat → Int32) (sd : Nat → Bool) : c_ib (uK S ct nm td vl sd) = c_ib S := rfl
theorem uK_mk (S : CS) (ct : Nat) (nm td : Nat → Nat) (vl : Nat → Int32) (sd : Nat → Bool) : c_mk (uK S ct nm td vl sd) = c_mk S := rfl
theorem uK_lf (S : CS) (ct : Nat) (nm td : Nat → Nat) (vl : Nat → Int32) (sd : Nat → Bool) : c_lf (uK S ct nm td vl sd) = c_lf S := rfl
theorem uK_ow (S : CS) (ct : Nat) (nm td : Nat → Nat) (vl : Nat → Int32) (sd : Nat → Bool) : c_ow (uK S ct nm td vl sd) = c_ow S := rfl
theorem uK_re (S : CS) (ct : Nat) (nm td : Nat → Nat) (vl : Nat → Int32) (sd : Nat → Bool) : c_re (uK S ct nm td vl sd) = c_re S := rfl
theorem rep_uT {cA : Nat → ClassId} {adr : Nat → Nat} {S : CS} {E E2 : Nat → va_E} (hR : Rep cA adr S E) {t mk lf : Nat} {ow re : Nat → Int32} (ht : t < 5)
    (h0 : E2 (15 + 3 * t) = .inr (1, [.ref (adr (15 + 3 * t + 1)), .ref (adr (15 + 3 * t + 2)), .int (nI mk), .int (nI lf)])) (h1 : E2 (15 + 3 * t + 1) = .inl (cA 0, 6, .inl ow)) (h2 : E2 (15 + 3 * t + 2) = .inl (cA 0, 6, .inl re))
    (hF : ∀ j, j ≠ 15 + 3 * t → j ≠ 15 + 3 * t + 1 → j ≠ 15 + 3 * t + 2 → E2 j = E j) (hmk2 : mk ≤ 6) (hlf2 : lf ≤ 3) : Rep cA adr (uT S t mk lf ow re) E2 := by
  obtain ⟨hE0, hE1, hE2, hK0, hK1, hK2, hK3, hK4, ⟨hdv, hE8⟩, hDk, hTl, hct, hnm, htd, hmk, hlf⟩ := hR
  refine ⟨(hF 0 (by omega) (by omega) (by omega)).trans hE0, (hF 1 (by omega) (by omega) (by omega)).trans hE1, (hF 2 (by omega) (by omega) (by omega)).trans hE2, (hF 3 (by omega) (by omega) (by omega)).trans hK0, (hF (3 + 1) (by omega) (by omega) (by omega)).trans hK1, (hF (3 + 2) (by omega) (by omega) (by omega)).trans hK2, (hF (3 + 3) (by omega) (by omega) (by omega)).trans hK3, (hF (3 + 4) (by omega) (by omega) (by omega)).trans hK4, ⟨hdv, (hF 8 (by omega) (by omega) (by omega)).trans hE8⟩, fun d hd => ⟨(hF _ (by omega) (by omega) (by omega)).trans (hDk d hd).1, (hF _ (by omega) (by omega) (by omega)).trans (hDk d hd).2⟩, fun t' ht' => ?_, hct, hnm, htd, fun t' ht' => ?_, fun t' ht' => ?_⟩
  · by_cases e : t' = t
    · subst e
      refine ⟨?_, ?_, ?_⟩
      · rw [h0, uT_mk, uT_lf, upN_self, upN_self]
      · rw [h1, uT_ow, va_up_self]
      · rw [h2, uT_re, va_up_self]
    · obtain ⟨a0, a1, a2⟩ := hTl t' ht'
      refine ⟨?_, ?_, ?_⟩
      · rw [hF _ (by omega) (by omega) (by omega), a0, uT_mk, uT_lf, upN_ne _ _ e, upN_ne _ _ e]
      · rw [hF _ (by omega) (by omega) (by omega), a1, uT_ow, va_up_ne _ _ e]
      · rw [hF _ (by omega) (by omega) (by omega), a2, uT_re, va_up_ne _ _ e]
  · show upN (c_mk S) t mk t' ≤ 6
    unfold upN; split
    · exact hmk2
    · exact hmk t' ht'
  · show upN (c_lf S) t lf t' ≤ 3
    unfold upN; split
    · exact hlf2
    · exact hlf t' ht'
theorem rep_uD {cA : Nat → ClassId} {adr : Nat → Nat} {S : CS} {E E2 : Nat → va_E} (hR : Rep cA adr S E) {d : Nat} {mo : Nat → Int32} {mt sn wt : Int32} {ib : Bool} (hd : d < 3)
    (h0 : E2 (9 + 2 * d) = .inr (0, [.ref (adr (9 + 2 * d + 1)), .int mt, .int sn, .int wt, .int (bI ib)])) (h1 : E2 (9 + 2 * d + 1) = .inl (cA 0, 120, .inl mo))
    (hF : ∀ j, j ≠ 9 + 2 * d → j ≠ 9 + 2 * d + 1 → E2 j = E j) : Rep cA adr (uD S d mo mt sn wt ib) E2 := by
  obtain ⟨hE0, hE1, hE2, hK0, hK1, hK2, hK3, hK4, ⟨hdv, hE8⟩, hDk, hTl, hct, hnm, htd, hmk, hlf⟩ := hR
  refine ⟨(hF 0 (by omega) (by omega)).trans hE0, (hF 1 (by omega) (by omega)).trans hE1, (hF 2 (by omega) (by omega)).trans hE2, (hF 3 (by omega) (by omega)).trans hK0, (hF (3 + 1) (by omega) (by omega)).trans hK1, (hF (3 + 2) (by omega) (by omega)).trans hK2, (hF (3 + 3) (by omega) (by omega)).trans hK3, (hF (3 + 4) (by omega) (by omega)).trans hK4, ⟨hdv, (hF 8 (by omega) (by omega)).trans hE8⟩, fun d' hd' => ?_, fun t ht => ⟨(hF _ (by omega) (by omega)).trans (hTl t ht).1, (hF _ (by omega) (by omega)).trans (hTl t ht).2.1, (hF _ (by omega) (by omega)).trans (hTl t ht).2.2⟩, hct, hnm, htd, hmk, hlf⟩
  by_cases e : d' = d
  · subst e
    refine ⟨?_, ?_⟩
    · rw [h0, uD_mt, uD_sn, uD_wt, uD_ib, va_up_self, va_up_self, va_up_self, va_up_self]
    · rw [h1, uD_mo, va_up_self]
  · obtain ⟨a0, a1⟩ := hDk d' hd'
    refine ⟨?_, ?_⟩
    · rw [hF _ (by omega) (by omega), a0, uD_mt, uD_sn, uD_wt, uD_ib, va_up_ne _ _ e, va_up_ne _ _ e, va_up_ne _ _ e, va_up_ne _ _ e]
    · rw [hF _ (by omega) (by omega), a1, uD_mo, va_up_ne _ _ e]
theorem rep_uK {cA : Nat → ClassId} {adr : Nat → Nat} {S : CS} {E E2 : Nat → va_E} (hR : Rep cA adr S E) {ct : Nat} {nm td : Nat → Nat} {vl : Nat → Int32} {sd : Nat → Bool}
    (h0 : E2 3 = .inr (2, [.ref (adr (3 + 1)), .ref (adr (3 + 2)), .ref (adr (3 + 3)), .ref (adr (3 + 4)), .int (nI ct)])) (h1 : E2 (3 + 1) = .inl (cA 0, 120, .inl (fun j => nI (nm j)))) (h2 : E2 (3 + 2) = .inl (cA 0, 120, .inl (fun j => nI (td j)))) (h3 : E2 (3 + 3) = .inl (cA 0, 120, .inl vl)) (h4 : E2 (3 + 4) = .inl (cA 1, 120, .inl (fun j => bI (sd j))))
    (hF : ∀ j, j ≠ 3 → j ≠ 3 + 1 → j ≠ 3 + 2 → j ≠ 3 + 3 → j ≠ 3 + 4 → E2 j = E j) (hct2 : ct ≤ 120) (hnm2 : ∀ j, nm j < 2560) (htd2 : ∀ j, td j < 2 ^ 30) : Rep cA adr (uK S ct nm td vl sd) E2 := by
  obtain ⟨hE0, hE1, hE2, hK0, hK1, hK2, hK3, hK4, ⟨hdv, hE8⟩, hDk, hTl, hct, hnm, htd, hmk, hlf⟩ := hR
  exact ⟨(hF 0 (by omega) (by omega) (by omega) (by omega) (by omega)).trans hE0, (hF 1 (by omega) (by omega) (by omega) (by omega) (by omega)).trans hE1, (hF 2 (by omega) (by omega) (by omega) (by omega) (by omega)).trans hE2, h0, h1, h2, h3, h4, ⟨hdv, (hF 8 (by omega) (by omega) (by omega) (by omega) (by omega)).trans hE8⟩, fun d hd => ⟨(hF _ (by omega) (by omega) (by omega) (by omega) (by omega)).trans (hDk d hd).1, (hF _ (by omega) (by omega) (by omega) (by omega) (by omega)).trans (hDk d hd).2⟩, fun t ht => ⟨(hF _ (by omega) (by omega) (by omega) (by omega) (by omega)).trans (hTl t ht).1, (hF _ (by omega) (by omega) (by omega) (by omega) (by omega)).trans (hTl t ht).2.1, (hF _ (by omega) (by omega) (by omega) (by omega) (by omega)).trans (hTl t ht).2.2⟩, hct2, hnm2, htd2, hmk, hlf⟩
def pq (D : va_G) (cA : Nat → ClassId) (lo : Nat) (adr : Nat → Nat) (n : Nat) (E : Nat → va_E) (C : Prop) (r : Int32) (S2 : CS) : Array Value → State → Outcome → State → Prop := fun _ st o t =>
  o = .returned (some (.int r)) ∧ C ∧ ∃ E2 : Nat → va_E, Rep cA adr S2 E2 ∧ (∀ j, 30 ≤ j → E2 j = E j) ∧ va_P D kcl (wl adr n E2) t.heap ∧ va_F (fun q => lo ≤ q) st t
def k_rest (S : CS) (t : Int32) : Nat := if inN t 5 then (if 3 ≤ c_lf S t.toNatClampNeg then 2 else 0) else 1
def r_rest (S : CS) (t : Int32) : Int32 := nI (c_lf S t.toNatClampNeg + 1)
def s_rest (S : CS) (t : Int32) : CS := uT S t.toNatClampNeg (c_mk S t.toNatClampNeg) (c_lf S t.toNatClampNeg + 1) (c_ow S t.toNatClampNeg) (c_re S t.toNatClampNeg)
def c_fol (S : CS) (t : Nat) (a b : Int32) : Bool := decide (c_mk S t = 0) || (decide (c_ow S t (c_mk S t - 1) < a) && decide (c_re S t (c_mk S t - 1) ≤ b))
def k_mark (S : CS) (t a b : Int32) : Nat := if inN t 5 then (if 6 ≤ c_mk S t.toNatClampNeg then 2 else if inN a 1000001 && inN b 1000001 && c_fol S t.toNatClampNeg a b then 0 else 3) else 1
def r_mark (S : CS) (t : Int32) : Int32 := nI (c_mk S t.toNatClampNeg + 1)
def s_mark (S : CS) (t a b : Int32) : CS := uT S t.toNatClampNeg (c_mk S t.toNatClampNeg + 1) (c_lf S t.toNatClampNeg) (upd (c_ow S t.toNatClampNeg) (c_mk S t.toNatClampNeg) a) (upd (c_re S t.toNatClampNeg) (c_mk S t.toNatClampNeg) b)
def tk (S : CS) (d j : Nat) : CS := uD S d (upd (c_mo S d) j (if c_ib S d then -1 else c_mt S d + 1)) (if c_ib S d then c_mt S d else c_mt S d + 1) (if c_ib S d then c_sn S d else c_sn S d + 1) (if c_ib S d then c_wt S d + 1 else c_wt S d) (c_ib S d)
def eb (S : CS) (d : Nat) : CS := uD S d (if c_wt S d = 0 then c_mo S d else fun j => if j < 120 ∧ c_mo S d j = -1 then c_mt S d + 1 else c_mo S d j) (if c_wt S d = 0 then c_mt S d else c_mt S d + 1) (if c_wt S d = 0 then c_sn S d else c_sn S d + c_wt S d) 0 false
def k_bat (S : CS) (d : Int32) (on : Bool) : Nat := if inN d 3 then (if c_ib S d.toNatClampNeg = on then 2 else 0) else 1
def s_bat (S : CS) (d : Int32) (on : Bool) : CS := if on then uD S d.toNatClampNeg (c_mo S d.toNatClampNeg) (c_mt S d.toNatClampNeg) (c_sn S d.toNatClampNeg) (c_wt S d.toNatClampNeg) true else eb S d.toNatClampNeg
def r_bat (S : CS) (d : Int32) (on : Bool) : Int32 := c_mt (s_bat S d on) d.toNatClampNeg
def jn (S : CS) (d o : Nat) : Nat → CS × Nat
  | 0 => (S, 0)
  | i + 1 => if c_see (jn S d o i).1 o i && !c_has (jn S d o i).1 d i then (tk (jn S d o i).1 d i, (jn S d o i).2 + 1) else jn S d o i
def k_join (_S : CS) (d o : Int32) : Nat := if inN d 3 && inN o 3 && !decide (d = o) then 0 else 1
def s_join (S : CS) (d o : Int32) : CS := (jn S d.toNatClampNeg o.toNatClampNeg (c_ct S)).1
def r_join (S : CS) (d o : Int32) : Int32 := nI (jn S d.toNatClampNeg o.toNatClampNeg (c_ct S)).2
theorem jn_ct {S : CS} {d o i : Nat} : c_ct (jn S d o i).1 = c_ct S := by
  induction i with
  | zero => rfl
  | succ i ih => simp only [jn]; split <;> exact ih
theorem jn_le {S : CS} {d o i : Nat} : (jn S d o i).2 ≤ i := by
  induction i with
  | zero => exact Nat.le_refl _
  | succ i ih =>
    simp only [jn]
    split
    · show (jn S d o i).2 + 1 ≤ i + 1; omega
    · omega
def kth (S : CS) (a q : Nat) : Option Nat := fiB (fun j => decide (c_nm S j = a) && decide (ctB (fun j => decide (c_nm S j = a)) j = q)) (c_ct S)
def k_set (S : CS) (x k : Int32) : Nat := if nOK x && decide (0 ≤ k) then (if kth S x.toNatClampNeg k.toNatClampNeg = none then 1 else 0) else 1
def s_set (S : CS) (x k : Int32) : CS := uK S (c_ct S) (c_nm S) (c_td S) (c_vl S) (fun j => if j < c_ct S ∧ c_nm S j = c_nm S ((kth S x.toNatClampNeg k.toNatClampNeg).getD 0) then decide (j = (kth S x.toNatClampNeg k.toNatClampNeg).getD 0) else c_sd S j)
def r_set (S : CS) (x k : Int32) : Int32 := c_vl S ((kth S x.toNatClampNeg k.toNatClampNeg).getD 0)
def t_nm (S : CS) (t : Nat) (b : Nat) : Nat := t * 512 + c_lf S t * 128 + b / 2 ^ 23 % 128
def t_fd (S : CS) (t b : Nat) (v : Int32) : Option Nat := fiB (fun j => decide (c_nm S j = t_nm S t b) && decide (c_td S j = b) && decide (c_vl S j = v)) (c_ct S)
def t_ad (S : CS) (t b : Nat) (v : Int32) : CS := if t_fd S t b v = none then uK S (c_ct S + 1) (upN (c_nm S) (c_ct S) (t_nm S t b)) (upN (c_td S) (c_ct S) b) (upd (c_vl S) (c_ct S) v) (c_sd S) else S
def t_ix (S : CS) (t b : Nat) (v : Int32) : Nat := (t_fd S t b v).getD (c_ct S)
def k_tell (S : CS) (d t : Int32) (x : Int64) (v : Int32) : Nat := if inN d 3 && inN t 5 then (if tOK x then (if t_fd S t.toNatClampNeg (tN x) v = none ∧ 120 ≤ c_ct S then 3 else 0) else 2) else 1
def hasT (S : CS) (d t b : Nat) (v : Int32) : Bool := c_has (t_ad S t b v) d (t_ix S t b v) && !decide (t_fd S t b v = none)
def r_tell (S : CS) (d t b : Nat) (v : Int32) : Int32 := if hasT S d t b v then 1 else if anB (fun r => c_rv (t_ad S t b v) (t_ix S t b v) r && c_has (t_ad S t b v) d r) (c_ct (t_ad S t b v)) then 2 else 0
def s_tell (S : CS) (d t b : Nat) (v : Int32) : CS := if hasT S d t b v then t_ad S t b v else tk (t_ad S t b v) d (t_ix S t b v)
