/-! GAPS: heard numbers, the greatest, runs that are not heard -/
def c_hN (S : CS) (d t m : Nat) : Bool := anB (fun i => c_see S d i && decide (c_nm S i = t * 512 + c_lf S t * 128 + m)) (c_ct S)
def c_hq (S : CS) (d t i : Nat) : Bool := c_see S d i && decide (c_nm S i = t * 512 + c_lf S t * 128 + c_nm S i % 128) && decide (c_nm S i % 128 < 100)
def mx (g : Option Nat) (u : Nat) : Option Nat := match g with
  | none => some u
  | some z => if z < u then some u else some z
def gM (S : CS) (d t : Nat) : Nat → Option Nat
  | 0 => none
  | i + 1 => if c_hq S d t i then mx (gM S d t i) (c_nm S i % 128) else gM S d t i
theorem gM_lt {S : CS} {d t i z : Nat} (h : gM S d t i = some z) : z < 100 := by
  induction i generalizing z with
  | zero => cases h
  | succ i ih =>
    simp only [gM] at h
    by_cases hq : c_hq S d t i = true
    · rw [if_pos hq] at h
      have hu : c_nm S i % 128 < 100 := by
        unfold c_hq at hq
        simp only [Bool.and_eq_true, decide_eq_true_eq] at hq
        exact hq.2
      cases hg : gM S d t i with
      | none => rw [hg] at h; simp only [mx] at h; have := Option.some.inj h; omega
      | some y =>
        rw [hg] at h
        simp only [mx] at h
        have := ih hg
        split at h <;> (have := Option.some.inj h; omega)
    · rw [if_neg hq] at h; exact ih h
theorem oI_mx {g : Option Nat} {u : Nat} (hu : u < 2 ^ 31) (hg : ∀ z, g = some z → z < 2 ^ 31) : (if oI g < nI u then nI u else oI g) = oI (mx g u) := by
  cases g with
  | none =>
    have h : (-1 : Int32) < nI u := by
      rw [Int32.lt_iff_toInt_lt, nI_toInt hu]
      have : (-1 : Int32).toInt = -1 := by decide
      omega
    exact if_pos h
  | some z =>
    have hz := hg z rfl
    by_cases h : z < u
    · have e : mx (some z) u = some u := if_pos h
      rw [e]
      exact if_pos ((nI_ltI hz hu).mpr h)
    · have e : mx (some z) u = some z := if_neg h
      rw [e]
      exact if_neg (fun q => h ((nI_ltI hz hu).mp q))
theorem hq_t {S : CS} {d t i : Nat} (h1 : c_see S d i = true) (h2 : c_nm S i = t * 512 + c_lf S t * 128 + c_nm S i % 128) (h3 : c_nm S i % 128 < 100) : c_hq S d t i = true := by
  unfold c_hq; rw [h1, decide_eq_true h2, decide_eq_true h3]; rfl
theorem hh_hit {S : CS} {d t i : Nat} {h : Nat → Bool} (hh : ∀ j, j < 100 → h j = anB (fun r => c_see S d r && decide (c_nm S r = t * 512 + c_lf S t * 128 + j)) i) (h1 : c_see S d i = true) (h2 : c_nm S i = t * 512 + c_lf S t * 128 + c_nm S i % 128) :
    ∀ j, j < 100 → upZ h (c_nm S i % 128) true j = anB (fun r => c_see S d r && decide (c_nm S r = t * 512 + c_lf S t * 128 + j)) (i + 1) := by
  intro j hj
  unfold upZ
  simp only [anB]
  by_cases e : j = c_nm S i % 128
  · rw [if_pos e, h1, decide_eq_true (by rw [e]; exact h2)]; simp
  · rw [if_neg e, decide_eq_false (fun q => e (by omega)), Bool.and_false, Bool.or_false]; exact hh j hj
theorem hh_mis {S : CS} {d t i : Nat} {h : Nat → Bool} (hh : ∀ j, j < 100 → h j = anB (fun r => c_see S d r && decide (c_nm S r = t * 512 + c_lf S t * 128 + j)) i) (hq : c_hq S d t i = false) :
    ∀ j, j < 100 → h j = anB (fun r => c_see S d r && decide (c_nm S r = t * 512 + c_lf S t * 128 + j)) (i + 1) := by
  intro j hj
  simp only [anB]
  have : (c_see S d i && decide (c_nm S i = t * 512 + c_lf S t * 128 + j)) = false := by
    cases hs : c_see S d i with
    | false => rfl
    | true =>
      rw [Bool.true_and]
      refine decide_eq_false (fun e => ?_)
      have : c_hq S d t i = true := hq_t hs (by omega) (by omega)
      rw [this] at hq; cases hq
  rw [this, Bool.or_false]; exact hh j hj
theorem rep_H {cA : Nat → ClassId} {adr : Nat → Nat} {S : CS} {E E2 : Nat → va_E} (hR : Rep cA adr S E) {h : Nat → Bool} (h8 : E2 8 = .inl (cA 1, 100, .inl (fun j => bI (h j)))) (hF : ∀ j, j ≠ 8 → E2 j = E j) : Rep cA adr S E2 := by
  obtain ⟨hE0, hE1, hE2, hK0, hK1, hK2, hK3, hK4, ⟨hdv, hE8⟩, hDk, hTl, hct, hnm, htd, hmk, hlf⟩ := hR
  exact ⟨(hF 0 (by omega)).trans hE0, (hF 1 (by omega)).trans hE1, (hF 2 (by omega)).trans hE2, (hF 3 (by omega)).trans hK0, (hF (3 + 1) (by omega)).trans hK1, (hF (3 + 2) (by omega)).trans hK2, (hF (3 + 3) (by omega)).trans hK3, (hF (3 + 4) (by omega)).trans hK4, ⟨h, h8⟩, fun d hd => ⟨(hF _ (by omega)).trans (hDk d hd).1, (hF _ (by omega)).trans (hDk d hd).2⟩, fun t ht => ⟨(hF _ (by omega)).trans (hTl t ht).1, (hF _ (by omega)).trans (hTl t ht).2.1, (hF _ (by omega)).trans (hTl t ht).2.2⟩, hct, hnm, htd, hmk, hlf⟩
/-- the run that is open ahead of number i, and how many are closed -/
def gF (h : Nat → Bool) : Nat → Option Nat
  | 0 => none
  | i + 1 => if h i then none else some ((gF h i).getD i)
def gC (h : Nat → Bool) : Nat → Nat
  | 0 => 0
  | i + 1 => gC h i + (if h i && (gF h i).isSome then 1 else 0)
theorem gF_lt {h : Nat → Bool} {i z : Nat} (e : gF h i = some z) : z < i := by
  induction i generalizing z with
  | zero => cases e
  | succ i ih =>
    simp only [gF] at e
    by_cases hi : h i = true
    · rw [if_pos hi] at e; cases e
    · rw [if_neg hi] at e
      have := Option.some.inj e
      cases hg : gF h i with
      | none => rw [hg] at this; simp at this; omega
      | some y => rw [hg] at this; simp at this; have := ih hg; omega
def gapB (h : Nat → Bool) (k : Nat) (i : Nat) : Bool := h i && (gF h i).isSome && decide (gC h i = k)
def gapR (h : Nat → Bool) (top k : Nat) : Int32 := match fiB (gapB h k) top with
  | none => -1
  | some i => nI (100 * (gF h i).getD 0 + i - 1)
def gtop (g : Option Nat) : Nat := match g with
  | none => 0
  | some z => z + 1
def k_gap (_S : CS) (d t k : Int32) : Nat := if inN d 3 && inN t 5 && decide (0 ≤ k) then 0 else 1
def r_gap (S : CS) (d t k : Int32) : Int32 := gapR (c_hN S d.toNatClampNeg t.toNatClampNeg) (gtop (gM S d.toNatClampNeg t.toNatClampNeg (c_ct S))) k.toNatClampNeg
