/-! a batch's end, in the reference's steps -/
def bF (M : Nat → Int32) (X : Int32) (i : Nat) : Nat → Int32 := fun j => if j < i ∧ M j < 0 then X else M j
theorem bF_0 {M : Nat → Int32} {X : Int32} : bF M X 0 = M := by
  funext j; exact if_neg (fun q => absurd q.1 (Nat.not_lt_zero j))
theorem bF_at {M : Nat → Int32} {X : Int32} {i : Nat} : bF M X i i = M i := if_neg (fun q => absurd q.1 (Nat.lt_irrefl _))
theorem bF_hit {M : Nat → Int32} {X : Int32} {i : Nat} (h : M i < 0) : upd (bF M X i) i X = bF M X (i + 1) := by
  funext j
  unfold upd bF
  by_cases e : j = i
  · subst e; rw [if_pos rfl, if_pos ⟨Nat.lt_succ_self _, h⟩]
  · rw [if_neg e]
    by_cases q : j < i ∧ M j < 0
    · rw [if_pos q, if_pos ⟨by omega, q.2⟩]
    · rw [if_neg q, if_neg (fun g => q ⟨by omega, g.2⟩)]
theorem bF_mis {M : Nat → Int32} {X : Int32} {i : Nat} (h : ¬ M i < 0) : bF M X (i + 1) = bF M X i := by
  funext j
  unfold bF
  by_cases q : j < i ∧ M j < 0
  · rw [if_pos q, if_pos ⟨by omega, q.2⟩]
  · rw [if_neg q, if_neg (fun g => q ⟨by have := g.1; by_cases e : j = i; (subst e; exact absurd g.2 h); omega, g.2⟩)]
theorem va_up_up {α : Type} (f : Nat → α) (k : Nat) (x y : α) : va_up (va_up f k x) k y = va_up f k y := by
  funext j; unfold va_up; split <;> rfl
theorem bat_fin0 {cA : Nat → ClassId} {adr : Nat → Nat} {S : CS} {th : Int32} {E : Nat → va_E} {d : Nat} {on : Bool} {X : Int32} (hV : Inv S) (hd : d < 3) (hon : ¬ c_ib S d = on) (hw : ctB (fun j => decide (c_mo S d j < 0)) (c_ct S) = 0)
    (hR : RepM cA adr (w_mo (w_ib S (upZ (c_ib S) d on)) (va_up (c_mo S) d (bF (c_mo S d) X (c_ct S)))) th E) : RepM cA adr (s_bat S (nI d) on) th E := by
  obtain ⟨⟨hs, hw0⟩, hz, ⟨m, em, hm, hv⟩, hi⟩ := inv_D hV hd
  have eb0 : bF (c_mo S d) X (c_ct S) = c_mo S d := by
    funext j
    exact if_neg (fun q => by have := ctB_0 hw j q.1; rw [decide_eq_true q.2] at this; cases this)
  have w0 : c_wt S d = 0 := by rw [hw0, hw]; rfl
  unfold s_bat
  rw [nI_clamp (by omega)]
  cases on
  · simp only [Bool.false_eq_true, if_false]
    unfold eb
    simp only [w0, if_true]
    exact repm_ext hR rfl rfl rfl rfl rfl (by show va_up (c_mo S) d (c_mo S d) = va_up (c_mo S) d _; rw [eb0]) (by show va_up (c_mt S) d (c_mt S d) = c_mt S; exact va_up_id _ _) rfl rfl rfl rfl rfl
  · simp only [if_true]
    exact repm_ext hR rfl rfl rfl rfl rfl (by show va_up (c_mo S) d (c_mo S d) = va_up (c_mo S) d _; rw [eb0]) (by show va_up (c_mt S) d (c_mt S d) = c_mt S; exact va_up_id _ _) rfl rfl rfl rfl rfl
theorem bat_fin1 {cA : Nat → ClassId} {adr : Nat → Nat} {S : CS} {th : Int32} {E : Nat → va_E} {d : Nat} {on : Bool} {X : Int32} (hX : X = c_mt S d + 1) (hV : Inv S) (hd : d < 3) (hon : ¬ c_ib S d = on) (hw : ¬ ctB (fun j => decide (c_mo S d j < 0)) (c_ct S) = 0)
    (hR : RepM cA adr (w_mo (w_mt (w_ib S (upZ (c_ib S) d on)) (upd (c_mt S) d (c_mt S d + 1))) (va_up (c_mo S) d (bF (c_mo S d) X (c_ct S)))) th E) : RepM cA adr (s_bat S (nI d) on) th E := by
  subst hX
  obtain ⟨⟨hs, hw0⟩, hz, ⟨m, em, hm, hv⟩, hi⟩ := inv_D hV hd
  have hct := hV.1
  have bl : ctB (fun i => decide (0 < c_mo S d i)) (c_ct S) ≤ c_ct S := ctB_le
  have bw : ctB (fun i => decide (c_mo S d i < 0)) (c_ct S) ≤ c_ct S := ctB_le
  have w0 : ¬ c_wt S d = 0 := fun q => hw (by rw [hw0] at q; exact (nI_eq (b := 0) (by omega) (by omega)).mp q)
  have neg : ∀ j, c_mo S d j < 0 ↔ c_mo S d j = -1 := fun j => by
    rcases hv j with q | ⟨v, q1, q2⟩
    · rw [q]; exact ⟨fun _ => rfl, fun _ => by decide⟩
    · rw [q2]; exact ⟨fun g => absurd g (nI_lt0 (by omega)), fun g => absurd g (nI_nm1 (by omega))⟩
  unfold s_bat
  rw [nI_clamp (by omega)]
  cases on
  · simp only [Bool.false_eq_true, if_false]
    unfold eb
    simp only [w0, if_false]
    refine repm_ext hR rfl rfl rfl rfl rfl ?_ rfl rfl rfl rfl rfl rfl
    show va_up (c_mo S) d _ = va_up (c_mo S) d _
    refine congrArg (va_up (c_mo S) d) (funext fun j => ?_)
    unfold bF
    by_cases q : c_mo S d j = -1
    · have hj : j < c_ct S := by
        rcases Nat.lt_or_ge j (c_ct S) with g | g
        · exact g
        · rw [hz j g] at q; exact absurd q (by decide)
      rw [if_pos ⟨by omega, q⟩, if_pos ⟨hj, (neg j).mpr q⟩]
    · rw [if_neg (fun g => q g.2), if_neg (fun g => q ((neg j).mp g.2))]
  · refine absurd (ctB_none (fun j hj => decide_eq_false (fun g => ?_))) hw
    exact hi (by cases hc : c_ib S d with | false => rfl | true => exact absurd hc hon) j ((neg j).mp g)
theorem bat_mt0 {S : CS} {d : Nat} {on : Bool} (hV : Inv S) (hd : d < 3) (_hon : ¬ c_ib S d = on) (hw : ctB (fun j => decide (c_mo S d j < 0)) (c_ct S) = 0) : c_mt S d = c_mt (s_bat S (nI d) on) d := by
  obtain ⟨⟨hs, hw0⟩, hz, ⟨m, em, hm, hv⟩, hi⟩ := inv_D hV hd
  have w0 : c_wt S d = 0 := by rw [hw0, hw]; rfl
  unfold s_bat
  rw [nI_clamp (by omega)]
  cases on
  · simp only [Bool.false_eq_true, if_false]; unfold eb; simp only [w0, if_true]; exact (va_up_self _ _ _).symm
  · simp only [if_true]; exact (va_up_self _ _ _).symm
theorem bat_mt1 {S : CS} {d : Nat} {on : Bool} (hV : Inv S) (hd : d < 3) (hon : ¬ c_ib S d = on) (hw : ¬ ctB (fun j => decide (c_mo S d j < 0)) (c_ct S) = 0) : upd (c_mt S) d (c_mt S d + 1) d = c_mt (s_bat S (nI d) on) d := by
  obtain ⟨⟨hs, hw0⟩, hz, ⟨m, em, hm, hv⟩, hi⟩ := inv_D hV hd
  have hct := hV.1
  have bl : ctB (fun i => decide (0 < c_mo S d i)) (c_ct S) ≤ c_ct S := ctB_le
  have bw : ctB (fun i => decide (c_mo S d i < 0)) (c_ct S) ≤ c_ct S := ctB_le
  have w0 : ¬ c_wt S d = 0 := fun q => hw (by rw [hw0] at q; exact (nI_eq (b := 0) (by omega) (by omega)).mp q)
  have neg : ∀ j, c_mo S d j < 0 → c_mo S d j = -1 := fun j => by
    rcases hv j with q | ⟨v, q1, q2⟩
    · rw [q]; exact fun _ => rfl
    · rw [q2]; exact fun g => absurd g (nI_lt0 (by omega))
  unfold s_bat
  rw [nI_clamp (by omega)]
  cases on
  · simp only [Bool.false_eq_true, if_false]; unfold eb; simp only [w0, if_false]; rfl
  · refine absurd (ctB_none (fun j hj => decide_eq_false (fun g => ?_))) hw
    exact hi (by cases hc : c_ib S d with | false => rfl | true => exact absurd hc hon) j (neg j g)
/-! telling -/
def Inv2 (S : CS) : Prop := ∀ j, c_ct S ≤ j → c_sd S j = false
theorem up_g {g : Nat → Int32} {f : Nat → Nat} {k y : Nat} {x : Int32} (h : g y = x) : upd (fun j => g (f j)) k x = fun j => g (upN f k y j) := by
  funext j; unfold upd upN; split
  · exact h.symm
  · rfl
theorem upZ_same {f : Nat → Bool} {k : Nat} {b : Bool} (h : f k = b) : upZ f k b = f := by
  funext j; unfold upZ; split
  · rename_i e; rw [e, h]
  · rfl
theorem ix_full {S : CS} {t b : Nat} {v : Int32} (h : c_ct S ≤ 120) : t_ix S t b v = 120 ↔ t_fd S t b v = none ∧ 120 ≤ c_ct S := by
  unfold t_ix
  cases hf : t_fd S t b v with
  | none => simp; omega
  | some z => have := (fiB_spec hf).1; simp; omega
theorem ix_new {S : CS} {t b : Nat} {v : Int32} : t_ix S t b v = c_ct S ↔ t_fd S t b v = none := by
  unfold t_ix
  cases hf : t_fd S t b v with
  | none => simp
  | some z => have := (fiB_spec hf).1; simp; omega
theorem sshr_and (x : BitVec 64) (k w : Nat) (hk : k + w ≤ 64) : (x.sshiftRight k &&& BitVec.ofNat 64 (2 ^ w - 1)) = BitVec.ofNat 64 (x.toNat / 2 ^ k % 2 ^ w) := by
  apply BitVec.eq_of_getLsbD_eq
  intro i hi
  rw [BitVec.getLsbD_and, BitVec.getLsbD_ofNat, BitVec.getLsbD_ofNat, Nat.testBit_mod_two_pow, Nat.testBit_two_pow_sub_one, Nat.testBit_div_two_pow]
  by_cases h : i < w
  · rw [BitVec.getLsbD_sshiftRight]
    simp only [show ¬ 64 ≤ i by omega, decide_false, Bool.not_false, Bool.true_and, h, decide_true, Bool.and_true, hi, show k + i < 64 by omega, if_true]
    rw [Nat.add_comm]; rfl
  · simp [h]
theorem td_bits (x : Int64) (y : Int32) (m : Int64) (k w : Nat) (hy : ((y.toInt64 &&& 63).toBitVec.smod 64).toNat = k) (hm : m.toBitVec = BitVec.ofNat 64 (2 ^ w - 1)) (hk : k + w ≤ 64) (hw : w ≤ 30) : ((x >>> (y.toInt64 &&& 63)) &&& m).toInt32 = nI (tN x / 2 ^ k % 2 ^ w) := by
  have e : ((x >>> (y.toInt64 &&& 63)) &&& m) = lN (tN x / 2 ^ k % 2 ^ w) := by
    apply Int64.toBitVec_inj.mp
    rw [Int64.toBitVec_and, hm]
    show BitVec.sshiftRight x.toBitVec ((y.toInt64 &&& 63).toBitVec.smod 64).toNat &&& _ = _
    rw [hy, sshr_and x.toBitVec k w hk]
    rfl
  rw [e, tN_i]
  have hb : tN x / 2 ^ k % 2 ^ w < 2 ^ w := Nat.mod_lt _ (Nat.two_pow_pos w)
  have hw2 : 2 ^ w ≤ 2 ^ 30 := Nat.pow_le_pow_right (by decide) hw
  congr 1
  show (BitVec.ofNat 64 (tN x / 2 ^ k % 2 ^ w)).toNat = _
  rw [BitVec.toNat_ofNat, Nat.mod_eq_of_lt (by omega)]
theorem td_lo (x m : Int64) (w : Nat) (hm : m.toBitVec = BitVec.ofNat 64 (2 ^ w - 1)) (hw : w ≤ 30) : (x &&& m).toInt32 = nI (tN x % 2 ^ w) := by
  have hw2 : 2 ^ w ≤ 2 ^ 30 := Nat.pow_le_pow_right (by decide) hw
  have hb : tN x % 2 ^ w < 2 ^ w := Nat.mod_lt _ (Nat.two_pow_pos w)
  rw [tN_i]
  congr 1
  unfold tN
  rw [Int64.toBitVec_and, hm, BitVec.toNat_and, BitVec.toNat_ofNat, Nat.mod_eq_of_lt (by omega), Nat.and_two_pow_sub_one_eq_mod]
theorem td_hi (x : Int64) (y : Int32) (hy : ((y.toInt64 &&& 63).toBitVec.smod 64).toNat = 30) : x >>> (y.toInt64 &&& 63) = 0 ↔ tN x < 2 ^ 30 := by
  have e : (x >>> (y.toInt64 &&& 63)).toBitVec = BitVec.sshiftRight x.toBitVec 30 := by
    show BitVec.sshiftRight x.toBitVec ((y.toInt64 &&& 63).toBitVec.smod 64).toNat = _
    rw [hy]
  have h : (BitVec.sshiftRight x.toBitVec 30).toInt = x.toBitVec.toInt / 2 ^ 30 := by rw [BitVec.toInt_sshiftRight, Int.shiftRight_eq_div_pow]; rfl
  rw [← Int64.toBitVec_inj, e, ← BitVec.toInt_inj, h]
  have z : (Int64.toBitVec 0).toInt = 0 := by decide
  rw [z]
  unfold tN
  have c := BitVec.toInt_eq_toNat_cond x.toBitVec
  have b := x.toBitVec.isLt
  split at c <;> (rw [c]; omega)
/-! gaps -/
theorem gM_spec {S : CS} {d t : Nat} : ∀ i, (match gM S d t i with
    | none => ∀ j, j < 100 → anB (fun r => c_see S d r && decide (c_nm S r = t * 512 + c_lf S t * 128 + j)) i = false
    | some z => z < 100 ∧ anB (fun r => c_see S d r && decide (c_nm S r = t * 512 + c_lf S t * 128 + z)) i = true ∧ ∀ j, z < j → j < 100 → anB (fun r => c_see S d r && decide (c_nm S r = t * 512 + c_lf S t * 128 + j)) i = false) := by
  intro i
  induction i with
  | zero => intro j _; rfl
  | succ i ih =>
    simp only [gM, anB]
    by_cases hq : c_hq S d t i = true
    · rw [if_pos hq]
      unfold c_hq at hq
      simp only [Bool.and_eq_true, decide_eq_true_eq] at hq
      obtain ⟨⟨h1, h2⟩, h3⟩ := hq
      have own : (c_see S d i && decide (c_nm S i = t * 512 + c_lf S t * 128 + c_nm S i % 128)) = true := by rw [h1, decide_eq_true h2]; rfl
      have oth : ∀ j, j ≠ c_nm S i % 128 → j < 100 → (c_see S d i && decide (c_nm S i = t * 512 + c_lf S t * 128 + j)) = false := fun j hj hl => by
        rw [decide_eq_false (fun e => hj (by omega)), Bool.and_false]
      cases hg : gM S d t i with
      | none =>
        rw [hg] at ih
        simp only [mx] at ih ⊢
        refine ⟨h3, by rw [own, Bool.or_true], fun j hj hl => ?_⟩
        rw [ih j hl, oth j (by omega) hl]; rfl
      | some z =>
        rw [hg] at ih
        simp only [mx] at ih ⊢
        obtain ⟨i1, i2, i3⟩ := ih
        by_cases hz : z < c_nm S i % 128
        · rw [if_pos hz]
          simp only
          refine ⟨h3, by rw [own, Bool.or_true], fun j hj hl => ?_⟩
          rw [i3 j (by omega) hl, oth j (by omega) hl]; rfl
        · rw [if_neg hz]
          simp only
          refine ⟨i1, by rw [i2]; rfl, fun j hj hl => ?_⟩
          rw [i3 j hj hl, oth j (by omega) hl]; rfl
    · rw [if_neg hq]
      have oth : ∀ j, j < 100 → (c_see S d i && decide (c_nm S i = t * 512 + c_lf S t * 128 + j)) = false := fun j hl => by
        cases hs : c_see S d i with
        | false => rfl
        | true => rw [Bool.true_and]; exact decide_eq_false (fun e => hq (hq_t hs (by omega) (by omega)))
      cases hg : gM S d t i with
      | none =>
        rw [hg] at ih
        simp only at ih ⊢
        intro j hl; rw [ih j hl, oth j hl]; rfl
      | some z =>
        rw [hg] at ih
        simp only at ih ⊢
        obtain ⟨i1, i2, i3⟩ := ih
        exact ⟨i1, by rw [i2]; rfl, fun j hj hl => by rw [i3 j hj hl, oth j hl]; rfl⟩
theorem gtop_0 {S : CS} {d t : Nat} (h : ∀ j, j < 100 → c_hN S d t j = false) : gtop (gM S d t (c_ct S)) = 0 := by
  have g := gM_spec (S := S) (d := d) (t := t) (c_ct S)
  cases hg : gM S d t (c_ct S) with
  | none => rfl
  | some z =>
    rw [hg] at g
    have := h z g.1
    unfold c_hN at this
    have g2 := g.2.1
    rw [this] at g2; cases g2
theorem gtop_s {S : CS} {d t u : Nat} (hu : u < 100) (h0 : c_hN S d t u = true) (h : ∀ j, u < j → j < 100 → c_hN S d t j = false) : gtop (gM S d t (c_ct S)) = u + 1 := by
  have g := gM_spec (S := S) (d := d) (t := t) (c_ct S)
  unfold c_hN at h0 h
  cases hg : gM S d t (c_ct S) with
  | none => rw [hg] at g; have := g u hu; rw [this] at h0; cases h0
  | some z =>
    rw [hg] at g
    obtain ⟨g1, g2, g3⟩ := g
    show z + 1 = u + 1
    rcases Nat.lt_trichotomy z u with q | q | q
    · rw [g3 u q hu] at h0; cases h0
    · rw [q]
    · rw [h z q g1] at g2; cases g2
theorem gC_le {h : Nat → Bool} {i : Nat} : gC h i ≤ i := by
  induction i with
  | zero => exact Nat.le_refl _
  | succ i ih => simp only [gC]; split <;> omega
def mI (q : Nat) : Int32 := nI q + (-1)
theorem mI_s (u : Nat) : mI (u + 1) = nI u := pk_m1 u
