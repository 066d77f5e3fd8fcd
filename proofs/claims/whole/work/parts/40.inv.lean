/-! WHAT A STATE KEEPS TO stays so -/
theorem ctB_up {P Q : Nat → Bool} {n j : Nat} (hj : j < n) (hp : P j = false) (hq : Q j = true) (h : ∀ i, i ≠ j → Q i = P i) : ctB Q n = ctB P n + 1 := by
  induction n with
  | zero => omega
  | succ n ih =>
    by_cases e : j = n
    · subst e
      rw [ctB_t hq, ctB_f hp, ctB_congr (fun i hi => h i (by omega))]
    · have e1 := ih (by omega)
      have e2 := h n (fun q => e q.symm)
      cases hc : P n
      · rw [ctB_f (e2.trans hc), ctB_f hc, e1]
      · rw [ctB_t (e2.trans hc), ctB_t hc, e1]
theorem ctB_none {P : Nat → Bool} {n : Nat} (h : ∀ j, j < n → P j = false) : ctB P n = 0 := by
  induction n with
  | zero => rfl
  | succ n ih => rw [ctB_f (h n (by omega)), ih (fun j hj => h j (by omega))]
theorem ctB_0 {P : Nat → Bool} {n : Nat} (h : ctB P n = 0) : ∀ j, j < n → P j = false := by
  induction n with
  | zero => intro j hj; omega
  | succ n ih =>
    intro j hj
    cases hc : P n
    · rw [ctB_f hc] at h
      by_cases e : j = n
      · rw [e]; exact hc
      · exact ih h j (by omega)
    · rw [ctB_t hc] at h; omega
theorem ctB_sum {P Q : Nat → Bool} {n : Nat} (h : ∀ j, P j = true → Q j = false) : ctB (fun j => P j || Q j) n = ctB P n + ctB Q n := by
  induction n with
  | zero => rfl
  | succ n ih =>
    cases hp : P n
    · cases hq : Q n
      · rw [ctB_f (P := fun j => P j || Q j) (by rw [hp, hq]; rfl), ctB_f hp, ctB_f hq, ih]
      · rw [ctB_t (P := fun j => P j || Q j) (by rw [hp, hq]; rfl), ctB_f hp, ctB_t hq, ih]; omega
    · have hq := h n hp
      rw [ctB_t (P := fun j => P j || Q j) (by rw [hp]; rfl), ctB_t hp, ctB_f hq, ih]; omega
def InvD (ct : Nat) (mo : Nat → Int32) (mt sn wt : Int32) (ib : Bool) : Prop :=
  (sn = nI (ctB (fun i => decide (0 < mo i)) ct) ∧ wt = nI (ctB (fun i => decide (mo i < 0)) ct)) ∧ (∀ j, ct ≤ j → mo j = 0) ∧
  (∃ m : Nat, mt = nI m ∧ m ≤ ctB (fun i => decide (0 < mo i)) ct ∧ ∀ j, mo j = -1 ∨ ∃ v : Nat, v ≤ m ∧ mo j = nI v) ∧ (ib = false → ∀ j, ¬ mo j = -1)
theorem inv_D {S : CS} (hV : Inv S) {d : Nat} (hd : d < 3) : InvD (c_ct S) (c_mo S d) (c_mt S d) (c_sn S d) (c_wt S d) (c_ib S d) := by
  obtain ⟨hct, hnm, htd, hmk, hlf, hnt, hnu, hcn, hmz, hmm, hib, hmr, hrise⟩ := hV
  exact ⟨hcn d hd, fun j hj => hmz d j hd hj, hmm d hd, hib d hd⟩
theorem inv_uD {S : CS} (hV : Inv S) {d : Nat} {mo : Nat → Int32} {mt sn wt : Int32} {ib : Bool} (h : InvD (c_ct S) mo mt sn wt ib) : Inv (uD S d mo mt sn wt ib) := by
  have hV0 := hV
  obtain ⟨hct, hnm, htd, hmk, hlf, hnt, hnu, hcn, hmz, hmm, hib, hmr, hrise⟩ := hV
  have key : ∀ d', d' < 3 → InvD (c_ct S) (va_up (c_mo S) d mo d') (va_up (c_mt S) d mt d') (va_up (c_sn S) d sn d') (va_up (c_wt S) d wt d') (va_up (c_ib S) d ib d') := by
    intro d' hd'
    by_cases e : d' = d
    · subst e; rw [va_up_self, va_up_self, va_up_self, va_up_self, va_up_self]; exact h
    · rw [va_up_ne _ _ e, va_up_ne _ _ e, va_up_ne _ _ e, va_up_ne _ _ e, va_up_ne _ _ e]; exact inv_D hV0 hd'
  exact ⟨hct, hnm, htd, hmk, hlf, hnt, hnu, fun d' hd' => (key d' hd').1, fun d' j hd' hj => (key d' hd').2.1 j hj, fun d' hd' => (key d' hd').2.2.1, fun d' hd' => (key d' hd').2.2.2, hmr, hrise⟩
theorem i32_m1 : ¬ ((0 : Int32) < -1) := by decide
theorem i32_m1' : ((-1 : Int32) < 0) := by decide
theorem nI_lt0 {v : Nat} (h : v < 2 ^ 31) : ¬ nI v < 0 := nI_pos h
theorem nI_0lt {v : Nat} (h : v < 2 ^ 31) : (0 < nI v) ↔ 0 < v := by
  have := nI_ltI (a := 0) (b := v) (by omega) h
  exact this
theorem nI_nm1 {v : Nat} (h : v < 2 ^ 31) : ¬ nI v = -1 := fun e => nI_lt0 h (by rw [e]; decide)
theorem inv_tk {S : CS} (hV : Inv S) {d j : Nat} (hd : d < 3) (hj : j < c_ct S) (hh : c_has S d j = false) : Inv (tk S d j) := by
  have hct := hV.1
  have h0 : c_mo S d j = 0 := by unfold c_has at hh; simpa using hh
  obtain ⟨⟨hs, hw⟩, hz, ⟨m, em, hm, hv⟩, hi⟩ := inv_D hV hd
  have bl : ctB (fun i => decide (0 < c_mo S d i)) (c_ct S) ≤ c_ct S := ctB_le
  refine inv_uD hV ?_
  have us : ∀ x, upd (c_mo S d) j x j = x := fun x => by unfold upd; rw [if_pos rfl]
  have un : ∀ x i, i ≠ j → upd (c_mo S d) j x i = c_mo S d i := fun x i e => by unfold upd; rw [if_neg e]
  cases hb : c_ib S d
  · have e1 : c_mt S d + 1 = nI (m + 1) := by rw [em]; exact nI_1 m
    simp only [Bool.false_eq_true, if_false]
    rw [e1]
    have c1 : ctB (fun i => decide (0 < upd (c_mo S d) j (nI (m + 1)) i)) (c_ct S) = ctB (fun i => decide (0 < c_mo S d i)) (c_ct S) + 1 :=
      ctB_up hj (by show decide _ = _; rw [h0]; rfl) (by show decide _ = _; rw [us]; exact decide_eq_true ((nI_0lt (by omega)).mpr (by omega))) (fun i hi' => by show decide _ = decide _; rw [un _ i hi'])
    have c2 : ctB (fun i => decide (upd (c_mo S d) j (nI (m + 1)) i < 0)) (c_ct S) = ctB (fun i => decide (c_mo S d i < 0)) (c_ct S) :=
      ctB_congr (fun i _ => by
        show decide _ = decide _
        by_cases e : i = j
        · subst e; rw [us, h0, decide_eq_false (nI_lt0 (by omega))]; rfl
        · rw [un _ i e])
    refine ⟨⟨?_, ?_⟩, ?_, ⟨m + 1, rfl, ?_, ?_⟩, ?_⟩
    · rw [c1, hs]; exact nI_1 _
    · rw [c2, hw]
    · intro i hi'; rw [un _ i (by omega)]; exact hz i hi'
    · rw [c1]; omega
    · intro i
      by_cases e : i = j
      · subst e; rw [us]; exact .inr ⟨m + 1, Nat.le_refl _, rfl⟩
      · rw [un _ i e]
        rcases hv i with q | ⟨v, q1, q2⟩
        · exact .inl q
        · exact .inr ⟨v, by omega, q2⟩
    · intro _ i
      by_cases e : i = j
      · subst e; rw [us]; exact nI_nm1 (by omega)
      · rw [un _ i e]; exact hi hb i
  · simp only [if_true]
    have c1 : ctB (fun i => decide (0 < upd (c_mo S d) j (-1) i)) (c_ct S) = ctB (fun i => decide (0 < c_mo S d i)) (c_ct S) :=
      ctB_congr (fun i _ => by
        show decide _ = decide _
        by_cases e : i = j
        · subst e; rw [us, h0]; rfl
        · rw [un _ i e])
    have c2 : ctB (fun i => decide (upd (c_mo S d) j (-1) i < 0)) (c_ct S) = ctB (fun i => decide (c_mo S d i < 0)) (c_ct S) + 1 :=
      ctB_up hj (by show decide _ = _; rw [h0]; rfl) (by show decide _ = _; rw [us]; rfl) (fun i hi' => by show decide _ = decide _; rw [un _ i hi'])
    refine ⟨⟨?_, ?_⟩, ?_, ⟨m, em, ?_, ?_⟩, ?_⟩
    · rw [c1, hs]
    · rw [c2, hw]; exact nI_1 _
    · intro i hi'; rw [un _ i (by omega)]; exact hz i hi'
    · rw [c1]; exact hm
    · intro i
      by_cases e : i = j
      · subst e; rw [us]; exact .inl rfl
      · rw [un _ i e]; exact hv i
    · intro q; cases q
theorem inv_jn {S : CS} (hV : Inv S) {d o : Nat} (hd : d < 3) : ∀ {i : Nat}, i ≤ c_ct S → Inv (jn S d o i).1 := by
  intro i
  induction i with
  | zero => intro _; exact hV
  | succ i ih =>
    intro hi
    have h1 := ih (by omega)
    simp only [jn]
    split
    · rename_i hc
      simp only [Bool.and_eq_true, Bool.not_eq_true'] at hc
      exact inv_tk h1 hd (by rw [jn_ct]; omega) hc.2
    · exact h1
theorem inv_join {S : CS} (hV : Inv S) {x y : Int32} (hk : k_join S x y = 0) : Inv (s_join S x y) := by
  unfold k_join at hk
  split at hk
  · rename_i h
    simp only [Bool.and_eq_true] at h
    obtain ⟨d, hd, rfl⟩ := inN_of h.1.1 (by decide)
    unfold s_join
    rw [nI_clamp (by omega)]
    exact inv_jn hV hd (Nat.le_refl _)
  · exact absurd hk (by decide)
theorem inv_eb {S : CS} (hV : Inv S) {d : Nat} (hd : d < 3) : Inv (eb S d) := by
  have hct := hV.1
  obtain ⟨⟨hs, hw⟩, hz, ⟨m, em, hm, hv⟩, hi⟩ := inv_D hV hd
  have bl : ctB (fun i => decide (0 < c_mo S d i)) (c_ct S) ≤ c_ct S := ctB_le
  have bw : ctB (fun i => decide (c_mo S d i < 0)) (c_ct S) ≤ c_ct S := ctB_le
  refine inv_uD hV ?_
  by_cases h0 : c_wt S d = 0
  · simp only [h0, if_true]
    have z : ctB (fun i => decide (c_mo S d i < 0)) (c_ct S) = 0 := by
      rw [hw] at h0; exact (nI_eq (b := 0) (by omega) (by omega)).mp h0
    refine ⟨⟨hs, by rw [z]; rfl⟩, hz, ⟨m, em, hm, hv⟩, fun _ j hj => ?_⟩
    rcases Nat.lt_or_ge j (c_ct S) with q | q
    · have := ctB_0 z j q
      rw [hj] at this; exact absurd this (by decide)
    · rw [hz j q] at hj; exact absurd hj (by decide)
  · have w0 : ctB (fun i => decide (c_mo S d i < 0)) (c_ct S) ≠ 0 := fun q => h0 (by rw [hw, q]; rfl)
    simp only [h0, if_false]
    have e1 : c_mt S d + 1 = nI (m + 1) := by rw [em]; exact nI_1 m
    rw [e1]
    have pt : ∀ i, i < c_ct S → (decide (0 < (if i < 120 ∧ c_mo S d i = -1 then nI (m + 1) else c_mo S d i)) = (decide (0 < c_mo S d i) || decide (c_mo S d i < 0))) ∧ decide ((if i < 120 ∧ c_mo S d i = -1 then nI (m + 1) else c_mo S d i) < 0) = false := by
      intro i hi'
      rcases hv i with q | ⟨v, q1, q2⟩
      · rw [if_pos ⟨by omega, q⟩, q, decide_eq_true ((nI_0lt (by omega)).mpr (by omega)), decide_eq_false (nI_lt0 (by omega))]; exact ⟨rfl, rfl⟩
      · rw [if_neg (fun z => nI_nm1 (by omega) (q2.symm.trans z.2)), q2, decide_eq_false (nI_lt0 (by omega)), Bool.or_false]; exact ⟨rfl, rfl⟩
    have c1 : ctB (fun i => decide (0 < (if i < 120 ∧ c_mo S d i = -1 then nI (m + 1) else c_mo S d i))) (c_ct S) = ctB (fun i => decide (0 < c_mo S d i)) (c_ct S) + ctB (fun i => decide (c_mo S d i < 0)) (c_ct S) := by
      rw [ctB_congr (fun i hi' => (pt i hi').1)]
      exact ctB_sum (fun j hj => decide_eq_false (fun q => absurd (Int32.lt_trans (of_decide_eq_true hj) q) (by decide)))
    refine ⟨⟨?_, ?_⟩, ?_, ⟨m + 1, rfl, ?_, ?_⟩, ?_⟩
    · rw [c1, hs, hw]; exact nI_add _ _
    · rw [ctB_none (fun i hi' => (pt i hi').2)]; rfl
    · intro i hi'; dsimp only; rw [hz i hi', if_neg (fun z => absurd z.2 (by decide))]
    · rw [c1]; omega
    · intro i
      dsimp only
      rcases hv i with q | ⟨v, q1, q2⟩
      · by_cases g : i < 120
        · rw [if_pos ⟨g, q⟩]; exact .inr ⟨m + 1, Nat.le_refl _, rfl⟩
        · rw [hz i (by omega)] at q; exact absurd q (by decide)
      · rw [if_neg (fun z => nI_nm1 (by omega) (q2.symm.trans z.2))]; exact .inr ⟨v, by omega, q2⟩
    · intro _ i
      dsimp only
      split
      · exact nI_nm1 (by omega)
      · rename_i g
        intro q
        by_cases g2 : i < 120
        · exact g ⟨g2, q⟩
        · rw [hz i (by omega)] at q; exact absurd q (by decide)
theorem inv_bat {S : CS} (hV : Inv S) {x : Int32} {on : Bool} (hk : k_bat S x on = 0) : Inv (s_bat S x on) := by
  unfold k_bat at hk
  split at hk
  · rename_i h
    obtain ⟨d, hd, rfl⟩ := inN_of h (by decide)
    unfold s_bat
    rw [nI_clamp (by omega)]
    cases on
    · exact inv_eb hV hd
    · simp only [if_true]
      obtain ⟨h1, h2, h3, h4⟩ := inv_D hV hd
      exact inv_uD hV ⟨h1, h2, h3, fun q => nomatch q⟩
  · exact absurd hk (by decide)
theorem inv_rest {S : CS} (hV : Inv S) {x : Int32} (hk : k_rest S x = 0) : Inv (s_rest S x) := by
  unfold k_rest at hk
  split at hk
  · rename_i h
    obtain ⟨t, ht, rfl⟩ := inN_of h (by decide)
    rw [nI_clamp (by omega)] at hk
    unfold s_rest
    rw [nI_clamp (by omega)]
    have hl : ¬ 3 ≤ c_lf S t := fun q => by rw [if_pos q] at hk; exact absurd hk (by decide)
    obtain ⟨hct, hnm, htd, hmk, hlf, hnt, hnu, hcn, hmz, hmm, hib, hmr, hrise⟩ := hV
    have e1 : upN (c_mk S) t (c_mk S t) = c_mk S := by funext j; unfold upN; split; (rename_i q; rw [q]); rfl
    refine ⟨hct, hnm, htd, ?_, ?_, hnt, hnu, hcn, hmz, hmm, hib, ?_, ?_⟩
    · intro t' ht'; show upN (c_mk S) t (c_mk S t) t' ≤ 6; rw [e1]; exact hmk t' ht'
    · intro t' ht'; show upN (c_lf S) t (c_lf S t + 1) t' ≤ 3; unfold upN; split; omega; exact hlf t' ht'
    · intro t' j ht' hj
      show ∃ a b : Nat, a ≤ 1000000 ∧ b ≤ 1000000 ∧ va_up (c_ow S) t (c_ow S t) t' j = nI a ∧ va_up (c_re S) t (c_re S t) t' j = nI b
      rw [va_up_id, va_up_id]
      exact hmr t' j ht' (by have hj : j < upN (c_mk S) t (c_mk S t) t' := hj; rw [e1] at hj; exact hj)
    · intro t' j ht' hj
      show va_up (c_ow S) t (c_ow S t) t' j < va_up (c_ow S) t (c_ow S t) t' (j + 1) ∧ va_up (c_re S) t (c_re S t) t' j ≤ va_up (c_re S) t (c_re S t) t' (j + 1)
      rw [va_up_id, va_up_id]
      exact hrise t' j ht' (by have hj : j + 1 < upN (c_mk S) t (c_mk S t) t' := hj; rw [e1] at hj; exact hj)
  · exact absurd hk (by decide)
theorem inv_mark {S : CS} (hV : Inv S) {x a b : Int32} (hk : k_mark S x a b = 0) : Inv (s_mark S x a b) := by
  unfold k_mark at hk
  split at hk
  · rename_i h
    obtain ⟨t, ht, rfl⟩ := inN_of h (by decide)
    rw [nI_clamp (by omega)] at hk
    unfold s_mark
    rw [nI_clamp (by omega)]
    split at hk
    · exact absurd hk (by decide)
    · rename_i h6
      split at hk
      · rename_i hc
        simp only [Bool.and_eq_true] at hc
        obtain ⟨⟨ha, hb⟩, hf⟩ := hc
        obtain ⟨a, ha, rfl⟩ := inN_of ha (by decide)
        obtain ⟨b, hb, rfl⟩ := inN_of hb (by decide)
        obtain ⟨hct, hnm, htd, hmk, hlf, hnt, hnu, hcn, hmz, hmm, hib, hmr, hrise⟩ := hV
        have us : ∀ (f : Nat → Int32) k y, upd f k y k = y := fun f k y => by unfold upd; rw [if_pos rfl]
        have un : ∀ (f : Nat → Int32) k y i, i ≠ k → upd f k y i = f i := fun f k y i e => by unfold upd; rw [if_neg e]
        refine ⟨hct, hnm, htd, ?_, ?_, hnt, hnu, hcn, hmz, hmm, hib, ?_, ?_⟩
        · intro t' ht'; show upN (c_mk S) t (c_mk S t + 1) t' ≤ 6; unfold upN; split; omega; exact hmk t' ht'
        · intro t' ht'; show upN (c_lf S) t (c_lf S t) t' ≤ 3; unfold upN; split; exact hlf t ht; exact hlf t' ht'
        · intro t' j ht' hj
          have hj : j < upN (c_mk S) t (c_mk S t + 1) t' := hj
          show ∃ x y : Nat, x ≤ 1000000 ∧ y ≤ 1000000 ∧ va_up (c_ow S) t (upd (c_ow S t) (c_mk S t) (nI a)) t' j = nI x ∧ va_up (c_re S) t (upd (c_re S t) (c_mk S t) (nI b)) t' j = nI y
          by_cases e : t' = t
          · subst e
            rw [upN_self] at hj
            rw [va_up_self, va_up_self]
            by_cases e2 : j = c_mk S t'
            · subst e2; rw [us, us]; exact ⟨a, b, by omega, by omega, rfl, rfl⟩
            · rw [un _ _ _ _ e2, un _ _ _ _ e2]; exact hmr t' j ht' (by omega)
          · rw [upN_ne _ _ e] at hj
            rw [va_up_ne _ _ e, va_up_ne _ _ e]; exact hmr t' j ht' hj
        · intro t' j ht' hj
          have hj : j + 1 < upN (c_mk S) t (c_mk S t + 1) t' := hj
          show va_up (c_ow S) t (upd (c_ow S t) (c_mk S t) (nI a)) t' j < va_up (c_ow S) t (upd (c_ow S t) (c_mk S t) (nI a)) t' (j + 1) ∧ va_up (c_re S) t (upd (c_re S t) (c_mk S t) (nI b)) t' j ≤ va_up (c_re S) t (upd (c_re S t) (c_mk S t) (nI b)) t' (j + 1)
          by_cases e : t' = t
          · subst e
            rw [upN_self] at hj
            rw [va_up_self, va_up_self, un _ _ _ j (by omega), un _ _ _ j (by omega)]
            by_cases e2 : j + 1 = c_mk S t'
            · rw [e2, us, us]
              unfold c_fol at hf
              rw [decide_eq_false (show ¬ c_mk S t' = 0 by omega), Bool.false_or, show c_mk S t' - 1 = j by omega] at hf
              simp only [Bool.and_eq_true, decide_eq_true_eq] at hf
              exact hf
            · rw [un _ _ _ _ e2, un _ _ _ _ e2]; exact hrise t' j ht' (by omega)
          · rw [upN_ne _ _ e] at hj
            rw [va_up_ne _ _ e, va_up_ne _ _ e]; exact hrise t' j ht' hj
      · exact absurd hk (by decide)
  · exact absurd hk (by decide)
theorem inv_set {S : CS} (hV : Inv S) {x k : Int32} : Inv (s_set S x k) := hV
theorem inv_ad {S : CS} (hV : Inv S) {t b : Nat} {v : Int32} (ht : t < 5) (hb : b < 2 ^ 30) (hu : b / 2 ^ 23 % 128 < 100) (hc : t_fd S t b v = none → c_ct S < 120) : Inv (t_ad S t b v) := by
  unfold t_ad
  split
  · rename_i hn
    have hct2 := hc hn
    obtain ⟨hct, hnm, htd, hmk, hlf, hnt, hnu, hcn, hmz, hmm, hib, hmr, hrise⟩ := hV
    have hl := hlf t ht
    have m0 : ∀ d, d < 3 → c_mo S d (c_ct S) = 0 := fun d hd => hmz d _ hd (Nat.le_refl _)
    have c1 : ∀ d, d < 3 → ctB (fun i => decide (0 < c_mo S d i)) (c_ct S + 1) = ctB (fun i => decide (0 < c_mo S d i)) (c_ct S) := fun d hd => ctB_f (by show decide _ = _; rw [m0 d hd]; rfl)
    have c2 : ∀ d, d < 3 → ctB (fun i => decide (c_mo S d i < 0)) (c_ct S + 1) = ctB (fun i => decide (c_mo S d i < 0)) (c_ct S) := fun d hd => ctB_f (by show decide _ = _; rw [m0 d hd]; rfl)
    refine ⟨by show c_ct S + 1 ≤ 120; omega, ?_, ?_, hmk, hlf, ?_, ?_, ?_, ?_, ?_, hib, hmr, hrise⟩
    · intro j; show upN (c_nm S) (c_ct S) (t_nm S t b) j < 2560; unfold upN; split
      · unfold t_nm; omega
      · exact hnm j
    · intro j; show upN (c_td S) (c_ct S) b j < 2 ^ 30; unfold upN; split
      · exact hb
      · exact htd j
    · intro j hj
      have hj : j < c_ct S + 1 := hj
      show upN (c_td S) (c_ct S) b j / 2 ^ 23 = upN (c_nm S) (c_ct S) (t_nm S t b) j % 128
      unfold upN; split
      · unfold t_nm; omega
      · exact hnt j (by omega)
    · intro j hj
      have hj : j < c_ct S + 1 := hj
      show upN (c_nm S) (c_ct S) (t_nm S t b) j % 128 < 100
      unfold upN; split
      · unfold t_nm; omega
      · exact hnu j (by omega)
    · intro d hd
      show c_sn S d = nI (ctB (fun i => decide (0 < c_mo S d i)) (c_ct S + 1)) ∧ c_wt S d = nI (ctB (fun i => decide (c_mo S d i < 0)) (c_ct S + 1))
      rw [c1 d hd, c2 d hd]; exact hcn d hd
    · intro d j hd hj; have hj : c_ct S + 1 ≤ j := hj; exact hmz d j hd (by omega)
    · intro d hd
      show ∃ m : Nat, c_mt S d = nI m ∧ m ≤ ctB (fun i => decide (0 < c_mo S d i)) (c_ct S + 1) ∧ ∀ j, c_mo S d j = -1 ∨ ∃ v : Nat, v ≤ m ∧ c_mo S d j = nI v
      rw [c1 d hd]; exact hmm d hd
  · exact hV
theorem ix_lt {S : CS} {t b : Nat} {v : Int32} : t_ix S t b v < c_ct (t_ad S t b v) := by
  unfold t_ix t_ad
  cases h : t_fd S t b v with
  | none => rw [if_pos rfl]; show c_ct S < c_ct S + 1; omega
  | some z => rw [if_neg (fun q => nomatch q)]; exact (fiB_spec h).1
theorem ad_new {S : CS} (hV : Inv S) {d t b : Nat} {v : Int32} (hd : d < 3) (h : t_fd S t b v = none) : c_has (t_ad S t b v) d (t_ix S t b v) = false := by
  have e : c_mo (t_ad S t b v) = c_mo S := by unfold t_ad; rw [if_pos h]; rfl
  unfold c_has
  rw [e]
  unfold t_ix
  rw [h]
  obtain ⟨hct, hnm, htd, hmk, hlf, hnt, hnu, hcn, hmz, hmm, hib, hmr, hrise⟩ := hV
  rw [show c_mo S d ((none : Option Nat).getD (c_ct S)) = 0 from hmz d _ hd (Nat.le_refl _)]; rfl
theorem hasT_eq {S : CS} (hV : Inv S) {d t b : Nat} {v : Int32} (hd : d < 3) : hasT S d t b v = c_has (t_ad S t b v) d (t_ix S t b v) := by
  unfold hasT
  by_cases h : t_fd S t b v = none
  · rw [ad_new hV hd h]; rfl
  · rw [decide_eq_false h]; simp
theorem inv_tell {S : CS} (hV : Inv S) {d t b : Nat} {v : Int32} (hd : d < 3) (ht : t < 5) (hb : b < 2 ^ 30) (hu : b / 2 ^ 23 % 128 < 100) (hc : t_fd S t b v = none → c_ct S < 120) : Inv (s_tell S d t b v) := by
  unfold s_tell
  have hA := inv_ad hV ht hb hu hc
  split
  · exact hA
  · rename_i h
    rw [hasT_eq hV hd] at h
    exact inv_tk hA hd ix_lt (by simpa using h)
