theorem had_see {S : CS} (hV : Inv S) {d j : Nat} (hd : d < 3) : c_had S d j (c_mt S d) = c_see S d j := by
  obtain ⟨hct, hnm, htd, hmk, hlf, hnt, hnu, hcn, hmz, hmm, hib, hmr, hrise⟩ := hV
  obtain ⟨m, e1, e2, e3⟩ := hmm d hd
  have b : ctB (fun i => c_see S d i) (c_ct S) ≤ 120 := Nat.le_trans ctB_le hct
  unfold c_had c_see
  rcases e3 j with e | ⟨v, hv, e⟩
  · rw [e]; rfl
  · rw [e, e1, decide_eq_true ((nI_leI (by omega) (by omega)).mpr hv), Bool.and_true]
theorem bI_e1 {a b : Bool} (h : bI a = bI b) : (a == b) = true := by rw [bI_inj h]; simp
theorem bI_e0 {a b : Bool} (h : ¬ bI a = bI b) : (a == b) = false := by
  cases a <;> cases b <;> first | rfl | exact absurd rfl h
