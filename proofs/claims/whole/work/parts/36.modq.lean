theorem inr_N (x : Int32) (n : Nat) (hn : n + 1 < 2 ^ 31) : (decide ((0 : Int32).toInt64 ≤ x.toInt64) && decide (x.toInt64 ≤ (nI n).toInt64)) = inN x (n + 1) := by
  rw [in32, in_inN x n hn]
theorem repm_lf {cA : Nat → ClassId} {adr : Nat → Nat} {S : CS} {th : Int32} {E E2 : Nat → va_E} (hR : RepM cA adr S th E) {t : Nat} (h31 : E2 31 = .inl (cA 0, 5, .inl (fun j => nI (upN (c_lf S) t (c_lf S t + 1) j)))) (hF : ∀ j, j ≠ 31 → E2 j = E j) :
    RepM cA adr (uT S t (c_mk S t) (c_lf S t + 1) (c_ow S t) (c_re S t)) th E2 := by
  obtain ⟨hM0, hM1, hM2, hM3, hM4, hM5, hM6, hM7, hM8, hM9, hM10, hM11, hM12, hM13, hM14⟩ := hR
  refine ⟨(hF 30 (by omega)).trans hM0, h31, ?_, ?_, ?_, (hF 35 (by omega)).trans hM5, (hF 36 (by omega)).trans hM6, (hF 37 (by omega)).trans hM7, (hF 38 (by omega)).trans hM8, (hF 39 (by omega)).trans hM9, (hF 40 (by omega)).trans hM10, (hF 41 (by omega)).trans hM11, (hF 42 (by omega)).trans hM12, (hF 43 (by omega)).trans hM13, (hF 44 (by omega)).trans hM14⟩
  · rw [hF 32 (by omega), hM2, uT_mk]; exact congrArg (fun z => Sum.inl (cA 0, 5, Sum.inl z)) (funext fun j => congrArg nI (by unfold upN; split; (rename_i h; rw [h]); rfl))
  · rw [hF 33 (by omega), hM3, uT_ow, va_up_id]
  · rw [hF 34 (by omega), hM4, uT_re, va_up_id]
