theorem anB_or {A B C : Nat → Bool} {n : Nat} : anB (fun r => A r && (B r || C r)) n = (anB (fun r => A r && B r) n || anB (fun r => A r && C r) n) := by
  induction n with
  | zero => rfl
  | succ n ih =>
    simp only [anB, ih]
    cases A n <;> cases B n <;> cases C n <;> cases anB (fun r => A r && B r) n <;> cases anB (fun r => A r && C r) n <;> rfl
theorem upd_up (f : Nat → Int32) (k : Nat) (x : Int32) : upd f k x = va_up f k x := rfl
theorem va_up_id {α : Type} (f : Nat → α) (k : Nat) : va_up f k (f k) = f := by
  funext j; unfold va_up; split
  · rename_i h; rw [h]
  · rfl
theorem repm_tk {cA : Nat → ClassId} {adr : Nat → Nat} {S : CS} {th : Int32} {E E2 : Nat → va_E} (hR : RepM cA adr S th E) {d j : Nat} (h42 : E2 42 = .inl (cA 0, 360, .inl (fun x => c_mo (tk S d j) (x / 120) (x % 120)))) (h43 : E2 43 = .inl (cA 0, 3, .inl (c_mt (tk S d j)))) (h44 : E2 44 = .inl (cA 1, 3, .inl (fun j => bI (c_ib S j))))
    (hF : ∀ j, j ≠ 42 → j ≠ 43 → E2 j = E j) : RepM cA adr (tk S d j) th E2 := by
  obtain ⟨hM0, hM1, hM2, hM3, hM4, hM5, hM6, hM7, hM8, hM9, hM10, hM11, hM12, hM13, hM14⟩ := hR
  refine ⟨(hF 30 (by omega) (by omega)).trans hM0, (hF 31 (by omega) (by omega)).trans hM1, (hF 32 (by omega) (by omega)).trans hM2, (hF 33 (by omega) (by omega)).trans hM3, (hF 34 (by omega) (by omega)).trans hM4, (hF 35 (by omega) (by omega)).trans hM5, (hF 36 (by omega) (by omega)).trans hM6, (hF 37 (by omega) (by omega)).trans hM7, (hF 38 (by omega) (by omega)).trans hM8, (hF 39 (by omega) (by omega)).trans hM9, (hF 40 (by omega) (by omega)).trans hM10, (hF 41 (by omega) (by omega)).trans hM11, h42, h43, ?_⟩
  rw [h44]
  exact congrArg (fun z => Sum.inl (cA 1, 3, Sum.inl z)) (funext fun q => by
    show bI (c_ib S q) = bI (va_up (c_ib S) d (c_ib S d) q)
    rw [va_up_id])
