/-! PURE WORDS: folds over a prefix -/
def oI (o : Option Nat) : Int32 := match o with
  | none => -1
  | some i => nI i
def anB (P : Nat → Bool) : Nat → Bool
  | 0 => false
  | n + 1 => anB P n || P n
def alB (P : Nat → Bool) : Nat → Bool
  | 0 => true
  | n + 1 => alB P n && P n
def ctB (P : Nat → Bool) : Nat → Nat
  | 0 => 0
  | n + 1 => ctB P n + (if P n then 1 else 0)
def fiB (P : Nat → Bool) : Nat → Option Nat
  | 0 => none
  | n + 1 => match fiB P n with
    | some i => some i
    | none => if P n then some n else none
theorem fiB_miss {P : Nat → Bool} {n : Nat} (h : fiB P n = none) (hp : P n = false) : fiB P (n + 1) = none := by simp [fiB, h, hp]
theorem fiB_hit {P : Nat → Bool} {i n : Nat} (h : fiB P i = none) (hp : P i = true) (hn : i < n) : fiB P n = some i := by
  induction n with
  | zero => omega
  | succ n ih =>
    by_cases hin : i < n
    · simp [fiB, ih hin]
    · have : i = n := by omega
      subst this
      simp [fiB, h, hp]
theorem fiB_mono {P : Nat → Bool} {m n k : Nat} (h : fiB P m = some k) (hmn : m ≤ n) : fiB P n = some k := by
  induction n with
  | zero =>
    have : m = 0 := by omega
    subst this; exact h
  | succ n ih =>
    by_cases h2 : m = n + 1
    · subst h2; exact h
    · simp [fiB, ih (by omega)]
theorem fiB_spec {P : Nat → Bool} {n : Nat} : ∀ {i : Nat}, fiB P n = some i → i < n ∧ P i = true ∧ ∀ j, j < i → P j = false := by
  induction n with
  | zero => intro i h; simp [fiB] at h
  | succ n ih =>
    intro i h
    simp only [fiB] at h
    cases hf : fiB P n with
    | some k =>
      rw [hf] at h
      cases h
      obtain ⟨h1, h2, h3⟩ := ih hf
      exact ⟨by omega, h2, h3⟩
    | none =>
      rw [hf] at h
      by_cases hp : P n = true
      · simp [hp] at h
        subst h
        refine ⟨by omega, hp, fun j hj => ?_⟩
        have key : ∀ m, m ≤ n → fiB P m = none := by
          intro m hm
          cases hq : fiB P m with
          | none => rfl
          | some k =>
            rw [fiB_mono hq hm] at hf
            cases hf
        have h1 := key (j + 1) (by omega)
        have h0 := key j (by omega)
        simp only [fiB, h0] at h1
        cases hpj : P j with
        | false => rfl
        | true => simp [hpj] at h1
      · simp [hp] at h
theorem fiB_congr {P Q : Nat → Bool} {n : Nat} (h : ∀ j, j < n → P j = Q j) : fiB P n = fiB Q n := by
  induction n with
  | zero => rfl
  | succ n ih => simp [fiB, ih (fun j hj => h j (by omega)), h n (by omega)]
theorem anB_congr {P Q : Nat → Bool} {n : Nat} (h : ∀ j, j < n → P j = Q j) : anB P n = anB Q n := by
  induction n with
  | zero => rfl
  | succ n ih => simp [anB, ih (fun j hj => h j (by omega)), h n (by omega)]
theorem alB_congr {P Q : Nat → Bool} {n : Nat} (h : ∀ j, j < n → P j = Q j) : alB P n = alB Q n := by
  induction n with
  | zero => rfl
  | succ n ih => simp [alB, ih (fun j hj => h j (by omega)), h n (by omega)]
theorem ctB_congr {P Q : Nat → Bool} {n : Nat} (h : ∀ j, j < n → P j = Q j) : ctB P n = ctB Q n := by
  induction n with
  | zero => rfl
  | succ n ih => simp [ctB, ih (fun j hj => h j (by omega)), h n (by omega)]
theorem ctB_t {P : Nat → Bool} {n : Nat} (h : P n = true) : ctB P (n + 1) = ctB P n + 1 := by simp [ctB, h]
theorem ctB_f {P : Nat → Bool} {n : Nat} (h : P n = false) : ctB P (n + 1) = ctB P n := by simp [ctB, h]
theorem ctB_le {P : Nat → Bool} {n : Nat} : ctB P n ≤ n := by
  induction n with
  | zero => exact Nat.le_refl _
  | succ n ih => simp only [ctB]; split <;> omega
theorem anB_hit {P : Nat → Bool} {i n : Nat} (hp : P i = true) (hn : i < n) : anB P n = true := by
  induction n with
  | zero => omega
  | succ n ih =>
    by_cases hin : i < n
    · simp [anB, ih hin]
    · have : i = n := by omega
      subst this
      simp [anB, hp]
theorem alB_miss {P : Nat → Bool} {i n : Nat} (hp : P i = false) (hn : i < n) : alB P n = false := by
  induction n with
  | zero => omega
  | succ n ih =>
    by_cases hin : i < n
    · simp [alB, ih hin]
    · have : i = n := by omega
      subst this
      simp [alB, hp]
/-- how many marks stand at or ahead of x, one behind the other -/
def mu (ow : Nat → Int32) (x : Int32) : Nat → Nat
  | 0 => 0
  | n + 1 => if mu ow x n = n ∧ ow n ≤ x then n + 1 else mu ow x n
theorem mu_step {ow : Nat → Int32} {x : Int32} {i : Nat} (h : mu ow x i = i) (hp : ow i ≤ x) : mu ow x (i + 1) = i + 1 := by simp [mu, h, hp]
theorem mu_stop {ow : Nat → Int32} {x : Int32} {i n : Nat} (h : mu ow x i = i) (hp : ¬ ow i ≤ x) (hn : i ≤ n) : mu ow x n = i := by
  induction n with
  | zero => have : i = 0 := by omega
            subst this; exact h
  | succ n ih =>
    by_cases hin : i = n + 1
    · subst hin; exact h
    · have h1 := ih (by omega)
      by_cases hi2 : i = n
      · subst hi2; simp [mu, h, hp]
      · simp [mu, h1, hi2]
theorem mu_le {ow : Nat → Int32} {x : Int32} {n : Nat} : mu ow x n ≤ n := by
  induction n with
  | zero => exact Nat.le_refl _
  | succ n ih => simp only [mu]; split <;> omega
def rb (ow re : Nat → Int32) (j : Nat) (x : Int32) : Int32 := if 0 < ow (j + 1) - ow j then re j + ((re (j + 1) - re j).toInt64 * (x - ow j).toInt64 / (ow (j + 1) - ow j).toInt64).toInt32 else re j
def rt (mk : Nat) (ow re : Nat → Int32) (x : Int32) : Int32 :=
  if mk = 0 then x else if 0 < mu ow x mk ∧ mu ow x mk < mk then rb ow re (mu ow x mk - 1) x else if mu ow x mk = 0 then x + (re 0 - ow 0) else x + (re (mk - 1) - ow (mk - 1))
theorem i64_ne {y : Int32} (h : 0 < y) : ¬ y.toInt64 = 0 := by
  intro e
  have h1 : y.toInt64.toInt = 0 := by rw [e]; rfl
  rw [Int32.toInt_toInt64] at h1
  have h2 : (0 : Int32).toInt < y.toInt := Int32.lt_iff_toInt_lt.mp h
  rw [h1] at h2
  exact absurd h2 (by decide)
