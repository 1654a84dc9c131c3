/-! matching: T the text, ch and st the atoms, i the start; R a d: the first a atoms take the d chars from i on -/
def mt_f (T ch : Nat → Int32) (a x : Nat) : Bool := decide (ch a = -1) || decide (ch a = T x)
def mt_row (b : Bool) (f g : Nat → Bool) : Nat → Bool
  | 0 => b && g 0
  | d + 1 => if b = true then g (d + 1) || (mt_row b f g d && f d) else g d && f d
def mt_b (st : Nat → Int32) (a : Nat) : Bool := decide (¬ st a = 0)
def mt_R (T ch st : Nat → Int32) (i : Nat) : Nat → Nat → Bool
  | 0 => fun d => decide (d = 0)
  | a + 1 => mt_row (mt_b st a) (fun d => mt_f T ch a (i + d)) (mt_R T ch st i a)
def mt_g (Q : Nat → Bool) : Nat → Option Nat
  | 0 => none
  | d + 1 => if Q d = true then some d else mt_g Q d
def mt_Q (T : Nat → Int32) (n : Nat) (ch st : Nat → Int32) (na anE i d : Nat) : Bool := mt_R T ch st i na d && (decide (anE = 0) || decide (i + d = n))
/-- the length of the longest match at i, whatever the start anchor says -/
def mt_l (T : Nat → Int32) (n : Nat) (ch st : Nat → Int32) (na anE i : Nat) : Option Nat := mt_g (mt_Q T n ch st na anE i) (n + 1 - i)
def mt_at (T : Nat → Int32) (n : Nat) (ch st : Nat → Int32) (na anS anE i : Nat) : Option Nat := if ¬ anS = 0 ∧ ¬ i = 0 then none else mt_l T n ch st na anE i
def mt_s (M : Nat → Option Nat) : Nat → Nat → Option (Nat × Nat)
  | 0, _ => none
  | c + 1, i => match M i with
    | some d => some (i, i + d)
    | none => mt_s M c (i + 1)
/-- the first match from p on: its start and its end -/
def mt_1 (T : Nat → Int32) (n : Nat) (ch st : Nat → Int32) (na anS anE p : Nat) : Option (Nat × Nat) := mt_s (mt_at T n ch st na anS anE) (n + 1 - p) p
/-- the number that stands for a place or none -/
def mt_o : Option Nat → Int32
  | none => -1
  | some d => nI d
theorem mt_g_lt {Q : Nat → Bool} : ∀ D d, mt_g Q D = some d → d < D ∧ Q d = true := by
  intro D
  induction D with
  | zero => intro d h; exact absurd h (by simp [mt_g])
  | succ D ih =>
    intro d h
    rw [mt_g] at h
    split at h
    · rename_i z
      have := Option.some.inj h
      rw [← this]
      exact ⟨by omega, z⟩
    · have := ih d h
      exact ⟨by omega, this.2⟩
theorem mt_l_lt {T : Nat → Int32} {n : Nat} {ch st : Nat → Int32} {na anE i d : Nat} (h : mt_l T n ch st na anE i = some d) : i + d ≤ n := by
  have := mt_g_lt _ _ h
  omega
theorem mt_at_l {T : Nat → Int32} {n : Nat} {ch st : Nat → Int32} {na anS anE i d : Nat} (h : mt_at T n ch st na anS anE i = some d) : mt_l T n ch st na anE i = some d := by
  unfold mt_at at h
  split at h
  · exact absurd h (by simp)
  · exact h
theorem mt_s_f {M : Nat → Option Nat} : ∀ c p r, mt_s M c p = some r → p ≤ r.1 ∧ r.1 < p + c ∧ ∃ d, M r.1 = some d ∧ r.2 = r.1 + d := by
  intro c
  induction c with
  | zero => intro p r h; exact absurd h (by simp [mt_s])
  | succ c ih =>
    intro p r h
    rw [mt_s] at h
    cases e : M p with
    | none =>
      rw [e] at h
      have := ih (p + 1) r h
      exact ⟨by omega, by omega, this.2.2⟩
    | some d =>
      rw [e] at h
      have t := (Option.some.inj h).symm
      rw [t]
      exact ⟨Nat.le_refl _, by show p < _; omega, d, e, rfl⟩
theorem mt_1_f {T : Nat → Int32} {n : Nat} {ch st : Nat → Int32} {na anS anE p : Nat} {r : Nat × Nat} (h : mt_1 T n ch st na anS anE p = some r) : p ≤ r.1 ∧ r.1 ≤ r.2 ∧ r.2 ≤ n ∧ ∃ d, mt_l T n ch st na anE r.1 = some d ∧ r.2 = r.1 + d := by
  obtain ⟨a, b, d, e, f⟩ := mt_s_f _ _ _ h
  have g := mt_at_l e
  have := mt_l_lt g
  exact ⟨a, by omega, by omega, d, g, f⟩
theorem mt_s_none {M : Nat → Option Nat} : ∀ c p, (∀ j, p ≤ j → M j = none) → mt_s M c p = none := by
  intro c
  induction c with
  | zero => intro p _; rfl
  | succ c ih =>
    intro p h
    rw [mt_s, h p (Nat.le_refl _)]
    exact ih (p + 1) (fun j hj => h j (by omega))
theorem mt_1_anch {T : Nat → Int32} {n : Nat} {ch st : Nat → Int32} {na anS anE p : Nat} (hS : ¬ anS = 0) (hp : 0 < p) : mt_1 T n ch st na anS anE p = none := by
  unfold mt_1
  exact mt_s_none _ _ (fun j hj => by unfold mt_at; rw [if_pos ⟨hS, by omega⟩])
theorem mt_1_hi {T : Nat → Int32} {n : Nat} {ch st : Nat → Int32} {na anS anE p : Nat} (hp : n < p) : mt_1 T n ch st na anS anE p = none := by
  unfold mt_1
  rw [show n + 1 - p = 0 from by omega, mt_s]
theorem mt_1_0 {T : Nat → Int32} {n : Nat} {ch st : Nat → Int32} {na anS anE : Nat} (hS : ¬ anS = 0) : mt_1 T n ch st na anS anE 0 = (match mt_l T n ch st na anE 0 with | some d => some (0, 0 + d) | none => none) := by
  unfold mt_1
  rw [show n + 1 - 0 = n + 1 from rfl, mt_s]
  have e : mt_at T n ch st na anS anE 0 = mt_l T n ch st na anE 0 := by
    unfold mt_at
    rw [if_neg (fun z => z.2 rfl)]
  rw [e]
  cases mt_l T n ch st na anE 0 with
  | some d => rfl
  | none => exact mt_s_none _ _ (fun j hj => by unfold mt_at; rw [if_pos ⟨hS, by omega⟩])
/-! X's columns: the places set at the head of a column, and at its end -/
def mt_P (T ch st : Nat → Int32) (i na a d : Nat) : Bool := if a < na ∧ mt_b st a = true then mt_R T ch st i (a + 1) d else mt_R T ch st i a d
/-- the bits at the head of column d -/
def mt_C (T ch st : Nat → Int32) (i na a : Nat) : Nat → Bool
  | 0 => decide (a = 0)
  | d + 1 => (decide (a < na) && (mt_b st a && (mt_P T ch st i na a d && mt_f T ch a (i + d)))) || (decide (0 < a) && (!mt_b st (a - 1) && (mt_P T ch st i na (a - 1) d && mt_f T ch (a - 1) (i + d))))
theorem mt_P_C (T ch st : Nat → Int32) (i na a d : Nat) (ha : a ≤ na) : mt_P T ch st i na a d = (mt_C T ch st i na a d || (decide (0 < a) && (mt_b st (a - 1) && mt_P T ch st i na (a - 1) d))) := by
  cases d with
  | zero =>
    cases a with
    | zero =>
      unfold mt_P mt_C
      split
      · rename_i z
        rw [mt_R, mt_row, z.2, mt_R]; rfl
      · rw [mt_R]; rfl
    | succ a =>
      have e1 : mt_P T ch st i na (a + 1) 0 = mt_R T ch st i (a + 1) 0 := by
        unfold mt_P
        split
        · rename_i z
          rw [mt_R, mt_row, z.2, Bool.true_and]
        · rfl
      rw [e1]
      have e2 : mt_C T ch st i na (a + 1) 0 = false := rfl
      rw [e2, Bool.false_or, Nat.add_sub_cancel, decide_eq_true (Nat.succ_pos a), Bool.true_and]
      cases hb : mt_b st a with
      | false => rw [mt_R, mt_row, hb]; rfl
      | true =>
        have e3 : mt_P T ch st i na a 0 = mt_R T ch st i (a + 1) 0 := by
          unfold mt_P
          rw [if_pos ⟨by omega, hb⟩]
        rw [e3, Bool.true_and]
  | succ d =>
    have hA : ∀ a, a ≤ na → mt_R T ch st i a (d + 1) = ((decide (0 < a) && (!mt_b st (a - 1) && (mt_P T ch st i na (a - 1) d && mt_f T ch (a - 1) (i + d)))) || (decide (0 < a) && (mt_b st (a - 1) && mt_P T ch st i na (a - 1) (d + 1)))) := by
      intro a ha
      cases a with
      | zero => rfl
      | succ a =>
        rw [Nat.add_sub_cancel, decide_eq_true (Nat.succ_pos a), Bool.true_and, Bool.true_and]
        cases hb : mt_b st a with
        | false =>
          have e3 : mt_P T ch st i na a d = mt_R T ch st i a d := by
            unfold mt_P
            rw [if_neg (by rw [hb]; intro z; exact absurd z.2 (by decide))]
          rw [e3, mt_R, mt_row, hb, if_neg (by decide)]
          simp
        | true =>
          have e3 : mt_P T ch st i na a (d + 1) = mt_R T ch st i (a + 1) (d + 1) := by
            unfold mt_P
            rw [if_pos ⟨by omega, hb⟩]
          rw [e3]
          simp
    have hR := hA a ha
    by_cases hs : a < na ∧ mt_b st a = true
    · have e1 : mt_P T ch st i na a (d + 1) = (mt_R T ch st i a (d + 1) || (mt_P T ch st i na a d && mt_f T ch a (i + d))) := by
        unfold mt_P
        rw [if_pos hs, if_pos hs, mt_R, mt_row, hs.2, if_pos rfl, ← hs.2]
      rw [e1, hR, mt_C, decide_eq_true hs.1, hs.2]
      generalize (mt_P T ch st i na a d && mt_f T ch a (i + d)) = x
      generalize (decide (0 < a) && (!mt_b st (a - 1) && (mt_P T ch st i na (a - 1) d && mt_f T ch (a - 1) (i + d)))) = y
      generalize (decide (0 < a) && (mt_b st (a - 1) && mt_P T ch st i na (a - 1) (d + 1))) = z
      cases x <;> cases y <;> cases z <;> rfl
    · have e1 : mt_P T ch st i na a (d + 1) = mt_R T ch st i a (d + 1) := by
        unfold mt_P
        rw [if_neg hs]
      have e2 : (decide (a < na) && (mt_b st a && (mt_P T ch st i na a d && mt_f T ch a (i + d)))) = false := by
        by_cases h1 : a < na
        · have : mt_b st a = false := by
            cases h2 : mt_b st a
            · rfl
            · exact absurd ⟨h1, h2⟩ hs
          rw [this]; simp
        · rw [decide_eq_false h1]; rfl
      rw [e1, hR, mt_C, e2, Bool.false_or]
theorem mt_P_na (T ch st : Nat → Int32) (i na d : Nat) : mt_P T ch st i na na d = mt_R T ch st i na d := by
  unfold mt_P
  rw [if_neg (fun z => absurd z.1 (Nat.lt_irrefl _))]
/-! bits of a set of places -/
theorem mt_tst (x : Int32) (n : Nat) (hn : n < 31) : ((x >>> (nI n &&& 31)) &&& 1) = 1 ↔ bt x n = true := by
  have h1 : ∀ i, i < 32 → bt 1 i = decide (i = 0) := by decide +kernel
  constructor
  · intro h
    have : bt ((x >>> (nI n &&& 31)) &&& 1) 0 = bt 1 0 := by rw [h]
    rw [b_and, b_sshr n (by omega) x (by omega), if_pos (by omega), h1 0 (by omega)] at this
    simpa using this
  · intro h
    apply b_ext
    intro i hi
    rw [b_and, h1 i hi]
    by_cases z : i = 0
    · subst z
      rw [b_sshr n (by omega) x (by omega), if_pos (by omega), Nat.add_zero, h]; rfl
    · rw [decide_eq_false z, Bool.and_false]
theorem mt_or1 (x : Int32) (n m : Nat) (hn : n < 31) (hm : m < 32) : bt (x ||| ((1 : Int32) <<< (nI n &&& 31))) m = (bt x m || decide (m = n)) := by
  have h1 : ∀ i, i < 32 → bt 1 i = decide (i = 0) := by decide +kernel
  rw [b_or, b_shl n (by omega) 1 hm, h1 (m - n) (by omega)]
  congr 1
  by_cases z : m = n
  · subst z; simp
  · by_cases y : n ≤ m
    · rw [decide_eq_true y, decide_eq_false (by omega), decide_eq_false z]; rfl
    · rw [decide_eq_false y, decide_eq_false z]; rfl
theorem mt_or2 (x : Int32) (n m : Nat) (hn : n < 30) (hm : m < 32) : bt (x ||| ((2 : Int32) <<< (nI n &&& 31))) m = (bt x m || decide (m = n + 1)) := by
  have h1 : ∀ i, i < 32 → bt 2 i = decide (i = 1) := by decide +kernel
  rw [b_or, b_shl n (by omega) 2 hm, h1 (m - n) (by omega)]
  congr 1
  by_cases z : m = n + 1
  · subst z
    rw [decide_eq_true (by omega), decide_eq_true (by omega), decide_eq_true rfl]; rfl
  · by_cases y : n ≤ m
    · rw [decide_eq_true y, decide_eq_false (by omega), decide_eq_false z]; rfl
    · rw [decide_eq_false y, decide_eq_false z]; rfl
