/-! the input's lines: nl counts newlines below x; LI m q: m lines are read, the next begins at q -/
def ln_c (s : Nat → Int32) : Nat → Nat
  | 0 => 0
  | x + 1 => if s x = 10 then ln_c s x + 1 else ln_c s x
/-- the number of lines -/
def ln_k (s : Nat → Int32) (L : Nat) : Nat := if 0 < L ∧ ¬ s (L - 1) = 10 then ln_c s L + 1 else ln_c s L
def ln_e (s : Nat → Int32) (L q : Nat) : Nat := sc_e (pb_n s) L q
def ln_I (s : Nat → Int32) (L m q : Nat) : Prop := (q ≤ L ∧ ln_c s q = m ∧ (q = 0 ∨ s (q - 1) = 10)) ∨ (q = L + 1 ∧ 0 < L ∧ ¬ s (L - 1) = 10 ∧ ln_c s L + 1 = m)
theorem ln_0 (s : Nat → Int32) (L : Nat) : ln_I s L 0 0 := Or.inl ⟨Nat.zero_le _, rfl, Or.inl rfl⟩
theorem ln_mono (s : Nat → Int32) {x y : Nat} (h : x ≤ y) : ln_c s x ≤ ln_c s y := by
  induction y with
  | zero => rw [show x = 0 from by omega]; exact Nat.le_refl _
  | succ y ih =>
    by_cases z : x = y + 1
    · rw [z]; exact Nat.le_refl _
    · have := ih (by omega)
      rw [ln_c]
      split <;> omega
theorem ln_c_le (s : Nat → Int32) : ∀ x, ln_c s x ≤ x := by
  intro x
  induction x with
  | zero => exact Nat.le_refl _
  | succ x ih => rw [ln_c]; split <;> omega
theorem ln_same (s : Nat → Int32) (q : Nat) : ∀ e, q ≤ e → (∀ j, q ≤ j → j < e → ¬ s j = 10) → ln_c s e = ln_c s q := by
  intro e
  induction e with
  | zero => intro h _; rw [show q = 0 from by omega]
  | succ e ih =>
    intro h g
    by_cases z : q = e + 1
    · rw [z]
    · rw [ln_c, if_neg (g e (by omega) (by omega))]
      exact ih (by omega) (fun j a b => g j a (by omega))
theorem ln_next {s : Nat → Int32} {L m q : Nat} (h : ln_I s L m q) (hq : q < L) : ln_I s L (m + 1) (ln_e s L q + 1) := by
  rcases h with ⟨h1, h2, h3⟩ | ⟨h1, _⟩
  · obtain ⟨f1, f2, f3, f4⟩ := sc_facts (P := pb_n s) (L := L) (q := q) h1
    have e1 : ln_c s (ln_e s L q) = m := by
      rw [← h2]
      exact ln_same s q _ f1 (fun j a b => by have := f3 j a b; simpa [pb_n] using this)
    by_cases z : ln_e s L q = L
    · refine Or.inr ⟨by rw [z], by omega, ?_, by rw [← z, e1]⟩
      have := f3 (L - 1) (by omega) (by show L - 1 < ln_e s L q; omega)
      simpa [pb_n] using this
    · have lt : ln_e s L q < L := Nat.lt_of_le_of_ne f2 z
      have e2 : s (ln_e s L q) = 10 := by
        have := f4 lt
        simpa [pb_n, ln_e] using this
      refine Or.inl ⟨by omega, ?_, Or.inr (by rw [Nat.add_sub_cancel]; exact e2)⟩
      rw [ln_c, if_pos e2, e1]
  · omega
theorem ln_lt {s : Nat → Int32} {L m q : Nat} (h : ln_I s L m q) : m < ln_k s L ↔ q < L := by
  unfold ln_k
  rcases h with ⟨h1, h2, h3⟩ | ⟨h1, h2, h3, h4⟩
  · have a := ln_mono s h1
    constructor
    · intro g
      rcases Nat.lt_or_ge q L with z | z
      · exact z
      · have e : q = L := by omega
        subst e
        split at g
        · rename_i w
          rcases h3 with y | y
          · omega
          · exact absurd y w.2
        · omega
    · intro g
      split
      · omega
      · rename_i w
        have e : s (L - 1) = 10 := by
          by_cases y : s (L - 1) = 10
          · exact y
          · exact absurd ⟨by omega, y⟩ w
        have b := ln_mono s (show q ≤ L - 1 by omega)
        have c : ln_c s L = ln_c s (L - 1) + 1 := by
          obtain ⟨x, rfl⟩ : ∃ x, L = x + 1 := ⟨L - 1, by omega⟩
          rw [Nat.add_sub_cancel] at e ⊢
          rw [ln_c, if_pos e]
        omega
  · rw [if_pos ⟨h2, h3⟩]
    omega
theorem ln_le {s : Nat → Int32} {L m q : Nat} (h : ln_I s L m q) : m ≤ ln_k s L := by
  unfold ln_k
  rcases h with ⟨h1, h2, h3⟩ | ⟨h1, h2, h3, h4⟩
  · have a := ln_mono s h1
    split <;> omega
  · rw [if_pos ⟨h2, h3⟩]
    omega
theorem ln_kle (s : Nat → Int32) (L : Nat) : ln_k s L ≤ L := by
  unfold ln_k
  split
  · rename_i z
    obtain ⟨x, rfl⟩ : ∃ x, L = x + 1 := ⟨L - 1, by omega⟩
    rw [Nat.add_sub_cancel] at z
    rw [ln_c, if_neg z.2]
    have := ln_c_le s x
    omega
  · exact ln_c_le s L
