/-! the substitution's list, and an array that holds it as far as it has room -/
def rl_h (f : Nat → Int32) (R : List Int32) : Prop := ∀ j, j < R.length → j < 64 → f j = sb_f R j
theorem rl_0 (f : Nat → Int32) : rl_h f [] := fun j hj => absurd hj (by simp)
theorem rl_put {f : Nat → Int32} {R : List Int32} {c : Int32} (h : rl_h f R) (hl : R.length < 64) : rl_h (upd f R.length c) (R ++ [c]) := by
  intro j hj h64
  rw [List.length_append, List.length_singleton] at hj
  unfold upd sb_f
  by_cases e : j = R.length
  · rw [if_pos e, e]
    simp [List.getD_eq_getElem?_getD]
  · have hj2 : j < R.length := by omega
    rw [if_neg e, h j hj2 h64]
    unfold sb_f
    rw [List.getD_eq_getElem?_getD, List.getD_eq_getElem?_getD, List.getElem?_append_left hj2]
theorem rl_full {f : Nat → Int32} {R : List Int32} {c : Int32} (h : rl_h f R) (hl : ¬ R.length < 64) : rl_h f (R ++ [c]) := by
  intro j hj h64
  have hj2 : j < R.length := by omega
  rw [h j hj2 h64]
  unfold sb_f
  rw [List.getD_eq_getElem?_getD, List.getD_eq_getElem?_getD, List.getElem?_append_left hj2]
theorem rl_cp {f : Nat → Int32} {R : List Int32} {g : Nat → Int32} (h : rl_h f R) (hl : R.length ≤ 64) : cp_y f 0 g 0 R.length = cp_y (sb_f R) 0 g 0 R.length :=
  cp_c fun j hj => by rw [Nat.zero_add]; exact h j hj (by omega)
theorem sl_len (T : Nat → Int32) (a : Nat) : ∀ n, (sl_x T a n).length = n := by
  intro n
  induction n with
  | zero => rfl
  | succ n ih => rw [sl_x, List.length_append, ih]; rfl
theorem sl_rlen (s T : Nat → Int32) (rp i j : Nat) : ∀ t, (sl_r s T rp i j t).length ≤ t * (j - i + 1) := by
  intro t
  induction t with
  | zero => exact Nat.zero_le _
  | succ t ih =>
    rw [sl_r, List.length_append, Nat.succ_mul]
    split
    · rw [sl_len]; omega
    · rw [List.length_singleton]; omega
/-- a round's list, and the place behind it -/
def sb_R (s T : Nat → Int32) (n rp rn p : Nat) (R : List Int32) (r : Nat × Nat) : List Int32 := R ++ sl_x T p (r.1 - p) ++ sl_r s T rp r.1 r.2 rn ++ (if r.2 = r.1 ∧ r.1 < n then [T r.1] else [])
theorem sb_len {s T : Nat → Int32} {n rp rn p : Nat} {R : List Int32} {r : Nat × Nat} (hn : n ≤ 64) (hr : rn ≤ 128) (h : r.1 ≤ r.2 ∧ r.2 ≤ n) : (sb_R s T n rp rn p R r).length ≤ R.length + 8400 := by
  unfold sb_R
  have a := sl_rlen s T rp r.1 r.2 rn
  have b : rn * (r.2 - r.1 + 1) ≤ 128 * 65 := Nat.mul_le_mul hr (by omega)
  rw [List.length_append, List.length_append, List.length_append, sl_len]
  split
  · rw [List.length_singleton]; omega
  · rw [List.length_nil]; omega
theorem tb_c_amp {s : Nat → Int32} {L p : Nat} (hc : ch_ok s L) (h : p < L) (h92 : s p = 92 → p + 1 < L) : tb_c s p = -1 ↔ (tx_e s p = 0 ∧ tx_c s p = 38) := by
  unfold tb_c
  split
  · rename_i z; exact ⟨fun _ => z, fun _ => rfl⟩
  · rename_i z
    obtain ⟨m, hm, e⟩ := tx_c_ok hc h h92
    constructor
    · intro y
      rw [e] at y
      exact absurd (nI_pos (n := m) (by omega)) (by rw [y]; exact fun q => q (by decide))
    · intro y; exact absurd y z
