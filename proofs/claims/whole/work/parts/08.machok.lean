/-! what the machine keeps -/
section RN_2
variable {s inp : Nat → Int32} {L I F n : Nat} {qt : Int32} {tg : Nat → Nat} {D : Nat → cm_T}
theorem rn_print_ok {z z' : rn_T} (h : rn_ok inp I F z) (e : rn_print z = some z') : rn_ok inp I F z' ∧ z'.2.2.2.2.2.2.2.1 = z.2.2.2.2.2.2.2.1 ∧ z'.2.2.2.2.2.2.2.2.1 = z.2.2.2.2.2.2.2.2.1 := by
  obtain ⟨Mout, Mo, Mpat, Mp, Mhold, Mh, Mm, Mq, Mst, Mt, Mac⟩ := z
  unfold rn_print at e
  dsimp only at e
  split at e
  · exact absurd e (by simp)
  · have t := (Option.some.inj e).symm
    obtain ⟨h1, h2, h3, h4, h5, h6⟩ := h
    rw [t]
    exact ⟨⟨by omega, h2, h3, h4, h5, h6⟩, rfl, rfl⟩
theorem rn_sub_ok {z : rn_T} {d : cm_T} (h : rn_ok inp I F z) : rn_ok inp I F (rn_sub s L d z).2 ∧ (rn_sub s L d z).2.2.2.2.2.2.2.2.1 = z.2.2.2.2.2.2.2.1 ∧ (rn_sub s L d z).2.2.2.2.2.2.2.2.2.1 = z.2.2.2.2.2.2.2.2.1 := by
  obtain ⟨Mout, Mo, Mpat, Mp, Mhold, Mh, Mm, Mq, Mst, Mt, Mac⟩ := z
  unfold rn_sub
  dsimp only
  split
  · exact ⟨h, rfl, rfl⟩
  · split
    · exact ⟨h, rfl, rfl⟩
    · split
      · exact ⟨h, rfl, rfl⟩
      · rename_i w
        obtain ⟨h1, h2, h3, h4, h5, h6⟩ := h
        exact ⟨⟨h1, by omega, h3, h4, h5, Or.inr rfl⟩, rfl, rfl⟩
theorem rn_N_ok {z : rn_T} (h : rn_ok inp I F z) : rn_ok inp I F (rn_N inp I qt z).2 ∧ z.2.2.2.2.2.2.2.1 ≤ (rn_N inp I qt z).2.2.2.2.2.2.2.2.1 ∧ (rn_N inp I qt z).2.2.2.2.2.2.2.2.2.1 = z.2.2.2.2.2.2.2.2.1 := by
  obtain ⟨Mout, Mo, Mpat, Mp, Mhold, Mh, Mm, Mq, Mst, Mt, Mac⟩ := z
  unfold rn_N
  dsimp only
  split
  · split
    · split
      · exact ⟨h, Nat.le_refl _, rfl⟩
      · rename_i z' e
        obtain ⟨a, b, c⟩ := rn_print_ok h e
        exact ⟨a, Nat.le_of_eq b.symm, c⟩
    · exact ⟨h, Nat.le_refl _, rfl⟩
  · split
    · exact ⟨h, Nat.le_refl _, rfl⟩
    · rename_i w1 w2
      obtain ⟨h1, h2, h3, h4, h5, h6⟩ := h
      have g := sc_ge (P := pb_n inp) (L := I) (q := Mq) (by omega)
      refine ⟨⟨h1, by omega, h3, h4, ln_next h5 (by omega), h6⟩, ?_, rfl⟩
      show Mq ≤ ln_e inp I Mq + 1
      unfold ln_e
      omega
def rn_P (inp : Nat → Int32) (I F n : Nat) (z : rn_T) (r : Int32 × Nat × rn_T) : Prop := rn_ok inp I F r.2.2 ∧ r.2.1 ≤ n ∧ z.2.2.2.2.2.2.2.1 ≤ r.2.2.2.2.2.2.2.2.2.1 ∧ r.2.2.2.2.2.2.2.2.2.2.1 = z.2.2.2.2.2.2.2.2.1
theorem rn_act_ok {z : rn_T} {d : cm_T} {k : Nat} (h : rn_ok inp I F z) (hk : k < n) (ht : tg k ≤ n) : rn_P inp I F n z (rn_act s inp L I qt tg d k z) := by
  obtain ⟨Mout, Mo, Mpat, Mp, Mhold, Mh, Mm, Mq, Mst, Mt, Mac⟩ := z
  have h0 := h
  obtain ⟨h1, h2, h3, h4, h5, h6⟩ := h
  unfold rn_act
  dsimp only
  by_cases c0 : d.2.1 = 115
  · rw [if_pos c0]
    obtain ⟨a, b, c⟩ := rn_sub_ok (s := s) (L := L) (d := d) h0
    exact ⟨a, by show k + 1 ≤ n; omega, Nat.le_of_eq b.symm, c⟩
  rw [if_neg c0]
  by_cases c1 : d.2.1 = 100
  · rw [if_pos c1]
    exact ⟨⟨h1, by omega, h3, h4, h5, h6⟩, by show k + 1 ≤ n; omega, Nat.le_refl _, rfl⟩
  rw [if_neg c1]
  by_cases c2 : d.2.1 = 112
  · rw [if_pos c2]
    split
    · exact ⟨h0, by show k + 1 ≤ n; omega, Nat.le_refl _, rfl⟩
    · rename_i z' e
      obtain ⟨a, b, c⟩ := rn_print_ok h0 e
      exact ⟨a, by show k + 1 ≤ n; omega, Nat.le_of_eq b.symm, c⟩
  rw [if_neg c2]
  by_cases c3 : d.2.1 = 78
  · rw [if_pos c3]
    obtain ⟨a, b, c⟩ := rn_N_ok (qt := qt) h0
    exact ⟨a, by show k + 1 ≤ n; omega, b, c⟩
  rw [if_neg c3]
  by_cases c4 : d.2.1 = 104
  · rw [if_pos c4]
    exact ⟨⟨h1, h2, h2, h4, h5, h6⟩, by show k + 1 ≤ n; omega, Nat.le_refl _, rfl⟩
  rw [if_neg c4]
  by_cases c5 : d.2.1 = 103
  · rw [if_pos c5]
    exact ⟨⟨h1, h3, h3, h4, h5, h6⟩, by show k + 1 ≤ n; omega, Nat.le_refl _, rfl⟩
  rw [if_neg c5]
  by_cases c6 : d.2.1 = 72
  · rw [if_pos c6]
    split
    · exact ⟨h0, by show k + 1 ≤ n; omega, Nat.le_refl _, rfl⟩
    · exact ⟨⟨h1, h2, by omega, h4, h5, h6⟩, by show k + 1 ≤ n; omega, Nat.le_refl _, rfl⟩
  rw [if_neg c6]
  by_cases c7 : d.2.1 = 71
  · rw [if_pos c7]
    split
    · exact ⟨h0, by show k + 1 ≤ n; omega, Nat.le_refl _, rfl⟩
    · exact ⟨⟨h1, by omega, h3, h4, h5, h6⟩, by show k + 1 ≤ n; omega, Nat.le_refl _, rfl⟩
  rw [if_neg c7]
  by_cases c8 : d.2.1 = 120
  · rw [if_pos c8]
    exact ⟨⟨h1, h3, h2, h4, h5, h6⟩, by show k + 1 ≤ n; omega, Nat.le_refl _, rfl⟩
  rw [if_neg c8]
  by_cases c9 : d.2.1 = 98
  · rw [if_pos c9]
    exact ⟨h0, ht, Nat.le_refl _, rfl⟩
  rw [if_neg c9]
  by_cases c10 : d.2.1 = 116
  · rw [if_pos c10]
    split
    · exact ⟨h0, by show k + 1 ≤ n; omega, Nat.le_refl _, rfl⟩
    · exact ⟨⟨h1, h2, h3, h4, h5, Or.inl rfl⟩, ht, Nat.le_refl _, rfl⟩
  · rw [if_neg c10]
    exact ⟨h0, by show k + 1 ≤ n; omega, Nat.le_refl _, rfl⟩
theorem rn_step_ok {z : rn_T} {k : Nat} (h : rn_ok inp I F z) (hk : k < n) (ht : tg k ≤ n) : rn_ok inp I F (rn_step s inp L I F qt tg D k z).2.2 ∧ ((rn_step s inp L I F qt tg D k z).1 = -1 → (rn_step s inp L I F qt tg D k z).2.1 ≤ n ∧ (rn_step s inp L I F qt tg D k z).2.2.2.2.2.2.2.2.2.2.1 = z.2.2.2.2.2.2.2.2.1 + 1) ∧ z.2.2.2.2.2.2.2.1 ≤ (rn_step s inp L I F qt tg D k z).2.2.2.2.2.2.2.2.2.1 := by
  obtain ⟨Mout, Mo, Mpat, Mp, Mhold, Mh, Mm, Mq, Mst, Mt, Mac⟩ := z
  have h0 := h
  obtain ⟨h1, h2, h3, h4, h5, h6⟩ := h
  unfold rn_step
  dsimp only
  split
  · exact ⟨h0, fun z => absurd z (by decide : ¬ (2 : Int32) = -1), Nat.le_refl _⟩
  · rename_i w
    split
    · have ha : rn_ok inp I F (Mout, Mo, Mpat, Mp, Mhold, Mh, Mm, Mq, Mst + 1, Mt, (rn_sel s L I (D k) k (Mout, Mo, Mpat, Mp, Mhold, Mh, Mm, Mq, Mst + 1, Mt, Mac)).2) := ⟨h1, h2, h3, by omega, h5, h6⟩
      obtain ⟨a, b, c, e⟩ := rn_act_ok (s := s) (L := L) (qt := qt) (tg := tg) (d := D k) ha hk ht
      exact ⟨a, fun _ => ⟨b, e⟩, c⟩
    · exact ⟨⟨h1, h2, h3, by omega, h5, h6⟩, fun _ => ⟨by show k + 1 ≤ n; omega, rfl⟩, Nat.le_refl _⟩
theorem rn_in_ok (ht : ∀ k, k < n → tg k ≤ n) : ∀ f k z, rn_ok inp I F z → rn_ok inp I F (rn_in s inp L I F n qt tg D f k z).2 ∧ z.2.2.2.2.2.2.2.1 ≤ (rn_in s inp L I F n qt tg D f k z).2.2.2.2.2.2.2.2.1 := by
  intro f
  induction f with
  | zero => intro k z h; exact ⟨h, Nat.le_refl _⟩
  | succ f ih =>
    intro k z h
    rw [rn_in]
    split
    · exact ⟨h, Nat.le_refl _⟩
    · rename_i w
      obtain ⟨a, b, c⟩ := rn_step_ok (s := s) (L := L) (qt := qt) (tg := tg) (D := D) h (show k < n by omega) (ht k (by omega))
      split
      · obtain ⟨d, e⟩ := ih (rn_step s inp L I F qt tg D k z).2.1 _ a
        exact ⟨d, Nat.le_trans c e⟩
      · exact ⟨a, c⟩
theorem rn_beg_ok {z : rn_T} (h : rn_ok inp I F z) : rn_ok inp I F (rn_beg inp I z).2 ∧ ((rn_beg inp I z).1 = -1 → z.2.2.2.2.2.2.2.1 < I ∧ z.2.2.2.2.2.2.2.1 < (rn_beg inp I z).2.2.2.2.2.2.2.2.1) := by
  obtain ⟨Mout, Mo, Mpat, Mp, Mhold, Mh, Mm, Mq, Mst, Mt, Mac⟩ := z
  have h0 := h
  obtain ⟨h1, h2, h3, h4, h5, h6⟩ := h
  unfold rn_beg
  dsimp only
  split
  · exact ⟨h0, fun z => absurd z (by decide : ¬ (0 : Int32) = -1)⟩
  · split
    · exact ⟨h0, fun z => absurd z (by decide : ¬ (3 : Int32) = -1)⟩
    · rename_i w1 w2
      have g := sc_ge (P := pb_n inp) (L := I) (q := Mq) (by omega)
      refine ⟨⟨h1, by omega, h3, h4, ln_next h5 (by omega), Or.inl rfl⟩, fun _ => ⟨by show Mq < I; omega, ?_⟩⟩
      show Mq < ln_e inp I Mq + 1
      unfold ln_e
      omega
theorem rn_end_ok {z : rn_T} {r : Int32} (h : rn_ok inp I F z) : rn_ok inp I F (rn_end qt r z).2 ∧ z.2.2.2.2.2.2.2.1 ≤ (rn_end qt r z).2.2.2.2.2.2.2.2.1 := by
  unfold rn_end
  split
  · split
    · split
      · exact ⟨h, Nat.le_refl _⟩
      · rename_i z' e
        obtain ⟨a, b, c⟩ := rn_print_ok h e
        exact ⟨a, Nat.le_of_eq b.symm⟩
    · exact ⟨h, Nat.le_refl _⟩
  · split
    · exact ⟨h, Nat.le_refl _⟩
    · exact ⟨h, Nat.le_refl _⟩
theorem rn_cyc_ok (ht : ∀ k, k < n → tg k ≤ n) {z : rn_T} (h : rn_ok inp I F z) : rn_ok inp I F (rn_cyc s inp L I F n qt tg D z).2 ∧ ((rn_cyc s inp L I F n qt tg D z).1 = -1 → z.2.2.2.2.2.2.2.1 < I ∧ z.2.2.2.2.2.2.2.1 < (rn_cyc s inp L I F n qt tg D z).2.2.2.2.2.2.2.2.1) := by
  obtain ⟨a, b⟩ := rn_beg_ok h
  unfold rn_cyc
  split
  · rename_i w
    obtain ⟨b1, b2⟩ := b w
    obtain ⟨c, d⟩ := rn_in_ok (s := s) (L := L) (qt := qt) (tg := tg) (D := D) ht (F + 2) 0 _ a
    obtain ⟨e, f⟩ := rn_end_ok (qt := qt) (r := (rn_in s inp L I F n qt tg D (F + 2) 0 (rn_beg inp I z).2).1) c
    exact ⟨e, fun _ => ⟨b1, by omega⟩⟩
  · rename_i w
    exact ⟨a, fun y => absurd y w⟩
end RN_2
