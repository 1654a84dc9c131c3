/-! the table: what X's arrays hold for the commands of the script -/
section TB_1
variable {s : Nat → Int32} {L : Nat}
/-- a regex g in slot j -/
def tb_R (sa ea ac ach ast : Nat → Int32) (j : Nat) (g : Nat × Nat × Nat × Nat × (Nat → Int32) × (Nat → Int32)) : Prop :=
  sa j = nI g.2.1 ∧ ea j = nI g.2.2.1 ∧ ac j = nI g.2.2.2.1 ∧ ∀ i, i < g.2.2.2.1 → ach (j * 12 + i) = g.2.2.2.2.1 i ∧ ast (j * 12 + i) = g.2.2.2.2.2 i
/-- an address of kind kd and value v in slot j -/
def tb_A (s : Nat → Int32) (L : Nat) (adr sa ea ac ach ast : Nat → Int32) (j kd : Nat) (v : Int32) : Prop :=
  (kd = 0 ∧ adr j = 0) ∨ (kd = 1 ∧ adr j = v ∧ ∃ m : Nat, 1 ≤ m ∧ m ≤ 255 ∧ v = nI m) ∨ (kd = 2 ∧ adr j = -1) ∨ (kd = 3 ∧ adr j = -2 ∧ ∃ p g, p ≤ L ∧ v = nI p ∧ rg_x s L p = some g ∧ tb_R sa ea ac ach ast j g)
/-- X's code of a replacement's item -/
def tb_c (s : Nat → Int32) (p : Nat) : Int32 := if tx_e s p = 0 ∧ tx_c s p = 38 then -1 else tx_c s p
/-- command k, whose parse is d, in X's arrays -/
def tb_X (s : Nat → Int32) (L : Nat) (vb ng ev lst lsz rst ren rep adr sa ea ac ach ast : Nat → Int32) (k : Nat) (d : (Nat × (Nat × Int32) × (Nat × Int32) × Int32 × Nat) × Int32 × ((Nat × Nat) × (Nat × Nat × Nat × Int32) × Nat) × Nat) : Prop :=
  vb k = d.2.1 ∧ ng k = d.1.2.2.2.1 ∧ tb_A s L adr sa ea ac ach ast (k * 3) d.1.2.1.1 d.1.2.1.2 ∧ tb_A s L adr sa ea ac ach ast (k * 3 + 1) d.1.2.2.1.1 d.1.2.2.1.2
  ∧ (d.2.1 = 115 → ev k = d.2.2.1.2.1.2.2.2 ∧ rst k = nI d.2.2.1.2.1.2.1 ∧ ren k = nI (d.2.2.1.2.1.2.1 + d.2.2.1.2.1.2.2.1) ∧ (∀ j, j < d.2.2.1.2.1.2.2.1 → rep (d.2.2.1.2.1.2.1 + j) = tb_c s (tx_p s d.2.2.1.2.1.2.1 j)) ∧ ∃ g, rg_x s L d.2.2.1.2.1.1 = some g ∧ tb_R sa ea ac ach ast (k * 3 + 2) g)
  ∧ ((d.2.1 = 58 ∨ d.2.1 = 98 ∨ d.2.1 = 116) → lst k = nI d.2.2.1.1.1 ∧ lsz k = nI d.2.2.1.1.2)
theorem tb_R_fr {sa ea ac ach ast sa' ea' ac' ach' ast' : Nat → Int32} {j : Nat} {g : Nat × Nat × Nat × Nat × (Nat → Int32) × (Nat → Int32)} (hna : g.2.2.2.1 ≤ 12) (h1 : sa' j = sa j) (h2 : ea' j = ea j) (h3 : ac' j = ac j) (h4 : ∀ x, x < (j + 1) * 12 → j * 12 ≤ x → ach' x = ach x ∧ ast' x = ast x) (h : tb_R sa ea ac ach ast j g) : tb_R sa' ea' ac' ach' ast' j g := by
  obtain ⟨a, b, c, d⟩ := h
  refine ⟨h1.trans a, h2.trans b, h3.trans c, fun i hi => ?_⟩
  have := h4 (j * 12 + i) (by omega) (by omega)
  rw [this.1, this.2]
  exact d i hi
theorem rg_x_12 {q : Nat} {g : Nat × Nat × Nat × Nat × (Nat → Int32) × (Nat → Int32)} (h : rg_x s L q = some g) : g.2.2.2.1 ≤ 12 ∧ (∀ i, g.2.2.2.2.2 i = 0 ∨ g.2.2.2.2.2 i = 1) ∧ g.2.1 ≤ 1 ∧ g.2.2.1 ≤ 1 := by
  unfold rg_x at h
  cases e : tx_n s L q with
  | none => rw [e] at h; exact absurd h (by simp)
  | some n =>
    rw [e] at h
    dsimp only at h
    split at h
    · exact absurd h (by simp)
    · split at h
      · exact absurd h (by simp)
      · rename_i g0 e2
        have t := (Option.some.inj h).symm
        have f := rg_le12 _ _ e2
        rw [t]
        exact ⟨f.1, f.2, rg_A1 s q, rg_B1 s q n⟩
theorem tb_A_fr {adr sa ea ac ach ast adr' sa' ea' ac' ach' ast' : Nat → Int32} {j kd : Nat} {v : Int32} (h0 : adr' j = adr j) (h1 : sa' j = sa j) (h2 : ea' j = ea j) (h3 : ac' j = ac j) (h4 : ∀ x, x < (j + 1) * 12 → j * 12 ≤ x → ach' x = ach x ∧ ast' x = ast x) (h : tb_A s L adr sa ea ac ach ast j kd v) : tb_A s L adr' sa' ea' ac' ach' ast' j kd v := by
  rcases h with ⟨a, b⟩ | ⟨a, b, c⟩ | ⟨a, b⟩ | ⟨a, b, p, g, c0, c, d, e⟩
  · exact Or.inl ⟨a, h0.trans b⟩
  · exact Or.inr (Or.inl ⟨a, h0.trans b, c⟩)
  · exact Or.inr (Or.inr (Or.inl ⟨a, h0.trans b⟩))
  · exact Or.inr (Or.inr (Or.inr ⟨a, h0.trans b, p, g, c0, c, d, tb_R_fr (rg_x_12 d).1 h1 h2 h3 h4 e⟩))
/-- the cells of the commands below k, and the pool below q, are the same -/
def tb_S (k q : Nat) (vb ng ev lst lsz rst ren rep adr sa ea ac ach ast vb' ng' ev' lst' lsz' rst' ren' rep' adr' sa' ea' ac' ach' ast' : Nat → Int32) : Prop :=
  (∀ j, j < k → vb' j = vb j ∧ ng' j = ng j ∧ ev' j = ev j ∧ lst' j = lst j ∧ lsz' j = lsz j ∧ rst' j = rst j ∧ ren' j = ren j) ∧ (∀ j, j < q → rep' j = rep j) ∧ (∀ j, j < k * 3 → adr' j = adr j ∧ sa' j = sa j ∧ ea' j = ea j ∧ ac' j = ac j) ∧ (∀ j, j < k * 36 → ach' j = ach j ∧ ast' j = ast j)
theorem tb_X_fr {vb ng ev lst lsz rst ren rep adr sa ea ac ach ast vb' ng' ev' lst' lsz' rst' ren' rep' adr' sa' ea' ac' ach' ast' : Nat → Int32} {k c q : Nat} {d : (Nat × (Nat × Int32) × (Nat × Int32) × Int32 × Nat) × Int32 × ((Nat × Nat) × (Nat × Nat × Nat × Int32) × Nat) × Nat} (hS : tb_S c q vb ng ev lst lsz rst ren rep adr sa ea ac ach ast vb' ng' ev' lst' lsz' rst' ren' rep' adr' sa' ea' ac' ach' ast') (hk : k < c) (hq : d.2.2.1.2.1.2.1 + d.2.2.1.2.1.2.2.1 ≤ q) (h : tb_X s L vb ng ev lst lsz rst ren rep adr sa ea ac ach ast k d) : tb_X s L vb' ng' ev' lst' lsz' rst' ren' rep' adr' sa' ea' ac' ach' ast' k d := by
  obtain ⟨s1, s2, s3, s4⟩ := hS
  obtain ⟨c1, c2, c3, c4, c5, c6, c7⟩ := s1 k hk
  obtain ⟨h1, h2, h3, h4, h5, h6⟩ := h
  have fr : ∀ j, j < k * 3 + 3 → ∀ x, x < (j + 1) * 12 → j * 12 ≤ x → ach' x = ach x ∧ ast' x = ast x := fun j hj x hx _ => s4 x (by omega)
  have f3 := fun j (hj : j < k * 3 + 3) => s3 j (by omega)
  refine ⟨c1.trans h1, c2.trans h2, ?_, ?_, fun z => ?_, fun z => ?_⟩
  · have a := f3 (k * 3) (by omega)
    exact tb_A_fr a.1 a.2.1 a.2.2.1 a.2.2.2 (fr (k * 3) (by omega)) h3
  · have a := f3 (k * 3 + 1) (by omega)
    exact tb_A_fr a.1 a.2.1 a.2.2.1 a.2.2.2 (fr (k * 3 + 1) (by omega)) h4
  · obtain ⟨e1, e2, e3, e4, g, e5, e6⟩ := h5 z
    have a := f3 (k * 3 + 2) (by omega)
    refine ⟨c3.trans e1, c6.trans e2, c7.trans e3, fun j hj => ?_, g, e5, tb_R_fr (rg_x_12 e5).1 a.2.1 a.2.2.1 a.2.2.2 (fr (k * 3 + 2) (by omega)) e6⟩
    rw [s2 _ (by omega)]
    exact e4 j hj
  · obtain ⟨e1, e2⟩ := h6 z
    exact ⟨c4.trans e1, c5.trans e2⟩
/-- equal labels -/
def lb_E (s : Nat → Int32) (a la b lb : Nat) : Prop := la = lb ∧ ∀ j, j < la → s (a + j) = s (b + j)
theorem lb_sym {a la b lb : Nat} (h : lb_E s a la b lb) : lb_E s b lb a la := ⟨h.1.symm, fun j hj => (h.2 j (by rw [h.1]; exact hj)).symm⟩
end TB_1
