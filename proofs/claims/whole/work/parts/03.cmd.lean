/-! numbers, addresses, commands -/
def nu_v (s : Nat → Int32) (q : Nat) : Nat → Int32
  | 0 => 0
  | k + 1 => nu_v s q k * 10 + s (q + k) - 48
/-- the number at q: its value and its end -/
def nu_x (s : Nat → Int32) (L q : Nat) : Option (Int32 × Nat) :=
  if sc_e (pb_d s) L q - q ≤ 3 ∧ 1 ≤ nu_v s q (sc_e (pb_d s) L q - q) ∧ nu_v s q (sc_e (pb_d s) L q - q) ≤ 255 then some (nu_v s q (sc_e (pb_d s) L q - q), sc_e (pb_d s) L q) else none
/-- the address at q: its kind (1 number, 2 last line, 3 regex), its value, its end -/
def ad_x (s : Nat → Int32) (L q : Nat) : Option (Nat × Int32 × Nat) :=
  if L ≤ q then none
  else if s q = 36 then some (2, 0, q + 1)
  else if s q = 47 then (rg_x s L (q + 1)).map (fun r => (3, nI (q + 1), r.1))
  else if pb_d s q = true then (nu_x s L q).map (fun r => (1, r.1, r.2))
  else none
def cm_sk (s : Nat → Int32) (L q : Nat) : Nat := sc_e (pb_b s) L q
def cm_g (s : Nat → Int32) (L q : Nat) : Int32 := if q < L ∧ s q = 33 then 1 else 0
def cm_h (s : Nat → Int32) (L q : Nat) : Nat := if q < L ∧ s q = 33 then cm_sk s L (q + 1) else q
/-- the address part at q: how many, the first, the second (kind and value), negated, its end -/
def cm_a (s : Nat → Int32) (L q : Nat) : Option (Nat × (Nat × Int32) × (Nat × Int32) × Int32 × Nat) :=
  if q < L ∧ (pb_d s q = true ∨ s q = 36 ∨ s q = 47) then
    (ad_x s L q).bind (fun a =>
      if cm_sk s L a.2.2 < L ∧ s (cm_sk s L a.2.2) = 44 then
        (ad_x s L (cm_sk s L (cm_sk s L a.2.2 + 1))).map (fun b => (2, (a.1, a.2.1), (b.1, b.2.1), cm_g s L (cm_sk s L b.2.2), cm_h s L (cm_sk s L b.2.2)))
      else some (1, (a.1, a.2.1), (0, 0), cm_g s L (cm_sk s L a.2.2), cm_h s L (cm_sk s L a.2.2)))
  else some (0, (0, 0), (0, 0), 0, q)
/-- the s command whose '/' lies at q: its regex' text, its replacement's text, the replacement's items, g, its end -/
def cm_s (s : Nat → Int32) (L q : Nat) : Option (Nat × Nat × Nat × Int32 × Nat) :=
  if q < L ∧ s q = 47 then
    (rg_x s L (q + 1)).bind (fun r => (tx_n s L r.1).map (fun n =>
      (q + 1, r.1, n, (if tx_p s r.1 n + 1 < L ∧ s (tx_p s r.1 n + 1) = 103 then (1 : Int32) else 0), (if tx_p s r.1 n + 1 < L ∧ s (tx_p s r.1 n + 1) = 103 then tx_p s r.1 n + 2 else tx_p s r.1 n + 1))))
  else none
def cm_ls (s : Nat → Int32) (L q : Nat) : Nat := cm_sk s L q
def cm_le (s : Nat → Int32) (L q : Nat) : Nat := sc_e (pb_l s) L (cm_sk s L q)
def cm_v (c : Int32) : Bool := decide (c = 100 ∨ c = 112 ∨ c = 78 ∨ c = 104 ∨ c = 72 ∨ c = 103 ∨ c = 71 ∨ c = 120)
/-- what stands behind the address part (n addresses) at q: (label's start, label's size), the s command's parts, end -/
def cm_b (s : Nat → Int32) (L n q : Nat) : Option ((Nat × Nat) × (Nat × Nat × Nat × Int32) × Nat) :=
  if L ≤ q then none
  else if s q = 115 then (cm_s s L (q + 1)).map (fun r => ((0, 0), (r.1, r.2.1, r.2.2.1, r.2.2.2.1), r.2.2.2.2))
  else if s q = 58 ∨ s q = 98 ∨ s q = 116 then
    (if (s q = 58 ∧ 0 < n) ∨ 8 < cm_le s L (q + 1) - cm_ls s L (q + 1) ∨ (s q = 58 ∧ cm_le s L (q + 1) - cm_ls s L (q + 1) < 1) then none
     else some ((cm_ls s L (q + 1), cm_le s L (q + 1) - cm_ls s L (q + 1)), (0, 0, 0, 0), cm_le s L (q + 1)))
  else if cm_v (s q) = true then some ((0, 0), (0, 0, 0, 0), q + 1)
  else none
/-- the command at q: its address part, its char, the rest, its end (where a separator or the script's end stands) -/
def cm_x (s : Nat → Int32) (L q : Nat) : Option ((Nat × (Nat × Int32) × (Nat × Int32) × Int32 × Nat) × Int32 × ((Nat × Nat) × (Nat × Nat × Nat × Int32) × Nat) × Nat) :=
  (cm_a s L q).bind (fun a => (cm_b s L a.1 a.2.2.2.2).bind (fun b =>
    if cm_sk s L b.2.2 < L ∧ ¬ s (cm_sk s L b.2.2) = 59 ∧ ¬ s (cm_sk s L b.2.2) = 10 then none
    else some (a, s a.2.2.2.2, b, cm_sk s L b.2.2)))
theorem cm_sk_f {s : Nat → Int32} {L q : Nat} (h : q ≤ L) : q ≤ cm_sk s L q ∧ cm_sk s L q ≤ L := ⟨(sc_facts h).1, (sc_facts h).2.1⟩
theorem cm_h_f {s : Nat → Int32} {L q : Nat} (h : q ≤ L) : q ≤ cm_h s L q ∧ cm_h s L q ≤ L := by
  unfold cm_h
  split
  · rename_i z
    have := cm_sk_f (s := s) (show q + 1 ≤ L by omega)
    omega
  · omega
theorem cm_g01 (s : Nat → Int32) (L q : Nat) : cm_g s L q = 0 ∨ cm_g s L q = 1 := by
  unfold cm_g
  split
  · exact Or.inr rfl
  · exact Or.inl rfl
theorem rg_x_f {s : Nat → Int32} {L q : Nat} {r : Nat × Nat × Nat × Nat × (Nat → Int32) × (Nat → Int32)} (h : rg_x s L q = some r) : q < r.1 ∧ r.1 ≤ L := by
  unfold rg_x at h
  cases e : tx_n s L q with
  | none => rw [e] at h; exact absurd h (by simp)
  | some n =>
    rw [e] at h
    have f := tx_facts n q e
    have g := tx_p_ge s q n
    dsimp only at h
    split at h
    · exact absurd h (by simp)
    · split at h
      · exact absurd h (by simp)
      · have := (Option.some.inj h).symm
        rw [this]
        dsimp only
        omega
theorem ad_x_f {s : Nat → Int32} {L q : Nat} {r : Nat × Int32 × Nat} (h : ad_x s L q = some r) : q < r.2.2 ∧ r.2.2 ≤ L := by
  unfold ad_x at h
  split at h
  · exact absurd h (by simp)
  · split at h
    · have := (Option.some.inj h).symm
      rw [this]; dsimp only; omega
    · split at h
      · cases e : rg_x s L (q + 1) with
        | none => rw [e] at h; exact absurd h (by simp)
        | some r' =>
          rw [e] at h
          have := (Option.some.inj h).symm
          have f := rg_x_f e
          rw [this]; dsimp only; omega
      · split at h
        · rename_i z
          cases e : nu_x s L q with
          | none => rw [e] at h; exact absurd h (by simp)
          | some r' =>
            rw [e] at h
            have t := (Option.some.inj h).symm
            unfold nu_x at e
            split at e
            · have e2 := (Option.some.inj e).symm
              have f := sc_facts (P := pb_d s) (L := L) (q := q) (by omega)
              have g := sc_go (P := pb_d s) (L := L) (q := q) (by omega) z
              have f2 := sc_facts (P := pb_d s) (L := L) (q := q + 1) (by omega)
              rw [t, e2]
              dsimp only
              omega
            · exact absurd e (by simp)
        · exact absurd h (by simp)
theorem cm_a_f {s : Nat → Int32} {L q : Nat} {r : Nat × (Nat × Int32) × (Nat × Int32) × Int32 × Nat} (hq : q ≤ L) (h : cm_a s L q = some r) : q ≤ r.2.2.2.2 ∧ r.2.2.2.2 ≤ L := by
  unfold cm_a at h
  split at h
  · cases e : ad_x s L q with
    | none => rw [e] at h; exact absurd h (by simp)
    | some a =>
      rw [e] at h
      have fa := ad_x_f e
      have f1 := cm_sk_f (s := s) fa.2
      dsimp only [Option.bind] at h
      split at h
      · rename_i z
        have f2 := cm_sk_f (s := s) (show cm_sk s L a.2.2 + 1 ≤ L by omega)
        cases e2 : ad_x s L (cm_sk s L (cm_sk s L a.2.2 + 1)) with
        | none => rw [e2] at h; exact absurd h (by simp)
        | some b =>
          rw [e2] at h
          have t := (Option.some.inj h).symm
          have fb := ad_x_f e2
          have f3 := cm_sk_f (s := s) fb.2
          have f4 := cm_h_f (s := s) f3.2
          rw [t]; dsimp only; omega
      · have t := (Option.some.inj h).symm
        have f4 := cm_h_f (s := s) f1.2
        rw [t]; dsimp only; omega
  · have t := (Option.some.inj h).symm
    rw [t]; dsimp only; omega
theorem cm_le_f {s : Nat → Int32} {L q : Nat} (h : q ≤ L) : q ≤ cm_ls s L q ∧ cm_ls s L q ≤ cm_le s L q ∧ cm_le s L q ≤ L := by
  have f := cm_sk_f (s := s) h
  have g := sc_facts (P := pb_l s) f.2
  unfold cm_ls cm_le
  omega
theorem cm_s_f {s : Nat → Int32} {L q : Nat} {r : Nat × Nat × Nat × Int32 × Nat} (h : cm_s s L q = some r) : r.1 = q + 1 ∧ q + 1 < r.2.1 ∧ r.2.1 + r.2.2.1 < r.2.2.2.2 ∧ r.2.2.2.2 ≤ L ∧ (r.2.2.2.1 = 0 ∨ r.2.2.2.1 = 1) ∧ tx_n s L r.2.1 = some r.2.2.1 ∧ ∃ g, rg_x s L r.1 = some g := by
  unfold cm_s at h
  split at h
  · cases e : rg_x s L (q + 1) with
    | none => rw [e] at h; exact absurd h (by simp)
    | some g =>
      rw [e] at h
      dsimp only [Option.bind] at h
      cases e2 : tx_n s L g.1 with
      | none => rw [e2] at h; exact absurd h (by simp)
      | some n =>
        rw [e2] at h
        have t := (Option.some.inj h).symm
        have f := rg_x_f e
        have f2 := tx_facts n g.1 e2
        have f3 := tx_p_ge s g.1 n
        rw [t]
        dsimp only
        refine ⟨rfl, f.1, ?_, ?_, ?_, e2, g, e⟩
        · split <;> omega
        · split <;> omega
        · split
          · exact Or.inr rfl
          · exact Or.inl rfl
  · exact absurd h (by simp)
theorem cm_b_f {s : Nat → Int32} {L n q : Nat} {r : (Nat × Nat) × (Nat × Nat × Nat × Int32) × Nat} (h : cm_b s L n q = some r) : q < r.2.2 ∧ r.2.2 ≤ L := by
  unfold cm_b at h
  split at h
  · exact absurd h (by simp)
  · split at h
    · cases e : cm_s s L (q + 1) with
      | none => rw [e] at h; exact absurd h (by simp)
      | some g =>
        rw [e] at h
        have t := (Option.some.inj h).symm
        have f := cm_s_f e
        rw [t]; dsimp only; omega
    · split at h
      · split at h
        · exact absurd h (by simp)
        · have t := (Option.some.inj h).symm
          have f := cm_le_f (s := s) (show q + 1 ≤ L by omega)
          rw [t]; dsimp only; omega
      · split at h
        · have t := (Option.some.inj h).symm
          rw [t]; dsimp only; omega
        · exact absurd h (by simp)
