/-! texts, regexes, numbers, addresses, commands: what the script says, as pure functions of its chars s and its length L -/
def tx_nx (s : Nat → Int32) (p : Nat) : Nat := if s p = 92 then p + 2 else p + 1
def tx_p (s : Nat → Int32) (q : Nat) : Nat → Nat
  | 0 => q
  | k + 1 => tx_nx s (tx_p s q k)
def tx_c (s : Nat → Int32) (p : Nat) : Int32 := if s p = 92 then (if s (p + 1) = 110 then 10 else s (p + 1)) else s p
def tx_e (s : Nat → Int32) (p : Nat) : Int32 := if s p = 92 then 1 else 0
/-- X's code of the item at p -/
def tx_k (s : Nat → Int32) (p : Nat) : Int32 := if s p = 92 then tx_c s p + 256 else s p
def tx_go (s : Nat → Int32) (L : Nat) : Nat → Nat → Option Nat
  | 0, _ => none
  | d + 1, p => if L ≤ p ∨ s p = 10 then none else if s p = 47 then some 0 else if s p = 92 ∧ (L ≤ p + 1 ∨ s (p + 1) = 10) then none else (tx_go s L d (tx_nx s p)).map (fun n => n + 1)
/-- the number of items of the text that begins at p; none: the text is bad -/
def tx_n (s : Nat → Int32) (L p : Nat) : Option Nat := tx_go s L (L + 1 - p) p
theorem tx_nx_lt (s : Nat → Int32) (p : Nat) : p < tx_nx s p ∧ tx_nx s p ≤ p + 2 := by
  unfold tx_nx
  split <;> omega
theorem tx_mono (s : Nat → Int32) (L : Nat) : ∀ d d' p, L + 1 - p ≤ d → L + 1 - p ≤ d' → tx_go s L d p = tx_go s L d' p := by
  intro d
  induction d with
  | zero =>
    intro d' p h h'
    cases d' with
    | zero => rfl
    | succ d' => rw [tx_go, tx_go, if_pos (Or.inl (by omega))]
  | succ d ih =>
    intro d' p h h'
    cases d' with
    | zero => rw [tx_go, tx_go, if_pos (Or.inl (by omega))]
    | succ d' =>
      have := tx_nx_lt s p
      rw [tx_go, tx_go, ih d' (tx_nx s p) (by omega) (by omega)]
theorem tx_bad {s : Nat → Int32} {L p : Nat} (h : L ≤ p ∨ s p = 10) : tx_n s L p = none := by
  unfold tx_n
  cases L + 1 - p with
  | zero => rfl
  | succ d => rw [tx_go, if_pos h]
theorem tx_fin {s : Nat → Int32} {L p : Nat} (h : p < L) (h47 : s p = 47) : tx_n s L p = some 0 := by
  unfold tx_n
  obtain ⟨d, hd⟩ : ∃ d, L + 1 - p = d + 1 := ⟨L - p, by omega⟩
  rw [hd, tx_go, if_neg (fun z => z.elim (fun y => by omega) (fun y => by rw [h47] at y; exact absurd y (by decide))), if_pos h47]
theorem tx_bad2 {s : Nat → Int32} {L p : Nat} (h92 : s p = 92) (h : L ≤ p + 1 ∨ s (p + 1) = 10) : tx_n s L p = none := by
  unfold tx_n
  cases L + 1 - p with
  | zero => rfl
  | succ d =>
    rw [tx_go]
    by_cases h0 : L ≤ p ∨ s p = 10
    · rw [if_pos h0]
    · rw [if_neg h0, if_neg (by rw [h92]; decide), if_pos ⟨h92, h⟩]
theorem tx_step {s : Nat → Int32} {L p : Nat} (h : p < L) (h10 : ¬ s p = 10) (h47 : ¬ s p = 47) (h92 : s p = 92 → p + 1 < L ∧ ¬ s (p + 1) = 10) : tx_n s L p = (tx_n s L (tx_nx s p)).map (fun n => n + 1) := by
  unfold tx_n
  obtain ⟨d, hd⟩ : ∃ d, L + 1 - p = d + 1 := ⟨L - p, by omega⟩
  have := tx_nx_lt s p
  rw [hd, tx_go, if_neg (fun z => z.elim (fun y => by omega) h10), if_neg h47, if_neg (by
    intro z
    have := h92 z.1
    rcases z.2 with w | w
    · omega
    · exact this.2 w), tx_mono s L d (L + 1 - tx_nx s p) (tx_nx s p) (by omega) (by omega)]
theorem tx_p_hd (s : Nat → Int32) (q : Nat) : ∀ k, tx_p s q (k + 1) = tx_p s (tx_nx s q) k := by
  intro k
  induction k with
  | zero => rfl
  | succ k ih => rw [tx_p, ih, tx_p]
theorem tx_p_ge (s : Nat → Int32) (q : Nat) : ∀ k, q + k ≤ tx_p s q k := by
  intro k
  induction k with
  | zero => exact Nat.le_refl _
  | succ k ih =>
    have := tx_nx_lt s (tx_p s q k)
    rw [tx_p]
    omega
theorem tx_p_lt (s : Nat → Int32) (q : Nat) {i j : Nat} (h : i < j) : tx_p s q i < tx_p s q j := by
  induction j with
  | zero => omega
  | succ j ih =>
    have := tx_nx_lt s (tx_p s q j)
    rw [tx_p]
    by_cases z : i = j
    · rw [z]; omega
    · have := ih (by omega); omega
/-- what a good text is -/
theorem tx_facts {s : Nat → Int32} {L : Nat} : ∀ n q, tx_n s L q = some n → (∀ k, k < n → tx_p s q k < L ∧ ¬ s (tx_p s q k) = 10 ∧ ¬ s (tx_p s q k) = 47 ∧ (s (tx_p s q k) = 92 → tx_p s q k + 1 < L ∧ ¬ s (tx_p s q k + 1) = 10)) ∧ tx_p s q n < L ∧ s (tx_p s q n) = 47 := by
  intro n
  induction n with
  | zero =>
    intro q h
    refine ⟨fun k hk => absurd hk (by omega), ?_⟩
    show q < L ∧ s q = 47
    by_cases a : L ≤ q ∨ s q = 10
    · rw [tx_bad a] at h; exact absurd h (by simp)
    · by_cases b : s q = 47
      · exact ⟨by omega, b⟩
      · by_cases c : s q = 92 → q + 1 < L ∧ ¬ s (q + 1) = 10
        · rw [tx_step (by omega) (fun z => a (Or.inr z)) b c] at h
          cases e : tx_n s L (tx_nx s q) with
          | none => rw [e] at h; exact absurd h (by simp)
          | some m => rw [e] at h; exact absurd h (by simp)
        · have c1 : s q = 92 := by
            by_cases z : s q = 92
            · exact z
            · exact absurd (fun y => absurd y z) c
          have c2 : L ≤ q + 1 ∨ s (q + 1) = 10 := by
            by_cases z : s (q + 1) = 10
            · exact Or.inr z
            · by_cases y : q + 1 < L
              · exact absurd (fun _ => ⟨y, z⟩) c
              · exact Or.inl (by omega)
          rw [tx_bad2 c1 c2] at h; exact absurd h (by simp)
  | succ n ih =>
    intro q h
    by_cases a : L ≤ q ∨ s q = 10
    · rw [tx_bad a] at h; exact absurd h (by simp)
    · by_cases b : s q = 47
      · rw [tx_fin (by omega) b] at h; exact absurd h (by simp)
      · by_cases c : s q = 92 → q + 1 < L ∧ ¬ s (q + 1) = 10
        · rw [tx_step (by omega) (fun z => a (Or.inr z)) b c] at h
          cases e : tx_n s L (tx_nx s q) with
          | none => rw [e] at h; exact absurd h (by simp)
          | some m =>
            rw [e] at h
            have hm : m = n := by simpa using h
            rw [hm] at e
            obtain ⟨f, g⟩ := ih _ e
            rw [tx_p_hd]
            refine ⟨fun k hk => ?_, g⟩
            cases k with
            | zero => exact ⟨by show q < L; omega, fun z => a (Or.inr z), b, c⟩
            | succ k => rw [tx_p_hd]; exact f k (by omega)
        · have c1 : s q = 92 := by
            by_cases z : s q = 92
            · exact z
            · exact absurd (fun y => absurd y z) c
          have c2 : L ≤ q + 1 ∨ s (q + 1) = 10 := by
            by_cases z : s (q + 1) = 10
            · exact Or.inr z
            · by_cases y : q + 1 < L
              · exact absurd (fun _ => ⟨y, z⟩) c
              · exact Or.inl (by omega)
          rw [tx_bad2 c1 c2] at h; exact absurd h (by simp)
/-- the loop of a text: at item k, position p -/
theorem tx_nx_le {s : Nat → Int32} {L p : Nat} (h : p < L) (h92 : s p = 92 → p + 1 < L) : tx_nx s p ≤ L := by
  unfold tx_nx
  split
  · rename_i z; have := h92 z; omega
  · omega
theorem tx_map0 (o : Option Nat) : o.map (fun n => n + 0) = o := by cases o <;> rfl
theorem tx_mapk (o : Option Nat) (k : Nat) : (o.map (fun n => n + 1)).map (fun n => n + k) = o.map (fun n => n + (k + 1)) := by
  cases o with
  | none => rfl
  | some n => show some (n + 1 + k) = some (n + (k + 1)); congr 1; omega
/-- items are small chars -/
theorem tx_c_ok {s : Nat → Int32} {L p : Nat} (hc : ch_ok s L) (h : p < L) (h92 : s p = 92 → p + 1 < L) : ∃ m : Nat, m < 128 ∧ tx_c s p = nI m := by
  unfold tx_c
  split
  · split
    · exact ⟨10, by omega, rfl⟩
    · rename_i z _; exact hc (p + 1) (h92 z)
  · exact hc p h
theorem tx_k_eq {s : Nat → Int32} {L p : Nat} (hc : ch_ok s L) (h : p < L) (h92 : s p = 92 → p + 1 < L) (c : Nat) (hc2 : c < 128) : tx_k s p = nI c ↔ (tx_e s p = 0 ∧ tx_c s p = nI c) := by
  unfold tx_k tx_e
  split
  · rename_i z
    obtain ⟨m, hm, e⟩ := tx_c_ok hc h h92
    rw [e, show nI m + 256 = nI (m + 256) from nI_add m 256, nI_eq (by omega) (by omega)]
    constructor
    · intro y; omega
    · intro y; exact absurd y.1 (by decide)
  · rename_i z
    rw [show tx_c s p = s p from by unfold tx_c; rw [if_neg z]]
    exact ⟨fun y => ⟨rfl, y⟩, fun y => y.2⟩
theorem tx_k_rem {s : Nat → Int32} {L p : Nat} (hc : ch_ok s L) (h : p < L) (h92 : s p = 92 → p + 1 < L) : tx_k s p - tx_k s p / 256 * 256 = tx_c s p := by
  obtain ⟨m, hm, e⟩ := tx_c_ok hc h h92
  unfold tx_k
  split
  · rw [e, show nI m + 256 = nI (m + 256) from nI_add m 256]
    show nI (m + 256) - nI (m + 256) / nI 256 * nI 256 = nI m
    rw [pk_rem (by omega) (by omega) (by omega)]
    congr 1; omega
  · rename_i z
    have e2 : s p = nI m := by rw [← e]; unfold tx_c; rw [if_neg z]
    rw [e, e2]
    show nI m - nI m / nI 256 * nI 256 = nI m
    rw [pk_rem (by omega) (by omega) (by omega)]
    congr 1; omega
theorem tx_e01 (s : Nat → Int32) (p : Nat) : tx_e s p = 0 ∨ tx_e s p = 1 := by
  unfold tx_e
  split
  · exact Or.inr rfl
  · exact Or.inl rfl
/-! regexes: atoms so far: how many, their chars (-1: any), their stars -/
def rg_s (c e : Int32) (g : Nat × (Nat → Int32) × (Nat → Int32)) : Option (Nat × (Nat → Int32) × (Nat → Int32)) :=
  if e = 0 ∧ c = 42 ∧ 0 < g.1 then (if g.2.2 (g.1 - 1) = 0 then some (g.1, g.2.1, upd g.2.2 (g.1 - 1) 1) else none)
  else if 12 ≤ g.1 then none else some (g.1 + 1, upd g.2.1 g.1 (if e = 0 ∧ c = 46 then -1 else c), upd g.2.2 g.1 0)
def rg_f (s : Nat → Int32) (q a : Nat) : Nat → Option (Nat × (Nat → Int32) × (Nat → Int32))
  | 0 => some (0, fun _ => 0, fun _ => 0)
  | m + 1 => (rg_f s q a m).bind (rg_s (tx_c s (tx_p s q (a + m))) (tx_e s (tx_p s q (a + m))))
def rg_A (s : Nat → Int32) (q : Nat) : Nat := if tx_e s q = 0 ∧ tx_c s q = 94 then 1 else 0
def rg_B (s : Nat → Int32) (q n : Nat) : Nat := if tx_e s (tx_p s q (n - 1)) = 0 ∧ tx_c s (tx_p s q (n - 1)) = 36 then 1 else 0
/-- the regex whose text begins at q: its end, its anchors, its atoms -/
def rg_x (s : Nat → Int32) (L q : Nat) : Option (Nat × Nat × Nat × Nat × (Nat → Int32) × (Nat → Int32)) :=
  match tx_n s L q with
  | none => none
  | some n => if n = 0 then none else match rg_f s q (rg_A s q) (n - rg_B s q n - rg_A s q) with
    | none => none
    | some g => some (tx_p s q n + 1, rg_A s q, rg_B s q n, g.1, g.2.1, g.2.2)
theorem rg_none {s : Nat → Int32} {q a m : Nat} (h : rg_f s q a m = none) : ∀ d, rg_f s q a (m + d) = none := by
  intro d
  induction d with
  | zero => exact h
  | succ d ih => rw [← Nat.add_assoc, rg_f, ih]; rfl
theorem rg_le12 {s : Nat → Int32} {q a : Nat} : ∀ m g, rg_f s q a m = some g → g.1 ≤ 12 ∧ (∀ i, g.2.2 i = 0 ∨ g.2.2 i = 1) := by
  intro m
  induction m with
  | zero =>
    intro g h
    have h' : some (0, (fun _ => 0), (fun _ => 0)) = some g := h
    have : g = (0, fun _ => 0, fun _ => 0) := (Option.some.inj h').symm
    rw [this]
    exact ⟨by omega, fun i => Or.inl rfl⟩
  | succ m ih =>
    intro g h
    rw [rg_f] at h
    cases e : rg_f s q a m with
    | none => rw [e] at h; exact absurd h (by simp)
    | some g0 =>
      rw [e] at h
      have h : rg_s (tx_c s (tx_p s q (a + m))) (tx_e s (tx_p s q (a + m))) g0 = some g := h
      obtain ⟨i1, i2⟩ := ih g0 e
      unfold rg_s at h
      split at h
      · split at h
        · have : g = (g0.1, g0.2.1, upd g0.2.2 (g0.1 - 1) 1) := (Option.some.inj h).symm
          rw [this]
          refine ⟨i1, fun i => ?_⟩
          show upd g0.2.2 (g0.1 - 1) 1 i = 0 ∨ upd g0.2.2 (g0.1 - 1) 1 i = 1
          unfold upd
          split
          · exact Or.inr rfl
          · exact i2 i
        · exact absurd h (by simp)
      · split at h
        · exact absurd h (by simp)
        · have : g = (g0.1 + 1, upd g0.2.1 g0.1 (if tx_e s (tx_p s q (a + m)) = 0 ∧ tx_c s (tx_p s q (a + m)) = 46 then -1 else tx_c s (tx_p s q (a + m))), upd g0.2.2 g0.1 0) := (Option.some.inj h).symm
          rw [this]
          refine ⟨by show g0.1 + 1 ≤ 12; omega, fun i => ?_⟩
          show upd g0.2.2 g0.1 0 i = 0 ∨ upd g0.2.2 g0.1 0 i = 1
          unfold upd
          split
          · exact Or.inl rfl
          · exact i2 i
theorem rg_A1 (s : Nat → Int32) (q : Nat) : rg_A s q ≤ 1 := by unfold rg_A; split <;> omega
theorem rg_B1 (s : Nat → Int32) (q n : Nat) : rg_B s q n ≤ 1 := by unfold rg_B; split <;> omega
theorem rg_AB {s : Nat → Int32} {q n : Nat} (h : 0 < n) : rg_A s q + rg_B s q n ≤ n := by
  by_cases z : n = 1
  · subst z
    unfold rg_A rg_B
    show (if _ then 1 else 0) + (if tx_e s q = 0 ∧ tx_c s q = 36 then 1 else 0) ≤ 1
    split
    · rename_i y
      rw [if_neg (by rw [y.2]; intro w; exact absurd w.2 (by decide))]
      omega
    · split <;> omega
  · have := rg_A1 s q
    have := rg_B1 s q n
    omega
