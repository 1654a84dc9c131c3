section
-- part 01: rows taken from kit/rows (stores, numbers, branches, bits), then scans
theorem pk_us {f : Nat → Int32} {k : Nat} {x : Int32} : upd f k x k = x := if_pos rfl
theorem pk_un {f : Nat → Int32} {k j : Nat} {x : Int32} (h : j ≠ k) : upd f k x j = f j := if_neg h
theorem pk_sub {a b : Nat} (h : b ≤ a) : nI a - nI b = nI (a - b) := by
  obtain ⟨c, rfl⟩ : ∃ c, a = c + b := ⟨a - b, by omega⟩
  rw [← nI_add, Int32.add_sub_cancel, Nat.add_sub_cancel]
theorem pk_m1 (n : Nat) : nI (n + 1) + (-1) = nI n := by
  rw [← nI_1, Int32.add_assoc, show (1 : Int32) + (-1) = 0 from rfl, Int32.add_zero]
theorem pk_mul (a b : Nat) : nI a * nI b = nI (a * b) := (Int32.ofNat_mul a b).symm
theorem pk_div {a d : Nat} (ha : a < 2 ^ 31) (h0 : 0 < d) (hd : d < 2 ^ 31) : nI a / nI d = nI (a / d) := by
  apply Int32.toInt_inj.mp
  rw [lg_idiv_nonneg (by rw [nI_toInt ha]; omega) (by rw [nI_toInt hd]; omega), nI_toInt ha, nI_toInt hd, nI_toInt (Nat.lt_of_le_of_lt (Nat.div_le_self a d) ha)]
  first | rfl | exact (Int.natCast_ediv _ _).symm
theorem pk_rem {a d : Nat} (ha : a < 2 ^ 31) (h0 : 0 < d) (hd : d < 2 ^ 31) : nI a - nI a / nI d * nI d = nI (a % d) := by
  rw [pk_div ha h0 hd, pk_mul, pk_sub (Nat.div_mul_le_self a d)]
  exact congrArg nI (by have := Nat.div_add_mod' a d; omega)
theorem pk_sub_toInt {a b : Nat} (ha : a < 2 ^ 30) (hb : b < 2 ^ 30) : (nI a - nI b).toInt = (a : Int) - b := by
  rw [Int32.toInt_sub, nI_toInt (by omega), nI_toInt (by omega)]
  exact Int.bmod_eq_of_le (by omega) (by omega)
theorem pk_sneg {a b : Nat} (hb : b < 2 ^ 30) (h : a < b) : nI a - nI b < 0 := by
  rw [Int32.lt_iff_toInt_lt, pk_sub_toInt (by omega) hb, show (0 : Int32).toInt = 0 from by decide]
  omega
theorem pk_ix (x : Int32) {n : Nat} (hn : n < 2 ^ 31) : x < 0 ∨ nI n ≤ x ∨ ∃ j : Nat, j < n ∧ x = nI j := by
  by_cases h : x < 0
  · exact Or.inl h
  · obtain ⟨j, hj, rfl⟩ := nI_of h
    by_cases h2 : j < n
    · exact Or.inr (Or.inr ⟨j, h2, rfl⟩)
    · exact Or.inr (Or.inl (nI_le (by omega) hj))
theorem pk_le {x y : Int32} {A B : Prop} (a b : Nat) (f : a ≤ b → A) (g : b < a → B) (hx : x = nI a := by rfl) (hy : y = nI b := by rfl) (ha : a < 2 ^ 31 := by omega) (hb : b < 2 ^ 31 := by omega) : (x ≤ y → A) ∧ (¬ x ≤ y → B) := by
  subst hx hy
  rw [nI_leI ha hb]
  exact ⟨f, fun z => g (by omega)⟩
theorem pk_lt {x y : Int32} {A B : Prop} (a b : Nat) (f : a < b → A) (g : b ≤ a → B) (hx : x = nI a := by rfl) (hy : y = nI b := by rfl) (ha : a < 2 ^ 31 := by omega) (hb : b < 2 ^ 31 := by omega) : (x < y → A) ∧ (¬ x < y → B) := by
  subst hx hy
  rw [nI_ltI ha hb]
  exact ⟨f, fun z => g (by omega)⟩
theorem pk_eq {x y : Int32} {A B : Prop} (a b : Nat) (f : a = b → A) (g : a ≠ b → B) (hx : x = nI a := by rfl) (hy : y = nI b := by rfl) (ha : a < 2 ^ 31 := by omega) (hb : b < 2 ^ 31 := by omega) : (x = y → A) ∧ (¬ x = y → B) := by
  subst hx hy
  rw [nI_eq ha hb]
  exact ⟨f, g⟩
theorem pk_in {x : Int32} (n N : Nat) (h : n < N) (hx : x = nI n := by rfl) (hN : N < 2 ^ 31 := by omega) : vp_in x N := by
  subst hx
  exact vp_in_nI h hN
theorem pk_cl {x : Int32} (n : Nat) (hx : x = nI n := by rfl) (h : n < 2 ^ 31 := by omega) : x.toNatClampNeg = n := by
  subst hx
  exact nI_clamp h
theorem pk_tn {n : Nat} (h : n < 2 ^ 32) : (nI n).toBitVec.toNat = n := Nat.mod_eq_of_lt h
def bt (x : Int32) (i : Nat) : Bool := x.toBitVec.getLsbD i
theorem b_ext {x y : Int32} (h : ∀ i, i < 32 → bt x i = bt y i) : x = y := Int32.toBitVec_inj.mp (BitVec.eq_of_getLsbD_eq (fun i hi => h i hi))
theorem b_or (x y : Int32) (i : Nat) : bt (x ||| y) i = (bt x i || bt y i) := by unfold bt; rw [Int32.toBitVec_or, BitVec.getLsbD_or]
theorem b_and (x y : Int32) (i : Nat) : bt (x &&& y) i = (bt x i && bt y i) := by unfold bt; rw [Int32.toBitVec_and, BitVec.getLsbD_and]
theorem b_xor (x y : Int32) (i : Nat) : bt (x ^^^ y) i = (bt x i ^^ bt y i) := by unfold bt; rw [Int32.toBitVec_xor, BitVec.getLsbD_xor]
theorem b_big {x : Int32} {i : Nat} (h : 32 ≤ i) : bt x i = false := BitVec.getLsbD_of_ge _ _ h
theorem b_255 (i : Nat) : bt 255 i = decide (i < 8) := by
  rcases Nat.lt_or_ge i 32 with h | h
  · exact (by decide +kernel : ∀ i, i < 32 → bt 255 i = decide (i < 8)) i h
  · rw [b_big h, decide_eq_false (by omega)]
theorem b_65535 (i : Nat) : bt 65535 i = decide (i < 16) := by
  rcases Nat.lt_or_ge i 32 with h | h
  · exact (by decide +kernel : ∀ i, i < 32 → bt 65535 i = decide (i < 16)) i h
  · rw [b_big h, decide_eq_false (by omega)]
theorem b_m1 : ∀ i, i < 32 → bt (-1) i = true := by decide +kernel
theorem b_0 (i : Nat) : bt 0 i = false := BitVec.getLsbD_zero
theorem s_l : ∀ n, n < 32 → ((nI n &&& 31).toBitVec.smod 32).toNat = n := by decide +kernel
theorem s_u : ∀ n, n < 32 → (((nI n).toUInt32 &&& Int32.toUInt32 31).toBitVec % 32).toNat = n := by decide +kernel
theorem b_shl (n : Nat) (hn : n < 32) (x : Int32) {i : Nat} (hi : i < 32) : bt (x <<< (nI n &&& 31)) i = (decide (n ≤ i) && bt x (i - n)) := by
  unfold bt
  rw [Int32.toBitVec_shiftLeft]
  show (x.toBitVec <<< ((nI n &&& 31).toBitVec.smod 32).toNat).getLsbD i = _
  rw [s_l n hn, BitVec.getLsbD_shiftLeft]
  rcases Nat.lt_or_ge i n with h | h
  · simp [h, Nat.not_le.mpr h]
  · simp [hi, h, Nat.not_lt.mpr h]
theorem b_ushr (n : Nat) (hn : n < 32) (x : Int32) (i : Nat) : bt ((x.toUInt32 >>> ((nI n).toUInt32 &&& Int32.toUInt32 31)).toInt32) i = bt x (n + i) := by
  show (x.toUInt32 >>> ((nI n).toUInt32 &&& Int32.toUInt32 31)).toBitVec.getLsbD i = x.toUInt32.toBitVec.getLsbD (n + i)
  rw [UInt32.toBitVec_shiftRight]
  show (x.toUInt32.toBitVec >>> (((nI n).toUInt32 &&& Int32.toUInt32 31).toBitVec % 32).toNat).getLsbD i = _
  rw [s_u n hn, BitVec.getLsbD_ushiftRight]
theorem b_sshr (n : Nat) (hn : n < 32) (x : Int32) {i : Nat} (hi : i < 32) : bt (x >>> (nI n &&& 31)) i = if n + i < 32 then bt x (n + i) else bt x 31 := by
  unfold bt
  rw [Int32.toBitVec_shiftRight]
  show (x.toBitVec.sshiftRight ((nI n &&& 31).toBitVec.smod 32).toNat).getLsbD i = _
  rw [s_l n hn, BitVec.getLsbD_sshiftRight, BitVec.msb_eq_getLsbD_last]
  simp [hi]
theorem b_shl8 (x : Int32) {i : Nat} (hi : i < 32) : bt (x <<< ((8 : Int32) &&& 31)) i = (decide (8 ≤ i) && bt x (i - 8)) := b_shl 8 (by omega) x hi
theorem b_shl16 (x : Int32) {i : Nat} (hi : i < 32) : bt (x <<< ((16 : Int32) &&& 31)) i = (decide (16 ≤ i) && bt x (i - 16)) := b_shl 16 (by omega) x hi
/-! scans: from q on, as long as P holds, not beyond L -/
theorem ba_vb0 : vp_nar .boolean 0 = 0 := rfl
theorem ba_vb1 : vp_nar .boolean 1 = 1 := rfl
theorem ba_nb0 : narrow .boolean (.int 0) = .int 0 := rfl
theorem ba_nb1 : narrow .boolean (.int 1) = .int 1 := rfl
theorem ba_nb {z : Int32} (h : z = 0 ∨ z = 1) : narrow .boolean (.int z) = .int z := by
  rcases h with rfl | rfl <;> rfl
theorem ba_vb {z : Int32} (h : z = 0 ∨ z = 1) : vp_nar .boolean z = z := by
  rcases h with rfl | rfl <;> rfl
theorem ba_fb {z : Int32} (h : z = 0 ∨ z = 1) : fits .boolean (.int z) = true := by
  rcases h with rfl | rfl <;> rfl
def sc_to (P : Nat → Bool) : Nat → Nat → Nat
  | 0, q => q
  | d + 1, q => if P q = true then sc_to P d (q + 1) else q
def sc_e (P : Nat → Bool) (L q : Nat) : Nat := sc_to P (L - q) q
theorem sc_go {P : Nat → Bool} {L q : Nat} (h : q < L) (hp : P q = true) : sc_e P L q = sc_e P L (q + 1) := by
  unfold sc_e
  obtain ⟨d, hd⟩ : ∃ d, L - q = d + 1 := ⟨L - q - 1, by omega⟩
  rw [hd, show L - (q + 1) = d from by omega, sc_to, if_pos hp]
theorem sc_st {P : Nat → Bool} {L q : Nat} (h : q < L → P q = false) : sc_e P L q = q := by
  unfold sc_e
  rcases Nat.lt_or_ge q L with g | g
  · obtain ⟨d, hd⟩ : ∃ d, L - q = d + 1 := ⟨L - q - 1, by omega⟩
    rw [hd, sc_to, if_neg (by rw [h g]; exact Bool.false_ne_true)]
  · rw [show L - q = 0 from by omega, sc_to]
theorem sc_ind {P : Nat → Bool} {L : Nat} (M : Nat → Nat → Prop) (h1 : ∀ q, q ≤ L → (q < L → P q = false) → M q q) (h2 : ∀ q e, q < L → P q = true → M (q + 1) e → M q e) : ∀ d q, q ≤ L → L - q = d → M q (sc_e P L q) := by
  intro d
  induction d with
  | zero =>
    intro q hq hd
    rw [sc_st (fun h => absurd h (by omega))]
    exact h1 q hq (fun h => absurd h (by omega))
  | succ d ih =>
    intro q hq hd
    cases hp : P q
    · rw [sc_st (fun _ => hp)]
      exact h1 q hq (fun _ => hp)
    · rw [sc_go (by omega) hp]
      exact h2 q _ (by omega) hp (ih (q + 1) (by omega) (by omega))
theorem sc_loop (W : Nat → Nat → Prop) (P : Nat → Bool) (L : Nat) (R : Nat → Prop) (hs : ∀ n q, q < L → P q = true → W n (q + 1) → W (n + 1) q) (hx : ∀ n q, q ≤ L → (q < L → P q = false) → R q → W (n + 1) q) : ∀ n q, q ≤ L → L - q < n → R (sc_e P L q) → W n q := by
  intro n
  induction n with
  | zero => intro q _ h; omega
  | succ n ih =>
    intro q hq hn hR
    rcases Nat.lt_or_ge q L with g | g
    · cases hp : P q
      · rw [sc_st (fun _ => hp)] at hR
        exact hx n q hq (fun _ => hp) hR
      · rw [sc_go g hp] at hR
        exact hs n q g hp (ih (q + 1) (by omega) (by omega) hR)
    · rw [sc_st (fun h => absurd h (by omega))] at hR
      exact hx n q hq (fun h => absurd h (by omega)) hR
theorem sc_facts {P : Nat → Bool} {L q : Nat} (hq : q ≤ L) : q ≤ sc_e P L q ∧ sc_e P L q ≤ L ∧ (∀ j, q ≤ j → j < sc_e P L q → P j = true) ∧ (sc_e P L q < L → P (sc_e P L q) = false) := by
  refine sc_ind (P := P) (L := L) (fun q e => q ≤ e ∧ e ≤ L ∧ (∀ j, q ≤ j → j < e → P j = true) ∧ (e < L → P e = false)) ?_ ?_ (L - q) q hq rfl
  · intro q hq h
    exact ⟨Nat.le_refl _, hq, fun j a b => absurd b (by omega), h⟩
  · intro q e hq hp h
    refine ⟨by omega, h.2.1, fun j a b => ?_, h.2.2.2⟩
    by_cases z : j = q
    · rw [z]; exact hp
    · exact h.2.2.1 j (by omega) b
theorem sc_le {P : Nat → Bool} {L q : Nat} (hq : q ≤ L) : sc_e P L q ≤ L := (sc_facts hq).2.1
theorem sc_ge {P : Nat → Bool} {L q : Nat} (hq : q ≤ L) : q ≤ sc_e P L q := (sc_facts hq).1
/-- a chars' array: below L every char is a small number -/
def ch_ok (s : Nat → Int32) (L : Nat) : Prop := ∀ i, i < L → ∃ m : Nat, m < 128 ∧ s i = nI m
def pb_b (s : Nat → Int32) (i : Nat) : Bool := decide (s i = 32)
def pb_z (s : Nat → Int32) (i : Nat) : Bool := decide (s i = 32 ∨ s i = 59 ∨ s i = 10)
def pb_d (s : Nat → Int32) (i : Nat) : Bool := decide (48 ≤ s i ∧ s i ≤ 57)
def pb_l (s : Nat → Int32) (i : Nat) : Bool := decide ((65 ≤ s i ∧ s i ≤ 90) ∨ (97 ≤ s i ∧ s i ≤ 122) ∨ (48 ≤ s i ∧ s i ≤ 57) ∨ s i = 95)
def pb_n (s : Nat → Int32) (i : Nat) : Bool := decide (¬ s i = 10)
end
section
/-! texts, regexes, numbers, addresses, commands: what the script says, as pure functions of its chars s and its length L -/
def tx_nx (s : Nat → Int32) (p : Nat) : Nat := if s p = 92 then p + 2 else p + 1
def tx_p (s : Nat → Int32) (q : Nat) : Nat → Nat
  | 0 => q
  | k + 1 => tx_nx s (tx_p s q k)
def tx_c (s : Nat → Int32) (p : Nat) : Int32 := if s p = 92 then (if s (p + 1) = 110 then 10 else s (p + 1)) else s p
def tx_e (s : Nat → Int32) (p : Nat) : Int32 := if s p = 92 then 1 else 0
/-- X's code of the item at p -/
def tx_k (s : Nat → Int32) (p : Nat) : Int32 := if s p = 92 then tx_c s p + 256 else s p
def tx_go (s : Nat → Int32) (L : Nat) : Nat → Nat → Option Nat
  | 0, _ => none
  | d + 1, p => if L ≤ p ∨ s p = 10 then none else if s p = 47 then some 0 else if s p = 92 ∧ (L ≤ p + 1 ∨ s (p + 1) = 10) then none else (tx_go s L d (tx_nx s p)).map (fun n => n + 1)
/-- the number of items of the text that begins at p; none: the text is bad -/
def tx_n (s : Nat → Int32) (L p : Nat) : Option Nat := tx_go s L (L + 1 - p) p
theorem tx_nx_lt (s : Nat → Int32) (p : Nat) : p < tx_nx s p ∧ tx_nx s p ≤ p + 2 := by
  unfold tx_nx
  split <;> omega
theorem tx_mono (s : Nat → Int32) (L : Nat) : ∀ d d' p, L + 1 - p ≤ d → L + 1 - p ≤ d' → tx_go s L d p = tx_go s L d' p := by
  intro d
  induction d with
  | zero =>
    intro d' p h h'
    cases d' with
    | zero => rfl
    | succ d' => rw [tx_go, tx_go, if_pos (Or.inl (by omega))]
  | succ d ih =>
    intro d' p h h'
    cases d' with
    | zero => rw [tx_go, tx_go, if_pos (Or.inl (by omega))]
    | succ d' =>
      have := tx_nx_lt s p
      rw [tx_go, tx_go, ih d' (tx_nx s p) (by omega) (by omega)]
theorem tx_bad {s : Nat → Int32} {L p : Nat} (h : L ≤ p ∨ s p = 10) : tx_n s L p = none := by
  unfold tx_n
  cases L + 1 - p with
  | zero => rfl
  | succ d => rw [tx_go, if_pos h]
theorem tx_fin {s : Nat → Int32} {L p : Nat} (h : p < L) (h47 : s p = 47) : tx_n s L p = some 0 := by
  unfold tx_n
  obtain ⟨d, hd⟩ : ∃ d, L + 1 - p = d + 1 := ⟨L - p, by omega⟩
  rw [hd, tx_go, if_neg (fun z => z.elim (fun y => by omega) (fun y => by rw [h47] at y; exact absurd y (by decide))), if_pos h47]
theorem tx_bad2 {s : Nat → Int32} {L p : Nat} (h92 : s p = 92) (h : L ≤ p + 1 ∨ s (p + 1) = 10) : tx_n s L p = none := by
  unfold tx_n
  cases L + 1 - p with
  | zero => rfl
  | succ d =>
    rw [tx_go]
    by_cases h0 : L ≤ p ∨ s p = 10
    · rw [if_pos h0]
    · rw [if_neg h0, if_neg (by rw [h92]; decide), if_pos ⟨h92, h⟩]
theorem tx_step {s : Nat → Int32} {L p : Nat} (h : p < L) (h10 : ¬ s p = 10) (h47 : ¬ s p = 47) (h92 : s p = 92 → p + 1 < L ∧ ¬ s (p + 1) = 10) : tx_n s L p = (tx_n s L (tx_nx s p)).map (fun n => n + 1) := by
  unfold tx_n
  obtain ⟨d, hd⟩ : ∃ d, L + 1 - p = d + 1 := ⟨L - p, by omega⟩
  have := tx_nx_lt s p
  rw [hd, tx_go, if_neg (fun z => z.elim (fun y => by omega) h10), if_neg h47, if_neg (by
    intro z
    have := h92 z.1
    rcases z.2 with w | w
    · omega
    · exact this.2 w), tx_mono s L d (L + 1 - tx_nx s p) (tx_nx s p) (by omega) (by omega)]
theorem tx_p_hd (s : Nat → Int32) (q : Nat) : ∀ k, tx_p s q (k + 1) = tx_p s (tx_nx s q) k := by
  intro k
  induction k with
  | zero => rfl
  | succ k ih => rw [tx_p, ih, tx_p]
theorem tx_p_ge (s : Nat → Int32) (q : Nat) : ∀ k, q + k ≤ tx_p s q k := by
  intro k
  induction k with
  | zero => exact Nat.le_refl _
  | succ k ih =>
    have := tx_nx_lt s (tx_p s q k)
    rw [tx_p]
    omega
theorem tx_p_lt (s : Nat → Int32) (q : Nat) {i j : Nat} (h : i < j) : tx_p s q i < tx_p s q j := by
  induction j with
  | zero => omega
  | succ j ih =>
    have := tx_nx_lt s (tx_p s q j)
    rw [tx_p]
    by_cases z : i = j
    · rw [z]; omega
    · have := ih (by omega); omega
/-- what a good text is -/
theorem tx_facts {s : Nat → Int32} {L : Nat} : ∀ n q, tx_n s L q = some n → (∀ k, k < n → tx_p s q k < L ∧ ¬ s (tx_p s q k) = 10 ∧ ¬ s (tx_p s q k) = 47 ∧ (s (tx_p s q k) = 92 → tx_p s q k + 1 < L ∧ ¬ s (tx_p s q k + 1) = 10)) ∧ tx_p s q n < L ∧ s (tx_p s q n) = 47 := by
  intro n
  induction n with
  | zero =>
    intro q h
    refine ⟨fun k hk => absurd hk (by omega), ?_⟩
    show q < L ∧ s q = 47
    by_cases a : L ≤ q ∨ s q = 10
    · rw [tx_bad a] at h; exact absurd h (by simp)
    · by_cases b : s q = 47
      · exact ⟨by omega, b⟩
      · by_cases c : s q = 92 → q + 1 < L ∧ ¬ s (q + 1) = 10
        · rw [tx_step (by omega) (fun z => a (Or.inr z)) b c] at h
          cases e : tx_n s L (tx_nx s q) with
          | none => rw [e] at h; exact absurd h (by simp)
          | some m => rw [e] at h; exact absurd h (by simp)
        · have c1 : s q = 92 := by
            by_cases z : s q = 92
            · exact z
            · exact absurd (fun y => absurd y z) c
          have c2 : L ≤ q + 1 ∨ s (q + 1) = 10 := by
            by_cases z : s (q + 1) = 10
            · exact Or.inr z
            · by_cases y : q + 1 < L
              · exact absurd (fun _ => ⟨y, z⟩) c
              · exact Or.inl (by omega)
          rw [tx_bad2 c1 c2] at h; exact absurd h (by simp)
  | succ n ih =>
    intro q h
    by_cases a : L ≤ q ∨ s q = 10
    · rw [tx_bad a] at h; exact absurd h (by simp)
    · by_cases b : s q = 47
      · rw [tx_fin (by omega) b] at h; exact absurd h (by simp)
      · by_cases c : s q = 92 → q + 1 < L ∧ ¬ s (q + 1) = 10
        · rw [tx_step (by omega) (fun z => a (Or.inr z)) b c] at h
          cases e : tx_n s L (tx_nx s q) with
          | none => rw [e] at h; exact absurd h (by simp)
          | some m =>
            rw [e] at h
            have hm : m = n := by simpa using h
            rw [hm] at e
            obtain ⟨f, g⟩ := ih _ e
            rw [tx_p_hd]
            refine ⟨fun k hk => ?_, g⟩
            cases k with
            | zero => exact ⟨by show q < L; omega, fun z => a (Or.inr z), b, c⟩
            | succ k => rw [tx_p_hd]; exact f k (by omega)
        · have c1 : s q = 92 := by
            by_cases z : s q = 92
            · exact z
            · exact absurd (fun y => absurd y z) c
          have c2 : L ≤ q + 1 ∨ s (q + 1) = 10 := by
            by_cases z : s (q + 1) = 10
            · exact Or.inr z
            · by_cases y : q + 1 < L
              · exact absurd (fun _ => ⟨y, z⟩) c
              · exact Or.inl (by omega)
          rw [tx_bad2 c1 c2] at h; exact absurd h (by simp)
/-- the loop of a text: at item k, position p -/
theorem tx_nx_le {s : Nat → Int32} {L p : Nat} (h : p < L) (h92 : s p = 92 → p + 1 < L) : tx_nx s p ≤ L := by
  unfold tx_nx
  split
  · rename_i z; have := h92 z; omega
  · omega
theorem tx_map0 (o : Option Nat) : o.map (fun n => n + 0) = o := by cases o <;> rfl
theorem tx_mapk (o : Option Nat) (k : Nat) : (o.map (fun n => n + 1)).map (fun n => n + k) = o.map (fun n => n + (k + 1)) := by
  cases o with
  | none => rfl
  | some n => show some (n + 1 + k) = some (n + (k + 1)); congr 1; omega
/-- items are small chars -/
theorem tx_c_ok {s : Nat → Int32} {L p : Nat} (hc : ch_ok s L) (h : p < L) (h92 : s p = 92 → p + 1 < L) : ∃ m : Nat, m < 128 ∧ tx_c s p = nI m := by
  unfold tx_c
  split
  · split
    · exact ⟨10, by omega, rfl⟩
    · rename_i z _; exact hc (p + 1) (h92 z)
  · exact hc p h
theorem tx_k_eq {s : Nat → Int32} {L p : Nat} (hc : ch_ok s L) (h : p < L) (h92 : s p = 92 → p + 1 < L) (c : Nat) (hc2 : c < 128) : tx_k s p = nI c ↔ (tx_e s p = 0 ∧ tx_c s p = nI c) := by
  unfold tx_k tx_e
  split
  · rename_i z
    obtain ⟨m, hm, e⟩ := tx_c_ok hc h h92
    rw [e, show nI m + 256 = nI (m + 256) from nI_add m 256, nI_eq (by omega) (by omega)]
    constructor
    · intro y; omega
    · intro y; exact absurd y.1 (by decide)
  · rename_i z
    rw [show tx_c s p = s p from by unfold tx_c; rw [if_neg z]]
    exact ⟨fun y => ⟨rfl, y⟩, fun y => y.2⟩
theorem tx_k_rem {s : Nat → Int32} {L p : Nat} (hc : ch_ok s L) (h : p < L) (h92 : s p = 92 → p + 1 < L) : tx_k s p - tx_k s p / 256 * 256 = tx_c s p := by
  obtain ⟨m, hm, e⟩ := tx_c_ok hc h h92
  unfold tx_k
  split
  · rw [e, show nI m + 256 = nI (m + 256) from nI_add m 256]
    show nI (m + 256) - nI (m + 256) / nI 256 * nI 256 = nI m
    rw [pk_rem (by omega) (by omega) (by omega)]
    congr 1; omega
  · rename_i z
    have e2 : s p = nI m := by rw [← e]; unfold tx_c; rw [if_neg z]
    rw [e, e2]
    show nI m - nI m / nI 256 * nI 256 = nI m
    rw [pk_rem (by omega) (by omega) (by omega)]
    congr 1; omega
theorem tx_e01 (s : Nat → Int32) (p : Nat) : tx_e s p = 0 ∨ tx_e s p = 1 := by
  unfold tx_e
  split
  · exact Or.inr rfl
  · exact Or.inl rfl
/-! regexes: atoms so far: how many, their chars (-1: any), their stars -/
def rg_s (c e : Int32) (g : Nat × (Nat → Int32) × (Nat → Int32)) : Option (Nat × (Nat → Int32) × (Nat → Int32)) :=
  if e = 0 ∧ c = 42 ∧ 0 < g.1 then (if g.2.2 (g.1 - 1) = 0 then some (g.1, g.2.1, upd g.2.2 (g.1 - 1) 1) else none)
  else if 12 ≤ g.1 then none else some (g.1 + 1, upd g.2.1 g.1 (if e = 0 ∧ c = 46 then -1 else c), upd g.2.2 g.1 0)
def rg_f (s : Nat → Int32) (q a : Nat) : Nat → Option (Nat × (Nat → Int32) × (Nat → Int32))
  | 0 => some (0, fun _ => 0, fun _ => 0)
  | m + 1 => (rg_f s q a m).bind (rg_s (tx_c s (tx_p s q (a + m))) (tx_e s (tx_p s q (a + m))))
def rg_A (s : Nat → Int32) (q : Nat) : Nat := if tx_e s q = 0 ∧ tx_c s q = 94 then 1 else 0
def rg_B (s : Nat → Int32) (q n : Nat) : Nat := if tx_e s (tx_p s q (n - 1)) = 0 ∧ tx_c s (tx_p s q (n - 1)) = 36 then 1 else 0
/-- the regex whose text begins at q: its end, its anchors, its atoms -/
def rg_x (s : Nat → Int32) (L q : Nat) : Option (Nat × Nat × Nat × Nat × (Nat → Int32) × (Nat → Int32)) :=
  match tx_n s L q with
  | none => none
  | some n => if n = 0 then none else match rg_f s q (rg_A s q) (n - rg_B s q n - rg_A s q) with
    | none => none
    | some g => some (tx_p s q n + 1, rg_A s q, rg_B s q n, g.1, g.2.1, g.2.2)
theorem rg_none {s : Nat → Int32} {q a m : Nat} (h : rg_f s q a m = none) : ∀ d, rg_f s q a (m + d) = none := by
  intro d
  induction d with
  | zero => exact h
  | succ d ih => rw [← Nat.add_assoc, rg_f, ih]; rfl
theorem rg_le12 {s : Nat → Int32} {q a : Nat} : ∀ m g, rg_f s q a m = some g → g.1 ≤ 12 ∧ (∀ i, g.2.2 i = 0 ∨ g.2.2 i = 1) := by
  intro m
  induction m with
  | zero =>
    intro g h
    have h' : some (0, (fun _ => 0), (fun _ => 0)) = some g := h
    have : g = (0, fun _ => 0, fun _ => 0) := (Option.some.inj h').symm
    rw [this]
    exact ⟨by omega, fun i => Or.inl rfl⟩
  | succ m ih =>
    intro g h
    rw [rg_f] at h
    cases e : rg_f s q a m with
    | none => rw [e] at h; exact absurd h (by simp)
    | some g0 =>
      rw [e] at h
      have h : rg_s (tx_c s (tx_p s q (a + m))) (tx_e s (tx_p s q (a + m))) g0 = some g := h
      obtain ⟨i1, i2⟩ := ih g0 e
      unfold rg_s at h
      split at h
      · split at h
        · have : g = (g0.1, g0.2.1, upd g0.2.2 (g0.1 - 1) 1) := (Option.some.inj h).symm
          rw [this]
          refine ⟨i1, fun i => ?_⟩
          show upd g0.2.2 (g0.1 - 1) 1 i = 0 ∨ upd g0.2.2 (g0.1 - 1) 1 i = 1
          unfold upd
          split
          · exact Or.inr rfl
          · exact i2 i
        · exact absurd h (by simp)
      · split at h
        · exact absurd h (by simp)
        · have : g = (g0.1 + 1, upd g0.2.1 g0.1 (if tx_e s (tx_p s q (a + m)) = 0 ∧ tx_c s (tx_p s q (a + m)) = 46 then -1 else tx_c s (tx_p s q (a + m))), upd g0.2.2 g0.1 0) := (Option.some.inj h).symm
          rw [this]
          refine ⟨by show g0.1 + 1 ≤ 12; omega, fun i => ?_⟩
          show upd g0.2.2 g0.1 0 i = 0 ∨ upd g0.2.2 g0.1 0 i = 1
          unfold upd
          split
          · exact Or.inl rfl
          · exact i2 i
theorem rg_A1 (s : Nat → Int32) (q : Nat) : rg_A s q ≤ 1 := by unfold rg_A; split <;> omega
theorem rg_B1 (s : Nat → Int32) (q n : Nat) : rg_B s q n ≤ 1 := by unfold rg_B; split <;> omega
theorem rg_AB {s : Nat → Int32} {q n : Nat} (h : 0 < n) : rg_A s q + rg_B s q n ≤ n := by
  by_cases z : n = 1
  · subst z
    unfold rg_A rg_B
    show (if _ then 1 else 0) + (if tx_e s q = 0 ∧ tx_c s q = 36 then 1 else 0) ≤ 1
    split
    · rename_i y
      rw [if_neg (by rw [y.2]; intro w; exact absurd w.2 (by decide))]
      omega
    · split <;> omega
  · have := rg_A1 s q
    have := rg_B1 s q n
    omega
end
section
/-! numbers, addresses, commands -/
def nu_v (s : Nat → Int32) (q : Nat) : Nat → Int32
  | 0 => 0
  | k + 1 => nu_v s q k * 10 + s (q + k) - 48
/-- the number at q: its value and its end -/
def nu_x (s : Nat → Int32) (L q : Nat) : Option (Int32 × Nat) :=
  if sc_e (pb_d s) L q - q ≤ 3 ∧ 1 ≤ nu_v s q (sc_e (pb_d s) L q - q) ∧ nu_v s q (sc_e (pb_d s) L q - q) ≤ 255 then some (nu_v s q (sc_e (pb_d s) L q - q), sc_e (pb_d s) L q) else none
/-- the address at q: its kind (1 number, 2 last line, 3 regex), its value, its end -/
def ad_x (s : Nat → Int32) (L q : Nat) : Option (Nat × Int32 × Nat) :=
  if L ≤ q then none
  else if s q = 36 then some (2, 0, q + 1)
  else if s q = 47 then (rg_x s L (q + 1)).map (fun r => (3, nI (q + 1), r.1))
  else if pb_d s q = true then (nu_x s L q).map (fun r => (1, r.1, r.2))
  else none
def cm_sk (s : Nat → Int32) (L q : Nat) : Nat := sc_e (pb_b s) L q
def cm_g (s : Nat → Int32) (L q : Nat) : Int32 := if q < L ∧ s q = 33 then 1 else 0
def cm_h (s : Nat → Int32) (L q : Nat) : Nat := if q < L ∧ s q = 33 then cm_sk s L (q + 1) else q
/-- the address part at q: how many, the first, the second (kind and value), negated, its end -/
def cm_a (s : Nat → Int32) (L q : Nat) : Option (Nat × (Nat × Int32) × (Nat × Int32) × Int32 × Nat) :=
  if q < L ∧ (pb_d s q = true ∨ s q = 36 ∨ s q = 47) then
    (ad_x s L q).bind (fun a =>
      if cm_sk s L a.2.2 < L ∧ s (cm_sk s L a.2.2) = 44 then
        (ad_x s L (cm_sk s L (cm_sk s L a.2.2 + 1))).map (fun b => (2, (a.1, a.2.1), (b.1, b.2.1), cm_g s L (cm_sk s L b.2.2), cm_h s L (cm_sk s L b.2.2)))
      else some (1, (a.1, a.2.1), (0, 0), cm_g s L (cm_sk s L a.2.2), cm_h s L (cm_sk s L a.2.2)))
  else some (0, (0, 0), (0, 0), 0, q)
/-- the s command whose '/' lies at q: its regex' text, its replacement's text, the replacement's items, g, its end -/
def cm_s (s : Nat → Int32) (L q : Nat) : Option (Nat × Nat × Nat × Int32 × Nat) :=
  if q < L ∧ s q = 47 then
    (rg_x s L (q + 1)).bind (fun r => (tx_n s L r.1).map (fun n =>
      (q + 1, r.1, n, (if tx_p s r.1 n + 1 < L ∧ s (tx_p s r.1 n + 1) = 103 then (1 : Int32) else 0), (if tx_p s r.1 n + 1 < L ∧ s (tx_p s r.1 n + 1) = 103 then tx_p s r.1 n + 2 else tx_p s r.1 n + 1))))
  else none
def cm_ls (s : Nat → Int32) (L q : Nat) : Nat := cm_sk s L q
def cm_le (s : Nat → Int32) (L q : Nat) : Nat := sc_e (pb_l s) L (cm_sk s L q)
def cm_v (c : Int32) : Bool := decide (c = 100 ∨ c = 112 ∨ c = 78 ∨ c = 104 ∨ c = 72 ∨ c = 103 ∨ c = 71 ∨ c = 120)
/-- what stands behind the address part (n addresses) at q: (label's start, label's size), the s command's parts, end -/
def cm_b (s : Nat → Int32) (L n q : Nat) : Option ((Nat × Nat) × (Nat × Nat × Nat × Int32) × Nat) :=
  if L ≤ q then none
  else if s q = 115 then (cm_s s L (q + 1)).map (fun r => ((0, 0), (r.1, r.2.1, r.2.2.1, r.2.2.2.1), r.2.2.2.2))
  else if s q = 58 ∨ s q = 98 ∨ s q = 116 then
    (if (s q = 58 ∧ 0 < n) ∨ 8 < cm_le s L (q + 1) - cm_ls s L (q + 1) ∨ (s q = 58 ∧ cm_le s L (q + 1) - cm_ls s L (q + 1) < 1) then none
     else some ((cm_ls s L (q + 1), cm_le s L (q + 1) - cm_ls s L (q + 1)), (0, 0, 0, 0), cm_le s L (q + 1)))
  else if cm_v (s q) = true then some ((0, 0), (0, 0, 0, 0), q + 1)
  else none
/-- the command at q: its address part, its char, the rest, its end (where a separator or the script's end stands) -/
def cm_x (s : Nat → Int32) (L q : Nat) : Option ((Nat × (Nat × Int32) × (Nat × Int32) × Int32 × Nat) × Int32 × ((Nat × Nat) × (Nat × Nat × Nat × Int32) × Nat) × Nat) :=
  (cm_a s L q).bind (fun a => (cm_b s L a.1 a.2.2.2.2).bind (fun b =>
    if cm_sk s L b.2.2 < L ∧ ¬ s (cm_sk s L b.2.2) = 59 ∧ ¬ s (cm_sk s L b.2.2) = 10 then none
    else some (a, s a.2.2.2.2, b, cm_sk s L b.2.2)))
theorem cm_sk_f {s : Nat → Int32} {L q : Nat} (h : q ≤ L) : q ≤ cm_sk s L q ∧ cm_sk s L q ≤ L := ⟨(sc_facts h).1, (sc_facts h).2.1⟩
theorem cm_h_f {s : Nat → Int32} {L q : Nat} (h : q ≤ L) : q ≤ cm_h s L q ∧ cm_h s L q ≤ L := by
  unfold cm_h
  split
  · rename_i z
    have := cm_sk_f (s := s) (show q + 1 ≤ L by omega)
    omega
  · omega
theorem cm_g01 (s : Nat → Int32) (L q : Nat) : cm_g s L q = 0 ∨ cm_g s L q = 1 := by
  unfold cm_g
  split
  · exact Or.inr rfl
  · exact Or.inl rfl
theorem rg_x_f {s : Nat → Int32} {L q : Nat} {r : Nat × Nat × Nat × Nat × (Nat → Int32) × (Nat → Int32)} (h : rg_x s L q = some r) : q < r.1 ∧ r.1 ≤ L := by
  unfold rg_x at h
  cases e : tx_n s L q with
  | none => rw [e] at h; exact absurd h (by simp)
  | some n =>
    rw [e] at h
    have f := tx_facts n q e
    have g := tx_p_ge s q n
    dsimp only at h
    split at h
    · exact absurd h (by simp)
    · split at h
      · exact absurd h (by simp)
      · have := (Option.some.inj h).symm
        rw [this]
        dsimp only
        omega
theorem ad_x_f {s : Nat → Int32} {L q : Nat} {r : Nat × Int32 × Nat} (h : ad_x s L q = some r) : q < r.2.2 ∧ r.2.2 ≤ L := by
  unfold ad_x at h
  split at h
  · exact absurd h (by simp)
  · split at h
    · have := (Option.some.inj h).symm
      rw [this]; dsimp only; omega
    · split at h
      · cases e : rg_x s L (q + 1) with
        | none => rw [e] at h; exact absurd h (by simp)
        | some r' =>
          rw [e] at h
          have := (Option.some.inj h).symm
          have f := rg_x_f e
          rw [this]; dsimp only; omega
      · split at h
        · rename_i z
          cases e : nu_x s L q with
          | none => rw [e] at h; exact absurd h (by simp)
          | some r' =>
            rw [e] at h
            have t := (Option.some.inj h).symm
            unfold nu_x at e
            split at e
            · have e2 := (Option.some.inj e).symm
              have f := sc_facts (P := pb_d s) (L := L) (q := q) (by omega)
              have g := sc_go (P := pb_d s) (L := L) (q := q) (by omega) z
              have f2 := sc_facts (P := pb_d s) (L := L) (q := q + 1) (by omega)
              rw [t, e2]
              dsimp only
              omega
            · exact absurd e (by simp)
        · exact absurd h (by simp)
theorem cm_a_f {s : Nat → Int32} {L q : Nat} {r : Nat × (Nat × Int32) × (Nat × Int32) × Int32 × Nat} (hq : q ≤ L) (h : cm_a s L q = some r) : q ≤ r.2.2.2.2 ∧ r.2.2.2.2 ≤ L := by
  unfold cm_a at h
  split at h
  · cases e : ad_x s L q with
    | none => rw [e] at h; exact absurd h (by simp)
    | some a =>
      rw [e] at h
      have fa := ad_x_f e
      have f1 := cm_sk_f (s := s) fa.2
      dsimp only [Option.bind] at h
      split at h
      · rename_i z
        have f2 := cm_sk_f (s := s) (show cm_sk s L a.2.2 + 1 ≤ L by omega)
        cases e2 : ad_x s L (cm_sk s L (cm_sk s L a.2.2 + 1)) with
        | none => rw [e2] at h; exact absurd h (by simp)
        | some b =>
          rw [e2] at h
          have t := (Option.some.inj h).symm
          have fb := ad_x_f e2
          have f3 := cm_sk_f (s := s) fb.2
          have f4 := cm_h_f (s := s) f3.2
          rw [t]; dsimp only; omega
      · have t := (Option.some.inj h).symm
        have f4 := cm_h_f (s := s) f1.2
        rw [t]; dsimp only; omega
  · have t := (Option.some.inj h).symm
    rw [t]; dsimp only; omega
theorem cm_le_f {s : Nat → Int32} {L q : Nat} (h : q ≤ L) : q ≤ cm_ls s L q ∧ cm_ls s L q ≤ cm_le s L q ∧ cm_le s L q ≤ L := by
  have f := cm_sk_f (s := s) h
  have g := sc_facts (P := pb_l s) f.2
  unfold cm_ls cm_le
  omega
theorem cm_s_f {s : Nat → Int32} {L q : Nat} {r : Nat × Nat × Nat × Int32 × Nat} (h : cm_s s L q = some r) : r.1 = q + 1 ∧ q + 1 < r.2.1 ∧ r.2.1 + r.2.2.1 < r.2.2.2.2 ∧ r.2.2.2.2 ≤ L ∧ (r.2.2.2.1 = 0 ∨ r.2.2.2.1 = 1) ∧ tx_n s L r.2.1 = some r.2.2.1 ∧ ∃ g, rg_x s L r.1 = some g := by
  unfold cm_s at h
  split at h
  · cases e : rg_x s L (q + 1) with
    | none => rw [e] at h; exact absurd h (by simp)
    | some g =>
      rw [e] at h
      dsimp only [Option.bind] at h
      cases e2 : tx_n s L g.1 with
      | none => rw [e2] at h; exact absurd h (by simp)
      | some n =>
        rw [e2] at h
        have t := (Option.some.inj h).symm
        have f := rg_x_f e
        have f2 := tx_facts n g.1 e2
        have f3 := tx_p_ge s g.1 n
        rw [t]
        dsimp only
        refine ⟨rfl, f.1, ?_, ?_, ?_, e2, g, e⟩
        · split <;> omega
        · split <;> omega
        · split
          · exact Or.inr rfl
          · exact Or.inl rfl
  · exact absurd h (by simp)
theorem cm_b_f {s : Nat → Int32} {L n q : Nat} {r : (Nat × Nat) × (Nat × Nat × Nat × Int32) × Nat} (h : cm_b s L n q = some r) : q < r.2.2 ∧ r.2.2 ≤ L := by
  unfold cm_b at h
  split at h
  · exact absurd h (by simp)
  · split at h
    · cases e : cm_s s L (q + 1) with
      | none => rw [e] at h; exact absurd h (by simp)
      | some g =>
        rw [e] at h
        have t := (Option.some.inj h).symm
        have f := cm_s_f e
        rw [t]; dsimp only; omega
    · split at h
      · split at h
        · exact absurd h (by simp)
        · have t := (Option.some.inj h).symm
          have f := cm_le_f (s := s) (show q + 1 ≤ L by omega)
          rw [t]; dsimp only; omega
      · split at h
        · have t := (Option.some.inj h).symm
          rw [t]; dsimp only; omega
        · exact absurd h (by simp)
end
section
/-! matching: T the text, ch and st the atoms, i the start; R a d: the first a atoms take the d chars from i on -/
def mt_f (T ch : Nat → Int32) (a x : Nat) : Bool := decide (ch a = -1) || decide (ch a = T x)
def mt_row (b : Bool) (f g : Nat → Bool) : Nat → Bool
  | 0 => b && g 0
  | d + 1 => if b = true then g (d + 1) || (mt_row b f g d && f d) else g d && f d
def mt_b (st : Nat → Int32) (a : Nat) : Bool := decide (¬ st a = 0)
def mt_R (T ch st : Nat → Int32) (i : Nat) : Nat → Nat → Bool
  | 0 => fun d => decide (d = 0)
  | a + 1 => mt_row (mt_b st a) (fun d => mt_f T ch a (i + d)) (mt_R T ch st i a)
def mt_g (Q : Nat → Bool) : Nat → Option Nat
  | 0 => none
  | d + 1 => if Q d = true then some d else mt_g Q d
def mt_Q (T : Nat → Int32) (n : Nat) (ch st : Nat → Int32) (na anE i d : Nat) : Bool := mt_R T ch st i na d && (decide (anE = 0) || decide (i + d = n))
/-- the length of the longest match at i, whatever the start anchor says -/
def mt_l (T : Nat → Int32) (n : Nat) (ch st : Nat → Int32) (na anE i : Nat) : Option Nat := mt_g (mt_Q T n ch st na anE i) (n + 1 - i)
def mt_at (T : Nat → Int32) (n : Nat) (ch st : Nat → Int32) (na anS anE i : Nat) : Option Nat := if ¬ anS = 0 ∧ ¬ i = 0 then none else mt_l T n ch st na anE i
def mt_s (M : Nat → Option Nat) : Nat → Nat → Option (Nat × Nat)
  | 0, _ => none
  | c + 1, i => match M i with
    | some d => some (i, i + d)
    | none => mt_s M c (i + 1)
/-- the first match from p on: its start and its end -/
def mt_1 (T : Nat → Int32) (n : Nat) (ch st : Nat → Int32) (na anS anE p : Nat) : Option (Nat × Nat) := mt_s (mt_at T n ch st na anS anE) (n + 1 - p) p
/-- the number that stands for a place or none -/
def mt_o : Option Nat → Int32
  | none => -1
  | some d => nI d
theorem mt_g_lt {Q : Nat → Bool} : ∀ D d, mt_g Q D = some d → d < D ∧ Q d = true := by
  intro D
  induction D with
  | zero => intro d h; exact absurd h (by simp [mt_g])
  | succ D ih =>
    intro d h
    rw [mt_g] at h
    split at h
    · rename_i z
      have := Option.some.inj h
      rw [← this]
      exact ⟨by omega, z⟩
    · have := ih d h
      exact ⟨by omega, this.2⟩
theorem mt_l_lt {T : Nat → Int32} {n : Nat} {ch st : Nat → Int32} {na anE i d : Nat} (h : mt_l T n ch st na anE i = some d) : i + d ≤ n := by
  have := mt_g_lt _ _ h
  omega
theorem mt_at_l {T : Nat → Int32} {n : Nat} {ch st : Nat → Int32} {na anS anE i d : Nat} (h : mt_at T n ch st na anS anE i = some d) : mt_l T n ch st na anE i = some d := by
  unfold mt_at at h
  split at h
  · exact absurd h (by simp)
  · exact h
theorem mt_s_f {M : Nat → Option Nat} : ∀ c p r, mt_s M c p = some r → p ≤ r.1 ∧ r.1 < p + c ∧ ∃ d, M r.1 = some d ∧ r.2 = r.1 + d := by
  intro c
  induction c with
  | zero => intro p r h; exact absurd h (by simp [mt_s])
  | succ c ih =>
    intro p r h
    rw [mt_s] at h
    cases e : M p with
    | none =>
      rw [e] at h
      have := ih (p + 1) r h
      exact ⟨by omega, by omega, this.2.2⟩
    | some d =>
      rw [e] at h
      have t := (Option.some.inj h).symm
      rw [t]
      exact ⟨Nat.le_refl _, by show p < _; omega, d, e, rfl⟩
theorem mt_1_f {T : Nat → Int32} {n : Nat} {ch st : Nat → Int32} {na anS anE p : Nat} {r : Nat × Nat} (h : mt_1 T n ch st na anS anE p = some r) : p ≤ r.1 ∧ r.1 ≤ r.2 ∧ r.2 ≤ n ∧ ∃ d, mt_l T n ch st na anE r.1 = some d ∧ r.2 = r.1 + d := by
  obtain ⟨a, b, d, e, f⟩ := mt_s_f _ _ _ h
  have g := mt_at_l e
  have := mt_l_lt g
  exact ⟨a, by omega, by omega, d, g, f⟩
theorem mt_s_none {M : Nat → Option Nat} : ∀ c p, (∀ j, p ≤ j → M j = none) → mt_s M c p = none := by
  intro c
  induction c with
  | zero => intro p _; rfl
  | succ c ih =>
    intro p h
    rw [mt_s, h p (Nat.le_refl _)]
    exact ih (p + 1) (fun j hj => h j (by omega))
theorem mt_1_anch {T : Nat → Int32} {n : Nat} {ch st : Nat → Int32} {na anS anE p : Nat} (hS : ¬ anS = 0) (hp : 0 < p) : mt_1 T n ch st na anS anE p = none := by
  unfold mt_1
  exact mt_s_none _ _ (fun j hj => by unfold mt_at; rw [if_pos ⟨hS, by omega⟩])
theorem mt_1_hi {T : Nat → Int32} {n : Nat} {ch st : Nat → Int32} {na anS anE p : Nat} (hp : n < p) : mt_1 T n ch st na anS anE p = none := by
  unfold mt_1
  rw [show n + 1 - p = 0 from by omega, mt_s]
theorem mt_1_0 {T : Nat → Int32} {n : Nat} {ch st : Nat → Int32} {na anS anE : Nat} (hS : ¬ anS = 0) : mt_1 T n ch st na anS anE 0 = (match mt_l T n ch st na anE 0 with | some d => some (0, 0 + d) | none => none) := by
  unfold mt_1
  rw [show n + 1 - 0 = n + 1 from rfl, mt_s]
  have e : mt_at T n ch st na anS anE 0 = mt_l T n ch st na anE 0 := by
    unfold mt_at
    rw [if_neg (fun z => z.2 rfl)]
  rw [e]
  cases mt_l T n ch st na anE 0 with
  | some d => rfl
  | none => exact mt_s_none _ _ (fun j hj => by unfold mt_at; rw [if_pos ⟨hS, by omega⟩])
/-! X's columns: the places set at the head of a column, and at its end -/
def mt_P (T ch st : Nat → Int32) (i na a d : Nat) : Bool := if a < na ∧ mt_b st a = true then mt_R T ch st i (a + 1) d else mt_R T ch st i a d
/-- the bits at the head of column d -/
def mt_C (T ch st : Nat → Int32) (i na a : Nat) : Nat → Bool
  | 0 => decide (a = 0)
  | d + 1 => (decide (a < na) && (mt_b st a && (mt_P T ch st i na a d && mt_f T ch a (i + d)))) || (decide (0 < a) && (!mt_b st (a - 1) && (mt_P T ch st i na (a - 1) d && mt_f T ch (a - 1) (i + d))))
theorem mt_P_C (T ch st : Nat → Int32) (i na a d : Nat) (ha : a ≤ na) : mt_P T ch st i na a d = (mt_C T ch st i na a d || (decide (0 < a) && (mt_b st (a - 1) && mt_P T ch st i na (a - 1) d))) := by
  cases d with
  | zero =>
    cases a with
    | zero =>
      unfold mt_P mt_C
      split
      · rename_i z
        rw [mt_R, mt_row, z.2, mt_R]; rfl
      · rw [mt_R]; rfl
    | succ a =>
      have e1 : mt_P T ch st i na (a + 1) 0 = mt_R T ch st i (a + 1) 0 := by
        unfold mt_P
        split
        · rename_i z
          rw [mt_R, mt_row, z.2, Bool.true_and]
        · rfl
      rw [e1]
      have e2 : mt_C T ch st i na (a + 1) 0 = false := rfl
      rw [e2, Bool.false_or, Nat.add_sub_cancel, decide_eq_true (Nat.succ_pos a), Bool.true_and]
      cases hb : mt_b st a with
      | false => rw [mt_R, mt_row, hb]; rfl
      | true =>
        have e3 : mt_P T ch st i na a 0 = mt_R T ch st i (a + 1) 0 := by
          unfold mt_P
          rw [if_pos ⟨by omega, hb⟩]
        rw [e3, Bool.true_and]
  | succ d =>
    have hA : ∀ a, a ≤ na → mt_R T ch st i a (d + 1) = ((decide (0 < a) && (!mt_b st (a - 1) && (mt_P T ch st i na (a - 1) d && mt_f T ch (a - 1) (i + d)))) || (decide (0 < a) && (mt_b st (a - 1) && mt_P T ch st i na (a - 1) (d + 1)))) := by
      intro a ha
      cases a with
      | zero => rfl
      | succ a =>
        rw [Nat.add_sub_cancel, decide_eq_true (Nat.succ_pos a), Bool.true_and, Bool.true_and]
        cases hb : mt_b st a with
        | false =>
          have e3 : mt_P T ch st i na a d = mt_R T ch st i a d := by
            unfold mt_P
            rw [if_neg (by rw [hb]; intro z; exact absurd z.2 (by decide))]
          rw [e3, mt_R, mt_row, hb, if_neg (by decide)]
          simp
        | true =>
          have e3 : mt_P T ch st i na a (d + 1) = mt_R T ch st i (a + 1) (d + 1) := by
            unfold mt_P
            rw [if_pos ⟨by omega, hb⟩]
          rw [e3]
          simp
    have hR := hA a ha
    by_cases hs : a < na ∧ mt_b st a = true
    · have e1 : mt_P T ch st i na a (d + 1) = (mt_R T ch st i a (d + 1) || (mt_P T ch st i na a d && mt_f T ch a (i + d))) := by
        unfold mt_P
        rw [if_pos hs, if_pos hs, mt_R, mt_row, hs.2, if_pos rfl, ← hs.2]
      rw [e1, hR, mt_C, decide_eq_true hs.1, hs.2]
      generalize (mt_P T ch st i na a d && mt_f T ch a (i + d)) = x
      generalize (decide (0 < a) && (!mt_b st (a - 1) && (mt_P T ch st i na (a - 1) d && mt_f T ch (a - 1) (i + d)))) = y
      generalize (decide (0 < a) && (mt_b st (a - 1) && mt_P T ch st i na (a - 1) (d + 1))) = z
      cases x <;> cases y <;> cases z <;> rfl
    · have e1 : mt_P T ch st i na a (d + 1) = mt_R T ch st i a (d + 1) := by
        unfold mt_P
        rw [if_neg hs]
      have e2 : (decide (a < na) && (mt_b st a && (mt_P T ch st i na a d && mt_f T ch a (i + d)))) = false := by
        by_cases h1 : a < na
        · have : mt_b st a = false := by
            cases h2 : mt_b st a
            · rfl
            · exact absurd ⟨h1, h2⟩ hs
          rw [this]; simp
        · rw [decide_eq_false h1]; rfl
      rw [e1, hR, mt_C, e2, Bool.false_or]
theorem mt_P_na (T ch st : Nat → Int32) (i na d : Nat) : mt_P T ch st i na na d = mt_R T ch st i na d := by
  unfold mt_P
  rw [if_neg (fun z => absurd z.1 (Nat.lt_irrefl _))]
/-! bits of a set of places -/
theorem mt_tst (x : Int32) (n : Nat) (hn : n < 31) : ((x >>> (nI n &&& 31)) &&& 1) = 1 ↔ bt x n = true := by
  have h1 : ∀ i, i < 32 → bt 1 i = decide (i = 0) := by decide +kernel
  constructor
  · intro h
    have : bt ((x >>> (nI n &&& 31)) &&& 1) 0 = bt 1 0 := by rw [h]
    rw [b_and, b_sshr n (by omega) x (by omega), if_pos (by omega), h1 0 (by omega)] at this
    simpa using this
  · intro h
    apply b_ext
    intro i hi
    rw [b_and, h1 i hi]
    by_cases z : i = 0
    · subst z
      rw [b_sshr n (by omega) x (by omega), if_pos (by omega), Nat.add_zero, h]; rfl
    · rw [decide_eq_false z, Bool.and_false]
theorem mt_or1 (x : Int32) (n m : Nat) (hn : n < 31) (hm : m < 32) : bt (x ||| ((1 : Int32) <<< (nI n &&& 31))) m = (bt x m || decide (m = n)) := by
  have h1 : ∀ i, i < 32 → bt 1 i = decide (i = 0) := by decide +kernel
  rw [b_or, b_shl n (by omega) 1 hm, h1 (m - n) (by omega)]
  congr 1
  by_cases z : m = n
  · subst z; simp
  · by_cases y : n ≤ m
    · rw [decide_eq_true y, decide_eq_false (by omega), decide_eq_false z]; rfl
    · rw [decide_eq_false y, decide_eq_false z]; rfl
theorem mt_or2 (x : Int32) (n m : Nat) (hn : n < 30) (hm : m < 32) : bt (x ||| ((2 : Int32) <<< (nI n &&& 31))) m = (bt x m || decide (m = n + 1)) := by
  have h1 : ∀ i, i < 32 → bt 2 i = decide (i = 1) := by decide +kernel
  rw [b_or, b_shl n (by omega) 2 hm, h1 (m - n) (by omega)]
  congr 1
  by_cases z : m = n + 1
  · subst z
    rw [decide_eq_true (by omega), decide_eq_true (by omega), decide_eq_true rfl]; rfl
  · by_cases y : n ≤ m
    · rw [decide_eq_true y, decide_eq_false (by omega), decide_eq_false z]; rfl
    · rw [decide_eq_false y, decide_eq_false z]; rfl
end
section
/-! the input's lines: nl counts newlines below x; LI m q: m lines are read, the next begins at q -/
def ln_c (s : Nat → Int32) : Nat → Nat
  | 0 => 0
  | x + 1 => if s x = 10 then ln_c s x + 1 else ln_c s x
/-- the number of lines -/
def ln_k (s : Nat → Int32) (L : Nat) : Nat := if 0 < L ∧ ¬ s (L - 1) = 10 then ln_c s L + 1 else ln_c s L
def ln_e (s : Nat → Int32) (L q : Nat) : Nat := sc_e (pb_n s) L q
def ln_I (s : Nat → Int32) (L m q : Nat) : Prop := (q ≤ L ∧ ln_c s q = m ∧ (q = 0 ∨ s (q - 1) = 10)) ∨ (q = L + 1 ∧ 0 < L ∧ ¬ s (L - 1) = 10 ∧ ln_c s L + 1 = m)
theorem ln_0 (s : Nat → Int32) (L : Nat) : ln_I s L 0 0 := Or.inl ⟨Nat.zero_le _, rfl, Or.inl rfl⟩
theorem ln_mono (s : Nat → Int32) {x y : Nat} (h : x ≤ y) : ln_c s x ≤ ln_c s y := by
  induction y with
  | zero => rw [show x = 0 from by omega]; exact Nat.le_refl _
  | succ y ih =>
    by_cases z : x = y + 1
    · rw [z]; exact Nat.le_refl _
    · have := ih (by omega)
      rw [ln_c]
      split <;> omega
theorem ln_c_le (s : Nat → Int32) : ∀ x, ln_c s x ≤ x := by
  intro x
  induction x with
  | zero => exact Nat.le_refl _
  | succ x ih => rw [ln_c]; split <;> omega
theorem ln_same (s : Nat → Int32) (q : Nat) : ∀ e, q ≤ e → (∀ j, q ≤ j → j < e → ¬ s j = 10) → ln_c s e = ln_c s q := by
  intro e
  induction e with
  | zero => intro h _; rw [show q = 0 from by omega]
  | succ e ih =>
    intro h g
    by_cases z : q = e + 1
    · rw [z]
    · rw [ln_c, if_neg (g e (by omega) (by omega))]
      exact ih (by omega) (fun j a b => g j a (by omega))
theorem ln_next {s : Nat → Int32} {L m q : Nat} (h : ln_I s L m q) (hq : q < L) : ln_I s L (m + 1) (ln_e s L q + 1) := by
  rcases h with ⟨h1, h2, h3⟩ | ⟨h1, _⟩
  · obtain ⟨f1, f2, f3, f4⟩ := sc_facts (P := pb_n s) (L := L) (q := q) h1
    have e1 : ln_c s (ln_e s L q) = m := by
      rw [← h2]
      exact ln_same s q _ f1 (fun j a b => by have := f3 j a b; simpa [pb_n] using this)
    by_cases z : ln_e s L q = L
    · refine Or.inr ⟨by rw [z], by omega, ?_, by rw [← z, e1]⟩
      have := f3 (L - 1) (by omega) (by show L - 1 < ln_e s L q; omega)
      simpa [pb_n] using this
    · have lt : ln_e s L q < L := Nat.lt_of_le_of_ne f2 z
      have e2 : s (ln_e s L q) = 10 := by
        have := f4 lt
        simpa [pb_n, ln_e] using this
      refine Or.inl ⟨by omega, ?_, Or.inr (by rw [Nat.add_sub_cancel]; exact e2)⟩
      rw [ln_c, if_pos e2, e1]
  · omega
theorem ln_lt {s : Nat → Int32} {L m q : Nat} (h : ln_I s L m q) : m < ln_k s L ↔ q < L := by
  unfold ln_k
  rcases h with ⟨h1, h2, h3⟩ | ⟨h1, h2, h3, h4⟩
  · have a := ln_mono s h1
    constructor
    · intro g
      rcases Nat.lt_or_ge q L with z | z
      · exact z
      · have e : q = L := by omega
        subst e
        split at g
        · rename_i w
          rcases h3 with y | y
          · omega
          · exact absurd y w.2
        · omega
    · intro g
      split
      · omega
      · rename_i w
        have e : s (L - 1) = 10 := by
          by_cases y : s (L - 1) = 10
          · exact y
          · exact absurd ⟨by omega, y⟩ w
        have b := ln_mono s (show q ≤ L - 1 by omega)
        have c : ln_c s L = ln_c s (L - 1) + 1 := by
          obtain ⟨x, rfl⟩ : ∃ x, L = x + 1 := ⟨L - 1, by omega⟩
          rw [Nat.add_sub_cancel] at e ⊢
          rw [ln_c, if_pos e]
        omega
  · rw [if_pos ⟨h2, h3⟩]
    omega
theorem ln_le {s : Nat → Int32} {L m q : Nat} (h : ln_I s L m q) : m ≤ ln_k s L := by
  unfold ln_k
  rcases h with ⟨h1, h2, h3⟩ | ⟨h1, h2, h3, h4⟩
  · have a := ln_mono s h1
    split <;> omega
  · rw [if_pos ⟨h2, h3⟩]
    omega
theorem ln_kle (s : Nat → Int32) (L : Nat) : ln_k s L ≤ L := by
  unfold ln_k
  split
  · rename_i z
    obtain ⟨x, rfl⟩ : ∃ x, L = x + 1 := ⟨L - 1, by omega⟩
    rw [Nat.add_sub_cancel] at z
    rw [ln_c, if_neg z.2]
    have := ln_c_le s x
    omega
  · exact ln_c_le s L
end
section
/-! the table: what X's arrays hold for the commands of the script -/
section TB_1
variable {s : Nat → Int32} {L : Nat}
/-- a regex g in slot j -/
def tb_R (sa ea ac ach ast : Nat → Int32) (j : Nat) (g : Nat × Nat × Nat × Nat × (Nat → Int32) × (Nat → Int32)) : Prop :=
  sa j = nI g.2.1 ∧ ea j = nI g.2.2.1 ∧ ac j = nI g.2.2.2.1 ∧ ∀ i, i < g.2.2.2.1 → ach (j * 12 + i) = g.2.2.2.2.1 i ∧ ast (j * 12 + i) = g.2.2.2.2.2 i
/-- an address of kind kd and value v in slot j -/
def tb_A (s : Nat → Int32) (L : Nat) (adr sa ea ac ach ast : Nat → Int32) (j kd : Nat) (v : Int32) : Prop :=
  (kd = 0 ∧ adr j = 0) ∨ (kd = 1 ∧ adr j = v ∧ ∃ m : Nat, 1 ≤ m ∧ m ≤ 255 ∧ v = nI m) ∨ (kd = 2 ∧ adr j = -1) ∨ (kd = 3 ∧ adr j = -2 ∧ ∃ p g, p ≤ L ∧ v = nI p ∧ rg_x s L p = some g ∧ tb_R sa ea ac ach ast j g)
/-- X's code of a replacement's item -/
def tb_c (s : Nat → Int32) (p : Nat) : Int32 := if tx_e s p = 0 ∧ tx_c s p = 38 then -1 else tx_c s p
/-- command k, whose parse is d, in X's arrays -/
def tb_X (s : Nat → Int32) (L : Nat) (vb ng ev lst lsz rst ren rep adr sa ea ac ach ast : Nat → Int32) (k : Nat) (d : (Nat × (Nat × Int32) × (Nat × Int32) × Int32 × Nat) × Int32 × ((Nat × Nat) × (Nat × Nat × Nat × Int32) × Nat) × Nat) : Prop :=
  vb k = d.2.1 ∧ ng k = d.1.2.2.2.1 ∧ tb_A s L adr sa ea ac ach ast (k * 3) d.1.2.1.1 d.1.2.1.2 ∧ tb_A s L adr sa ea ac ach ast (k * 3 + 1) d.1.2.2.1.1 d.1.2.2.1.2
  ∧ (d.2.1 = 115 → ev k = d.2.2.1.2.1.2.2.2 ∧ rst k = nI d.2.2.1.2.1.2.1 ∧ ren k = nI (d.2.2.1.2.1.2.1 + d.2.2.1.2.1.2.2.1) ∧ (∀ j, j < d.2.2.1.2.1.2.2.1 → rep (d.2.2.1.2.1.2.1 + j) = tb_c s (tx_p s d.2.2.1.2.1.2.1 j)) ∧ ∃ g, rg_x s L d.2.2.1.2.1.1 = some g ∧ tb_R sa ea ac ach ast (k * 3 + 2) g)
  ∧ ((d.2.1 = 58 ∨ d.2.1 = 98 ∨ d.2.1 = 116) → lst k = nI d.2.2.1.1.1 ∧ lsz k = nI d.2.2.1.1.2)
theorem tb_R_fr {sa ea ac ach ast sa' ea' ac' ach' ast' : Nat → Int32} {j : Nat} {g : Nat × Nat × Nat × Nat × (Nat → Int32) × (Nat → Int32)} (hna : g.2.2.2.1 ≤ 12) (h1 : sa' j = sa j) (h2 : ea' j = ea j) (h3 : ac' j = ac j) (h4 : ∀ x, x < (j + 1) * 12 → j * 12 ≤ x → ach' x = ach x ∧ ast' x = ast x) (h : tb_R sa ea ac ach ast j g) : tb_R sa' ea' ac' ach' ast' j g := by
  obtain ⟨a, b, c, d⟩ := h
  refine ⟨h1.trans a, h2.trans b, h3.trans c, fun i hi => ?_⟩
  have := h4 (j * 12 + i) (by omega) (by omega)
  rw [this.1, this.2]
  exact d i hi
theorem rg_x_12 {q : Nat} {g : Nat × Nat × Nat × Nat × (Nat → Int32) × (Nat → Int32)} (h : rg_x s L q = some g) : g.2.2.2.1 ≤ 12 ∧ (∀ i, g.2.2.2.2.2 i = 0 ∨ g.2.2.2.2.2 i = 1) ∧ g.2.1 ≤ 1 ∧ g.2.2.1 ≤ 1 := by
  unfold rg_x at h
  cases e : tx_n s L q with
  | none => rw [e] at h; exact absurd h (by simp)
  | some n =>
    rw [e] at h
    dsimp only at h
    split at h
    · exact absurd h (by simp)
    · split at h
      · exact absurd h (by simp)
      · rename_i g0 e2
        have t := (Option.some.inj h).symm
        have f := rg_le12 _ _ e2
        rw [t]
        exact ⟨f.1, f.2, rg_A1 s q, rg_B1 s q n⟩
theorem tb_A_fr {adr sa ea ac ach ast adr' sa' ea' ac' ach' ast' : Nat → Int32} {j kd : Nat} {v : Int32} (h0 : adr' j = adr j) (h1 : sa' j = sa j) (h2 : ea' j = ea j) (h3 : ac' j = ac j) (h4 : ∀ x, x < (j + 1) * 12 → j * 12 ≤ x → ach' x = ach x ∧ ast' x = ast x) (h : tb_A s L adr sa ea ac ach ast j kd v) : tb_A s L adr' sa' ea' ac' ach' ast' j kd v := by
  rcases h with ⟨a, b⟩ | ⟨a, b, c⟩ | ⟨a, b⟩ | ⟨a, b, p, g, c0, c, d, e⟩
  · exact Or.inl ⟨a, h0.trans b⟩
  · exact Or.inr (Or.inl ⟨a, h0.trans b, c⟩)
  · exact Or.inr (Or.inr (Or.inl ⟨a, h0.trans b⟩))
  · exact Or.inr (Or.inr (Or.inr ⟨a, h0.trans b, p, g, c0, c, d, tb_R_fr (rg_x_12 d).1 h1 h2 h3 h4 e⟩))
/-- the cells of the commands below k, and the pool below q, are the same -/
def tb_S (k q : Nat) (vb ng ev lst lsz rst ren rep adr sa ea ac ach ast vb' ng' ev' lst' lsz' rst' ren' rep' adr' sa' ea' ac' ach' ast' : Nat → Int32) : Prop :=
  (∀ j, j < k → vb' j = vb j ∧ ng' j = ng j ∧ ev' j = ev j ∧ lst' j = lst j ∧ lsz' j = lsz j ∧ rst' j = rst j ∧ ren' j = ren j) ∧ (∀ j, j < q → rep' j = rep j) ∧ (∀ j, j < k * 3 → adr' j = adr j ∧ sa' j = sa j ∧ ea' j = ea j ∧ ac' j = ac j) ∧ (∀ j, j < k * 36 → ach' j = ach j ∧ ast' j = ast j)
theorem tb_X_fr {vb ng ev lst lsz rst ren rep adr sa ea ac ach ast vb' ng' ev' lst' lsz' rst' ren' rep' adr' sa' ea' ac' ach' ast' : Nat → Int32} {k c q : Nat} {d : (Nat × (Nat × Int32) × (Nat × Int32) × Int32 × Nat) × Int32 × ((Nat × Nat) × (Nat × Nat × Nat × Int32) × Nat) × Nat} (hS : tb_S c q vb ng ev lst lsz rst ren rep adr sa ea ac ach ast vb' ng' ev' lst' lsz' rst' ren' rep' adr' sa' ea' ac' ach' ast') (hk : k < c) (hq : d.2.2.1.2.1.2.1 + d.2.2.1.2.1.2.2.1 ≤ q) (h : tb_X s L vb ng ev lst lsz rst ren rep adr sa ea ac ach ast k d) : tb_X s L vb' ng' ev' lst' lsz' rst' ren' rep' adr' sa' ea' ac' ach' ast' k d := by
  obtain ⟨s1, s2, s3, s4⟩ := hS
  obtain ⟨c1, c2, c3, c4, c5, c6, c7⟩ := s1 k hk
  obtain ⟨h1, h2, h3, h4, h5, h6⟩ := h
  have fr : ∀ j, j < k * 3 + 3 → ∀ x, x < (j + 1) * 12 → j * 12 ≤ x → ach' x = ach x ∧ ast' x = ast x := fun j hj x hx _ => s4 x (by omega)
  have f3 := fun j (hj : j < k * 3 + 3) => s3 j (by omega)
  refine ⟨c1.trans h1, c2.trans h2, ?_, ?_, fun z => ?_, fun z => ?_⟩
  · have a := f3 (k * 3) (by omega)
    exact tb_A_fr a.1 a.2.1 a.2.2.1 a.2.2.2 (fr (k * 3) (by omega)) h3
  · have a := f3 (k * 3 + 1) (by omega)
    exact tb_A_fr a.1 a.2.1 a.2.2.1 a.2.2.2 (fr (k * 3 + 1) (by omega)) h4
  · obtain ⟨e1, e2, e3, e4, g, e5, e6⟩ := h5 z
    have a := f3 (k * 3 + 2) (by omega)
    refine ⟨c3.trans e1, c6.trans e2, c7.trans e3, fun j hj => ?_, g, e5, tb_R_fr (rg_x_12 e5).1 a.2.1 a.2.2.1 a.2.2.2 (fr (k * 3 + 2) (by omega)) e6⟩
    rw [s2 _ (by omega)]
    exact e4 j hj
  · obtain ⟨e1, e2⟩ := h6 z
    exact ⟨c4.trans e1, c5.trans e2⟩
/-- equal labels -/
def lb_E (s : Nat → Int32) (a la b lb : Nat) : Prop := la = lb ∧ ∀ j, j < la → s (a + j) = s (b + j)
theorem lb_sym {a la b lb : Nat} (h : lb_E s a la b lb) : lb_E s b lb a la := ⟨h.1.symm, fun j hj => (h.2 j (by rw [h.1]; exact hj)).symm⟩
end TB_1
end
section
/-! the run as a pure machine: its state (Mout, Mo, Mpat, Mp, Mhold, Mh, Mm, Mq, Mst, Mt, Mac) is output and its length, pattern space and its length, hold space and its length, lines read, the next line's start, steps, the t flag, the activation lines -/
abbrev rn_T : Type := (Nat → Int32) × Nat × (Nat → Int32) × Nat × (Nat → Int32) × Nat × Nat × Nat × Nat × Int32 × (Nat → Int32)
abbrev cm_T : Type := (Nat × (Nat × Int32) × (Nat × Int32) × Int32 × Nat) × Int32 × ((Nat × Nat) × (Nat × Nat × Nat × Int32) × Nat) × Nat
/-- n cells of f from a on, copied into g from b on -/
def cp_y (f : Nat → Int32) (a : Nat) (g : Nat → Int32) (b n : Nat) : Nat → Int32 := fun j => if b ≤ j ∧ j < b + n then f (a + (j - b)) else g j
theorem cp_0 (f : Nat → Int32) (a : Nat) (g : Nat → Int32) (b : Nat) : cp_y f a g b 0 = g := by
  funext j
  unfold cp_y
  rw [if_neg (by omega)]
theorem cp_s (f : Nat → Int32) (a : Nat) (g : Nat → Int32) (b n : Nat) : upd (cp_y f a g b n) (b + n) (f (a + n)) = cp_y f a g b (n + 1) := by
  funext j
  unfold cp_y upd
  by_cases h : j = b + n
  · rw [if_pos h, if_pos (by omega), h, Nat.add_sub_cancel_left]
  · rw [if_neg h]
    dsimp only
    by_cases h2 : b ≤ j ∧ j < b + n
    · rw [if_pos h2, if_pos (by omega)]
    · rw [if_neg h2, if_neg (by omega)]
theorem cp_u (f : Nat → Int32) (a : Nat) (g : Nat → Int32) (b n k : Nat) (x : Int32) (h : k < b) : cp_y f a (upd g k x) b n = upd (cp_y f a g b n) k x := by
  funext j
  unfold cp_y upd
  by_cases h1 : j = k
  · rw [if_pos h1, if_neg (by omega), if_pos h1]
  · rw [if_neg h1, if_neg h1]
theorem cp_c {f f' : Nat → Int32} {a : Nat} {g : Nat → Int32} {b n : Nat} (h : ∀ j, j < n → f (a + j) = f' (a + j)) : cp_y f a g b n = cp_y f' a g b n := by
  funext j
  unfold cp_y
  split
  · exact h (j - b) (by omega)
  · rfl
/-! substitution -/
/-- the chars of T from a to b -/
def sl_x (T : Nat → Int32) (a : Nat) : Nat → List Int32
  | 0 => []
  | n + 1 => sl_x T a n ++ [T (a + n)]
/-- the first t items of the replacement at rp, for the match i to j -/
def sl_r (s T : Nat → Int32) (rp i j : Nat) : Nat → List Int32
  | 0 => []
  | t + 1 => sl_r s T rp i j t ++ (if tb_c s (tx_p s rp t) = -1 then sl_x T i (j - i) else [tb_c s (tx_p s rp t)])
/-- the loop: from place p, with R so far -/
def sb_x (s : Nat → Int32) (L : Nat) (T : Nat → Int32) (n : Nat) (g : Nat × Nat × Nat × Nat × (Nat → Int32) × (Nat → Int32)) (rp rn : Nat) (ev : Int32) : Nat → Nat → List Int32 → Int32 → Nat × List Int32 × Int32
  | 0, p, R, tk => (p, R, tk)
  | f + 1, p, R, tk => match mt_1 T n g.2.2.2.2.1 g.2.2.2.2.2 g.2.2.2.1 g.2.1 g.2.2.1 p with
    | none => (p, R, tk)
    | some r =>
      if ev = 0 ∨ (r.2 = r.1 ∧ r.1 = n) then ((if r.2 = r.1 then r.1 + 1 else r.2), R ++ sl_x T p (r.1 - p) ++ sl_r s T rp r.1 r.2 rn ++ (if r.2 = r.1 ∧ r.1 < n then [T r.1] else []), 1)
      else sb_x s L T n g rp rn ev f (if r.2 = r.1 then r.1 + 1 else r.2) (R ++ sl_x T p (r.1 - p) ++ sl_r s T rp r.1 r.2 rn ++ (if r.2 = r.1 ∧ r.1 < n then [T r.1] else [])) 1
def sb_f (l : List Int32) : Nat → Int32 := fun j => l.getD j 0
section RN_1
variable (s inp : Nat → Int32) (L I F n : Nat) (qt : Int32) (tg : Nat → Nat) (D : Nat → cm_T)
def rn_print (z : rn_T) : Option rn_T := match z with
  | (Mout, Mo, Mpat, Mp, Mhold, Mh, Mm, Mq, Mst, Mt, Mac) => if 256 < Mo + Mp + 1 then none else some (upd (cp_y Mpat 0 Mout Mo Mp) (Mo + Mp) 10, Mo + Mp + 1, Mpat, Mp, Mhold, Mh, Mm, Mq, Mst, Mt, Mac)
def rn_H (kd : Nat) (v : Int32) (z : rn_T) : Bool := match z with
  | (Mout, Mo, Mpat, Mp, Mhold, Mh, Mm, Mq, Mst, Mt, Mac) => if kd = 1 then decide (v = nI Mm) else if kd = 2 then decide (I ≤ Mq) else
    match rg_x s L v.toNatClampNeg with
    | none => false
    | some g => (mt_1 Mpat Mp g.2.2.2.2.1 g.2.2.2.2.2 g.2.2.2.1 g.2.1 g.2.2.1 0).isSome
/-- is command k (parse d) selected, and the activation lines then -/
def rn_sel (d : cm_T) (k : Nat) (z : rn_T) : Bool × (Nat → Int32) := match z with
  | (Mout, Mo, Mpat, Mp, Mhold, Mh, Mm, Mq, Mst, Mt, Mac) =>
    if d.1.1 = 0 then (true, Mac)
    else if d.1.1 = 1 then ((rn_H s L I d.1.2.1.1 d.1.2.1.2 z != decide (d.1.2.2.2.1 = 1)), Mac)
    else if Mac k = 0 then
      (if rn_H s L I d.1.2.1.1 d.1.2.1.2 z = true then ((true != decide (d.1.2.2.2.1 = 1)), if d.1.2.2.1.1 = 1 ∧ d.1.2.2.1.2 ≤ nI Mm then Mac else upd Mac k (nI Mm))
       else ((false != decide (d.1.2.2.2.1 = 1)), Mac))
    else ((true != decide (d.1.2.2.2.1 = 1)), if Mac k < nI Mm ∧ ((d.1.2.2.1.1 = 1 ∧ d.1.2.2.1.2 ≤ nI Mm) ∨ (¬ d.1.2.2.1.1 = 1 ∧ rn_H s L I d.1.2.2.1.1 d.1.2.2.1.2 z = true)) then upd Mac k 0 else Mac)
def rn_sub (d : cm_T) (z : rn_T) : Int32 × rn_T := match z with
  | (Mout, Mo, Mpat, Mp, Mhold, Mh, Mm, Mq, Mst, Mt, Mac) => match rg_x s L d.2.2.1.2.1.1 with
    | none => (-1, z)
    | some g => match sb_x s L Mpat Mp g d.2.2.1.2.1.2.1 d.2.2.1.2.1.2.2.1 d.2.2.1.2.1.2.2.2 65 0 [] 0 with
      | (p, R, tk) => if tk = 0 then (-1, z) else
        if 64 < (R ++ sl_x Mpat p (Mp - p)).length then (3, z)
        else (-1, (Mout, Mo, cp_y (sb_f (R ++ sl_x Mpat p (Mp - p))) 0 Mpat 0 (R ++ sl_x Mpat p (Mp - p)).length, (R ++ sl_x Mpat p (Mp - p)).length, Mhold, Mh, Mm, Mq, Mst, 1, Mac))
def rn_N (z : rn_T) : Int32 × rn_T := match z with
  | (Mout, Mo, Mpat, Mp, Mhold, Mh, Mm, Mq, Mst, Mt, Mac) =>
    if I ≤ Mq then (if qt = 0 then (match rn_print z with | none => (3, z) | some z' => (0, z')) else (0, z))
    else if 64 < Mp + 1 + (ln_e inp I Mq - Mq) then (3, z)
    else (-1, (Mout, Mo, upd (cp_y inp Mq Mpat (Mp + 1) (ln_e inp I Mq - Mq)) Mp 10, Mp + 1 + (ln_e inp I Mq - Mq), Mhold, Mh, Mm + 1, ln_e inp I Mq + 1, Mst, Mt, Mac))
def rn_act (d : cm_T) (k : Nat) (z : rn_T) : Int32 × Nat × rn_T := match z with
  | (Mout, Mo, Mpat, Mp, Mhold, Mh, Mm, Mq, Mst, Mt, Mac) =>
    if d.2.1 = 115 then ((rn_sub s L d z).1, k + 1, (rn_sub s L d z).2)
    else if d.2.1 = 100 then (-2, k + 1, (Mout, Mo, Mpat, 0, Mhold, Mh, Mm, Mq, Mst, Mt, Mac))
    else if d.2.1 = 112 then (match rn_print z with | none => (3, k + 1, z) | some z' => (-1, k + 1, z'))
    else if d.2.1 = 78 then ((rn_N inp I qt z).1, k + 1, (rn_N inp I qt z).2)
    else if d.2.1 = 104 then (-1, k + 1, (Mout, Mo, Mpat, Mp, cp_y Mpat 0 Mhold 0 Mp, Mp, Mm, Mq, Mst, Mt, Mac))
    else if d.2.1 = 103 then (-1, k + 1, (Mout, Mo, cp_y Mhold 0 Mpat 0 Mh, Mh, Mhold, Mh, Mm, Mq, Mst, Mt, Mac))
    else if d.2.1 = 72 then (if 64 < Mh + 1 + Mp then (3, k + 1, z) else (-1, k + 1, (Mout, Mo, Mpat, Mp, cp_y Mpat 0 (upd Mhold Mh 10) (Mh + 1) Mp, Mh + 1 + Mp, Mm, Mq, Mst, Mt, Mac)))
    else if d.2.1 = 71 then (if 64 < Mp + 1 + Mh then (3, k + 1, z) else (-1, k + 1, (Mout, Mo, cp_y Mhold 0 (upd Mpat Mp 10) (Mp + 1) Mh, Mp + 1 + Mh, Mhold, Mh, Mm, Mq, Mst, Mt, Mac)))
    else if d.2.1 = 120 then (-1, k + 1, (Mout, Mo, cp_y Mhold 0 Mpat 0 64, Mh, cp_y Mpat 0 Mhold 0 64, Mp, Mm, Mq, Mst, Mt, Mac))
    else if d.2.1 = 98 then (-1, tg k, z)
    else if d.2.1 = 116 then (if Mt = 0 then (-1, k + 1, z) else (-1, tg k, (Mout, Mo, Mpat, Mp, Mhold, Mh, Mm, Mq, Mst, 0, Mac)))
    else (-1, k + 1, z)
def rn_step (k : Nat) (z : rn_T) : Int32 × Nat × rn_T := match z with
  | (Mout, Mo, Mpat, Mp, Mhold, Mh, Mm, Mq, Mst, Mt, Mac) => if F ≤ Mst then (2, k, z) else
    if (rn_sel s L I (D k) k (Mout, Mo, Mpat, Mp, Mhold, Mh, Mm, Mq, Mst + 1, Mt, Mac)).1 = true then rn_act s inp L I qt tg (D k) k (Mout, Mo, Mpat, Mp, Mhold, Mh, Mm, Mq, Mst + 1, Mt, (rn_sel s L I (D k) k (Mout, Mo, Mpat, Mp, Mhold, Mh, Mm, Mq, Mst + 1, Mt, Mac)).2)
    else (-1, k + 1, (Mout, Mo, Mpat, Mp, Mhold, Mh, Mm, Mq, Mst + 1, Mt, (rn_sel s L I (D k) k (Mout, Mo, Mpat, Mp, Mhold, Mh, Mm, Mq, Mst + 1, Mt, Mac)).2))
def rn_in : Nat → Nat → rn_T → Int32 × rn_T
  | 0, _, z => (2, z)
  | f + 1, k, z => if n ≤ k then (-1, z) else
    if (rn_step s inp L I F qt tg D k z).1 = -1 then rn_in f (rn_step s inp L I F qt tg D k z).2.1 (rn_step s inp L I F qt tg D k z).2.2
    else ((rn_step s inp L I F qt tg D k z).1, (rn_step s inp L I F qt tg D k z).2.2)
/-- the beginning of a cycle -/
def rn_beg (z : rn_T) : Int32 × rn_T := match z with
  | (Mout, Mo, Mpat, Mp, Mhold, Mh, Mm, Mq, Mst, Mt, Mac) => if I ≤ Mq then (0, z) else if 64 < ln_e inp I Mq - Mq then (3, z)
    else (-1, (Mout, Mo, cp_y inp Mq Mpat 0 (ln_e inp I Mq - Mq), ln_e inp I Mq - Mq, Mhold, Mh, Mm + 1, ln_e inp I Mq + 1, Mst, 0, Mac))
/-- the end of a cycle -/
def rn_end (r : Int32) (z : rn_T) : Int32 × rn_T := if r = -1 then (if qt = 0 then (match rn_print z with | none => (3, z) | some z' => (-1, z')) else (-1, z)) else if r = -2 then (-1, z) else (r, z)
def rn_cyc (z : rn_T) : Int32 × rn_T := if (rn_beg inp I z).1 = -1 then rn_end qt (rn_in s inp L I F n qt tg D (F + 2) 0 (rn_beg inp I z).2).1 (rn_in s inp L I F n qt tg D (F + 2) 0 (rn_beg inp I z).2).2 else rn_beg inp I z
def rn_out : Nat → rn_T → Int32 × rn_T
  | 0, z => (0, z)
  | f + 1, z => if (rn_cyc s inp L I F n qt tg D z).1 = -1 then rn_out f (rn_cyc s inp L I F n qt tg D z).2 else rn_cyc s inp L I F n qt tg D z
/-- what every state of a run keeps -/
def rn_ok (z : rn_T) : Prop := match z with
  | (Mout, Mo, Mpat, Mp, Mhold, Mh, Mm, Mq, Mst, Mt, Mac) => Mo ≤ 256 ∧ Mp ≤ 64 ∧ Mh ≤ 64 ∧ Mst ≤ F ∧ ln_I inp I Mm Mq ∧ (Mt = 0 ∨ Mt = 1)
end RN_1
end
section
/-! what the machine keeps -/
section RN_2
variable {s inp : Nat → Int32} {L I F n : Nat} {qt : Int32} {tg : Nat → Nat} {D : Nat → cm_T}
theorem rn_print_ok {z z' : rn_T} (h : rn_ok inp I F z) (e : rn_print z = some z') : rn_ok inp I F z' ∧ z'.2.2.2.2.2.2.2.1 = z.2.2.2.2.2.2.2.1 ∧ z'.2.2.2.2.2.2.2.2.1 = z.2.2.2.2.2.2.2.2.1 := by
  obtain ⟨Mout, Mo, Mpat, Mp, Mhold, Mh, Mm, Mq, Mst, Mt, Mac⟩ := z
  unfold rn_print at e
  dsimp only at e
  split at e
  · exact absurd e (by simp)
  · have t := (Option.some.inj e).symm
    obtain ⟨h1, h2, h3, h4, h5, h6⟩ := h
    rw [t]
    exact ⟨⟨by omega, h2, h3, h4, h5, h6⟩, rfl, rfl⟩
theorem rn_sub_ok {z : rn_T} {d : cm_T} (h : rn_ok inp I F z) : rn_ok inp I F (rn_sub s L d z).2 ∧ (rn_sub s L d z).2.2.2.2.2.2.2.2.1 = z.2.2.2.2.2.2.2.1 ∧ (rn_sub s L d z).2.2.2.2.2.2.2.2.2.1 = z.2.2.2.2.2.2.2.2.1 := by
  obtain ⟨Mout, Mo, Mpat, Mp, Mhold, Mh, Mm, Mq, Mst, Mt, Mac⟩ := z
  unfold rn_sub
  dsimp only
  split
  · exact ⟨h, rfl, rfl⟩
  · split
    · exact ⟨h, rfl, rfl⟩
    · split
      · exact ⟨h, rfl, rfl⟩
      · rename_i w
        obtain ⟨h1, h2, h3, h4, h5, h6⟩ := h
        exact ⟨⟨h1, by omega, h3, h4, h5, Or.inr rfl⟩, rfl, rfl⟩
theorem rn_N_ok {z : rn_T} (h : rn_ok inp I F z) : rn_ok inp I F (rn_N inp I qt z).2 ∧ z.2.2.2.2.2.2.2.1 ≤ (rn_N inp I qt z).2.2.2.2.2.2.2.2.1 ∧ (rn_N inp I qt z).2.2.2.2.2.2.2.2.2.1 = z.2.2.2.2.2.2.2.2.1 := by
  obtain ⟨Mout, Mo, Mpat, Mp, Mhold, Mh, Mm, Mq, Mst, Mt, Mac⟩ := z
  unfold rn_N
  dsimp only
  split
  · split
    · split
      · exact ⟨h, Nat.le_refl _, rfl⟩
      · rename_i z' e
        obtain ⟨a, b, c⟩ := rn_print_ok h e
        exact ⟨a, Nat.le_of_eq b.symm, c⟩
    · exact ⟨h, Nat.le_refl _, rfl⟩
  · split
    · exact ⟨h, Nat.le_refl _, rfl⟩
    · rename_i w1 w2
      obtain ⟨h1, h2, h3, h4, h5, h6⟩ := h
      have g := sc_ge (P := pb_n inp) (L := I) (q := Mq) (by omega)
      refine ⟨⟨h1, by omega, h3, h4, ln_next h5 (by omega), h6⟩, ?_, rfl⟩
      show Mq ≤ ln_e inp I Mq + 1
      unfold ln_e
      omega
def rn_P (inp : Nat → Int32) (I F n : Nat) (z : rn_T) (r : Int32 × Nat × rn_T) : Prop := rn_ok inp I F r.2.2 ∧ r.2.1 ≤ n ∧ z.2.2.2.2.2.2.2.1 ≤ r.2.2.2.2.2.2.2.2.2.1 ∧ r.2.2.2.2.2.2.2.2.2.2.1 = z.2.2.2.2.2.2.2.2.1
theorem rn_act_ok {z : rn_T} {d : cm_T} {k : Nat} (h : rn_ok inp I F z) (hk : k < n) (ht : tg k ≤ n) : rn_P inp I F n z (rn_act s inp L I qt tg d k z) := by
  obtain ⟨Mout, Mo, Mpat, Mp, Mhold, Mh, Mm, Mq, Mst, Mt, Mac⟩ := z
  have h0 := h
  obtain ⟨h1, h2, h3, h4, h5, h6⟩ := h
  unfold rn_act
  dsimp only
  by_cases c0 : d.2.1 = 115
  · rw [if_pos c0]
    obtain ⟨a, b, c⟩ := rn_sub_ok (s := s) (L := L) (d := d) h0
    exact ⟨a, by show k + 1 ≤ n; omega, Nat.le_of_eq b.symm, c⟩
  rw [if_neg c0]
  by_cases c1 : d.2.1 = 100
  · rw [if_pos c1]
    exact ⟨⟨h1, by omega, h3, h4, h5, h6⟩, by show k + 1 ≤ n; omega, Nat.le_refl _, rfl⟩
  rw [if_neg c1]
  by_cases c2 : d.2.1 = 112
  · rw [if_pos c2]
    split
    · exact ⟨h0, by show k + 1 ≤ n; omega, Nat.le_refl _, rfl⟩
    · rename_i z' e
      obtain ⟨a, b, c⟩ := rn_print_ok h0 e
      exact ⟨a, by show k + 1 ≤ n; omega, Nat.le_of_eq b.symm, c⟩
  rw [if_neg c2]
  by_cases c3 : d.2.1 = 78
  · rw [if_pos c3]
    obtain ⟨a, b, c⟩ := rn_N_ok (qt := qt) h0
    exact ⟨a, by show k + 1 ≤ n; omega, b, c⟩
  rw [if_neg c3]
  by_cases c4 : d.2.1 = 104
  · rw [if_pos c4]
    exact ⟨⟨h1, h2, h2, h4, h5, h6⟩, by show k + 1 ≤ n; omega, Nat.le_refl _, rfl⟩
  rw [if_neg c4]
  by_cases c5 : d.2.1 = 103
  · rw [if_pos c5]
    exact ⟨⟨h1, h3, h3, h4, h5, h6⟩, by show k + 1 ≤ n; omega, Nat.le_refl _, rfl⟩
  rw [if_neg c5]
  by_cases c6 : d.2.1 = 72
  · rw [if_pos c6]
    split
    · exact ⟨h0, by show k + 1 ≤ n; omega, Nat.le_refl _, rfl⟩
    · exact ⟨⟨h1, h2, by omega, h4, h5, h6⟩, by show k + 1 ≤ n; omega, Nat.le_refl _, rfl⟩
  rw [if_neg c6]
  by_cases c7 : d.2.1 = 71
  · rw [if_pos c7]
    split
    · exact ⟨h0, by show k + 1 ≤ n; omega, Nat.le_refl _, rfl⟩
    · exact ⟨⟨h1, by omega, h3, h4, h5, h6⟩, by show k + 1 ≤ n; omega, Nat.le_refl _, rfl⟩
  rw [if_neg c7]
  by_cases c8 : d.2.1 = 120
  · rw [if_pos c8]
    exact ⟨⟨h1, h3, h2, h4, h5, h6⟩, by show k + 1 ≤ n; omega, Nat.le_refl _, rfl⟩
  rw [if_neg c8]
  by_cases c9 : d.2.1 = 98
  · rw [if_pos c9]
    exact ⟨h0, ht, Nat.le_refl _, rfl⟩
  rw [if_neg c9]
  by_cases c10 : d.2.1 = 116
  · rw [if_pos c10]
    split
    · exact ⟨h0, by show k + 1 ≤ n; omega, Nat.le_refl _, rfl⟩
    · exact ⟨⟨h1, h2, h3, h4, h5, Or.inl rfl⟩, ht, Nat.le_refl _, rfl⟩
  · rw [if_neg c10]
    exact ⟨h0, by show k + 1 ≤ n; omega, Nat.le_refl _, rfl⟩
theorem rn_step_ok {z : rn_T} {k : Nat} (h : rn_ok inp I F z) (hk : k < n) (ht : tg k ≤ n) : rn_ok inp I F (rn_step s inp L I F qt tg D k z).2.2 ∧ ((rn_step s inp L I F qt tg D k z).1 = -1 → (rn_step s inp L I F qt tg D k z).2.1 ≤ n ∧ (rn_step s inp L I F qt tg D k z).2.2.2.2.2.2.2.2.2.2.1 = z.2.2.2.2.2.2.2.2.1 + 1) ∧ z.2.2.2.2.2.2.2.1 ≤ (rn_step s inp L I F qt tg D k z).2.2.2.2.2.2.2.2.2.1 := by
  obtain ⟨Mout, Mo, Mpat, Mp, Mhold, Mh, Mm, Mq, Mst, Mt, Mac⟩ := z
  have h0 := h
  obtain ⟨h1, h2, h3, h4, h5, h6⟩ := h
  unfold rn_step
  dsimp only
  split
  · exact ⟨h0, fun z => absurd z (by decide : ¬ (2 : Int32) = -1), Nat.le_refl _⟩
  · rename_i w
    split
    · have ha : rn_ok inp I F (Mout, Mo, Mpat, Mp, Mhold, Mh, Mm, Mq, Mst + 1, Mt, (rn_sel s L I (D k) k (Mout, Mo, Mpat, Mp, Mhold, Mh, Mm, Mq, Mst + 1, Mt, Mac)).2) := ⟨h1, h2, h3, by omega, h5, h6⟩
      obtain ⟨a, b, c, e⟩ := rn_act_ok (s := s) (L := L) (qt := qt) (tg := tg) (d := D k) ha hk ht
      exact ⟨a, fun _ => ⟨b, e⟩, c⟩
    · exact ⟨⟨h1, h2, h3, by omega, h5, h6⟩, fun _ => ⟨by show k + 1 ≤ n; omega, rfl⟩, Nat.le_refl _⟩
theorem rn_in_ok (ht : ∀ k, k < n → tg k ≤ n) : ∀ f k z, rn_ok inp I F z → rn_ok inp I F (rn_in s inp L I F n qt tg D f k z).2 ∧ z.2.2.2.2.2.2.2.1 ≤ (rn_in s inp L I F n qt tg D f k z).2.2.2.2.2.2.2.2.1 := by
  intro f
  induction f with
  | zero => intro k z h; exact ⟨h, Nat.le_refl _⟩
  | succ f ih =>
    intro k z h
    rw [rn_in]
    split
    · exact ⟨h, Nat.le_refl _⟩
    · rename_i w
      obtain ⟨a, b, c⟩ := rn_step_ok (s := s) (L := L) (qt := qt) (tg := tg) (D := D) h (show k < n by omega) (ht k (by omega))
      split
      · obtain ⟨d, e⟩ := ih (rn_step s inp L I F qt tg D k z).2.1 _ a
        exact ⟨d, Nat.le_trans c e⟩
      · exact ⟨a, c⟩
theorem rn_beg_ok {z : rn_T} (h : rn_ok inp I F z) : rn_ok inp I F (rn_beg inp I z).2 ∧ ((rn_beg inp I z).1 = -1 → z.2.2.2.2.2.2.2.1 < I ∧ z.2.2.2.2.2.2.2.1 < (rn_beg inp I z).2.2.2.2.2.2.2.2.1) := by
  obtain ⟨Mout, Mo, Mpat, Mp, Mhold, Mh, Mm, Mq, Mst, Mt, Mac⟩ := z
  have h0 := h
  obtain ⟨h1, h2, h3, h4, h5, h6⟩ := h
  unfold rn_beg
  dsimp only
  split
  · exact ⟨h0, fun z => absurd z (by decide : ¬ (0 : Int32) = -1)⟩
  · split
    · exact ⟨h0, fun z => absurd z (by decide : ¬ (3 : Int32) = -1)⟩
    · rename_i w1 w2
      have g := sc_ge (P := pb_n inp) (L := I) (q := Mq) (by omega)
      refine ⟨⟨h1, by omega, h3, h4, ln_next h5 (by omega), Or.inl rfl⟩, fun _ => ⟨by show Mq < I; omega, ?_⟩⟩
      show Mq < ln_e inp I Mq + 1
      unfold ln_e
      omega
theorem rn_end_ok {z : rn_T} {r : Int32} (h : rn_ok inp I F z) : rn_ok inp I F (rn_end qt r z).2 ∧ z.2.2.2.2.2.2.2.1 ≤ (rn_end qt r z).2.2.2.2.2.2.2.2.1 := by
  unfold rn_end
  split
  · split
    · split
      · exact ⟨h, Nat.le_refl _⟩
      · rename_i z' e
        obtain ⟨a, b, c⟩ := rn_print_ok h e
        exact ⟨a, Nat.le_of_eq b.symm⟩
    · exact ⟨h, Nat.le_refl _⟩
  · split
    · exact ⟨h, Nat.le_refl _⟩
    · exact ⟨h, Nat.le_refl _⟩
theorem rn_cyc_ok (ht : ∀ k, k < n → tg k ≤ n) {z : rn_T} (h : rn_ok inp I F z) : rn_ok inp I F (rn_cyc s inp L I F n qt tg D z).2 ∧ ((rn_cyc s inp L I F n qt tg D z).1 = -1 → z.2.2.2.2.2.2.2.1 < I ∧ z.2.2.2.2.2.2.2.1 < (rn_cyc s inp L I F n qt tg D z).2.2.2.2.2.2.2.2.1) := by
  obtain ⟨a, b⟩ := rn_beg_ok h
  unfold rn_cyc
  split
  · rename_i w
    obtain ⟨b1, b2⟩ := b w
    obtain ⟨c, d⟩ := rn_in_ok (s := s) (L := L) (qt := qt) (tg := tg) (D := D) ht (F + 2) 0 _ a
    obtain ⟨e, f⟩ := rn_end_ok (qt := qt) (r := (rn_in s inp L I F n qt tg D (F + 2) 0 (rn_beg inp I z).2).1) c
    exact ⟨e, fun _ => ⟨b1, by omega⟩⟩
  · rename_i w
    exact ⟨a, fun y => absurd y w⟩
end RN_2
end
section
/-! the substitution's list, and an array that holds it as far as it has room -/
def rl_h (f : Nat → Int32) (R : List Int32) : Prop := ∀ j, j < R.length → j < 64 → f j = sb_f R j
theorem rl_0 (f : Nat → Int32) : rl_h f [] := fun j hj => absurd hj (by simp)
theorem rl_put {f : Nat → Int32} {R : List Int32} {c : Int32} (h : rl_h f R) (hl : R.length < 64) : rl_h (upd f R.length c) (R ++ [c]) := by
  intro j hj h64
  rw [List.length_append, List.length_singleton] at hj
  unfold upd sb_f
  by_cases e : j = R.length
  · rw [if_pos e, e]
    simp [List.getD_eq_getElem?_getD]
  · have hj2 : j < R.length := by omega
    rw [if_neg e, h j hj2 h64]
    unfold sb_f
    rw [List.getD_eq_getElem?_getD, List.getD_eq_getElem?_getD, List.getElem?_append_left hj2]
theorem rl_full {f : Nat → Int32} {R : List Int32} {c : Int32} (h : rl_h f R) (hl : ¬ R.length < 64) : rl_h f (R ++ [c]) := by
  intro j hj h64
  have hj2 : j < R.length := by omega
  rw [h j hj2 h64]
  unfold sb_f
  rw [List.getD_eq_getElem?_getD, List.getD_eq_getElem?_getD, List.getElem?_append_left hj2]
theorem rl_cp {f : Nat → Int32} {R : List Int32} {g : Nat → Int32} (h : rl_h f R) (hl : R.length ≤ 64) : cp_y f 0 g 0 R.length = cp_y (sb_f R) 0 g 0 R.length :=
  cp_c fun j hj => by rw [Nat.zero_add]; exact h j hj (by omega)
theorem sl_len (T : Nat → Int32) (a : Nat) : ∀ n, (sl_x T a n).length = n := by
  intro n
  induction n with
  | zero => rfl
  | succ n ih => rw [sl_x, List.length_append, ih]; rfl
theorem sl_rlen (s T : Nat → Int32) (rp i j : Nat) : ∀ t, (sl_r s T rp i j t).length ≤ t * (j - i + 1) := by
  intro t
  induction t with
  | zero => exact Nat.zero_le _
  | succ t ih =>
    rw [sl_r, List.length_append, Nat.succ_mul]
    split
    · rw [sl_len]; omega
    · rw [List.length_singleton]; omega
/-- a round's list, and the place behind it -/
def sb_R (s T : Nat → Int32) (n rp rn p : Nat) (R : List Int32) (r : Nat × Nat) : List Int32 := R ++ sl_x T p (r.1 - p) ++ sl_r s T rp r.1 r.2 rn ++ (if r.2 = r.1 ∧ r.1 < n then [T r.1] else [])
theorem sb_len {s T : Nat → Int32} {n rp rn p : Nat} {R : List Int32} {r : Nat × Nat} (hn : n ≤ 64) (hr : rn ≤ 128) (h : r.1 ≤ r.2 ∧ r.2 ≤ n) : (sb_R s T n rp rn p R r).length ≤ R.length + 8400 := by
  unfold sb_R
  have a := sl_rlen s T rp r.1 r.2 rn
  have b : rn * (r.2 - r.1 + 1) ≤ 128 * 65 := Nat.mul_le_mul hr (by omega)
  rw [List.length_append, List.length_append, List.length_append, sl_len]
  split
  · rw [List.length_singleton]; omega
  · rw [List.length_nil]; omega
theorem tb_c_amp {s : Nat → Int32} {L p : Nat} (hc : ch_ok s L) (h : p < L) (h92 : s p = 92 → p + 1 < L) : tb_c s p = -1 ↔ (tx_e s p = 0 ∧ tx_c s p = 38) := by
  unfold tb_c
  split
  · rename_i z; exact ⟨fun _ => z, fun _ => rfl⟩
  · rename_i z
    obtain ⟨m, hm, e⟩ := tx_c_ok hc h h92
    constructor
    · intro y
      rw [e] at y
      exact absurd (nI_pos (n := m) (by omega)) (by rw [y]; exact fun q => q (by decide))
    · intro y; exact absurd y z
end
section
/-! X's compiler: the script's chars -/
section XR_1
variable {Xquiet Xfuel XscriptSize XinputSize Xcursor XitemCount XtablePresent XcommandCount XoutputSize XpatternSize XholdSize XlineNumber XstepCount XnextLine Xpointer Xsubstituted XresultSize : Int32} {Xscript Xinput Xitems Xverb Xnegated Xeverywhere XlabelStart XlabelSize Xtarget XreplacementStart XreplacementEnd Xreplacement Xaddress XstartAnchor XendAnchor XatomCount XatomChar XatomStarred Xoutput Xpattern Xhold XactivationLine Xresult : Nat → Int32}
def xp_v (s : Nat → Int32) (L q : Nat) : Int32 := if q < L then s q else -1
theorem xp_lo {s : Nat → Int32} {L q : Nat} (h : q < L) : xp_v s L q = s q := if_pos h
theorem xp_hi {s : Nat → Int32} {L q : Nat} (h : L ≤ q) : xp_v s L q = -1 := if_neg (by omega)
theorem ch_n1 {s : Nat → Int32} {L p : Nat} (hc : ch_ok s L) (h : p < L) : ¬ s p = -1 := by
  obtain ⟨m, hm, e⟩ := hc p h
  rw [e]
  intro y
  exact absurd (nI_pos (n := m) (by omega)) (by rw [y]; exact fun q => q (by decide))
theorem xm_peek {L q : Nat} {post : Int32 → Prop} (hL : L ≤ 128) (hq : q ≤ L) (h : post (xp_v Xscript L q)) : wpX_peek post (Xquiet, Xfuel, nI L, XinputSize, nI q, XitemCount, XtablePresent, XcommandCount, XoutputSize, XpatternSize, XholdSize, XlineNumber, XstepCount, XnextLine, Xpointer, Xsubstituted, XresultSize, Xscript, Xinput, Xitems, Xverb, Xnegated, Xeverywhere, XlabelStart, XlabelSize, Xtarget, XreplacementStart, XreplacementEnd, Xreplacement, Xaddress, XstartAnchor, XendAnchor, XatomCount, XatomChar, XatomStarred, Xoutput, Xpattern, Xhold, XactivationLine, Xresult) := by
  unfold wpX_peek
  refine pk_le L q (fun g => ?_) (fun g => ⟨pk_in q 128 (by omega), ?_⟩)
  · rw [xp_hi g] at h; exact h
  · rw [xp_lo g] at h; rw [nI_clamp (by omega)]; exact h
theorem xm_take {L q : Nat} {post : Int32 → SX → Prop} (hL : L ≤ 128) (hq : q ≤ L) (h : post (xp_v Xscript L q) (Xquiet, Xfuel, nI L, XinputSize, nI (q + 1), XitemCount, XtablePresent, XcommandCount, XoutputSize, XpatternSize, XholdSize, XlineNumber, XstepCount, XnextLine, Xpointer, Xsubstituted, XresultSize, Xscript, Xinput, Xitems, Xverb, Xnegated, Xeverywhere, XlabelStart, XlabelSize, Xtarget, XreplacementStart, XreplacementEnd, Xreplacement, Xaddress, XstartAnchor, XendAnchor, XatomCount, XatomChar, XatomStarred, Xoutput, Xpattern, Xhold, XactivationLine, Xresult)) : wpX_take post (Xquiet, Xfuel, nI L, XinputSize, nI q, XitemCount, XtablePresent, XcommandCount, XoutputSize, XpatternSize, XholdSize, XlineNumber, XstepCount, XnextLine, Xpointer, Xsubstituted, XresultSize, Xscript, Xinput, Xitems, Xverb, Xnegated, Xeverywhere, XlabelStart, XlabelSize, Xtarget, XreplacementStart, XreplacementEnd, Xreplacement, Xaddress, XstartAnchor, XendAnchor, XatomCount, XatomChar, XatomStarred, Xoutput, Xpattern, Xhold, XactivationLine, Xresult) := by
  unfold wpX_take
  refine pk_le L q (fun g => ?_) (fun g => ⟨pk_in q 128 (by omega), ?_⟩)
  · rw [xp_hi g] at h; exact nm_r (nI_1 q) h
  · rw [xp_lo g] at h; rw [nI_clamp (by omega)]; exact nm_r (nI_1 q) h
theorem xm_skipBlanks {L q : Nat} {post : SX → Prop} (hL : L ≤ 128) (hq : q ≤ L) (h : post (Xquiet, Xfuel, nI L, XinputSize, nI (cm_sk Xscript L q), XitemCount, XtablePresent, XcommandCount, XoutputSize, XpatternSize, XholdSize, XlineNumber, XstepCount, XnextLine, Xpointer, Xsubstituted, XresultSize, Xscript, Xinput, Xitems, Xverb, Xnegated, Xeverywhere, XlabelStart, XlabelSize, Xtarget, XreplacementStart, XreplacementEnd, Xreplacement, Xaddress, XstartAnchor, XendAnchor, XatomCount, XatomChar, XatomStarred, Xoutput, Xpattern, Xhold, XactivationLine, Xresult)) : wpX_skipBlanks post (Xquiet, Xfuel, nI L, XinputSize, nI q, XitemCount, XtablePresent, XcommandCount, XoutputSize, XpatternSize, XholdSize, XlineNumber, XstepCount, XnextLine, Xpointer, Xsubstituted, XresultSize, Xscript, Xinput, Xitems, Xverb, Xnegated, Xeverywhere, XlabelStart, XlabelSize, Xtarget, XreplacementStart, XreplacementEnd, Xreplacement, Xaddress, XstartAnchor, XendAnchor, XatomCount, XatomChar, XatomStarred, Xoutput, Xpattern, Xhold, XactivationLine, Xresult) := by
  unfold wpX_skipBlanks
  refine ⟨L - q + 1, ?_⟩
  refine sc_loop (fun n q => wX_skipBlanks_0 post Xquiet Xfuel (nI L) XinputSize XitemCount XtablePresent XcommandCount XoutputSize XpatternSize XholdSize XlineNumber XstepCount XnextLine Xpointer Xsubstituted XresultSize Xscript Xinput Xitems Xverb Xnegated Xeverywhere XlabelStart XlabelSize Xtarget XreplacementStart XreplacementEnd Xreplacement Xaddress XstartAnchor XendAnchor XatomCount XatomChar XatomStarred Xoutput Xpattern Xhold XactivationLine Xresult n (nI q)) (pb_b Xscript) L (fun q => post (Xquiet, Xfuel, nI L, XinputSize, nI q, XitemCount, XtablePresent, XcommandCount, XoutputSize, XpatternSize, XholdSize, XlineNumber, XstepCount, XnextLine, Xpointer, Xsubstituted, XresultSize, Xscript, Xinput, Xitems, Xverb, Xnegated, Xeverywhere, XlabelStart, XlabelSize, Xtarget, XreplacementStart, XreplacementEnd, Xreplacement, Xaddress, XstartAnchor, XendAnchor, XatomCount, XatomChar, XatomStarred, Xoutput, Xpattern, Xhold, XactivationLine, Xresult)) ?_ ?_ (L - q + 1) q hq (by omega) h
  · intro n q hq hp hW
    refine br_f (nI_ge hq (by omega)) ⟨pk_in q 128 (by omega), ?_⟩
    rw [nI_clamp (by omega)]
    exact br_t (of_decide_eq_true hp) (nm_r (nI_1 q) hW)
  · intro n q hq hp hR
    refine pk_le L q (fun g => hR) (fun g => ⟨pk_in q 128 (by omega), ?_⟩)
    rw [nI_clamp (by omega)]
    exact br_f (of_decide_eq_false (hp g)) hR
theorem xm_skipSep {L q : Nat} {post : SX → Prop} (hL : L ≤ 128) (hq : q ≤ L) (h : post (Xquiet, Xfuel, nI L, XinputSize, nI (sc_e (pb_z Xscript) L q), XitemCount, XtablePresent, XcommandCount, XoutputSize, XpatternSize, XholdSize, XlineNumber, XstepCount, XnextLine, Xpointer, Xsubstituted, XresultSize, Xscript, Xinput, Xitems, Xverb, Xnegated, Xeverywhere, XlabelStart, XlabelSize, Xtarget, XreplacementStart, XreplacementEnd, Xreplacement, Xaddress, XstartAnchor, XendAnchor, XatomCount, XatomChar, XatomStarred, Xoutput, Xpattern, Xhold, XactivationLine, Xresult)) : wpX_skipSeparators post (Xquiet, Xfuel, nI L, XinputSize, nI q, XitemCount, XtablePresent, XcommandCount, XoutputSize, XpatternSize, XholdSize, XlineNumber, XstepCount, XnextLine, Xpointer, Xsubstituted, XresultSize, Xscript, Xinput, Xitems, Xverb, Xnegated, Xeverywhere, XlabelStart, XlabelSize, Xtarget, XreplacementStart, XreplacementEnd, Xreplacement, Xaddress, XstartAnchor, XendAnchor, XatomCount, XatomChar, XatomStarred, Xoutput, Xpattern, Xhold, XactivationLine, Xresult) := by
  unfold wpX_skipSeparators
  refine ⟨L - q + 1, ?_⟩
  refine sc_loop (fun n q => wX_skipSeparators_0 post Xquiet Xfuel (nI L) XinputSize XitemCount XtablePresent XcommandCount XoutputSize XpatternSize XholdSize XlineNumber XstepCount XnextLine Xpointer Xsubstituted XresultSize Xscript Xinput Xitems Xverb Xnegated Xeverywhere XlabelStart XlabelSize Xtarget XreplacementStart XreplacementEnd Xreplacement Xaddress XstartAnchor XendAnchor XatomCount XatomChar XatomStarred Xoutput Xpattern Xhold XactivationLine Xresult n (nI q)) (pb_z Xscript) L (fun q => post (Xquiet, Xfuel, nI L, XinputSize, nI q, XitemCount, XtablePresent, XcommandCount, XoutputSize, XpatternSize, XholdSize, XlineNumber, XstepCount, XnextLine, Xpointer, Xsubstituted, XresultSize, Xscript, Xinput, Xitems, Xverb, Xnegated, Xeverywhere, XlabelStart, XlabelSize, Xtarget, XreplacementStart, XreplacementEnd, Xreplacement, Xaddress, XstartAnchor, XendAnchor, XatomCount, XatomChar, XatomStarred, Xoutput, Xpattern, Xhold, XactivationLine, Xresult)) ?_ ?_ (L - q + 1) q hq (by omega) h
  · intro n q hq hp hW
    have hp := of_decide_eq_true hp
    have hi : vp_in (nI q) 128 := pk_in q 128 (by omega)
    refine br_f (nI_ge hq (by omega)) ⟨hi, ?_⟩
    rw [nI_clamp (by omega)]
    refine br_c (fun _ => nm_r (nI_1 q) hW) (fun h1 => ⟨hi, br_c (fun _ => nm_r (nI_1 q) hW) (fun h2 => ⟨hi, br_t ?_ (nm_r (nI_1 q) hW)⟩)⟩)
    rcases hp with z | z | z
    · exact absurd z h1
    · exact absurd z h2
    · exact z
  · intro n q hq hp hR
    have hi : q < L → vp_in (nI q) 128 := fun g => pk_in q 128 (by omega)
    refine pk_le L q (fun g => hR) (fun g => ⟨hi g, ?_⟩)
    have hp := of_decide_eq_false (hp g)
    rw [nI_clamp (by omega)]
    exact br_f (fun z => hp (Or.inl z)) ⟨hi g, br_f (fun z => hp (Or.inr (Or.inl z))) ⟨hi g, br_f (fun z => hp (Or.inr (Or.inr z))) hR⟩⟩
theorem xm_isDigit {s : Nat → Int32} {q : Nat} {post : Int32 → Prop} (h : post (if pb_d s q = true then 1 else 0)) : wpX_isDigit post (s q) := by
  unfold pb_d at h
  refine br_c (fun a => ?_) (fun a => br_c (fun b => ?_) (fun b => ?_))
  · rw [if_neg (by rw [decide_eq_true_eq]; intro z; exact absurd a (Int32.not_lt.mpr z.1))] at h; exact h
  · rw [if_neg (by rw [decide_eq_true_eq]; intro z; exact absurd b (Int32.not_lt.mpr z.2))] at h; exact h
  · rw [if_pos (by rw [decide_eq_true_eq]; exact ⟨Int32.not_lt.mp a, Int32.not_lt.mp b⟩)] at h; exact h
/-- the same, of what peek answers -/
def xp_d (s : Nat → Int32) (L q : Nat) : Int32 := if q < L ∧ pb_d s q = true then 1 else 0
theorem xm_isDigit' {s : Nat → Int32} {L q : Nat} {post : Int32 → Prop} (h : post (xp_d s L q)) : wpX_isDigit post (xp_v s L q) := by
  by_cases g : q < L
  · rw [xp_lo g]
    refine xm_isDigit ?_
    unfold xp_d at h
    by_cases z : pb_d s q = true
    · rw [if_pos ⟨g, z⟩] at h; rw [if_pos z]; exact h
    · rw [if_neg (fun y => z y.2)] at h; rw [if_neg z]; exact h
  · rw [xp_hi (by omega)]
    unfold xp_d at h
    rw [if_neg (fun y => g y.1)] at h
    exact br_t (by decide) h
theorem xm_isLabel {s : Nat → Int32} {q : Nat} {post : Int32 → Prop} (h : post (if pb_l s q = true then 1 else 0)) : wpX_isLabelChar post (s q) := by
  have t : pb_l s q = true → post 1 := fun z => by rw [if_pos z] at h; exact h
  have f : ¬ pb_l s q = true → post 0 := fun z => by rw [if_neg z] at h; exact h
  have t : ((65 ≤ s q ∧ s q ≤ 90) ∨ (97 ≤ s q ∧ s q ≤ 122) ∨ (48 ≤ s q ∧ s q ≤ 57) ∨ s q = 95) → post 1 := fun z => t (decide_eq_true z)
  have f : ¬ ((65 ≤ s q ∧ s q ≤ 90) ∨ (97 ≤ s q ∧ s q ≤ 122) ∨ (48 ≤ s q ∧ s q ≤ 57) ∨ s q = 95) → post 0 := fun z => f (fun y => z (of_decide_eq_true y))
  have h36 : ¬ (65 ≤ s q ∧ s q ≤ 90) → ¬ (97 ≤ s q ∧ s q ≤ 122) → ¬ (48 ≤ s q ∧ s q ≤ 57) → wX_isLabelChar_36 post (s q) := fun a b c => br_c (fun d => t (Or.inr (Or.inr (Or.inr d)))) (fun d => f (fun z => by
    rcases z with z | z | z | z
    · exact a z
    · exact b z
    · exact c z
    · exact d z))
  have h24 : ¬ (65 ≤ s q ∧ s q ≤ 90) → ¬ (97 ≤ s q ∧ s q ≤ 122) → wX_isLabelChar_24 post (s q) := fun a b => br_c (fun d => h36 a b (fun z => absurd d (Int32.not_lt.mpr z.1))) (fun d => br_c (fun e => t (Or.inr (Or.inr (Or.inl ⟨Int32.not_lt.mp d, e⟩)))) (fun e => h36 a b (fun z => e z.2)))
  have h12 : ¬ (65 ≤ s q ∧ s q ≤ 90) → wX_isLabelChar_12 post (s q) := fun a => br_c (fun d => h24 a (fun z => absurd d (Int32.not_lt.mpr z.1))) (fun d => br_c (fun e => t (Or.inr (Or.inl ⟨Int32.not_lt.mp d, e⟩))) (fun e => h24 a (fun z => e z.2)))
  exact br_c (fun d => h12 (fun z => absurd d (Int32.not_lt.mpr z.1))) (fun d => br_c (fun e => t (Or.inl ⟨Int32.not_lt.mp d, e⟩)) (fun e => h12 (fun z => e z.2)))
def xp_l (s : Nat → Int32) (L q : Nat) : Int32 := if q < L ∧ pb_l s q = true then 1 else 0
theorem xm_isLabel' {s : Nat → Int32} {L q : Nat} {post : Int32 → Prop} (h : post (xp_l s L q)) : wpX_isLabelChar post (xp_v s L q) := by
  by_cases g : q < L
  · rw [xp_lo g]
    refine xm_isLabel ?_
    unfold xp_l at h
    by_cases z : pb_l s q = true
    · rw [if_pos ⟨g, z⟩] at h; rw [if_pos z]; exact h
    · rw [if_neg (fun y => z y.2)] at h; rw [if_neg z]; exact h
  · rw [xp_hi (by omega)]
    unfold xp_l at h
    rw [if_neg (fun y => g y.1)] at h
    exact br_t (by decide) (br_t (by decide) (br_t (by decide) (br_f (by decide) h)))
end XR_1
end
section
/-! X's compiler: a text, a regex -/
section XT_1
variable {Xquiet Xfuel XscriptSize XinputSize Xcursor XitemCount XtablePresent XcommandCount XoutputSize XpatternSize XholdSize XlineNumber XstepCount XnextLine Xpointer Xsubstituted XresultSize : Int32} {Xscript Xinput Xitems Xverb Xnegated Xeverywhere XlabelStart XlabelSize Xtarget XreplacementStart XreplacementEnd Xreplacement Xaddress XstartAnchor XendAnchor XatomCount XatomChar XatomStarred Xoutput Xpattern Xhold XactivationLine Xresult : Nat → Int32}
theorem xm_text {L q : Nat} {post : Int32 → SX → Prop} (hL : L ≤ 128) (hc : ch_ok Xscript L) (h1 : 1 ≤ q)
    (hg : ∀ n it, tx_n Xscript L q = some n → (∀ j, j < n → it j = tx_k Xscript (tx_p Xscript q j)) → post 1 (Xquiet, Xfuel, nI L, XinputSize, nI (tx_p Xscript q n + 1), nI n, XtablePresent, XcommandCount, XoutputSize, XpatternSize, XholdSize, XlineNumber, XstepCount, XnextLine, Xpointer, Xsubstituted, XresultSize, Xscript, Xinput, it, Xverb, Xnegated, Xeverywhere, XlabelStart, XlabelSize, Xtarget, XreplacementStart, XreplacementEnd, Xreplacement, Xaddress, XstartAnchor, XendAnchor, XatomCount, XatomChar, XatomStarred, Xoutput, Xpattern, Xhold, XactivationLine, Xresult))
    (hb : tx_n Xscript L q = none → ∀ cu ic it, post 0 (Xquiet, Xfuel, nI L, XinputSize, cu, ic, XtablePresent, XcommandCount, XoutputSize, XpatternSize, XholdSize, XlineNumber, XstepCount, XnextLine, Xpointer, Xsubstituted, XresultSize, Xscript, Xinput, it, Xverb, Xnegated, Xeverywhere, XlabelStart, XlabelSize, Xtarget, XreplacementStart, XreplacementEnd, Xreplacement, Xaddress, XstartAnchor, XendAnchor, XatomCount, XatomChar, XatomStarred, Xoutput, Xpattern, Xhold, XactivationLine, Xresult)) :
    ∀ f k p it, L - p < f → p ≤ L → p = tx_p Xscript q k → (∀ j, j < k → it j = tx_k Xscript (tx_p Xscript q j)) → tx_n Xscript L q = (tx_n Xscript L p).map (fun n => n + k) → wX_readText_5 post f Xquiet Xfuel (nI L) XinputSize (nI p) (nI k) XtablePresent XcommandCount XoutputSize XpatternSize XholdSize XlineNumber XstepCount XnextLine Xpointer Xsubstituted XresultSize Xscript Xinput it Xverb Xnegated Xeverywhere XlabelStart XlabelSize Xtarget XreplacementStart XreplacementEnd Xreplacement Xaddress XstartAnchor XendAnchor XatomCount XatomChar XatomStarred Xoutput Xpattern Xhold XactivationLine Xresult := by
  intro f
  induction f with
  | zero => intro k p it h; omega
  | succ f ih =>
  intro k p it hf hp hpk hit htx
  have hkp : q + k ≤ p := by rw [hpk]; exact tx_p_ge _ _ _
  refine br_f (nI_ge (b := 128) (by omega) (by decide)) ?_
  refine xm_take hL hp ?_
  have go : ∀ c, (s92 : Xscript p = 92 → p + 1 < L ∧ ¬ Xscript (p + 1) = 10) → p < L → ¬ Xscript p = 10 → ¬ Xscript p = 47 → c = tx_k Xscript p → wX_readText_88 post (wX_readText_5 post f) c (nI k) Xquiet Xfuel (nI L) XinputSize (nI (tx_nx Xscript p)) (nI k) XtablePresent XcommandCount XoutputSize XpatternSize XholdSize XlineNumber XstepCount XnextLine Xpointer Xsubstituted XresultSize Xscript Xinput it Xverb Xnegated Xeverywhere XlabelStart XlabelSize Xtarget XreplacementStart XreplacementEnd Xreplacement Xaddress XstartAnchor XendAnchor XatomCount XatomChar XatomStarred Xoutput Xpattern Xhold XactivationLine Xresult := by
    intro c s92 hpL h10 h47 hcd
    refine ⟨pk_in k 128 (by omega), nm_e (nm_r (nI_1 k) ?_)⟩
    rw [nI_clamp (by omega)]
    have hlt := tx_nx_lt Xscript p
    refine ih (k + 1) (tx_nx Xscript p) _ (by omega) (tx_nx_le hpL (fun z => (s92 z).1)) (by rw [tx_p, ← hpk]) (fun j hj => ?_) ?_
    · by_cases e : j = k
      · rw [e, pk_us, hcd, hpk]
      · rw [pk_un e]; exact hit j (by omega)
    · rw [htx, tx_step hpL h10 h47 s92, tx_mapk]
  rcases Nat.lt_or_ge p L with hpL | hpL
  · rw [xp_lo hpL]
    by_cases h47 : Xscript p = 47
    · refine br_t h47 ?_
      rw [tx_fin hpL h47] at htx
      have := hg k it (by rw [htx]; show some (0 + k) = some k; rw [Nat.zero_add]) hit
      rw [← hpk] at this
      exact this
    · refine br_f h47 ?_
      by_cases h92 : Xscript p = 92
      · refine br_t h92 ?_
        refine xm_take hL (by omega) ?_
        rcases Nat.lt_or_ge (p + 1) L with hp1 | hp1
        · rw [xp_lo hp1]
          refine br_f (ch_n1 hc hp1) ?_
          by_cases h10 : Xscript (p + 1) = 10
          · refine br_t h10 ?_
            exact hb (by rw [htx, tx_bad2 h92 (Or.inr h10)]; rfl) _ _ _
          · refine br_f h10 (br_t rfl ?_)
            have nx : tx_nx Xscript p = p + 1 + 1 := by unfold tx_nx; rw [if_pos h92]
            have g := fun c => go c (fun _ => ⟨hp1, h10⟩) hpL (by rw [h92]; decide) h47
            rw [nx] at g
            by_cases h110 : Xscript (p + 1) = 110
            · refine br_t h110 ?_
              exact g 266 (by unfold tx_k tx_c; rw [if_pos h92, if_pos h92, if_pos h110]; rfl)
            · refine br_f h110 ?_
              exact g _ (by unfold tx_k tx_c; rw [if_pos h92, if_pos h92, if_neg h110])
        · rw [xp_hi hp1]
          refine br_t rfl ?_
          exact hb (by rw [htx, tx_bad2 h92 (Or.inl hp1)]; rfl) _ _ _
      · refine br_f h92 ?_
        refine br_f (ch_n1 hc hpL) ?_
        by_cases h10 : Xscript p = 10
        · refine br_t h10 ?_
          exact hb (by rw [htx, tx_bad (Or.inr h10)]; rfl) _ _ _
        · refine br_f h10 (br_f (by decide) ?_)
          have nx : tx_nx Xscript p = p + 1 := by unfold tx_nx; rw [if_neg h92]
          have g := fun c => go c (fun z => absurd z h92) hpL h10 h47
          rw [nx] at g
          exact g _ (by unfold tx_k; rw [if_neg h92, Int32.add_zero])
  · rw [xp_hi hpL]
    refine br_f (by decide) (br_f (by decide) (br_t rfl ?_))
    exact hb (by rw [htx, tx_bad (Or.inl hpL)]; rfl) _ _ _
theorem xm_readText {L q : Nat} {post : Int32 → SX → Prop} (hL : L ≤ 128) (hc : ch_ok Xscript L) (h1 : 1 ≤ q) (hq : q ≤ L)
    (hg : ∀ n it, tx_n Xscript L q = some n → (∀ j, j < n → it j = tx_k Xscript (tx_p Xscript q j)) → post 1 (Xquiet, Xfuel, nI L, XinputSize, nI (tx_p Xscript q n + 1), nI n, XtablePresent, XcommandCount, XoutputSize, XpatternSize, XholdSize, XlineNumber, XstepCount, XnextLine, Xpointer, Xsubstituted, XresultSize, Xscript, Xinput, it, Xverb, Xnegated, Xeverywhere, XlabelStart, XlabelSize, Xtarget, XreplacementStart, XreplacementEnd, Xreplacement, Xaddress, XstartAnchor, XendAnchor, XatomCount, XatomChar, XatomStarred, Xoutput, Xpattern, Xhold, XactivationLine, Xresult))
    (hb : tx_n Xscript L q = none → ∀ cu ic it, post 0 (Xquiet, Xfuel, nI L, XinputSize, cu, ic, XtablePresent, XcommandCount, XoutputSize, XpatternSize, XholdSize, XlineNumber, XstepCount, XnextLine, Xpointer, Xsubstituted, XresultSize, Xscript, Xinput, it, Xverb, Xnegated, Xeverywhere, XlabelStart, XlabelSize, Xtarget, XreplacementStart, XreplacementEnd, Xreplacement, Xaddress, XstartAnchor, XendAnchor, XatomCount, XatomChar, XatomStarred, Xoutput, Xpattern, Xhold, XactivationLine, Xresult)) :
    wpX_readText post (Xquiet, Xfuel, nI L, XinputSize, nI q, XitemCount, XtablePresent, XcommandCount, XoutputSize, XpatternSize, XholdSize, XlineNumber, XstepCount, XnextLine, Xpointer, Xsubstituted, XresultSize, Xscript, Xinput, Xitems, Xverb, Xnegated, Xeverywhere, XlabelStart, XlabelSize, Xtarget, XreplacementStart, XreplacementEnd, Xreplacement, Xaddress, XstartAnchor, XendAnchor, XatomCount, XatomChar, XatomStarred, Xoutput, Xpattern, Xhold, XactivationLine, Xresult) := by
  unfold wpX_readText
  exact ⟨L - q + 1, xm_text hL hc h1 hg hb (L - q + 1) 0 q _ (by omega) hq rfl (fun j hj => absurd hj (by omega)) (tx_map0 _).symm⟩
/-! atoms -/
/-- X's arrays hold the atoms g in slot j, and are elsewhere as they were -/
def xa_H (j : Nat) (ac ach ast ac0 ach0 ast0 : Nat → Int32) (g : Nat × (Nat → Int32) × (Nat → Int32)) : Prop :=
  ac j = nI g.1 ∧ (∀ i, i < g.1 → ach (j * 12 + i) = g.2.1 i ∧ ast (j * 12 + i) = g.2.2 i) ∧ (∀ i, ¬ i = j → ac i = ac0 i) ∧ (∀ i, (i < j * 12 ∨ j * 12 + 12 ≤ i) → ach i = ach0 i ∧ ast i = ast0 i)
theorem xm_addItem {j : Nat} {c e it : Int32} {post : Int32 → SX → Prop} {g : Nat × (Nat → Int32) × (Nat → Int32)} {ac0 ach0 ast0 : Nat → Int32} (hj : j < 48) (h12 : g.1 ≤ 12) (h01 : ∀ i, g.2.2 i = 0 ∨ g.2.2 i = 1) (H : xa_H j XatomCount XatomChar XatomStarred ac0 ach0 ast0 g)
    (e42 : it = 42 ↔ (e = 0 ∧ c = 42)) (e46 : it = 46 ↔ (e = 0 ∧ c = 46)) (er : it - it / 256 * 256 = c)
    (hg : ∀ g' ac ach ast, rg_s c e g = some g' → xa_H j ac ach ast ac0 ach0 ast0 g' → post 1 (Xquiet, Xfuel, XscriptSize, XinputSize, Xcursor, XitemCount, XtablePresent, XcommandCount, XoutputSize, XpatternSize, XholdSize, XlineNumber, XstepCount, XnextLine, Xpointer, Xsubstituted, XresultSize, Xscript, Xinput, Xitems, Xverb, Xnegated, Xeverywhere, XlabelStart, XlabelSize, Xtarget, XreplacementStart, XreplacementEnd, Xreplacement, Xaddress, XstartAnchor, XendAnchor, ac, ach, ast, Xoutput, Xpattern, Xhold, XactivationLine, Xresult))
    (hb : rg_s c e g = none → ∀ ast, post 0 (Xquiet, Xfuel, XscriptSize, XinputSize, Xcursor, XitemCount, XtablePresent, XcommandCount, XoutputSize, XpatternSize, XholdSize, XlineNumber, XstepCount, XnextLine, Xpointer, Xsubstituted, XresultSize, Xscript, Xinput, Xitems, Xverb, Xnegated, Xeverywhere, XlabelStart, XlabelSize, Xtarget, XreplacementStart, XreplacementEnd, Xreplacement, Xaddress, XstartAnchor, XendAnchor, XatomCount, XatomChar, ast, Xoutput, Xpattern, Xhold, XactivationLine, Xresult)) : wpX_addItem post (Xquiet, Xfuel, XscriptSize, XinputSize, Xcursor, XitemCount, XtablePresent, XcommandCount, XoutputSize, XpatternSize, XholdSize, XlineNumber, XstepCount, XnextLine, Xpointer, Xsubstituted, XresultSize, Xscript, Xinput, Xitems, Xverb, Xnegated, Xeverywhere, XlabelStart, XlabelSize, Xtarget, XreplacementStart, XreplacementEnd, Xreplacement, Xaddress, XstartAnchor, XendAnchor, XatomCount, XatomChar, XatomStarred, Xoutput, Xpattern, Xhold, XactivationLine, Xresult) (nI j) it := by
  obtain ⟨na, ch, st⟩ := g
  obtain ⟨a1, a2, a3, a4⟩ := H
  dsimp only at h12 h01 a1 a2
  unfold wpX_addItem
  refine ⟨pk_in j 48 hj, ?_⟩
  rw [nI_clamp (by omega), a1]
  refine nm_e (nm_r (show nI j * 12 + nI na = nI (j * 12 + na) from by rw [show nI j * 12 = nI (j * 12) from pk_mul j 12, nI_add]) ?_)
  have h57 : ¬ (e = 0 ∧ c = 42 ∧ 0 < na) → wX_addItem_57 post (nI j) it (nI na) (nI (j * 12 + na)) Xquiet Xfuel XscriptSize XinputSize Xcursor XitemCount XtablePresent XcommandCount XoutputSize XpatternSize XholdSize XlineNumber XstepCount XnextLine Xpointer Xsubstituted XresultSize Xscript Xinput Xitems Xverb Xnegated Xeverywhere XlabelStart XlabelSize Xtarget XreplacementStart XreplacementEnd Xreplacement Xaddress XstartAnchor XendAnchor XatomCount XatomChar XatomStarred Xoutput Xpattern Xhold XactivationLine Xresult := by
    intro hn
    refine pk_lt na 12 (fun g12 => ?_) (fun g12 => ?_)
    · have hr : rg_s c e (na, ch, st) = some (na + 1, upd ch na (if e = 0 ∧ c = 46 then -1 else c), upd st na 0) := by
        unfold rg_s
        rw [if_neg hn, if_neg (by dsimp only; omega)]
      have h86 : ∀ v, v = (if e = 0 ∧ c = 46 then -1 else c) → wX_addItem_86 post (nI j) (nI na) (nI (j * 12 + na)) v (nI (j * 12 + na)) Xquiet Xfuel XscriptSize XinputSize Xcursor XitemCount XtablePresent XcommandCount XoutputSize XpatternSize XholdSize XlineNumber XstepCount XnextLine Xpointer Xsubstituted XresultSize Xscript Xinput Xitems Xverb Xnegated Xeverywhere XlabelStart XlabelSize Xtarget XreplacementStart XreplacementEnd Xreplacement Xaddress XstartAnchor XendAnchor XatomCount XatomChar XatomStarred Xoutput Xpattern Xhold XactivationLine Xresult := by
        intro v hv
        refine ⟨pk_in (j * 12 + na) 576 (by omega), nm_e ⟨pk_in (j * 12 + na) 576 (by omega), nm_e ⟨pk_in j 48 hj, nm_e ?_⟩⟩⟩
        rw [nI_clamp (show j * 12 + na < 2 ^ 31 by omega), nI_clamp (show j < 2 ^ 31 by omega)]
        refine hg _ _ _ _ hr ⟨?_, fun i hi => ?_, fun i hi => ?_, fun i hi => ?_⟩
        · rw [pk_us]; exact nI_1 na
        · dsimp only at hi ⊢
          by_cases z : i = na
          · rw [z, pk_us, pk_us, pk_us, pk_us, hv]; exact ⟨rfl, rfl⟩
          · exact ⟨by rw [pk_un (by omega), pk_un z]; exact (a2 i (by omega)).1, by rw [pk_un (by omega), pk_un z]; exact (a2 i (by omega)).2⟩
        · rw [pk_un hi]; exact a3 i hi
        · rw [pk_un (by omega), pk_un (by omega)]; exact a4 i hi
      by_cases z : it = 46
      · exact br_t z (h86 _ (by rw [if_pos (e46.mp z)]))
      · refine br_f z ⟨by decide, ?_⟩
        rw [er]
        exact h86 _ (by rw [if_neg (fun y => z (e46.mpr y))])
    · exact hb (by unfold rg_s; rw [if_neg hn, if_pos (by dsimp only; omega)]) _
  by_cases z : it = 42
  · refine br_t z (pk_le na 0 (fun g0 => h57 (fun y => by omega)) (fun g0 => ?_))
    have hs : nI (j * 12 + na) - 1 = nI (j * 12 + (na - 1)) := by
      obtain ⟨m, rfl⟩ : ∃ m, na = m + 1 := ⟨na - 1, by omega⟩
      exact nI_pred (j * 12 + m)
    rw [hs]
    have hi : vp_in (nI (j * 12 + (na - 1))) 576 := vp_in_nI (by omega) (by omega)
    refine ⟨hi, ?_⟩
    rw [nI_clamp (by omega), (a2 (na - 1) (by omega)).2]
    refine nm_e ⟨hi, nm_e ?_⟩
    have hc : e = 0 ∧ c = 42 ∧ 0 < na := ⟨(e42.mp z).1, (e42.mp z).2, g0⟩
    by_cases w : st (na - 1) = 0
    · refine br_t w ?_
      refine hg (na, ch, upd st (na - 1) 1) _ _ _ (by unfold rg_s; rw [if_pos hc, if_pos w]) ⟨a1, fun i hi => ?_, a3, fun i hi => ?_⟩
      · dsimp only at hi ⊢
        by_cases y : i = na - 1
        · rw [y, pk_us, pk_us]; exact ⟨(a2 (na - 1) (by omega)).1, rfl⟩
        · rw [pk_un (by omega), pk_un y]; exact a2 i hi
      · rw [pk_un (by omega)]; exact a4 i hi
    · refine br_f w ?_
      exact hb (by unfold rg_s; rw [if_pos hc, if_neg w]) _
  · exact br_f z (h57 (fun y => z (e42.mpr ⟨y.1, y.2.1⟩)))
end XT_1
end
section
/-! X's compiler: regexes, numbers, addresses -/
section XA_1
variable {Xquiet Xfuel XscriptSize XinputSize Xcursor XitemCount XtablePresent XcommandCount XoutputSize XpatternSize XholdSize XlineNumber XstepCount XnextLine Xpointer Xsubstituted XresultSize : Int32} {Xscript Xinput Xitems Xverb Xnegated Xeverywhere XlabelStart XlabelSize Xtarget XreplacementStart XreplacementEnd Xreplacement Xaddress XstartAnchor XendAnchor XatomCount XatomChar XatomStarred Xoutput Xpattern Xhold XactivationLine Xresult : Nat → Int32}
/-- only slot j has changed -/
def xf_A (j : Nat) (adr sa ea ac ach ast adr' sa' ea' ac' ach' ast' : Nat → Int32) : Prop :=
  (∀ i, ¬ i = j → adr' i = adr i ∧ sa' i = sa i ∧ ea' i = ea i ∧ ac' i = ac i) ∧ (∀ i, (i < j * 12 ∨ j * 12 + 12 ≤ i) → ach' i = ach i ∧ ast' i = ast i)
theorem xm_rx103 {L q j n : Nat} {it sa ea : Nat → Int32} {post : Int32 → SX → Prop} (hL : L ≤ 128) (hc : ch_ok Xscript L) (hj : j < 48) (htx : tx_n Xscript L q = some n) (h1 : 1 ≤ q) (hn : 0 < n) (hit : ∀ i, i < n → it i = tx_k Xscript (tx_p Xscript q i))
    (hsa : sa j = nI (rg_A Xscript q)) (hea : ea j = nI (rg_B Xscript q n)) (hfr : ∀ i, ¬ i = j → sa i = XstartAnchor i ∧ ea i = XendAnchor i)
    (hg : ∀ g it ic sa ea ac ach ast, rg_x Xscript L q = some g → tb_R sa ea ac ach ast j g → xf_A j Xaddress XstartAnchor XendAnchor XatomCount XatomChar XatomStarred Xaddress sa ea ac ach ast → post 1 (Xquiet, Xfuel, nI L, XinputSize, nI g.1, ic, XtablePresent, XcommandCount, XoutputSize, XpatternSize, XholdSize, XlineNumber, XstepCount, XnextLine, Xpointer, Xsubstituted, XresultSize, Xscript, Xinput, it, Xverb, Xnegated, Xeverywhere, XlabelStart, XlabelSize, Xtarget, XreplacementStart, XreplacementEnd, Xreplacement, Xaddress, sa, ea, ac, ach, ast, Xoutput, Xpattern, Xhold, XactivationLine, Xresult))
    (hb : rg_x Xscript L q = none → ∀ cu ic it sa ea ac ach ast, post 0 (Xquiet, Xfuel, nI L, XinputSize, cu, ic, XtablePresent, XcommandCount, XoutputSize, XpatternSize, XholdSize, XlineNumber, XstepCount, XnextLine, Xpointer, Xsubstituted, XresultSize, Xscript, Xinput, it, Xverb, Xnegated, Xeverywhere, XlabelStart, XlabelSize, Xtarget, XreplacementStart, XreplacementEnd, Xreplacement, Xaddress, sa, ea, ac, ach, ast, Xoutput, Xpattern, Xhold, XactivationLine, Xresult)) :
    ∀ f m ac ach ast g, n - rg_B Xscript q n - (rg_A Xscript q + m) < f → rg_A Xscript q + m ≤ n - rg_B Xscript q n → rg_f Xscript q (rg_A Xscript q) m = some g → xa_H j ac ach ast (upd XatomCount j 0) XatomChar XatomStarred g →
      wX_readRegex_103 post (nI j) (nI (n - rg_B Xscript q n)) f (nI (rg_A Xscript q + m)) Xquiet Xfuel (nI L) XinputSize (nI (tx_p Xscript q n + 1)) (nI n) XtablePresent XcommandCount XoutputSize XpatternSize XholdSize XlineNumber XstepCount XnextLine Xpointer Xsubstituted XresultSize Xscript Xinput it Xverb Xnegated Xeverywhere XlabelStart XlabelSize Xtarget XreplacementStart XreplacementEnd Xreplacement Xaddress sa ea ac ach ast Xoutput Xpattern Xhold XactivationLine Xresult := by
  have hf := tx_facts n q htx
  have hpn := tx_p_ge Xscript q n
  intro f
  induction f with
  | zero => intro m ac ach ast g h; omega
  | succ f ih =>
  intro m ac ach ast g hfu hm hrg H
  rcases Nat.lt_or_ge (rg_A Xscript q + m) (n - rg_B Xscript q n) with z | z
  · have hB := rg_B1 Xscript q n
    refine br_f (nI_ge z (by omega)) ⟨vp_in_nI (by omega) (by omega), ?_⟩
    rw [nI_clamp (by omega), hit _ (by omega)]
    obtain ⟨f1, f2, f3, f4⟩ := hf.1 (rg_A Xscript q + m) (by omega)
    have f5 : Xscript (tx_p Xscript q (rg_A Xscript q + m)) = 92 → tx_p Xscript q (rg_A Xscript q + m) + 1 < L := fun y => (f4 y).1
    refine xm_addItem (c := tx_c Xscript (tx_p Xscript q (rg_A Xscript q + m))) (e := tx_e Xscript (tx_p Xscript q (rg_A Xscript q + m))) hj (rg_le12 _ _ hrg).1 (rg_le12 _ _ hrg).2 H (tx_k_eq hc f1 f5 42 (by omega)) (tx_k_eq hc f1 f5 46 (by omega)) (tx_k_rem hc f1 f5) ?_ ?_
    · intro g' ac' ach' ast' hs H'
      refine br_f (by decide) (nm_r (nI_1 _) ?_)
      exact ih (m + 1) ac' ach' ast' g' (by omega) (by omega) (by rw [rg_f, hrg]; exact hs) H'
    · intro hs ast'
      refine br_t rfl ?_
      refine hb ?_ _ _ _ _ _ _ _ _
      have e : rg_f Xscript q (rg_A Xscript q) (m + 1) = none := by rw [rg_f, hrg]; exact hs
      have e2 := rg_none e (n - rg_B Xscript q n - rg_A Xscript q - (m + 1))
      rw [show m + 1 + (n - rg_B Xscript q n - rg_A Xscript q - (m + 1)) = n - rg_B Xscript q n - rg_A Xscript q by omega] at e2
      unfold rg_x
      rw [htx]
      dsimp only
      rw [if_neg (by omega), e2]
  · refine br_t (nI_le z (by omega)) ?_
    have e : m = n - rg_B Xscript q n - rg_A Xscript q := by omega
    rw [e] at hrg
    obtain ⟨a1, a2, a3, a4⟩ := H
    have hx : rg_x Xscript L q = some (tx_p Xscript q n + 1, rg_A Xscript q, rg_B Xscript q n, g.1, g.2.1, g.2.2) := by
      unfold rg_x
      rw [htx]
      dsimp only
      rw [if_neg (by omega), hrg]
    refine hg _ _ _ _ _ _ _ _ hx ⟨hsa, hea, a1, a2⟩ ⟨fun i hi => ?_, fun i hi => a4 i hi⟩
    have := a3 i hi
    rw [pk_un hi] at this
    exact ⟨rfl, (hfr i hi).1, (hfr i hi).2, this⟩
theorem xm_readRegex {L q j : Nat} {post : Int32 → SX → Prop} (hL : L ≤ 128) (hc : ch_ok Xscript L) (hj : j < 48) (h1 : 1 ≤ q) (hq : q ≤ L)
    (hg : ∀ g it ic sa ea ac ach ast, rg_x Xscript L q = some g → tb_R sa ea ac ach ast j g → xf_A j Xaddress XstartAnchor XendAnchor XatomCount XatomChar XatomStarred Xaddress sa ea ac ach ast → post 1 (Xquiet, Xfuel, nI L, XinputSize, nI g.1, ic, XtablePresent, XcommandCount, XoutputSize, XpatternSize, XholdSize, XlineNumber, XstepCount, XnextLine, Xpointer, Xsubstituted, XresultSize, Xscript, Xinput, it, Xverb, Xnegated, Xeverywhere, XlabelStart, XlabelSize, Xtarget, XreplacementStart, XreplacementEnd, Xreplacement, Xaddress, sa, ea, ac, ach, ast, Xoutput, Xpattern, Xhold, XactivationLine, Xresult))
    (hb : rg_x Xscript L q = none → ∀ cu ic it sa ea ac ach ast, post 0 (Xquiet, Xfuel, nI L, XinputSize, cu, ic, XtablePresent, XcommandCount, XoutputSize, XpatternSize, XholdSize, XlineNumber, XstepCount, XnextLine, Xpointer, Xsubstituted, XresultSize, Xscript, Xinput, it, Xverb, Xnegated, Xeverywhere, XlabelStart, XlabelSize, Xtarget, XreplacementStart, XreplacementEnd, Xreplacement, Xaddress, sa, ea, ac, ach, ast, Xoutput, Xpattern, Xhold, XactivationLine, Xresult)) :
    wpX_readRegex post (Xquiet, Xfuel, nI L, XinputSize, nI q, XitemCount, XtablePresent, XcommandCount, XoutputSize, XpatternSize, XholdSize, XlineNumber, XstepCount, XnextLine, Xpointer, Xsubstituted, XresultSize, Xscript, Xinput, Xitems, Xverb, Xnegated, Xeverywhere, XlabelStart, XlabelSize, Xtarget, XreplacementStart, XreplacementEnd, Xreplacement, Xaddress, XstartAnchor, XendAnchor, XatomCount, XatomChar, XatomStarred, Xoutput, Xpattern, Xhold, XactivationLine, Xresult) (nI j) := by
  unfold wpX_readRegex
  refine xm_readText hL hc h1 hq ?_ ?_
  · intro n it htx hit
    refine br_f (by decide) ?_
    have hf := tx_facts n q htx
    have hpn := tx_p_ge Xscript q n
    by_cases hn : n = 0
    · refine br_t (by rw [hn]; rfl) ?_
      exact hb (by unfold rg_x; rw [htx]; dsimp only; rw [if_pos hn]) _ _ _ _ _ _ _ _
    · refine br_f (nI_ne0 (by omega) (by omega)) ?_
      have hvj : vp_in (nI j) 48 := pk_in j 48 hj
      have cj : (nI j).toNatClampNeg = j := nI_clamp (by omega)
      have hAB := rg_AB (s := Xscript) (q := q) (n := n) (by omega)
      have hA1 := rg_A1 Xscript q
      have hB1 := rg_B1 Xscript q n
      obtain ⟨f1, f2, f3, f4⟩ := hf.1 0 (by omega)
      have k0 : it 0 = 94 ↔ (tx_e Xscript q = 0 ∧ tx_c Xscript q = 94) := by
        rw [hit 0 (by omega)]
        exact tx_k_eq hc f1 (fun y => (f4 y).1) 94 (by omega)
      obtain ⟨e1, e2, e3, e4⟩ := hf.1 (n - 1) (by omega)
      have kn : it (n - 1) = 36 ↔ (tx_e Xscript (tx_p Xscript q (n - 1)) = 0 ∧ tx_c Xscript (tx_p Xscript q (n - 1)) = 36) := by
        rw [hit (n - 1) (by omega)]
        exact tx_k_eq hc e1 (fun y => (e4 y).1) 36 (by omega)
      have h80 : ∀ sa : Nat → Int32, sa j = nI (rg_A Xscript q) → (∀ i, ¬ i = j → sa i = XstartAnchor i) → wX_readRegex_80 post (nI j) (nI (rg_A Xscript q)) (nI n) (nI (rg_B Xscript q n)) (nI j) Xquiet Xfuel (nI L) XinputSize (nI (tx_p Xscript q n + 1)) (nI n) XtablePresent XcommandCount XoutputSize XpatternSize XholdSize XlineNumber XstepCount XnextLine Xpointer Xsubstituted XresultSize Xscript Xinput it Xverb Xnegated Xeverywhere XlabelStart XlabelSize Xtarget XreplacementStart XreplacementEnd Xreplacement Xaddress sa XendAnchor XatomCount XatomChar XatomStarred Xoutput Xpattern Xhold XactivationLine Xresult := by
        intro sa hsa hsf
        refine ⟨hvj, nm_e ⟨hvj, ?_⟩⟩
        have eb : vp_nar .boolean (nI (rg_B Xscript q n)) = nI (rg_B Xscript q n) := ba_vb (by
          rcases Nat.lt_or_ge (rg_B Xscript q n) 1 with y | y
          · exact Or.inl (by rw [show rg_B Xscript q n = 0 by omega]; rfl)
          · exact Or.inr (by rw [show rg_B Xscript q n = 1 by omega]; rfl))
        rw [cj, eb, pk_us]
        have run : wX_readRegex_103 post (nI j) (nI (n - rg_B Xscript q n)) (n + 1) (nI (rg_A Xscript q + 0)) Xquiet Xfuel (nI L) XinputSize (nI (tx_p Xscript q n + 1)) (nI n) XtablePresent XcommandCount XoutputSize XpatternSize XholdSize XlineNumber XstepCount XnextLine Xpointer Xsubstituted XresultSize Xscript Xinput it Xverb Xnegated Xeverywhere XlabelStart XlabelSize Xtarget XreplacementStart XreplacementEnd Xreplacement Xaddress sa (upd XendAnchor j (nI (rg_B Xscript q n))) (upd XatomCount j 0) XatomChar XatomStarred Xoutput Xpattern Xhold XactivationLine Xresult :=
          xm_rx103 hL hc hj htx h1 (by omega) hit hsa pk_us (fun i hi => ⟨hsf i hi, pk_un hi⟩) hg hb (n + 1) 0 _ _ _ _ (by omega) (by omega) rfl ⟨pk_us, fun i hi => absurd hi (by dsimp only; omega), fun i hi => rfl, fun i hi => ⟨rfl, rfl⟩⟩
        by_cases hB : rg_B Xscript q n = 0
        · refine br_t (by rw [hB]; rfl) ⟨hvj, nm_e ⟨n + 1, ?_⟩⟩
          rw [hB] at run ⊢
          exact run
        · refine br_f (nI_ne0 (by omega) (by omega)) (nm_r (show nI n + (-1) = nI (n - rg_B Xscript q n) from ?_) ⟨hvj, nm_e ⟨n + 1, run⟩⟩)
          obtain ⟨x, hx⟩ : ∃ x, n = x + 1 := ⟨n - 1, by omega⟩
          rw [show n - rg_B Xscript q n = x by omega, hx]
          exact pk_m1 x
      have h57 : ∀ sa : Nat → Int32, sa j = nI (rg_A Xscript q) → (∀ i, ¬ i = j → sa i = XstartAnchor i) → wX_readRegex_57 post (nI j) (nI (rg_A Xscript q)) (nI n) Xquiet Xfuel (nI L) XinputSize (nI (tx_p Xscript q n + 1)) (nI n) XtablePresent XcommandCount XoutputSize XpatternSize XholdSize XlineNumber XstepCount XnextLine Xpointer Xsubstituted XresultSize Xscript Xinput it Xverb Xnegated Xeverywhere XlabelStart XlabelSize Xtarget XreplacementStart XreplacementEnd Xreplacement Xaddress sa XendAnchor XatomCount XatomChar XatomStarred Xoutput Xpattern Xhold XactivationLine Xresult := by
        intro sa hsa hsf
        have en : nI n - 1 = nI (n - 1) := by
          obtain ⟨x, hx⟩ : ∃ x, n = x + 1 := ⟨n - 1, by omega⟩
          rw [hx]; exact nI_pred x
        unfold wX_readRegex_57
        rw [en]
        refine ⟨pk_in (n - 1) 128 (by omega), ?_⟩
        rw [nI_clamp (by omega)]
        have hh := h80 sa hsa hsf
        by_cases w : it (n - 1) = 36
        · have eB : rg_B Xscript q n = 1 := by unfold rg_B; rw [if_pos (kn.mp w)]
          rw [eB] at hh
          exact br_t w hh
        · have eB : rg_B Xscript q n = 0 := by unfold rg_B; rw [if_neg (fun y => w (kn.mpr y))]
          rw [eB] at hh
          exact br_f w hh
      by_cases w : it 0 = 94
      · have eA : rg_A Xscript q = 1 := by unfold rg_A; rw [if_pos (k0.mp w)]
        refine br_t w ⟨hvj, nm_e ⟨hvj, ?_⟩⟩
        rw [cj, pk_us]
        refine br_f (by decide) (nm_e ?_)
        have := h57 (upd XstartAnchor j 1) (by rw [pk_us, eA]; rfl) (fun i hi => pk_un hi)
        rw [eA] at this
        exact this
      · have eA : rg_A Xscript q = 0 := by unfold rg_A; rw [if_neg (fun y => w (k0.mpr y))]
        refine br_f w ⟨hvj, nm_e ⟨hvj, ?_⟩⟩
        rw [cj, pk_us]
        refine br_t rfl ?_
        have := h57 (upd XstartAnchor j 0) (by rw [pk_us, eA]; rfl) (fun i hi => pk_un hi)
        rw [eA] at this
        exact this
  · intro htx cu ic it
    refine br_t rfl ?_
    exact hb (by unfold rg_x; rw [htx]) _ _ _ _ _ _ _ _
theorem xm_num {L q j : Nat} {post : Int32 → SX → Prop} (hL : L ≤ 128) (hj : j < 48) (hq : q ≤ L)
    (hg : ∀ r, nu_x Xscript L q = some r → post 1 (Xquiet, Xfuel, nI L, XinputSize, nI r.2, XitemCount, XtablePresent, XcommandCount, XoutputSize, XpatternSize, XholdSize, XlineNumber, XstepCount, XnextLine, Xpointer, Xsubstituted, XresultSize, Xscript, Xinput, Xitems, Xverb, Xnegated, Xeverywhere, XlabelStart, XlabelSize, Xtarget, XreplacementStart, XreplacementEnd, Xreplacement, upd Xaddress j r.1, XstartAnchor, XendAnchor, XatomCount, XatomChar, XatomStarred, Xoutput, Xpattern, Xhold, XactivationLine, Xresult))
    (hb : nu_x Xscript L q = none → ∀ cu adr, post 0 (Xquiet, Xfuel, nI L, XinputSize, cu, XitemCount, XtablePresent, XcommandCount, XoutputSize, XpatternSize, XholdSize, XlineNumber, XstepCount, XnextLine, Xpointer, Xsubstituted, XresultSize, Xscript, Xinput, Xitems, Xverb, Xnegated, Xeverywhere, XlabelStart, XlabelSize, Xtarget, XreplacementStart, XreplacementEnd, Xreplacement, adr, XstartAnchor, XendAnchor, XatomCount, XatomChar, XatomStarred, Xoutput, Xpattern, Xhold, XactivationLine, Xresult)) :
    ∀ f k, 4 - k < f → k ≤ 4 → k ≤ sc_e (pb_d Xscript) L q - q → wX_readNumber_10 post (nI j) Xquiet Xfuel (nI L) XinputSize XitemCount XtablePresent XcommandCount XoutputSize XpatternSize XholdSize XlineNumber XstepCount XnextLine Xpointer Xsubstituted XresultSize Xscript Xinput Xitems Xverb Xnegated Xeverywhere XlabelStart XlabelSize Xtarget XreplacementStart XreplacementEnd Xreplacement Xaddress XstartAnchor XendAnchor XatomCount XatomChar XatomStarred Xoutput Xpattern Xhold XactivationLine Xresult f (nu_v Xscript q k) (nI k) (xp_v Xscript L (q + k)) (nI (q + k)) := by
  have hf := sc_facts (P := pb_d Xscript) hq
  have hvj : vp_in (nI j) 48 := pk_in j 48 hj
  have cj : (nI j).toNatClampNeg = j := nI_clamp (by omega)
  have h56 : ∀ k, k ≤ 4 → (k = sc_e (pb_d Xscript) L q - q ∨ (k = 4 ∧ k ≤ sc_e (pb_d Xscript) L q - q)) → wX_readNumber_56 post (nI j) (nu_v Xscript q k) (nI k) Xquiet Xfuel (nI L) XinputSize (nI (q + k)) XitemCount XtablePresent XcommandCount XoutputSize XpatternSize XholdSize XlineNumber XstepCount XnextLine Xpointer Xsubstituted XresultSize Xscript Xinput Xitems Xverb Xnegated Xeverywhere XlabelStart XlabelSize Xtarget XreplacementStart XreplacementEnd Xreplacement Xaddress XstartAnchor XendAnchor XatomCount XatomChar XatomStarred Xoutput Xpattern Xhold XactivationLine Xresult := by
    intro k hk4 hk
    refine ⟨hvj, nm_e ?_⟩
    rw [cj]
    refine pk_lt 3 k (fun w => ?_) (fun w => ?_)
    · exact hb (by unfold nu_x; rw [if_neg (fun y => by omega)]) _ _
    · have e : k = sc_e (pb_d Xscript) L q - q := by omega
      refine br_c (fun a => ?_) (fun a => br_c (fun b => ?_) (fun b => ?_))
      · exact hb (by unfold nu_x; rw [if_neg (fun y => by rw [← e] at y; exact absurd a (Int32.not_lt.mpr y.2.1))]) _ _
      · exact hb (by unfold nu_x; rw [if_neg (fun y => by rw [← e] at y; exact absurd b (Int32.not_lt.mpr y.2.2))]) _ _
      · have hx : nu_x Xscript L q = some (nu_v Xscript q k, q + k) := by
          unfold nu_x
          rw [← e, if_pos ⟨by omega, Int32.not_lt.mp a, Int32.not_lt.mp b⟩]
          congr 2
          omega
        exact hg _ hx
  intro f
  induction f with
  | zero => intro k h; omega
  | succ f ih =>
  intro k hfu hk4 hk
  refine pk_lt 3 k (fun w => h56 k hk4 (Or.inr ⟨by omega, hk⟩)) (fun w => ?_)
  refine xm_isDigit' ?_
  by_cases z : k = sc_e (pb_d Xscript) L q - q
  · have e : xp_d Xscript L (q + k) = 0 := by
      unfold xp_d
      rw [if_neg]
      intro y
      have e2 : q + k = sc_e (pb_d Xscript) L q := by omega
      rw [e2] at y
      have := hf.2.2.2 y.1
      rw [this] at y
      exact absurd y.2 (by decide)
    rw [e]
    exact br_t rfl (h56 k hk4 (Or.inl z))
  · have hd := hf.2.2.1 (q + k) (by omega) (by omega)
    have hlt : q + k < L := by omega
    have e : xp_d Xscript L (q + k) = 1 := by
      unfold xp_d
      rw [if_pos ⟨hlt, hd⟩]
    rw [e, xp_lo hlt]
    refine br_f (by decide) (nm_e (nm_r (nI_1 k) (nm_r (nI_1 (q + k)) ?_)))
    refine xm_peek hL (by omega) ?_
    exact ih (k + 1) (by omega) (by omega) (by omega)
theorem xm_readNumber {L q j : Nat} {post : Int32 → SX → Prop} (hL : L ≤ 128) (hj : j < 48) (hq : q ≤ L)
    (hg : ∀ r, nu_x Xscript L q = some r → post 1 (Xquiet, Xfuel, nI L, XinputSize, nI r.2, XitemCount, XtablePresent, XcommandCount, XoutputSize, XpatternSize, XholdSize, XlineNumber, XstepCount, XnextLine, Xpointer, Xsubstituted, XresultSize, Xscript, Xinput, Xitems, Xverb, Xnegated, Xeverywhere, XlabelStart, XlabelSize, Xtarget, XreplacementStart, XreplacementEnd, Xreplacement, upd Xaddress j r.1, XstartAnchor, XendAnchor, XatomCount, XatomChar, XatomStarred, Xoutput, Xpattern, Xhold, XactivationLine, Xresult))
    (hb : nu_x Xscript L q = none → ∀ cu adr, post 0 (Xquiet, Xfuel, nI L, XinputSize, cu, XitemCount, XtablePresent, XcommandCount, XoutputSize, XpatternSize, XholdSize, XlineNumber, XstepCount, XnextLine, Xpointer, Xsubstituted, XresultSize, Xscript, Xinput, Xitems, Xverb, Xnegated, Xeverywhere, XlabelStart, XlabelSize, Xtarget, XreplacementStart, XreplacementEnd, Xreplacement, adr, XstartAnchor, XendAnchor, XatomCount, XatomChar, XatomStarred, Xoutput, Xpattern, Xhold, XactivationLine, Xresult)) :
    wpX_readNumber post (Xquiet, Xfuel, nI L, XinputSize, nI q, XitemCount, XtablePresent, XcommandCount, XoutputSize, XpatternSize, XholdSize, XlineNumber, XstepCount, XnextLine, Xpointer, Xsubstituted, XresultSize, Xscript, Xinput, Xitems, Xverb, Xnegated, Xeverywhere, XlabelStart, XlabelSize, Xtarget, XreplacementStart, XreplacementEnd, Xreplacement, Xaddress, XstartAnchor, XendAnchor, XatomCount, XatomChar, XatomStarred, Xoutput, Xpattern, Xhold, XactivationLine, Xresult) (nI j) := by
  unfold wpX_readNumber
  refine xm_peek hL hq ?_
  exact ⟨5, xm_num hL hj hq hg hb 5 0 (by omega) (by omega) (by omega)⟩
theorem nu_x_n {s : Nat → Int32} {L q : Nat} {r : Int32 × Nat} (h : nu_x s L q = some r) : ∃ m : Nat, 1 ≤ m ∧ m ≤ 255 ∧ r.1 = nI m := by
  unfold nu_x at h
  split at h
  · rename_i z
    have t := (Option.some.inj h).symm
    rw [t]
    have a : ¬ nu_v s q (sc_e (pb_d s) L q - q) < 0 := by
      rw [Int32.not_lt]
      exact Int32.le_trans (by decide) z.2.1
    obtain ⟨m, hm, e⟩ := nI_of a
    dsimp only
    refine ⟨m, ?_, ?_, e⟩
    · have := z.2.1
      rw [e] at this
      exact (nI_leI (a := 1) (by omega) hm).mp this
    · have := z.2.2
      rw [e] at this
      exact (nI_leI (b := 255) hm (by omega)).mp this
  · exact absurd h (by simp)
theorem xm_readAddress {L q j : Nat} {post : Int32 → SX → Prop} (hL : L ≤ 128) (hc : ch_ok Xscript L) (hj : j < 48) (hq : q ≤ L)
    (hg : ∀ a it ic adr sa ea ac ach ast, ad_x Xscript L q = some a → tb_A Xscript L adr sa ea ac ach ast j a.1 a.2.1 → xf_A j Xaddress XstartAnchor XendAnchor XatomCount XatomChar XatomStarred adr sa ea ac ach ast → post 1 (Xquiet, Xfuel, nI L, XinputSize, nI a.2.2, ic, XtablePresent, XcommandCount, XoutputSize, XpatternSize, XholdSize, XlineNumber, XstepCount, XnextLine, Xpointer, Xsubstituted, XresultSize, Xscript, Xinput, it, Xverb, Xnegated, Xeverywhere, XlabelStart, XlabelSize, Xtarget, XreplacementStart, XreplacementEnd, Xreplacement, adr, sa, ea, ac, ach, ast, Xoutput, Xpattern, Xhold, XactivationLine, Xresult))
    (hb : ad_x Xscript L q = none → ∀ cu ic it adr sa ea ac ach ast, post 0 (Xquiet, Xfuel, nI L, XinputSize, cu, ic, XtablePresent, XcommandCount, XoutputSize, XpatternSize, XholdSize, XlineNumber, XstepCount, XnextLine, Xpointer, Xsubstituted, XresultSize, Xscript, Xinput, it, Xverb, Xnegated, Xeverywhere, XlabelStart, XlabelSize, Xtarget, XreplacementStart, XreplacementEnd, Xreplacement, adr, sa, ea, ac, ach, ast, Xoutput, Xpattern, Xhold, XactivationLine, Xresult)) :
    wpX_readAddress post (Xquiet, Xfuel, nI L, XinputSize, nI q, XitemCount, XtablePresent, XcommandCount, XoutputSize, XpatternSize, XholdSize, XlineNumber, XstepCount, XnextLine, Xpointer, Xsubstituted, XresultSize, Xscript, Xinput, Xitems, Xverb, Xnegated, Xeverywhere, XlabelStart, XlabelSize, Xtarget, XreplacementStart, XreplacementEnd, Xreplacement, Xaddress, XstartAnchor, XendAnchor, XatomCount, XatomChar, XatomStarred, Xoutput, Xpattern, Xhold, XactivationLine, Xresult) (nI j) := by
  have hvj : vp_in (nI j) 48 := pk_in j 48 hj
  have cj : (nI j).toNatClampNeg = j := nI_clamp (by omega)
  have fru : ∀ v, xf_A j Xaddress XstartAnchor XendAnchor XatomCount XatomChar XatomStarred (upd Xaddress j v) XstartAnchor XendAnchor XatomCount XatomChar XatomStarred := fun v => ⟨fun i hi => ⟨pk_un hi, rfl, rfl, rfl⟩, fun i hi => ⟨rfl, rfl⟩⟩
  unfold wpX_readAddress
  refine xm_peek hL hq ?_
  refine xm_isDigit' ?_
  by_cases hd : q < L ∧ pb_d Xscript q = true
  · rw [show xp_d Xscript L q = 1 from by unfold xp_d; rw [if_pos hd]]
    refine br_f (by decide) ?_
    have n36 : ¬ Xscript q = 36 := fun y => by
      have := of_decide_eq_true hd.2
      rw [y] at this
      exact absurd this.1 (by decide)
    have n47 : ¬ Xscript q = 47 := fun y => by
      have := of_decide_eq_true hd.2
      rw [y] at this
      exact absurd this.1 (by decide)
    have ex : ad_x Xscript L q = (nu_x Xscript L q).map (fun r => (1, r.1, r.2)) := by
      unfold ad_x
      rw [if_neg (by omega), if_neg n36, if_neg n47, if_pos hd.2]
    refine xm_readNumber hL hj hq ?_ ?_
    · intro r hr
      refine ⟨rfl, ?_⟩
      rw [hr] at ex
      obtain ⟨m, m1, m2, e⟩ := nu_x_n hr
      exact hg _ _ _ _ _ _ _ _ _ ex (Or.inr (Or.inl ⟨rfl, pk_us, m, m1, m2, e⟩)) (fru _)
    · intro hr cu adr
      refine ⟨rfl, ?_⟩
      rw [hr] at ex
      exact hb ex _ _ _ _ _ _ _ _ _
  · rw [show xp_d Xscript L q = 0 from by unfold xp_d; rw [if_neg hd]]
    refine br_t rfl (nm_r (nI_1 q) ?_)
    rcases Nat.lt_or_ge q L with hqL | hqL
    · rw [xp_lo hqL]
      have nd : ¬ pb_d Xscript q = true := fun y => hd ⟨hqL, y⟩
      by_cases h36 : Xscript q = 36
      · refine br_t h36 ⟨hvj, nm_e ?_⟩
        rw [cj]
        exact hg (2, 0, q + 1) _ _ _ _ _ _ _ _ (by unfold ad_x; rw [if_neg (by omega), if_pos h36]) (Or.inr (Or.inr (Or.inl ⟨rfl, pk_us⟩))) (fru _)
      · refine br_f h36 ⟨hvj, nm_e ?_⟩
        rw [cj]
        by_cases h47 : Xscript q = 47
        · refine br_t h47 ?_
          have ex : ad_x Xscript L q = (rg_x Xscript L (q + 1)).map (fun r => (3, nI (q + 1), r.1)) := by
            unfold ad_x
            rw [if_neg (by omega), if_neg h36, if_pos h47]
          refine xm_readRegex hL hc hj (by omega) (by omega) ?_ ?_
          · intro g it ic sa ea ac ach ast hr hR hF
            refine br_f (by decide) ?_
            rw [hr] at ex
            refine hg _ _ _ _ _ _ _ _ _ ex (Or.inr (Or.inr (Or.inr ⟨rfl, pk_us, q + 1, g, by omega, rfl, hr, hR⟩))) ⟨fun i hi => ?_, hF.2⟩
            have := hF.1 i hi
            exact ⟨pk_un hi, this.2⟩
          · intro hr cu ic it sa ea ac ach ast
            refine br_t rfl ?_
            rw [hr] at ex
            exact hb ex _ _ _ _ _ _ _ _ _
        · refine br_f h47 ?_
          exact hb (by unfold ad_x; rw [if_neg (by omega), if_neg h36, if_neg h47, if_neg nd]) _ _ _ _ _ _ _ _ _
    · rw [xp_hi hqL]
      have ex : ad_x Xscript L q = none := by unfold ad_x; rw [if_pos hqL]
      refine br_f (by decide) ⟨hvj, nm_e (br_f (by decide) ?_)⟩
      exact hb ex _ _ _ _ _ _ _ _ _
end XA_1
end
section
/-! X's compiler: the address part, labels, the s command, the verb -/
section XP_1
variable {Xquiet Xfuel XscriptSize XinputSize Xcursor XitemCount XtablePresent XcommandCount XoutputSize XpatternSize XholdSize XlineNumber XstepCount XnextLine Xpointer Xsubstituted XresultSize : Int32} {Xscript Xinput Xitems Xverb Xnegated Xeverywhere XlabelStart XlabelSize Xtarget XreplacementStart XreplacementEnd Xreplacement Xaddress XstartAnchor XendAnchor XatomCount XatomChar XatomStarred Xoutput Xpattern Xhold XactivationLine Xresult : Nat → Int32}
/-- what a compile keeps -/
def xk_p (u : SX) : Int32 × Int32 × Int32 × Int32 × Int32 × Int32 × Int32 × Int32 × Int32 × Int32 × Int32 × (Nat → Int32) × (Nat → Int32) × (Nat → Int32) × (Nat → Int32) × (Nat → Int32) := match u with
  | (Xquiet, Xfuel, XscriptSize, XinputSize, Xcursor, XitemCount, XtablePresent, XcommandCount, XoutputSize, XpatternSize, XholdSize, XlineNumber, XstepCount, XnextLine, Xpointer, Xsubstituted, XresultSize, Xscript, Xinput, Xitems, Xverb, Xnegated, Xeverywhere, XlabelStart, XlabelSize, Xtarget, XreplacementStart, XreplacementEnd, Xreplacement, Xaddress, XstartAnchor, XendAnchor, XatomCount, XatomChar, XatomStarred, Xoutput, Xpattern, Xhold, XactivationLine, Xresult) => (Xquiet, Xfuel, XscriptSize, XinputSize, XtablePresent, XcommandCount, XoutputSize, XpatternSize, XholdSize, XlineNumber, XstepCount, Xscript, Xinput, Xoutput, Xpattern, Xhold)
/-- the slots below k * 3 are as they were -/
def xf_B (k : Nat) (adr sa ea ac ach ast adr' sa' ea' ac' ach' ast' : Nat → Int32) : Prop :=
  (∀ i, i < k * 3 → adr' i = adr i ∧ sa' i = sa i ∧ ea' i = ea i ∧ ac' i = ac i) ∧ (∀ i, i < k * 36 → ach' i = ach i ∧ ast' i = ast i)
theorem xf_AB {k j : Nat} {adr sa ea ac ach ast adr' sa' ea' ac' ach' ast' : Nat → Int32} (hj : k * 3 ≤ j) (h : xf_A j adr sa ea ac ach ast adr' sa' ea' ac' ach' ast') : xf_B k adr sa ea ac ach ast adr' sa' ea' ac' ach' ast' :=
  ⟨fun i hi => h.1 i (by omega), fun i hi => h.2 i (Or.inl (by omega))⟩
theorem xf_BB {k : Nat} {adr sa ea ac ach ast adr' sa' ea' ac' ach' ast' adr'' sa'' ea'' ac'' ach'' ast'' : Nat → Int32} (h : xf_B k adr sa ea ac ach ast adr' sa' ea' ac' ach' ast') (g : xf_B k adr' sa' ea' ac' ach' ast' adr'' sa'' ea'' ac'' ach'' ast'') : xf_B k adr sa ea ac ach ast adr'' sa'' ea'' ac'' ach'' ast'' :=
  ⟨fun i hi => ⟨(g.1 i hi).1.trans (h.1 i hi).1, (g.1 i hi).2.1.trans (h.1 i hi).2.1, (g.1 i hi).2.2.1.trans (h.1 i hi).2.2.1, (g.1 i hi).2.2.2.trans (h.1 i hi).2.2.2⟩, fun i hi => ⟨(g.2 i hi).1.trans (h.2 i hi).1, (g.2 i hi).2.trans (h.2 i hi).2⟩⟩
theorem xm_112 {L q k : Nat} {post : Int32 → SX → Prop} (hL : L ≤ 128) (hk : k < 16) (hq : q ≤ L) (h0 : Xnegated k = 0)
    (hg : ∀ ng, ng k = cm_g Xscript L q → (∀ i, ¬ i = k → ng i = Xnegated i) → post 1 (Xquiet, Xfuel, nI L, XinputSize, nI (cm_h Xscript L q), XitemCount, XtablePresent, nI k, XoutputSize, XpatternSize, XholdSize, XlineNumber, XstepCount, XnextLine, Xpointer, Xsubstituted, XresultSize, Xscript, Xinput, Xitems, Xverb, ng, Xeverywhere, XlabelStart, XlabelSize, Xtarget, XreplacementStart, XreplacementEnd, Xreplacement, Xaddress, XstartAnchor, XendAnchor, XatomCount, XatomChar, XatomStarred, Xoutput, Xpattern, Xhold, XactivationLine, Xresult)) :
    wX_readAddressPart_112 post Xquiet Xfuel (nI L) XinputSize (nI q) XitemCount XtablePresent (nI k) XoutputSize XpatternSize XholdSize XlineNumber XstepCount XnextLine Xpointer Xsubstituted XresultSize Xscript Xinput Xitems Xverb Xnegated Xeverywhere XlabelStart XlabelSize Xtarget XreplacementStart XreplacementEnd Xreplacement Xaddress XstartAnchor XendAnchor XatomCount XatomChar XatomStarred Xoutput Xpattern Xhold XactivationLine Xresult := by
  unfold wX_readAddressPart_112
  refine xm_peek hL hq ?_
  by_cases h : q < L ∧ Xscript q = 33
  · rw [xp_lo h.1]
    refine br_t h.2 (nm_r (nI_1 q) ⟨pk_in k 16 hk, nm_e ?_⟩)
    rw [nI_clamp (by omega)]
    refine xm_skipBlanks hL (by omega) ?_
    have := hg (upd Xnegated k 1) (by rw [pk_us]; unfold cm_g; rw [if_pos h]) (fun i hi => pk_un hi)
    rw [show cm_h Xscript L q = cm_sk Xscript L (q + 1) from by unfold cm_h; rw [if_pos h]] at this
    exact this
  · have := hg Xnegated (by rw [h0]; unfold cm_g; rw [if_neg h]) (fun i hi => rfl)
    rw [show cm_h Xscript L q = q from by unfold cm_h; rw [if_neg h]] at this
    refine br_f ?_ this
    by_cases g : q < L
    · rw [xp_lo g]; exact fun y => h ⟨g, y⟩
    · rw [xp_hi (by omega)]; decide
theorem xm_61 {L q k : Nat} {post : Int32 → SX → Prop} (hL : L ≤ 128) (hc : ch_ok Xscript L) (hk : k < 16) (hq : q < L) (hd : pb_d Xscript q = true ∨ Xscript q = 36 ∨ Xscript q = 47) (hn0 : Xnegated k = 0) (ha0 : Xaddress (k * 3 + 1) = 0)
    (hg : ∀ a it ic ng adr sa ea ac ach ast, cm_a Xscript L q = some a → ng k = a.2.2.2.1 → (∀ i, ¬ i = k → ng i = Xnegated i) → tb_A Xscript L adr sa ea ac ach ast (k * 3) a.2.1.1 a.2.1.2 → tb_A Xscript L adr sa ea ac ach ast (k * 3 + 1) a.2.2.1.1 a.2.2.1.2 → xf_B k Xaddress XstartAnchor XendAnchor XatomCount XatomChar XatomStarred adr sa ea ac ach ast → post 1 (Xquiet, Xfuel, nI L, XinputSize, nI a.2.2.2.2, ic, XtablePresent, nI k, XoutputSize, XpatternSize, XholdSize, XlineNumber, XstepCount, XnextLine, Xpointer, Xsubstituted, XresultSize, Xscript, Xinput, it, Xverb, ng, Xeverywhere, XlabelStart, XlabelSize, Xtarget, XreplacementStart, XreplacementEnd, Xreplacement, adr, sa, ea, ac, ach, ast, Xoutput, Xpattern, Xhold, XactivationLine, Xresult))
    (hb : cm_a Xscript L q = none → ∀ v, xk_p v = (Xquiet, Xfuel, nI L, XinputSize, XtablePresent, nI k, XoutputSize, XpatternSize, XholdSize, XlineNumber, XstepCount, Xscript, Xinput, Xoutput, Xpattern, Xhold) → post 0 v) :
    wX_readAddressPart_61 post (nI (k * 3)) (nI (k * 3 + 1)) Xquiet Xfuel (nI L) XinputSize (nI q) XitemCount XtablePresent (nI k) XoutputSize XpatternSize XholdSize XlineNumber XstepCount XnextLine Xpointer Xsubstituted XresultSize Xscript Xinput Xitems Xverb Xnegated Xeverywhere XlabelStart XlabelSize Xtarget XreplacementStart XreplacementEnd Xreplacement Xaddress XstartAnchor XendAnchor XatomCount XatomChar XatomStarred Xoutput Xpattern Xhold XactivationLine Xresult := by
  have ca : cm_a Xscript L q = (ad_x Xscript L q).bind (fun a =>
      if cm_sk Xscript L a.2.2 < L ∧ Xscript (cm_sk Xscript L a.2.2) = 44 then
        (ad_x Xscript L (cm_sk Xscript L (cm_sk Xscript L a.2.2 + 1))).map (fun b => (2, (a.1, a.2.1), (b.1, b.2.1), cm_g Xscript L (cm_sk Xscript L b.2.2), cm_h Xscript L (cm_sk Xscript L b.2.2)))
      else some (1, (a.1, a.2.1), (0, 0), cm_g Xscript L (cm_sk Xscript L a.2.2), cm_h Xscript L (cm_sk Xscript L a.2.2))) := by
    unfold cm_a
    rw [if_pos ⟨hq, hd⟩]
  unfold wX_readAddressPart_61
  refine xm_readAddress hL hc (by omega) (by omega) ?_ ?_
  · intro a it ic adr sa ea ac ach ast hax hA hF
    have fa := ad_x_f hax
    have f1 := cm_sk_f (s := Xscript) fa.2
    rw [hax] at ca
    dsimp only [Option.bind] at ca
    refine br_f (by decide) ?_
    refine xm_skipBlanks hL fa.2 ?_
    refine xm_peek hL f1.2 ?_
    by_cases hcm : cm_sk Xscript L a.2.2 < L ∧ Xscript (cm_sk Xscript L a.2.2) = 44
    · rw [xp_lo hcm.1]
      rw [if_pos hcm] at ca
      refine br_t hcm.2 (nm_r (nI_1 _) ?_)
      have f2 := cm_sk_f (s := Xscript) (show cm_sk Xscript L a.2.2 + 1 ≤ L by omega)
      refine xm_skipBlanks hL (by omega) ?_
      refine xm_readAddress hL hc (by omega) f2.2 ?_ ?_
      · intro b it' ic' adr' sa' ea' ac' ach' ast' hbx hB hF'
        have fb := ad_x_f hbx
        have f3 := cm_sk_f (s := Xscript) fb.2
        rw [hbx] at ca
        refine br_f (by decide) ?_
        refine xm_skipBlanks hL fb.2 ?_
        refine xm_112 hL hk f3.2 hn0 ?_
        intro ng hng hnf
        refine hg _ _ _ _ _ _ _ _ _ _ ca hng hnf ?_ hB (xf_BB (xf_AB (by omega) hF) (xf_AB (by omega) hF'))
        have w := hF'.1 (k * 3) (by omega)
        exact tb_A_fr w.1 w.2.1 w.2.2.1 w.2.2.2 (fun x h1 h2 => hF'.2 x (Or.inl (by omega))) hA
      · intro hbx cu ic' it' adr' sa' ea' ac' ach' ast'
        rw [hbx] at ca
        refine br_t rfl ?_
        exact hb ca _ rfl
    · rw [if_neg hcm] at ca
      refine br_f ?_ ?_
      · by_cases g : cm_sk Xscript L a.2.2 < L
        · rw [xp_lo g]; exact fun y => hcm ⟨g, y⟩
        · rw [xp_hi (by omega)]; decide
      · refine xm_112 hL hk f1.2 hn0 ?_
        intro ng hng hnf
        refine hg _ _ _ _ _ _ _ _ _ _ ca hng hnf hA (Or.inl ⟨rfl, ?_⟩) (xf_AB (by omega) hF)
        rw [(hF.1 (k * 3 + 1) (by omega)).1]
        exact ha0
  · intro hax cu ic it adr sa ea ac ach ast
    rw [hax] at ca
    refine br_t rfl ?_
    exact hb ca _ rfl
theorem xm_addrPart {L q k : Nat} {post : Int32 → SX → Prop} (hL : L ≤ 128) (hc : ch_ok Xscript L) (hk : k < 16) (hq : q < L)
    (hg : ∀ a it ic ng adr sa ea ac ach ast, cm_a Xscript L q = some a → ng k = a.2.2.2.1 → (∀ i, ¬ i = k → ng i = Xnegated i) → tb_A Xscript L adr sa ea ac ach ast (k * 3) a.2.1.1 a.2.1.2 → tb_A Xscript L adr sa ea ac ach ast (k * 3 + 1) a.2.2.1.1 a.2.2.1.2 → xf_B k Xaddress XstartAnchor XendAnchor XatomCount XatomChar XatomStarred adr sa ea ac ach ast → post 1 (Xquiet, Xfuel, nI L, XinputSize, nI a.2.2.2.2, ic, XtablePresent, nI k, XoutputSize, XpatternSize, XholdSize, XlineNumber, XstepCount, XnextLine, Xpointer, Xsubstituted, XresultSize, Xscript, Xinput, it, Xverb, ng, Xeverywhere, XlabelStart, XlabelSize, Xtarget, XreplacementStart, XreplacementEnd, Xreplacement, adr, sa, ea, ac, ach, ast, Xoutput, Xpattern, Xhold, XactivationLine, Xresult))
    (hb : cm_a Xscript L q = none → ∀ v, xk_p v = (Xquiet, Xfuel, nI L, XinputSize, XtablePresent, nI k, XoutputSize, XpatternSize, XholdSize, XlineNumber, XstepCount, Xscript, Xinput, Xoutput, Xpattern, Xhold) → post 0 v) :
    wpX_readAddressPart post (Xquiet, Xfuel, nI L, XinputSize, nI q, XitemCount, XtablePresent, nI k, XoutputSize, XpatternSize, XholdSize, XlineNumber, XstepCount, XnextLine, Xpointer, Xsubstituted, XresultSize, Xscript, Xinput, Xitems, Xverb, Xnegated, Xeverywhere, XlabelStart, XlabelSize, Xtarget, XreplacementStart, XreplacementEnd, Xreplacement, Xaddress, XstartAnchor, XendAnchor, XatomCount, XatomChar, XatomStarred, Xoutput, Xpattern, Xhold, XactivationLine, Xresult) := by
  unfold wpX_readAddressPart
  refine nm_r (pk_mul k 3) (nm_r (nI_1 (k * 3)) ⟨pk_in (k * 3) 48 (by omega), nm_e ⟨pk_in (k * 3 + 1) 48 (by omega), nm_e ⟨pk_in k 16 hk, nm_e ?_⟩⟩⟩)
  rw [nI_clamp (show k * 3 < 2 ^ 31 by omega), nI_clamp (show k * 3 + 1 < 2 ^ 31 by omega), nI_clamp (show k < 2 ^ 31 by omega), ba_vb0]
  have h61 : (pb_d Xscript q = true ∨ Xscript q = 36 ∨ Xscript q = 47) → wX_readAddressPart_61 post (nI (k * 3)) (nI (k * 3 + 1)) Xquiet Xfuel (nI L) XinputSize (nI q) XitemCount XtablePresent (nI k) XoutputSize XpatternSize XholdSize XlineNumber XstepCount XnextLine Xpointer Xsubstituted XresultSize Xscript Xinput Xitems Xverb (upd Xnegated k 0) Xeverywhere XlabelStart XlabelSize Xtarget XreplacementStart XreplacementEnd Xreplacement (upd (upd Xaddress (k * 3) 0) (k * 3 + 1) 0) XstartAnchor XendAnchor XatomCount XatomChar XatomStarred Xoutput Xpattern Xhold XactivationLine Xresult := fun hd => xm_61 hL hc hk hq hd pk_us pk_us (fun a it ic ng adr sa ea ac ach ast h1 h2 h3 h4 h5 h6 => hg a it ic ng adr sa ea ac ach ast h1 h2 (fun i hi => (h3 i hi).trans (pk_un hi)) h4 h5 ⟨fun i hi => ⟨(h6.1 i hi).1.trans (by rw [pk_un (by omega), pk_un (by omega)]), (h6.1 i hi).2⟩, h6.2⟩) hb
  refine xm_peek hL (by omega) ?_
  refine xm_isDigit' ?_
  rw [xp_lo hq]
  by_cases hd : pb_d Xscript q = true
  · rw [show xp_d Xscript L q = 1 from by unfold xp_d; rw [if_pos ⟨hq, hd⟩]]
    exact br_f (by decide) (h61 (Or.inl hd))
  · rw [show xp_d Xscript L q = 0 from by unfold xp_d; rw [if_neg (fun y => hd y.2)]]
    refine br_t rfl (br_c (fun h => h61 (Or.inr (Or.inl h))) (fun h => br_c (fun h' => h61 (Or.inr (Or.inr h'))) (fun h' => ?_)))
    refine hg (0, (0, 0), (0, 0), 0, q) _ _ _ _ _ _ _ _ _ ?_ pk_us (fun i hi => pk_un hi) (Or.inl ⟨rfl, ?_⟩) (Or.inl ⟨rfl, pk_us⟩) ⟨fun i hi => ⟨?_, rfl, rfl, rfl⟩, fun i hi => ⟨rfl, rfl⟩⟩
    · unfold cm_a
      rw [if_neg]
      intro y
      rcases y.2 with z | z | z
      · exact hd z
      · exact h z
      · exact h' z
    · rw [pk_un (by omega), pk_us]
    · rw [pk_un (by omega), pk_un (by omega)]
theorem xm_lab {L l k least : Nat} {post : Int32 → SX → Prop} (hL : L ≤ 128) (hk : k < 16) (hl : l ≤ L) (hle : least ≤ 1)
    (hg : sc_e (pb_l Xscript) L l - l ≤ 8 → least ≤ sc_e (pb_l Xscript) L l - l → post 1 (Xquiet, Xfuel, nI L, XinputSize, nI (sc_e (pb_l Xscript) L l), XitemCount, XtablePresent, nI k, XoutputSize, XpatternSize, XholdSize, XlineNumber, XstepCount, XnextLine, Xpointer, Xsubstituted, XresultSize, Xscript, Xinput, Xitems, Xverb, Xnegated, Xeverywhere, XlabelStart, upd XlabelSize k (nI (sc_e (pb_l Xscript) L l - l)), Xtarget, XreplacementStart, XreplacementEnd, Xreplacement, Xaddress, XstartAnchor, XendAnchor, XatomCount, XatomChar, XatomStarred, Xoutput, Xpattern, Xhold, XactivationLine, Xresult))
    (hb : (8 < sc_e (pb_l Xscript) L l - l ∨ sc_e (pb_l Xscript) L l - l < least) → ∀ cu lsz, post 0 (Xquiet, Xfuel, nI L, XinputSize, cu, XitemCount, XtablePresent, nI k, XoutputSize, XpatternSize, XholdSize, XlineNumber, XstepCount, XnextLine, Xpointer, Xsubstituted, XresultSize, Xscript, Xinput, Xitems, Xverb, Xnegated, Xeverywhere, XlabelStart, lsz, Xtarget, XreplacementStart, XreplacementEnd, Xreplacement, Xaddress, XstartAnchor, XendAnchor, XatomCount, XatomChar, XatomStarred, Xoutput, Xpattern, Xhold, XactivationLine, Xresult)) :
    ∀ f i, 9 - i < f → i ≤ 9 → i ≤ sc_e (pb_l Xscript) L l - l → wX_readLabel_24 post (nI least) Xquiet Xfuel (nI L) XinputSize XitemCount XtablePresent (nI k) XoutputSize XpatternSize XholdSize XlineNumber XstepCount XnextLine Xpointer Xsubstituted XresultSize Xscript Xinput Xitems Xverb Xnegated Xeverywhere XlabelStart XlabelSize Xtarget XreplacementStart XreplacementEnd Xreplacement Xaddress XstartAnchor XendAnchor XatomCount XatomChar XatomStarred Xoutput Xpattern Xhold XactivationLine Xresult f (nI i) (xp_v Xscript L (l + i)) (nI (l + i)) := by
  have hf := sc_facts (P := pb_l Xscript) hl
  have h58 : ∀ i, i ≤ 9 → (i = sc_e (pb_l Xscript) L l - l ∨ (i = 9 ∧ i ≤ sc_e (pb_l Xscript) L l - l)) → wX_readLabel_58 post (nI least) (nI i) Xquiet Xfuel (nI L) XinputSize (nI (l + i)) XitemCount XtablePresent (nI k) XoutputSize XpatternSize XholdSize XlineNumber XstepCount XnextLine Xpointer Xsubstituted XresultSize Xscript Xinput Xitems Xverb Xnegated Xeverywhere XlabelStart XlabelSize Xtarget XreplacementStart XreplacementEnd Xreplacement Xaddress XstartAnchor XendAnchor XatomCount XatomChar XatomStarred Xoutput Xpattern Xhold XactivationLine Xresult := by
    intro i h9 hi
    refine ⟨pk_in k 16 hk, nm_e ?_⟩
    rw [nI_clamp (by omega)]
    refine pk_lt i least (fun w => hb (by omega) _ _) (fun w => pk_lt 8 i (fun w2 => hb (by omega) _ _) (fun w2 => ?_))
    have e : i = sc_e (pb_l Xscript) L l - l := by omega
    have := hg (by omega) (by omega)
    rw [← e, show sc_e (pb_l Xscript) L l = l + i by omega] at this
    exact this
  intro f
  induction f with
  | zero => intro i h; omega
  | succ f ih =>
  intro i hfu h9 hi
  refine pk_lt 8 i (fun w => h58 i h9 (Or.inr ⟨by omega, hi⟩)) (fun w => ?_)
  refine xm_isLabel' ?_
  by_cases z : i = sc_e (pb_l Xscript) L l - l
  · have e : xp_l Xscript L (l + i) = 0 := by
      unfold xp_l
      rw [if_neg]
      intro y
      have e2 : l + i = sc_e (pb_l Xscript) L l := by omega
      rw [e2] at y
      have := hf.2.2.2 y.1
      rw [this] at y
      exact absurd y.2 (by decide)
    rw [e]
    exact br_t rfl (h58 i h9 (Or.inl z))
  · have hd := hf.2.2.1 (l + i) (by omega) (by omega)
    have hlt : l + i < L := by omega
    have e : xp_l Xscript L (l + i) = 1 := by
      unfold xp_l
      rw [if_pos ⟨hlt, hd⟩]
    rw [e]
    refine br_f (by decide) (nm_r (nI_1 i) (nm_r (nI_1 (l + i)) ?_))
    refine xm_peek hL (by omega) ?_
    exact ih (i + 1) (by omega) (by omega) (by omega)
theorem xm_readLabel {L q k least : Nat} {post : Int32 → SX → Prop} (hL : L ≤ 128) (hk : k < 16) (hq : q ≤ L) (hle : least ≤ 1)
    (hg : cm_le Xscript L q - cm_ls Xscript L q ≤ 8 → least ≤ cm_le Xscript L q - cm_ls Xscript L q → post 1 (Xquiet, Xfuel, nI L, XinputSize, nI (cm_le Xscript L q), XitemCount, XtablePresent, nI k, XoutputSize, XpatternSize, XholdSize, XlineNumber, XstepCount, XnextLine, Xpointer, Xsubstituted, XresultSize, Xscript, Xinput, Xitems, Xverb, Xnegated, Xeverywhere, upd XlabelStart k (nI (cm_ls Xscript L q)), upd XlabelSize k (nI (cm_le Xscript L q - cm_ls Xscript L q)), Xtarget, XreplacementStart, XreplacementEnd, Xreplacement, Xaddress, XstartAnchor, XendAnchor, XatomCount, XatomChar, XatomStarred, Xoutput, Xpattern, Xhold, XactivationLine, Xresult))
    (hb : (8 < cm_le Xscript L q - cm_ls Xscript L q ∨ cm_le Xscript L q - cm_ls Xscript L q < least) → ∀ cu lst lsz, post 0 (Xquiet, Xfuel, nI L, XinputSize, cu, XitemCount, XtablePresent, nI k, XoutputSize, XpatternSize, XholdSize, XlineNumber, XstepCount, XnextLine, Xpointer, Xsubstituted, XresultSize, Xscript, Xinput, Xitems, Xverb, Xnegated, Xeverywhere, lst, lsz, Xtarget, XreplacementStart, XreplacementEnd, Xreplacement, Xaddress, XstartAnchor, XendAnchor, XatomCount, XatomChar, XatomStarred, Xoutput, Xpattern, Xhold, XactivationLine, Xresult)) :
    wpX_readLabel post (Xquiet, Xfuel, nI L, XinputSize, nI q, XitemCount, XtablePresent, nI k, XoutputSize, XpatternSize, XholdSize, XlineNumber, XstepCount, XnextLine, Xpointer, Xsubstituted, XresultSize, Xscript, Xinput, Xitems, Xverb, Xnegated, Xeverywhere, XlabelStart, XlabelSize, Xtarget, XreplacementStart, XreplacementEnd, Xreplacement, Xaddress, XstartAnchor, XendAnchor, XatomCount, XatomChar, XatomStarred, Xoutput, Xpattern, Xhold, XactivationLine, Xresult) (nI least) := by
  unfold wpX_readLabel
  have f := cm_sk_f (s := Xscript) hq
  refine xm_skipBlanks hL hq ?_
  refine ⟨pk_in k 16 hk, nm_e ?_⟩
  rw [nI_clamp (by omega)]
  refine xm_peek hL f.2 ?_
  exact ⟨10, xm_lab hL hk f.2 hle hg (fun h cu lsz => hb h cu _ lsz) 10 0 (by omega) (by omega) (by omega)⟩
theorem xm_cmdEnd {L q k : Nat} {post : Int32 → SX → Prop} (hL : L ≤ 128) (hc : ch_ok Xscript L) (hq : q ≤ L)
    (hg : ¬ (cm_sk Xscript L q < L ∧ ¬ Xscript (cm_sk Xscript L q) = 59 ∧ ¬ Xscript (cm_sk Xscript L q) = 10) → post 1 (Xquiet, Xfuel, nI L, XinputSize, nI (cm_sk Xscript L q), XitemCount, XtablePresent, XcommandCount, XoutputSize, XpatternSize, XholdSize, XlineNumber, XstepCount, XnextLine, Xpointer, Xsubstituted, XresultSize, Xscript, Xinput, Xitems, Xverb, Xnegated, Xeverywhere, XlabelStart, XlabelSize, Xtarget, XreplacementStart, XreplacementEnd, Xreplacement, Xaddress, XstartAnchor, XendAnchor, XatomCount, XatomChar, XatomStarred, Xoutput, Xpattern, Xhold, XactivationLine, Xresult))
    (hb : (cm_sk Xscript L q < L ∧ ¬ Xscript (cm_sk Xscript L q) = 59 ∧ ¬ Xscript (cm_sk Xscript L q) = 10) → post 0 (Xquiet, Xfuel, nI L, XinputSize, nI (cm_sk Xscript L q), XitemCount, XtablePresent, XcommandCount, XoutputSize, XpatternSize, XholdSize, XlineNumber, XstepCount, XnextLine, Xpointer, Xsubstituted, XresultSize, Xscript, Xinput, Xitems, Xverb, Xnegated, Xeverywhere, XlabelStart, XlabelSize, Xtarget, XreplacementStart, XreplacementEnd, Xreplacement, Xaddress, XstartAnchor, XendAnchor, XatomCount, XatomChar, XatomStarred, Xoutput, Xpattern, Xhold, XactivationLine, Xresult)) :
    wpX_readCommandEnd post (Xquiet, Xfuel, nI L, XinputSize, nI q, XitemCount, XtablePresent, XcommandCount, XoutputSize, XpatternSize, XholdSize, XlineNumber, XstepCount, XnextLine, Xpointer, Xsubstituted, XresultSize, Xscript, Xinput, Xitems, Xverb, Xnegated, Xeverywhere, XlabelStart, XlabelSize, Xtarget, XreplacementStart, XreplacementEnd, Xreplacement, Xaddress, XstartAnchor, XendAnchor, XatomCount, XatomChar, XatomStarred, Xoutput, Xpattern, Xhold, XactivationLine, Xresult) := by
  unfold wpX_readCommandEnd
  have f := cm_sk_f (s := Xscript) hq
  refine xm_skipBlanks hL hq ?_
  refine xm_peek hL f.2 ?_
  by_cases g : cm_sk Xscript L q < L
  · rw [xp_lo g]
    refine br_f (ch_n1 hc g) (br_c (fun h => hg (fun y => y.2.1 h)) (fun h => br_c (fun h' => hg (fun y => y.2.2 h')) (fun h' => hb ⟨g, h, h'⟩)))
  · rw [xp_hi (by omega)]
    exact br_t rfl (hg (fun y => g y.1))
end XP_1
end
section
/-! X's compiler: replacement, s command, verb -/
section XV_1
variable {Xquiet Xfuel XscriptSize XinputSize Xcursor XitemCount XtablePresent XcommandCount XoutputSize XpatternSize XholdSize XlineNumber XstepCount XnextLine Xpointer Xsubstituted XresultSize : Int32} {Xscript Xinput Xitems Xverb Xnegated Xeverywhere XlabelStart XlabelSize Xtarget XreplacementStart XreplacementEnd Xreplacement Xaddress XstartAnchor XendAnchor XatomCount XatomChar XatomStarred Xoutput Xpattern Xhold XactivationLine Xresult : Nat → Int32}
theorem xm_rep16 {L q k n : Nat} {it : Nat → Int32} {post : Int32 → SX → Prop} (hL : L ≤ 128) (hc : ch_ok Xscript L) (hk : k < 16) (htx : tx_n Xscript L q = some n) (hit : ∀ j, j < n → it j = tx_k Xscript (tx_p Xscript q j))
    (hg : ∀ rep, (∀ j, j < n → rep (q + j) = tb_c Xscript (tx_p Xscript q j)) → (∀ i, i < q → rep i = Xreplacement i) → post 1 (Xquiet, Xfuel, nI L, XinputSize, nI (tx_p Xscript q n + 1), nI n, XtablePresent, nI k, XoutputSize, XpatternSize, XholdSize, XlineNumber, XstepCount, XnextLine, Xpointer, Xsubstituted, XresultSize, Xscript, Xinput, it, Xverb, Xnegated, Xeverywhere, XlabelStart, XlabelSize, Xtarget, upd XreplacementStart k (nI q), upd XreplacementEnd k (nI (q + n)), rep, Xaddress, XstartAnchor, XendAnchor, XatomCount, XatomChar, XatomStarred, Xoutput, Xpattern, Xhold, XactivationLine, Xresult)) :
    ∀ f m rep, n - m < f → m ≤ n → (∀ j, j < m → rep (q + j) = tb_c Xscript (tx_p Xscript q j)) → (∀ i, i < q → rep i = Xreplacement i) → wX_readReplacement_16 post (nI q) Xquiet Xfuel (nI L) XinputSize (nI (tx_p Xscript q n + 1)) (nI n) XtablePresent (nI k) XoutputSize XpatternSize XholdSize XlineNumber XstepCount XnextLine Xpointer Xsubstituted XresultSize f (nI m) Xscript Xinput it Xverb Xnegated Xeverywhere XlabelStart XlabelSize Xtarget XreplacementStart XreplacementEnd rep Xaddress XstartAnchor XendAnchor XatomCount XatomChar XatomStarred Xoutput Xpattern Xhold XactivationLine Xresult := by
  have hf := tx_facts n q htx
  have hpn := tx_p_ge Xscript q n
  intro f
  induction f with
  | zero => intro m rep h; omega
  | succ f ih =>
  intro m rep hfu hm h1 h2
  rcases Nat.lt_or_ge m n with z | z
  · obtain ⟨f1, f2, f3, f4⟩ := hf.1 m z
    have f5 : Xscript (tx_p Xscript q m) = 92 → tx_p Xscript q m + 1 < L := fun y => (f4 y).1
    have k38 : tx_k Xscript (tx_p Xscript q m) = 38 ↔ (tx_e Xscript (tx_p Xscript q m) = 0 ∧ tx_c Xscript (tx_p Xscript q m) = 38) := tx_k_eq hc f1 f5 38 (by omega)
    have hi : vp_in (nI m) 128 := pk_in m 128 (by omega)
    refine br_f (nI_ge z (by omega)) ⟨hi, ?_⟩
    rw [nI_clamp (show m < 2 ^ 31 by omega), hit m z]
    have eqm : nI q + nI m = nI (q + m) := nI_add q m
    have hi2 : vp_in (nI (q + m)) 128 := pk_in (q + m) 128 (by omega)
    rw [eqm]
    have nxt : ∀ v, v = tb_c Xscript (tx_p Xscript q m) → wX_readReplacement_16 post (nI q) Xquiet Xfuel (nI L) XinputSize (nI (tx_p Xscript q n + 1)) (nI n) XtablePresent (nI k) XoutputSize XpatternSize XholdSize XlineNumber XstepCount XnextLine Xpointer Xsubstituted XresultSize f (nI (m + 1)) Xscript Xinput it Xverb Xnegated Xeverywhere XlabelStart XlabelSize Xtarget XreplacementStart XreplacementEnd (upd rep (q + m) v) Xaddress XstartAnchor XendAnchor XatomCount XatomChar XatomStarred Xoutput Xpattern Xhold XactivationLine Xresult := by
      intro v hv
      refine ih (m + 1) _ (by omega) (by omega) (fun j hj => ?_) (fun i hi => ?_)
      · by_cases e : j = m
        · rw [e, pk_us, hv]
        · rw [pk_un (by omega)]; exact h1 j (by omega)
      · rw [pk_un (by omega)]; exact h2 i hi
    by_cases w : tx_k Xscript (tx_p Xscript q m) = 38
    · refine br_t w ⟨hi2, nm_e (nm_r (nI_1 m) ?_)⟩
      rw [nI_clamp (show q + m < 2 ^ 31 by omega)]
      exact nxt _ (by unfold tb_c; rw [if_pos (k38.mp w)])
    · refine br_f w ⟨hi, by decide, hi2, nm_e (nm_r (nI_1 m) ?_)⟩
      rw [nI_clamp (show q + m < 2 ^ 31 by omega), tx_k_rem hc f1 f5]
      exact nxt _ (by unfold tb_c; rw [if_neg (fun y => w (k38.mpr y))])
  · have e : m = n := by omega
    subst e
    have hi : vp_in (nI k) 16 := pk_in k 16 hk
    refine br_t (nI_le z (by omega)) ⟨hi, nm_e ⟨hi, nm_e ?_⟩⟩
    rw [nI_clamp (show k < 2 ^ 31 by omega), nI_add]
    exact hg rep h1 h2
theorem xm_readRep {L q k : Nat} {post : Int32 → SX → Prop} (hL : L ≤ 128) (hc : ch_ok Xscript L) (hk : k < 16) (h1 : 1 ≤ q) (hq : q ≤ L)
    (hg : ∀ n it rep, tx_n Xscript L q = some n → (∀ j, j < n → rep (q + j) = tb_c Xscript (tx_p Xscript q j)) → (∀ i, i < q → rep i = Xreplacement i) → post 1 (Xquiet, Xfuel, nI L, XinputSize, nI (tx_p Xscript q n + 1), nI n, XtablePresent, nI k, XoutputSize, XpatternSize, XholdSize, XlineNumber, XstepCount, XnextLine, Xpointer, Xsubstituted, XresultSize, Xscript, Xinput, it, Xverb, Xnegated, Xeverywhere, XlabelStart, XlabelSize, Xtarget, upd XreplacementStart k (nI q), upd XreplacementEnd k (nI (q + n)), rep, Xaddress, XstartAnchor, XendAnchor, XatomCount, XatomChar, XatomStarred, Xoutput, Xpattern, Xhold, XactivationLine, Xresult))
    (hb : tx_n Xscript L q = none → ∀ cu ic it, post 0 (Xquiet, Xfuel, nI L, XinputSize, cu, ic, XtablePresent, nI k, XoutputSize, XpatternSize, XholdSize, XlineNumber, XstepCount, XnextLine, Xpointer, Xsubstituted, XresultSize, Xscript, Xinput, it, Xverb, Xnegated, Xeverywhere, XlabelStart, XlabelSize, Xtarget, XreplacementStart, XreplacementEnd, Xreplacement, Xaddress, XstartAnchor, XendAnchor, XatomCount, XatomChar, XatomStarred, Xoutput, Xpattern, Xhold, XactivationLine, Xresult)) :
    wpX_readReplacement post (Xquiet, Xfuel, nI L, XinputSize, nI q, XitemCount, XtablePresent, nI k, XoutputSize, XpatternSize, XholdSize, XlineNumber, XstepCount, XnextLine, Xpointer, Xsubstituted, XresultSize, Xscript, Xinput, Xitems, Xverb, Xnegated, Xeverywhere, XlabelStart, XlabelSize, Xtarget, XreplacementStart, XreplacementEnd, Xreplacement, Xaddress, XstartAnchor, XendAnchor, XatomCount, XatomChar, XatomStarred, Xoutput, Xpattern, Xhold, XactivationLine, Xresult) := by
  unfold wpX_readReplacement
  refine xm_readText hL hc h1 hq ?_ ?_
  · intro n it htx hit
    exact br_f (by decide) ⟨n + 1, xm_rep16 hL hc hk htx hit (fun rep a b => hg n it rep htx a b) (n + 1) 0 _ (by omega) (by omega) (fun j hj => absurd hj (by omega)) (fun i hi => rfl)⟩
  · intro htx cu ic it
    exact br_t rfl (hb htx _ _ _)
/-- what the s command at q (its '/') lays down for command k -/
theorem xm_readSub {L q k : Nat} {post : Int32 → SX → Prop} (hL : L ≤ 128) (hc : ch_ok Xscript L) (hk : k < 16) (h1 : 1 ≤ q) (hq : q ≤ L)
    (hg : ∀ r it ic ev rst ren rep sa ea ac ach ast, cm_s Xscript L q = some r → (ev k = r.2.2.2.1 ∧ rst k = nI r.2.1 ∧ ren k = nI (r.2.1 + r.2.2.1) ∧ (∀ j, j < r.2.2.1 → rep (r.2.1 + j) = tb_c Xscript (tx_p Xscript r.2.1 j)) ∧ ∃ g, rg_x Xscript L r.1 = some g ∧ tb_R sa ea ac ach ast (k * 3 + 2) g) → (∀ i, ¬ i = k → ev i = Xeverywhere i ∧ rst i = XreplacementStart i ∧ ren i = XreplacementEnd i) → (∀ i, i < q → rep i = Xreplacement i) → xf_A (k * 3 + 2) Xaddress XstartAnchor XendAnchor XatomCount XatomChar XatomStarred Xaddress sa ea ac ach ast → post 1 (Xquiet, Xfuel, nI L, XinputSize, nI r.2.2.2.2, ic, XtablePresent, nI k, XoutputSize, XpatternSize, XholdSize, XlineNumber, XstepCount, XnextLine, Xpointer, Xsubstituted, XresultSize, Xscript, Xinput, it, Xverb, Xnegated, ev, XlabelStart, XlabelSize, Xtarget, rst, ren, rep, Xaddress, sa, ea, ac, ach, ast, Xoutput, Xpattern, Xhold, XactivationLine, Xresult))
    (hb : cm_s Xscript L q = none → ∀ v, xk_p v = (Xquiet, Xfuel, nI L, XinputSize, XtablePresent, nI k, XoutputSize, XpatternSize, XholdSize, XlineNumber, XstepCount, Xscript, Xinput, Xoutput, Xpattern, Xhold) → post 0 v) :
    wpX_readSubstitution post (Xquiet, Xfuel, nI L, XinputSize, nI q, XitemCount, XtablePresent, nI k, XoutputSize, XpatternSize, XholdSize, XlineNumber, XstepCount, XnextLine, Xpointer, Xsubstituted, XresultSize, Xscript, Xinput, Xitems, Xverb, Xnegated, Xeverywhere, XlabelStart, XlabelSize, Xtarget, XreplacementStart, XreplacementEnd, Xreplacement, Xaddress, XstartAnchor, XendAnchor, XatomCount, XatomChar, XatomStarred, Xoutput, Xpattern, Xhold, XactivationLine, Xresult) := by
  unfold wpX_readSubstitution
  refine xm_take hL hq ?_
  by_cases hs : q < L ∧ Xscript q = 47
  · rw [xp_lo hs.1]
    have cs : cm_s Xscript L q = (rg_x Xscript L (q + 1)).bind (fun r => (tx_n Xscript L r.1).map (fun n =>
      (q + 1, r.1, n, (if tx_p Xscript r.1 n + 1 < L ∧ Xscript (tx_p Xscript r.1 n + 1) = 103 then (1 : Int32) else 0), (if tx_p Xscript r.1 n + 1 < L ∧ Xscript (tx_p Xscript r.1 n + 1) = 103 then tx_p Xscript r.1 n + 2 else tx_p Xscript r.1 n + 1)))) := by
      unfold cm_s
      rw [if_pos hs]
    refine br_t hs.2 ?_
    have es : nI k * 3 + 2 = nI (k * 3 + 2) := by rw [show nI k * 3 = nI (k * 3) from pk_mul k 3]; exact nI_add (k * 3) 2
    rw [es]
    refine xm_readRegex hL hc (by omega) (by omega) (by omega) ?_ ?_
    · intro g it ic sa ea ac ach ast hr hR hF
      have fr := rg_x_f hr
      rw [hr] at cs
      dsimp only [Option.bind] at cs
      refine br_f (by decide) ?_
      refine xm_readRep hL hc hk (by omega) fr.2 ?_ ?_
      · intro n it' rep htx h2 h3
        have ft := tx_facts n g.1 htx
        rw [htx] at cs
        refine br_f (by decide) ?_
        refine xm_peek hL (by omega) ?_
        have hi : vp_in (nI k) 16 := pk_in k 16 hk
        have ck : (nI k).toNatClampNeg = k := nI_clamp (by omega)
        by_cases h103 : tx_p Xscript g.1 n + 1 < L ∧ Xscript (tx_p Xscript g.1 n + 1) = 103
        · rw [xp_lo h103.1]
          have cs' : cm_s Xscript L q = some (q + 1, g.1, n, 1, tx_p Xscript g.1 n + 2) := by
            rw [cs]
            show some (_, _, _, _, _) = _
            rw [if_pos h103, if_pos h103]
          refine br_t h103.2 ⟨hi, nm_e ⟨hi, ?_⟩⟩
          rw [ck, pk_us]
          refine br_f (by decide) (nm_r (nI_1 _) ?_)
          exact hg _ _ _ _ _ _ _ _ _ _ _ _ cs' ⟨pk_us, pk_us, pk_us, h2, g, hr, hR⟩ (fun i hi => ⟨pk_un hi, pk_un hi, pk_un hi⟩) (fun i hi => h3 i (by omega)) hF
        · have cs' : cm_s Xscript L q = some (q + 1, g.1, n, 0, tx_p Xscript g.1 n + 1) := by
            rw [cs]
            show some (_, _, _, _, _) = _
            rw [if_neg h103, if_neg h103]
          refine br_f ?_ ⟨hi, nm_e ⟨hi, ?_⟩⟩
          · by_cases y : tx_p Xscript g.1 n + 1 < L
            · rw [xp_lo y]; exact fun w => h103 ⟨y, w⟩
            · rw [xp_hi (by omega)]; decide
          · rw [ck, pk_us]
            refine br_t rfl ?_
            exact hg _ _ _ _ _ _ _ _ _ _ _ _ cs' ⟨pk_us, pk_us, pk_us, h2, g, hr, hR⟩ (fun i hi => ⟨pk_un hi, pk_un hi, pk_un hi⟩) (fun i hi => h3 i (by omega)) hF
      · intro htx cu ic' it'
        rw [htx] at cs
        exact br_t rfl (hb cs _ rfl)
    · intro hr cu ic it sa ea ac ach ast
      rw [hr] at cs
      exact br_t rfl (hb cs _ rfl)
  · refine br_f ?_ (hb (by unfold cm_s; rw [if_neg hs]) _ rfl)
    by_cases y : q < L
    · rw [xp_lo y]; exact fun w => hs ⟨y, w⟩
    · rw [xp_hi (by omega)]; decide
/-- what the verb at q lays down for command k -/
def xv_H (s : Nat → Int32) (L k q : Nat) (b : (Nat × Nat) × (Nat × Nat × Nat × Int32) × Nat) (ev lst lsz rst ren rep adr sa ea ac ach ast ev' lst' lsz' rst' ren' rep' sa' ea' ac' ach' ast' : Nat → Int32) : Prop :=
  (s q = 115 → ev' k = b.2.1.2.2.2 ∧ rst' k = nI b.2.1.2.1 ∧ ren' k = nI (b.2.1.2.1 + b.2.1.2.2.1) ∧ (∀ j, j < b.2.1.2.2.1 → rep' (b.2.1.2.1 + j) = tb_c s (tx_p s b.2.1.2.1 j)) ∧ ∃ g, rg_x s L b.2.1.1 = some g ∧ tb_R sa' ea' ac' ach' ast' (k * 3 + 2) g)
  ∧ ((s q = 58 ∨ s q = 98 ∨ s q = 116) → lst' k = nI b.1.1 ∧ lsz' k = nI b.1.2)
  ∧ (∀ i, ¬ i = k → ev' i = ev i ∧ lst' i = lst i ∧ lsz' i = lsz i ∧ rst' i = rst i ∧ ren' i = ren i) ∧ (∀ i, i < q → rep' i = rep i)
  ∧ xf_A (k * 3 + 2) adr sa ea ac ach ast adr sa' ea' ac' ach' ast'
theorem xm_verb {L q k na : Nat} {post : Int32 → SX → Prop} (hL : L ≤ 128) (hc : ch_ok Xscript L) (hk : k < 16) (hq : q ≤ L) (hna : Xaddress (k * 3) = 0 ↔ na = 0)
    (hg : ∀ b it ic ev lst lsz rst ren rep sa ea ac ach ast, cm_b Xscript L na q = some b → q < L → xv_H Xscript L k q b Xeverywhere XlabelStart XlabelSize XreplacementStart XreplacementEnd Xreplacement Xaddress XstartAnchor XendAnchor XatomCount XatomChar XatomStarred ev lst lsz rst ren rep sa ea ac ach ast → post 1 (Xquiet, Xfuel, nI L, XinputSize, nI b.2.2, ic, XtablePresent, nI k, XoutputSize, XpatternSize, XholdSize, XlineNumber, XstepCount, XnextLine, Xpointer, Xsubstituted, XresultSize, Xscript, Xinput, it, upd Xverb k (Xscript q), Xnegated, ev, lst, lsz, Xtarget, rst, ren, rep, Xaddress, sa, ea, ac, ach, ast, Xoutput, Xpattern, Xhold, XactivationLine, Xresult))
    (hb : cm_b Xscript L na q = none → ∀ v, xk_p v = (Xquiet, Xfuel, nI L, XinputSize, XtablePresent, nI k, XoutputSize, XpatternSize, XholdSize, XlineNumber, XstepCount, Xscript, Xinput, Xoutput, Xpattern, Xhold) → post 0 v) :
    wpX_readVerb post (Xquiet, Xfuel, nI L, XinputSize, nI q, XitemCount, XtablePresent, nI k, XoutputSize, XpatternSize, XholdSize, XlineNumber, XstepCount, XnextLine, Xpointer, Xsubstituted, XresultSize, Xscript, Xinput, Xitems, Xverb, Xnegated, Xeverywhere, XlabelStart, XlabelSize, Xtarget, XreplacementStart, XreplacementEnd, Xreplacement, Xaddress, XstartAnchor, XendAnchor, XatomCount, XatomChar, XatomStarred, Xoutput, Xpattern, Xhold, XactivationLine, Xresult) := by
  unfold wpX_readVerb
  refine xm_take hL hq ?_
  refine ⟨pk_in k 16 hk, nm_e ?_⟩
  have ck : (nI k).toNatClampNeg = k := nI_clamp (by omega)
  rw [ck]
  have fA : xf_A (k * 3 + 2) Xaddress XstartAnchor XendAnchor XatomCount XatomChar XatomStarred Xaddress XstartAnchor XendAnchor XatomCount XatomChar XatomStarred := ⟨fun i hi => ⟨rfl, rfl, rfl, rfl⟩, fun i hi => ⟨rfl, rfl⟩⟩
  rcases Nat.lt_or_ge q L with hqL | hqL
  · rw [xp_lo hqL]
    have ok : cm_v (Xscript q) = true → ¬ Xscript q = 115 → ¬ (Xscript q = 58 ∨ Xscript q = 98 ∨ Xscript q = 116) → post 1 (Xquiet, Xfuel, nI L, XinputSize, nI (q + 1), XitemCount, XtablePresent, nI k, XoutputSize, XpatternSize, XholdSize, XlineNumber, XstepCount, XnextLine, Xpointer, Xsubstituted, XresultSize, Xscript, Xinput, Xitems, upd Xverb k (Xscript q), Xnegated, Xeverywhere, XlabelStart, XlabelSize, Xtarget, XreplacementStart, XreplacementEnd, Xreplacement, Xaddress, XstartAnchor, XendAnchor, XatomCount, XatomChar, XatomStarred, Xoutput, Xpattern, Xhold, XactivationLine, Xresult) := by
      intro hv h115 hl
      refine hg ((0, 0), (0, 0, 0, 0), q + 1) _ _ _ _ _ _ _ _ _ _ _ _ _ ?_ hqL ⟨fun y => absurd y h115, fun y => absurd y hl, fun i hi => ⟨rfl, rfl, rfl, rfl, rfl⟩, fun i hi => rfl, fA⟩
      unfold cm_b
      rw [if_neg (by omega), if_neg h115, if_neg hl, if_pos hv]
    have lab : ∀ least : Nat, least ≤ 1 → (Xscript q = 58 ∨ Xscript q = 98 ∨ Xscript q = 116) → ¬ Xscript q = 115 → (Xscript q = 58 → na = 0 ∧ least = 1) → (¬ Xscript q = 58 → least = 0) → ∀ P : Int32 → SX → Prop, (∀ v, post 1 v → P 1 v) → (∀ v, post 0 v → P 0 v) → wpX_readLabel P (Xquiet, Xfuel, nI L, XinputSize, nI (q + 1), XitemCount, XtablePresent, nI k, XoutputSize, XpatternSize, XholdSize, XlineNumber, XstepCount, XnextLine, Xpointer, Xsubstituted, XresultSize, Xscript, Xinput, Xitems, upd Xverb k (Xscript q), Xnegated, Xeverywhere, XlabelStart, XlabelSize, Xtarget, XreplacementStart, XreplacementEnd, Xreplacement, Xaddress, XstartAnchor, XendAnchor, XatomCount, XatomChar, XatomStarred, Xoutput, Xpattern, Xhold, XactivationLine, Xresult) (nI least) := by
      intro least hle hl h115 h58 hn58 P p1 p0
      have cb : cm_b Xscript L na q = (if (Xscript q = 58 ∧ 0 < na) ∨ 8 < cm_le Xscript L (q + 1) - cm_ls Xscript L (q + 1) ∨ (Xscript q = 58 ∧ cm_le Xscript L (q + 1) - cm_ls Xscript L (q + 1) < 1) then none
     else some ((cm_ls Xscript L (q + 1), cm_le Xscript L (q + 1) - cm_ls Xscript L (q + 1)), (0, 0, 0, 0), cm_le Xscript L (q + 1))) := by
        unfold cm_b
        rw [if_neg (by omega), if_neg h115, if_pos hl]
      refine xm_readLabel hL hk (by omega) hle ?_ ?_
      · intro g8 gl
        refine p1 _ (hg ((cm_ls Xscript L (q + 1), cm_le Xscript L (q + 1) - cm_ls Xscript L (q + 1)), (0, 0, 0, 0), cm_le Xscript L (q + 1)) _ _ _ _ _ _ _ _ _ _ _ _ _ ?_ hqL ⟨fun y => absurd y h115, fun y => ⟨pk_us, pk_us⟩, fun i hi => ⟨rfl, pk_un hi, pk_un hi, rfl, rfl⟩, fun i hi => rfl, fA⟩)
        rw [cb, if_neg]
        intro y
        rcases y with y | y | y
        · have := h58 y.1; omega
        · omega
        · have := h58 y.1; omega
      · intro gb cu lst lsz
        refine p0 _ (hb ?_ _ rfl)
        rw [cb, if_pos]
        by_cases z : Xscript q = 58
        · have := h58 z
          rcases gb with y | y
          · exact Or.inr (Or.inl y)
          · exact Or.inr (Or.inr ⟨z, by omega⟩)
        · have := hn58 z
          rcases gb with y | y
          · exact Or.inr (Or.inl y)
          · omega
    have bt : ∀ c : Int32, (c = 98 ∨ c = 116) → Xscript q = c → wX_readVerb_159 post Xquiet Xfuel (nI L) XinputSize (nI (q + 1)) XitemCount XtablePresent (nI k) XoutputSize XpatternSize XholdSize XlineNumber XstepCount XnextLine Xpointer Xsubstituted XresultSize Xscript Xinput Xitems (upd Xverb k (Xscript q)) Xnegated Xeverywhere XlabelStart XlabelSize Xtarget XreplacementStart XreplacementEnd Xreplacement Xaddress XstartAnchor XendAnchor XatomCount XatomChar XatomStarred Xoutput Xpattern Xhold XactivationLine Xresult := by
      intro c hcc hx
      have n58 : ¬ Xscript q = 58 := by rw [hx]; rcases hcc with rfl | rfl <;> decide
      have n115 : ¬ Xscript q = 115 := by rw [hx]; rcases hcc with rfl | rfl <;> decide
      exact lab 0 (by omega) (by rw [hx]; exact Or.inr hcc) n115 (fun y => absurd y n58) (fun _ => rfl) (fun r_93 u => match u with | (Xquiet1, Xfuel1, XscriptSize1, XinputSize1, Xcursor1, XitemCount1, XtablePresent1, XcommandCount1, XoutputSize1, XpatternSize1, XholdSize1, XlineNumber1, XstepCount1, XnextLine1, Xpointer1, Xsubstituted1, XresultSize1, Xscript1, Xinput1, Xitems1, Xverb1, Xnegated1, Xeverywhere1, XlabelStart1, XlabelSize1, Xtarget1, XreplacementStart1, XreplacementEnd1, Xreplacement1, Xaddress1, XstartAnchor1, XendAnchor1, XatomCount1, XatomChar1, XatomStarred1, Xoutput1, Xpattern1, Xhold1, XactivationLine1, Xresult1) => (narrow .boolean (.int r_93) = .int r_93 ∧ (post r_93 (Xquiet1, Xfuel1, XscriptSize1, XinputSize1, Xcursor1, XitemCount1, XtablePresent1, XcommandCount1, XoutputSize1, XpatternSize1, XholdSize1, XlineNumber1, XstepCount1, XnextLine1, Xpointer1, Xsubstituted1, XresultSize1, Xscript1, Xinput1, Xitems1, Xverb1, Xnegated1, Xeverywhere1, XlabelStart1, XlabelSize1, Xtarget1, XreplacementStart1, XreplacementEnd1, Xreplacement1, Xaddress1, XstartAnchor1, XendAnchor1, XatomCount1, XatomChar1, XatomStarred1, Xoutput1, Xpattern1, Xhold1, XactivationLine1, Xresult1)))) (fun v h => ⟨rfl, h⟩) (fun v h => ⟨rfl, h⟩)
    have nl : ∀ c : Int32, Xscript q = c → cm_v c = true → ¬ c = 115 → ¬ (c = 58 ∨ c = 98 ∨ c = 116) → post 1 (Xquiet, Xfuel, nI L, XinputSize, nI (q + 1), XitemCount, XtablePresent, nI k, XoutputSize, XpatternSize, XholdSize, XlineNumber, XstepCount, XnextLine, Xpointer, Xsubstituted, XresultSize, Xscript, Xinput, Xitems, upd Xverb k (Xscript q), Xnegated, Xeverywhere, XlabelStart, XlabelSize, Xtarget, XreplacementStart, XreplacementEnd, Xreplacement, Xaddress, XstartAnchor, XendAnchor, XatomCount, XatomChar, XatomStarred, Xoutput, Xpattern, Xhold, XactivationLine, Xresult) := fun c hx h1 h2 h3 => ok (by rw [hx]; exact h1) (by rw [hx]; exact h2) (by rw [hx]; exact h3)
    refine br_c (fun h58 => ?_) (fun h58 => br_c (fun h => nl 71 h (by decide) (by decide) (by decide)) (fun h71 => br_c (fun h => nl 72 h (by decide) (by decide) (by decide)) (fun h72 => br_c (fun h => nl 78 h (by decide) (by decide) (by decide)) (fun h78 => br_c (fun h => bt 98 (Or.inl rfl) h) (fun h98 => br_c (fun h => nl 100 h (by decide) (by decide) (by decide)) (fun h100 => br_c (fun h => nl 103 h (by decide) (by decide) (by decide)) (fun h103 => br_c (fun h => nl 104 h (by decide) (by decide) (by decide)) (fun h104 => br_c (fun h => nl 112 h (by decide) (by decide) (by decide)) (fun h112 => br_c (fun h115 => ?_) (fun h115 => br_c (fun h => bt 116 (Or.inr rfl) h) (fun h116 => br_c (fun h => nl 120 h (by decide) (by decide) (by decide)) (fun h120 => ?_))))))))))))
    · have e3 : nI k * 3 = nI (k * 3) := pk_mul k 3
      rw [e3]
      refine ⟨pk_in (k * 3) 48 (by omega), ?_⟩
      rw [nI_clamp (by omega)]
      have n115 : ¬ Xscript q = 115 := by rw [h58]; decide
      refine br_c (fun h0 => ?_) (fun h0 => ?_)
      · exact lab 1 (by omega) (Or.inl h58) n115 (fun _ => ⟨hna.mp h0, rfl⟩) (fun y => absurd h58 y) (fun r_47 u => match u with | (Xquiet1, Xfuel1, XscriptSize1, XinputSize1, Xcursor1, XitemCount1, XtablePresent1, XcommandCount1, XoutputSize1, XpatternSize1, XholdSize1, XlineNumber1, XstepCount1, XnextLine1, Xpointer1, Xsubstituted1, XresultSize1, Xscript1, Xinput1, Xitems1, Xverb1, Xnegated1, Xeverywhere1, XlabelStart1, XlabelSize1, Xtarget1, XreplacementStart1, XreplacementEnd1, Xreplacement1, Xaddress1, XstartAnchor1, XendAnchor1, XatomCount1, XatomChar1, XatomStarred1, Xoutput1, Xpattern1, Xhold1, XactivationLine1, Xresult1) => (((r_47 = 0 → (post 0 (Xquiet1, Xfuel1, XscriptSize1, XinputSize1, Xcursor1, XitemCount1, XtablePresent1, XcommandCount1, XoutputSize1, XpatternSize1, XholdSize1, XlineNumber1, XstepCount1, XnextLine1, Xpointer1, Xsubstituted1, XresultSize1, Xscript1, Xinput1, Xitems1, Xverb1, Xnegated1, Xeverywhere1, XlabelStart1, XlabelSize1, Xtarget1, XreplacementStart1, XreplacementEnd1, Xreplacement1, Xaddress1, XstartAnchor1, XendAnchor1, XatomCount1, XatomChar1, XatomStarred1, Xoutput1, Xpattern1, Xhold1, XactivationLine1, Xresult1))) ∧ (¬ r_47 = 0 → (post 1 (Xquiet1, Xfuel1, XscriptSize1, XinputSize1, Xcursor1, XitemCount1, XtablePresent1, XcommandCount1, XoutputSize1, XpatternSize1, XholdSize1, XlineNumber1, XstepCount1, XnextLine1, Xpointer1, Xsubstituted1, XresultSize1, Xscript1, Xinput1, Xitems1, Xverb1, Xnegated1, Xeverywhere1, XlabelStart1, XlabelSize1, Xtarget1, XreplacementStart1, XreplacementEnd1, Xreplacement1, Xaddress1, XstartAnchor1, XendAnchor1, XatomCount1, XatomChar1, XatomStarred1, Xoutput1, Xpattern1, Xhold1, XactivationLine1, Xresult1)))))) (fun v h => br_f (by decide) h) (fun v h => br_t rfl h)
      · have hp : 0 < na := by
          rcases Nat.eq_zero_or_pos na with y | y
          · exact absurd (hna.mpr y) h0
          · exact y
        refine hb ?_ _ rfl
        unfold cm_b
        rw [if_neg (by omega), if_neg n115, if_pos (Or.inl h58), if_pos (Or.inl ⟨h58, hp⟩)]
    · have cb : cm_b Xscript L na q = (cm_s Xscript L (q + 1)).map (fun r => ((0, 0), (r.1, r.2.1, r.2.2.1, r.2.2.2.1), r.2.2.2.2)) := by
        unfold cm_b
        rw [if_neg (by omega), if_pos h115]
      have nl3 : ¬ (Xscript q = 58 ∨ Xscript q = 98 ∨ Xscript q = 116) := fun y => by
        rcases y with y | y | y
        · exact h58 y
        · exact h98 y
        · rw [h115] at y; exact absurd y (by decide)
      refine xm_readSub hL hc hk (by omega) (by omega) ?_ ?_
      · intro r it ic ev rst ren rep sa ea ac ach ast hr h1 h2 h3 h4
        refine ⟨rfl, ?_⟩
        rw [hr] at cb
        exact hg _ _ _ _ _ _ _ _ _ _ _ _ _ _ cb hqL ⟨fun _ => h1, fun y => absurd y nl3, fun i hi => ⟨(h2 i hi).1, rfl, rfl, (h2 i hi).2.1, (h2 i hi).2.2⟩, fun i hi => h3 i (by omega), h4⟩
      · intro hr v hv
        rw [hr] at cb
        obtain ⟨Xquiet1, Xfuel1, XscriptSize1, XinputSize1, Xcursor1, XitemCount1, XtablePresent1, XcommandCount1, XoutputSize1, XpatternSize1, XholdSize1, XlineNumber1, XstepCount1, XnextLine1, Xpointer1, Xsubstituted1, XresultSize1, Xscript1, Xinput1, Xitems1, Xverb1, Xnegated1, Xeverywhere1, XlabelStart1, XlabelSize1, Xtarget1, XreplacementStart1, XreplacementEnd1, Xreplacement1, Xaddress1, XstartAnchor1, XendAnchor1, XatomCount1, XatomChar1, XatomStarred1, Xoutput1, Xpattern1, Xhold1, XactivationLine1, Xresult1⟩ := v
        exact ⟨rfl, hb cb _ hv⟩
    · refine hb ?_ _ rfl
      unfold cm_b
      rw [if_neg (by omega), if_neg h115, if_neg (fun y => by
        rcases y with y | y | y
        · exact h58 y
        · exact h98 y
        · exact h116 y), if_neg]
      intro y
      rcases of_decide_eq_true y with y | y | y | y | y | y | y | y
      · exact h100 y
      · exact h112 y
      · exact h78 y
      · exact h104 y
      · exact h72 y
      · exact h103 y
      · exact h71 y
      · exact h120 y
  · rw [xp_hi hqL]
    have cb : cm_b Xscript L na q = none := by unfold cm_b; rw [if_pos hqL]
    exact br_f (by decide) (br_f (by decide) (br_f (by decide) (br_f (by decide) (br_f (by decide) (br_f (by decide) (br_f (by decide) (br_f (by decide) (br_f (by decide) (br_f (by decide) (br_f (by decide) (br_f (by decide) (hb cb _ rfl))))))))))))
end XV_1
end
section
/-! Y's parser: chars, texts, regexes -/
section YT_1
variable {Yquiet Yfuel YscrLen YinpLen YhasTab YnCmd YoutLen YpatLen YholdLen YlinesRead YstepsUsed Ytflag YnAddr Ya1K Ya1V Ya2K Ya2V Ycc YlabS YlabL YsRe YsRep YadK YadV Yneg YsG YicN Yna YanS YanE YmJ YrLen : Int32} {Yscr Yinp YcmdPos Yout Ypat Yhold Yactive Yact Yic Yie YaC YaAny YaSt Yrch Ynx Yrb : Nat → Int32}
theorem ym_skip {L q : Nat} {post : Int32 → Prop} (hL : L ≤ 128) (hq : q ≤ L) (h : post (nI (cm_sk Yscr L q))) : wpY_skip post (Yquiet, Yfuel, nI L, YinpLen, YhasTab, YnCmd, YoutLen, YpatLen, YholdLen, YlinesRead, YstepsUsed, Ytflag, YnAddr, Ya1K, Ya1V, Ya2K, Ya2V, Ycc, YlabS, YlabL, YsRe, YsRep, YadK, YadV, Yneg, YsG, YicN, Yna, YanS, YanE, YmJ, YrLen, Yscr, Yinp, YcmdPos, Yout, Ypat, Yhold, Yactive, Yact, Yic, Yie, YaC, YaAny, YaSt, Yrch, Ynx, Yrb) (nI q) := by
  unfold wpY_skip
  refine ⟨L - q + 1, ?_⟩
  refine sc_loop (fun n q => wY_skip_0 post Yquiet Yfuel (nI L) YinpLen YhasTab YnCmd YoutLen YpatLen YholdLen YlinesRead YstepsUsed Ytflag YnAddr Ya1K Ya1V Ya2K Ya2V Ycc YlabS YlabL YsRe YsRep YadK YadV Yneg YsG YicN Yna YanS YanE YmJ YrLen Yscr Yinp YcmdPos Yout Ypat Yhold Yactive Yact Yic Yie YaC YaAny YaSt Yrch Ynx Yrb n (nI q)) (pb_b Yscr) L (fun q => post (nI q)) ?_ ?_ (L - q + 1) q hq (by omega) h
  · intro n q hq hp hW
    refine br_f (nI_ge hq (by omega)) ⟨pk_in q 128 (by omega), ?_⟩
    rw [nI_clamp (by omega)]
    exact br_t (of_decide_eq_true hp) (nm_r (nI_1 q) hW)
  · intro n q hq hp hR
    refine pk_le L q (fun g => hR) (fun g => ⟨pk_in q 128 (by omega), ?_⟩)
    rw [nI_clamp (by omega)]
    exact br_f (of_decide_eq_false (hp g)) hR
theorem ym_isDigit {s : Nat → Int32} {q : Nat} {post : Int32 → Prop} (h : post (if pb_d s q = true then 1 else 0)) : wpY_isDigit post (Yquiet, Yfuel, YscrLen, YinpLen, YhasTab, YnCmd, YoutLen, YpatLen, YholdLen, YlinesRead, YstepsUsed, Ytflag, YnAddr, Ya1K, Ya1V, Ya2K, Ya2V, Ycc, YlabS, YlabL, YsRe, YsRep, YadK, YadV, Yneg, YsG, YicN, Yna, YanS, YanE, YmJ, YrLen, Yscr, Yinp, YcmdPos, Yout, Ypat, Yhold, Yactive, Yact, Yic, Yie, YaC, YaAny, YaSt, Yrch, Ynx, Yrb) (s q) := xm_isDigit h
theorem ym_isLab {s : Nat → Int32} {q : Nat} {post : Int32 → Prop} (h : post (if pb_l s q = true then 1 else 0)) : wpY_isLab post (Yquiet, Yfuel, YscrLen, YinpLen, YhasTab, YnCmd, YoutLen, YpatLen, YholdLen, YlinesRead, YstepsUsed, Ytflag, YnAddr, Ya1K, Ya1V, Ya2K, Ya2V, Ycc, YlabS, YlabL, YsRe, YsRep, YadK, YadV, Yneg, YsG, YicN, Yna, YanS, YanE, YmJ, YrLen, Yscr, Yinp, YcmdPos, Yout, Ypat, Yhold, Yactive, Yact, Yic, Yie, YaC, YaAny, YaSt, Yrch, Ynx, Yrb) (s q) := by
  have t : pb_l s q = true → post 1 := fun z => by rw [if_pos z] at h; exact h
  have f : ¬ pb_l s q = true → post 0 := fun z => by rw [if_neg z] at h; exact h
  have t : ((65 ≤ s q ∧ s q ≤ 90) ∨ (97 ≤ s q ∧ s q ≤ 122) ∨ (48 ≤ s q ∧ s q ≤ 57) ∨ s q = 95) → post 1 := fun z => t (decide_eq_true z)
  have f : ¬ ((65 ≤ s q ∧ s q ≤ 90) ∨ (97 ≤ s q ∧ s q ≤ 122) ∨ (48 ≤ s q ∧ s q ≤ 57) ∨ s q = 95) → post 0 := fun z => f (fun y => z (of_decide_eq_true y))
  have h36 : ¬ (65 ≤ s q ∧ s q ≤ 90) → ¬ (97 ≤ s q ∧ s q ≤ 122) → ¬ (48 ≤ s q ∧ s q ≤ 57) → wY_isLab_36 post (s q) Yquiet Yfuel YscrLen YinpLen YhasTab YnCmd YoutLen YpatLen YholdLen YlinesRead YstepsUsed Ytflag YnAddr Ya1K Ya1V Ya2K Ya2V Ycc YlabS YlabL YsRe YsRep YadK YadV Yneg YsG YicN Yna YanS YanE YmJ YrLen Yscr Yinp YcmdPos Yout Ypat Yhold Yactive Yact Yic Yie YaC YaAny YaSt Yrch Ynx Yrb := fun a b c => br_c (fun d => t (Or.inr (Or.inr (Or.inr d)))) (fun d => f (fun z => by
    rcases z with z | z | z | z
    · exact a z
    · exact b z
    · exact c z
    · exact d z))
  have h24 : ¬ (65 ≤ s q ∧ s q ≤ 90) → ¬ (97 ≤ s q ∧ s q ≤ 122) → wY_isLab_24 post (s q) Yquiet Yfuel YscrLen YinpLen YhasTab YnCmd YoutLen YpatLen YholdLen YlinesRead YstepsUsed Ytflag YnAddr Ya1K Ya1V Ya2K Ya2V Ycc YlabS YlabL YsRe YsRep YadK YadV Yneg YsG YicN Yna YanS YanE YmJ YrLen Yscr Yinp YcmdPos Yout Ypat Yhold Yactive Yact Yic Yie YaC YaAny YaSt Yrch Ynx Yrb := fun a b => br_c (fun d => h36 a b (fun z => absurd d (Int32.not_lt.mpr z.1))) (fun d => br_c (fun e => t (Or.inr (Or.inr (Or.inl ⟨Int32.not_lt.mp d, e⟩)))) (fun e => h36 a b (fun z => e z.2)))
  have h12 : ¬ (65 ≤ s q ∧ s q ≤ 90) → wY_isLab_12 post (s q) Yquiet Yfuel YscrLen YinpLen YhasTab YnCmd YoutLen YpatLen YholdLen YlinesRead YstepsUsed Ytflag YnAddr Ya1K Ya1V Ya2K Ya2V Ycc YlabS YlabL YsRe YsRep YadK YadV Yneg YsG YicN Yna YanS YanE YmJ YrLen Yscr Yinp YcmdPos Yout Ypat Yhold Yactive Yact Yic Yie YaC YaAny YaSt Yrch Ynx Yrb := fun a => br_c (fun d => h24 a (fun z => absurd d (Int32.not_lt.mpr z.1))) (fun d => br_c (fun e => t (Or.inr (Or.inl ⟨Int32.not_lt.mp d, e⟩))) (fun e => h24 a (fun z => e z.2)))
  exact br_c (fun d => h12 (fun z => absurd d (Int32.not_lt.mpr z.1))) (fun d => br_c (fun e => t (Or.inl ⟨Int32.not_lt.mp d, e⟩)) (fun e => h12 (fun z => e z.2)))
theorem ym_text {L q : Nat} {post : Int32 → SY → Prop} (hL : L ≤ 128)
    (hg : ∀ n ic ie, tx_n Yscr L q = some n → (∀ j, j < n → ic j = tx_c Yscr (tx_p Yscr q j) ∧ ie j = tx_e Yscr (tx_p Yscr q j)) → post (nI (tx_p Yscr q n + 1)) (Yquiet, Yfuel, nI L, YinpLen, YhasTab, YnCmd, YoutLen, YpatLen, YholdLen, YlinesRead, YstepsUsed, Ytflag, YnAddr, Ya1K, Ya1V, Ya2K, Ya2V, Ycc, YlabS, YlabL, YsRe, YsRep, YadK, YadV, Yneg, YsG, nI n, Yna, YanS, YanE, YmJ, YrLen, Yscr, Yinp, YcmdPos, Yout, Ypat, Yhold, Yactive, Yact, ic, ie, YaC, YaAny, YaSt, Yrch, Ynx, Yrb))
    (hb : tx_n Yscr L q = none → ∀ icn ic ie, post (-1) (Yquiet, Yfuel, nI L, YinpLen, YhasTab, YnCmd, YoutLen, YpatLen, YholdLen, YlinesRead, YstepsUsed, Ytflag, YnAddr, Ya1K, Ya1V, Ya2K, Ya2V, Ycc, YlabS, YlabL, YsRe, YsRep, YadK, YadV, Yneg, YsG, icn, Yna, YanS, YanE, YmJ, YrLen, Yscr, Yinp, YcmdPos, Yout, Ypat, Yhold, Yactive, Yact, ic, ie, YaC, YaAny, YaSt, Yrch, Ynx, Yrb)) :
    ∀ f k p ic ie, L - p < f → p ≤ L → p = tx_p Yscr q k → (∀ j, j < k → ic j = tx_c Yscr (tx_p Yscr q j) ∧ ie j = tx_e Yscr (tx_p Yscr q j)) → tx_n Yscr L q = (tx_n Yscr L p).map (fun n => n + k) → wY_loadText_7 post Yquiet Yfuel (nI L) YinpLen YhasTab YnCmd YoutLen YpatLen YholdLen YlinesRead YstepsUsed Ytflag YnAddr Ya1K Ya1V Ya2K Ya2V Ycc YlabS YlabL YsRe YsRep YadK YadV Yneg YsG Yna YanS YanE YmJ YrLen f (nI p) (nI k) (nI k) Yscr Yinp YcmdPos Yout Ypat Yhold Yactive Yact ic ie YaC YaAny YaSt Yrch Ynx Yrb := by
  intro f
  induction f with
  | zero => intro k p ic ie h; omega
  | succ f ih =>
  intro k p ic ie hf hp hpk hit htx
  have hkp : q + k ≤ p := by rw [hpk]; exact tx_p_ge _ _ _
  refine br_f (nI_nlt (b := k) (a := 128) (by omega) (by decide)) (br_f (nI_pos (by omega)) ?_)
  have go : ∀ (c e : Int32), (Yscr p = 92 → p + 1 < L ∧ ¬ Yscr (p + 1) = 10) → p < L → ¬ Yscr p = 10 → ¬ Yscr p = 47 → c = tx_c Yscr p → e = tx_e Yscr p → ∀ p', p' + 1 = tx_nx Yscr p → wY_loadText_106 post (wY_loadText_7 post Yquiet Yfuel (nI L) YinpLen YhasTab YnCmd YoutLen YpatLen YholdLen YlinesRead YstepsUsed Ytflag YnAddr Ya1K Ya1V Ya2K Ya2V Ycc YlabS YlabL YsRe YsRep YadK YadV Yneg YsG Yna YanS YanE YmJ YrLen f) (nI p') (nI k) c e Yquiet Yfuel (nI L) YinpLen YhasTab YnCmd YoutLen YpatLen YholdLen YlinesRead YstepsUsed Ytflag YnAddr Ya1K Ya1V Ya2K Ya2V Ycc YlabS YlabL YsRe YsRep YadK YadV Yneg YsG (nI k) Yna YanS YanE YmJ YrLen Yscr Yinp YcmdPos Yout Ypat Yhold Yactive Yact ic ie YaC YaAny YaSt Yrch Ynx Yrb := by
    intro c e s92 hpL h10 h47 hcd hed p' hp'
    have hi : vp_in (nI k) 128 := pk_in k 128 (by omega)
    refine br_f (nI_ge (b := 128) (by omega) (by decide)) ⟨hi, nm_e ⟨hi, nm_e (nm_r (nI_1 k) (nm_r (nI_1 p') (nm_r (nI_1 k) ?_)))⟩⟩
    rw [nI_clamp (by omega), ba_vb (by rw [hed]; exact tx_e01 _ _), hp']
    have hlt := tx_nx_lt Yscr p
    refine ih (k + 1) (tx_nx Yscr p) _ _ (by omega) (tx_nx_le hpL (fun z => (s92 z).1)) (by rw [tx_p, ← hpk]) (fun j hj => ?_) ?_
    · by_cases z : j = k
      · rw [z, pk_us, pk_us, hcd, hed, hpk]; exact ⟨rfl, rfl⟩
      · rw [pk_un z, pk_un z]; exact hit j (by omega)
    · rw [htx, tx_step hpL h10 h47 s92, tx_mapk]
  refine pk_lt p L (fun hpL => ⟨pk_in p 128 (by omega), ?_⟩) (fun hpL => hb (by rw [htx, tx_bad (Or.inl hpL)]; rfl) _ _ _)
  rw [nI_clamp (by omega)]
  refine nm_e ?_
  by_cases h10 : Yscr p = 10
  · exact br_t h10 (hb (by rw [htx, tx_bad (Or.inr h10)]; rfl) _ _ _)
  refine br_f h10 ?_
  by_cases h47 : Yscr p = 47
  · refine br_t h47 ?_
    rw [tx_fin hpL h47] at htx
    have := hg k ic ie (by rw [htx]; show some (0 + k) = some k; rw [Nat.zero_add]) hit
    rw [← hpk] at this
    rw [nI_1]
    exact this
  refine br_f h47 ?_
  by_cases h92 : Yscr p = 92
  · refine br_t h92 ?_
    rw [nI_1]
    refine pk_lt (p + 1) L (fun hp1 => ⟨pk_in (p + 1) 128 (by omega), ?_⟩) (fun hp1 => hb (by rw [htx, tx_bad2 h92 (Or.inl hp1)]; rfl) _ _ _)
    rw [nI_clamp (by omega)]
    refine nm_e ?_
    by_cases h10' : Yscr (p + 1) = 10
    · exact br_t h10' (hb (by rw [htx, tx_bad2 h92 (Or.inr h10')]; rfl) _ _ _)
    refine br_f h10' ?_
    have nx : p + 1 + 1 = tx_nx Yscr p := by unfold tx_nx; rw [if_pos h92]
    have he : (1 : Int32) = tx_e Yscr p := by unfold tx_e; rw [if_pos h92]
    by_cases h110 : Yscr (p + 1) = 110
    · exact br_t h110 (nm_r (nI_1 p) (go 10 1 (fun _ => ⟨hp1, h10'⟩) hpL h10 h47 (by unfold tx_c; rw [if_pos h92, if_pos h110]) he (p + 1) nx))
    · exact br_f h110 (nm_r (nI_1 p) (go _ 1 (fun _ => ⟨hp1, h10'⟩) hpL h10 h47 (by unfold tx_c; rw [if_pos h92, if_neg h110]) he (p + 1) nx))
  · have nx : p + 1 = tx_nx Yscr p := by unfold tx_nx; rw [if_neg h92]
    exact br_f h92 (go _ 0 (fun z => absurd z h92) hpL h10 h47 (by unfold tx_c; rw [if_neg h92]) (by unfold tx_e; rw [if_neg h92]) p nx)
theorem ym_loadText {L q : Nat} {post : Int32 → SY → Prop} (hL : L ≤ 128) (hq : q ≤ L)
    (hg : ∀ n ic ie, tx_n Yscr L q = some n → (∀ j, j < n → ic j = tx_c Yscr (tx_p Yscr q j) ∧ ie j = tx_e Yscr (tx_p Yscr q j)) → post (nI (tx_p Yscr q n + 1)) (Yquiet, Yfuel, nI L, YinpLen, YhasTab, YnCmd, YoutLen, YpatLen, YholdLen, YlinesRead, YstepsUsed, Ytflag, YnAddr, Ya1K, Ya1V, Ya2K, Ya2V, Ycc, YlabS, YlabL, YsRe, YsRep, YadK, YadV, Yneg, YsG, nI n, Yna, YanS, YanE, YmJ, YrLen, Yscr, Yinp, YcmdPos, Yout, Ypat, Yhold, Yactive, Yact, ic, ie, YaC, YaAny, YaSt, Yrch, Ynx, Yrb))
    (hb : tx_n Yscr L q = none → ∀ icn ic ie, post (-1) (Yquiet, Yfuel, nI L, YinpLen, YhasTab, YnCmd, YoutLen, YpatLen, YholdLen, YlinesRead, YstepsUsed, Ytflag, YnAddr, Ya1K, Ya1V, Ya2K, Ya2V, Ycc, YlabS, YlabL, YsRe, YsRep, YadK, YadV, Yneg, YsG, icn, Yna, YanS, YanE, YmJ, YrLen, Yscr, Yinp, YcmdPos, Yout, Ypat, Yhold, Yactive, Yact, ic, ie, YaC, YaAny, YaSt, Yrch, Ynx, Yrb)) :
    wpY_loadText post (Yquiet, Yfuel, nI L, YinpLen, YhasTab, YnCmd, YoutLen, YpatLen, YholdLen, YlinesRead, YstepsUsed, Ytflag, YnAddr, Ya1K, Ya1V, Ya2K, Ya2V, Ycc, YlabS, YlabL, YsRe, YsRep, YadK, YadV, Yneg, YsG, YicN, Yna, YanS, YanE, YmJ, YrLen, Yscr, Yinp, YcmdPos, Yout, Ypat, Yhold, Yactive, Yact, Yic, Yie, YaC, YaAny, YaSt, Yrch, Ynx, Yrb) (nI q) := by
  unfold wpY_loadText
  exact ⟨L - q + 1, ym_text hL hg hb (L - q + 1) 0 q _ _ (by omega) hq rfl (fun j hj => absurd hj (by omega)) (tx_map0 _).symm⟩
/-- Y's arrays hold the atoms g -/
def ya_H (aC aAny aSt : Nat → Int32) (g : Nat × (Nat → Int32) × (Nat → Int32)) : Prop :=
  ∀ i, i < g.1 → ((aAny i = 0 ∧ aC i = g.2.1 i ∧ ¬ g.2.1 i = -1) ∨ (¬ aAny i = 0 ∧ g.2.1 i = -1)) ∧ aSt i = g.2.2 i
theorem ym_b99 {L q n : Nat} {post : Int32 → SY → Prop} (hL : L ≤ 128) (hc : ch_ok Yscr L) (htx : tx_n Yscr L q = some n) (hn : 0 < n) (hic : ∀ j, j < n → Yic j = tx_c Yscr (tx_p Yscr q j) ∧ Yie j = tx_e Yscr (tx_p Yscr q j))
    (hg : ∀ g aC aAny aSt, rg_x Yscr L q = some g → ya_H aC aAny aSt (g.2.2.2.1, g.2.2.2.2.1, g.2.2.2.2.2) → post 1 (Yquiet, Yfuel, nI L, YinpLen, YhasTab, YnCmd, YoutLen, YpatLen, YholdLen, YlinesRead, YstepsUsed, Ytflag, YnAddr, Ya1K, Ya1V, Ya2K, Ya2V, Ycc, YlabS, YlabL, YsRe, YsRep, YadK, YadV, Yneg, YsG, nI n, nI g.2.2.2.1, nI g.2.1, nI g.2.2.1, YmJ, YrLen, Yscr, Yinp, YcmdPos, Yout, Ypat, Yhold, Yactive, Yact, Yic, Yie, aC, aAny, aSt, Yrch, Ynx, Yrb))
    (hb : rg_x Yscr L q = none → ∀ na anS anE aC aAny aSt, post 0 (Yquiet, Yfuel, nI L, YinpLen, YhasTab, YnCmd, YoutLen, YpatLen, YholdLen, YlinesRead, YstepsUsed, Ytflag, YnAddr, Ya1K, Ya1V, Ya2K, Ya2V, Ycc, YlabS, YlabL, YsRe, YsRep, YadK, YadV, Yneg, YsG, nI n, na, anS, anE, YmJ, YrLen, Yscr, Yinp, YcmdPos, Yout, Ypat, Yhold, Yactive, Yact, Yic, Yie, aC, aAny, aSt, Yrch, Ynx, Yrb)) :
    ∀ f m aC aAny aSt g, n - rg_B Yscr q n - (rg_A Yscr q + m) < f → rg_A Yscr q + m ≤ n - rg_B Yscr q n → rg_f Yscr q (rg_A Yscr q) m = some g → ya_H aC aAny aSt g →
      wY_buildRegex_99 post (nI (n - rg_B Yscr q n)) Yquiet Yfuel (nI L) YinpLen YhasTab YnCmd YoutLen YpatLen YholdLen YlinesRead YstepsUsed Ytflag YnAddr Ya1K Ya1V Ya2K Ya2V Ycc YlabS YlabL YsRe YsRep YadK YadV Yneg YsG (nI n) (nI (rg_A Yscr q)) (nI (rg_B Yscr q n)) YmJ YrLen f (nI (rg_A Yscr q + m)) (nI g.1) Yscr Yinp YcmdPos Yout Ypat Yhold Yactive Yact Yic Yie aC aAny aSt Yrch Ynx Yrb := by
  have hf := tx_facts n q htx
  have hpn := tx_p_ge Yscr q n
  intro f
  induction f with
  | zero => intro m aC aAny aSt g h; omega
  | succ f ih =>
  intro m aC aAny aSt g hfu hm hrg H
  have r12 := rg_le12 _ _ hrg
  rcases Nat.lt_or_ge (rg_A Yscr q + m) (n - rg_B Yscr q n) with z | z
  · have hB := rg_B1 Yscr q n
    obtain ⟨f1, f2, f3, f4⟩ := hf.1 (rg_A Yscr q + m) (by omega)
    obtain ⟨c1, c2⟩ := hic (rg_A Yscr q + m) (by omega)
    obtain ⟨cm, hcm, ecm⟩ := tx_c_ok hc f1 (fun y => (f4 y).1)
    have hi : vp_in (nI (rg_A Yscr q + m)) 128 := vp_in_nI (by omega) (by omega)
    refine br_f (nI_ge z (by omega)) (br_f (nI_ge (b := 128) (by omega) (by decide)) ⟨hi, ?_⟩)
    rw [nI_clamp (by omega), c1, c2]
    have bad : rg_s (tx_c Yscr (tx_p Yscr q (rg_A Yscr q + m))) (tx_e Yscr (tx_p Yscr q (rg_A Yscr q + m))) g = none → rg_x Yscr L q = none := by
      intro hs
      have e : rg_f Yscr q (rg_A Yscr q) (m + 1) = none := by rw [rg_f, hrg]; exact hs
      have e2 := rg_none e (n - rg_B Yscr q n - rg_A Yscr q - (m + 1))
      rw [show m + 1 + (n - rg_B Yscr q n - rg_A Yscr q - (m + 1)) = n - rg_B Yscr q n - rg_A Yscr q by omega] at e2
      unfold rg_x
      rw [htx]
      dsimp only
      rw [if_neg (by omega), e2]
    generalize hcc : tx_c Yscr (tx_p Yscr q (rg_A Yscr q + m)) = c at bad ecm ⊢
    generalize hee : tx_e Yscr (tx_p Yscr q (rg_A Yscr q + m)) = e at bad ⊢
    have hs1 : ∀ g', rg_s c e g = some g' → rg_f Yscr q (rg_A Yscr q) (m + 1) = some g' := fun g' hs => by rw [rg_f, hrg, hcc, hee]; exact hs
    have cn1 : ¬ c = -1 := by
      rw [ecm]; intro y
      exact absurd (nI_pos (n := cm) (by omega)) (by rw [y]; exact fun q => q (by decide))
    obtain ⟨na, ch, st⟩ := g
    have h173 : ¬ (e = 0 ∧ c = 42 ∧ 0 < na) → wY_buildRegex_173 post (wY_buildRegex_99 post (nI (n - rg_B Yscr q n)) Yquiet Yfuel (nI L) YinpLen YhasTab YnCmd YoutLen YpatLen YholdLen YlinesRead YstepsUsed Ytflag YnAddr Ya1K Ya1V Ya2K Ya2V Ycc YlabS YlabL YsRe YsRep YadK YadV Yneg YsG (nI n) (nI (rg_A Yscr q)) (nI (rg_B Yscr q n)) YmJ YrLen f) (nI (n - rg_B Yscr q n)) (nI (rg_A Yscr q + m)) c Yquiet Yfuel (nI L) YinpLen YhasTab YnCmd YoutLen YpatLen YholdLen YlinesRead YstepsUsed Ytflag YnAddr Ya1K Ya1V Ya2K Ya2V Ycc YlabS YlabL YsRe YsRep YadK YadV Yneg YsG (nI n) (nI na) (nI (rg_A Yscr q)) (nI (rg_B Yscr q n)) YmJ YrLen Yscr Yinp YcmdPos Yout Ypat Yhold Yactive Yact Yic Yie aC aAny aSt Yrch Ynx Yrb := by
      intro hn'
      refine pk_lt na 12 (fun g12 => ?_) (fun g12 => hb (bad (by unfold rg_s; rw [if_neg hn', if_pos (by dsimp only; omega)])) _ _ _ _ _ _)
      have hr : rg_s c e (na, ch, st) = some (na + 1, upd ch na (if e = 0 ∧ c = 46 then -1 else c), upd st na 0) := by
        unfold rg_s
        rw [if_neg hn', if_neg (by dsimp only; omega)]
      have hv : vp_in (nI na) 12 := pk_in na 12 g12
      have h224 : ∀ zz : Int32, (zz = 0 ∧ ¬ (e = 0 ∧ c = 46)) ∨ (zz = 1 ∧ (e = 0 ∧ c = 46)) → wY_buildRegex_224 post (wY_buildRegex_99 post (nI (n - rg_B Yscr q n)) Yquiet Yfuel (nI L) YinpLen YhasTab YnCmd YoutLen YpatLen YholdLen YlinesRead YstepsUsed Ytflag YnAddr Ya1K Ya1V Ya2K Ya2V Ycc YlabS YlabL YsRe YsRep YadK YadV Yneg YsG (nI n) (nI (rg_A Yscr q)) (nI (rg_B Yscr q n)) YmJ YrLen f) (nI (n - rg_B Yscr q n)) (nI (rg_A Yscr q + m)) zz (nI na) Yquiet Yfuel (nI L) YinpLen YhasTab YnCmd YoutLen YpatLen YholdLen YlinesRead YstepsUsed Ytflag YnAddr Ya1K Ya1V Ya2K Ya2V Ycc YlabS YlabL YsRe YsRep YadK YadV Yneg YsG (nI n) (nI na) (nI (rg_A Yscr q)) (nI (rg_B Yscr q n)) YmJ YrLen Yscr Yinp YcmdPos Yout Ypat Yhold Yactive Yact Yic Yie (upd aC na c) aAny aSt Yrch Ynx Yrb := by
        intro zz hz
        refine ⟨hv, nm_e ⟨hv, nm_e (nm_r (nI_1 na) (nm_r (nI_1 (rg_A Yscr q + m)) ?_))⟩⟩
        rw [nI_clamp (show na < 2 ^ 31 by omega), ba_vb (by rcases hz with ⟨y, _⟩ | ⟨y, _⟩; exact Or.inl y; exact Or.inr y)]
        refine ih (m + 1) _ _ _ _ (by omega) (by omega) (hs1 _ hr) (fun i hi => ?_)
        dsimp only at hi ⊢
        by_cases y : i = na
        · rw [y, pk_us, pk_us, pk_us, pk_us, pk_us]
          rcases hz with ⟨y1, y2⟩ | ⟨y1, y2⟩
          · rw [if_neg y2]; exact ⟨Or.inl ⟨y1, rfl, cn1⟩, rfl⟩
          · rw [if_pos y2]; exact ⟨Or.inr ⟨by rw [y1]; decide, rfl⟩, rfl⟩
        · rw [pk_un y, pk_un y, pk_un y, pk_un y, pk_un y]; exact H i (by show i < na; omega)
      refine ⟨hv, nm_e ⟨hi, ?_⟩⟩
      rw [nI_clamp (show na < 2 ^ 31 by omega), nI_clamp (show rg_A Yscr q + m < 2 ^ 31 by omega), c2, hee]
      refine br_c (fun e0 => br_c (fun c46 => h224 1 (Or.inr ⟨rfl, e0, c46⟩)) (fun c46 => h224 0 (Or.inl ⟨rfl, fun y => c46 y.2⟩))) (fun e0 => h224 0 (Or.inl ⟨rfl, fun y => e0 y.1⟩))
    refine nm_e ⟨hi, ?_⟩
    refine br_c (fun e0 => br_c (fun c42 => pk_le na 0 (fun g0 => h173 (fun y => by omega)) (fun g0 => ?_)) (fun c42 => h173 (fun y => c42 y.2.1))) (fun e0 => h173 (fun y => e0 y.1))
    have hs : nI na - 1 = nI (na - 1) := by
      obtain ⟨x, rfl⟩ : ∃ x, na = x + 1 := ⟨na - 1, by omega⟩
      exact nI_pred x
    have i1 : na ≤ 12 := r12.1
    have hv : vp_in (nI (na - 1)) 12 := vp_in_nI (by omega) (by omega)
    have hst : aSt (na - 1) = st (na - 1) := (H (na - 1) (by show na - 1 < na; omega)).2
    show vp_in (nI na - 1) 12 ∧ _
    rw [hs]
    refine ⟨hv, ?_⟩
    rw [nI_clamp (show na - 1 < 2 ^ 31 by omega), hst]
    by_cases w : st (na - 1) = 0
    · refine br_t w ⟨hv, nm_e (nm_r (nI_1 _) ?_)⟩
      refine ih (m + 1) _ _ _ (na, ch, upd st (na - 1) 1) (by omega) (by omega) (hs1 _ (by unfold rg_s; rw [if_pos ⟨e0, c42, g0⟩, if_pos w])) (fun i hi => ?_)
      dsimp only at hi ⊢
      have Hi := H i hi
      dsimp only at Hi
      refine ⟨Hi.1, ?_⟩
      by_cases y : i = na - 1
      · rw [y, pk_us, pk_us]; rfl
      · rw [pk_un y, pk_un y]; exact Hi.2
    · exact br_f w (hb (bad (by unfold rg_s; rw [if_pos ⟨e0, c42, g0⟩, if_neg w])) _ _ _ _ _ _)
  · refine br_t (nI_le z (by omega)) ?_
    have e : m = n - rg_B Yscr q n - rg_A Yscr q := by omega
    rw [e] at hrg
    have hx : rg_x Yscr L q = some (tx_p Yscr q n + 1, rg_A Yscr q, rg_B Yscr q n, g.1, g.2.1, g.2.2) := by
      unfold rg_x
      rw [htx]
      dsimp only
      rw [if_neg (by omega), hrg]
    exact hg _ _ _ _ hx H
end YT_1
end
section
/-! Y's parser: a regex, an address, a command -/
section YP_1
variable {Yquiet Yfuel YscrLen YinpLen YhasTab YnCmd YoutLen YpatLen YholdLen YlinesRead YstepsUsed Ytflag YnAddr Ya1K Ya1V Ya2K Ya2V Ycc YlabS YlabL YsRe YsRep YadK YadV Yneg YsG YicN Yna YanS YanE YmJ YrLen : Int32} {Yscr Yinp YcmdPos Yout Ypat Yhold Yactive Yact Yic Yie YaC YaAny YaSt Yrch Ynx Yrb : Nat → Int32}
theorem ym_build {L q n : Nat} {post : Int32 → SY → Prop} (hL : L ≤ 128) (hc : ch_ok Yscr L) (htx : tx_n Yscr L q = some n) (hic : ∀ j, j < n → Yic j = tx_c Yscr (tx_p Yscr q j) ∧ Yie j = tx_e Yscr (tx_p Yscr q j))
    (hg : ∀ g aC aAny aSt, rg_x Yscr L q = some g → ya_H aC aAny aSt (g.2.2.2.1, g.2.2.2.2.1, g.2.2.2.2.2) → post 1 (Yquiet, Yfuel, nI L, YinpLen, YhasTab, YnCmd, YoutLen, YpatLen, YholdLen, YlinesRead, YstepsUsed, Ytflag, YnAddr, Ya1K, Ya1V, Ya2K, Ya2V, Ycc, YlabS, YlabL, YsRe, YsRep, YadK, YadV, Yneg, YsG, nI n, nI g.2.2.2.1, nI g.2.1, nI g.2.2.1, YmJ, YrLen, Yscr, Yinp, YcmdPos, Yout, Ypat, Yhold, Yactive, Yact, Yic, Yie, aC, aAny, aSt, Yrch, Ynx, Yrb))
    (hb : rg_x Yscr L q = none → ∀ na anS anE aC aAny aSt, post 0 (Yquiet, Yfuel, nI L, YinpLen, YhasTab, YnCmd, YoutLen, YpatLen, YholdLen, YlinesRead, YstepsUsed, Ytflag, YnAddr, Ya1K, Ya1V, Ya2K, Ya2V, Ycc, YlabS, YlabL, YsRe, YsRep, YadK, YadV, Yneg, YsG, nI n, na, anS, anE, YmJ, YrLen, Yscr, Yinp, YcmdPos, Yout, Ypat, Yhold, Yactive, Yact, Yic, Yie, aC, aAny, aSt, Yrch, Ynx, Yrb)) :
    wpY_buildRegex post (Yquiet, Yfuel, nI L, YinpLen, YhasTab, YnCmd, YoutLen, YpatLen, YholdLen, YlinesRead, YstepsUsed, Ytflag, YnAddr, Ya1K, Ya1V, Ya2K, Ya2V, Ycc, YlabS, YlabL, YsRe, YsRep, YadK, YadV, Yneg, YsG, nI n, Yna, YanS, YanE, YmJ, YrLen, Yscr, Yinp, YcmdPos, Yout, Ypat, Yhold, Yactive, Yact, Yic, Yie, YaC, YaAny, YaSt, Yrch, Ynx, Yrb) := by
  have hf := tx_facts n q htx
  have hpn := tx_p_ge Yscr q n
  unfold wpY_buildRegex
  refine pk_eq n 0 (fun h0 => hb (by unfold rg_x; rw [htx]; dsimp only; rw [if_pos h0]) _ _ _ _ _ _) (fun h0 => ?_)
  have hAB := rg_AB (s := Yscr) (q := q) (n := n) (by omega)
  have hA1 := rg_A1 Yscr q
  have hB1 := rg_B1 Yscr q n
  obtain ⟨c0, e0⟩ := hic 0 (by omega)
  obtain ⟨cn, en⟩ := hic (n - 1) (by omega)
  have run : wY_buildRegex_99 post (nI (n - rg_B Yscr q n)) Yquiet Yfuel (nI L) YinpLen YhasTab YnCmd YoutLen YpatLen YholdLen YlinesRead YstepsUsed Ytflag YnAddr Ya1K Ya1V Ya2K Ya2V Ycc YlabS YlabL YsRe YsRep YadK YadV Yneg YsG (nI n) (nI (rg_A Yscr q)) (nI (rg_B Yscr q n)) YmJ YrLen (n + 1) (nI (rg_A Yscr q + 0)) (nI 0) Yscr Yinp YcmdPos Yout Ypat Yhold Yactive Yact Yic Yie YaC YaAny YaSt Yrch Ynx Yrb :=
    ym_b99 hL hc htx (by omega) hic hg hb (n + 1) 0 _ _ _ (0, (fun _ => 0), (fun _ => 0)) (by omega) (by omega) rfl (fun i hi => absurd hi (by dsimp only; omega))
  have hs : nI n - 1 = nI (n - 1) := by
    obtain ⟨x, hx⟩ : ∃ x, n = x + 1 := ⟨n - 1, by omega⟩
    rw [hx]; exact nI_pred x
  have hv : vp_in (nI (n - 1)) 128 := vp_in_nI (by omega) (by omega)
  have h58 : wY_buildRegex_58 post (nI (rg_A Yscr q)) (nI n) Yquiet Yfuel (nI L) YinpLen YhasTab YnCmd YoutLen YpatLen YholdLen YlinesRead YstepsUsed Ytflag YnAddr Ya1K Ya1V Ya2K Ya2V Ycc YlabS YlabL YsRe YsRep YadK YadV Yneg YsG (nI n) 0 (nI (rg_A Yscr q)) 0 YmJ YrLen Yscr Yinp YcmdPos Yout Ypat Yhold Yactive Yact Yic Yie YaC YaAny YaSt Yrch Ynx Yrb := by
    unfold wY_buildRegex_58
    rw [hs]
    refine pk_lt (n - 1) (rg_A Yscr q) (fun w => ⟨n + 1, ?_⟩) (fun w => ⟨hv, ?_⟩)
    · have eB : rg_B Yscr q n = 0 := by omega
      rw [eB] at run
      exact run
    · rw [nI_clamp (by omega), cn, en]
      refine br_c (fun y0 => ⟨hv, br_c (fun y1 => nm_r (show nI n + (-1) = nI (n - rg_B Yscr q n) from ?_) ⟨n + 1, ?_⟩) (fun y1 => ⟨n + 1, ?_⟩)⟩) (fun y0 => ⟨n + 1, ?_⟩)
      · have eB : rg_B Yscr q n = 1 := by unfold rg_B; rw [if_pos ⟨y0, y1⟩]
        obtain ⟨x, hx⟩ : ∃ x, n = x + 1 := ⟨n - 1, by omega⟩
        rw [eB, hx]
        exact pk_m1 x
      · have eB : rg_B Yscr q n = 1 := by unfold rg_B; rw [if_pos ⟨y0, y1⟩]
        rw [eB] at run ⊢
        exact run
      · have eB : rg_B Yscr q n = 0 := by unfold rg_B; rw [if_neg (fun y => y1 y.2)]
        rw [eB] at run
        exact run
      · have eB : rg_B Yscr q n = 0 := by unfold rg_B; rw [if_neg (fun y => y0 y.1)]
        rw [eB] at run
        exact run
  rw [c0, e0]
  show (tx_e Yscr q = 0 → _) ∧ _
  refine br_c (fun y0 => br_c (fun y1 => ?_) (fun y1 => ?_)) (fun y0 => ?_)
  · have eA : rg_A Yscr q = 1 := by unfold rg_A; rw [if_pos ⟨y0, y1⟩]
    rw [eA] at h58
    exact h58
  · have eA : rg_A Yscr q = 0 := by unfold rg_A; rw [if_neg (fun y => y1 y.2)]
    rw [eA] at h58
    exact h58
  · have eA : rg_A Yscr q = 0 := by unfold rg_A; rw [if_neg (fun y => y0 y.1)]
    rw [eA] at h58
    exact h58
/-- what a parse keeps -/
def yk_p (u : SY) : Int32 × Int32 × Int32 × Int32 × Int32 × Int32 × Int32 × Int32 × Int32 × Int32 × Int32 × Int32 × (Nat → Int32) × (Nat → Int32) × (Nat → Int32) × (Nat → Int32) × (Nat → Int32) × (Nat → Int32) × (Nat → Int32) × (Nat → Int32) := match u with
  | (Yquiet, Yfuel, YscrLen, YinpLen, YhasTab, YnCmd, YoutLen, YpatLen, YholdLen, YlinesRead, YstepsUsed, Ytflag, YnAddr, Ya1K, Ya1V, Ya2K, Ya2V, Ycc, YlabS, YlabL, YsRe, YsRep, YadK, YadV, Yneg, YsG, YicN, Yna, YanS, YanE, YmJ, YrLen, Yscr, Yinp, YcmdPos, Yout, Ypat, Yhold, Yactive, Yact, Yic, Yie, YaC, YaAny, YaSt, Yrch, Ynx, Yrb) => (Yquiet, Yfuel, YscrLen, YinpLen, YhasTab, YnCmd, YoutLen, YpatLen, YholdLen, YlinesRead, YstepsUsed, Ytflag, Yscr, Yinp, YcmdPos, Yout, Ypat, Yhold, Yactive, Yact)
theorem ym_num {L q : Nat} {post : Int32 → SY → Prop} (hL : L ≤ 128) (hq : q ≤ L)
    (hg : ∀ r, nu_x Yscr L q = some r → post (nI r.2) (Yquiet, Yfuel, nI L, YinpLen, YhasTab, YnCmd, YoutLen, YpatLen, YholdLen, YlinesRead, YstepsUsed, Ytflag, YnAddr, Ya1K, Ya1V, Ya2K, Ya2V, Ycc, YlabS, YlabL, YsRe, YsRep, 1, r.1, Yneg, YsG, YicN, Yna, YanS, YanE, YmJ, YrLen, Yscr, Yinp, YcmdPos, Yout, Ypat, Yhold, Yactive, Yact, Yic, Yie, YaC, YaAny, YaSt, Yrch, Ynx, Yrb))
    (hb : nu_x Yscr L q = none → post (-1) (Yquiet, Yfuel, nI L, YinpLen, YhasTab, YnCmd, YoutLen, YpatLen, YholdLen, YlinesRead, YstepsUsed, Ytflag, YnAddr, Ya1K, Ya1V, Ya2K, Ya2V, Ycc, YlabS, YlabL, YsRe, YsRep, YadK, YadV, Yneg, YsG, YicN, Yna, YanS, YanE, YmJ, YrLen, Yscr, Yinp, YcmdPos, Yout, Ypat, Yhold, Yactive, Yact, Yic, Yie, YaC, YaAny, YaSt, Yrch, Ynx, Yrb)) :
    ∀ f k, L - (q + k) < f → k ≤ sc_e (pb_d Yscr) L q - q → wY_parseAddr_97 post (nI q) Yquiet Yfuel (nI L) YinpLen YhasTab YnCmd YoutLen YpatLen YholdLen YlinesRead YstepsUsed Ytflag YnAddr Ya1K Ya1V Ya2K Ya2V Ycc YlabS YlabL YsRe YsRep YadK YadV Yneg YsG YicN Yna YanS YanE YmJ YrLen Yscr Yinp YcmdPos Yout Ypat Yhold Yactive Yact Yic Yie YaC YaAny YaSt Yrch Ynx Yrb f (nI (q + k)) (nu_v Yscr q (if k < 3 then k else 3)) := by
  have hf := sc_facts (P := pb_d Yscr) hq
  have hsub : ∀ k, nI (q + k) - nI q = nI k := fun k => by rw [pk_sub (by omega)]; congr 1; omega
  have h147 : wY_parseAddr_147 post (nI (q + (sc_e (pb_d Yscr) L q - q))) (nu_v Yscr q (if sc_e (pb_d Yscr) L q - q < 3 then sc_e (pb_d Yscr) L q - q else 3)) (nI q) Yquiet Yfuel (nI L) YinpLen YhasTab YnCmd YoutLen YpatLen YholdLen YlinesRead YstepsUsed Ytflag YnAddr Ya1K Ya1V Ya2K Ya2V Ycc YlabS YlabL YsRe YsRep YadK YadV Yneg YsG YicN Yna YanS YanE YmJ YrLen Yscr Yinp YcmdPos Yout Ypat Yhold Yactive Yact Yic Yie YaC YaAny YaSt Yrch Ynx Yrb := by
    unfold wY_parseAddr_147
    rw [hsub]
    refine pk_lt 3 (sc_e (pb_d Yscr) L q - q) (fun w => hb (by unfold nu_x; rw [if_neg (fun y => by omega)])) (fun w => ?_)
    have e : (if sc_e (pb_d Yscr) L q - q < 3 then sc_e (pb_d Yscr) L q - q else 3) = sc_e (pb_d Yscr) L q - q := by split <;> omega
    rw [e]
    refine br_c (fun a => hb (by unfold nu_x; rw [if_neg (fun y => absurd a (Int32.not_lt.mpr y.2.1))])) (fun a => br_c (fun b => ?_) (fun b => hb (by unfold nu_x; rw [if_neg (fun y => b y.2.2)])))
    have := hg _ (by unfold nu_x; rw [if_pos ⟨w, Int32.not_lt.mp a, b⟩])
    rw [show q + (sc_e (pb_d Yscr) L q - q) = sc_e (pb_d Yscr) L q by omega]
    exact this
  intro f
  induction f with
  | zero => intro k h; omega
  | succ f ih =>
  intro k hfu hk
  by_cases z : k = sc_e (pb_d Yscr) L q - q
  · rw [← z] at h147
    refine pk_le L (q + k) (fun w => h147) (fun w => ⟨pk_in (q + k) 128 (by omega), ?_⟩)
    rw [nI_clamp (by omega)]
    refine ym_isDigit ?_
    have e2 : q + k = sc_e (pb_d Yscr) L q := by omega
    rw [if_neg (by rw [e2, hf.2.2.2 (by omega)]; decide)]
    exact br_t rfl h147
  · have hd := hf.2.2.1 (q + k) (by omega) (by omega)
    refine br_f (nI_ge (show q + k < L by omega) (by omega)) ⟨pk_in (q + k) 128 (by omega), ?_⟩
    rw [nI_clamp (by omega)]
    refine ym_isDigit ?_
    rw [if_pos hd, hsub]
    refine br_f (by decide) (pk_le 3 k (fun w => nm_r (nI_1 (q + k)) ?_) (fun w => ⟨pk_in (q + k) 128 (by omega), ?_⟩))
    · have := ih (k + 1) (by omega) (by omega)
      rw [if_neg (by omega)] at this
      rw [if_neg (by omega)]
      exact this
    · have := ih (k + 1) (by omega) (by omega)
      rw [if_pos w]
      refine nm_e (nm_r (nI_1 (q + k)) ?_)
      rw [show (if k + 1 < 3 then k + 1 else 3) = k + 1 by split <;> omega] at this
      exact this
theorem ym_parseAddr {L q : Nat} {post : Int32 → SY → Prop} (hL : L ≤ 128) (hc : ch_ok Yscr L) (hq : q ≤ L)
    (hg : ∀ a icN na anS anE ic ie aC aAny aSt, ad_x Yscr L q = some a → post (nI a.2.2) (Yquiet, Yfuel, nI L, YinpLen, YhasTab, YnCmd, YoutLen, YpatLen, YholdLen, YlinesRead, YstepsUsed, Ytflag, YnAddr, Ya1K, Ya1V, Ya2K, Ya2V, Ycc, YlabS, YlabL, YsRe, YsRep, nI a.1, a.2.1, Yneg, YsG, icN, na, anS, anE, YmJ, YrLen, Yscr, Yinp, YcmdPos, Yout, Ypat, Yhold, Yactive, Yact, ic, ie, aC, aAny, aSt, Yrch, Ynx, Yrb))
    (hb : ad_x Yscr L q = none → ∀ v, yk_p v = (Yquiet, Yfuel, nI L, YinpLen, YhasTab, YnCmd, YoutLen, YpatLen, YholdLen, YlinesRead, YstepsUsed, Ytflag, Yscr, Yinp, YcmdPos, Yout, Ypat, Yhold, Yactive, Yact) → post (-1) v) :
    wpY_parseAddr post (Yquiet, Yfuel, nI L, YinpLen, YhasTab, YnCmd, YoutLen, YpatLen, YholdLen, YlinesRead, YstepsUsed, Ytflag, YnAddr, Ya1K, Ya1V, Ya2K, Ya2V, Ycc, YlabS, YlabL, YsRe, YsRep, YadK, YadV, Yneg, YsG, YicN, Yna, YanS, YanE, YmJ, YrLen, Yscr, Yinp, YcmdPos, Yout, Ypat, Yhold, Yactive, Yact, Yic, Yie, YaC, YaAny, YaSt, Yrch, Ynx, Yrb) (nI q) := by
  unfold wpY_parseAddr
  refine br_f (nI_pos (by omega)) (pk_lt q L (fun hqL => ⟨pk_in q 128 (by omega), ?_⟩) (fun hqL => hb (by unfold ad_x; rw [if_pos hqL]) _ rfl))
  rw [nI_clamp (by omega)]
  refine nm_e ?_
  by_cases h36 : Yscr q = 36
  · refine br_t h36 ?_
    rw [nI_1]
    exact hg (2, 0, q + 1) _ _ _ _ _ _ _ _ _ (by unfold ad_x; rw [if_neg (by omega), if_pos h36])
  refine br_f h36 ?_
  by_cases h47 : Yscr q = 47
  · have ex : ad_x Yscr L q = (rg_x Yscr L (q + 1)).map (fun r => (3, nI (q + 1), r.1)) := by
      unfold ad_x
      rw [if_neg (by omega), if_neg h36, if_pos h47]
    refine br_t h47 (nm_r (nI_1 q) ?_)
    rw [nI_1]
    refine ym_loadText hL (by omega) ?_ ?_
    · intro n ic ie htx hic
      have ft := tx_facts n (q + 1) htx
      refine br_f (nI_pos (by omega)) ?_
      refine ym_build hL hc htx hic ?_ ?_
      · intro g aC aAny aSt hr hH
        refine br_f (by decide) ?_
        rw [hr] at ex
        have e1 : g.1 = tx_p Yscr (q + 1) n + 1 := by
          unfold rg_x at hr
          rw [htx] at hr
          dsimp only at hr
          split at hr
          · exact absurd hr (by simp)
          · split at hr
            · exact absurd hr (by simp)
            · exact (congrArg Prod.fst (Option.some.inj hr)).symm
        have := hg _ (nI n) (nI g.2.2.2.1) (nI g.2.1) (nI g.2.2.1) ic ie aC aAny aSt ex
        dsimp only at this
        rw [e1] at this
        exact this
      · intro hr na anS anE aC aAny aSt
        rw [hr] at ex
        exact br_t rfl (hb ex _ rfl)
    · intro htx icn ic ie
      refine br_t (by decide) ?_
      exact hb (by rw [ex, show rg_x Yscr L (q + 1) = none by unfold rg_x; rw [htx]]; rfl) _ rfl
  refine br_f h47 ?_
  refine ym_isDigit ?_
  by_cases hd : pb_d Yscr q = true
  · have ex : ad_x Yscr L q = (nu_x Yscr L q).map (fun r => (1, r.1, r.2)) := by
      unfold ad_x
      rw [if_neg (by omega), if_neg h36, if_neg h47, if_pos hd]
    rw [if_pos hd]
    refine br_f (by decide) ⟨L + 1, ?_⟩
    refine ym_num hL hq ?_ ?_ (L + 1) 0 (by omega) (by omega)
    · intro r hr
      rw [hr] at ex
      exact hg _ _ _ _ _ _ _ _ _ _ ex
    · intro hr
      rw [hr] at ex
      exact hb ex _ rfl
  · rw [if_neg hd]
    refine br_t rfl ?_
    exact hb (by unfold ad_x; rw [if_neg (by omega), if_neg h36, if_neg h47, if_neg hd]) _ rfl
end YP_1
end
section
/-! Y's parser: a command -/
section YC_1
variable {Yquiet Yfuel YscrLen YinpLen YhasTab YnCmd YoutLen YpatLen YholdLen YlinesRead YstepsUsed Ytflag YnAddr Ya1K Ya1V Ya2K Ya2V Ycc YlabS YlabL YsRe YsRep YadK YadV Yneg YsG YicN Yna YanS YanE YmJ YrLen : Int32} {Yscr Yinp YcmdPos Yout Ypat Yhold Yactive Yact Yic Yie YaC YaAny YaSt Yrch Ynx Yrb : Nat → Int32}
/-- behind the command at q something else stands than an end -/
def cm_w (s : Nat → Int32) (L q : Nat) : Prop := cm_sk s L q < L ∧ ¬ s (cm_sk s L q) = 59 ∧ ¬ s (cm_sk s L q) = 10
theorem ym_537 {L q : Nat} {post : Int32 → SY → Prop} (hL : L ≤ 128) (hq : q ≤ L) (hg : ¬ cm_w Yscr L q → post (nI (cm_sk Yscr L q)) (Yquiet, Yfuel, nI L, YinpLen, YhasTab, YnCmd, YoutLen, YpatLen, YholdLen, YlinesRead, YstepsUsed, Ytflag, YnAddr, Ya1K, Ya1V, Ya2K, Ya2V, Ycc, YlabS, YlabL, YsRe, YsRep, YadK, YadV, Yneg, YsG, YicN, Yna, YanS, YanE, YmJ, YrLen, Yscr, Yinp, YcmdPos, Yout, Ypat, Yhold, Yactive, Yact, Yic, Yie, YaC, YaAny, YaSt, Yrch, Ynx, Yrb)) (hb : cm_w Yscr L q → post (-1) (Yquiet, Yfuel, nI L, YinpLen, YhasTab, YnCmd, YoutLen, YpatLen, YholdLen, YlinesRead, YstepsUsed, Ytflag, YnAddr, Ya1K, Ya1V, Ya2K, Ya2V, Ycc, YlabS, YlabL, YsRe, YsRep, YadK, YadV, Yneg, YsG, YicN, Yna, YanS, YanE, YmJ, YrLen, Yscr, Yinp, YcmdPos, Yout, Ypat, Yhold, Yactive, Yact, Yic, Yie, YaC, YaAny, YaSt, Yrch, Ynx, Yrb)) : wY_parseCmd_537 post (nI q) Yquiet Yfuel (nI L) YinpLen YhasTab YnCmd YoutLen YpatLen YholdLen YlinesRead YstepsUsed Ytflag YnAddr Ya1K Ya1V Ya2K Ya2V Ycc YlabS YlabL YsRe YsRep YadK YadV Yneg YsG YicN Yna YanS YanE YmJ YrLen Yscr Yinp YcmdPos Yout Ypat Yhold Yactive Yact Yic Yie YaC YaAny YaSt Yrch Ynx Yrb := by
  unfold wY_parseCmd_537
  have f := cm_sk_f (s := Yscr) hq
  refine ym_skip hL hq ?_
  refine pk_le L (cm_sk Yscr L q) (fun w => hg (fun y => by have := y.1; omega)) (fun w => ?_)
  have hi : vp_in (nI (cm_sk Yscr L q)) 128 := vp_in_nI (by omega) (by omega)
  refine ⟨hi, ?_⟩
  rw [nI_clamp (by omega)]
  exact br_c (fun h => hg (fun y => y.2.1 h)) (fun h => ⟨hi, br_c (fun h' => hg (fun y => y.2.2 h')) (fun h' => hb ⟨w, h, h'⟩)⟩)
theorem ym_lab {L l : Nat} {post : Int32 → SY → Prop} (hL : L ≤ 128) (hl : l ≤ L) (h : wY_parseCmd_425 post (nI (sc_e (pb_l Yscr) L l)) Yquiet Yfuel (nI L) YinpLen YhasTab YnCmd YoutLen YpatLen YholdLen YlinesRead YstepsUsed Ytflag YnAddr Ya1K Ya1V Ya2K Ya2V Ycc YlabS YlabL YsRe YsRep YadK YadV Yneg YsG YicN Yna YanS YanE YmJ YrLen Yscr Yinp YcmdPos Yout Ypat Yhold Yactive Yact Yic Yie YaC YaAny YaSt Yrch Ynx Yrb) : ∃ n, wY_parseCmd_398 post Yquiet Yfuel (nI L) YinpLen YhasTab YnCmd YoutLen YpatLen YholdLen YlinesRead YstepsUsed Ytflag YnAddr Ya1K Ya1V Ya2K Ya2V Ycc YlabS YlabL YsRe YsRep YadK YadV Yneg YsG YicN Yna YanS YanE YmJ YrLen Yscr Yinp YcmdPos Yout Ypat Yhold Yactive Yact Yic Yie YaC YaAny YaSt Yrch Ynx Yrb n (nI l) := by
  refine ⟨L - l + 1, ?_⟩
  refine sc_loop (fun n q => wY_parseCmd_398 post Yquiet Yfuel (nI L) YinpLen YhasTab YnCmd YoutLen YpatLen YholdLen YlinesRead YstepsUsed Ytflag YnAddr Ya1K Ya1V Ya2K Ya2V Ycc YlabS YlabL YsRe YsRep YadK YadV Yneg YsG YicN Yna YanS YanE YmJ YrLen Yscr Yinp YcmdPos Yout Ypat Yhold Yactive Yact Yic Yie YaC YaAny YaSt Yrch Ynx Yrb n (nI q)) (pb_l Yscr) L (fun q => wY_parseCmd_425 post (nI q) Yquiet Yfuel (nI L) YinpLen YhasTab YnCmd YoutLen YpatLen YholdLen YlinesRead YstepsUsed Ytflag YnAddr Ya1K Ya1V Ya2K Ya2V Ycc YlabS YlabL YsRe YsRep YadK YadV Yneg YsG YicN Yna YanS YanE YmJ YrLen Yscr Yinp YcmdPos Yout Ypat Yhold Yactive Yact Yic Yie YaC YaAny YaSt Yrch Ynx Yrb) ?_ ?_ (L - l + 1) l hl (by omega) h
  · intro n q hq hp hW
    refine br_f (nI_ge hq (by omega)) ⟨pk_in q 128 (by omega), ?_⟩
    rw [nI_clamp (by omega)]
    refine ym_isLab ?_
    rw [if_pos hp]
    exact br_f (by decide) (nm_r (nI_1 q) hW)
  · intro n q hq hp hR
    refine pk_le L q (fun g => hR) (fun g => ⟨pk_in q 128 (by omega), ?_⟩)
    rw [nI_clamp (by omega)]
    refine ym_isLab ?_
    rw [if_neg (by rw [hp g]; decide)]
    exact br_t rfl hR
theorem ym_210 {L q n : Nat} {post : Int32 → SY → Prop} (hL : L ≤ 128) (hc : ch_ok Yscr L) (hq : q ≤ L) (hn : n ≤ 2)
    (hg : ∀ b sre srep icN na anS anE ic ie aC aAny aSt, cm_b Yscr L n q = some b → ¬ cm_w Yscr L b.2.2 → q < L → (Yscr q = 115 → sre = nI b.2.1.1 ∧ srep = nI b.2.1.2.1) → post (nI (cm_sk Yscr L b.2.2)) (Yquiet, Yfuel, nI L, YinpLen, YhasTab, YnCmd, YoutLen, YpatLen, YholdLen, YlinesRead, YstepsUsed, Ytflag, nI n, Ya1K, Ya1V, Ya2K, Ya2V, Yscr q, nI b.1.1, nI b.1.2, sre, srep, YadK, YadV, Yneg, b.2.1.2.2.2, icN, na, anS, anE, YmJ, YrLen, Yscr, Yinp, YcmdPos, Yout, Ypat, Yhold, Yactive, Yact, ic, ie, aC, aAny, aSt, Yrch, Ynx, Yrb))
    (hb : (∀ b, cm_b Yscr L n q = some b → cm_w Yscr L b.2.2) → ∀ v, yk_p v = (Yquiet, Yfuel, nI L, YinpLen, YhasTab, YnCmd, YoutLen, YpatLen, YholdLen, YlinesRead, YstepsUsed, Ytflag, Yscr, Yinp, YcmdPos, Yout, Ypat, Yhold, Yactive, Yact) → post (-1) v) :
    wY_parseCmd_210 post (nI q) Yquiet Yfuel (nI L) YinpLen YhasTab YnCmd YoutLen YpatLen YholdLen YlinesRead YstepsUsed Ytflag (nI n) Ya1K Ya1V Ya2K Ya2V Ycc 0 0 YsRe YsRep YadK YadV Yneg 0 YicN Yna YanS YanE YmJ YrLen Yscr Yinp YcmdPos Yout Ypat Yhold Yactive Yact Yic Yie YaC YaAny YaSt Yrch Ynx Yrb := by
  have hb0 : cm_b Yscr L n q = none → ∀ v, yk_p v = (Yquiet, Yfuel, nI L, YinpLen, YhasTab, YnCmd, YoutLen, YpatLen, YholdLen, YlinesRead, YstepsUsed, Ytflag, Yscr, Yinp, YcmdPos, Yout, Ypat, Yhold, Yactive, Yact) → post (-1) v := fun e => hb (fun b hb' => by rw [e] at hb'; exact absurd hb' (by simp))
  refine br_f (nI_pos (by omega)) (pk_lt q L (fun hqL => ⟨pk_in q 128 (by omega), ?_⟩) (fun hqL => hb0 (by unfold cm_b; rw [if_pos hqL]) _ rfl))
  rw [nI_clamp (by omega)]
  refine nm_e (nm_r (nI_1 q) ?_)
  have fin : ∀ (b : (Nat × Nat) × (Nat × Nat × Nat × Int32) × Nat) sre srep icN na anS anE ic ie aC aAny aSt, cm_b Yscr L n q = some b → (Yscr q = 115 → sre = nI b.2.1.1 ∧ srep = nI b.2.1.2.1) → wY_parseCmd_537 post (nI b.2.2) Yquiet Yfuel (nI L) YinpLen YhasTab YnCmd YoutLen YpatLen YholdLen YlinesRead YstepsUsed Ytflag (nI n) Ya1K Ya1V Ya2K Ya2V (Yscr q) (nI b.1.1) (nI b.1.2) sre srep YadK YadV Yneg b.2.1.2.2.2 icN na anS anE YmJ YrLen Yscr Yinp YcmdPos Yout Ypat Yhold Yactive Yact ic ie aC aAny aSt Yrch Ynx Yrb := by
    intro b sre srep icN na anS anE ic ie aC aAny aSt hcb hs
    have f := cm_b_f hcb
    refine ym_537 hL f.2 (fun w => hg b _ _ _ _ _ _ _ _ _ _ _ hcb w hqL hs) (fun w => hb (fun b' hb' => ?_) _ rfl)
    rw [hcb] at hb'
    rw [← Option.some.inj hb']
    exact w
  by_cases h115 : Yscr q = 115
  · have cb : cm_b Yscr L n q = (cm_s Yscr L (q + 1)).map (fun r => ((0, 0), (r.1, r.2.1, r.2.2.1, r.2.2.2.1), r.2.2.2.2)) := by
      unfold cm_b
      rw [if_neg (by omega), if_pos h115]
    refine br_t h115 (pk_le L (q + 1) (fun w => hb0 (by rw [cb]; unfold cm_s; rw [if_neg (fun y => by omega)]; rfl) _ rfl) (fun w => ⟨pk_in (q + 1) 128 (by omega), ?_⟩))
    rw [nI_clamp (by omega)]
    refine br_c (fun h47 => ?_) (fun h47 => hb0 (by rw [cb]; unfold cm_s; rw [if_neg (fun y => h47 y.2)]; rfl) _ rfl)
    have cs : cm_s Yscr L (q + 1) = (rg_x Yscr L (q + 1 + 1)).bind (fun r => (tx_n Yscr L r.1).map (fun n =>
      (q + 1 + 1, r.1, n, (if tx_p Yscr r.1 n + 1 < L ∧ Yscr (tx_p Yscr r.1 n + 1) = 103 then (1 : Int32) else 0), (if tx_p Yscr r.1 n + 1 < L ∧ Yscr (tx_p Yscr r.1 n + 1) = 103 then tx_p Yscr r.1 n + 2 else tx_p Yscr r.1 n + 1)))) := by
      unfold cm_s
      rw [if_pos ⟨w, h47⟩]
    refine nm_r (nI_1 (q + 1)) ?_
    rw [nI_1]
    refine ym_loadText hL (by omega) ?_ ?_
    · intro n1 ic ie htx hic
      have ft := tx_facts n1 (q + 1 + 1) htx
      refine br_f (nI_pos (by omega)) ?_
      refine ym_build hL hc htx hic ?_ ?_
      · intro g aC aAny aSt hr hH
        have e1 : g.1 = tx_p Yscr (q + 1 + 1) n1 + 1 := by
          unfold rg_x at hr
          rw [htx] at hr
          dsimp only at hr
          split at hr
          · exact absurd hr (by simp)
          · split at hr
            · exact absurd hr (by simp)
            · exact (congrArg Prod.fst (Option.some.inj hr)).symm
        have fr := rg_x_f hr
        rw [hr] at cs
        dsimp only [Option.bind] at cs
        refine br_f (by decide) ?_
        rw [← e1]
        refine ym_loadText hL fr.2 ?_ ?_
        · intro n2 ic2 ie2 htx2 hic2
          have ft2 := tx_facts n2 g.1 htx2
          rw [htx2] at cs
          refine br_t (nI_pos' (by omega)) ?_
          by_cases h103 : tx_p Yscr g.1 n2 + 1 < L ∧ Yscr (tx_p Yscr g.1 n2 + 1) = 103
          · have cb' : cm_b Yscr L n q = some ((0, 0), (q + 1 + 1, g.1, n2, 1), tx_p Yscr g.1 n2 + 2) := by
              rw [cb, cs]
              show some (_, (_, _, _, _), _) = _
              dsimp only
              rw [if_pos h103, if_pos h103]
            refine br_f (nI_ge h103.1 (by omega)) ⟨vp_in_nI (by omega) (by omega), ?_⟩
            rw [nI_clamp (by omega)]
            exact br_t h103.2 (nm_r (nI_1 _) (fin _ _ _ _ _ _ _ _ _ _ _ _ cb' (fun _ => ⟨rfl, rfl⟩)))
          · have cb' : cm_b Yscr L n q = some ((0, 0), (q + 1 + 1, g.1, n2, 0), tx_p Yscr g.1 n2 + 1) := by
              rw [cb, cs]
              show some (_, (_, _, _, _), _) = _
              dsimp only
              rw [if_neg h103, if_neg h103]
            have go := fin _ (nI (q + 1 + 1)) (nI g.1) (nI n2) (nI g.2.2.2.1) (nI g.2.1) (nI g.2.2.1) ic2 ie2 aC aAny aSt cb' (fun _ => ⟨rfl, rfl⟩)
            refine pk_le L (tx_p Yscr g.1 n2 + 1) (fun w => go) (fun w => ⟨vp_in_nI (by omega) (by omega), ?_⟩)
            rw [nI_clamp (by omega)]
            exact br_f (fun y => h103 ⟨w, y⟩) go
        · intro htx2 icn ic2 ie2
          rw [htx2] at cs
          exact br_f (by decide) (hb0 (by rw [cb, cs]; rfl) _ rfl)
      · intro hr na anS anE aC aAny aSt
        rw [hr] at cs
        exact br_t rfl (hb0 (by rw [cb, cs]; rfl) _ rfl)
    · intro htx icn ic ie
      refine br_t (by decide) ?_
      exact hb0 (by rw [cb, cs, show rg_x Yscr L (q + 1 + 1) = none by unfold rg_x; rw [htx]]; rfl) _ rfl
  refine br_f h115 ?_
  have h369 : (Yscr q = 58 ∨ Yscr q = 98 ∨ Yscr q = 116) → wY_parseCmd_369 post (nI (q + 1)) Yquiet Yfuel (nI L) YinpLen YhasTab YnCmd YoutLen YpatLen YholdLen YlinesRead YstepsUsed Ytflag (nI n) Ya1K Ya1V Ya2K Ya2V (Yscr q) 0 0 YsRe YsRep YadK YadV Yneg 0 YicN Yna YanS YanE YmJ YrLen Yscr Yinp YcmdPos Yout Ypat Yhold Yactive Yact Yic Yie YaC YaAny YaSt Yrch Ynx Yrb := by
    intro hl
    have cb : cm_b Yscr L n q = (if (Yscr q = 58 ∧ 0 < n) ∨ 8 < cm_le Yscr L (q + 1) - cm_ls Yscr L (q + 1) ∨ (Yscr q = 58 ∧ cm_le Yscr L (q + 1) - cm_ls Yscr L (q + 1) < 1) then none
     else some ((cm_ls Yscr L (q + 1), cm_le Yscr L (q + 1) - cm_ls Yscr L (q + 1)), (0, 0, 0, 0), cm_le Yscr L (q + 1))) := by
      unfold cm_b
      rw [if_neg (by omega), if_neg h115, if_pos hl]
    have fl := cm_le_f (s := Yscr) (show q + 1 ≤ L by omega)
    have h387 : ¬ (Yscr q = 58 ∧ 0 < n) → wY_parseCmd_387 post (nI (q + 1)) Yquiet Yfuel (nI L) YinpLen YhasTab YnCmd YoutLen YpatLen YholdLen YlinesRead YstepsUsed Ytflag (nI n) Ya1K Ya1V Ya2K Ya2V (Yscr q) 0 0 YsRe YsRep YadK YadV Yneg 0 YicN Yna YanS YanE YmJ YrLen Yscr Yinp YcmdPos Yout Ypat Yhold Yactive Yact Yic Yie YaC YaAny YaSt Yrch Ynx Yrb := by
      intro h58
      unfold wY_parseCmd_387
      refine ym_skip hL (by omega) ?_
      refine ym_lab hL (by have := cm_sk_f (s := Yscr) (show q + 1 ≤ L by omega); exact this.2) ?_
      refine nm_r (show nI (sc_e (pb_l Yscr) L (cm_sk Yscr L (q + 1))) - nI (cm_sk Yscr L (q + 1)) = nI (cm_le Yscr L (q + 1) - cm_ls Yscr L (q + 1)) from pk_sub fl.2.1) ?_
      refine pk_lt 8 (cm_le Yscr L (q + 1) - cm_ls Yscr L (q + 1)) (fun w => hb0 (by rw [cb, if_pos (Or.inr (Or.inl w))]) _ rfl) (fun w => ?_)
      have go : (Yscr q = 58 → 1 ≤ cm_le Yscr L (q + 1) - cm_ls Yscr L (q + 1)) → wY_parseCmd_537 post (nI (cm_le Yscr L (q + 1))) Yquiet Yfuel (nI L) YinpLen YhasTab YnCmd YoutLen YpatLen YholdLen YlinesRead YstepsUsed Ytflag (nI n) Ya1K Ya1V Ya2K Ya2V (Yscr q) (nI (cm_ls Yscr L (q + 1))) (nI (cm_le Yscr L (q + 1) - cm_ls Yscr L (q + 1))) YsRe YsRep YadK YadV Yneg 0 YicN Yna YanS YanE YmJ YrLen Yscr Yinp YcmdPos Yout Ypat Yhold Yactive Yact Yic Yie YaC YaAny YaSt Yrch Ynx Yrb := by
        intro h1
        have cb' : cm_b Yscr L n q = some ((cm_ls Yscr L (q + 1), cm_le Yscr L (q + 1) - cm_ls Yscr L (q + 1)), (0, 0, 0, 0), cm_le Yscr L (q + 1)) := by
          rw [cb, if_neg]
          intro y
          rcases y with y | y | y
          · exact h58 y
          · omega
          · have := h1 y.1; omega
        exact fin _ _ _ _ _ _ _ _ _ _ _ _ cb' (fun y => absurd y h115)
      refine br_c (fun c58 => pk_le 1 (cm_le Yscr L (q + 1) - cm_ls Yscr L (q + 1)) (fun w1 => go (fun _ => w1)) (fun w1 => hb0 (by rw [cb, if_pos (Or.inr (Or.inr ⟨c58, w1⟩))]) _ rfl)) (fun c58 => go (fun y => absurd y c58))
    refine br_c (fun c58 => pk_le n 0 (fun w => h387 (fun y => by omega)) (fun w => hb0 (by rw [cb, if_pos (Or.inl ⟨c58, w⟩)]) _ rfl)) (fun c58 => h387 (fun y => c58 y.1))
  refine br_c (fun h => h369 (Or.inl h)) (fun h58 => br_c (fun h => h369 (Or.inr (Or.inl h))) (fun h98 => br_c (fun h => h369 (Or.inr (Or.inr h))) (fun h116 => ?_)))
  have hl : ¬ (Yscr q = 58 ∨ Yscr q = 98 ∨ Yscr q = 116) := fun y => by
    rcases y with y | y | y
    · exact h58 y
    · exact h98 y
    · exact h116 y
  have ok : cm_v (Yscr q) = true → wY_parseCmd_537 post (nI (q + 1)) Yquiet Yfuel (nI L) YinpLen YhasTab YnCmd YoutLen YpatLen YholdLen YlinesRead YstepsUsed Ytflag (nI n) Ya1K Ya1V Ya2K Ya2V (Yscr q) 0 0 YsRe YsRep YadK YadV Yneg 0 YicN Yna YanS YanE YmJ YrLen Yscr Yinp YcmdPos Yout Ypat Yhold Yactive Yact Yic Yie YaC YaAny YaSt Yrch Ynx Yrb := fun hv =>
    fin ((0, 0), (0, 0, 0, 0), q + 1) _ _ _ _ _ _ _ _ _ _ _ (by unfold cm_b; rw [if_neg (by omega), if_neg h115, if_neg hl, if_pos hv]) (fun y => absurd y h115)
  have okc : ∀ c : Int32, cm_v c = true → Yscr q = c → wY_parseCmd_537 post (nI (q + 1)) Yquiet Yfuel (nI L) YinpLen YhasTab YnCmd YoutLen YpatLen YholdLen YlinesRead YstepsUsed Ytflag (nI n) Ya1K Ya1V Ya2K Ya2V (Yscr q) 0 0 YsRe YsRep YadK YadV Yneg 0 YicN Yna YanS YanE YmJ YrLen Yscr Yinp YcmdPos Yout Ypat Yhold Yactive Yact Yic Yie YaC YaAny YaSt Yrch Ynx Yrb := fun c hv hx => ok (by rw [hx]; exact hv)
  refine br_c (okc 100 (by decide)) (fun h100 => br_c (okc 112 (by decide)) (fun h112 => br_c (okc 78 (by decide)) (fun h78 => br_c (okc 104 (by decide)) (fun h104 => br_c (okc 72 (by decide)) (fun h72 => br_c (okc 103 (by decide)) (fun h103 => br_c (okc 71 (by decide)) (fun h71 => br_c (okc 120 (by decide)) (fun h120 => ?_))))))))
  refine hb0 ?_ _ rfl
  unfold cm_b
  rw [if_neg (by omega), if_neg h115, if_neg hl, if_neg]
  intro y
  rcases of_decide_eq_true y with y | y | y | y | y | y | y | y
  · exact h100 y
  · exact h112 y
  · exact h78 y
  · exact h104 y
  · exact h72 y
  · exact h103 y
  · exact h71 y
  · exact h120 y
theorem ym_178 {L q : Nat} {post : Int32 → SY → Prop} (hL : L ≤ 128) (hq : q ≤ L) (h : wY_parseCmd_210 post (nI (cm_h Yscr L q)) Yquiet Yfuel (nI L) YinpLen YhasTab YnCmd YoutLen YpatLen YholdLen YlinesRead YstepsUsed Ytflag YnAddr Ya1K Ya1V Ya2K Ya2V Ycc YlabS YlabL YsRe YsRep YadK YadV (cm_g Yscr L q) YsG YicN Yna YanS YanE YmJ YrLen Yscr Yinp YcmdPos Yout Ypat Yhold Yactive Yact Yic Yie YaC YaAny YaSt Yrch Ynx Yrb) : wY_parseCmd_178 post (nI q) Yquiet Yfuel (nI L) YinpLen YhasTab YnCmd YoutLen YpatLen YholdLen YlinesRead YstepsUsed Ytflag YnAddr Ya1K Ya1V Ya2K Ya2V Ycc YlabS YlabL YsRe YsRep YadK YadV 0 YsG YicN Yna YanS YanE YmJ YrLen Yscr Yinp YcmdPos Yout Ypat Yhold Yactive Yact Yic Yie YaC YaAny YaSt Yrch Ynx Yrb := by
  unfold cm_g cm_h at h
  refine pk_le L q (fun w => ?_) (fun w => ⟨pk_in q 128 (by omega), ?_⟩)
  · rw [if_neg (fun y => by omega), if_neg (fun y => by omega)] at h
    exact h
  · rw [nI_clamp (by omega)]
    refine br_c (fun h33 => ?_) (fun h33 => ?_)
    · rw [if_pos ⟨w, h33⟩, if_pos ⟨w, h33⟩] at h
      rw [nI_1]
      exact ym_skip hL (by omega) h
    · rw [if_neg (fun y => h33 y.2), if_neg (fun y => h33 y.2)] at h
      exact h
/-- Y's fields hold the parse d -/
def yc_H (v : SY) (d : cm_T) : Prop := match v with
  | (Yquiet, Yfuel, YscrLen, YinpLen, YhasTab, YnCmd, YoutLen, YpatLen, YholdLen, YlinesRead, YstepsUsed, Ytflag, YnAddr, Ya1K, Ya1V, Ya2K, Ya2V, Ycc, YlabS, YlabL, YsRe, YsRep, YadK, YadV, Yneg, YsG, YicN, Yna, YanS, YanE, YmJ, YrLen, Yscr, Yinp, YcmdPos, Yout, Ypat, Yhold, Yactive, Yact, Yic, Yie, YaC, YaAny, YaSt, Yrch, Ynx, Yrb) => YnAddr = nI d.1.1 ∧ (¬ d.1.1 = 0 → Ya1K = nI d.1.2.1.1 ∧ Ya1V = d.1.2.1.2) ∧ (d.1.1 = 2 → Ya2K = nI d.1.2.2.1.1 ∧ Ya2V = d.1.2.2.1.2) ∧ Yneg = d.1.2.2.2.1 ∧ Ycc = d.2.1 ∧ YlabS = nI d.2.2.1.1.1 ∧ YlabL = nI d.2.2.1.1.2 ∧ (d.2.1 = 115 → YsRe = nI d.2.2.1.2.1.1 ∧ YsRep = nI d.2.2.1.2.1.2.1) ∧ YsG = d.2.2.1.2.1.2.2.2
end YC_1
end
section
/-! Y's parser: the whole command -/
section YC_2
variable {Yquiet Yfuel YscrLen YinpLen YhasTab YnCmd YoutLen YpatLen YholdLen YlinesRead YstepsUsed Ytflag YnAddr Ya1K Ya1V Ya2K Ya2V Ycc YlabS YlabL YsRe YsRep YadK YadV Yneg YsG YicN Yna YanS YanE YmJ YrLen : Int32} {Yscr Yinp YcmdPos Yout Ypat Yhold Yactive Yact Yic Yie YaC YaAny YaSt Yrch Ynx Yrb : Nat → Int32}
theorem ym_73 {L q : Nat} {post : Int32 → SY → Prop} (hL : L ≤ 128) (hc : ch_ok Yscr L) (hq : q < L) (hd : pb_d Yscr q = true ∨ Yscr q = 36 ∨ Yscr q = 47)
    (hg : ∀ (a : Nat × (Nat × Int32) × (Nat × Int32) × Int32 × Nat) a1k a1v a2k a2v adk adv icN na anS anE ic ie aC aAny aSt, cm_a Yscr L q = some a → a.1 ≤ 2 → (¬ a.1 = 0 → a1k = nI a.2.1.1 ∧ a1v = a.2.1.2) → (a.1 = 2 → a2k = nI a.2.2.1.1 ∧ a2v = a.2.2.1.2) → wY_parseCmd_210 post (nI a.2.2.2.2) Yquiet Yfuel (nI L) YinpLen YhasTab YnCmd YoutLen YpatLen YholdLen YlinesRead YstepsUsed Ytflag (nI a.1) a1k a1v a2k a2v Ycc YlabS YlabL YsRe YsRep adk adv a.2.2.2.1 YsG icN na anS anE YmJ YrLen Yscr Yinp YcmdPos Yout Ypat Yhold Yactive Yact ic ie aC aAny aSt Yrch Ynx Yrb)
    (hb : cm_a Yscr L q = none → ∀ v, yk_p v = (Yquiet, Yfuel, nI L, YinpLen, YhasTab, YnCmd, YoutLen, YpatLen, YholdLen, YlinesRead, YstepsUsed, Ytflag, Yscr, Yinp, YcmdPos, Yout, Ypat, Yhold, Yactive, Yact) → post (-1) v) :
    wY_parseCmd_73 post (nI q) Yquiet Yfuel (nI L) YinpLen YhasTab YnCmd YoutLen YpatLen YholdLen YlinesRead YstepsUsed Ytflag 0 Ya1K Ya1V Ya2K Ya2V Ycc YlabS YlabL YsRe YsRep YadK YadV 0 YsG YicN Yna YanS YanE YmJ YrLen Yscr Yinp YcmdPos Yout Ypat Yhold Yactive Yact Yic Yie YaC YaAny YaSt Yrch Ynx Yrb := by
  have ca : cm_a Yscr L q = (ad_x Yscr L q).bind (fun a =>
      if cm_sk Yscr L a.2.2 < L ∧ Yscr (cm_sk Yscr L a.2.2) = 44 then
        (ad_x Yscr L (cm_sk Yscr L (cm_sk Yscr L a.2.2 + 1))).map (fun b => (2, (a.1, a.2.1), (b.1, b.2.1), cm_g Yscr L (cm_sk Yscr L b.2.2), cm_h Yscr L (cm_sk Yscr L b.2.2)))
      else some (1, (a.1, a.2.1), (0, 0), cm_g Yscr L (cm_sk Yscr L a.2.2), cm_h Yscr L (cm_sk Yscr L a.2.2))) := by
    unfold cm_a
    rw [if_pos ⟨hq, hd⟩]
  unfold wY_parseCmd_73
  refine ym_parseAddr hL hc (by omega) ?_ ?_
  · intro a icN na anS anE ic ie aC aAny aSt hax
    have fa := ad_x_f hax
    have f1 := cm_sk_f (s := Yscr) fa.2
    rw [hax] at ca
    dsimp only [Option.bind] at ca
    refine br_t (nI_pos' (by omega)) ?_
    refine ym_skip hL fa.2 ?_
    have one : ¬ (cm_sk Yscr L a.2.2 < L ∧ Yscr (cm_sk Yscr L a.2.2) = 44) → wY_parseCmd_178 post (nI (cm_sk Yscr L a.2.2)) Yquiet Yfuel (nI L) YinpLen YhasTab YnCmd YoutLen YpatLen YholdLen YlinesRead YstepsUsed Ytflag (nI 1) (nI a.1) a.2.1 Ya2K Ya2V Ycc YlabS YlabL YsRe YsRep (nI a.1) a.2.1 0 YsG icN na anS anE YmJ YrLen Yscr Yinp YcmdPos Yout Ypat Yhold Yactive Yact ic ie aC aAny aSt Yrch Ynx Yrb := by
      intro hcm
      rw [if_neg hcm] at ca
      refine ym_178 hL f1.2 ?_
      exact hg (1, (a.1, a.2.1), (0, 0), cm_g Yscr L (cm_sk Yscr L a.2.2), cm_h Yscr L (cm_sk Yscr L a.2.2)) (nI a.1) a.2.1 Ya2K Ya2V (nI a.1) a.2.1 icN na anS anE ic ie aC aAny aSt ca (by decide : (1 : Nat) ≤ 2) (fun _ => ⟨rfl, rfl⟩) (fun y => absurd y (by decide : ¬ (1 : Nat) = 2))
    refine pk_le L (cm_sk Yscr L a.2.2) (fun w => one (fun y => by omega)) (fun w => ⟨vp_in_nI (by omega) (by omega), ?_⟩)
    rw [nI_clamp (by omega)]
    refine br_c (fun h44 => ?_) (fun h44 => one (fun y => h44 y.2))
    rw [if_pos ⟨w, h44⟩] at ca
    have f2 := cm_sk_f (s := Yscr) (show cm_sk Yscr L a.2.2 + 1 ≤ L by omega)
    rw [nI_1]
    refine ym_skip hL (by omega) ?_
    refine ym_parseAddr hL hc f2.2 ?_ ?_
    · intro b icN' na' anS' anE' ic' ie' aC' aAny' aSt' hbx
      have fb := ad_x_f hbx
      have f3 := cm_sk_f (s := Yscr) fb.2
      rw [hbx] at ca
      refine br_t (nI_pos' (by omega)) ?_
      refine ym_skip hL fb.2 ?_
      refine ym_178 hL f3.2 ?_
      exact hg (2, (a.1, a.2.1), (b.1, b.2.1), cm_g Yscr L (cm_sk Yscr L b.2.2), cm_h Yscr L (cm_sk Yscr L b.2.2)) (nI a.1) a.2.1 (nI b.1) b.2.1 (nI b.1) b.2.1 icN' na' anS' anE' ic' ie' aC' aAny' aSt' ca (Nat.le_refl 2) (fun _ => ⟨rfl, rfl⟩) (fun _ => ⟨rfl, rfl⟩)
    · intro hbx v hv
      rw [hbx] at ca
      obtain ⟨Yquiet1, Yfuel1, YscrLen1, YinpLen1, YhasTab1, YnCmd1, YoutLen1, YpatLen1, YholdLen1, YlinesRead1, YstepsUsed1, Ytflag1, YnAddr1, Ya1K1, Ya1V1, Ya2K1, Ya2V1, Ycc1, YlabS1, YlabL1, YsRe1, YsRep1, YadK1, YadV1, Yneg1, YsG1, YicN1, Yna1, YanS1, YanE1, YmJ1, YrLen1, Yscr1, Yinp1, YcmdPos1, Yout1, Ypat1, Yhold1, Yactive1, Yact1, Yic1, Yie1, YaC1, YaAny1, YaSt1, Yrch1, Ynx1, Yrb1⟩ := v
      exact br_f (by decide) (hb ca _ hv)
  · intro hax v hv
    rw [hax] at ca
    obtain ⟨Yquiet1, Yfuel1, YscrLen1, YinpLen1, YhasTab1, YnCmd1, YoutLen1, YpatLen1, YholdLen1, YlinesRead1, YstepsUsed1, Ytflag1, YnAddr1, Ya1K1, Ya1V1, Ya2K1, Ya2V1, Ycc1, YlabS1, YlabL1, YsRe1, YsRep1, YadK1, YadV1, Yneg1, YsG1, YicN1, Yna1, YanS1, YanE1, YmJ1, YrLen1, Yscr1, Yinp1, YcmdPos1, Yout1, Ypat1, Yhold1, Yactive1, Yact1, Yic1, Yie1, YaC1, YaAny1, YaSt1, Yrch1, Ynx1, Yrb1⟩ := v
    exact br_f (by decide) (hb ca _ hv)
theorem ym_parseCmd {L q : Nat} {post : Int32 → SY → Prop} (hL : L ≤ 128) (hc : ch_ok Yscr L) (hq : q ≤ L)
    (hg : ∀ d v, cm_x Yscr L q = some d → yk_p v = (Yquiet, Yfuel, nI L, YinpLen, YhasTab, YnCmd, YoutLen, YpatLen, YholdLen, YlinesRead, YstepsUsed, Ytflag, Yscr, Yinp, YcmdPos, Yout, Ypat, Yhold, Yactive, Yact) → yc_H v d → post (nI d.2.2.2) v)
    (hb : cm_x Yscr L q = none → ∀ v, yk_p v = (Yquiet, Yfuel, nI L, YinpLen, YhasTab, YnCmd, YoutLen, YpatLen, YholdLen, YlinesRead, YstepsUsed, Ytflag, Yscr, Yinp, YcmdPos, Yout, Ypat, Yhold, Yactive, Yact) → post (-1) v) :
    wpY_parseCmd post (Yquiet, Yfuel, nI L, YinpLen, YhasTab, YnCmd, YoutLen, YpatLen, YholdLen, YlinesRead, YstepsUsed, Ytflag, YnAddr, Ya1K, Ya1V, Ya2K, Ya2V, Ycc, YlabS, YlabL, YsRe, YsRep, YadK, YadV, Yneg, YsG, YicN, Yna, YanS, YanE, YmJ, YrLen, Yscr, Yinp, YcmdPos, Yout, Ypat, Yhold, Yactive, Yact, Yic, Yie, YaC, YaAny, YaSt, Yrch, Ynx, Yrb) (nI q) := by
  have h210 : ∀ (a : Nat × (Nat × Int32) × (Nat × Int32) × Int32 × Nat) a1k a1v a2k a2v sre srep adk adv icN na anS anE ic ie aC aAny aSt, cm_a Yscr L q = some a → a.1 ≤ 2 → (¬ a.1 = 0 → a1k = nI a.2.1.1 ∧ a1v = a.2.1.2) → (a.1 = 2 → a2k = nI a.2.2.1.1 ∧ a2v = a.2.2.1.2) → wY_parseCmd_210 post (nI a.2.2.2.2) Yquiet Yfuel (nI L) YinpLen YhasTab YnCmd YoutLen YpatLen YholdLen YlinesRead YstepsUsed Ytflag (nI a.1) a1k a1v a2k a2v 0 0 0 sre srep adk adv a.2.2.2.1 0 icN na anS anE YmJ YrLen Yscr Yinp YcmdPos Yout Ypat Yhold Yactive Yact ic ie aC aAny aSt Yrch Ynx Yrb := by
    intro a a1k a1v a2k a2v sre srep adk adv icN na anS anE ic ie aC aAny aSt hca h2 ha1 ha2
    have fa := cm_a_f hq hca
    refine ym_210 hL hc fa.2 h2 ?_ ?_
    · intro b sre' srep' icN' na' anS' anE' ic' ie' aC' aAny' aSt' hcb hw hlt hs
      have hx : cm_x Yscr L q = some (a, Yscr a.2.2.2.2, b, cm_sk Yscr L b.2.2) := by
        unfold cm_x
        rw [hca]
        dsimp only [Option.bind]
        rw [hcb]
        dsimp only
        exact if_neg hw
      exact hg _ _ hx rfl ⟨rfl, ha1, ha2, rfl, rfl, rfl, rfl, hs, rfl⟩
    · intro hbad v hv
      refine hb ?_ v hv
      unfold cm_x
      rw [hca]
      dsimp only [Option.bind]
      cases hcb : cm_b Yscr L a.1 a.2.2.2.2 with
      | none => rfl
      | some b =>
        dsimp only
        exact if_pos (hbad b hcb)
  have hb73 : cm_a Yscr L q = none → ∀ v, yk_p v = (Yquiet, Yfuel, nI L, YinpLen, YhasTab, YnCmd, YoutLen, YpatLen, YholdLen, YlinesRead, YstepsUsed, Ytflag, Yscr, Yinp, YcmdPos, Yout, Ypat, Yhold, Yactive, Yact) → post (-1) v := fun e => hb (by unfold cm_x; rw [e]; rfl)
  have none0 : ¬ (q < L ∧ (pb_d Yscr q = true ∨ Yscr q = 36 ∨ Yscr q = 47)) → wY_parseCmd_210 post (nI q) Yquiet Yfuel (nI L) YinpLen YhasTab YnCmd YoutLen YpatLen YholdLen YlinesRead YstepsUsed Ytflag 0 Ya1K Ya1V Ya2K Ya2V 0 0 0 YsRe YsRep YadK YadV 0 0 YicN Yna YanS YanE YmJ YrLen Yscr Yinp YcmdPos Yout Ypat Yhold Yactive Yact Yic Yie YaC YaAny YaSt Yrch Ynx Yrb := fun hn =>
    h210 (0, (0, 0), (0, 0), 0, q) Ya1K Ya1V Ya2K Ya2V YsRe YsRep YadK YadV YicN Yna YanS YanE Yic Yie YaC YaAny YaSt (by unfold cm_a; rw [if_neg hn]) (Nat.zero_le 2) (fun y => absurd rfl y) (fun y => absurd y (by decide : ¬ (0 : Nat) = 2))
  have some0 : q < L → (pb_d Yscr q = true ∨ Yscr q = 36 ∨ Yscr q = 47) → wY_parseCmd_73 post (nI q) Yquiet Yfuel (nI L) YinpLen YhasTab YnCmd YoutLen YpatLen YholdLen YlinesRead YstepsUsed Ytflag 0 Ya1K Ya1V Ya2K Ya2V 0 0 0 YsRe YsRep YadK YadV 0 0 YicN Yna YanS YanE YmJ YrLen Yscr Yinp YcmdPos Yout Ypat Yhold Yactive Yact Yic Yie YaC YaAny YaSt Yrch Ynx Yrb := fun hqL hd =>
    ym_73 hL hc hqL hd (fun a a1k a1v a2k a2v adk adv icN na anS anE ic ie aC aAny aSt h1 h2 h3 h4 => h210 a a1k a1v a2k a2v YsRe YsRep adk adv icN na anS anE ic ie aC aAny aSt h1 h2 h3 h4) hb73
  unfold wpY_parseCmd
  refine pk_le L q (fun w => none0 (fun y => by omega)) (fun w => ⟨pk_in q 128 (by omega), ?_⟩)
  have hi : vp_in (nI q) 128 := pk_in q 128 (by omega)
  rw [nI_clamp (by omega)]
  refine ym_isDigit ?_
  by_cases hd : pb_d Yscr q = true
  · rw [if_pos hd]
    exact br_f (by decide) (some0 w (Or.inl hd))
  · rw [if_neg hd]
    exact br_t rfl ⟨hi, br_c (fun h => some0 w (Or.inr (Or.inl h))) (fun h => ⟨hi, br_c (fun h' => some0 w (Or.inr (Or.inr h'))) (fun h' => none0 (fun y => by
      rcases y.2 with z | z | z
      · exact hd z
      · exact h z
      · exact h' z))⟩)⟩
end YC_2
end
section
/-! the script's commands one behind another -/
section SQ_1
theorem cm_x_f {s : Nat → Int32} {L q : Nat} {d : cm_T} (hq : q ≤ L) (h : cm_x s L q = some d) : q < d.2.2.2 ∧ d.2.2.2 ≤ L ∧ d.2.2.1.1.1 + d.2.2.1.1.2 ≤ L ∧ d.2.2.1.1.2 ≤ 8 ∧ (d.2.1 = 58 → 1 ≤ d.2.2.1.1.2) ∧ (¬ (d.2.1 = 58 ∨ d.2.1 = 98 ∨ d.2.1 = 116) → d.2.2.1.1.2 = 0) ∧ d.2.2.1.2.1.2.1 + d.2.2.1.2.1.2.2.1 ≤ d.2.2.2 := by
  unfold cm_x at h
  cases ea : cm_a s L q with
  | none => rw [ea] at h; exact absurd h (by simp)
  | some a =>
    rw [ea] at h
    dsimp only [Option.bind] at h
    cases eb : cm_b s L a.1 a.2.2.2.2 with
    | none => rw [eb] at h; exact absurd h (by simp)
    | some b =>
      rw [eb] at h
      dsimp only at h
      split at h
      · exact absurd h (by simp)
      · have t := (Option.some.inj h).symm
        have fa := cm_a_f hq ea
        have fb := cm_b_f eb
        have fs := cm_sk_f (s := s) fb.2
        rw [t]
        dsimp only
        refine ⟨by omega, by omega, ?_⟩
        unfold cm_b at eb
        split at eb
        · exact absurd eb (by simp)
        · split at eb
          · rename_i w
            cases es : cm_s s L (a.2.2.2.2 + 1) with
            | none => rw [es] at eb; exact absurd eb (by simp)
            | some g =>
              rw [es] at eb
              have t2 := (Option.some.inj eb).symm
              have f := cm_s_f es
              rw [t2] at fs ⊢
              dsimp only at fs ⊢
              refine ⟨by omega, by omega, fun y => ?_, fun _ => rfl, by omega⟩
              rw [w] at y
              exact absurd y (by decide)
          · split at eb
            · rename_i w1 w2
              split at eb
              · exact absurd eb (by simp)
              · rename_i w3
                have t2 := (Option.some.inj eb).symm
                have f := cm_le_f (s := s) (show a.2.2.2.2 + 1 ≤ L by omega)
                rw [t2] at fs ⊢
                dsimp only at fs ⊢
                refine ⟨by omega, ?_, fun y => ?_, fun y => absurd w2 y, by omega⟩
                · rcases Nat.lt_or_ge 8 (cm_le s L (a.2.2.2.2 + 1) - cm_ls s L (a.2.2.2.2 + 1)) with z | z
                  · exact absurd (Or.inr (Or.inl z)) w3
                  · exact z
                · rcases Nat.lt_or_ge (cm_le s L (a.2.2.2.2 + 1) - cm_ls s L (a.2.2.2.2 + 1)) 1 with z | z
                  · exact absurd (Or.inr (Or.inr ⟨y, z⟩)) w3
                  · exact z
            · rename_i w1 w2
              split at eb
              · have t2 := (Option.some.inj eb).symm
                rw [t2] at fs ⊢
                dsimp only at fs ⊢
                exact ⟨by omega, by omega, fun y => absurd (Or.inl y) w2, fun _ => rfl, by omega⟩
              · exact absurd eb (by simp)
/-- where command k begins -/
def cq_Q (s : Nat → Int32) (L : Nat) : Nat → Nat
  | 0 => sc_e (pb_z s) L 0
  | k + 1 => match cm_x s L (cq_Q s L k) with
    | none => L
    | some d => sc_e (pb_z s) L d.2.2.2
def cq_0 : cm_T := ((0, (0, 0), (0, 0), 0, 0), 0, ((0, 0), (0, 0, 0, 0), 0), 0)
def cq_D (s : Nat → Int32) (L k : Nat) : cm_T := match cm_x s L (cq_Q s L k) with
  | none => cq_0
  | some d => d
/-- the first k commands are good -/
def cq_G (s : Nat → Int32) (L k : Nat) : Prop := ∀ j, j < k → cq_Q s L j < L ∧ cm_x s L (cq_Q s L j) = some (cq_D s L j)
theorem cq_Q_le (s : Nat → Int32) (L : Nat) : ∀ k, cq_Q s L k ≤ L := by
  intro k
  induction k with
  | zero => exact sc_le (Nat.zero_le _)
  | succ k ih =>
    rw [cq_Q]
    cases e : cm_x s L (cq_Q s L k) with
    | none => exact Nat.le_refl _
    | some d => exact sc_le (cm_x_f ih e).2.1
theorem cq_s {s : Nat → Int32} {L k : Nat} {d : cm_T} (h : cm_x s L (cq_Q s L k) = some d) : cq_D s L k = d ∧ cq_Q s L (k + 1) = sc_e (pb_z s) L d.2.2.2 := by
  constructor
  · unfold cq_D; rw [h]
  · rw [cq_Q, h]
theorem cq_Gs {s : Nat → Int32} {L k : Nat} {d : cm_T} (hG : cq_G s L k) (hq : cq_Q s L k < L) (h : cm_x s L (cq_Q s L k) = some d) : cq_G s L (k + 1) := by
  intro j hj
  by_cases z : j = k
  · rw [z, (cq_s h).1]; exact ⟨hq, h⟩
  · exact hG j (by omega)
theorem cq_lt {s : Nat → Int32} {L k : Nat} (hG : cq_G s L (k + 1)) : (cq_D s L k).2.2.2 ≤ cq_Q s L (k + 1) ∧ cq_Q s L k < (cq_D s L k).2.2.2 := by
  obtain ⟨a, b⟩ := hG k (by omega)
  have f := cm_x_f (Nat.le_of_lt a) b
  have g := (cq_s b).2
  rw [g]
  exact ⟨sc_ge f.2.1, f.1⟩
theorem cq_mono {s : Nat → Int32} {L : Nat} : ∀ k, cq_G s L k → ∀ j, j < k → (cq_D s L j).2.2.2 ≤ cq_Q s L k ∧ k ≤ cq_Q s L k := by
  intro k
  induction k with
  | zero => intro _ j hj; omega
  | succ k ih =>
    intro hG j hj
    have a := cq_lt hG
    have hG' : cq_G s L k := fun i hi => hG i (by omega)
    have kq : k ≤ cq_Q s L k := by
      cases k with
      | zero => exact Nat.zero_le _
      | succ k => exact (ih hG' k (by omega)).2
    by_cases z : j = k
    · rw [z]; exact ⟨a.1, by omega⟩
    · have := ih hG' j (by omega)
      exact ⟨by omega, by omega⟩
/-- n commands, no more than 16, and then the script's end -/
def cq_N (s : Nat → Int32) (L n : Nat) : Prop := cq_G s L n ∧ L ≤ cq_Q s L n ∧ n ≤ 16
theorem cq_b16 {s : Nat → Int32} {L k : Nat} (hG : cq_G s L k) (h : cq_Q s L k < L) (h16 : 16 ≤ k) : ∀ n, ¬ cq_N s L n := by
  intro n ⟨a, b, c⟩
  by_cases z : n = k
  · rw [z] at b; omega
  · have := (hG n (by omega)).1; omega
theorem cq_bx {s : Nat → Int32} {L k : Nat} (hG : cq_G s L k) (h : cq_Q s L k < L) (hx : cm_x s L (cq_Q s L k) = none) : ∀ n, ¬ cq_N s L n := by
  intro n ⟨a, b, c⟩
  rcases Nat.lt_or_ge k n with z | z
  · have := (a k z).2
    rw [hx] at this
    exact absurd this (by simp)
  · by_cases y : n = k
    · rw [y] at b; omega
    · have := (hG n (by omega)).1; omega
theorem cq_bn {s : Nat → Int32} {L k : Nat} (hG : cq_G s L k) (h16 : 16 < k) : ∀ n, ¬ cq_N s L n := by
  intro n ⟨a, b, c⟩
  have := (hG n (by omega)).1
  omega
/-! labels -/
def lb_c (s : Nat → Int32) (L k : Nat) : Int32 := (cq_D s L k).2.1
def lb_s (s : Nat → Int32) (L k : Nat) : Nat := (cq_D s L k).2.2.1.1.1
def lb_l (s : Nat → Int32) (L k : Nat) : Nat := (cq_D s L k).2.2.1.1.2
def lb_q (s : Nat → Int32) (L a b : Nat) : Prop := lb_E s (lb_s s L a) (lb_l s L a) (lb_s s L b) (lb_l s L b)
/-- ':' commands have different labels -/
def lb_1 (s : Nat → Int32) (L n : Nat) : Prop := ∀ a b, a < n → b < n → ¬ a = b → lb_c s L a = 58 → lb_c s L b = 58 → ¬ lb_q s L a b
/-- every label that b or t names is there -/
def lb_2 (s : Nat → Int32) (L n : Nat) : Prop := ∀ a, a < n → (lb_c s L a = 98 ∨ lb_c s L a = 116) → ¬ lb_l s L a = 0 → ∃ b, b < n ∧ lb_c s L b = 58 ∧ lb_q s L a b
/-- where command a (a 'b' or 't') branches to -/
def lb_t (s : Nat → Int32) (L n a t : Nat) : Prop := (lb_l s L a = 0 ∧ t = n) ∨ (¬ lb_l s L a = 0 ∧ t < n ∧ lb_c s L t = 58 ∧ lb_q s L a t ∧ ∀ j, j < t → lb_c s L j = 58 → ¬ lb_q s L a j)
theorem lb_f {s : Nat → Int32} {L n a : Nat} (hG : cq_G s L n) (ha : a < n) : lb_s s L a + lb_l s L a ≤ L ∧ lb_l s L a ≤ 8 ∧ (lb_c s L a = 58 → 1 ≤ lb_l s L a) ∧ (¬ (lb_c s L a = 58 ∨ lb_c s L a = 98 ∨ lb_c s L a = 116) → lb_l s L a = 0) := by
  obtain ⟨h1, h2⟩ := hG a ha
  have f := cm_x_f (Nat.le_of_lt h1) h2
  exact ⟨f.2.2.1, f.2.2.2.1, f.2.2.2.2.1, f.2.2.2.2.2.1⟩
end SQ_1
section SQ_2
variable {Xquiet Xfuel XscriptSize XinputSize Xcursor XitemCount XtablePresent XcommandCount XoutputSize XpatternSize XholdSize XlineNumber XstepCount XnextLine Xpointer Xsubstituted XresultSize : Int32} {Xscript Xinput Xitems Xverb Xnegated Xeverywhere XlabelStart XlabelSize Xtarget XreplacementStart XreplacementEnd Xreplacement Xaddress XstartAnchor XendAnchor XatomCount XatomChar XatomStarred Xoutput Xpattern Xhold XactivationLine Xresult : Nat → Int32}
/-- X's table: command k's parse lies in the arrays -/
def tx_T (s : Nat → Int32) (L n : Nat) (vb ng ev lst lsz rst ren rep adr sa ea ac ach ast : Nat → Int32) : Prop := ∀ k, k < n → tb_X s L vb ng ev lst lsz rst ren rep adr sa ea ac ach ast k (cq_D s L k)
/-- the labels alone -/
def tx_L (s : Nat → Int32) (L n : Nat) (vb lst lsz : Nat → Int32) : Prop := ∀ k, k < n → vb k = lb_c s L k ∧ ((lb_c s L k = 58 ∨ lb_c s L k = 98 ∨ lb_c s L k = 116) → lst k = nI (lb_s s L k) ∧ lsz k = nI (lb_l s L k))
theorem xm_same {L n a b : Nat} {post : Int32 → Prop} (hL : L ≤ 128) (hG : cq_G Xscript L n) (hn : n ≤ 16) (hT : tx_L Xscript L n Xverb XlabelStart XlabelSize) (ha : a < n) (hb : b < n) (ca : lb_c Xscript L a = 58 ∨ lb_c Xscript L a = 98 ∨ lb_c Xscript L a = 116) (cb : lb_c Xscript L b = 58)
    (h1 : lb_q Xscript L a b → post 1) (h0 : ¬ lb_q Xscript L a b → post 0) : wpX_sameLabel post (Xquiet, Xfuel, XscriptSize, XinputSize, Xcursor, XitemCount, XtablePresent, XcommandCount, XoutputSize, XpatternSize, XholdSize, XlineNumber, XstepCount, XnextLine, Xpointer, Xsubstituted, XresultSize, Xscript, Xinput, Xitems, Xverb, Xnegated, Xeverywhere, XlabelStart, XlabelSize, Xtarget, XreplacementStart, XreplacementEnd, Xreplacement, Xaddress, XstartAnchor, XendAnchor, XatomCount, XatomChar, XatomStarred, Xoutput, Xpattern, Xhold, XactivationLine, Xresult) (nI a) (nI b) := by
  obtain ⟨a1, a2⟩ := (hT a ha).2 ca
  obtain ⟨b1, b2⟩ := (hT b hb).2 (Or.inl cb)
  have fa := lb_f hG ha
  have fb := lb_f hG hb
  have va : vp_in (nI a) 16 := pk_in a 16 (by omega)
  have vb : vp_in (nI b) 16 := pk_in b 16 (by omega)
  unfold wpX_sameLabel
  refine ⟨va, vb, ?_⟩
  rw [nI_clamp (show a < 2 ^ 31 by omega), nI_clamp (show b < 2 ^ 31 by omega), a2, b2]
  refine pk_eq (lb_l Xscript L a) (lb_l Xscript L b) (fun e => ⟨lb_l Xscript L a + 1, ?_⟩) (fun e => h0 (fun y => e y.1))
  have loop : ∀ f j, lb_l Xscript L a - j < f → j ≤ lb_l Xscript L a → (∀ i, i < j → Xscript (lb_s Xscript L a + i) = Xscript (lb_s Xscript L b + i)) → wX_sameLabel_19 post (nI a) (nI b) Xquiet Xfuel XscriptSize XinputSize Xcursor XitemCount XtablePresent XcommandCount XoutputSize XpatternSize XholdSize XlineNumber XstepCount XnextLine Xpointer Xsubstituted XresultSize Xscript Xinput Xitems Xverb Xnegated Xeverywhere XlabelStart XlabelSize Xtarget XreplacementStart XreplacementEnd Xreplacement Xaddress XstartAnchor XendAnchor XatomCount XatomChar XatomStarred Xoutput Xpattern Xhold XactivationLine Xresult f (nI j) := by
    intro f
    induction f with
    | zero => intro j h; omega
    | succ f ih =>
    intro j hf hj hi
    refine ⟨va, ?_⟩
    rw [nI_clamp (show a < 2 ^ 31 by omega), nI_clamp (show b < 2 ^ 31 by omega), a1, a2, b1]
    refine pk_le (lb_l Xscript L a) j (fun w => h1 ⟨e, fun i hi' => hi i (by omega)⟩) (fun w => ?_)
    rw [nI_add, nI_add]
    refine ⟨va, vp_in_nI (by omega) (by omega), vb, vp_in_nI (by omega) (by omega), ?_⟩
    rw [nI_clamp (by omega), nI_clamp (by omega)]
    refine br_c (fun y => nm_r (nI_1 j) (ih (j + 1) (by omega) (by omega) (fun i hi' => ?_))) (fun y => h0 (fun w' => y (w'.2 j (by omega))))
    by_cases z : i = j
    · rw [z]; exact y
    · exact hi i (by omega)
  exact loop _ 0 (by omega) (by omega) (fun i hi => absurd hi (by omega))
theorem xm_find {L n a : Nat} {post : Int32 → Prop} (hL : L ≤ 128) (hG : cq_G Xscript L n) (hn : n ≤ 16) (hT : tx_L Xscript L n Xverb XlabelStart XlabelSize) (ha : a < n) (ca : lb_c Xscript L a = 58 ∨ lb_c Xscript L a = 98 ∨ lb_c Xscript L a = 116) {p : Nat} (hp : p ≤ n)
    (h1 : ∀ m, p ≤ m → m < n → lb_c Xscript L m = 58 → lb_q Xscript L a m → (∀ j, p ≤ j → j < m → lb_c Xscript L j = 58 → ¬ lb_q Xscript L a j) → post (nI m))
    (h0 : (∀ j, p ≤ j → j < n → lb_c Xscript L j = 58 → ¬ lb_q Xscript L a j) → post (-1)) : wpX_findLabel post (Xquiet, Xfuel, XscriptSize, XinputSize, Xcursor, XitemCount, XtablePresent, nI n, XoutputSize, XpatternSize, XholdSize, XlineNumber, XstepCount, XnextLine, Xpointer, Xsubstituted, XresultSize, Xscript, Xinput, Xitems, Xverb, Xnegated, Xeverywhere, XlabelStart, XlabelSize, Xtarget, XreplacementStart, XreplacementEnd, Xreplacement, Xaddress, XstartAnchor, XendAnchor, XatomCount, XatomChar, XatomStarred, Xoutput, Xpattern, Xhold, XactivationLine, Xresult) (nI a) (nI p) := by
  unfold wpX_findLabel
  have loop : ∀ f m, n - m < f → p ≤ m → m ≤ n → (∀ j, p ≤ j → j < m → lb_c Xscript L j = 58 → ¬ lb_q Xscript L a j) → wX_findLabel_2 post (nI a) Xquiet Xfuel XscriptSize XinputSize Xcursor XitemCount XtablePresent (nI n) XoutputSize XpatternSize XholdSize XlineNumber XstepCount XnextLine Xpointer Xsubstituted XresultSize Xscript Xinput Xitems Xverb Xnegated Xeverywhere XlabelStart XlabelSize Xtarget XreplacementStart XreplacementEnd Xreplacement Xaddress XstartAnchor XendAnchor XatomCount XatomChar XatomStarred Xoutput Xpattern Xhold XactivationLine Xresult f (nI m) := by
    intro f
    induction f with
    | zero => intro m h; omega
    | succ f ih =>
    intro m hf hpm hm hj
    refine pk_le n m (fun w => h0 (fun j a b => hj j a (by omega))) (fun w => ⟨pk_in m 16 (by omega), ?_⟩)
    rw [nI_clamp (by omega), (hT m w).1]
    have nxt : (lb_c Xscript L m = 58 → ¬ lb_q Xscript L a m) → wX_findLabel_2 post (nI a) Xquiet Xfuel XscriptSize XinputSize Xcursor XitemCount XtablePresent (nI n) XoutputSize XpatternSize XholdSize XlineNumber XstepCount XnextLine Xpointer Xsubstituted XresultSize Xscript Xinput Xitems Xverb Xnegated Xeverywhere XlabelStart XlabelSize Xtarget XreplacementStart XreplacementEnd Xreplacement Xaddress XstartAnchor XendAnchor XatomCount XatomChar XatomStarred Xoutput Xpattern Xhold XactivationLine Xresult f (nI (m + 1)) := fun hh => ih (m + 1) (by omega) (by omega) (by omega) (fun j a b c => by
      by_cases z : j = m
      · rw [z] at c ⊢; exact hh c
      · exact hj j a (by omega) c)
    refine br_c (fun c => ?_) (fun c => nm_r (nI_1 m) (nxt (fun y => absurd y c)))
    refine xm_same hL hG hn hT ha w ca c (fun y => br_f (by decide) (h1 m hpm w c y hj)) (fun y => br_t rfl (nm_r (nI_1 m) (nxt (fun _ => y))))
  exact ⟨n - p + 1, loop _ p (by omega) (Nat.le_refl _) hp (fun j a b => absurd b (by omega))⟩
theorem xm_differ {L n : Nat} {post : Int32 → Prop} (hL : L ≤ 128) (hG : cq_G Xscript L n) (hn : n ≤ 16) (hT : tx_L Xscript L n Xverb XlabelStart XlabelSize)
    (h1 : lb_1 Xscript L n → post 1) (h0 : ¬ lb_1 Xscript L n → post 0) : wpX_labelsDiffer post (Xquiet, Xfuel, XscriptSize, XinputSize, Xcursor, XitemCount, XtablePresent, nI n, XoutputSize, XpatternSize, XholdSize, XlineNumber, XstepCount, XnextLine, Xpointer, Xsubstituted, XresultSize, Xscript, Xinput, Xitems, Xverb, Xnegated, Xeverywhere, XlabelStart, XlabelSize, Xtarget, XreplacementStart, XreplacementEnd, Xreplacement, Xaddress, XstartAnchor, XendAnchor, XatomCount, XatomChar, XatomStarred, Xoutput, Xpattern, Xhold, XactivationLine, Xresult) := by
  unfold wpX_labelsDiffer
  have loop : ∀ f m, n - m < f → m ≤ n → (∀ a b, a < m → b < n → a < b → lb_c Xscript L a = 58 → lb_c Xscript L b = 58 → ¬ lb_q Xscript L a b) → wX_labelsDiffer_2 post Xquiet Xfuel XscriptSize XinputSize Xcursor XitemCount XtablePresent (nI n) XoutputSize XpatternSize XholdSize XlineNumber XstepCount XnextLine Xpointer Xsubstituted XresultSize Xscript Xinput Xitems Xverb Xnegated Xeverywhere XlabelStart XlabelSize Xtarget XreplacementStart XreplacementEnd Xreplacement Xaddress XstartAnchor XendAnchor XatomCount XatomChar XatomStarred Xoutput Xpattern Xhold XactivationLine Xresult f (nI m) := by
    intro f
    induction f with
    | zero => intro m h; omega
    | succ f ih =>
    intro m hf hm hj
    refine pk_le n m (fun w => h1 (fun a b ha hb hab ca cb y => ?_)) (fun w => ⟨pk_in m 16 (by omega), ?_⟩)
    · rcases Nat.lt_or_ge a b with z | z
      · exact hj a b (by omega) hb z ca cb y
      · exact hj b a (by omega) ha (by omega) cb ca (lb_sym y)
    · rw [nI_clamp (by omega), (hT m w).1]
      refine br_c (fun c => ?_) (fun c => nm_r (nI_1 m) (ih (m + 1) (by omega) (by omega) (fun a b ha hb hab ca cb => ?_)))
      · rw [nI_1]
        refine xm_find hL hG hn hT w (Or.inl c) (by omega) (fun b hb1 hb2 cb y _ => br_f (fun e => ?_) (h0 (fun z => z m b w hb2 (by omega) c cb y))) (fun hh => br_t rfl (nm_e (ih (m + 1) (by omega) (by omega) (fun a b ha hb hab ca cb => ?_))))
        · exact absurd (nI_pos (n := b) (by omega)) (by rw [e]; exact fun q => q (by decide))
        · by_cases z : a = m
          · rw [z]; exact hh b (by omega) hb cb
          · exact hj a b (by omega) hb hab ca cb
      · by_cases z : a = m
        · rw [z] at ca; exact absurd ca c
        · exact hj a b (by omega) hb hab ca cb
  exact ⟨n + 1, loop _ 0 (by omega) (by omega) (fun a b ha => absurd ha (by omega))⟩
theorem xm_targets {L n : Nat} {post : Int32 → SX → Prop} (hL : L ≤ 128) (hG : cq_G Xscript L n) (hn : n ≤ 16) (hT : tx_L Xscript L n Xverb XlabelStart XlabelSize)
    (h1 : lb_2 Xscript L n → ∀ tg, (∀ a, a < n → (lb_c Xscript L a = 98 ∨ lb_c Xscript L a = 116) → ∃ t, tg a = nI t ∧ lb_t Xscript L n a t) → post 1 (Xquiet, Xfuel, XscriptSize, XinputSize, Xcursor, XitemCount, XtablePresent, nI n, XoutputSize, XpatternSize, XholdSize, XlineNumber, XstepCount, XnextLine, Xpointer, Xsubstituted, XresultSize, Xscript, Xinput, Xitems, Xverb, Xnegated, Xeverywhere, XlabelStart, XlabelSize, tg, XreplacementStart, XreplacementEnd, Xreplacement, Xaddress, XstartAnchor, XendAnchor, XatomCount, XatomChar, XatomStarred, Xoutput, Xpattern, Xhold, XactivationLine, Xresult)) (h0 : ¬ lb_2 Xscript L n → ∀ tg, post 0 (Xquiet, Xfuel, XscriptSize, XinputSize, Xcursor, XitemCount, XtablePresent, nI n, XoutputSize, XpatternSize, XholdSize, XlineNumber, XstepCount, XnextLine, Xpointer, Xsubstituted, XresultSize, Xscript, Xinput, Xitems, Xverb, Xnegated, Xeverywhere, XlabelStart, XlabelSize, tg, XreplacementStart, XreplacementEnd, Xreplacement, Xaddress, XstartAnchor, XendAnchor, XatomCount, XatomChar, XatomStarred, Xoutput, Xpattern, Xhold, XactivationLine, Xresult)) : wpX_findTargets post (Xquiet, Xfuel, XscriptSize, XinputSize, Xcursor, XitemCount, XtablePresent, nI n, XoutputSize, XpatternSize, XholdSize, XlineNumber, XstepCount, XnextLine, Xpointer, Xsubstituted, XresultSize, Xscript, Xinput, Xitems, Xverb, Xnegated, Xeverywhere, XlabelStart, XlabelSize, Xtarget, XreplacementStart, XreplacementEnd, Xreplacement, Xaddress, XstartAnchor, XendAnchor, XatomCount, XatomChar, XatomStarred, Xoutput, Xpattern, Xhold, XactivationLine, Xresult) := by
  unfold wpX_findTargets
  have loop : ∀ f m tg, n - m < f → m ≤ n → (∀ a, a < m → (lb_c Xscript L a = 98 ∨ lb_c Xscript L a = 116) → ∃ t, tg a = nI t ∧ lb_t Xscript L n a t) → wX_findTargets_2 post Xquiet Xfuel XscriptSize XinputSize Xcursor XitemCount XtablePresent (nI n) XoutputSize XpatternSize XholdSize XlineNumber XstepCount XnextLine Xpointer Xsubstituted XresultSize f (nI m) Xscript Xinput Xitems Xverb Xnegated Xeverywhere XlabelStart XlabelSize tg XreplacementStart XreplacementEnd Xreplacement Xaddress XstartAnchor XendAnchor XatomCount XatomChar XatomStarred Xoutput Xpattern Xhold XactivationLine Xresult := by
    intro f
    induction f with
    | zero => intro m tg h; omega
    | succ f ih =>
    intro m tg hf hm hj
    refine pk_le n m (fun w => h1 (fun a ha ca hl => ?_) tg (fun a ha => hj a (by omega))) (fun w => ⟨pk_in m 16 (by omega), ?_⟩)
    · obtain ⟨t, _, ht⟩ := hj a (by omega) ca
      rcases ht with ⟨y, _⟩ | ⟨_, y1, y2, y3, _⟩
      · exact absurd y hl
      · exact ⟨t, y1, y2, y3⟩
    · have vm : vp_in (nI m) 16 := pk_in m 16 (by omega)
      have h59 : ∀ t, lb_t Xscript L n m t → wX_findTargets_59 post (wX_findTargets_2 post Xquiet Xfuel XscriptSize XinputSize Xcursor XitemCount XtablePresent (nI n) XoutputSize XpatternSize XholdSize XlineNumber XstepCount XnextLine Xpointer Xsubstituted XresultSize f) (nI m) (nI t) (nI m) Xquiet Xfuel XscriptSize XinputSize Xcursor XitemCount XtablePresent (nI n) XoutputSize XpatternSize XholdSize XlineNumber XstepCount XnextLine Xpointer Xsubstituted XresultSize Xscript Xinput Xitems Xverb Xnegated Xeverywhere XlabelStart XlabelSize tg XreplacementStart XreplacementEnd Xreplacement Xaddress XstartAnchor XendAnchor XatomCount XatomChar XatomStarred Xoutput Xpattern Xhold XactivationLine Xresult := by
        intro t ht
        refine ⟨vm, nm_e ⟨vm, ?_⟩⟩
        rw [nI_clamp (by omega), pk_us]
        have hb : t ≤ 16 := by
          rcases ht with ⟨_, y⟩ | ⟨_, y, _⟩ <;> omega
        refine br_f (fun e => absurd (nI_pos (n := t) (by omega)) (by rw [e]; exact fun q => q (by decide))) (nm_r (nI_1 m) (ih (m + 1) _ (by omega) (by omega) (fun a ha ca => ?_)))
        by_cases z : a = m
        · rw [z, pk_us]; exact ⟨t, rfl, ht⟩
        · rw [pk_un z]; exact hj a (by omega) ca
      have h32 : (lb_c Xscript L m = 98 ∨ lb_c Xscript L m = 116) → wX_findTargets_32 post (wX_findTargets_2 post Xquiet Xfuel XscriptSize XinputSize Xcursor XitemCount XtablePresent (nI n) XoutputSize XpatternSize XholdSize XlineNumber XstepCount XnextLine Xpointer Xsubstituted XresultSize f) (nI m) Xquiet Xfuel XscriptSize XinputSize Xcursor XitemCount XtablePresent (nI n) XoutputSize XpatternSize XholdSize XlineNumber XstepCount XnextLine Xpointer Xsubstituted XresultSize Xscript Xinput Xitems Xverb Xnegated Xeverywhere XlabelStart XlabelSize tg XreplacementStart XreplacementEnd Xreplacement Xaddress XstartAnchor XendAnchor XatomCount XatomChar XatomStarred Xoutput Xpattern Xhold XactivationLine Xresult := by
        intro c
        refine ⟨vm, ?_⟩
        rw [nI_clamp (by omega), ((hT m w).2 (Or.inr c)).2]
        have fm := lb_f hG w
        refine pk_eq (lb_l Xscript L m) 0 (fun e => h59 n (Or.inl ⟨e, rfl⟩)) (fun e => ?_)
        refine xm_find (p := 0) hL hG hn hT w (Or.inr c) (by omega) (fun b _ hb2 cb y hh => h59 b (Or.inr ⟨e, hb2, cb, y, fun j hj' cj => hh j (by omega) hj' cj⟩)) (fun hh => ?_)
        refine ⟨vm, nm_e ⟨vm, ?_⟩⟩
        rw [nI_clamp (by omega), pk_us]
        refine br_t rfl (h0 (fun z => ?_) _)
        obtain ⟨b, y1, y2, y3⟩ := z m w c e
        exact hh b (by omega) y1 y2 y3
      rw [nI_clamp (by omega), (hT m w).1]
      refine br_c (fun c => h32 (Or.inl c)) (fun c => ⟨vm, br_c (fun c' => h32 (Or.inr c')) (fun c' => nm_r (nI_1 m) (ih (m + 1) _ (by omega) (by omega) (fun a ha ca => ?_)))⟩)
      by_cases z : a = m
      · rw [z] at ca
        rcases ca with y | y
        · exact absurd y c
        · exact absurd y c'
      · exact hj a (by omega) ca
  exact ⟨n + 1, loop _ 0 _ (by omega) (by omega) (fun a ha => absurd ha (by omega))⟩
end SQ_2
end
section
/-! X's compile -/
section XC_1
variable {Xquiet Xfuel XscriptSize XinputSize Xcursor XitemCount XtablePresent XcommandCount XoutputSize XpatternSize XholdSize XlineNumber XstepCount XnextLine Xpointer Xsubstituted XresultSize : Int32} {Xscript Xinput Xitems Xverb Xnegated Xeverywhere XlabelStart XlabelSize Xtarget XreplacementStart XreplacementEnd Xreplacement Xaddress XstartAnchor XendAnchor XatomCount XatomChar XatomStarred Xoutput Xpattern Xhold XactivationLine Xresult : Nat → Int32}
theorem tx_TL {s : Nat → Int32} {L n : Nat} {vb ng ev lst lsz rst ren rep adr sa ea ac ach ast : Nat → Int32} (h : tx_T s L n vb ng ev lst lsz rst ren rep adr sa ea ac ach ast) : tx_L s L n vb lst lsz := fun k hk => ⟨(h k hk).1, (h k hk).2.2.2.2.2⟩
/-- one more command -/
theorem tx_Ts {L k : Nat} {s a_vb a_ng a_ev a_lst a_lsz a_rst a_ren a_rep a_adr a_sa a_ea a_ac a_ach a_ast ng ev lst lsz rst ren rep adr1 sa1 ea1 ac1 ach1 ast1 sa ea ac ach ast : Nat → Int32} {a : Nat × (Nat × Int32) × (Nat × Int32) × Int32 × Nat} {b : (Nat × Nat) × (Nat × Nat × Nat × Int32) × Nat}
    (hG : cq_G s L k) (hq : cq_Q s L k < L) (hca : cm_a s L (cq_Q s L k) = some a) (hx : cm_x s L (cq_Q s L k) = some (a, s a.2.2.2.2, b, cm_sk s L b.2.2))
    (hT : tx_T s L k a_vb a_ng a_ev a_lst a_lsz a_rst a_ren a_rep a_adr a_sa a_ea a_ac a_ach a_ast)
    (n1 : ng k = a.2.2.2.1) (n2 : ∀ i, ¬ i = k → ng i = a_ng i) (A1 : tb_A s L adr1 sa1 ea1 ac1 ach1 ast1 (k * 3) a.2.1.1 a.2.1.2) (A2 : tb_A s L adr1 sa1 ea1 ac1 ach1 ast1 (k * 3 + 1) a.2.2.1.1 a.2.2.1.2) (F1 : xf_B k a_adr a_sa a_ea a_ac a_ach a_ast adr1 sa1 ea1 ac1 ach1 ast1)
    (H : xv_H s L k a.2.2.2.2 b a_ev a_lst a_lsz a_rst a_ren a_rep adr1 sa1 ea1 ac1 ach1 ast1 ev lst lsz rst ren rep sa ea ac ach ast) :
    tx_T s L (k + 1) (upd a_vb k (s a.2.2.2.2)) ng ev lst lsz rst ren rep adr1 sa ea ac ach ast := by
  have ha := cm_a_f (Nat.le_of_lt hq) hca
  obtain ⟨v1, v2, v3, v4, v5⟩ := H
  have F2 := xf_BB F1 (xf_AB (k := k) (by omega) v5)
  intro j hj
  by_cases z : j = k
  · subst z
    rw [(cq_s hx).1]
    refine ⟨pk_us, n1, ?_, ?_, v1, v2⟩
    · have w := v5.1 (j * 3) (by omega)
      exact tb_A_fr w.1 w.2.1 w.2.2.1 w.2.2.2 (fun x h1 h2 => v5.2 x (Or.inl (by omega))) A1
    · have w := v5.1 (j * 3 + 1) (by omega)
      exact tb_A_fr w.1 w.2.1 w.2.2.1 w.2.2.2 (fun x h1 h2 => v5.2 x (Or.inl (by omega))) A2
  · have hj2 : j < k := by omega
    refine tb_X_fr (c := k) (q := a.2.2.2.2) ⟨fun i hi => ?_, fun i hi => v4 i hi, F2.1, F2.2⟩ hj2 ?_ (hT j hj2)
    · have w := v3 i (by omega)
      exact ⟨pk_un (by omega), n2 i (by omega), w.1, w.2.1, w.2.2.1, w.2.2.2.1, w.2.2.2.2⟩
    · obtain ⟨g1, g2⟩ := hG j hj2
      have f := cm_x_f (Nat.le_of_lt g1) g2
      have m := cq_mono k hG j hj2
      omega
/-- what X's compile leaves -/
def xc_K (u : SX) : Int32 × Int32 × Int32 × Int32 × Int32 × Int32 × Int32 × Int32 × Int32 × (Nat → Int32) × (Nat → Int32) × (Nat → Int32) × (Nat → Int32) × (Nat → Int32) := match u with
  | (Xquiet, Xfuel, XscriptSize, XinputSize, Xcursor, XitemCount, XtablePresent, XcommandCount, XoutputSize, XpatternSize, XholdSize, XlineNumber, XstepCount, XnextLine, Xpointer, Xsubstituted, XresultSize, Xscript, Xinput, Xitems, Xverb, Xnegated, Xeverywhere, XlabelStart, XlabelSize, Xtarget, XreplacementStart, XreplacementEnd, Xreplacement, Xaddress, XstartAnchor, XendAnchor, XatomCount, XatomChar, XatomStarred, Xoutput, Xpattern, Xhold, XactivationLine, Xresult) => (Xquiet, Xfuel, XscriptSize, XinputSize, XoutputSize, XpatternSize, XholdSize, XlineNumber, XstepCount, Xscript, Xinput, Xoutput, Xpattern, Xhold)
def xc_t (u : SX) : Int32 := match u with
  | (Xquiet, Xfuel, XscriptSize, XinputSize, Xcursor, XitemCount, XtablePresent, XcommandCount, XoutputSize, XpatternSize, XholdSize, XlineNumber, XstepCount, XnextLine, Xpointer, Xsubstituted, XresultSize, Xscript, Xinput, Xitems, Xverb, Xnegated, Xeverywhere, XlabelStart, XlabelSize, Xtarget, XreplacementStart, XreplacementEnd, Xreplacement, Xaddress, XstartAnchor, XendAnchor, XatomCount, XatomChar, XatomStarred, Xoutput, Xpattern, Xhold, XactivationLine, Xresult) => XtablePresent
theorem xm_104 {L n : Nat} {post : Int32 → SX → Prop} (hL : L ≤ 128) (hN : cq_N Xscript L n) (hT : tx_T Xscript L n Xverb Xnegated Xeverywhere XlabelStart XlabelSize XreplacementStart XreplacementEnd Xreplacement Xaddress XstartAnchor XendAnchor XatomCount XatomChar XatomStarred)
    (hg : lb_1 Xscript L n → lb_2 Xscript L n → ∀ tg, (∀ a, a < n → (lb_c Xscript L a = 98 ∨ lb_c Xscript L a = 116) → ∃ t, tg a = nI t ∧ lb_t Xscript L n a t) → post (nI n) (Xquiet, Xfuel, nI L, XinputSize, Xcursor, XitemCount, 1, nI n, XoutputSize, XpatternSize, XholdSize, XlineNumber, XstepCount, XnextLine, Xpointer, Xsubstituted, XresultSize, Xscript, Xinput, Xitems, Xverb, Xnegated, Xeverywhere, XlabelStart, XlabelSize, tg, XreplacementStart, XreplacementEnd, Xreplacement, Xaddress, XstartAnchor, XendAnchor, XatomCount, XatomChar, XatomStarred, Xoutput, Xpattern, Xhold, XactivationLine, Xresult))
    (hb : ¬ (lb_1 Xscript L n ∧ lb_2 Xscript L n) → ∀ tg, post (-1) (Xquiet, Xfuel, nI L, XinputSize, Xcursor, XitemCount, XtablePresent, nI n, XoutputSize, XpatternSize, XholdSize, XlineNumber, XstepCount, XnextLine, Xpointer, Xsubstituted, XresultSize, Xscript, Xinput, Xitems, Xverb, Xnegated, Xeverywhere, XlabelStart, XlabelSize, tg, XreplacementStart, XreplacementEnd, Xreplacement, Xaddress, XstartAnchor, XendAnchor, XatomCount, XatomChar, XatomStarred, Xoutput, Xpattern, Xhold, XactivationLine, Xresult)) :
    wX_compile_104 post 1 Xquiet Xfuel (nI L) XinputSize Xcursor XitemCount XtablePresent (nI n) XoutputSize XpatternSize XholdSize XlineNumber XstepCount XnextLine Xpointer Xsubstituted XresultSize Xscript Xinput Xitems Xverb Xnegated Xeverywhere XlabelStart XlabelSize Xtarget XreplacementStart XreplacementEnd Xreplacement Xaddress XstartAnchor XendAnchor XatomCount XatomChar XatomStarred Xoutput Xpattern Xhold XactivationLine Xresult := by
  obtain ⟨g1, g2, g3⟩ := hN
  refine br_f (by decide) ?_
  refine xm_differ hL g1 g3 (tx_TL hT) (fun h1 => br_f (by decide) ?_) (fun h1 => br_t rfl (hb (fun y => h1 y.1) _))
  exact xm_targets hL g1 g3 (tx_TL hT) (fun h2 tg htg => br_f (by decide) (hg h1 h2 tg htg)) (fun h2 tg => br_t rfl (hb (fun y => h2 y.2) tg))
theorem xm_23 {L : Nat} {post : Int32 → SX → Prop} (hL : L ≤ 128) (hc : ch_ok Xscript L)
    (hg : ∀ n u, cq_N Xscript L n → lb_1 Xscript L n → lb_2 Xscript L n → (match u with | (Xquiet1, Xfuel1, XscriptSize1, XinputSize1, Xcursor1, XitemCount1, XtablePresent1, XcommandCount1, XoutputSize1, XpatternSize1, XholdSize1, XlineNumber1, XstepCount1, XnextLine1, Xpointer1, Xsubstituted1, XresultSize1, Xscript1, Xinput1, Xitems1, Xverb1, Xnegated1, Xeverywhere1, XlabelStart1, XlabelSize1, Xtarget1, XreplacementStart1, XreplacementEnd1, Xreplacement1, Xaddress1, XstartAnchor1, XendAnchor1, XatomCount1, XatomChar1, XatomStarred1, Xoutput1, Xpattern1, Xhold1, XactivationLine1, Xresult1) => xc_K u = xc_K (Xquiet, Xfuel, nI L, XinputSize, Xcursor, XitemCount, XtablePresent, XcommandCount, XoutputSize, XpatternSize, XholdSize, XlineNumber, XstepCount, XnextLine, Xpointer, Xsubstituted, XresultSize, Xscript, Xinput, Xitems, Xverb, Xnegated, Xeverywhere, XlabelStart, XlabelSize, Xtarget, XreplacementStart, XreplacementEnd, Xreplacement, Xaddress, XstartAnchor, XendAnchor, XatomCount, XatomChar, XatomStarred, Xoutput, Xpattern, Xhold, XactivationLine, Xresult) ∧ XtablePresent1 = 1 ∧ XcommandCount1 = nI n ∧ tx_T Xscript L n Xverb1 Xnegated1 Xeverywhere1 XlabelStart1 XlabelSize1 XreplacementStart1 XreplacementEnd1 Xreplacement1 Xaddress1 XstartAnchor1 XendAnchor1 XatomCount1 XatomChar1 XatomStarred1 ∧ (∀ a, a < n → (lb_c Xscript L a = 98 ∨ lb_c Xscript L a = 116) → ∃ t, Xtarget1 a = nI t ∧ lb_t Xscript L n a t)) → post (nI n) u)
    (hb : (∀ n, cq_N Xscript L n → ¬ (lb_1 Xscript L n ∧ lb_2 Xscript L n)) → ∀ u, xc_K u = xc_K (Xquiet, Xfuel, nI L, XinputSize, Xcursor, XitemCount, XtablePresent, XcommandCount, XoutputSize, XpatternSize, XholdSize, XlineNumber, XstepCount, XnextLine, Xpointer, Xsubstituted, XresultSize, Xscript, Xinput, Xitems, Xverb, Xnegated, Xeverywhere, XlabelStart, XlabelSize, Xtarget, XreplacementStart, XreplacementEnd, Xreplacement, Xaddress, XstartAnchor, XendAnchor, XatomCount, XatomChar, XatomStarred, Xoutput, Xpattern, Xhold, XactivationLine, Xresult) → xc_t u = 0 → post (-1) u) :
    ∀ f k, 17 - k < f → k ≤ 16 → cq_G Xscript L k → ∀ Xcursor XitemCount Xitems Xverb Xnegated Xeverywhere XlabelStart XlabelSize Xtarget XreplacementStart XreplacementEnd Xreplacement Xaddress XstartAnchor XendAnchor XatomCount XatomChar XatomStarred, Xcursor = nI (cq_Q Xscript L k) → tx_T Xscript L k Xverb Xnegated Xeverywhere XlabelStart XlabelSize XreplacementStart XreplacementEnd Xreplacement Xaddress XstartAnchor XendAnchor XatomCount XatomChar XatomStarred → wX_compile_23 post f 1 (nI k) Xquiet Xfuel (nI L) XinputSize Xcursor XitemCount 0 (nI k) XoutputSize XpatternSize XholdSize XlineNumber XstepCount XnextLine Xpointer Xsubstituted XresultSize Xscript Xinput Xitems Xverb Xnegated Xeverywhere XlabelStart XlabelSize Xtarget XreplacementStart XreplacementEnd Xreplacement Xaddress XstartAnchor XendAnchor XatomCount XatomChar XatomStarred Xoutput Xpattern Xhold XactivationLine Xresult := by
  intro f
  induction f with
  | zero => intro k h; omega
  | succ f ih =>
  intro k hf hk hG Xcursor XitemCount Xitems Xverb Xnegated Xeverywhere XlabelStart XlabelSize Xtarget XreplacementStart XreplacementEnd Xreplacement Xaddress XstartAnchor XendAnchor XatomCount XatomChar XatomStarred hcur hT
  subst hcur
  have hQ := cq_Q_le Xscript L k
  refine br_f (nI_nlt (a := 16) (b := k) hk (by decide)) (br_f (by decide) (pk_le L (cq_Q Xscript L k) (fun w => ?_) (fun w => ?_)))
  · refine xm_104 hL ⟨hG, w, hk⟩ hT (fun h1 h2 tg htg => ?_) (fun hn tg => ?_)
    · exact hg k _ ⟨hG, w, hk⟩ h1 h2 ⟨rfl, rfl, rfl, hT, htg⟩
    · refine hb (fun n' hn' => ?_) _ rfl rfl
      have e : n' = k := by
        rcases Nat.lt_trichotomy n' k with z | z | z
        · have := (hG n' z).1; have := hn'.2.1; omega
        · exact z
        · have := (hn'.1 k z).1; omega
      rw [e]; exact hn
  · have fail : ∀ u : SX, (∀ n, ¬ cq_N Xscript L n) → xk_p u = (Xquiet, Xfuel, nI L, XinputSize, 0, nI k, XoutputSize, XpatternSize, XholdSize, XlineNumber, XstepCount, Xscript, Xinput, Xoutput, Xpattern, Xhold) → match u with | (Xquiet1, Xfuel1, XscriptSize1, XinputSize1, Xcursor1, XitemCount1, XtablePresent1, XcommandCount1, XoutputSize1, XpatternSize1, XholdSize1, XlineNumber1, XstepCount1, XnextLine1, Xpointer1, Xsubstituted1, XresultSize1, Xscript1, Xinput1, Xitems1, Xverb1, Xnegated1, Xeverywhere1, XlabelStart1, XlabelSize1, Xtarget1, XreplacementStart1, XreplacementEnd1, Xreplacement1, Xaddress1, XstartAnchor1, XendAnchor1, XatomCount1, XatomChar1, XatomStarred1, Xoutput1, Xpattern1, Xhold1, XactivationLine1, Xresult1) => wX_compile_78 post (wX_compile_23 post f) (nI k) Xquiet1 Xfuel1 XscriptSize1 XinputSize1 Xcursor1 XitemCount1 XtablePresent1 XcommandCount1 XoutputSize1 XpatternSize1 XholdSize1 XlineNumber1 XstepCount1 XnextLine1 Xpointer1 Xsubstituted1 XresultSize1 Xscript1 Xinput1 Xitems1 Xverb1 Xnegated1 Xeverywhere1 XlabelStart1 XlabelSize1 Xtarget1 XreplacementStart1 XreplacementEnd1 Xreplacement1 Xaddress1 XstartAnchor1 XendAnchor1 XatomCount1 XatomChar1 XatomStarred1 Xoutput1 Xpattern1 Xhold1 XactivationLine1 Xresult1 := by
      intro u hn hu
      obtain ⟨Xquiet1, Xfuel1, XscriptSize1, XinputSize1, Xcursor1, XitemCount1, XtablePresent1, XcommandCount1, XoutputSize1, XpatternSize1, XholdSize1, XlineNumber1, XstepCount1, XnextLine1, Xpointer1, Xsubstituted1, XresultSize1, Xscript1, Xinput1, Xitems1, Xverb1, Xnegated1, Xeverywhere1, XlabelStart1, XlabelSize1, Xtarget1, XreplacementStart1, XreplacementEnd1, Xreplacement1, Xaddress1, XstartAnchor1, XendAnchor1, XatomCount1, XatomChar1, XatomStarred1, Xoutput1, Xpattern1, Xhold1, XactivationLine1, Xresult1⟩ := u
      refine br_t rfl (nm_r (nI_1 k) ?_)
      have hp : post (-1) (Xquiet1, Xfuel1, XscriptSize1, XinputSize1, Xcursor1, XitemCount1, XtablePresent1, XcommandCount1, XoutputSize1, XpatternSize1, XholdSize1, XlineNumber1, XstepCount1, XnextLine1, Xpointer1, Xsubstituted1, XresultSize1, Xscript1, Xinput1, Xitems1, Xverb1, Xnegated1, Xeverywhere1, XlabelStart1, XlabelSize1, Xtarget1, XreplacementStart1, XreplacementEnd1, Xreplacement1, Xaddress1, XstartAnchor1, XendAnchor1, XatomCount1, XatomChar1, XatomStarred1, Xoutput1, Xpattern1, Xhold1, XactivationLine1, Xresult1) := by
        refine hb (fun n h => absurd h (hn n)) _ ?_ ?_
        · unfold xk_p at hu
          unfold xc_K
          simp only [Prod.mk.injEq] at hu ⊢
          obtain ⟨u1, u2, u3, u4, u5, u6, u7, u8, u9, u10, u11, u12, u13, u14, u15, u16⟩ := hu
          exact ⟨u1, u2, u3, u4, u7, u8, u9, u10, u11, u12, u13, u14, u15, u16⟩
        · unfold xk_p at hu
          simp only [Prod.mk.injEq] at hu
          exact hu.2.2.2.2.1
      cases f with
      | zero => omega
      | succ f =>
        refine br_c (fun _ => br_t rfl hp) (fun _ => br_t rfl (br_t rfl hp))
    refine pk_le 16 k (fun w16 => ?_) (fun w16 => ?_)
    · exact fail (Xquiet, Xfuel, nI L, XinputSize, nI (cq_Q Xscript L k), XitemCount, 0, nI k, XoutputSize, XpatternSize, XholdSize, XlineNumber, XstepCount, XnextLine, Xpointer, Xsubstituted, XresultSize, Xscript, Xinput, Xitems, Xverb, Xnegated, Xeverywhere, XlabelStart, XlabelSize, Xtarget, XreplacementStart, XreplacementEnd, Xreplacement, Xaddress, XstartAnchor, XendAnchor, XatomCount, XatomChar, XatomStarred, Xoutput, Xpattern, Xhold, XactivationLine, Xresult) (cq_b16 hG w w16) rfl
    · refine xm_addrPart hL hc (by omega) w ?_ ?_
      · intro a it ic ng adr sa ea ac ach ast hca n1 n2 A1 A2 F1
        have fa := cm_a_f hQ hca
        have hna : adr (k * 3) = 0 ↔ a.1 = 0 := by
          have t : (a.1 = 0 ∧ a.2.1.1 = 0) ∨ (¬ a.1 = 0 ∧ ¬ a.2.1.1 = 0) := by
            unfold cm_a at hca
            split at hca
            · cases e : ad_x Xscript L (cq_Q Xscript L k) with
              | none => rw [e] at hca; exact absurd hca (by simp)
              | some a0 =>
                rw [e] at hca
                have nz : ¬ a0.1 = 0 := by
                  unfold ad_x at e
                  split at e
                  · exact absurd e (by simp)
                  · split at e
                    · rw [← Option.some.inj e]; exact (by decide : ¬ (2 : Nat) = 0)
                    · split at e
                      · cases e2 : rg_x Xscript L (cq_Q Xscript L k + 1) with
                        | none => rw [e2] at e; exact absurd e (by simp)
                        | some r => rw [e2] at e; rw [← Option.some.inj e]; exact (by decide : ¬ (3 : Nat) = 0)
                      · split at e
                        · cases e2 : nu_x Xscript L (cq_Q Xscript L k) with
                          | none => rw [e2] at e; exact absurd e (by simp)
                          | some r => rw [e2] at e; rw [← Option.some.inj e]; exact (by decide : ¬ (1 : Nat) = 0)
                        · exact absurd e (by simp)
                dsimp only [Option.bind] at hca
                split at hca
                · cases e3 : ad_x Xscript L (cm_sk Xscript L (cm_sk Xscript L a0.2.2 + 1)) with
                  | none => rw [e3] at hca; exact absurd hca (by simp)
                  | some b0 => rw [e3] at hca; rw [← Option.some.inj hca]; exact Or.inr ⟨(by decide : ¬ (2 : Nat) = 0), nz⟩
                · rw [← Option.some.inj hca]; exact Or.inr ⟨(by decide : ¬ (1 : Nat) = 0), nz⟩
            · rw [← Option.some.inj hca]; exact Or.inl ⟨rfl, rfl⟩
          rcases t with ⟨t1, t2⟩ | ⟨t1, t2⟩
          · rcases A1 with ⟨_, y⟩ | ⟨y, _⟩ | ⟨y, _⟩ | ⟨y, _⟩
            · exact ⟨fun _ => t1, fun _ => y⟩
            · omega
            · omega
            · omega
          · refine ⟨fun y => ?_, fun y => absurd y t1⟩
            rcases A1 with ⟨y0, _⟩ | ⟨_, y1, m, m1, m2, y2⟩ | ⟨_, y1⟩ | ⟨_, y1, _⟩
            · exact absurd y0 t2
            · rw [y1, y2] at y; exact absurd y (nI_ne0 (by omega) (by omega))
            · rw [y1] at y; exact absurd y (by decide)
            · rw [y1] at y; exact absurd y (by decide)
        refine br_f (by decide) ?_
        refine xm_verb hL hc (by omega) fa.2 hna ?_ ?_
        · intro b it' ic' ev lst lsz rst ren rep sa' ea' ac' ach' ast' hcb hlt H
          have fb := cm_b_f hcb
          refine br_f (by decide) ?_
          refine xm_cmdEnd (k := k) hL hc fb.2 ?_ ?_
          · intro hw
            have hx : cm_x Xscript L (cq_Q Xscript L k) = some (a, Xscript a.2.2.2.2, b, cm_sk Xscript L b.2.2) := by
              unfold cm_x
              rw [hca]
              dsimp only [Option.bind]
              rw [hcb]
              exact if_neg hw
            have fs := cm_sk_f (s := Xscript) fb.2
            refine br_f (by decide) (br_f (by decide) (nm_r (nI_1 k) ?_))
            refine xm_skipSep hL fs.2 ?_
            refine nm_r (nI_1 k) ?_
            exact ih (k + 1) (by omega) (by omega) (cq_Gs hG w hx) _ _ _ _ _ _ _ _ _ _ _ _ _ _ _ _ _ _ (by rw [(cq_s hx).2]) (tx_Ts hG w hca hx hT n1 n2 A1 A2 F1 H)
          · intro hw
            refine br_t rfl ?_
            refine fail (Xquiet, Xfuel, nI L, XinputSize, nI (cm_sk Xscript L b.2.2), ic', 0, nI k, XoutputSize, XpatternSize, XholdSize, XlineNumber, XstepCount, XnextLine, Xpointer, Xsubstituted, XresultSize, Xscript, Xinput, it', upd Xverb k (Xscript a.2.2.2.2), ng, ev, lst, lsz, Xtarget, rst, ren, rep, adr, sa', ea', ac', ach', ast', Xoutput, Xpattern, Xhold, XactivationLine, Xresult) (cq_bx hG w ?_) rfl
            unfold cm_x
            rw [hca]
            dsimp only [Option.bind]
            rw [hcb]
            exact if_pos hw
        · intro hcb v hv
          obtain ⟨Xquiet2, Xfuel2, XscriptSize2, XinputSize2, Xcursor2, XitemCount2, XtablePresent2, XcommandCount2, XoutputSize2, XpatternSize2, XholdSize2, XlineNumber2, XstepCount2, XnextLine2, Xpointer2, Xsubstituted2, XresultSize2, Xscript2, Xinput2, Xitems2, Xverb2, Xnegated2, Xeverywhere2, XlabelStart2, XlabelSize2, Xtarget2, XreplacementStart2, XreplacementEnd2, Xreplacement2, Xaddress2, XstartAnchor2, XendAnchor2, XatomCount2, XatomChar2, XatomStarred2, Xoutput2, Xpattern2, Xhold2, XactivationLine2, Xresult2⟩ := v
          refine br_t rfl ?_
          refine fail (Xquiet2, Xfuel2, XscriptSize2, XinputSize2, Xcursor2, XitemCount2, XtablePresent2, XcommandCount2, XoutputSize2, XpatternSize2, XholdSize2, XlineNumber2, XstepCount2, XnextLine2, Xpointer2, Xsubstituted2, XresultSize2, Xscript2, Xinput2, Xitems2, Xverb2, Xnegated2, Xeverywhere2, XlabelStart2, XlabelSize2, Xtarget2, XreplacementStart2, XreplacementEnd2, Xreplacement2, Xaddress2, XstartAnchor2, XendAnchor2, XatomCount2, XatomChar2, XatomStarred2, Xoutput2, Xpattern2, Xhold2, XactivationLine2, Xresult2) (cq_bx hG w ?_) hv
          unfold cm_x
          rw [hca]
          dsimp only [Option.bind]
          rw [hcb]
      · intro hca v hv
        obtain ⟨Xquiet2, Xfuel2, XscriptSize2, XinputSize2, Xcursor2, XitemCount2, XtablePresent2, XcommandCount2, XoutputSize2, XpatternSize2, XholdSize2, XlineNumber2, XstepCount2, XnextLine2, Xpointer2, Xsubstituted2, XresultSize2, Xscript2, Xinput2, Xitems2, Xverb2, Xnegated2, Xeverywhere2, XlabelStart2, XlabelSize2, Xtarget2, XreplacementStart2, XreplacementEnd2, Xreplacement2, Xaddress2, XstartAnchor2, XendAnchor2, XatomCount2, XatomChar2, XatomStarred2, Xoutput2, Xpattern2, Xhold2, XactivationLine2, Xresult2⟩ := v
        refine br_t rfl ?_
        refine fail (Xquiet2, Xfuel2, XscriptSize2, XinputSize2, Xcursor2, XitemCount2, XtablePresent2, XcommandCount2, XoutputSize2, XpatternSize2, XholdSize2, XlineNumber2, XstepCount2, XnextLine2, Xpointer2, Xsubstituted2, XresultSize2, Xscript2, Xinput2, Xitems2, Xverb2, Xnegated2, Xeverywhere2, XlabelStart2, XlabelSize2, Xtarget2, XreplacementStart2, XreplacementEnd2, Xreplacement2, Xaddress2, XstartAnchor2, XendAnchor2, XatomCount2, XatomChar2, XatomStarred2, Xoutput2, Xpattern2, Xhold2, XactivationLine2, Xresult2) (cq_bx hG w ?_) hv
        unfold cm_x
        rw [hca]
        rfl
theorem xm_compile {L : Nat} {post : Int32 → SX → Prop} (hL : L ≤ 128) (hc : ch_ok Xscript L)
    (hg : ∀ n u, cq_N Xscript L n → lb_1 Xscript L n → lb_2 Xscript L n → (match u with | (Xquiet1, Xfuel1, XscriptSize1, XinputSize1, Xcursor1, XitemCount1, XtablePresent1, XcommandCount1, XoutputSize1, XpatternSize1, XholdSize1, XlineNumber1, XstepCount1, XnextLine1, Xpointer1, Xsubstituted1, XresultSize1, Xscript1, Xinput1, Xitems1, Xverb1, Xnegated1, Xeverywhere1, XlabelStart1, XlabelSize1, Xtarget1, XreplacementStart1, XreplacementEnd1, Xreplacement1, Xaddress1, XstartAnchor1, XendAnchor1, XatomCount1, XatomChar1, XatomStarred1, Xoutput1, Xpattern1, Xhold1, XactivationLine1, Xresult1) => xc_K u = xc_K (Xquiet, Xfuel, nI L, XinputSize, Xcursor, XitemCount, XtablePresent, XcommandCount, XoutputSize, XpatternSize, XholdSize, XlineNumber, XstepCount, XnextLine, Xpointer, Xsubstituted, XresultSize, Xscript, Xinput, Xitems, Xverb, Xnegated, Xeverywhere, XlabelStart, XlabelSize, Xtarget, XreplacementStart, XreplacementEnd, Xreplacement, Xaddress, XstartAnchor, XendAnchor, XatomCount, XatomChar, XatomStarred, Xoutput, Xpattern, Xhold, XactivationLine, Xresult) ∧ XtablePresent1 = 1 ∧ XcommandCount1 = nI n ∧ tx_T Xscript L n Xverb1 Xnegated1 Xeverywhere1 XlabelStart1 XlabelSize1 XreplacementStart1 XreplacementEnd1 Xreplacement1 Xaddress1 XstartAnchor1 XendAnchor1 XatomCount1 XatomChar1 XatomStarred1 ∧ (∀ a, a < n → (lb_c Xscript L a = 98 ∨ lb_c Xscript L a = 116) → ∃ t, Xtarget1 a = nI t ∧ lb_t Xscript L n a t)) → post (nI n) u)
    (hb : (∀ n, cq_N Xscript L n → ¬ (lb_1 Xscript L n ∧ lb_2 Xscript L n)) → ∀ u, xc_K u = xc_K (Xquiet, Xfuel, nI L, XinputSize, Xcursor, XitemCount, XtablePresent, XcommandCount, XoutputSize, XpatternSize, XholdSize, XlineNumber, XstepCount, XnextLine, Xpointer, Xsubstituted, XresultSize, Xscript, Xinput, Xitems, Xverb, Xnegated, Xeverywhere, XlabelStart, XlabelSize, Xtarget, XreplacementStart, XreplacementEnd, Xreplacement, Xaddress, XstartAnchor, XendAnchor, XatomCount, XatomChar, XatomStarred, Xoutput, Xpattern, Xhold, XactivationLine, Xresult) → xc_t u = 0 → post (-1) u) :
    wpX_compile post (Xquiet, Xfuel, nI L, XinputSize, Xcursor, XitemCount, XtablePresent, XcommandCount, XoutputSize, XpatternSize, XholdSize, XlineNumber, XstepCount, XnextLine, Xpointer, Xsubstituted, XresultSize, Xscript, Xinput, Xitems, Xverb, Xnegated, Xeverywhere, XlabelStart, XlabelSize, Xtarget, XreplacementStart, XreplacementEnd, Xreplacement, Xaddress, XstartAnchor, XendAnchor, XatomCount, XatomChar, XatomStarred, Xoutput, Xpattern, Xhold, XactivationLine, Xresult) := by
  unfold wpX_compile
  refine xm_skipSep (q := 0) hL (by omega) ?_
  exact ⟨18, xm_23 hL hc hg hb 18 0 (by omega) (by omega) (fun j hj => absurd hj (by omega)) _ _ _ _ _ _ _ _ _ _ _ _ _ _ _ _ _ _ rfl (fun k hk => absurd hk (by omega))⟩
end XC_1
end
section
/-! Y's compile -/
section YD_1
variable {Yquiet Yfuel YscrLen YinpLen YhasTab YnCmd YoutLen YpatLen YholdLen YlinesRead YstepsUsed Ytflag YnAddr Ya1K Ya1V Ya2K Ya2V Ycc YlabS YlabL YsRe YsRep YadK YadV Yneg YsG YicN Yna YanS YanE YmJ YrLen : Int32} {Yscr Yinp YcmdPos Yout Ypat Yhold Yactive Yact Yic Yie YaC YaAny YaSt Yrch Ynx Yrb : Nat → Int32}
/-- Y's fields hold the parse d -/
def yc_h (nAddr a1K a1V a2K a2V cc labS labL sRe sRep neg sG : Int32) (d : cm_T) : Prop := nAddr = nI d.1.1 ∧ (¬ d.1.1 = 0 → a1K = nI d.1.2.1.1 ∧ a1V = d.1.2.1.2) ∧ (d.1.1 = 2 → a2K = nI d.1.2.2.1.1 ∧ a2V = d.1.2.2.1.2) ∧ neg = d.1.2.2.2.1 ∧ cc = d.2.1 ∧ labS = nI d.2.2.1.1.1 ∧ labL = nI d.2.2.1.1.2 ∧ (d.2.1 = 115 → sRe = nI d.2.2.1.2.1.1 ∧ sRep = nI d.2.2.1.2.1.2.1) ∧ sG = d.2.2.1.2.1.2.2.2
theorem ym_pc {L q : Nat} {d : cm_T} {post : Int32 → SY → Prop} (hL : L ≤ 128) (hc : ch_ok Yscr L) (hq : q ≤ L) (hx : cm_x Yscr L q = some d)
    (h : ∀ YnAddr2 Ya1K2 Ya1V2 Ya2K2 Ya2V2 Ycc2 YlabS2 YlabL2 YsRe2 YsRep2 YadK2 YadV2 Yneg2 YsG2 YicN2 Yna2 YanS2 YanE2 YmJ2 YrLen2 Yic2 Yie2 YaC2 YaAny2 YaSt2 Yrch2 Ynx2 Yrb2, yc_h YnAddr2 Ya1K2 Ya1V2 Ya2K2 Ya2V2 Ycc2 YlabS2 YlabL2 YsRe2 YsRep2 Yneg2 YsG2 d → post (nI d.2.2.2) (Yquiet, Yfuel, nI L, YinpLen, YhasTab, YnCmd, YoutLen, YpatLen, YholdLen, YlinesRead, YstepsUsed, Ytflag, YnAddr2, Ya1K2, Ya1V2, Ya2K2, Ya2V2, Ycc2, YlabS2, YlabL2, YsRe2, YsRep2, YadK2, YadV2, Yneg2, YsG2, YicN2, Yna2, YanS2, YanE2, YmJ2, YrLen2, Yscr, Yinp, YcmdPos, Yout, Ypat, Yhold, Yactive, Yact, Yic2, Yie2, YaC2, YaAny2, YaSt2, Yrch2, Ynx2, Yrb2)) : wpY_parseCmd post (Yquiet, Yfuel, nI L, YinpLen, YhasTab, YnCmd, YoutLen, YpatLen, YholdLen, YlinesRead, YstepsUsed, Ytflag, YnAddr, Ya1K, Ya1V, Ya2K, Ya2V, Ycc, YlabS, YlabL, YsRe, YsRep, YadK, YadV, Yneg, YsG, YicN, Yna, YanS, YanE, YmJ, YrLen, Yscr, Yinp, YcmdPos, Yout, Ypat, Yhold, Yactive, Yact, Yic, Yie, YaC, YaAny, YaSt, Yrch, Ynx, Yrb) (nI q) := by
  refine ym_parseCmd hL hc hq (fun d' v' hx' hv' hH => ?_) (fun hx' => ?_)
  · rw [hx] at hx'
    rw [← Option.some.inj hx'] at hH ⊢
    obtain ⟨Yquiet1, Yfuel1, YscrLen1, YinpLen1, YhasTab1, YnCmd1, YoutLen1, YpatLen1, YholdLen1, YlinesRead1, YstepsUsed1, Ytflag1, YnAddr1, Ya1K1, Ya1V1, Ya2K1, Ya2V1, Ycc1, YlabS1, YlabL1, YsRe1, YsRep1, YadK1, YadV1, Yneg1, YsG1, YicN1, Yna1, YanS1, YanE1, YmJ1, YrLen1, Yscr1, Yinp1, YcmdPos1, Yout1, Ypat1, Yhold1, Yactive1, Yact1, Yic1, Yie1, YaC1, YaAny1, YaSt1, Yrch1, Ynx1, Yrb1⟩ := v'
    unfold yk_p at hv'
    simp only [Prod.mk.injEq] at hv'
    obtain ⟨rfl, rfl, rfl, rfl, rfl, rfl, rfl, rfl, rfl, rfl, rfl, rfl, rfl, rfl, rfl, rfl, rfl, rfl, rfl, rfl⟩ := hv'
    exact h YnAddr1 Ya1K1 Ya1V1 Ya2K1 Ya2V1 Ycc1 YlabS1 YlabL1 YsRe1 YsRep1 YadK1 YadV1 Yneg1 YsG1 YicN1 Yna1 YanS1 YanE1 YmJ1 YrLen1 Yic1 Yie1 YaC1 YaAny1 YaSt1 Yrch1 Ynx1 Yrb1 hH
  · rw [hx] at hx'
    exact absurd hx' (by simp)
/-- the same for a parse that fails or not -/
theorem ym_pd {L q : Nat} {post : Int32 → SY → Prop} (hL : L ≤ 128) (hc : ch_ok Yscr L) (hq : q ≤ L)
    (h : ∀ d, cm_x Yscr L q = some d → ∀ YnAddr2 Ya1K2 Ya1V2 Ya2K2 Ya2V2 Ycc2 YlabS2 YlabL2 YsRe2 YsRep2 YadK2 YadV2 Yneg2 YsG2 YicN2 Yna2 YanS2 YanE2 YmJ2 YrLen2 Yic2 Yie2 YaC2 YaAny2 YaSt2 Yrch2 Ynx2 Yrb2, post (nI d.2.2.2) (Yquiet, Yfuel, nI L, YinpLen, YhasTab, YnCmd, YoutLen, YpatLen, YholdLen, YlinesRead, YstepsUsed, Ytflag, YnAddr2, Ya1K2, Ya1V2, Ya2K2, Ya2V2, Ycc2, YlabS2, YlabL2, YsRe2, YsRep2, YadK2, YadV2, Yneg2, YsG2, YicN2, Yna2, YanS2, YanE2, YmJ2, YrLen2, Yscr, Yinp, YcmdPos, Yout, Ypat, Yhold, Yactive, Yact, Yic2, Yie2, YaC2, YaAny2, YaSt2, Yrch2, Ynx2, Yrb2))
    (hb : cm_x Yscr L q = none → ∀ YnAddr2 Ya1K2 Ya1V2 Ya2K2 Ya2V2 Ycc2 YlabS2 YlabL2 YsRe2 YsRep2 YadK2 YadV2 Yneg2 YsG2 YicN2 Yna2 YanS2 YanE2 YmJ2 YrLen2 Yic2 Yie2 YaC2 YaAny2 YaSt2 Yrch2 Ynx2 Yrb2, post (-1) (Yquiet, Yfuel, nI L, YinpLen, YhasTab, YnCmd, YoutLen, YpatLen, YholdLen, YlinesRead, YstepsUsed, Ytflag, YnAddr2, Ya1K2, Ya1V2, Ya2K2, Ya2V2, Ycc2, YlabS2, YlabL2, YsRe2, YsRep2, YadK2, YadV2, Yneg2, YsG2, YicN2, Yna2, YanS2, YanE2, YmJ2, YrLen2, Yscr, Yinp, YcmdPos, Yout, Ypat, Yhold, Yactive, Yact, Yic2, Yie2, YaC2, YaAny2, YaSt2, Yrch2, Ynx2, Yrb2)) : wpY_parseCmd post (Yquiet, Yfuel, nI L, YinpLen, YhasTab, YnCmd, YoutLen, YpatLen, YholdLen, YlinesRead, YstepsUsed, Ytflag, YnAddr, Ya1K, Ya1V, Ya2K, Ya2V, Ycc, YlabS, YlabL, YsRe, YsRep, YadK, YadV, Yneg, YsG, YicN, Yna, YanS, YanE, YmJ, YrLen, Yscr, Yinp, YcmdPos, Yout, Ypat, Yhold, Yactive, Yact, Yic, Yie, YaC, YaAny, YaSt, Yrch, Ynx, Yrb) (nI q) := by
  refine ym_parseCmd hL hc hq (fun d' v' hx' hv' hH => ?_) (fun hx' v' hv' => ?_)
  · obtain ⟨Yquiet1, Yfuel1, YscrLen1, YinpLen1, YhasTab1, YnCmd1, YoutLen1, YpatLen1, YholdLen1, YlinesRead1, YstepsUsed1, Ytflag1, YnAddr1, Ya1K1, Ya1V1, Ya2K1, Ya2V1, Ycc1, YlabS1, YlabL1, YsRe1, YsRep1, YadK1, YadV1, Yneg1, YsG1, YicN1, Yna1, YanS1, YanE1, YmJ1, YrLen1, Yscr1, Yinp1, YcmdPos1, Yout1, Ypat1, Yhold1, Yactive1, Yact1, Yic1, Yie1, YaC1, YaAny1, YaSt1, Yrch1, Ynx1, Yrb1⟩ := v'
    unfold yk_p at hv'
    simp only [Prod.mk.injEq] at hv'
    obtain ⟨rfl, rfl, rfl, rfl, rfl, rfl, rfl, rfl, rfl, rfl, rfl, rfl, rfl, rfl, rfl, rfl, rfl, rfl, rfl, rfl⟩ := hv'
    exact h d' hx' YnAddr1 Ya1K1 Ya1V1 Ya2K1 Ya2V1 Ycc1 YlabS1 YlabL1 YsRe1 YsRep1 YadK1 YadV1 Yneg1 YsG1 YicN1 Yna1 YanS1 YanE1 YmJ1 YrLen1 Yic1 Yie1 YaC1 YaAny1 YaSt1 Yrch1 Ynx1 Yrb1
  · obtain ⟨Yquiet1, Yfuel1, YscrLen1, YinpLen1, YhasTab1, YnCmd1, YoutLen1, YpatLen1, YholdLen1, YlinesRead1, YstepsUsed1, Ytflag1, YnAddr1, Ya1K1, Ya1V1, Ya2K1, Ya2V1, Ycc1, YlabS1, YlabL1, YsRe1, YsRep1, YadK1, YadV1, Yneg1, YsG1, YicN1, Yna1, YanS1, YanE1, YmJ1, YrLen1, Yscr1, Yinp1, YcmdPos1, Yout1, Ypat1, Yhold1, Yactive1, Yact1, Yic1, Yie1, YaC1, YaAny1, YaSt1, Yrch1, Ynx1, Yrb1⟩ := v'
    unfold yk_p at hv'
    simp only [Prod.mk.injEq] at hv'
    obtain ⟨rfl, rfl, rfl, rfl, rfl, rfl, rfl, rfl, rfl, rfl, rfl, rfl, rfl, rfl, rfl, rfl, rfl, rfl, rfl, rfl⟩ := hv'
    exact hb hx' YnAddr1 Ya1K1 Ya1V1 Ya2K1 Ya2V1 Ycc1 YlabS1 YlabL1 YsRe1 YsRep1 YadK1 YadV1 Yneg1 YsG1 YicN1 Yna1 YanS1 YanE1 YmJ1 YrLen1 Yic1 Yie1 YaC1 YaAny1 YaSt1 Yrch1 Ynx1 Yrb1
theorem ym_labEq {L a la b lb : Nat} {post : Int32 → Prop} (hL : L ≤ 128) (ha : a + la ≤ L) (hb : b + lb ≤ L) (h1 : lb_E Yscr a la b lb → post 1) (h0 : ¬ lb_E Yscr a la b lb → post 0) : wpY_labEq post (Yquiet, Yfuel, nI L, YinpLen, YhasTab, YnCmd, YoutLen, YpatLen, YholdLen, YlinesRead, YstepsUsed, Ytflag, YnAddr, Ya1K, Ya1V, Ya2K, Ya2V, Ycc, YlabS, YlabL, YsRe, YsRep, YadK, YadV, Yneg, YsG, YicN, Yna, YanS, YanE, YmJ, YrLen, Yscr, Yinp, YcmdPos, Yout, Ypat, Yhold, Yactive, Yact, Yic, Yie, YaC, YaAny, YaSt, Yrch, Ynx, Yrb) (nI a) (nI la) (nI b) (nI lb) := by
  unfold wpY_labEq
  refine pk_eq la lb (fun e => ⟨la + 1, ?_⟩) (fun e => h0 (fun y => e y.1))
  have loop : ∀ f j, la - j < f → j ≤ la → (∀ i, i < j → Yscr (a + i) = Yscr (b + i)) → wY_labEq_11 post (nI a) (nI la) (nI b) Yquiet Yfuel (nI L) YinpLen YhasTab YnCmd YoutLen YpatLen YholdLen YlinesRead YstepsUsed Ytflag YnAddr Ya1K Ya1V Ya2K Ya2V Ycc YlabS YlabL YsRe YsRep YadK YadV Yneg YsG YicN Yna YanS YanE YmJ YrLen Yscr Yinp YcmdPos Yout Ypat Yhold Yactive Yact Yic Yie YaC YaAny YaSt Yrch Ynx Yrb f (nI j) := by
    intro f
    induction f with
    | zero => intro j h; omega
    | succ f ih =>
    intro j hf hj hi
    refine pk_le la j (fun w => h1 ⟨e, fun i hi' => hi i (by omega)⟩) (fun w => ?_)
    rw [nI_add, nI_add]
    refine br_f (nI_pos (by omega)) (br_f (nI_pos (by omega)) (br_f (nI_ge (by omega) (by omega)) (br_t (nI_lt (by omega) (by omega)) ⟨vp_in_nI (by omega) (by omega), vp_in_nI (by omega) (by omega), ?_⟩)))
    rw [nI_clamp (by omega), nI_clamp (by omega)]
    refine br_c (fun y => nm_r (nI_1 j) (ih (j + 1) (by omega) (by omega) (fun i hi' => ?_))) (fun y => h0 (fun w' => y (w'.2 j (by omega))))
    by_cases z : i = j
    · rw [z]; exact y
    · exact hi i (by omega)
  exact loop _ 0 (by omega) (by omega) (fun i hi => absurd hi (by omega))
/-- what Y's check of the labels asks of command a -/
def lb_y (s : Nat → Int32) (L n a : Nat) : Prop := ¬ lb_l s L a = 0 → ((lb_c s L a = 58 → ∀ b, b < n → ¬ b = a → lb_c s L b = 58 → ¬ lb_q s L a b) ∧ (¬ lb_c s L a = 58 → ∃ b, b < n ∧ ¬ b = a ∧ lb_c s L b = 58 ∧ lb_q s L a b))
theorem lb_yy {s : Nat → Int32} {L n : Nat} (hG : cq_G s L n) : (∀ a, a < n → lb_y s L n a) ↔ (lb_1 s L n ∧ lb_2 s L n) := by
  constructor
  · intro h
    refine ⟨fun a b ha hb hab ca cb => ?_, fun a ha ca hl => ?_⟩
    · have f := (lb_f hG ha).2.2.1 ca
      exact (h a ha (by omega)).1 ca b hb (fun e => hab e.symm) cb
    · have n58 : ¬ lb_c s L a = 58 := fun y => by
        rw [y] at ca
        rcases ca with z | z <;> exact absurd z (by decide)
      obtain ⟨b, b1, b2, b3, b4⟩ := (h a ha hl).2 n58
      exact ⟨b, b1, b3, b4⟩
  · intro ⟨h1, h2⟩ a ha hl
    refine ⟨fun ca b hb hab cb => h1 a b ha hb (fun e => hab e.symm) ca cb, fun ca => ?_⟩
    have c2 : lb_c s L a = 98 ∨ lb_c s L a = 116 := by
      by_cases z : lb_c s L a = 98
      · exact Or.inl z
      · by_cases y : lb_c s L a = 116
        · exact Or.inr y
        · exact absurd ((lb_f hG ha).2.2.2 (fun w => by
            rcases w with w | w | w
            · exact ca w
            · exact z w
            · exact y w)) hl
    obtain ⟨b, b1, b2, b3⟩ := h2 a ha c2 hl
    exact ⟨b, b1, fun e => by rw [e] at b2; exact ca b2, b2, b3⟩
theorem ym_55 {L n a : Nat} {post : Int32 → SY → Prop} {J : Nat} (hL : L ≤ 128) (hc : ch_ok Yscr L) (hG : cq_G Yscr L n) (hn : n ≤ 16) (hcp : ∀ j, j < n → YcmdPos j = nI (cq_Q Yscr L j)) (ha : a < n) (hl : ¬ lb_l Yscr L a = 0)
    (hg : lb_y Yscr L n a → ∀ YnAddr1 Ya1K1 Ya1V1 Ya2K1 Ya2V1 Ycc1 YlabS1 YlabL1 YsRe1 YsRep1 YadK1 YadV1 Yneg1 YsG1 YicN1 Yna1 YanS1 YanE1 YmJ1 YrLen1 Yic1 Yie1 YaC1 YaAny1 YaSt1 Yrch1 Ynx1 Yrb1, wY_labelsOk_2 post (nI n) J (nI (a + 1)) Yquiet Yfuel (nI L) YinpLen YhasTab YnCmd YoutLen YpatLen YholdLen YlinesRead YstepsUsed Ytflag YnAddr1 Ya1K1 Ya1V1 Ya2K1 Ya2V1 Ycc1 YlabS1 YlabL1 YsRe1 YsRep1 YadK1 YadV1 Yneg1 YsG1 YicN1 Yna1 YanS1 YanE1 YmJ1 YrLen1 Yscr Yinp YcmdPos Yout Ypat Yhold Yactive Yact Yic1 Yie1 YaC1 YaAny1 YaSt1 Yrch1 Ynx1 Yrb1)
    (hb : ¬ lb_y Yscr L n a → ∀ YnAddr1 Ya1K1 Ya1V1 Ya2K1 Ya2V1 Ycc1 YlabS1 YlabL1 YsRe1 YsRep1 YadK1 YadV1 Yneg1 YsG1 YicN1 Yna1 YanS1 YanE1 YmJ1 YrLen1 Yic1 Yie1 YaC1 YaAny1 YaSt1 Yrch1 Ynx1 Yrb1, post 0 (Yquiet, Yfuel, nI L, YinpLen, YhasTab, YnCmd, YoutLen, YpatLen, YholdLen, YlinesRead, YstepsUsed, Ytflag, YnAddr1, Ya1K1, Ya1V1, Ya2K1, Ya2V1, Ycc1, YlabS1, YlabL1, YsRe1, YsRep1, YadK1, YadV1, Yneg1, YsG1, YicN1, Yna1, YanS1, YanE1, YmJ1, YrLen1, Yscr, Yinp, YcmdPos, Yout, Ypat, Yhold, Yactive, Yact, Yic1, Yie1, YaC1, YaAny1, YaSt1, Yrch1, Ynx1, Yrb1)) :
    ∀ f b, n - b < f → b ≤ n → ∀ x6 YnAddr1 Ya1K1 Ya1V1 Ya2K1 Ya2V1 Ycc1 YlabS1 YlabL1 YsRe1 YsRep1 YadK1 YadV1 Yneg1 YsG1 YicN1 Yna1 YanS1 YanE1 YmJ1 YrLen1 Yic1 Yie1 YaC1 YaAny1 YaSt1 Yrch1 Ynx1 Yrb1, ((x6 = 0 ∧ ∀ j, j < b → ¬ j = a → lb_c Yscr L j = 58 → ¬ lb_q Yscr L a j) ∨ (x6 = 1 ∧ ∃ j, j < b ∧ ¬ j = a ∧ lb_c Yscr L j = 58 ∧ lb_q Yscr L a j)) → wY_labelsOk_55 post (wY_labelsOk_2 post (nI n) J) (nI n) (nI a) (lb_c Yscr L a) (nI (lb_s Yscr L a)) (nI (lb_l Yscr L a)) f x6 (nI b) Yquiet Yfuel (nI L) YinpLen YhasTab YnCmd YoutLen YpatLen YholdLen YlinesRead YstepsUsed Ytflag YnAddr1 Ya1K1 Ya1V1 Ya2K1 Ya2V1 Ycc1 YlabS1 YlabL1 YsRe1 YsRep1 YadK1 YadV1 Yneg1 YsG1 YicN1 Yna1 YanS1 YanE1 YmJ1 YrLen1 Yscr Yinp YcmdPos Yout Ypat Yhold Yactive Yact Yic1 Yie1 YaC1 YaAny1 YaSt1 Yrch1 Ynx1 Yrb1 := by
  intro f
  induction f with
  | zero => intro b h; exact absurd h (Nat.not_lt_zero _)
  | succ f ih =>
  intro b hf hbn x6 YnAddr1 Ya1K1 Ya1V1 Ya2K1 Ya2V1 Ycc1 YlabS1 YlabL1 YsRe1 YsRep1 YadK1 YadV1 Yneg1 YsG1 YicN1 Yna1 YanS1 YanE1 YmJ1 YrLen1 Yic1 Yie1 YaC1 YaAny1 YaSt1 Yrch1 Ynx1 Yrb1 hx6
  refine pk_le n b (fun w => ?_) (fun w => br_f (nI_ge (b := 16) (by omega) (by decide)) ?_)
  · have e : b = n := by omega
    subst e
    have g := fun h => hg h YnAddr1 Ya1K1 Ya1V1 Ya2K1 Ya2V1 Ycc1 YlabS1 YlabL1 YsRe1 YsRep1 YadK1 YadV1 Yneg1 YsG1 YicN1 Yna1 YanS1 YanE1 YmJ1 YrLen1 Yic1 Yie1 YaC1 YaAny1 YaSt1 Yrch1 Ynx1 Yrb1
    have bd := fun h => hb h YnAddr1 Ya1K1 Ya1V1 Ya2K1 Ya2V1 Ycc1 YlabS1 YlabL1 YsRe1 YsRep1 YadK1 YadV1 Yneg1 YsG1 YicN1 Yna1 YanS1 YanE1 YmJ1 YrLen1 Yic1 Yie1 YaC1 YaAny1 YaSt1 Yrch1 Ynx1 Yrb1
    refine br_c (fun c58 => ?_) (fun c58 => br_f c58 ?_)
    · rcases hx6 with ⟨x0, hh⟩ | ⟨x1, j, j1, j2, j3, j4⟩
      · exact br_t x0 (br_t c58 (nm_r (nI_1 a) (g (fun _ => ⟨fun _ b hb hab cb => hh b hb hab cb, fun y => absurd c58 y⟩))))
      · exact br_f (by rw [x1]; decide) (bd (fun y => (y hl).1 c58 j j1 j2 j3 j4))
    · rcases hx6 with ⟨x0, hh⟩ | ⟨x1, j, j1, j2, j3, j4⟩
      · refine br_t x0 (bd (fun y => ?_))
        obtain ⟨j, j1, j2, j3, j4⟩ := (y hl).2 c58
        exact hh j j1 j2 j3 j4
      · exact br_f (by rw [x1]; decide) (nm_r (nI_1 a) (g (fun _ => ⟨fun y => absurd y c58, fun _ => ⟨j, j1, j2, j3, j4⟩⟩)))
  · refine pk_eq b a (fun e => nm_r (nI_1 b) ?_) (fun e => ⟨pk_in b 16 (by omega), ?_⟩)
    · refine ih (b + 1) (by omega) (by omega) x6 YnAddr1 Ya1K1 Ya1V1 Ya2K1 Ya2V1 Ycc1 YlabS1 YlabL1 YsRe1 YsRep1 YadK1 YadV1 Yneg1 YsG1 YicN1 Yna1 YanS1 YanE1 YmJ1 YrLen1 Yic1 Yie1 YaC1 YaAny1 YaSt1 Yrch1 Ynx1 Yrb1 ?_
      rcases hx6 with ⟨x0, hh⟩ | ⟨x1, j, j1, j2, j3, j4⟩
      · refine Or.inl ⟨x0, fun j hj => ?_⟩
        by_cases z : j = b
        · intro y; exact absurd (z.trans e) y
        · exact hh j (by omega)
      · exact Or.inr ⟨x1, j, by omega, j2, j3, j4⟩
    · obtain ⟨g1, g2⟩ := hG b w
      rw [nI_clamp (by omega), hcp b w]
      refine ym_pc hL hc (Nat.le_of_lt g1) g2 ?_
      intro YnAddr2 Ya1K2 Ya1V2 Ya2K2 Ya2V2 Ycc2 YlabS2 YlabL2 YsRe2 YsRep2 YadK2 YadV2 Yneg2 YsG2 YicN2 Yna2 YanS2 YanE2 YmJ2 YrLen2 Yic2 Yie2 YaC2 YaAny2 YaSt2 Yrch2 Ynx2 Yrb2 hH
      obtain ⟨y1, y2, y3, y4, y5, y6, y7, y8, y9⟩ := hH
      subst y5 y6 y7
      have fa := lb_f hG ha
      have fb := lb_f hG w
      have keep : ¬ (lb_c Yscr L b = 58 ∧ lb_q Yscr L a b) → ((x6 = 0 ∧ ∀ j, j < b + 1 → ¬ j = a → lb_c Yscr L j = 58 → ¬ lb_q Yscr L a j) ∨ (x6 = 1 ∧ ∃ j, j < b + 1 ∧ ¬ j = a ∧ lb_c Yscr L j = 58 ∧ lb_q Yscr L a j)) := by
        intro hh
        rcases hx6 with ⟨x0, h0⟩ | ⟨x1, j, j1, j2, j3, j4⟩
        · refine Or.inl ⟨x0, fun j hj ja jc jq => ?_⟩
          by_cases z : j = b
          · rw [z] at jc jq; exact hh ⟨jc, jq⟩
          · exact h0 j (by omega) ja jc jq
        · exact Or.inr ⟨x1, j, by omega, j2, j3, j4⟩
      refine br_c (fun c => ?_) (fun c => nm_r (nI_1 b) ?_)
      · refine ym_labEq hL fa.1 fb.1 (fun y => br_f (by decide) (nm_r (nI_1 b) ?_)) (fun y => br_t rfl (nm_r (nI_1 b) ?_))
        · exact ih (b + 1) (by omega) (by omega) 1 _ _ _ _ _ _ _ _ _ _ _ _ _ _ _ _ _ _ _ _ _ _ _ _ _ _ _ _ (Or.inr ⟨rfl, b, by omega, e, c, y⟩)
        · exact ih (b + 1) (by omega) (by omega) x6 _ _ _ _ _ _ _ _ _ _ _ _ _ _ _ _ _ _ _ _ _ _ _ _ _ _ _ _ (keep (fun z => y z.2))
      · exact ih (b + 1) (by omega) (by omega) x6 _ _ _ _ _ _ _ _ _ _ _ _ _ _ _ _ _ _ _ _ _ _ _ _ _ _ _ _ (keep (fun z => c z.1))
theorem ym_labelsOk {L n : Nat} {post : Int32 → SY → Prop} (hL : L ≤ 128) (hc : ch_ok Yscr L) (hG : cq_G Yscr L n) (hn : n ≤ 16) (hcp : ∀ j, j < n → YcmdPos j = nI (cq_Q Yscr L j))
    (hg : lb_1 Yscr L n ∧ lb_2 Yscr L n → ∀ YnAddr1 Ya1K1 Ya1V1 Ya2K1 Ya2V1 Ycc1 YlabS1 YlabL1 YsRe1 YsRep1 YadK1 YadV1 Yneg1 YsG1 YicN1 Yna1 YanS1 YanE1 YmJ1 YrLen1 Yic1 Yie1 YaC1 YaAny1 YaSt1 Yrch1 Ynx1 Yrb1, post 1 (Yquiet, Yfuel, nI L, YinpLen, YhasTab, YnCmd, YoutLen, YpatLen, YholdLen, YlinesRead, YstepsUsed, Ytflag, YnAddr1, Ya1K1, Ya1V1, Ya2K1, Ya2V1, Ycc1, YlabS1, YlabL1, YsRe1, YsRep1, YadK1, YadV1, Yneg1, YsG1, YicN1, Yna1, YanS1, YanE1, YmJ1, YrLen1, Yscr, Yinp, YcmdPos, Yout, Ypat, Yhold, Yactive, Yact, Yic1, Yie1, YaC1, YaAny1, YaSt1, Yrch1, Ynx1, Yrb1))
    (hb : ¬ (lb_1 Yscr L n ∧ lb_2 Yscr L n) → ∀ YnAddr1 Ya1K1 Ya1V1 Ya2K1 Ya2V1 Ycc1 YlabS1 YlabL1 YsRe1 YsRep1 YadK1 YadV1 Yneg1 YsG1 YicN1 Yna1 YanS1 YanE1 YmJ1 YrLen1 Yic1 Yie1 YaC1 YaAny1 YaSt1 Yrch1 Ynx1 Yrb1, post 0 (Yquiet, Yfuel, nI L, YinpLen, YhasTab, YnCmd, YoutLen, YpatLen, YholdLen, YlinesRead, YstepsUsed, Ytflag, YnAddr1, Ya1K1, Ya1V1, Ya2K1, Ya2V1, Ycc1, YlabS1, YlabL1, YsRe1, YsRep1, YadK1, YadV1, Yneg1, YsG1, YicN1, Yna1, YanS1, YanE1, YmJ1, YrLen1, Yscr, Yinp, YcmdPos, Yout, Ypat, Yhold, Yactive, Yact, Yic1, Yie1, YaC1, YaAny1, YaSt1, Yrch1, Ynx1, Yrb1)) :
    ∀ f a, n - a < f → a ≤ n → (∀ j, j < a → lb_y Yscr L n j) → ∀ YnAddr1 Ya1K1 Ya1V1 Ya2K1 Ya2V1 Ycc1 YlabS1 YlabL1 YsRe1 YsRep1 YadK1 YadV1 Yneg1 YsG1 YicN1 Yna1 YanS1 YanE1 YmJ1 YrLen1 Yic1 Yie1 YaC1 YaAny1 YaSt1 Yrch1 Ynx1 Yrb1, wY_labelsOk_2 post (nI n) f (nI a) Yquiet Yfuel (nI L) YinpLen YhasTab YnCmd YoutLen YpatLen YholdLen YlinesRead YstepsUsed Ytflag YnAddr1 Ya1K1 Ya1V1 Ya2K1 Ya2V1 Ycc1 YlabS1 YlabL1 YsRe1 YsRep1 YadK1 YadV1 Yneg1 YsG1 YicN1 Yna1 YanS1 YanE1 YmJ1 YrLen1 Yscr Yinp YcmdPos Yout Ypat Yhold Yactive Yact Yic1 Yie1 YaC1 YaAny1 YaSt1 Yrch1 Ynx1 Yrb1 := by
  intro f
  induction f with
  | zero => intro a h; exact absurd h (Nat.not_lt_zero _)
  | succ f ih =>
  intro a hf han hj YnAddr1 Ya1K1 Ya1V1 Ya2K1 Ya2V1 Ycc1 YlabS1 YlabL1 YsRe1 YsRep1 YadK1 YadV1 Yneg1 YsG1 YicN1 Yna1 YanS1 YanE1 YmJ1 YrLen1 Yic1 Yie1 YaC1 YaAny1 YaSt1 Yrch1 Ynx1 Yrb1
  refine pk_le n a (fun w => hg ((lb_yy hG).mp (fun j h => hj j (by omega))) YnAddr1 Ya1K1 Ya1V1 Ya2K1 Ya2V1 Ycc1 YlabS1 YlabL1 YsRe1 YsRep1 YadK1 YadV1 Yneg1 YsG1 YicN1 Yna1 YanS1 YanE1 YmJ1 YrLen1 Yic1 Yie1 YaC1 YaAny1 YaSt1 Yrch1 Ynx1 Yrb1) (fun w => br_f (nI_ge (b := 16) (by omega) (by decide)) ⟨pk_in a 16 (by omega), ?_⟩)
  obtain ⟨g1, g2⟩ := hG a w
  rw [nI_clamp (by omega), hcp a w]
  refine ym_pc hL hc (Nat.le_of_lt g1) g2 ?_
  intro YnAddr2 Ya1K2 Ya1V2 Ya2K2 Ya2V2 Ycc2 YlabS2 YlabL2 YsRe2 YsRep2 YadK2 YadV2 Yneg2 YsG2 YicN2 Yna2 YanS2 YanE2 YmJ2 YrLen2 Yic2 Yie2 YaC2 YaAny2 YaSt2 Yrch2 Ynx2 Yrb2 hH
  obtain ⟨y1, y2, y3, y4, y5, y6, y7, y8, y9⟩ := hH
  subst y5 y6 y7
  have nxt : lb_y Yscr L n a → ∀ YnAddr3 Ya1K3 Ya1V3 Ya2K3 Ya2V3 Ycc3 YlabS3 YlabL3 YsRe3 YsRep3 YadK3 YadV3 Yneg3 YsG3 YicN3 Yna3 YanS3 YanE3 YmJ3 YrLen3 Yic3 Yie3 YaC3 YaAny3 YaSt3 Yrch3 Ynx3 Yrb3, wY_labelsOk_2 post (nI n) f (nI (a + 1)) Yquiet Yfuel (nI L) YinpLen YhasTab YnCmd YoutLen YpatLen YholdLen YlinesRead YstepsUsed Ytflag YnAddr3 Ya1K3 Ya1V3 Ya2K3 Ya2V3 Ycc3 YlabS3 YlabL3 YsRe3 YsRep3 YadK3 YadV3 Yneg3 YsG3 YicN3 Yna3 YanS3 YanE3 YmJ3 YrLen3 Yscr Yinp YcmdPos Yout Ypat Yhold Yactive Yact Yic3 Yie3 YaC3 YaAny3 YaSt3 Yrch3 Ynx3 Yrb3 := fun hy => ih (a + 1) (by omega) (by omega) (fun j h => by
    by_cases z : j = a
    · rw [z]; exact hy
    · exact hj j (by omega))
  have fa := lb_f hG w
  refine pk_eq (lb_l Yscr L a) 0 (fun e => nm_r (nI_1 a) ?_) (fun e => ⟨n + 1, ?_⟩)
  · exact nxt (fun y => absurd e y) _ _ _ _ _ _ _ _ _ _ _ _ _ _ _ _ _ _ _ _ _ _ _ _ _ _ _ _
  · exact ym_55 (post := post) (J := f) hL hc hG hn hcp w e nxt (fun y => hb (fun z => y ((lb_yy hG).mpr z a w))) (n + 1) 0 (by omega) (by omega) 0 _ _ _ _ _ _ _ _ _ _ _ _ _ _ _ _ _ _ _ _ _ _ _ _ _ _ _ _ (Or.inl ⟨rfl, fun j hj => absurd hj (by omega)⟩)
end YD_1
end
section
/-! Y's compile: the commands one behind another -/
section YE_1
variable {Yquiet Yfuel YscrLen YinpLen YhasTab YnCmd YoutLen YpatLen YholdLen YlinesRead YstepsUsed Ytflag YnAddr Ya1K Ya1V Ya2K Ya2V Ycc YlabS YlabL YsRe YsRep YadK YadV Yneg YsG YicN Yna YanS YanE YmJ YrLen : Int32} {Yscr Yinp YcmdPos Yout Ypat Yhold Yactive Yact Yic Yie YaC YaAny YaSt Yrch Ynx Yrb : Nat → Int32}
theorem ym_115 {L n : Nat} {post : Int32 → SY → Prop} (hL : L ≤ 128) (hc : ch_ok Yscr L) (hN : cq_N Yscr L n) (hcp : ∀ j, j < n → YcmdPos j = nI (cq_Q Yscr L j))
    (hg : lb_1 Yscr L n ∧ lb_2 Yscr L n → ∀ YnAddr1 Ya1K1 Ya1V1 Ya2K1 Ya2V1 Ycc1 YlabS1 YlabL1 YsRe1 YsRep1 YadK1 YadV1 Yneg1 YsG1 YicN1 Yna1 YanS1 YanE1 YmJ1 YrLen1 Yic1 Yie1 YaC1 YaAny1 YaSt1 Yrch1 Ynx1 Yrb1, post (nI n) (Yquiet, Yfuel, nI L, YinpLen, 1, nI n, YoutLen, YpatLen, YholdLen, YlinesRead, YstepsUsed, Ytflag, YnAddr1, Ya1K1, Ya1V1, Ya2K1, Ya2V1, Ycc1, YlabS1, YlabL1, YsRe1, YsRep1, YadK1, YadV1, Yneg1, YsG1, YicN1, Yna1, YanS1, YanE1, YmJ1, YrLen1, Yscr, Yinp, YcmdPos, Yout, Ypat, Yhold, Yactive, Yact, Yic1, Yie1, YaC1, YaAny1, YaSt1, Yrch1, Ynx1, Yrb1))
    (hb : ¬ (lb_1 Yscr L n ∧ lb_2 Yscr L n) → ∀ YnAddr1 Ya1K1 Ya1V1 Ya2K1 Ya2V1 Ycc1 YlabS1 YlabL1 YsRe1 YsRep1 YadK1 YadV1 Yneg1 YsG1 YicN1 Yna1 YanS1 YanE1 YmJ1 YrLen1 Yic1 Yie1 YaC1 YaAny1 YaSt1 Yrch1 Ynx1 Yrb1, post (-1) (Yquiet, Yfuel, nI L, YinpLen, YhasTab, YnCmd, YoutLen, YpatLen, YholdLen, YlinesRead, YstepsUsed, Ytflag, YnAddr1, Ya1K1, Ya1V1, Ya2K1, Ya2V1, Ycc1, YlabS1, YlabL1, YsRe1, YsRep1, YadK1, YadV1, Yneg1, YsG1, YicN1, Yna1, YanS1, YanE1, YmJ1, YrLen1, Yscr, Yinp, YcmdPos, Yout, Ypat, Yhold, Yactive, Yact, Yic1, Yie1, YaC1, YaAny1, YaSt1, Yrch1, Ynx1, Yrb1)) : wY_compile_115 post (nI n) Yquiet Yfuel (nI L) YinpLen YhasTab YnCmd YoutLen YpatLen YholdLen YlinesRead YstepsUsed Ytflag YnAddr Ya1K Ya1V Ya2K Ya2V Ycc YlabS YlabL YsRe YsRep YadK YadV Yneg YsG YicN Yna YanS YanE YmJ YrLen Yscr Yinp YcmdPos Yout Ypat Yhold Yactive Yact Yic Yie YaC YaAny YaSt Yrch Ynx Yrb := by
  obtain ⟨g1, g2, g3⟩ := hN
  refine br_t (nI_le (b := 16) g3 (by decide)) ?_
  unfold wpY_labelsOk
  exact ⟨n + 1, ym_labelsOk hL hc g1 g3 hcp (fun h => fun YnAddr1 Ya1K1 Ya1V1 Ya2K1 Ya2V1 Ycc1 YlabS1 YlabL1 YsRe1 YsRep1 YadK1 YadV1 Yneg1 YsG1 YicN1 Yna1 YanS1 YanE1 YmJ1 YrLen1 Yic1 Yie1 YaC1 YaAny1 YaSt1 Yrch1 Ynx1 Yrb1 => br_f (by decide) (hg h YnAddr1 Ya1K1 Ya1V1 Ya2K1 Ya2V1 Ycc1 YlabS1 YlabL1 YsRe1 YsRep1 YadK1 YadV1 Yneg1 YsG1 YicN1 Yna1 YanS1 YanE1 YmJ1 YrLen1 Yic1 Yie1 YaC1 YaAny1 YaSt1 Yrch1 Ynx1 Yrb1)) (fun h => fun YnAddr1 Ya1K1 Ya1V1 Ya2K1 Ya2V1 Ycc1 YlabS1 YlabL1 YsRe1 YsRep1 YadK1 YadV1 Yneg1 YsG1 YicN1 Yna1 YanS1 YanE1 YmJ1 YrLen1 Yic1 Yie1 YaC1 YaAny1 YaSt1 Yrch1 Ynx1 Yrb1 => br_t rfl (hb h YnAddr1 Ya1K1 Ya1V1 Ya2K1 Ya2V1 Ycc1 YlabS1 YlabL1 YsRe1 YsRep1 YadK1 YadV1 Yneg1 YsG1 YicN1 Yna1 YanS1 YanE1 YmJ1 YrLen1 Yic1 Yie1 YaC1 YaAny1 YaSt1 Yrch1 Ynx1 Yrb1)) (n + 1) 0 (by omega) (by omega) (fun j hj => absurd hj (by omega)) YnAddr Ya1K Ya1V Ya2K Ya2V Ycc YlabS YlabL YsRe YsRep YadK YadV Yneg YsG YicN Yna YanS YanE YmJ YrLen Yic Yie YaC YaAny YaSt Yrch Ynx Yrb⟩
theorem ym_16 {L : Nat} {post : Int32 → SY → Prop} (hL : L ≤ 128) (hc : ch_ok Yscr L)
    (hg : ∀ n cp, cq_N Yscr L n → lb_1 Yscr L n ∧ lb_2 Yscr L n → (∀ j, j < n → cp j = nI (cq_Q Yscr L j)) → ∀ YnAddr1 Ya1K1 Ya1V1 Ya2K1 Ya2V1 Ycc1 YlabS1 YlabL1 YsRe1 YsRep1 YadK1 YadV1 Yneg1 YsG1 YicN1 Yna1 YanS1 YanE1 YmJ1 YrLen1 Yic1 Yie1 YaC1 YaAny1 YaSt1 Yrch1 Ynx1 Yrb1, post (nI n) (Yquiet, Yfuel, nI L, YinpLen, 1, nI n, YoutLen, YpatLen, YholdLen, YlinesRead, YstepsUsed, Ytflag, YnAddr1, Ya1K1, Ya1V1, Ya2K1, Ya2V1, Ycc1, YlabS1, YlabL1, YsRe1, YsRep1, YadK1, YadV1, Yneg1, YsG1, YicN1, Yna1, YanS1, YanE1, YmJ1, YrLen1, Yscr, Yinp, cp, Yout, Ypat, Yhold, Yactive, Yact, Yic1, Yie1, YaC1, YaAny1, YaSt1, Yrch1, Ynx1, Yrb1))
    (hb : (∀ n, cq_N Yscr L n → ¬ (lb_1 Yscr L n ∧ lb_2 Yscr L n)) → ∀ cp YnAddr1 Ya1K1 Ya1V1 Ya2K1 Ya2V1 Ycc1 YlabS1 YlabL1 YsRe1 YsRep1 YadK1 YadV1 Yneg1 YsG1 YicN1 Yna1 YanS1 YanE1 YmJ1 YrLen1 Yic1 Yie1 YaC1 YaAny1 YaSt1 Yrch1 Ynx1 Yrb1, post (-1) (Yquiet, Yfuel, nI L, YinpLen, 0, 0, YoutLen, YpatLen, YholdLen, YlinesRead, YstepsUsed, Ytflag, YnAddr1, Ya1K1, Ya1V1, Ya2K1, Ya2V1, Ycc1, YlabS1, YlabL1, YsRe1, YsRep1, YadK1, YadV1, Yneg1, YsG1, YicN1, Yna1, YanS1, YanE1, YmJ1, YrLen1, Yscr, Yinp, cp, Yout, Ypat, Yhold, Yactive, Yact, Yic1, Yie1, YaC1, YaAny1, YaSt1, Yrch1, Ynx1, Yrb1)) :
    ∀ f k, L + 1 - k < f → k ≤ L → cq_G Yscr L k → ∀ p, p ≤ L → sc_e (pb_z Yscr) L p = cq_Q Yscr L k → ∀ cp YnAddr1 Ya1K1 Ya1V1 Ya2K1 Ya2V1 Ycc1 YlabS1 YlabL1 YsRe1 YsRep1 YadK1 YadV1 Yneg1 YsG1 YicN1 Yna1 YanS1 YanE1 YmJ1 YrLen1 Yic1 Yie1 YaC1 YaAny1 YaSt1 Yrch1 Ynx1 Yrb1, (∀ j, j < k → j < 16 → cp j = nI (cq_Q Yscr L j)) → wY_compile_16 post f (nI k) (nI p) (nI k) Yquiet Yfuel (nI L) YinpLen 0 0 YoutLen YpatLen YholdLen YlinesRead YstepsUsed Ytflag YnAddr1 Ya1K1 Ya1V1 Ya2K1 Ya2V1 Ycc1 YlabS1 YlabL1 YsRe1 YsRep1 YadK1 YadV1 Yneg1 YsG1 YicN1 Yna1 YanS1 YanE1 YmJ1 YrLen1 Yscr Yinp cp Yout Ypat Yhold Yactive Yact Yic1 Yie1 YaC1 YaAny1 YaSt1 Yrch1 Ynx1 Yrb1 := by
  intro f
  induction f with
  | zero => intro k h; exact absurd h (Nat.not_lt_zero _)
  | succ f ih =>
  intro k hf hkL hG p hp hpq cp YnAddr1 Ya1K1 Ya1V1 Ya2K1 Ya2V1 Ycc1 YlabS1 YlabL1 YsRe1 YsRep1 YadK1 YadV1 Yneg1 YsG1 YicN1 Yna1 YanS1 YanE1 YmJ1 YrLen1 Yic1 Yie1 YaC1 YaAny1 YaSt1 Yrch1 Ynx1 Yrb1 hcp
  have hQ := cq_Q_le Yscr L k
  refine br_f (nI_nlt (a := 128) (b := k) (by omega) (by decide)) ?_
  have h70 : wY_compile_70 post (wY_compile_16 post f) (nI k) (nI (cq_Q Yscr L k)) (nI k) Yquiet Yfuel (nI L) YinpLen 0 0 YoutLen YpatLen YholdLen YlinesRead YstepsUsed Ytflag YnAddr1 Ya1K1 Ya1V1 Ya2K1 Ya2V1 Ycc1 YlabS1 YlabL1 YsRe1 YsRep1 YadK1 YadV1 Yneg1 YsG1 YicN1 Yna1 YanS1 YanE1 YmJ1 YrLen1 Yscr Yinp cp Yout Ypat Yhold Yactive Yact Yic1 Yie1 YaC1 YaAny1 YaSt1 Yrch1 Ynx1 Yrb1 := by
    refine pk_lt (cq_Q Yscr L k) L (fun w => ?_) (fun w => ?_)
    · have h94 : ∀ cp', (∀ j, j < k + 1 → j < 16 → cp' j = nI (cq_Q Yscr L j)) → wY_compile_94 post (wY_compile_16 post f) (nI k) (nI (cq_Q Yscr L k)) (nI k) Yquiet Yfuel (nI L) YinpLen 0 0 YoutLen YpatLen YholdLen YlinesRead YstepsUsed Ytflag YnAddr1 Ya1K1 Ya1V1 Ya2K1 Ya2V1 Ycc1 YlabS1 YlabL1 YsRe1 YsRep1 YadK1 YadV1 Yneg1 YsG1 YicN1 Yna1 YanS1 YanE1 YmJ1 YrLen1 Yscr Yinp cp' Yout Ypat Yhold Yactive Yact Yic1 Yie1 YaC1 YaAny1 YaSt1 Yrch1 Ynx1 Yrb1 := by
        intro cp' hcp'
        refine nm_r (nI_1 k) ?_
        refine ym_pd hL hc (Nat.le_of_lt w) ?_ ?_
        · intro d hx YnAddr2 Ya1K2 Ya1V2 Ya2K2 Ya2V2 Ycc2 YlabS2 YlabL2 YsRe2 YsRep2 YadK2 YadV2 Yneg2 YsG2 YicN2 Yna2 YanS2 YanE2 YmJ2 YrLen2 Yic2 Yie2 YaC2 YaAny2 YaSt2 Yrch2 Ynx2 Yrb2
          have fd := cm_x_f (Nat.le_of_lt w) hx
          have hG' := cq_Gs hG w hx
          have m := (cq_mono (k + 1) hG' k (by omega)).2
          have q1 := cq_Q_le Yscr L (k + 1)
          refine br_t (nI_pos' (by omega)) (nm_r (nI_1 k) ?_)
          exact ih (k + 1) (by omega) (by omega) hG' d.2.2.2 fd.2.1 (cq_s hx).2.symm cp' YnAddr2 Ya1K2 Ya1V2 Ya2K2 Ya2V2 Ycc2 YlabS2 YlabL2 YsRe2 YsRep2 YadK2 YadV2 Yneg2 YsG2 YicN2 Yna2 YanS2 YanE2 YmJ2 YrLen2 Yic2 Yie2 YaC2 YaAny2 YaSt2 Yrch2 Ynx2 Yrb2 hcp'
        · intro hx YnAddr2 Ya1K2 Ya1V2 Ya2K2 Ya2V2 Ycc2 YlabS2 YlabL2 YsRe2 YsRep2 YadK2 YadV2 Yneg2 YsG2 YicN2 Yna2 YanS2 YanE2 YmJ2 YrLen2 Yic2 Yie2 YaC2 YaAny2 YaSt2 Yrch2 Ynx2 Yrb2
          exact br_f (by decide) (hb (fun n h => absurd h (cq_bx hG w hx n)) cp' YnAddr2 Ya1K2 Ya1V2 Ya2K2 Ya2V2 Ycc2 YlabS2 YlabL2 YsRe2 YsRep2 YadK2 YadV2 Yneg2 YsG2 YicN2 Yna2 YanS2 YanE2 YmJ2 YrLen2 Yic2 Yie2 YaC2 YaAny2 YaSt2 Yrch2 Ynx2 Yrb2)
      refine pk_le 16 k (fun w16 => h94 cp (fun j hj h16 => hcp j (by omega) h16)) (fun w16 => ⟨pk_in k 16 (by omega), nm_e ?_⟩)
      rw [nI_clamp (by omega)]
      refine h94 _ (fun j hj h16 => ?_)
      by_cases z : j = k
      · rw [z, pk_us]
      · rw [pk_un z]; exact hcp j (by omega) h16
    · rcases Nat.lt_or_ge 16 k with z | z
      · exact br_f (fun y => absurd ((nI_leI (b := 16) (by omega) (by decide)).mp y) (by omega)) (hb (fun n h => absurd h (cq_bn hG z n)) cp YnAddr1 Ya1K1 Ya1V1 Ya2K1 Ya2V1 Ycc1 YlabS1 YlabL1 YsRe1 YsRep1 YadK1 YadV1 Yneg1 YsG1 YicN1 Yna1 YanS1 YanE1 YmJ1 YrLen1 Yic1 Yie1 YaC1 YaAny1 YaSt1 Yrch1 Ynx1 Yrb1)
      · have hN : cq_N Yscr L k := ⟨hG, w, z⟩
        refine ym_115 hL hc hN (fun j hj => hcp j hj (by omega)) (fun h => hg k cp hN h (fun j hj => hcp j hj (by omega))) (fun h => hb (fun n' hn' => ?_) cp)
        have e : n' = k := by
          rcases Nat.lt_trichotomy n' k with y | y | y
          · have := (hG n' y).1; have := hn'.2.1; omega
          · exact y
          · have := (hn'.1 k y).1; omega
        rw [e]; exact h
  refine ⟨L - p + 1, ?_⟩
  rw [← hpq] at h70
  refine sc_loop (fun n q => wY_compile_23 post (wY_compile_16 post f) (nI k) (nI k) Yquiet Yfuel (nI L) YinpLen 0 0 YoutLen YpatLen YholdLen YlinesRead YstepsUsed Ytflag YnAddr1 Ya1K1 Ya1V1 Ya2K1 Ya2V1 Ycc1 YlabS1 YlabL1 YsRe1 YsRep1 YadK1 YadV1 Yneg1 YsG1 YicN1 Yna1 YanS1 YanE1 YmJ1 YrLen1 Yscr Yinp cp Yout Ypat Yhold Yactive Yact Yic1 Yie1 YaC1 YaAny1 YaSt1 Yrch1 Ynx1 Yrb1 n (nI q)) (pb_z Yscr) L (fun q => wY_compile_70 post (wY_compile_16 post f) (nI k) (nI q) (nI k) Yquiet Yfuel (nI L) YinpLen 0 0 YoutLen YpatLen YholdLen YlinesRead YstepsUsed Ytflag YnAddr1 Ya1K1 Ya1V1 Ya2K1 Ya2V1 Ycc1 YlabS1 YlabL1 YsRe1 YsRep1 YadK1 YadV1 Yneg1 YsG1 YicN1 Yna1 YanS1 YanE1 YmJ1 YrLen1 Yscr Yinp cp Yout Ypat Yhold Yactive Yact Yic1 Yie1 YaC1 YaAny1 YaSt1 Yrch1 Ynx1 Yrb1) ?_ ?_ (L - p + 1) p hp (by omega) h70
  · intro n q hq hp hW
    have hp := of_decide_eq_true hp
    have hi : vp_in (nI q) 128 := pk_in q 128 (by omega)
    refine br_f (nI_ge hq (by omega)) ⟨hi, ?_⟩
    rw [nI_clamp (by omega)]
    refine br_c (fun _ => nm_r (nI_1 q) hW) (fun h1 => ⟨hi, br_c (fun _ => nm_r (nI_1 q) hW) (fun h2 => ⟨hi, br_t ?_ (nm_r (nI_1 q) hW)⟩)⟩)
    rcases hp with z | z | z
    · exact absurd z h1
    · exact absurd z h2
    · exact z
  · intro n q hq hp hR
    have hi : q < L → vp_in (nI q) 128 := fun g => pk_in q 128 (by omega)
    refine pk_le L q (fun g => hR) (fun g => ⟨hi g, ?_⟩)
    have hp := of_decide_eq_false (hp g)
    rw [nI_clamp (by omega)]
    exact br_f (fun z => hp (Or.inl z)) ⟨hi g, br_f (fun z => hp (Or.inr (Or.inl z))) ⟨hi g, br_f (fun z => hp (Or.inr (Or.inr z))) hR⟩⟩
theorem ym_compile {L : Nat} {post : Int32 → SY → Prop} (hL : L ≤ 128) (hc : ch_ok Yscr L)
    (hg : ∀ n cp, cq_N Yscr L n → lb_1 Yscr L n ∧ lb_2 Yscr L n → (∀ j, j < n → cp j = nI (cq_Q Yscr L j)) → ∀ YnAddr1 Ya1K1 Ya1V1 Ya2K1 Ya2V1 Ycc1 YlabS1 YlabL1 YsRe1 YsRep1 YadK1 YadV1 Yneg1 YsG1 YicN1 Yna1 YanS1 YanE1 YmJ1 YrLen1 Yic1 Yie1 YaC1 YaAny1 YaSt1 Yrch1 Ynx1 Yrb1, post (nI n) (Yquiet, Yfuel, nI L, YinpLen, 1, nI n, YoutLen, YpatLen, YholdLen, YlinesRead, YstepsUsed, Ytflag, YnAddr1, Ya1K1, Ya1V1, Ya2K1, Ya2V1, Ycc1, YlabS1, YlabL1, YsRe1, YsRep1, YadK1, YadV1, Yneg1, YsG1, YicN1, Yna1, YanS1, YanE1, YmJ1, YrLen1, Yscr, Yinp, cp, Yout, Ypat, Yhold, Yactive, Yact, Yic1, Yie1, YaC1, YaAny1, YaSt1, Yrch1, Ynx1, Yrb1))
    (hb : (∀ n, cq_N Yscr L n → ¬ (lb_1 Yscr L n ∧ lb_2 Yscr L n)) → ∀ cp YnAddr1 Ya1K1 Ya1V1 Ya2K1 Ya2V1 Ycc1 YlabS1 YlabL1 YsRe1 YsRep1 YadK1 YadV1 Yneg1 YsG1 YicN1 Yna1 YanS1 YanE1 YmJ1 YrLen1 Yic1 Yie1 YaC1 YaAny1 YaSt1 Yrch1 Ynx1 Yrb1, post (-1) (Yquiet, Yfuel, nI L, YinpLen, 0, 0, YoutLen, YpatLen, YholdLen, YlinesRead, YstepsUsed, Ytflag, YnAddr1, Ya1K1, Ya1V1, Ya2K1, Ya2V1, Ycc1, YlabS1, YlabL1, YsRe1, YsRep1, YadK1, YadV1, Yneg1, YsG1, YicN1, Yna1, YanS1, YanE1, YmJ1, YrLen1, Yscr, Yinp, cp, Yout, Ypat, Yhold, Yactive, Yact, Yic1, Yie1, YaC1, YaAny1, YaSt1, Yrch1, Ynx1, Yrb1)) :
    wpY_compile post (Yquiet, Yfuel, nI L, YinpLen, YhasTab, YnCmd, YoutLen, YpatLen, YholdLen, YlinesRead, YstepsUsed, Ytflag, YnAddr, Ya1K, Ya1V, Ya2K, Ya2V, Ycc, YlabS, YlabL, YsRe, YsRep, YadK, YadV, Yneg, YsG, YicN, Yna, YanS, YanE, YmJ, YrLen, Yscr, Yinp, YcmdPos, Yout, Ypat, Yhold, Yactive, Yact, Yic, Yie, YaC, YaAny, YaSt, Yrch, Ynx, Yrb) := by
  unfold wpY_compile
  exact ⟨L + 2, ym_16 hL hc hg hb (L + 2) 0 (by omega) (by omega) (fun j hj => absurd hj (by omega)) 0 (by omega) rfl YcmdPos YnAddr Ya1K Ya1V Ya2K Ya2V Ycc YlabS YlabL YsRe YsRep YadK YadV Yneg YsG YicN Yna YanS YanE YmJ YrLen Yic Yie YaC YaAny YaSt Yrch Ynx Yrb (fun j hj => absurd hj (by omega))⟩
end YE_1
end
section
/-! X's matching -/
section XM_1
variable {Xquiet Xfuel XscriptSize XinputSize Xcursor XitemCount XtablePresent XcommandCount XoutputSize XpatternSize XholdSize XlineNumber XstepCount XnextLine Xpointer Xsubstituted XresultSize : Int32} {Xscript Xinput Xitems Xverb Xnegated Xeverywhere XlabelStart XlabelSize Xtarget XreplacementStart XreplacementEnd Xreplacement Xaddress XstartAnchor XendAnchor XatomCount XatomChar XatomStarred Xoutput Xpattern Xhold XactivationLine Xresult : Nat → Int32}
def mt_lo (i : Nat) : Option Nat → Int32
  | none => -1
  | some d => nI (i + d)
def mt_o1 : Option (Nat × Nat) → Int32
  | none => -1
  | some r => nI r.1
/-- the bits of the next column when the first a atoms have been seen -/
def mt_nb (T ch st : Nat → Int32) (i na d a m : Nat) : Bool := (decide (m < a) && (mt_b st m && (mt_P T ch st i na m d && mt_f T ch m (i + d)))) || (decide (0 < m ∧ m < a + 1) && (!mt_b st (m - 1) && (mt_P T ch st i na (m - 1) d && mt_f T ch (m - 1) (i + d))))
theorem mt_nb0 (T ch st : Nat → Int32) (i na d m : Nat) : mt_nb T ch st i na d 0 m = false := by
  unfold mt_nb
  rw [decide_eq_false (show ¬ m < 0 by omega), decide_eq_false (show ¬ (0 < m ∧ m < 0 + 1) by omega)]
  rfl
theorem mt_nbn (T ch st : Nat → Int32) (i na d m : Nat) (hm : m ≤ na) : mt_nb T ch st i na d na m = mt_C T ch st i na m (d + 1) := by
  unfold mt_nb mt_C
  congr 2
  by_cases h : 0 < m
  · rw [decide_eq_true h, decide_eq_true (show 0 < m ∧ m < na + 1 by omega)]
  · rw [decide_eq_false h, decide_eq_false (show ¬ (0 < m ∧ m < na + 1) by omega)]
/-- one atom more: nothing, or one bit -/
theorem mt_nbs (T ch st : Nat → Int32) (i na d a m : Nat) : mt_nb T ch st i na d (a + 1) m = (mt_nb T ch st i na d a m || (decide (m = if mt_b st a = true then a else a + 1) && (mt_P T ch st i na a d && mt_f T ch a (i + d)))) := by
  unfold mt_nb
  by_cases h1 : m = a
  · subst h1
    rw [decide_eq_true (show m < m + 1 by omega), decide_eq_false (show ¬ m < m by omega)]
    have e : decide (0 < m ∧ m < m + 1 + 1) = decide (0 < m ∧ m < m + 1) := by
      by_cases y : 0 < m
      · rw [decide_eq_true (show 0 < m ∧ m < m + 1 + 1 by omega), decide_eq_true (show 0 < m ∧ m < m + 1 by omega)]
      · rw [decide_eq_false (show ¬ (0 < m ∧ m < m + 1 + 1) by omega), decide_eq_false (show ¬ (0 < m ∧ m < m + 1) by omega)]
    rw [e]
    cases hb : mt_b st m with
    | true => rw [if_pos rfl, decide_eq_true rfl]; simp [Bool.or_comm]
    | false => rw [if_neg (by decide), decide_eq_false (show ¬ m = m + 1 by omega)]; simp
  · by_cases h2 : m = a + 1
    · subst h2
      rw [decide_eq_false (show ¬ a + 1 < a + 1 by omega), decide_eq_false (show ¬ a + 1 < a by omega), decide_eq_true (show 0 < a + 1 ∧ a + 1 < a + 1 + 1 by omega), decide_eq_false (show ¬ (0 < a + 1 ∧ a + 1 < a + 1) by omega), Nat.add_sub_cancel]
      cases hb : mt_b st a with
      | true => rw [if_pos rfl, decide_eq_false (show ¬ a + 1 = a by omega)]; simp
      | false => rw [if_neg (by decide), decide_eq_true rfl]; simp
    · have e1 : decide (m < a + 1) = decide (m < a) := by
        by_cases y : m < a
        · rw [decide_eq_true y, decide_eq_true (by omega)]
        · rw [decide_eq_false y, decide_eq_false (by omega)]
      have e2 : decide (0 < m ∧ m < a + 1 + 1) = decide (0 < m ∧ m < a + 1) := by
        by_cases y : 0 < m ∧ m < a + 1
        · rw [decide_eq_true y, decide_eq_true (by omega)]
        · rw [decide_eq_false y, decide_eq_false (by omega)]
      rw [e1, e2, decide_eq_false (show ¬ m = if mt_b st a = true then a else a + 1 by split <;> omega)]
      simp
theorem xm_37 {j n na anE i d : Nat} {ch st : Nat → Int32} {post : Int32 → Prop} {J : Int32 → Int32 → Int32 → Prop} (hj : j < 48) (hn : n ≤ 64) (hna : na ≤ 12) (hid : i + d ≤ n) (hE : XendAnchor j = nI anE) (hE1 : anE ≤ 1) (hA : ∀ a, a < na → XatomChar (j * 12 + a) = ch a ∧ XatomStarred (j * 12 + a) = st a)
    (hJ : ∀ x8, (i + d < n → ∀ m, m ≤ na → bt x8 m = mt_C Xpattern ch st i na m (d + 1)) → J (mt_lo i (mt_g (mt_Q Xpattern n ch st na anE i) (d + 1))) x8 (nI (i + d + 1))) :
    ∀ f a x6 x8, na - a < f → a ≤ na → (∀ m, m ≤ a → bt x6 m = mt_P Xpattern ch st i na m d) → (∀ m, a < m → m ≤ na → bt x6 m = mt_C Xpattern ch st i na m d) → (i + d < n → ∀ m, m ≤ na → bt x8 m = mt_nb Xpattern ch st i na d a m) →
      wX_longestMatchEnd_37 post J (nI j) (nI na) (nI (j * 12)) (mt_lo i (mt_g (mt_Q Xpattern n ch st na anE i) d)) (nI (i + d)) Xquiet Xfuel XscriptSize XinputSize Xcursor XitemCount XtablePresent XcommandCount XoutputSize (nI n) XholdSize XlineNumber XstepCount XnextLine Xpointer Xsubstituted XresultSize Xscript Xinput Xitems Xverb Xnegated Xeverywhere XlabelStart XlabelSize Xtarget XreplacementStart XreplacementEnd Xreplacement Xaddress XstartAnchor XendAnchor XatomCount XatomChar XatomStarred Xoutput Xpattern Xhold XactivationLine Xresult f x6 x8 (nI a) := by
  intro f
  induction f with
  | zero => intro a x6 x8 h; exact absurd h (Nat.not_lt_zero _)
  | succ f ih =>
  intro a x6 x8 hf ha h1 h2 h3
  refine pk_le na a (fun w => ?_) (fun w => ?_)
  · have e : a = na := by omega
    subst e
    have hR : bt x6 a = mt_R Xpattern ch st i a d := by rw [h1 a (Nat.le_refl _), mt_P_na]
    have hx8 : i + d < n → ∀ m, m ≤ a → bt x8 m = mt_C Xpattern ch st i a m (d + 1) := fun y m hm => by rw [h3 y m hm, mt_nbn _ _ _ _ _ _ _ hm]
    have go := hJ x8 hx8
    have hQ : mt_Q Xpattern n ch st a anE i d = (mt_R Xpattern ch st i a d && (decide (anE = 0) || decide (i + d = n))) := rfl
    have yes : mt_Q Xpattern n ch st a anE i d = true → J (nI (i + d)) x8 (nI (i + d + 1)) := fun q => by rw [mt_g, if_pos q] at go; exact go
    have no : ¬ mt_Q Xpattern n ch st a anE i d = true → J (mt_lo i (mt_g (mt_Q Xpattern n ch st a anE i) d)) x8 (nI (i + d + 1)) := fun q => by rw [mt_g, if_neg q] at go; exact go
    by_cases hb : bt x6 a = true
    · refine br_t ((mt_tst x6 a (by omega)).mpr hb) ⟨pk_in j 48 hj, ?_⟩
      rw [hb] at hR
      rw [nI_clamp (by omega), hE]
      refine pk_eq anE 0 (fun e0 => nm_r (nI_1 (i + d)) (yes (by rw [hQ, ← hR, decide_eq_true e0]; rfl))) (fun e0 => pk_eq (i + d) n (fun en => nm_r (nI_1 (i + d)) (yes (by rw [hQ, ← hR, decide_eq_true en]; simp))) (fun en => nm_r (nI_1 (i + d)) (no (by rw [hQ, decide_eq_false e0, decide_eq_false en]; simp))))
    · refine br_f (fun y => hb ((mt_tst x6 a (by omega)).mp y)) (nm_r (nI_1 (i + d)) (no (fun q => hb ?_)))
      rw [hR]
      rw [hQ] at q
      exact (Bool.and_eq_true _ _ ▸ q).1
  · have hP := h1 a (Nat.le_refl _)
    by_cases hb : bt x6 a = true
    · rw [hb] at hP
      refine br_t ((mt_tst x6 a (by omega)).mpr hb) ?_
      refine nm_r (nI_add (j * 12) a) ⟨vp_in_nI (by omega) (by omega), ?_⟩
      obtain ⟨hc, hs⟩ := hA a w
      have cl : (nI (j * 12 + a)).toNatClampNeg = j * 12 + a := nI_clamp (by omega)
      have vi : vp_in (nI (j * 12 + a)) 576 := vp_in_nI (by omega) (by omega)
      rw [cl, hs]
      have nxt : ∀ x6' x8', (∀ m, m ≤ na → bt x6' m = (bt x6 m || (decide (m = a + 1) && mt_b st a))) → (i + d < n → ∀ m, m ≤ na → bt x8' m = (bt x8 m || (decide (m = if mt_b st a = true then a else a + 1) && mt_f Xpattern ch a (i + d)))) → wX_longestMatchEnd_37 post J (nI j) (nI na) (nI (j * 12)) (mt_lo i (mt_g (mt_Q Xpattern n ch st na anE i) d)) (nI (i + d)) Xquiet Xfuel XscriptSize XinputSize Xcursor XitemCount XtablePresent XcommandCount XoutputSize (nI n) XholdSize XlineNumber XstepCount XnextLine Xpointer Xsubstituted XresultSize Xscript Xinput Xitems Xverb Xnegated Xeverywhere XlabelStart XlabelSize Xtarget XreplacementStart XreplacementEnd Xreplacement Xaddress XstartAnchor XendAnchor XatomCount XatomChar XatomStarred Xoutput Xpattern Xhold XactivationLine Xresult f x6' x8' (nI (a + 1)) := by
        intro x6' x8' g6 g8
        refine ih (a + 1) x6' x8' (by omega) (by omega) (fun m hm => ?_) (fun m hm1 hm2 => ?_) (fun y m hm => ?_)
        · rw [g6 m (by omega)]
          by_cases z : m = a + 1
          · rw [z, decide_eq_true rfl, Bool.true_and, h2 (a + 1) (by omega) (by omega), mt_P_C _ _ _ _ _ (a + 1) _ (by omega), Nat.add_sub_cancel, ← hP, decide_eq_true (Nat.succ_pos a), Bool.true_and, Bool.and_true]
          · rw [decide_eq_false z, Bool.false_and, Bool.or_false]; exact h1 m (by omega)
        · rw [g6 m (by omega), decide_eq_false (by omega), Bool.false_and, Bool.or_false]; exact h2 m (by omega) hm2
        · rw [g8 y m hm, mt_nbs, h3 y m hm, ← hP, Bool.true_and]
      have h80 : ∀ x6', (∀ m, m ≤ na → bt x6' m = (bt x6 m || (decide (m = a + 1) && mt_b st a))) → wX_longestMatchEnd_80 post J (wX_longestMatchEnd_37 post J (nI j) (nI na) (nI (j * 12)) (mt_lo i (mt_g (mt_Q Xpattern n ch st na anE i) d)) (nI (i + d)) Xquiet Xfuel XscriptSize XinputSize Xcursor XitemCount XtablePresent XcommandCount XoutputSize (nI n) XholdSize XlineNumber XstepCount XnextLine Xpointer Xsubstituted XresultSize Xscript Xinput Xitems Xverb Xnegated Xeverywhere XlabelStart XlabelSize Xtarget XreplacementStart XreplacementEnd Xreplacement Xaddress XstartAnchor XendAnchor XatomCount XatomChar XatomStarred Xoutput Xpattern Xhold XactivationLine Xresult f) (nI j) (nI na) (nI (j * 12)) (mt_lo i (mt_g (mt_Q Xpattern n ch st na anE i) d)) x6' (nI (i + d)) x8 (nI a) (nI (j * 12 + a)) Xquiet Xfuel XscriptSize XinputSize Xcursor XitemCount XtablePresent XcommandCount XoutputSize (nI n) XholdSize XlineNumber XstepCount XnextLine Xpointer Xsubstituted XresultSize Xscript Xinput Xitems Xverb Xnegated Xeverywhere XlabelStart XlabelSize Xtarget XreplacementStart XreplacementEnd Xreplacement Xaddress XstartAnchor XendAnchor XatomCount XatomChar XatomStarred Xoutput Xpattern Xhold XactivationLine Xresult := by
        intro x6' g6
        refine pk_le n (i + d) (fun y => nm_r (nI_1 a) (nxt x6' x8 g6 (fun z => by omega))) (fun y => ⟨vi, ?_⟩)
        rw [cl, hc]
        have h117 : mt_f Xpattern ch a (i + d) = true → wX_longestMatchEnd_117 post J (wX_longestMatchEnd_37 post J (nI j) (nI na) (nI (j * 12)) (mt_lo i (mt_g (mt_Q Xpattern n ch st na anE i) d)) (nI (i + d)) Xquiet Xfuel XscriptSize XinputSize Xcursor XitemCount XtablePresent XcommandCount XoutputSize (nI n) XholdSize XlineNumber XstepCount XnextLine Xpointer Xsubstituted XresultSize Xscript Xinput Xitems Xverb Xnegated Xeverywhere XlabelStart XlabelSize Xtarget XreplacementStart XreplacementEnd Xreplacement Xaddress XstartAnchor XendAnchor XatomCount XatomChar XatomStarred Xoutput Xpattern Xhold XactivationLine Xresult f) (nI j) (nI na) (nI (j * 12)) (mt_lo i (mt_g (mt_Q Xpattern n ch st na anE i) d)) x6' (nI (i + d)) x8 (nI a) (nI (j * 12 + a)) Xquiet Xfuel XscriptSize XinputSize Xcursor XitemCount XtablePresent XcommandCount XoutputSize (nI n) XholdSize XlineNumber XstepCount XnextLine Xpointer Xsubstituted XresultSize Xscript Xinput Xitems Xverb Xnegated Xeverywhere XlabelStart XlabelSize Xtarget XreplacementStart XreplacementEnd Xreplacement Xaddress XstartAnchor XendAnchor XatomCount XatomChar XatomStarred Xoutput Xpattern Xhold XactivationLine Xresult := by
          intro hfit
          refine ⟨vi, ?_⟩
          rw [cl, hs]
          refine br_c (fun s0 => nm_e (nm_r (nI_1 a) (nxt x6' _ g6 (fun _ m hm => ?_)))) (fun s0 => nm_e (nm_r (nI_1 a) (nxt x6' _ g6 (fun _ m hm => ?_))))
          · rw [mt_or2 _ _ _ (by omega) (by omega), hfit, Bool.and_true, if_neg (by unfold mt_b; rw [decide_eq_false (fun z => z s0)]; decide)]
          · rw [mt_or1 _ _ _ (by omega) (by omega), hfit, Bool.and_true, if_pos (by unfold mt_b; rw [decide_eq_true s0])]
        refine br_c (fun c1 => h117 (by unfold mt_f; rw [decide_eq_true c1]; rfl)) (fun c1 => ⟨vi, vp_in_nI (by omega) (by omega), ?_⟩)
        rw [nI_clamp (show i + d < 2 ^ 31 by omega)]
        refine br_c (fun c2 => h117 (by unfold mt_f; rw [decide_eq_true c2]; simp)) (fun c2 => nm_r (nI_1 a) (nxt x6' x8 g6 (fun _ m hm => ?_)))
        rw [show mt_f Xpattern ch a (i + d) = false by unfold mt_f; rw [decide_eq_false c1, decide_eq_false c2]; rfl, Bool.and_false, Bool.or_false]
      refine br_c (fun s0 => h80 x6 (fun m hm => ?_)) (fun s0 => nm_e (h80 _ (fun m hm => ?_)))
      · rw [show mt_b st a = false by unfold mt_b; rw [decide_eq_false (fun z => z s0)], Bool.and_false, Bool.or_false]
      · rw [mt_or2 _ _ _ (by omega) (by omega), show mt_b st a = true by unfold mt_b; rw [decide_eq_true s0], Bool.and_true]
    · refine br_f (fun y => hb ((mt_tst x6 a (by omega)).mp y)) (nm_r (nI_1 a) ?_)
      have hP' : mt_P Xpattern ch st i na a d = false := by
        rw [← hP]
        cases hz : bt x6 a
        · rfl
        · exact absurd hz hb
      refine ih (a + 1) x6 x8 (by omega) (by omega) (fun m hm => ?_) (fun m hm1 hm2 => h2 m (by omega) hm2) (fun y m hm => ?_)
      · by_cases z : m = a + 1
        · rw [z, h2 (a + 1) (by omega) (by omega), mt_P_C _ _ _ _ _ (a + 1) _ (by omega), Nat.add_sub_cancel, hP', Bool.and_false, Bool.and_false, Bool.or_false]
        · exact h1 m (by omega)
      · rw [mt_nbs, h3 y m hm, hP', Bool.false_and, Bool.and_false, Bool.or_false]
theorem xm_longest {j n i : Nat} {g : Nat × Nat × Nat × Nat × (Nat → Int32) × (Nat → Int32)} {post : Int32 → Prop} (hj : j < 48) (hn : n ≤ 64) (hi : i ≤ n) (hR : tb_R XstartAnchor XendAnchor XatomCount XatomChar XatomStarred j g) (h12 : g.2.2.2.1 ≤ 12) (hE1 : g.2.2.1 ≤ 1)
    (h : post (mt_lo i (mt_l Xpattern n g.2.2.2.2.1 g.2.2.2.2.2 g.2.2.2.1 g.2.2.1 i))) : wpX_longestMatchEnd post (Xquiet, Xfuel, XscriptSize, XinputSize, Xcursor, XitemCount, XtablePresent, XcommandCount, XoutputSize, nI n, XholdSize, XlineNumber, XstepCount, XnextLine, Xpointer, Xsubstituted, XresultSize, Xscript, Xinput, Xitems, Xverb, Xnegated, Xeverywhere, XlabelStart, XlabelSize, Xtarget, XreplacementStart, XreplacementEnd, Xreplacement, Xaddress, XstartAnchor, XendAnchor, XatomCount, XatomChar, XatomStarred, Xoutput, Xpattern, Xhold, XactivationLine, Xresult) (nI j) (nI i) := by
  obtain ⟨r1, r2, r3, r4⟩ := hR
  unfold wpX_longestMatchEnd
  refine ⟨pk_in j 48 hj, ?_⟩
  rw [nI_clamp (by omega), r3]
  refine nm_e (nm_r (pk_mul j 12) ⟨n + 2, ?_⟩)
  have h1 : ∀ m, m < 32 → bt 1 m = decide (m = 0) := by decide +kernel
  have loop : ∀ f d x6, n + 1 - (i + d) < f → i + d ≤ n + 1 → (i + d ≤ n → ∀ m, m ≤ g.2.2.2.1 → bt x6 m = mt_C Xpattern g.2.2.2.2.1 g.2.2.2.2.2 i g.2.2.2.1 m d) → wX_longestMatchEnd_22 post (nI j) (nI g.2.2.2.1) (nI (j * 12)) Xquiet Xfuel XscriptSize XinputSize Xcursor XitemCount XtablePresent XcommandCount XoutputSize (nI n) XholdSize XlineNumber XstepCount XnextLine Xpointer Xsubstituted XresultSize Xscript Xinput Xitems Xverb Xnegated Xeverywhere XlabelStart XlabelSize Xtarget XreplacementStart XreplacementEnd Xreplacement Xaddress XstartAnchor XendAnchor XatomCount XatomChar XatomStarred Xoutput Xpattern Xhold XactivationLine Xresult f (mt_lo i (mt_g (mt_Q Xpattern n g.2.2.2.2.1 g.2.2.2.2.2 g.2.2.2.1 g.2.2.1 i) d)) x6 (nI (i + d)) := by
    intro f
    induction f with
    | zero => intro d x6 h; exact absurd h (Nat.not_lt_zero _)
    | succ f ih =>
    intro d x6 hf hd hx
    refine pk_lt n (i + d) (fun w => ?_) (fun w => ⟨g.2.2.2.1 + 1, ?_⟩)
    · unfold mt_l at h
      rw [show n + 1 - i = d by omega] at h
      exact h
    · refine xm_37 hj hn h12 w r2 hE1 r4 (fun x8 h8 => ?_) (g.2.2.2.1 + 1) 0 x6 0 (by omega) (by omega) (fun m hm => ?_) (fun m hm1 hm2 => hx w m hm2) (fun y m hm => ?_)
      · exact ih (d + 1) x8 (by omega) (by omega) (fun y m hm => h8 (by omega) m hm)
      · rw [show m = 0 by omega, hx w 0 (by omega), mt_P_C _ _ _ _ _ 0 _ (by omega)]
        simp
      · rw [mt_nb0, b_0]
  exact loop (n + 2) 0 1 (by omega) (by omega) (fun _ m hm => by rw [h1 m (by omega)]; rfl)
theorem xm_findMatch {j n p : Nat} {g : Nat × Nat × Nat × Nat × (Nat → Int32) × (Nat → Int32)} {post : Int32 → Prop} (hj : j < 48) (hn : n ≤ 64) (hp : p ≤ n + 1) (hR : tb_R XstartAnchor XendAnchor XatomCount XatomChar XatomStarred j g) (h12 : g.2.2.2.1 ≤ 12) (hS1 : g.2.1 ≤ 1) (hE1 : g.2.2.1 ≤ 1)
    (h : post (mt_o1 (mt_1 Xpattern n g.2.2.2.2.1 g.2.2.2.2.2 g.2.2.2.1 g.2.1 g.2.2.1 p))) : wpX_findMatch post (Xquiet, Xfuel, XscriptSize, XinputSize, Xcursor, XitemCount, XtablePresent, XcommandCount, XoutputSize, nI n, XholdSize, XlineNumber, XstepCount, XnextLine, Xpointer, Xsubstituted, XresultSize, Xscript, Xinput, Xitems, Xverb, Xnegated, Xeverywhere, XlabelStart, XlabelSize, Xtarget, XreplacementStart, XreplacementEnd, Xreplacement, Xaddress, XstartAnchor, XendAnchor, XatomCount, XatomChar, XatomStarred, Xoutput, Xpattern, Xhold, XactivationLine, Xresult) (nI j) (nI p) := by
  have hR0 := hR
  obtain ⟨r1, r2, r3, r4⟩ := hR
  have nn : ∀ x : Nat, x < 2 ^ 31 → ¬ nI x = -1 := fun x hx e => absurd (nI_pos (n := x) hx) (by rw [e]; exact fun q => q (by decide))
  unfold wpX_findMatch
  refine ⟨pk_in j 48 hj, ?_⟩
  rw [nI_clamp (by omega), r1]
  refine pk_eq g.2.1 0 (fun e0 => ⟨n + 2, ?_⟩) (fun e0 => ⟨2, ?_⟩)
  · have loop : ∀ f i, n + 1 - i < f → i ≤ n + 1 → post (mt_o1 (mt_s (mt_at Xpattern n g.2.2.2.2.1 g.2.2.2.2.2 g.2.2.2.1 g.2.1 g.2.2.1) (n + 1 - i) i)) → wX_findMatch_21 post (nI j) (nI n) Xquiet Xfuel XscriptSize XinputSize Xcursor XitemCount XtablePresent XcommandCount XoutputSize (nI n) XholdSize XlineNumber XstepCount XnextLine Xpointer Xsubstituted XresultSize Xscript Xinput Xitems Xverb Xnegated Xeverywhere XlabelStart XlabelSize Xtarget XreplacementStart XreplacementEnd Xreplacement Xaddress XstartAnchor XendAnchor XatomCount XatomChar XatomStarred Xoutput Xpattern Xhold XactivationLine Xresult f (nI i) := by
      intro f
      induction f with
      | zero => intro i h; exact absurd h (Nat.not_lt_zero _)
      | succ f ih =>
      intro i hf hi hh
      refine pk_lt n i (fun w => ?_) (fun w => ?_)
      · rw [show n + 1 - i = 0 by omega, mt_s] at hh; exact hh
      · obtain ⟨c, hc⟩ : ∃ c, n + 1 - i = c + 1 := ⟨n - i, by omega⟩
        have ea : mt_at Xpattern n g.2.2.2.2.1 g.2.2.2.2.2 g.2.2.2.1 g.2.1 g.2.2.1 i = mt_l Xpattern n g.2.2.2.2.1 g.2.2.2.2.2 g.2.2.2.1 g.2.2.1 i := by
          unfold mt_at; rw [if_neg (fun y => y.1 e0)]
        rw [hc, mt_s, ea] at hh
        refine xm_longest hj hn w hR0 h12 hE1 ?_
        cases hl : mt_l Xpattern n g.2.2.2.2.1 g.2.2.2.2.2 g.2.2.2.1 g.2.2.1 i with
        | none =>
          rw [hl] at hh
          refine br_t rfl (nm_r (nI_1 i) (ih (i + 1) (by omega) (by omega) ?_))
          rw [show n + 1 - (i + 1) = c by omega]
          exact hh
        | some d =>
          rw [hl] at hh
          have := mt_l_lt hl
          exact br_f (nn (i + d) (by omega)) hh
    exact loop (n + 2) p (by omega) hp h
  · rcases Nat.eq_zero_or_pos p with z | z
    · subst z
      rw [mt_1_0 e0] at h
      refine pk_lt 0 0 (fun w => by omega) (fun w => ?_)
      refine xm_longest hj hn (by omega) hR0 h12 hE1 ?_
      cases hl : mt_l Xpattern n g.2.2.2.2.1 g.2.2.2.2.2 g.2.2.2.1 g.2.2.1 0 with
      | none =>
        rw [hl] at h
        exact br_t rfl (nm_r (nI_1 0) (br_t (by decide) h))
      | some d =>
        rw [hl] at h
        have := mt_l_lt hl
        exact br_f (nn (0 + d) (by omega)) h
    · rw [mt_1_anch e0 z] at h
      exact br_t (nI_lt (a := 0) z (by omega)) h
end XM_1
end
section
/-! Y's matching -/
section YM_1
variable {Yquiet Yfuel YscrLen YinpLen YhasTab YnCmd YoutLen YpatLen YholdLen YlinesRead YstepsUsed Ytflag YnAddr Ya1K Ya1V Ya2K Ya2V Ycc YlabS YlabL YsRe YsRep YadK YadV Yneg YsG YicN Yna YanS YanE YmJ YrLen : Int32} {Yscr Yinp YcmdPos Yout Ypat Yhold Yactive Yact Yic Yie YaC YaAny YaSt Yrch Ynx Yrb : Nat → Int32}
def b2_i (b : Bool) : Int32 := if b = true then 1 else 0
theorem b2_01 (b : Bool) : b2_i b = 0 ∨ b2_i b = 1 := by cases b; exact Or.inl rfl; exact Or.inr rfl
theorem b2_0 {b : Bool} : b2_i b = 0 ↔ b = false := by cases b; exact ⟨fun _ => rfl, fun _ => rfl⟩; exact ⟨fun h => absurd h (by decide), fun h => absurd h (by decide)⟩
theorem ym_fits {a na : Nat} {c : Int32} {ch st : Nat → Int32} {post : Int32 → Prop} (h12 : na ≤ 12) (ha : a < na) (hH : ya_H YaC YaAny YaSt (na, ch, st)) (h1 : (decide (ch a = -1) || decide (ch a = c)) = true → post 1) (h0 : (decide (ch a = -1) || decide (ch a = c)) = false → post 0) : wpY_fits post (Yquiet, Yfuel, YscrLen, YinpLen, YhasTab, YnCmd, YoutLen, YpatLen, YholdLen, YlinesRead, YstepsUsed, Ytflag, YnAddr, Ya1K, Ya1V, Ya2K, Ya2V, Ycc, YlabS, YlabL, YsRe, YsRep, YadK, YadV, Yneg, YsG, YicN, Yna, YanS, YanE, YmJ, YrLen, Yscr, Yinp, YcmdPos, Yout, Ypat, Yhold, Yactive, Yact, Yic, Yie, YaC, YaAny, YaSt, Yrch, Ynx, Yrb) (nI a) c := by
  have vi : vp_in (nI a) 12 := pk_in a 12 (by omega)
  have hh := (hH a ha).1
  dsimp only at hh
  unfold wpY_fits
  refine ⟨vi, ?_⟩
  rw [nI_clamp (by omega)]
  rcases hh with ⟨e1, e2, e3⟩ | ⟨e1, e2⟩
  · refine br_t e1 ⟨vi, ?_⟩
    rw [e2]
    exact br_c (fun y => h1 (by rw [decide_eq_true y]; simp)) (fun y => h0 (by rw [decide_eq_false y, decide_eq_false e3]; rfl))
  · exact br_f e1 (h1 (by rw [decide_eq_true e2]; rfl))
theorem ym_248 {n na anE i : Nat} {ch st : Nat → Int32} {post : Int32 → SY → Prop} (hn : n ≤ 64) (hi : i ≤ n) (hE : anE ≤ 1) (hrow : ∀ x, i ≤ x → x ≤ n → Yrch x = b2_i (mt_R Ypat ch st i na (x - i))) :
    ∀ f D x3, D < f → i + D ≤ n + 1 → (D = 0 → x3 = nI i + (-1)) → (∀ D', D = D' + 1 → x3 = nI (i + D')) → post (mt_lo i (mt_g (mt_Q Ypat n ch st na anE i) D)) (Yquiet, Yfuel, YscrLen, YinpLen, YhasTab, YnCmd, YoutLen, YpatLen, YholdLen, YlinesRead, YstepsUsed, Ytflag, YnAddr, Ya1K, Ya1V, Ya2K, Ya2V, Ycc, YlabS, YlabL, YsRe, YsRep, YadK, YadV, Yneg, YsG, YicN, Yna, YanS, nI anE, YmJ, YrLen, Yscr, Yinp, YcmdPos, Yout, Ypat, Yhold, Yactive, Yact, Yic, Yie, YaC, YaAny, YaSt, Yrch, Ynx, Yrb) → wY_matchAt_248 post (nI i) (nI n) Yquiet Yfuel YscrLen YinpLen YhasTab YnCmd YoutLen YpatLen YholdLen YlinesRead YstepsUsed Ytflag YnAddr Ya1K Ya1V Ya2K Ya2V Ycc YlabS YlabL YsRe YsRep YadK YadV Yneg YsG YicN Yna YanS (nI anE) YmJ YrLen Yscr Yinp YcmdPos Yout Ypat Yhold Yactive Yact Yic Yie YaC YaAny YaSt Yrch Ynx Yrb f x3 := by
  intro f
  induction f with
  | zero => intro D x3 h; exact absurd h (Nat.not_lt_zero _)
  | succ f ih =>
  intro D x3 hf hD h0 h1 hp
  cases D with
  | zero =>
    refine br_t ?_ hp
    rw [h0 rfl]
    cases i with
    | zero => decide
    | succ i => rw [pk_m1]; exact nI_lt (by omega) (by omega)
  | succ D =>
    rw [h1 D rfl]
    have nxt : ¬ mt_Q Ypat n ch st na anE i D = true → ∀ x, x = nI (i + D) + (-1) → wY_matchAt_248 post (nI i) (nI n) Yquiet Yfuel YscrLen YinpLen YhasTab YnCmd YoutLen YpatLen YholdLen YlinesRead YstepsUsed Ytflag YnAddr Ya1K Ya1V Ya2K Ya2V Ycc YlabS YlabL YsRe YsRep YadK YadV Yneg YsG YicN Yna YanS (nI anE) YmJ YrLen Yscr Yinp YcmdPos Yout Ypat Yhold Yactive Yact Yic Yie YaC YaAny YaSt Yrch Ynx Yrb f x := by
      intro hq x hx
      refine ih D x (by omega) (by omega) (fun z => by rw [hx, z]; rfl) (fun D' z => by rw [hx, z]; exact pk_m1 (i + D')) ?_
      rw [mt_g, if_neg hq] at hp
      exact hp
    have yes : mt_Q Ypat n ch st na anE i D = true → post (nI (i + D)) (Yquiet, Yfuel, YscrLen, YinpLen, YhasTab, YnCmd, YoutLen, YpatLen, YholdLen, YlinesRead, YstepsUsed, Ytflag, YnAddr, Ya1K, Ya1V, Ya2K, Ya2V, Ycc, YlabS, YlabL, YsRe, YsRep, YadK, YadV, Yneg, YsG, YicN, Yna, YanS, nI anE, YmJ, YrLen, Yscr, Yinp, YcmdPos, Yout, Ypat, Yhold, Yactive, Yact, Yic, Yie, YaC, YaAny, YaSt, Yrch, Ynx, Yrb) := fun hq => by rw [mt_g, if_pos hq] at hp; exact hp
    refine br_f (nI_nlt (by omega) (by omega)) ⟨vp_in_nI (by omega) (by omega), ?_⟩
    rw [nI_clamp (by omega), hrow (i + D) (by omega) (by omega), Nat.add_sub_cancel_left]
    have hQ : mt_Q Ypat n ch st na anE i D = (mt_R Ypat ch st i na D && (decide (anE = 0) || decide (i + D = n))) := rfl
    refine br_c (fun y => fun x hx => nxt (by rw [hQ, b2_0.mp y]; simp) x hx) (fun y => ?_)
    have hr : mt_R Ypat ch st i na D = true := by
      cases e : mt_R Ypat ch st i na D
      · exact absurd (b2_0.mpr e) y
      · rfl
    refine pk_eq anE 0 (fun e0 => yes (by rw [hQ, hr, decide_eq_true e0]; rfl)) (fun e0 => pk_eq (i + D) n (fun en => yes (by rw [hQ, hr, decide_eq_true en]; simp)) (fun en => fun x hx => nxt (by rw [hQ, decide_eq_false e0, decide_eq_false en]; simp) x hx))
theorem ym_214 {n i a : Nat} {R : Nat → Bool} {post : Int32 → SY → Prop} {J : Int32 → (Nat → Int32) → (Nat → Int32) → (Nat → Int32) → (Nat → Int32) → (Nat → Int32) → (Nat → Int32) → (Nat → Int32) → (Nat → Int32) → (Nat → Int32) → (Nat → Int32) → (Nat → Int32) → (Nat → Int32) → (Nat → Int32) → (Nat → Int32) → (Nat → Int32) → (Nat → Int32) → Prop} (hn : n ≤ 64) (ha : a < 12) (hnx : ∀ x, i ≤ x → x ≤ n → Ynx x = b2_i (R (x - i)))
    (hJ : ∀ rch, (∀ x, i ≤ x → x ≤ n → rch x = b2_i (R (x - i))) → J (nI (a + 1)) Yscr Yinp YcmdPos Yout Ypat Yhold Yactive Yact Yic Yie YaC YaAny YaSt rch Ynx Yrb) :
    ∀ f x rch, n + 1 - x < f → i ≤ x → x ≤ n + 1 → (∀ y, i ≤ y → y < x → rch y = b2_i (R (y - i))) → wY_matchAt_214 post J (nI i) (nI n) (nI a) Yquiet Yfuel YscrLen YinpLen YhasTab YnCmd YoutLen YpatLen YholdLen YlinesRead YstepsUsed Ytflag YnAddr Ya1K Ya1V Ya2K Ya2V Ycc YlabS YlabL YsRe YsRep YadK YadV Yneg YsG YicN Yna YanS YanE YmJ YrLen f (nI x) Yscr Yinp YcmdPos Yout Ypat Yhold Yactive Yact Yic Yie YaC YaAny YaSt rch Ynx Yrb := by
  intro f
  induction f with
  | zero => intro x rch h; exact absurd h (Nat.not_lt_zero _)
  | succ f ih =>
  intro x rch hf hix hx hr
  refine pk_lt n x (fun w => nm_r (nI_1 a) (hJ rch (fun y h1 h2 => hr y h1 (by omega)))) (fun w => ?_)
  have vi : vp_in (nI x) 65 := vp_in_nI (by omega) (by omega)
  refine ⟨vi, vi, nm_e (nm_r (nI_1 x) ?_)⟩
  rw [nI_clamp (by omega), hnx x hix w, ba_vb (b2_01 _)]
  refine ih (x + 1) _ (by omega) (by omega) (by omega) (fun y h1 h2 => ?_)
  by_cases z : y = x
  · rw [z, pk_us]
  · rw [pk_un z]; exact hr y h1 (by omega)
theorem ym_152 {n i a na : Nat} {ch st : Nat → Int32} {post : Int32 → SY → Prop} {J : Int32 → (Nat → Int32) → (Nat → Int32) → (Nat → Int32) → (Nat → Int32) → (Nat → Int32) → (Nat → Int32) → (Nat → Int32) → (Nat → Int32) → (Nat → Int32) → (Nat → Int32) → (Nat → Int32) → (Nat → Int32) → (Nat → Int32) → (Nat → Int32) → (Nat → Int32) → (Nat → Int32) → Prop} (hn : n ≤ 64) (h12 : na ≤ 12) (ha : a < na) (hH : ya_H YaC YaAny YaSt (na, ch, st)) (hs : mt_b st a = false) (hrow : ∀ x, i ≤ x → x ≤ n → Yrch x = b2_i (mt_R Ypat ch st i a (x - i)))
    (hJ : ∀ rch nx, (∀ x, i ≤ x → x ≤ n → rch x = b2_i (mt_R Ypat ch st i (a + 1) (x - i))) → J (nI (a + 1)) Yscr Yinp YcmdPos Yout Ypat Yhold Yactive Yact Yic Yie YaC YaAny YaSt rch nx Yrb) :
    ∀ f x nx, n + 1 - x < f → i ≤ x → x ≤ n + 1 → (∀ y, i ≤ y → y < x → nx y = b2_i (mt_R Ypat ch st i (a + 1) (y - i))) → wY_matchAt_152 post J (nI i) (nI n) (nI a) Yquiet Yfuel YscrLen YinpLen YhasTab YnCmd YoutLen YpatLen YholdLen YlinesRead YstepsUsed Ytflag YnAddr Ya1K Ya1V Ya2K Ya2V Ycc YlabS YlabL YsRe YsRep YadK YadV Yneg YsG YicN Yna YanS YanE YmJ YrLen f (nI x) Yscr Yinp YcmdPos Yout Ypat Yhold Yactive Yact Yic Yie YaC YaAny YaSt Yrch nx Yrb := by
  intro f
  induction f with
  | zero => intro x nx h; exact absurd h (Nat.not_lt_zero _)
  | succ f ih =>
  intro x nx hf hix hx hr
  refine pk_lt n x (fun w => ⟨n + 2, ?_⟩) (fun w => ?_)
  · exact ym_214 (R := mt_R Ypat ch st i (a + 1)) hn (by omega) (fun y h1 h2 => hr y h1 (by omega)) (fun rch h => hJ rch nx h) (n + 2) i Yrch (by omega) (Nat.le_refl _) (by omega) (fun y h1 h2 => absurd h2 (by omega))
  · have vi : vp_in (nI x) 65 := vp_in_nI (by omega) (by omega)
    have nxt : ∀ v : Bool, v = mt_R Ypat ch st i (a + 1) (x - i) → wY_matchAt_152 post J (nI i) (nI n) (nI a) Yquiet Yfuel YscrLen YinpLen YhasTab YnCmd YoutLen YpatLen YholdLen YlinesRead YstepsUsed Ytflag YnAddr Ya1K Ya1V Ya2K Ya2V Ycc YlabS YlabL YsRe YsRep YadK YadV Yneg YsG YicN Yna YanS YanE YmJ YrLen f (nI (x + 1)) Yscr Yinp YcmdPos Yout Ypat Yhold Yactive Yact Yic Yie YaC YaAny YaSt Yrch (upd nx x (b2_i v)) Yrb := by
      intro v hv
      refine ih (x + 1) _ (by omega) (by omega) (by omega) (fun y h1 h2 => ?_)
      by_cases z : y = x
      · rw [z, pk_us, hv]
      · rw [pk_un z]; exact hr y h1 (by omega)
    refine pk_le x i (fun wi => ?_) (fun wi => ?_)
    · refine ⟨vi, nm_e (nm_r (nI_1 x) ?_)⟩
      rw [nI_clamp (by omega)]
      exact nxt false (by rw [show x - i = 0 by omega, mt_R, mt_row, hs]; rfl)
    · have e1 : nI x - 1 = nI (x - 1) := by
        obtain ⟨y, rfl⟩ : ∃ y, x = y + 1 := ⟨x - 1, by omega⟩
        exact nI_pred y
      have hrec : mt_R Ypat ch st i (a + 1) (x - i) = (mt_R Ypat ch st i a (x - 1 - i) && mt_f Ypat ch a (x - 1)) := by
        obtain ⟨y, hy⟩ : ∃ y, x - i = y + 1 := ⟨x - i - 1, by omega⟩
        rw [hy, mt_R, mt_row, hs, if_neg (by decide), show x - 1 - i = y by omega, show i + y = x - 1 by omega]
      rw [e1]
      refine ⟨vp_in_nI (by omega) (by omega), ?_⟩
      rw [nI_clamp (show x - 1 < 2 ^ 31 by omega), hrow (x - 1) (by omega) (by omega)]
      refine br_c (fun y => ⟨vi, nm_e (nm_r (nI_1 x) ?_)⟩) (fun y => ⟨vp_in_nI (by omega) (by omega), ?_⟩)
      · rw [nI_clamp (show x < 2 ^ 31 by omega)]
        exact nxt false (by rw [hrec, b2_0.mp y]; rfl)
      · have hr1 : mt_R Ypat ch st i a (x - 1 - i) = true := by
          cases e : mt_R Ypat ch st i a (x - 1 - i)
          · exact absurd (b2_0.mpr e) y
          · rfl
        refine ym_fits h12 ha hH (fun hf' => br_f (by decide) ⟨vi, nm_e (nm_r (nI_1 x) ?_)⟩) (fun hf' => br_t rfl ⟨vi, nm_e (nm_r (nI_1 x) ?_)⟩)
        · rw [nI_clamp (show x < 2 ^ 31 by omega)]
          exact nxt true (by rw [hrec, hr1, show mt_f Ypat ch a (x - 1) = true from hf']; rfl)
        · rw [nI_clamp (show x < 2 ^ 31 by omega)]
          exact nxt false (by rw [hrec, hr1, show mt_f Ypat ch a (x - 1) = false from hf']; rfl)
theorem ym_81 {n i a na : Nat} {ch st : Nat → Int32} {post : Int32 → SY → Prop} {J : Int32 → (Nat → Int32) → (Nat → Int32) → (Nat → Int32) → (Nat → Int32) → (Nat → Int32) → (Nat → Int32) → (Nat → Int32) → (Nat → Int32) → (Nat → Int32) → (Nat → Int32) → (Nat → Int32) → (Nat → Int32) → (Nat → Int32) → (Nat → Int32) → (Nat → Int32) → (Nat → Int32) → Prop} (hn : n ≤ 64) (h12 : na ≤ 12) (ha : a < na) (hH : ya_H YaC YaAny YaSt (na, ch, st)) (hs : mt_b st a = true) (hrow : ∀ x, i ≤ x → x ≤ n → Yrch x = b2_i (mt_R Ypat ch st i a (x - i)))
    (hJ : ∀ rch nx, (∀ x, i ≤ x → x ≤ n → rch x = b2_i (mt_R Ypat ch st i (a + 1) (x - i))) → J (nI (a + 1)) Yscr Yinp YcmdPos Yout Ypat Yhold Yactive Yact Yic Yie YaC YaAny YaSt rch nx Yrb) :
    ∀ f x c nx, n + 1 - x < f → i ≤ x → x ≤ n + 1 → (∀ y, i ≤ y → y < x → nx y = b2_i (mt_R Ypat ch st i (a + 1) (y - i))) → (x = i → c = false) → (∀ y, x = i + (y + 1) → c = mt_R Ypat ch st i (a + 1) y) → wY_matchAt_81 post J (nI i) (nI n) (nI a) Yquiet Yfuel YscrLen YinpLen YhasTab YnCmd YoutLen YpatLen YholdLen YlinesRead YstepsUsed Ytflag YnAddr Ya1K Ya1V Ya2K Ya2V Ycc YlabS YlabL YsRe YsRep YadK YadV Yneg YsG YicN Yna YanS YanE YmJ YrLen f (b2_i c) (nI x) Yscr Yinp YcmdPos Yout Ypat Yhold Yactive Yact Yic Yie YaC YaAny YaSt Yrch nx Yrb := by
  intro f
  induction f with
  | zero => intro x c nx h; exact absurd h (Nat.not_lt_zero _)
  | succ f ih =>
  intro x c nx hf hix hx hr hc0 hc1
  refine pk_lt n x (fun w => ⟨n + 2, ?_⟩) (fun w => ?_)
  · exact ym_214 (R := mt_R Ypat ch st i (a + 1)) hn (by omega) (fun y h1 h2 => hr y h1 (by omega)) (fun rch h => hJ rch nx h) (n + 2) i Yrch (by omega) (Nat.le_refl _) (by omega) (fun y h1 h2 => absurd h2 (by omega))
  · have vi : vp_in (nI x) 65 := vp_in_nI (by omega) (by omega)
    have nxt : ∀ v : Bool, v = mt_R Ypat ch st i (a + 1) (x - i) → wY_matchAt_81 post J (nI i) (nI n) (nI a) Yquiet Yfuel YscrLen YinpLen YhasTab YnCmd YoutLen YpatLen YholdLen YlinesRead YstepsUsed Ytflag YnAddr Ya1K Ya1V Ya2K Ya2V Ycc YlabS YlabL YsRe YsRep YadK YadV Yneg YsG YicN Yna YanS YanE YmJ YrLen f (b2_i v) (nI (x + 1)) Yscr Yinp YcmdPos Yout Ypat Yhold Yactive Yact Yic Yie YaC YaAny YaSt Yrch (upd nx x (b2_i v)) Yrb := by
      intro v hv
      refine ih (x + 1) v _ (by omega) (by omega) (by omega) (fun y h1 h2 => ?_) (fun z => by omega) (fun y hy => by rw [hv, show x - i = y by omega])
      by_cases z : y = x
      · rw [z, pk_us, hv]
      · rw [pk_un z]; exact hr y h1 (by omega)
    have h118 : ∀ c' : Bool, (mt_R Ypat ch st i a (x - i) || c') = mt_R Ypat ch st i (a + 1) (x - i) → wY_matchAt_118 post J (wY_matchAt_81 post J (nI i) (nI n) (nI a) Yquiet Yfuel YscrLen YinpLen YhasTab YnCmd YoutLen YpatLen YholdLen YlinesRead YstepsUsed Ytflag YnAddr Ya1K Ya1V Ya2K Ya2V Ycc YlabS YlabL YsRe YsRep YadK YadV Yneg YsG YicN Yna YanS YanE YmJ YrLen f) (nI i) (nI n) (nI a) (b2_i c') (nI x) Yquiet Yfuel YscrLen YinpLen YhasTab YnCmd YoutLen YpatLen YholdLen YlinesRead YstepsUsed Ytflag YnAddr Ya1K Ya1V Ya2K Ya2V Ycc YlabS YlabL YsRe YsRep YadK YadV Yneg YsG YicN Yna YanS YanE YmJ YrLen Yscr Yinp YcmdPos Yout Ypat Yhold Yactive Yact Yic Yie YaC YaAny YaSt Yrch nx Yrb := by
      intro c' hc'
      refine ⟨vi, ?_⟩
      rw [nI_clamp (by omega), hrow x hix w]
      refine br_c (fun y => ⟨vi, nm_e (nm_r (nI_1 x) ?_)⟩) (fun y => ⟨vi, nm_e (nm_r (nI_1 x) ?_)⟩)
      · rw [ba_vb (b2_01 _)]
        exact nxt c' (by rw [← hc', b2_0.mp y]; rfl)
      · exact nxt true (by
          rw [← hc']
          cases e : mt_R Ypat ch st i a (x - i)
          · exact absurd (b2_0.mpr e) y
          · rfl)
    refine pk_le x i (fun wi => ?_) (fun wi => ?_)
    · have e := hc0 (by omega)
      subst e
      exact h118 false (by rw [show x - i = 0 by omega, mt_R, mt_row, hs]; simp)
    · obtain ⟨y, hy⟩ : ∃ y, x - i = y + 1 := ⟨x - i - 1, by omega⟩
      have hrec : mt_R Ypat ch st i (a + 1) (x - i) = (mt_R Ypat ch st i a (x - i) || (mt_R Ypat ch st i (a + 1) y && mt_f Ypat ch a (x - 1))) := by
        rw [hy]
        show mt_row (mt_b st a) _ _ (y + 1) = _
        rw [mt_row, hs, if_pos rfl, show x - 1 = i + y by omega, ← hs]
        rfl
      have hc := hc1 y (by omega)
      refine br_c (fun z => ?_) (fun z => ?_)
      · have hcf := b2_0.mp z
        exact h118 c (by rw [hrec, ← hc, hcf]; simp)
      · have hct : c = true := by
          cases e : c
          · exact absurd (b2_0.mpr e) z
          · rfl
        have e1 : nI x - 1 = nI (x - 1) := by
          obtain ⟨y, rfl⟩ : ∃ y, x = y + 1 := ⟨x - 1, by omega⟩
          exact nI_pred y
        rw [e1]
        refine ⟨vp_in_nI (by omega) (by omega), ?_⟩
        rw [nI_clamp (show x - 1 < 2 ^ 31 by omega)]
        refine ym_fits h12 ha hH (fun hf' => br_f (by decide) (h118 c ?_)) (fun hf' => br_t rfl (h118 false ?_))
        · rw [hrec, ← hc, hct, show mt_f Ypat ch a (x - 1) = true from hf']; rfl
        · rw [hrec, ← hc, hct, show mt_f Ypat ch a (x - 1) = false from hf']; simp
end YM_1
end
section
/-! Y: a match, lines, addresses that hold -/
section YH_1
variable {Yquiet Yfuel YscrLen YinpLen YhasTab YnCmd YoutLen YpatLen YholdLen YlinesRead YstepsUsed Ytflag YnAddr Ya1K Ya1V Ya2K Ya2V Ycc YlabS YlabL YsRe YsRep YadK YadV Yneg YsG YicN Yna YanS YanE YmJ YrLen : Int32} {Yscr Yinp YcmdPos Yout Ypat Yhold Yactive Yact Yic Yie YaC YaAny YaSt Yrch Ynx Yrb : Nat → Int32}
theorem ym_58 {n na anE i : Nat} {ch st : Nat → Int32} {post : Int32 → SY → Prop} (hn : n ≤ 64) (hi : i ≤ n) (h12 : na ≤ 12) (hE : anE ≤ 1) (hH : ya_H YaC YaAny YaSt (na, ch, st))
    (hp : ∀ rch nx, post (mt_lo i (mt_l Ypat n ch st na anE i)) (Yquiet, Yfuel, YscrLen, YinpLen, YhasTab, YnCmd, YoutLen, YpatLen, YholdLen, YlinesRead, YstepsUsed, Ytflag, YnAddr, Ya1K, Ya1V, Ya2K, Ya2V, Ycc, YlabS, YlabL, YsRe, YsRep, YadK, YadV, Yneg, YsG, YicN, nI na, YanS, nI anE, YmJ, YrLen, Yscr, Yinp, YcmdPos, Yout, Ypat, Yhold, Yactive, Yact, Yic, Yie, YaC, YaAny, YaSt, rch, nx, Yrb)) :
    ∀ f a rch nx, na - a < f → a ≤ na → (∀ x, i ≤ x → x ≤ n → rch x = b2_i (mt_R Ypat ch st i a (x - i))) → wY_matchAt_58 post (nI i) (nI n) Yquiet Yfuel YscrLen YinpLen YhasTab YnCmd YoutLen YpatLen YholdLen YlinesRead YstepsUsed Ytflag YnAddr Ya1K Ya1V Ya2K Ya2V Ycc YlabS YlabL YsRe YsRep YadK YadV Yneg YsG YicN (nI na) YanS (nI anE) YmJ YrLen f (nI a) Yscr Yinp YcmdPos Yout Ypat Yhold Yactive Yact Yic Yie YaC YaAny YaSt rch nx Yrb := by
  intro f
  induction f with
  | zero => intro a rch nx h; exact absurd h (Nat.not_lt_zero _)
  | succ f ih =>
  intro a rch nx hf ha hrow
  refine pk_le na a (fun w => ⟨n + 2, ?_⟩) (fun w => ⟨pk_in a 12 (by omega), ?_⟩)
  · have e : a = na := by omega
    rw [e] at hrow
    refine ym_248 (na := na) hn hi hE hrow (n + 2) (n + 1 - i) (nI n) (by omega) (by omega) (fun z => by omega) (fun D' z => by rw [show i + D' = n by omega]) ?_
    exact hp rch nx
  · rw [nI_clamp (by omega), (hH a w).2]
    dsimp only
    refine br_c (fun s0 => ⟨n + 2, ?_⟩) (fun s0 => ⟨n + 2, ?_⟩)
    · exact ym_152 hn h12 w hH (by unfold mt_b; rw [decide_eq_false (fun z => z s0)]) hrow (fun rch' nx' h => ih (a + 1) rch' nx' (by omega) (by omega) h) (n + 2) i nx (by omega) (Nat.le_refl _) (by omega) (fun y h1 h2 => absurd h2 (by omega))
    · exact ym_81 hn h12 w hH (by unfold mt_b; rw [decide_eq_true s0]) hrow (fun rch' nx' h => ih (a + 1) rch' nx' (by omega) (by omega) h) (n + 2) i false nx (by omega) (Nat.le_refl _) (by omega) (fun y h1 h2 => absurd h2 (by omega)) (fun _ => rfl) (fun y hy => by omega)
theorem ym_29 {n na anE i : Nat} {ch st : Nat → Int32} {post : Int32 → SY → Prop} (hn : n ≤ 64) (hi : i ≤ n) (h12 : na ≤ 12) (hE : anE ≤ 1) (hH : ya_H YaC YaAny YaSt (na, ch, st))
    (hp : ∀ rch nx, post (mt_lo i (mt_l Ypat n ch st na anE i)) (Yquiet, Yfuel, YscrLen, YinpLen, YhasTab, YnCmd, YoutLen, YpatLen, YholdLen, YlinesRead, YstepsUsed, Ytflag, YnAddr, Ya1K, Ya1V, Ya2K, Ya2V, Ycc, YlabS, YlabL, YsRe, YsRep, YadK, YadV, Yneg, YsG, YicN, nI na, YanS, nI anE, YmJ, YrLen, Yscr, Yinp, YcmdPos, Yout, Ypat, Yhold, Yactive, Yact, Yic, Yie, YaC, YaAny, YaSt, rch, nx, Yrb)) :
    ∀ f x rch, n + 1 - x < f → x ≤ n + 1 → (∀ y, y < x → rch y = b2_i (decide (y = i))) → wY_matchAt_29 post (nI i) (nI n) Yquiet Yfuel YscrLen YinpLen YhasTab YnCmd YoutLen YpatLen YholdLen YlinesRead YstepsUsed Ytflag YnAddr Ya1K Ya1V Ya2K Ya2V Ycc YlabS YlabL YsRe YsRep YadK YadV Yneg YsG YicN (nI na) YanS (nI anE) YmJ YrLen f (nI x) Yscr Yinp YcmdPos Yout Ypat Yhold Yactive Yact Yic Yie YaC YaAny YaSt rch Ynx Yrb := by
  intro f
  induction f with
  | zero => intro x rch h; exact absurd h (Nat.not_lt_zero _)
  | succ f ih =>
  intro x rch hf hx hr
  refine pk_lt n x (fun w => ⟨na + 1, ?_⟩) (fun w => ?_)
  · refine ym_58 hn hi h12 hE hH hp (na + 1) 0 rch Ynx (by omega) (by omega) (fun y h1 h2 => ?_)
    rw [hr y (by omega), mt_R]
    dsimp only
    by_cases z : y = i
    · rw [decide_eq_true z, decide_eq_true (show y - i = 0 by omega)]
    · rw [decide_eq_false z, decide_eq_false (show ¬ y - i = 0 by omega)]
  · have vi : vp_in (nI x) 65 := vp_in_nI (by omega) (by omega)
    have nxt : ∀ v : Bool, v = decide (x = i) → wY_matchAt_29 post (nI i) (nI n) Yquiet Yfuel YscrLen YinpLen YhasTab YnCmd YoutLen YpatLen YholdLen YlinesRead YstepsUsed Ytflag YnAddr Ya1K Ya1V Ya2K Ya2V Ycc YlabS YlabL YsRe YsRep YadK YadV Yneg YsG YicN (nI na) YanS (nI anE) YmJ YrLen f (nI (x + 1)) Yscr Yinp YcmdPos Yout Ypat Yhold Yactive Yact Yic Yie YaC YaAny YaSt (upd rch x (b2_i v)) Ynx Yrb := by
      intro v hv
      refine ih (x + 1) _ (by omega) (by omega) (fun y h => ?_)
      by_cases z : y = x
      · rw [z, pk_us, hv]
      · rw [pk_un z]; exact hr y (by omega)
    refine pk_eq x i (fun e => ⟨vi, nm_e (nm_r (nI_1 x) ?_)⟩) (fun e => ⟨vi, nm_e (nm_r (nI_1 x) ?_)⟩)
    · rw [nI_clamp (by omega)]
      exact nxt true (by rw [decide_eq_true e])
    · rw [nI_clamp (by omega)]
      exact nxt false (by rw [decide_eq_false e])
theorem ym_matchAt {n na anS anE i : Nat} {ch st : Nat → Int32} {post : Int32 → SY → Prop} (hn : n ≤ 64) (hi : i ≤ n) (h12 : na ≤ 12) (hS : anS ≤ 1) (hE : anE ≤ 1) (hH : ya_H YaC YaAny YaSt (na, ch, st))
    (hp : ∀ rch nx, post (mt_lo i (mt_at Ypat n ch st na anS anE i)) (Yquiet, Yfuel, YscrLen, YinpLen, YhasTab, YnCmd, YoutLen, nI n, YholdLen, YlinesRead, YstepsUsed, Ytflag, YnAddr, Ya1K, Ya1V, Ya2K, Ya2V, Ycc, YlabS, YlabL, YsRe, YsRep, YadK, YadV, Yneg, YsG, YicN, nI na, nI anS, nI anE, YmJ, YrLen, Yscr, Yinp, YcmdPos, Yout, Ypat, Yhold, Yactive, Yact, Yic, Yie, YaC, YaAny, YaSt, rch, nx, Yrb)) :
    wpY_matchAt post (Yquiet, Yfuel, YscrLen, YinpLen, YhasTab, YnCmd, YoutLen, nI n, YholdLen, YlinesRead, YstepsUsed, Ytflag, YnAddr, Ya1K, Ya1V, Ya2K, Ya2V, Ycc, YlabS, YlabL, YsRe, YsRep, YadK, YadV, Yneg, YsG, YicN, nI na, nI anS, nI anE, YmJ, YrLen, Yscr, Yinp, YcmdPos, Yout, Ypat, Yhold, Yactive, Yact, Yic, Yie, YaC, YaAny, YaSt, Yrch, Ynx, Yrb) (nI i) := by
  unfold wpY_matchAt
  have go : ¬ (¬ anS = 0 ∧ ¬ i = 0) → ∃ f, wY_matchAt_29 post (nI i) (nI n) Yquiet Yfuel YscrLen YinpLen YhasTab YnCmd YoutLen (nI n) YholdLen YlinesRead YstepsUsed Ytflag YnAddr Ya1K Ya1V Ya2K Ya2V Ycc YlabS YlabL YsRe YsRep YadK YadV Yneg YsG YicN (nI na) (nI anS) (nI anE) YmJ YrLen f 0 Yscr Yinp YcmdPos Yout Ypat Yhold Yactive Yact Yic Yie YaC YaAny YaSt Yrch Ynx Yrb := by
    intro hh
    unfold mt_at at hp
    rw [if_neg hh] at hp
    exact ⟨n + 2, ym_29 hn hi h12 hE hH hp (n + 2) 0 Yrch (by omega) (by omega) (fun y h => absurd h (by omega))⟩
  refine br_f (nI_pos (by omega)) (br_f (nI_nlt hi (by omega)) (pk_eq anS 0 (fun e => go (fun y => y.1 e)) (fun e => pk_eq i 0 (fun e2 => go (fun y => y.2 e2)) (fun e2 => ?_))))
  unfold mt_at at hp
  rw [if_pos ⟨e, e2⟩] at hp
  exact hp _ _
theorem ym_firstMatch {n na anS anE p : Nat} {ch st : Nat → Int32} {post : Int32 → SY → Prop} (hn : n ≤ 64) (hp0 : p ≤ n + 1) (h12 : na ≤ 12) (hS : anS ≤ 1) (hE : anE ≤ 1) (hH : ya_H YaC YaAny YaSt (na, ch, st))
    (hp : ∀ mj rch nx, (∀ r, mt_1 Ypat n ch st na anS anE p = some r → mj = nI r.2) → post (mt_o1 (mt_1 Ypat n ch st na anS anE p)) (Yquiet, Yfuel, YscrLen, YinpLen, YhasTab, YnCmd, YoutLen, nI n, YholdLen, YlinesRead, YstepsUsed, Ytflag, YnAddr, Ya1K, Ya1V, Ya2K, Ya2V, Ycc, YlabS, YlabL, YsRe, YsRep, YadK, YadV, Yneg, YsG, YicN, nI na, nI anS, nI anE, mj, YrLen, Yscr, Yinp, YcmdPos, Yout, Ypat, Yhold, Yactive, Yact, Yic, Yie, YaC, YaAny, YaSt, rch, nx, Yrb)) :
    wpY_firstMatch post (Yquiet, Yfuel, YscrLen, YinpLen, YhasTab, YnCmd, YoutLen, nI n, YholdLen, YlinesRead, YstepsUsed, Ytflag, YnAddr, Ya1K, Ya1V, Ya2K, Ya2V, Ycc, YlabS, YlabL, YsRe, YsRep, YadK, YadV, Yneg, YsG, YicN, nI na, nI anS, nI anE, YmJ, YrLen, Yscr, Yinp, YcmdPos, Yout, Ypat, Yhold, Yactive, Yact, Yic, Yie, YaC, YaAny, YaSt, Yrch, Ynx, Yrb) (nI p) := by
  unfold wpY_firstMatch
  have loop : ∀ f i rch nx, n + 1 - i < f → i ≤ n + 1 → mt_1 Ypat n ch st na anS anE p = mt_s (mt_at Ypat n ch st na anS anE) (n + 1 - i) i → wY_firstMatch_2 post f (nI i) Yquiet Yfuel YscrLen YinpLen YhasTab YnCmd YoutLen (nI n) YholdLen YlinesRead YstepsUsed Ytflag YnAddr Ya1K Ya1V Ya2K Ya2V Ycc YlabS YlabL YsRe YsRep YadK YadV Yneg YsG YicN (nI na) (nI anS) (nI anE) YmJ YrLen Yscr Yinp YcmdPos Yout Ypat Yhold Yactive Yact Yic Yie YaC YaAny YaSt rch nx Yrb := by
    intro f
    induction f with
    | zero => intro i rch nx h; exact absurd h (Nat.not_lt_zero _)
    | succ f ih =>
    intro i rch nx hf hi he
    refine pk_lt n i (fun w => ?_) (fun w => ?_)
    · rw [show n + 1 - i = 0 by omega, mt_s] at he
      have := hp YmJ rch nx (fun r hr => by rw [he] at hr; exact absurd hr (by simp))
      rw [he] at this
      exact this
    · obtain ⟨c, hc⟩ : ∃ c, n + 1 - i = c + 1 := ⟨n - i, by omega⟩
      refine ym_matchAt hn w h12 hS hE hH (fun rch' nx' => ?_)
      rw [hc, mt_s] at he
      cases hm : mt_at Ypat n ch st na anS anE i with
      | none =>
        rw [hm] at he
        refine br_t (by decide : (-1 : Int32) < 0) (nm_r (nI_1 i) (ih (i + 1) rch' nx' (by omega) (by omega) ?_))
        rw [he, show n + 1 - (i + 1) = c by omega]
      | some d =>
        rw [hm] at he
        have hl := mt_l_lt (mt_at_l hm)
        refine br_f (nI_pos (by omega)) ?_
        have := hp (nI (i + d)) rch' nx' (fun r hr => by rw [he] at hr; rw [← Option.some.inj hr])
        rw [he] at this
        exact this
  exact ⟨n + 2, loop (n + 2) p Yrch Ynx (by omega) hp0 rfl⟩
/-! lines -/
theorem ym_lineCount {I : Nat} {post : Int32 → Prop} (hI : I ≤ 128) (h : post (nI (ln_k Yinp I))) : wpY_lineCount post (Yquiet, Yfuel, YscrLen, nI I, YhasTab, YnCmd, YoutLen, YpatLen, YholdLen, YlinesRead, YstepsUsed, Ytflag, YnAddr, Ya1K, Ya1V, Ya2K, Ya2V, Ycc, YlabS, YlabL, YsRe, YsRep, YadK, YadV, Yneg, YsG, YicN, Yna, YanS, YanE, YmJ, YrLen, Yscr, Yinp, YcmdPos, Yout, Ypat, Yhold, Yactive, Yact, Yic, Yie, YaC, YaAny, YaSt, Yrch, Ynx, Yrb) := by
  unfold wpY_lineCount
  have loop : ∀ f x, I - x < f → x ≤ I → wY_lineCount_4 post Yquiet Yfuel YscrLen (nI I) YhasTab YnCmd YoutLen YpatLen YholdLen YlinesRead YstepsUsed Ytflag YnAddr Ya1K Ya1V Ya2K Ya2V Ycc YlabS YlabL YsRe YsRep YadK YadV Yneg YsG YicN Yna YanS YanE YmJ YrLen Yscr Yinp YcmdPos Yout Ypat Yhold Yactive Yact Yic Yie YaC YaAny YaSt Yrch Ynx Yrb f (nI (ln_c Yinp x)) (nI x) := by
    intro f
    induction f with
    | zero => intro x h; exact absurd h (Nat.not_lt_zero _)
    | succ f ih =>
    intro x hf hx
    refine pk_le I x (fun w => ?_) (fun w => ⟨pk_in x 128 (by omega), ?_⟩)
    · have e : x = I := by omega
      subst e
      refine pk_le x 0 (fun w0 => ?_) (fun w0 => ?_)
      · unfold ln_k at h
        rw [if_neg (fun y => by omega)] at h
        exact h
      · have e1 : nI x - 1 = nI (x - 1) := by
          obtain ⟨y, rfl⟩ : ∃ y, x = y + 1 := ⟨x - 1, by omega⟩
          exact nI_pred y
        rw [e1]
        refine ⟨vp_in_nI (by omega) (by omega), ?_⟩
        rw [nI_clamp (by omega)]
        unfold ln_k at h
        refine br_c (fun y => ?_) (fun y => nm_r (nI_1 _) ?_)
        · rw [if_neg (fun z => z.2 y)] at h; exact h
        · rw [if_pos ⟨w0, y⟩] at h; exact h
    · rw [nI_clamp (by omega)]
      have := ih (x + 1) (by omega) (by omega)
      rw [ln_c] at this
      refine br_c (fun y => nm_r (nI_1 _) (nm_r (nI_1 x) ?_)) (fun y => nm_r (nI_1 x) ?_)
      · rw [if_pos y] at this; exact this
      · rw [if_neg y] at this; exact this
  exact ⟨I + 1, loop (I + 1) 0 (by omega) (by omega)⟩
theorem ym_lineStart {I m q : Nat} {post : Int32 → Prop} (hI : I ≤ 128) (hl : ln_I Yinp I m q) (hq : q < I) (h : post (nI q)) : wpY_lineStart post (Yquiet, Yfuel, YscrLen, nI I, YhasTab, YnCmd, YoutLen, YpatLen, YholdLen, YlinesRead, YstepsUsed, Ytflag, YnAddr, Ya1K, Ya1V, Ya2K, Ya2V, Ycc, YlabS, YlabL, YsRe, YsRep, YadK, YadV, Yneg, YsG, YicN, Yna, YanS, YanE, YmJ, YrLen, Yscr, Yinp, YcmdPos, Yout, Ypat, Yhold, Yactive, Yact, Yic, Yie, YaC, YaAny, YaSt, Yrch, Ynx, Yrb) (nI (m + 1)) := by
  have hm := ln_le hl
  have hk := ln_kle Yinp I
  rcases hl with ⟨h1, h2, h3⟩ | ⟨h1, _⟩
  · unfold wpY_lineStart
    refine pk_lt 1 (m + 1) (fun w => ⟨I + 1, ?_⟩) (fun w => ?_)
    · have q0 : ¬ q = 0 := fun z => by rw [z, ln_c] at h2; omega
      have s1 : Yinp (q - 1) = 10 := by
        rcases h3 with y | y
        · exact absurd y q0
        · exact y
      have cq : ln_c Yinp (q - 1) + 1 = m := by
        obtain ⟨x, rfl⟩ : ∃ x, q = x + 1 := ⟨q - 1, by omega⟩
        rw [Nat.add_sub_cancel] at s1 ⊢
        rw [ln_c, if_pos s1] at h2
        exact h2
      have em : nI (m + 1) - 1 = nI m := nI_pred m
      have loop : ∀ f x, I - x < f → x < q → wY_lineStart_11 post (nI (m + 1)) Yquiet Yfuel YscrLen (nI I) YhasTab YnCmd YoutLen YpatLen YholdLen YlinesRead YstepsUsed Ytflag YnAddr Ya1K Ya1V Ya2K Ya2V Ycc YlabS YlabL YsRe YsRep YadK YadV Yneg YsG YicN Yna YanS YanE YmJ YrLen Yscr Yinp YcmdPos Yout Ypat Yhold Yactive Yact Yic Yie YaC YaAny YaSt Yrch Ynx Yrb f (nI (ln_c Yinp x)) (nI x) := by
        intro f
        induction f with
        | zero => intro x h; exact absurd h (Nat.not_lt_zero _)
        | succ f ih =>
        intro x hf hx
        have lx := ln_mono Yinp (show x ≤ q - 1 by omega)
        refine br_f (nI_ge (show x < I by omega) (by omega)) ⟨pk_in x 128 (by omega), ?_⟩
        rw [nI_clamp (by omega), em]
        have cs : ln_c Yinp (x + 1) = if Yinp x = 10 then ln_c Yinp x + 1 else ln_c Yinp x := rfl
        refine br_c (fun y => nm_r (nI_1 _) ?_) (fun y => nm_r (nI_1 x) ?_)
        · rw [if_pos y] at cs
          refine pk_eq (ln_c Yinp x + 1) m (fun e => ?_) (fun e => nm_r (nI_1 x) ?_)
          · have : x + 1 = q := by
              rcases Nat.lt_or_ge (x + 1) q with z | z
              · have := ln_mono Yinp (show x + 1 ≤ q - 1 by omega); omega
              · omega
            rw [nI_1, this]
            exact h
          · have : x + 1 < q := by
              rcases Nat.lt_or_ge (x + 1) q with z | z
              · exact z
              · have : x = q - 1 := by omega
                rw [this] at e; omega
            have := ih (x + 1) (by omega) this
            rw [cs] at this
            exact this
        · rw [if_neg y] at cs
          have : x + 1 < q := by
            rcases Nat.lt_or_ge (x + 1) q with z | z
            · exact z
            · have : x = q - 1 := by omega
              rw [this] at y; exact absurd s1 y
          have := ih (x + 1) (by omega) this
          rw [cs] at this
          exact this
      exact loop (I + 1) 0 (by omega) (by omega)
    · have q0 : q = 0 := by
        rcases h3 with y | y
        · exact y
        · rcases Nat.eq_zero_or_pos q with z | z
          · exact z
          · obtain ⟨x, rfl⟩ : ∃ x, q = x + 1 := ⟨q - 1, by omega⟩
            rw [Nat.add_sub_cancel] at y
            rw [ln_c, if_pos y] at h2
            omega
      rw [q0] at h
      exact h
  · omega
theorem ym_lineLen {I m q : Nat} {post : Int32 → Prop} (hI : I ≤ 128) (hl : ln_I Yinp I m q) (hq : q < I) (h : post (nI (ln_e Yinp I q - q))) : wpY_lineLen post (Yquiet, Yfuel, YscrLen, nI I, YhasTab, YnCmd, YoutLen, YpatLen, YholdLen, YlinesRead, YstepsUsed, Ytflag, YnAddr, Ya1K, Ya1V, Ya2K, Ya2V, Ycc, YlabS, YlabL, YsRe, YsRep, YadK, YadV, Yneg, YsG, YicN, Yna, YanS, YanE, YmJ, YrLen, Yscr, Yinp, YcmdPos, Yout, Ypat, Yhold, Yactive, Yact, Yic, Yie, YaC, YaAny, YaSt, Yrch, Ynx, Yrb) (nI (m + 1)) := by
  unfold wpY_lineLen
  refine ym_lineStart hI hl hq ⟨I + 1, ?_⟩
  have hf := sc_facts (P := pb_n Yinp) (L := I) (q := q) (by omega)
  refine sc_loop (fun n x => q ≤ x → wY_lineLen_8 post (nI q) Yquiet Yfuel YscrLen (nI I) YhasTab YnCmd YoutLen YpatLen YholdLen YlinesRead YstepsUsed Ytflag YnAddr Ya1K Ya1V Ya2K Ya2V Ycc YlabS YlabL YsRe YsRep YadK YadV Yneg YsG YicN Yna YanS YanE YmJ YrLen Yscr Yinp YcmdPos Yout Ypat Yhold Yactive Yact Yic Yie YaC YaAny YaSt Yrch Ynx Yrb n (nI x)) (pb_n Yinp) I (fun x => q ≤ x → post (nI x - nI q)) ?_ ?_ (I + 1) q (by omega) (by omega) (fun hx => by rw [pk_sub hx]; exact h) (Nat.le_refl _)
  · intro n x hx hp hW hqx
    refine br_f (nI_ge hx (by omega)) ⟨pk_in x 128 (by omega), ?_⟩
    rw [nI_clamp (by omega)]
    exact br_f (of_decide_eq_true hp) (nm_r (nI_1 x) (hW (by omega)))
  · intro n x hx hp hR hqx
    refine pk_le I x (fun w => hR hqx) (fun w => ⟨pk_in x 128 (by omega), ?_⟩)
    rw [nI_clamp (by omega)]
    refine br_t ?_ (hR hqx)
    have := of_decide_eq_false (hp w)
    exact Classical.not_not.mp this
theorem ym_holds {L I kd n m q : Nat} {v : Int32} {Mout Mhold Mac : Nat → Int32} {Mo Mh Mst : Nat} {Mt : Int32} {post : Int32 → SY → Prop} (hL : L ≤ 128) (hc : ch_ok Yscr L) (hI : I ≤ 128) (hn : n ≤ 64) (hl : ln_I Yinp I m q) (hk : kd ≤ 3) (hv : ¬ kd = 1 → ¬ kd = 2 → ∃ p : Nat, p ≤ L ∧ v = nI p)
    (h : ∀ icN na anS anE mj ic ie aC aAny aSt rch nx, post (b2_i (rn_H Yscr L I kd v (Mout, Mo, Ypat, n, Mhold, Mh, m, q, Mst, Mt, Mac))) (Yquiet, Yfuel, nI L, nI I, YhasTab, YnCmd, YoutLen, nI n, YholdLen, nI m, YstepsUsed, Ytflag, YnAddr, Ya1K, Ya1V, Ya2K, Ya2V, Ycc, YlabS, YlabL, YsRe, YsRep, YadK, YadV, Yneg, YsG, icN, na, anS, anE, mj, YrLen, Yscr, Yinp, YcmdPos, Yout, Ypat, Yhold, Yactive, Yact, ic, ie, aC, aAny, aSt, rch, nx, Yrb)) :
    wpY_holds post (Yquiet, Yfuel, nI L, nI I, YhasTab, YnCmd, YoutLen, nI n, YholdLen, nI m, YstepsUsed, Ytflag, YnAddr, Ya1K, Ya1V, Ya2K, Ya2V, Ycc, YlabS, YlabL, YsRe, YsRep, YadK, YadV, Yneg, YsG, YicN, Yna, YanS, YanE, YmJ, YrLen, Yscr, Yinp, YcmdPos, Yout, Ypat, Yhold, Yactive, Yact, Yic, Yie, YaC, YaAny, YaSt, Yrch, Ynx, Yrb) (nI kd) v := by
  unfold wpY_holds
  unfold rn_H at h
  dsimp only at h
  have hm := ln_le hl
  have hkl := ln_kle Yinp I
  refine pk_eq kd 1 (fun e1 => ?_) (fun e1 => pk_eq kd 2 (fun e2 => ?_) (fun e2 => ?_))
  · rw [if_pos e1] at h
    refine br_c (fun y => ?_) (fun y => ?_)
    · rw [decide_eq_true y] at h; exact h _ _ _ _ _ _ _ _ _ _ _ _
    · rw [decide_eq_false y] at h; exact h _ _ _ _ _ _ _ _ _ _ _ _
  · rw [if_neg e1, if_pos e2] at h
    refine ym_lineCount hI ?_
    have hlt := ln_lt hl
    refine pk_eq m (ln_k Yinp I) (fun y => ?_) (fun y => ?_)
    · rw [decide_eq_true (show I ≤ q by omega)] at h; exact h _ _ _ _ _ _ _ _ _ _ _ _
    · rw [decide_eq_false (show ¬ I ≤ q by omega)] at h; exact h _ _ _ _ _ _ _ _ _ _ _ _
  · rw [if_neg e1, if_neg e2] at h
    obtain ⟨p, hp, rfl⟩ := hv e1 e2
    rw [nI_clamp (by omega)] at h
    refine ym_loadText hL hp ?_ ?_
    · intro n1 ic ie htx hic
      have ft := tx_facts n1 p htx
      refine br_f (nI_pos (by omega)) ?_
      refine ym_build hL hc htx hic ?_ ?_
      · intro g aC aAny aSt hr hH
        have f12 := rg_x_12 hr
        rw [hr] at h
        refine br_f (by decide) ?_
        refine ym_firstMatch (p := 0) hn (by omega) f12.1 f12.2.2.1 f12.2.2.2 hH (fun mj rch nx _ => ?_)
        cases hm1 : mt_1 Ypat n g.2.2.2.2.1 g.2.2.2.2.2 g.2.2.2.1 g.2.1 g.2.2.1 0 with
        | none =>
          dsimp only at h
          rw [hm1] at h
          exact br_t (by decide) (h _ _ _ _ _ _ _ _ _ _ _ _)
        | some r =>
          dsimp only at h
          rw [hm1] at h
          have hr := mt_1_f hm1
          exact br_f (nI_pos (by omega)) (h _ _ _ _ _ _ _ _ _ _ _ _)
      · intro hr na anS anE aC aAny aSt
        rw [hr] at h
        exact br_t rfl (h _ _ _ _ _ _ _ _ _ _ _ _)
    · intro htx icn ic ie
      rw [show rg_x Yscr L p = none by unfold rg_x; rw [htx]] at h
      exact br_t (by decide) (h _ _ _ _ _ _ _ _ _ _ _ _)
end YH_1
end
section
/-! Y: printing, substitution -/
section YS_1
variable {Yquiet Yfuel YscrLen YinpLen YhasTab YnCmd YoutLen YpatLen YholdLen YlinesRead YstepsUsed Ytflag YnAddr Ya1K Ya1V Ya2K Ya2V Ycc YlabS YlabL YsRe YsRep YadK YadV Yneg YsG YicN Yna YanS YanE YmJ YrLen : Int32} {Yscr Yinp YcmdPos Yout Ypat Yhold Yactive Yact Yic Yie YaC YaAny YaSt Yrch Ynx Yrb : Nat → Int32}
theorem ym_print {o n : Nat} {post : Int32 → SY → Prop} (ho : o ≤ 256) (hn : n ≤ 64)
    (hg : ¬ 256 < o + n + 1 → post 1 (Yquiet, Yfuel, YscrLen, YinpLen, YhasTab, YnCmd, nI (o + n + 1), nI n, YholdLen, YlinesRead, YstepsUsed, Ytflag, YnAddr, Ya1K, Ya1V, Ya2K, Ya2V, Ycc, YlabS, YlabL, YsRe, YsRep, YadK, YadV, Yneg, YsG, YicN, Yna, YanS, YanE, YmJ, YrLen, Yscr, Yinp, YcmdPos, upd (cp_y Ypat 0 Yout o n) (o + n) 10, Ypat, Yhold, Yactive, Yact, Yic, Yie, YaC, YaAny, YaSt, Yrch, Ynx, Yrb)) (hb : 256 < o + n + 1 → post 0 (Yquiet, Yfuel, YscrLen, YinpLen, YhasTab, YnCmd, nI o, nI n, YholdLen, YlinesRead, YstepsUsed, Ytflag, YnAddr, Ya1K, Ya1V, Ya2K, Ya2V, Ycc, YlabS, YlabL, YsRe, YsRep, YadK, YadV, Yneg, YsG, YicN, Yna, YanS, YanE, YmJ, YrLen, Yscr, Yinp, YcmdPos, Yout, Ypat, Yhold, Yactive, Yact, Yic, Yie, YaC, YaAny, YaSt, Yrch, Ynx, Yrb)) : wpY_print post (Yquiet, Yfuel, YscrLen, YinpLen, YhasTab, YnCmd, nI o, nI n, YholdLen, YlinesRead, YstepsUsed, Ytflag, YnAddr, Ya1K, Ya1V, Ya2K, Ya2V, Ycc, YlabS, YlabL, YsRe, YsRep, YadK, YadV, Yneg, YsG, YicN, Yna, YanS, YanE, YmJ, YrLen, Yscr, Yinp, YcmdPos, Yout, Ypat, Yhold, Yactive, Yact, Yic, Yie, YaC, YaAny, YaSt, Yrch, Ynx, Yrb) := by
  unfold wpY_print
  refine pk_le (o + n + 1) 256 (fun w => ⟨n + 1, ?_⟩) (fun w => hb w) (hx := by rw [nI_add, nI_1])
  have loop : ∀ f x, n - x < f → x ≤ n → wY_print_21 post Yquiet Yfuel YscrLen YinpLen YhasTab YnCmd (nI o) (nI n) YholdLen YlinesRead YstepsUsed Ytflag YnAddr Ya1K Ya1V Ya2K Ya2V Ycc YlabS YlabL YsRe YsRep YadK YadV Yneg YsG YicN Yna YanS YanE YmJ YrLen f (nI x) Yscr Yinp YcmdPos (cp_y Ypat 0 Yout o x) Ypat Yhold Yactive Yact Yic Yie YaC YaAny YaSt Yrch Ynx Yrb := by
    intro f
    induction f with
    | zero => intro x h; exact absurd h (Nat.not_lt_zero _)
    | succ f ih =>
    intro x hf hx
    refine pk_le n x (fun y => ?_) (fun y => ⟨vp_in_nI (by omega) (by omega), ?_⟩)
    · have e : x = n := by omega
      subst e
      rw [nI_add]
      refine ⟨vp_in_nI (by omega) (by omega), nm_e (nm_r (nI_1 (o + x)) ?_)⟩
      rw [nI_clamp (by omega)]
      exact hg (by omega)
    · rw [nI_add]
      refine ⟨vp_in_nI (by omega) (by omega), nm_e (nm_r (nI_1 x) ?_)⟩
      rw [nI_clamp (show o + x < 2 ^ 31 by omega), nI_clamp (show x < 2 ^ 31 by omega)]
      have e := cp_s Ypat 0 Yout o x
      rw [Nat.zero_add] at e
      rw [e]
      exact ih (x + 1) (by omega) (by omega)
  have := loop (n + 1) 0 (by omega) (by omega)
  rw [cp_0] at this
  exact this
theorem ym_put {R : List Int32} {c : Int32} {post : SY → Prop} (hR : R.length < 2 ^ 30) (hr : rl_h Yrb R) (h : ∀ rb, rl_h rb (R ++ [c]) → post (Yquiet, Yfuel, YscrLen, YinpLen, YhasTab, YnCmd, YoutLen, YpatLen, YholdLen, YlinesRead, YstepsUsed, Ytflag, YnAddr, Ya1K, Ya1V, Ya2K, Ya2V, Ycc, YlabS, YlabL, YsRe, YsRep, YadK, YadV, Yneg, YsG, YicN, Yna, YanS, YanE, YmJ, nI (R ++ [c]).length, Yscr, Yinp, YcmdPos, Yout, Ypat, Yhold, Yactive, Yact, Yic, Yie, YaC, YaAny, YaSt, Yrch, Ynx, rb)) : wpY_put post (Yquiet, Yfuel, YscrLen, YinpLen, YhasTab, YnCmd, YoutLen, YpatLen, YholdLen, YlinesRead, YstepsUsed, Ytflag, YnAddr, Ya1K, Ya1V, Ya2K, Ya2V, Ycc, YlabS, YlabL, YsRe, YsRep, YadK, YadV, Yneg, YsG, YicN, Yna, YanS, YanE, YmJ, nI R.length, Yscr, Yinp, YcmdPos, Yout, Ypat, Yhold, Yactive, Yact, Yic, Yie, YaC, YaAny, YaSt, Yrch, Ynx, Yrb) c := by
  have e : (R ++ [c]).length = R.length + 1 := by simp
  rw [e] at h
  unfold wpY_put
  refine br_f (nI_pos (by omega)) (pk_le 64 R.length (fun w => nm_r (nI_1 _) (h _ (rl_full hr (by omega)))) (fun w => ⟨pk_in R.length 64 w, nm_e (nm_r (nI_1 _) ?_)⟩))
  rw [nI_clamp (by omega)]
  exact h _ (rl_put hr w)
theorem ym_putRange {R : List Int32} {a b : Nat} {post : SY → Prop} (hb : b ≤ 64) (hR : R.length < 2 ^ 29) (hr : rl_h Yrb R) (ha : a ≤ 65) (h : ∀ rb, rl_h rb (R ++ sl_x Ypat a (b - a)) → post (Yquiet, Yfuel, YscrLen, YinpLen, YhasTab, YnCmd, YoutLen, YpatLen, YholdLen, YlinesRead, YstepsUsed, Ytflag, YnAddr, Ya1K, Ya1V, Ya2K, Ya2V, Ycc, YlabS, YlabL, YsRe, YsRep, YadK, YadV, Yneg, YsG, YicN, Yna, YanS, YanE, YmJ, nI (R ++ sl_x Ypat a (b - a)).length, Yscr, Yinp, YcmdPos, Yout, Ypat, Yhold, Yactive, Yact, Yic, Yie, YaC, YaAny, YaSt, Yrch, Ynx, rb)) : wpY_putRange post (Yquiet, Yfuel, YscrLen, YinpLen, YhasTab, YnCmd, YoutLen, YpatLen, YholdLen, YlinesRead, YstepsUsed, Ytflag, YnAddr, Ya1K, Ya1V, Ya2K, Ya2V, Ycc, YlabS, YlabL, YsRe, YsRep, YadK, YadV, Yneg, YsG, YicN, Yna, YanS, YanE, YmJ, nI R.length, Yscr, Yinp, YcmdPos, Yout, Ypat, Yhold, Yactive, Yact, Yic, Yie, YaC, YaAny, YaSt, Yrch, Ynx, Yrb) (nI a) (nI b) := by
  unfold wpY_putRange
  have loop : ∀ f t rb, b - a - t < f → t ≤ b - a → rl_h rb (R ++ sl_x Ypat a t) → wY_putRange_2 post (nI b) f (nI (a + t)) Yquiet Yfuel YscrLen YinpLen YhasTab YnCmd YoutLen YpatLen YholdLen YlinesRead YstepsUsed Ytflag YnAddr Ya1K Ya1V Ya2K Ya2V Ycc YlabS YlabL YsRe YsRep YadK YadV Yneg YsG YicN Yna YanS YanE YmJ (nI (R ++ sl_x Ypat a t).length) Yscr Yinp YcmdPos Yout Ypat Yhold Yactive Yact Yic Yie YaC YaAny YaSt Yrch Ynx rb := by
    intro f
    induction f with
    | zero => intro t rb h; exact absurd h (Nat.not_lt_zero _)
    | succ f ih =>
    intro t rb hf ht hh
    refine pk_le b (a + t) (fun w => ?_) (fun w => ?_)
    · have e : t = b - a := by omega
      rw [e] at hh ⊢
      exact h rb hh
    · refine br_f (nI_ge (b := 64) (by omega) (by decide)) (br_f (nI_pos (by omega)) ⟨vp_in_nI (by omega) (by omega), ?_⟩)
      rw [nI_clamp (by omega)]
      refine ym_put (by rw [List.length_append, sl_len]; omega) hh (fun rb' hh' => nm_r (nI_1 _) ?_)
      have e : R ++ sl_x Ypat a t ++ [Ypat (a + t)] = R ++ sl_x Ypat a (t + 1) := by rw [List.append_assoc]; rfl
      rw [e] at hh' ⊢
      exact ih (t + 1) rb' (by omega) (by omega) hh'
  have e : R ++ sl_x Ypat a 0 = R := List.append_nil R
  have := loop (b - a + 1) 0 Yrb (by omega) (by omega) (by rw [e]; exact hr)
  rw [e] at this
  exact ⟨_, this⟩
/-- the replacement -/
theorem ym_101 {L n rp rn i j k : Nat} {R : List Int32} {x5 x6 : Int32} {post : Int32 → SY → Prop} {J : Nat} (hL : L ≤ 128) (hc : ch_ok Yscr L) (hn : n ≤ 64) (hij : i ≤ j) (hj : j ≤ n) (hR : R.length < 2 ^ 28) (htx : tx_n Yscr L rp = some rn) (hrn : rn ≤ 128) (hic : ∀ t, t < rn → Yic t = tx_c Yscr (tx_p Yscr rp t) ∧ Yie t = tx_e Yscr (tx_p Yscr rp t))
    (h : ∀ rb, rl_h rb (R ++ sl_r Yscr Ypat rp i j rn) → wY_subst_168 post (wY_subst_58 post (nI k) (nI n) J) (nI k) (nI n) x5 x6 (nI i) (nI j) Yquiet Yfuel YscrLen YinpLen YhasTab YnCmd YoutLen YpatLen YholdLen YlinesRead YstepsUsed Ytflag YnAddr Ya1K Ya1V Ya2K Ya2V Ycc YlabS YlabL YsRe YsRep YadK YadV Yneg YsG (nI rn) Yna YanS YanE YmJ (nI (R ++ sl_r Yscr Ypat rp i j rn).length) Yscr Yinp YcmdPos Yout Ypat Yhold Yactive Yact Yic Yie YaC YaAny YaSt Yrch Ynx rb) :
    ∀ f t rb, rn - t < f → t ≤ rn → rl_h rb (R ++ sl_r Yscr Ypat rp i j t) → wY_subst_101 post (wY_subst_58 post (nI k) (nI n) J) (nI k) (nI n) x5 x6 (nI i) (nI j) f (nI t) Yquiet Yfuel YscrLen YinpLen YhasTab YnCmd YoutLen YpatLen YholdLen YlinesRead YstepsUsed Ytflag YnAddr Ya1K Ya1V Ya2K Ya2V Ycc YlabS YlabL YsRe YsRep YadK YadV Yneg YsG (nI rn) Yna YanS YanE YmJ (nI (R ++ sl_r Yscr Ypat rp i j t).length) Yscr Yinp YcmdPos Yout Ypat Yhold Yactive Yact Yic Yie YaC YaAny YaSt Yrch Ynx rb := by
  have ft := tx_facts rn rp htx
  intro f
  induction f with
  | zero => intro t rb h; exact absurd h (Nat.not_lt_zero _)
  | succ f ih =>
  intro t rb hf ht hh
  refine pk_le rn t (fun w => ?_) (fun w => ?_)
  · have e : t = rn := by omega
    rw [e] at hh ⊢
    exact h rb hh
  · obtain ⟨f1, f2, f3, f4⟩ := ft.1 t w
    obtain ⟨c1, c2⟩ := hic t w
    have amp := tb_c_amp hc f1 (fun y => (f4 y).1)
    have len : (R ++ sl_r Yscr Ypat rp i j t).length < 2 ^ 29 := by
      have a := sl_rlen Yscr Ypat rp i j t
      have b : t * (j - i + 1) ≤ 128 * 65 := Nat.mul_le_mul (by omega) (by omega)
      rw [List.length_append]
      omega
    have vi : vp_in (nI t) 128 := vp_in_nI (by omega) (by omega)
    have h151 : ¬ (tx_e Yscr (tx_p Yscr rp t) = 0 ∧ tx_c Yscr (tx_p Yscr rp t) = 38) → wY_subst_151 post (wY_subst_58 post (nI k) (nI n) J) (wY_subst_101 post (wY_subst_58 post (nI k) (nI n) J) (nI k) (nI n) x5 x6 (nI i) (nI j) f) (nI k) (nI n) x5 x6 (nI i) (nI j) (nI t) Yquiet Yfuel YscrLen YinpLen YhasTab YnCmd YoutLen YpatLen YholdLen YlinesRead YstepsUsed Ytflag YnAddr Ya1K Ya1V Ya2K Ya2V Ycc YlabS YlabL YsRe YsRep YadK YadV Yneg YsG (nI rn) Yna YanS YanE YmJ (nI (R ++ sl_r Yscr Ypat rp i j t).length) Yscr Yinp YcmdPos Yout Ypat Yhold Yactive Yact Yic Yie YaC YaAny YaSt Yrch Ynx rb := by
      intro hna
      refine ⟨vi, ?_⟩
      rw [nI_clamp (by omega), c1]
      refine ym_put (by omega) hh (fun rb' hh' => nm_r (nI_1 t) ?_)
      have e : R ++ sl_r Yscr Ypat rp i j t ++ [tx_c Yscr (tx_p Yscr rp t)] = R ++ sl_r Yscr Ypat rp i j (t + 1) := by
        rw [sl_r, if_neg (fun y => hna (amp.mp y)), List.append_assoc, show tb_c Yscr (tx_p Yscr rp t) = tx_c Yscr (tx_p Yscr rp t) by unfold tb_c; rw [if_neg hna]]
      rw [e] at hh' ⊢
      exact ih (t + 1) rb' (by omega) (by omega) hh'
    refine br_f (nI_ge (b := 128) (by omega) (by decide)) ⟨vi, ?_⟩
    rw [nI_clamp (by omega), c1, c2]
    refine br_c (fun e0 => ⟨vi, br_c (fun e38 => ?_) (fun e38 => h151 (fun y => e38 y.2))⟩) (fun e0 => h151 (fun y => e0 y.1))
    refine ym_putRange (by omega) len hh (by omega) (fun rb' hh' => nm_r (nI_1 t) ?_)
    have e : R ++ sl_r Yscr Ypat rp i j t ++ sl_x Ypat i (j - i) = R ++ sl_r Yscr Ypat rp i j (t + 1) := by
      rw [sl_r, if_pos (amp.mpr ⟨e0, e38⟩), List.append_assoc]
    rw [e] at hh' ⊢
    exact ih (t + 1) rb' (by omega) (by omega) hh'
/-- the end of a substitution -/
theorem ym_237 {n p k : Nat} {R : List Int32} {tk : Int32} {post : Int32 → SY → Prop} (hn : n ≤ 64) (hp : p ≤ n + 1) (hR : R.length < 2 ^ 28) (hr : rl_h Yrb R)
    (h0 : tk = 0 → ∀ rl rb, post (nI (k + 1)) (Yquiet, Yfuel, YscrLen, YinpLen, YhasTab, YnCmd, YoutLen, nI n, YholdLen, YlinesRead, YstepsUsed, Ytflag, YnAddr, Ya1K, Ya1V, Ya2K, Ya2V, Ycc, YlabS, YlabL, YsRe, YsRep, YadK, YadV, Yneg, YsG, YicN, Yna, YanS, YanE, YmJ, rl, Yscr, Yinp, YcmdPos, Yout, Ypat, Yhold, Yactive, Yact, Yic, Yie, YaC, YaAny, YaSt, Yrch, Ynx, rb))
    (h1 : ¬ tk = 0 → 64 < (R ++ sl_x Ypat p (n - p)).length → ∀ rl rb, post (-13) (Yquiet, Yfuel, YscrLen, YinpLen, YhasTab, YnCmd, YoutLen, nI n, YholdLen, YlinesRead, YstepsUsed, Ytflag, YnAddr, Ya1K, Ya1V, Ya2K, Ya2V, Ycc, YlabS, YlabL, YsRe, YsRep, YadK, YadV, Yneg, YsG, YicN, Yna, YanS, YanE, YmJ, rl, Yscr, Yinp, YcmdPos, Yout, Ypat, Yhold, Yactive, Yact, Yic, Yie, YaC, YaAny, YaSt, Yrch, Ynx, rb))
    (h2 : ¬ tk = 0 → ¬ 64 < (R ++ sl_x Ypat p (n - p)).length → ∀ rl rb, post (nI (k + 1)) (Yquiet, Yfuel, YscrLen, YinpLen, YhasTab, YnCmd, YoutLen, nI (R ++ sl_x Ypat p (n - p)).length, YholdLen, YlinesRead, YstepsUsed, 1, YnAddr, Ya1K, Ya1V, Ya2K, Ya2V, Ycc, YlabS, YlabL, YsRe, YsRep, YadK, YadV, Yneg, YsG, YicN, Yna, YanS, YanE, YmJ, rl, Yscr, Yinp, YcmdPos, Yout, cp_y (sb_f (R ++ sl_x Ypat p (n - p))) 0 Ypat 0 (R ++ sl_x Ypat p (n - p)).length, Yhold, Yactive, Yact, Yic, Yie, YaC, YaAny, YaSt, Yrch, Ynx, rb)) :
    wY_subst_237 post (nI k) (nI n) (nI p) tk Yquiet Yfuel YscrLen YinpLen YhasTab YnCmd YoutLen (nI n) YholdLen YlinesRead YstepsUsed Ytflag YnAddr Ya1K Ya1V Ya2K Ya2V Ycc YlabS YlabL YsRe YsRep YadK YadV Yneg YsG YicN Yna YanS YanE YmJ (nI R.length) Yscr Yinp YcmdPos Yout Ypat Yhold Yactive Yact Yic Yie YaC YaAny YaSt Yrch Ynx Yrb := by
  have h250 : ∀ R' rb, R' = R ++ sl_x Ypat p (n - p) → rl_h rb R' → wY_subst_250 post (nI k) tk Yquiet Yfuel YscrLen YinpLen YhasTab YnCmd YoutLen (nI n) YholdLen YlinesRead YstepsUsed Ytflag YnAddr Ya1K Ya1V Ya2K Ya2V Ycc YlabS YlabL YsRe YsRep YadK YadV Yneg YsG YicN Yna YanS YanE YmJ (nI R'.length) Yscr Yinp YcmdPos Yout Ypat Yhold Yactive Yact Yic Yie YaC YaAny YaSt Yrch Ynx rb := by
    intro R' rb e hh
    subst e
    have len : (R ++ sl_x Ypat p (n - p)).length < 2 ^ 30 := by rw [List.length_append, sl_len]; omega
    refine br_c (fun z => ?_) (fun z => pk_le (R ++ sl_x Ypat p (n - p)).length 64 (fun w => ⟨(R ++ sl_x Ypat p (n - p)).length + 1, ?_⟩) (fun w => h1 z w _ _))
    · rw [nI_1]; exact h0 z _ _
    · have loop : ∀ f x, (R ++ sl_x Ypat p (n - p)).length - x < f → x ≤ (R ++ sl_x Ypat p (n - p)).length → wY_subst_274 post (nI k) Yquiet Yfuel YscrLen YinpLen YhasTab YnCmd YoutLen (nI n) YholdLen YlinesRead YstepsUsed Ytflag YnAddr Ya1K Ya1V Ya2K Ya2V Ycc YlabS YlabL YsRe YsRep YadK YadV Yneg YsG YicN Yna YanS YanE YmJ (nI (R ++ sl_x Ypat p (n - p)).length) f (nI x) Yscr Yinp YcmdPos Yout (cp_y rb 0 Ypat 0 x) Yhold Yactive Yact Yic Yie YaC YaAny YaSt Yrch Ynx rb := by
        intro f
        induction f with
        | zero => intro x h; exact absurd h (Nat.not_lt_zero _)
        | succ f ih =>
        intro x hf hx
        refine pk_le (R ++ sl_x Ypat p (n - p)).length x (fun y => ?_) (fun y => ?_)
        · have e : x = (R ++ sl_x Ypat p (n - p)).length := by omega
          rw [e, rl_cp hh w, nI_1]
          exact h2 z (by omega) _ _
        · refine ⟨vp_in_nI (by omega) (by omega), vp_in_nI (by omega) (by omega), nm_e (nm_r (nI_1 x) ?_)⟩
          rw [nI_clamp (by omega)]
          have e := cp_s rb 0 Ypat 0 x
          rw [Nat.zero_add] at e
          rw [e]
          exact ih (x + 1) (by omega) (by omega)
      have := loop ((R ++ sl_x Ypat p (n - p)).length + 1) 0 (by omega) (by omega)
      rw [cp_0] at this
      exact this
  refine pk_lt n p (fun w => ?_) (fun w => ?_)
  · refine h250 R Yrb ?_ hr
    rw [show n - p = 0 by omega]
    exact (List.append_nil R).symm
  · exact ym_putRange (by omega) (by omega) hr (by omega) (fun rb hh => h250 _ rb rfl hh)
end YS_1
end
section
/-! Y: the substitution's loop, the next line -/
section YU_1
variable {Yquiet Yfuel YscrLen YinpLen YhasTab YnCmd YoutLen YpatLen YholdLen YlinesRead YstepsUsed Ytflag YnAddr Ya1K Ya1V Ya2K Ya2V Ycc YlabS YlabL YsRe YsRep YadK YadV Yneg YsG YicN Yna YanS YanE YmJ YrLen : Int32} {Yscr Yinp YcmdPos Yout Ypat Yhold Yactive Yact Yic Yie YaC YaAny YaSt Yrch Ynx Yrb : Nat → Int32}
theorem ym_s58 {L n k rp rn : Nat} {g : Nat × Nat × Nat × Nat × (Nat → Int32) × (Nat → Int32)} {ev : Int32} {tr : Nat × List Int32 × Int32} {post : Int32 → SY → Prop} (hL : L ≤ 128) (hc : ch_ok Yscr L) (hn : n ≤ 64) (h12 : g.2.2.2.1 ≤ 12) (hS : g.2.1 ≤ 1) (hE : g.2.2.1 ≤ 1) (hH : ya_H YaC YaAny YaSt (g.2.2.2.1, g.2.2.2.2.1, g.2.2.2.2.2)) (htx : tx_n Yscr L rp = some rn) (hrn : rn ≤ 128) (hic : ∀ t, t < rn → Yic t = tx_c Yscr (tx_p Yscr rp t) ∧ Yie t = tx_e Yscr (tx_p Yscr rp t))
    (h0 : tr.2.2 = 0 → ∀ mj rl rch nx rb, post (nI (k + 1)) (Yquiet, Yfuel, YscrLen, YinpLen, YhasTab, YnCmd, YoutLen, nI n, YholdLen, YlinesRead, YstepsUsed, Ytflag, YnAddr, Ya1K, Ya1V, Ya2K, Ya2V, Ycc, YlabS, YlabL, YsRe, YsRep, YadK, YadV, Yneg, ev, nI rn, nI g.2.2.2.1, nI g.2.1, nI g.2.2.1, mj, rl, Yscr, Yinp, YcmdPos, Yout, Ypat, Yhold, Yactive, Yact, Yic, Yie, YaC, YaAny, YaSt, rch, nx, rb))
    (h1 : ¬ tr.2.2 = 0 → 64 < (tr.2.1 ++ sl_x Ypat tr.1 (n - tr.1)).length → ∀ mj rl rch nx rb, post (-13) (Yquiet, Yfuel, YscrLen, YinpLen, YhasTab, YnCmd, YoutLen, nI n, YholdLen, YlinesRead, YstepsUsed, Ytflag, YnAddr, Ya1K, Ya1V, Ya2K, Ya2V, Ycc, YlabS, YlabL, YsRe, YsRep, YadK, YadV, Yneg, ev, nI rn, nI g.2.2.2.1, nI g.2.1, nI g.2.2.1, mj, rl, Yscr, Yinp, YcmdPos, Yout, Ypat, Yhold, Yactive, Yact, Yic, Yie, YaC, YaAny, YaSt, rch, nx, rb))
    (h2 : ¬ tr.2.2 = 0 → ¬ 64 < (tr.2.1 ++ sl_x Ypat tr.1 (n - tr.1)).length → ∀ mj rl rch nx rb, post (nI (k + 1)) (Yquiet, Yfuel, YscrLen, YinpLen, YhasTab, YnCmd, YoutLen, nI (tr.2.1 ++ sl_x Ypat tr.1 (n - tr.1)).length, YholdLen, YlinesRead, YstepsUsed, 1, YnAddr, Ya1K, Ya1V, Ya2K, Ya2V, Ycc, YlabS, YlabL, YsRe, YsRep, YadK, YadV, Yneg, ev, nI rn, nI g.2.2.2.1, nI g.2.1, nI g.2.2.1, mj, rl, Yscr, Yinp, YcmdPos, Yout, cp_y (sb_f (tr.2.1 ++ sl_x Ypat tr.1 (n - tr.1))) 0 Ypat 0 (tr.2.1 ++ sl_x Ypat tr.1 (n - tr.1)).length, Yhold, Yactive, Yact, Yic, Yie, YaC, YaAny, YaSt, rch, nx, rb)) :
    ∀ f p R tk mj rch nx rb, p ≤ n → 65 ≤ p + f → f ≤ 65 → R.length ≤ (65 - f) * 8400 → rl_h rb R → sb_x Yscr L Ypat n g rp rn ev f p R tk = tr → wY_subst_58 post (nI k) (nI n) (f + 1) (nI p) tk (nI (65 - f)) Yquiet Yfuel YscrLen YinpLen YhasTab YnCmd YoutLen (nI n) YholdLen YlinesRead YstepsUsed Ytflag YnAddr Ya1K Ya1V Ya2K Ya2V Ycc YlabS YlabL YsRe YsRep YadK YadV Yneg ev (nI rn) (nI g.2.2.2.1) (nI g.2.1) (nI g.2.2.1) mj (nI R.length) Yscr Yinp YcmdPos Yout Ypat Yhold Yactive Yact Yic Yie YaC YaAny YaSt rch nx rb := by
  intro f
  induction f with
  | zero => intro p R tk mj rch nx rb hp hf; omega
  | succ f ih =>
  intro p R tk mj rch nx rb hp hpf hf65 hR hr hsb
  have fin : ∀ p' R' tk' mj' rch' nx' rb', (p', R', tk') = tr → p' ≤ n + 1 → R'.length ≤ 65 * 8400 → rl_h rb' R' → wY_subst_237 post (nI k) (nI n) (nI p') tk' Yquiet Yfuel YscrLen YinpLen YhasTab YnCmd YoutLen (nI n) YholdLen YlinesRead YstepsUsed Ytflag YnAddr Ya1K Ya1V Ya2K Ya2V Ycc YlabS YlabL YsRe YsRep YadK YadV Yneg ev (nI rn) (nI g.2.2.2.1) (nI g.2.1) (nI g.2.2.1) mj' (nI R'.length) Yscr Yinp YcmdPos Yout Ypat Yhold Yactive Yact Yic Yie YaC YaAny YaSt rch' nx' rb' := by
    intro p' R' tk' mj' rch' nx' rb' e hp' hR' hr'
    rw [← e] at h0 h1 h2
    exact ym_237 hn hp' (by omega) hr' (fun z rl rb => h0 z _ rl _ _ rb) (fun z w rl rb => h1 z w _ rl _ _ rb) (fun z w rl rb => h2 z w _ rl _ _ rb)
  have len : R.length ≤ 64 * 8400 := Nat.le_trans hR (Nat.mul_le_mul_right _ (by omega))
  refine br_f (nI_nlt (a := 65) (by omega) (by decide)) ?_
  refine ym_firstMatch hn (by omega) h12 hS hE hH (fun mj' rch' nx' hmj => ?_)
  rw [sb_x] at hsb
  cases hm : mt_1 Ypat n g.2.2.2.2.1 g.2.2.2.2.2 g.2.2.2.1 g.2.1 g.2.2.1 p with
  | none =>
    rw [hm] at hsb
    exact br_f (by decide) (fin p R tk _ _ _ _ hsb (by omega) (by omega) hr)
  | some r =>
    rw [hm] at hsb
    dsimp only at hsb
    obtain ⟨q1, q2, q3, q4⟩ := mt_1_f hm
    have emj := hmj r hm
    subst emj
    refine br_t (nI_pos' (by omega)) ?_
    refine ym_putRange (by omega) (by omega) hr (by omega) (fun rb1 hr1 => ⟨rn + 1, ?_⟩)
    have e0 : (R ++ sl_x Ypat p (r.1 - p)).length < 2 ^ 28 := by rw [List.length_append, sl_len]; omega
    have e1 : R ++ sl_x Ypat p (r.1 - p) ++ sl_r Yscr Ypat rp r.1 r.2 0 = R ++ sl_x Ypat p (r.1 - p) := List.append_nil _
    suffices hs : ∀ rb, rl_h rb (R ++ sl_x Ypat p (r.1 - p) ++ sl_r Yscr Ypat rp r.1 r.2 rn) → wY_subst_168 post (wY_subst_58 post (nI k) (nI n) (f + 1)) (nI k) (nI n) 1 (nI (65 - (f + 1))) (nI r.1) (nI r.2) Yquiet Yfuel YscrLen YinpLen YhasTab YnCmd YoutLen (nI n) YholdLen YlinesRead YstepsUsed Ytflag YnAddr Ya1K Ya1V Ya2K Ya2V Ycc YlabS YlabL YsRe YsRep YadK YadV Yneg ev (nI rn) (nI g.2.2.2.1) (nI g.2.1) (nI g.2.2.1) (nI r.2) (nI (R ++ sl_x Ypat p (r.1 - p) ++ sl_r Yscr Ypat rp r.1 r.2 rn).length) Yscr Yinp YcmdPos Yout Ypat Yhold Yactive Yact Yic Yie YaC YaAny YaSt rch' nx' rb by
      have go := ym_101 hL hc hn q2 q3 e0 htx hrn hic hs (rn + 1) 0 rb1 (by omega) (by omega) (by rw [e1]; exact hr1)
      rw [e1] at go
      exact go
    intro rb2 hr2
    have h213 : ∀ p' R' rb', (p' = if r.2 = r.1 then r.1 + 1 else r.2) → R' = R ++ sl_x Ypat p (r.1 - p) ++ sl_r Yscr Ypat rp r.1 r.2 rn ++ (if r.2 = r.1 ∧ r.1 < n then [Ypat r.1] else []) → rl_h rb' R' → wY_subst_213 post (wY_subst_58 post (nI k) (nI n) (f + 1)) (nI k) (nI n) (nI p') 1 (nI (65 - (f + 1))) Yquiet Yfuel YscrLen YinpLen YhasTab YnCmd YoutLen (nI n) YholdLen YlinesRead YstepsUsed Ytflag YnAddr Ya1K Ya1V Ya2K Ya2V Ycc YlabS YlabL YsRe YsRep YadK YadV Yneg ev (nI rn) (nI g.2.2.2.1) (nI g.2.1) (nI g.2.2.1) (nI r.2) (nI R'.length) Yscr Yinp YcmdPos Yout Ypat Yhold Yactive Yact Yic Yie YaC YaAny YaSt rch' nx' rb' := by
      intro p' R' rb' ep eR hr'
      have hp'1 : p' ≤ n + 1 := by rw [ep]; split <;> omega
      have hp'2 : p < p' := by rw [ep]; split <;> omega
      have hl : R'.length ≤ R.length + 8400 := by
        have := sb_len (s := Yscr) (T := Ypat) (n := n) (rp := rp) (rn := rn) (p := p) (R := R) (r := r) hn hrn ⟨q2, q3⟩
        unfold sb_R at this
        rw [← eR] at this
        exact this
      have hl2 : R'.length ≤ (65 - f) * 8400 := by
        have : (65 - f) * 8400 = (65 - (f + 1)) * 8400 + 8400 := by
          rw [show 65 - f = (65 - (f + 1)) + 1 by omega, Nat.succ_mul]
        omega
      have last : (ev = 0 ∨ (r.2 = r.1 ∧ r.1 = n)) → wY_subst_237 post (nI k) (nI n) (nI p') 1 Yquiet Yfuel YscrLen YinpLen YhasTab YnCmd YoutLen (nI n) YholdLen YlinesRead YstepsUsed Ytflag YnAddr Ya1K Ya1V Ya2K Ya2V Ycc YlabS YlabL YsRe YsRep YadK YadV Yneg ev (nI rn) (nI g.2.2.2.1) (nI g.2.1) (nI g.2.2.1) (nI r.2) (nI R'.length) Yscr Yinp YcmdPos Yout Ypat Yhold Yactive Yact Yic Yie YaC YaAny YaSt rch' nx' rb' := by
        intro hh
        rw [if_pos hh, ← ep, ← eR] at hsb
        exact fin p' R' 1 _ _ _ _ hsb hp'1 (by omega) hr'
      refine br_c (fun z => last (Or.inl z)) (fun z => pk_eq p' (n + 1) (fun w => last (Or.inr ?_)) (fun w => ?_) (hy := by rw [nI_1]))
      · rw [w] at ep
        by_cases y : r.2 = r.1
        · rw [if_pos y] at ep; exact ⟨y, by omega⟩
        · rw [if_neg y] at ep; omega
      · have hh : ¬ (ev = 0 ∨ (r.2 = r.1 ∧ r.1 = n)) := fun y => by
          rcases y with y | y
          · exact z y
          · rw [if_pos y.1] at ep; omega
        rw [if_neg hh, ← ep, ← eR] at hsb
        refine nm_r (show nI (65 - (f + 1)) + 1 = nI (65 - f) from by rw [nI_1, show 65 - (f + 1) + 1 = 65 - f by omega]) ?_
        exact ih p' R' 1 _ _ _ _ (by omega) (by omega) (by omega) hl2 hr' hsb
    refine pk_le r.2 r.1 (fun w => pk_le n r.1 (fun w2 => nm_r (nI_1 n) ?_) (fun w2 => ⟨vp_in_nI (by omega) (by omega), ?_⟩)) (fun w => ?_)
    · exact h213 (n + 1) _ rb2 (by rw [if_pos (by omega)]; omega) (by rw [if_neg (by omega)]; exact (List.append_nil _).symm) hr2
    · rw [nI_clamp (by omega)]
      have l2 : (R ++ sl_x Ypat p (r.1 - p) ++ sl_r Yscr Ypat rp r.1 r.2 rn).length < 2 ^ 30 := by
        have a := sl_rlen Yscr Ypat rp r.1 r.2 rn
        have b : rn * (r.2 - r.1 + 1) ≤ 128 * 65 := Nat.mul_le_mul hrn (by omega)
        rw [List.length_append]
        omega
      refine ym_put l2 hr2 (fun rb3 hr3 => nm_r (nI_1 _) ?_)
      exact h213 (r.1 + 1) _ rb3 (by rw [if_pos (by omega)]) (by rw [if_pos (show r.2 = r.1 ∧ r.1 < n by omega)]) hr3
    · exact h213 r.2 _ rb2 (by rw [if_neg (by omega)]) (by rw [if_neg (by omega)]; exact (List.append_nil _).symm) hr2
theorem ym_subst {L n k : Nat} {d : cm_T} {Mout Mhold Mac : Nat → Int32} {Mo Mh Mm Mq Mst : Nat} {Mt : Int32} {post : Int32 → SY → Prop} (hL : L ≤ 128) (hc : ch_ok Yscr L) (hn : n ≤ 64) (hre : d.2.2.1.2.1.1 ≤ L) (hrp : d.2.2.1.2.1.2.1 ≤ L) (hx : ∃ g, rg_x Yscr L d.2.2.1.2.1.1 = some g) (htx : tx_n Yscr L d.2.2.1.2.1.2.1 = some d.2.2.1.2.1.2.2.1)
    (h : ∀ r n' pat' t' icN na anS anE mj rl ic ie aC aAny aSt rch nx rb, rn_sub Yscr L d (Mout, Mo, Ypat, n, Mhold, Mh, Mm, Mq, Mst, Ytflag, Mac) = (r, (Mout, Mo, pat', n', Mhold, Mh, Mm, Mq, Mst, t', Mac)) → (r = -1 ∨ r = 3) → post (if r = -1 then nI (k + 1) else -13) (Yquiet, Yfuel, nI L, YinpLen, YhasTab, YnCmd, YoutLen, nI n', YholdLen, YlinesRead, YstepsUsed, t', YnAddr, Ya1K, Ya1V, Ya2K, Ya2V, Ycc, YlabS, YlabL, nI d.2.2.1.2.1.1, nI d.2.2.1.2.1.2.1, YadK, YadV, Yneg, d.2.2.1.2.1.2.2.2, icN, na, anS, anE, mj, rl, Yscr, Yinp, YcmdPos, Yout, pat', Yhold, Yactive, Yact, ic, ie, aC, aAny, aSt, rch, nx, rb)) :
    wpY_subst post (Yquiet, Yfuel, nI L, YinpLen, YhasTab, YnCmd, YoutLen, nI n, YholdLen, YlinesRead, YstepsUsed, Ytflag, YnAddr, Ya1K, Ya1V, Ya2K, Ya2V, Ycc, YlabS, YlabL, nI d.2.2.1.2.1.1, nI d.2.2.1.2.1.2.1, YadK, YadV, Yneg, d.2.2.1.2.1.2.2.2, YicN, Yna, YanS, YanE, YmJ, YrLen, Yscr, Yinp, YcmdPos, Yout, Ypat, Yhold, Yactive, Yact, Yic, Yie, YaC, YaAny, YaSt, Yrch, Ynx, Yrb) (nI k) := by
  obtain ⟨g, hx⟩ := hx
  have f12 := rg_x_12 hx
  unfold wpY_subst
  refine ym_loadText hL hre ?_ ?_
  · intro n1 ic ie htx1 hic
    have ft := tx_facts n1 _ htx1
    refine br_f (nI_pos (by omega)) ?_
    refine ym_build hL hc htx1 hic ?_ ?_
    · intro g' aC aAny aSt hr hH
      rw [hx] at hr
      have eg := Option.some.inj hr
      subst eg
      refine br_f (by decide) ?_
      refine ym_loadText hL hrp ?_ ?_
      · intro rn ic2 ie2 htx2 hic2
        rw [htx] at htx2
        have en := Option.some.inj htx2
        subst en
        have ft2 := tx_facts _ _ htx
        have pg := tx_p_ge Yscr d.2.2.1.2.1.2.1 d.2.2.1.2.1.2.2.1
        refine br_t (nI_pos' (by omega)) ⟨66, ?_⟩
        unfold rn_sub at h
        dsimp only at h
        rw [hx] at h
        dsimp only at h
        refine ym_s58 (f := 65) (tr := sb_x Yscr L Ypat n g d.2.2.1.2.1.2.1 d.2.2.1.2.1.2.2.1 d.2.2.1.2.1.2.2.2 65 0 [] 0) hL hc hn f12.1 f12.2.2.1 f12.2.2.2 hH htx (by omega) hic2 ?_ ?_ ?_ 0 [] 0 YmJ Yrch Ynx Yrb (by omega) (by omega) (by omega) (Nat.zero_le _) (rl_0 _) rfl
        · intro z mj rl rch nx rb
          exact h (-1) n Ypat Ytflag _ _ _ _ mj rl _ _ _ _ _ rch nx rb (by rw [if_pos z]) (Or.inl rfl)
        · intro z w mj rl rch nx rb
          exact h 3 n Ypat Ytflag _ _ _ _ mj rl _ _ _ _ _ rch nx rb (by rw [if_neg z, if_pos w]) (Or.inr rfl)
        · intro z w mj rl rch nx rb
          exact h (-1) _ _ 1 _ _ _ _ mj rl _ _ _ _ _ rch nx rb (by rw [if_neg z, if_neg w]) (Or.inl rfl)
      · intro htx2
        rw [htx] at htx2
        exact absurd htx2 (by simp)
    · intro hr
      rw [hx] at hr
      exact absurd hr (by simp)
  · intro htx1
    unfold rg_x at hx
    rw [htx1] at hx
    exact absurd hx (by simp)
end YU_1
end
section
/-! Y: selection, the next line -/
section YV_1
variable {Yquiet Yfuel YscrLen YinpLen YhasTab YnCmd YoutLen YpatLen YholdLen YlinesRead YstepsUsed Ytflag YnAddr Ya1K Ya1V Ya2K Ya2V Ycc YlabS YlabL YsRe YsRep YadK YadV Yneg YsG YicN Yna YanS YanE YmJ YrLen : Int32} {Yscr Yinp YcmdPos Yout Ypat Yhold Yactive Yact Yic Yie YaC YaAny YaSt Yrch Ynx Yrb : Nat → Int32}
/-- a good address -/
def ad_ok (L kd : Nat) (v : Int32) : Prop := kd ≤ 3 ∧ ¬ kd = 0 ∧ (¬ kd = 1 → ¬ kd = 2 → ∃ p : Nat, p ≤ L ∧ v = nI p)
theorem ad_x_ok {s : Nat → Int32} {L q : Nat} {a : Nat × Int32 × Nat} (h : ad_x s L q = some a) : ad_ok L a.1 a.2.1 := by
  unfold ad_x at h
  split at h
  · exact absurd h (by simp)
  · split at h
    · rw [← Option.some.inj h]; exact ⟨(by decide : (2 : Nat) ≤ 3), (by decide : ¬ (2 : Nat) = 0), fun _ y => absurd rfl y⟩
    · split at h
      · cases e : rg_x s L (q + 1) with
        | none => rw [e] at h; exact absurd h (by simp)
        | some r => rw [e] at h; rw [← Option.some.inj h]; exact ⟨Nat.le_refl 3, (by decide : ¬ (3 : Nat) = 0), fun _ _ => ⟨q + 1, by omega, rfl⟩⟩
      · split at h
        · cases e : nu_x s L q with
          | none => rw [e] at h; exact absurd h (by simp)
          | some r => rw [e] at h; rw [← Option.some.inj h]; exact ⟨(by decide : (1 : Nat) ≤ 3), (by decide : ¬ (1 : Nat) = 0), fun y => absurd rfl y⟩
        · exact absurd h (by simp)
def cm_ok (s : Nat → Int32) (L : Nat) (d : cm_T) : Prop := d.1.1 ≤ 2 ∧ (d.1.2.2.2.1 = 0 ∨ d.1.2.2.2.1 = 1) ∧ (¬ d.1.1 = 0 → ad_ok L d.1.2.1.1 d.1.2.1.2) ∧ (d.1.1 = 2 → ad_ok L d.1.2.2.1.1 d.1.2.2.1.2) ∧ (d.2.1 = 115 → d.2.2.1.2.1.1 ≤ L ∧ d.2.2.1.2.1.2.1 ≤ L ∧ (∃ g, rg_x s L d.2.2.1.2.1.1 = some g) ∧ tx_n s L d.2.2.1.2.1.2.1 = some d.2.2.1.2.1.2.2.1 ∧ (d.2.2.1.2.1.2.2.2 = 0 ∨ d.2.2.1.2.1.2.2.2 = 1)) ∧ (d.1.1 = 0 → d.1.2.1.1 = 0 ∧ d.1.2.2.2.1 = 0) ∧ (¬ d.1.1 = 2 → d.1.2.2.1.1 = 0)
theorem cm_a_ok {s : Nat → Int32} {L q : Nat} {a : Nat × (Nat × Int32) × (Nat × Int32) × Int32 × Nat} (h : cm_a s L q = some a) : a.1 ≤ 2 ∧ (a.2.2.2.1 = 0 ∨ a.2.2.2.1 = 1) ∧ (¬ a.1 = 0 → ad_ok L a.2.1.1 a.2.1.2) ∧ (a.1 = 2 → ad_ok L a.2.2.1.1 a.2.2.1.2) ∧ (a.1 = 0 → a.2.1.1 = 0 ∧ a.2.2.2.1 = 0) ∧ (¬ a.1 = 2 → a.2.2.1.1 = 0) := by
  unfold cm_a at h
  split at h
  · cases e : ad_x s L q with
    | none => rw [e] at h; exact absurd h (by simp)
    | some a0 =>
      rw [e] at h
      dsimp only [Option.bind] at h
      split at h
      · cases e3 : ad_x s L (cm_sk s L (cm_sk s L a0.2.2 + 1)) with
        | none => rw [e3] at h; exact absurd h (by simp)
        | some b0 =>
          rw [e3] at h
          rw [← Option.some.inj h]
          exact ⟨Nat.le_refl 2, cm_g01 _ _ _, fun _ => ad_x_ok e, fun _ => ad_x_ok e3, fun y => absurd y (by decide : ¬ (2 : Nat) = 0), fun y => absurd rfl y⟩
      · rw [← Option.some.inj h]
        exact ⟨(by decide : (1 : Nat) ≤ 2), cm_g01 _ _ _, fun _ => ad_x_ok e, fun y => absurd y (by decide : ¬ (1 : Nat) = 2), fun y => absurd y (by decide : ¬ (1 : Nat) = 0), fun _ => rfl⟩
  · rw [← Option.some.inj h]
    exact ⟨Nat.zero_le 2, Or.inl rfl, fun y => absurd rfl y, fun y => absurd y (by decide : ¬ (0 : Nat) = 2), fun _ => ⟨rfl, rfl⟩, fun _ => rfl⟩
theorem cm_x_ok {s : Nat → Int32} {L q : Nat} {d : cm_T} (hq : q ≤ L) (h : cm_x s L q = some d) : cm_ok s L d := by
  unfold cm_x at h
  cases ea : cm_a s L q with
  | none => rw [ea] at h; exact absurd h (by simp)
  | some a =>
    rw [ea] at h
    dsimp only [Option.bind] at h
    cases eb : cm_b s L a.1 a.2.2.2.2 with
    | none => rw [eb] at h; exact absurd h (by simp)
    | some b =>
      rw [eb] at h
      dsimp only at h
      split at h
      · exact absurd h (by simp)
      · rw [← Option.some.inj h]
        obtain ⟨o1, o2, o3, o4, o5, o6⟩ := cm_a_ok ea
        refine ⟨o1, o2, o3, o4, fun y => ?_, o5, o6⟩
        have y : s a.2.2.2.2 = 115 := y
        unfold cm_b at eb
        split at eb
        · exact absurd eb (by simp)
        · cases es : cm_s s L (a.2.2.2.2 + 1) with
          | none => rw [es] at eb; exact absurd eb (by simp)
          | some g =>
            rw [es] at eb
            rw [← Option.some.inj eb]
            obtain ⟨c1, c2, c3, c4, c5, c6, c7⟩ := cm_s_f es
            exact ⟨by dsimp only; omega, by dsimp only; omega, c7, c6, c5⟩
/-- Y's range states against the activation lines -/
def ya_R (active act ac : Nat → Int32) : Prop := ∀ k, k < 16 → (active k = 0 ∧ ac k = 0) ∨ (active k = 1 ∧ act k = ac k ∧ ¬ ac k = 0)
theorem ya_Ru {active act ac : Nat → Int32} {k : Nat} {x y z : Int32} (h : ya_R active act ac) (hh : (x = 0 ∧ z = 0) ∨ (x = 1 ∧ y = z ∧ ¬ z = 0)) : ya_R (upd active k x) (upd act k y) (upd ac k z) := by
  intro j hj
  by_cases e : j = k
  · rw [e, pk_us, pk_us, pk_us]; exact hh
  · rw [pk_un e, pk_un e, pk_un e]; exact h j hj
theorem ym_173 {b : Bool} {post : Int32 → SY → Prop} (hneg : Yneg = 0 ∨ Yneg = 1) (h : post (b2_i (b != decide (Yneg = 1))) (Yquiet, Yfuel, YscrLen, YinpLen, YhasTab, YnCmd, YoutLen, YpatLen, YholdLen, YlinesRead, YstepsUsed, Ytflag, YnAddr, Ya1K, Ya1V, Ya2K, Ya2V, Ycc, YlabS, YlabL, YsRe, YsRep, YadK, YadV, Yneg, YsG, YicN, Yna, YanS, YanE, YmJ, YrLen, Yscr, Yinp, YcmdPos, Yout, Ypat, Yhold, Yactive, Yact, Yic, Yie, YaC, YaAny, YaSt, Yrch, Ynx, Yrb)) : wY_select_173 post (b2_i b) Yquiet Yfuel YscrLen YinpLen YhasTab YnCmd YoutLen YpatLen YholdLen YlinesRead YstepsUsed Ytflag YnAddr Ya1K Ya1V Ya2K Ya2V Ycc YlabS YlabL YsRe YsRep YadK YadV Yneg YsG YicN Yna YanS YanE YmJ YrLen Yscr Yinp YcmdPos Yout Ypat Yhold Yactive Yact Yic Yie YaC YaAny YaSt Yrch Ynx Yrb := by
  rcases hneg with e | e
  · refine br_t e ⟨ba_nb (b2_01 b), ?_⟩
    rw [e] at h ⊢
    rw [decide_eq_false (by decide), Bool.bne_false] at h
    exact h
  · subst e
    rw [decide_eq_true rfl] at h
    refine br_f (by decide) ?_
    cases b
    · exact br_t rfl h
    · exact br_f (by decide) h
theorem ym_select {L I k n m q : Nat} {d : cm_T} {Mout Mhold Mac : Nat → Int32} {Mo Mh Mst : Nat} {Mt : Int32} {post : Int32 → SY → Prop} (hL : L ≤ 128) (hc : ch_ok Yscr L) (hI : I ≤ 128) (hk : k < 16) (hn : n ≤ 64) (hl : ln_I Yinp I m q) (hm1 : 1 ≤ m) (hok : cm_ok Yscr L d) (hH : yc_h YnAddr Ya1K Ya1V Ya2K Ya2V Ycc YlabS YlabL YsRe YsRep Yneg YsG d) (hA : ya_R Yactive Yact Mac)
    (h : ∀ active act icN na anS anE mj ic ie aC aAny aSt rch nx, ya_R active act (rn_sel Yscr L I d k (Mout, Mo, Ypat, n, Mhold, Mh, m, q, Mst, Mt, Mac)).2 → post (b2_i (rn_sel Yscr L I d k (Mout, Mo, Ypat, n, Mhold, Mh, m, q, Mst, Mt, Mac)).1) (Yquiet, Yfuel, nI L, nI I, YhasTab, YnCmd, YoutLen, nI n, YholdLen, nI m, YstepsUsed, Ytflag, YnAddr, Ya1K, Ya1V, Ya2K, Ya2V, Ycc, YlabS, YlabL, YsRe, YsRep, YadK, YadV, Yneg, YsG, icN, na, anS, anE, mj, YrLen, Yscr, Yinp, YcmdPos, Yout, Ypat, Yhold, active, act, ic, ie, aC, aAny, aSt, rch, nx, Yrb)) :
    wpY_select post (Yquiet, Yfuel, nI L, nI I, YhasTab, YnCmd, YoutLen, nI n, YholdLen, nI m, YstepsUsed, Ytflag, YnAddr, Ya1K, Ya1V, Ya2K, Ya2V, Ycc, YlabS, YlabL, YsRe, YsRep, YadK, YadV, Yneg, YsG, YicN, Yna, YanS, YanE, YmJ, YrLen, Yscr, Yinp, YcmdPos, Yout, Ypat, Yhold, Yactive, Yact, Yic, Yie, YaC, YaAny, YaSt, Yrch, Ynx, Yrb) (nI k) := by
  obtain ⟨y1, y2, y3, y4, y5, y6, y7, y8, y9⟩ := hH
  obtain ⟨o1, o2, o3, o4, o5⟩ := hok
  subst y1 y4
  have hm := ln_le hl
  have hkl := ln_kle Yinp I
  have vk : vp_in (nI k) 16 := pk_in k 16 hk
  have ck : (nI k).toNatClampNeg = k := nI_clamp (by omega)
  have nm0 : ¬ nI m = 0 := nI_ne0 hm1 (by omega)
  unfold rn_sel at h
  dsimp only at h
  unfold wpY_select
  refine pk_eq d.1.1 0 (fun e0 => ?_) (fun e0 => pk_eq d.1.1 1 (fun e1 => ?_) (fun e1 => ⟨vk, ?_⟩))
  · rw [if_pos e0] at h
    exact h _ _ _ _ _ _ _ _ _ _ _ _ _ _ hA
  · rw [if_neg e0, if_pos e1] at h
    obtain ⟨z1, z2⟩ := y2 e0
    subst z1 z2
    obtain ⟨q1, q2, q3⟩ := o3 e0
    refine ym_holds (Mout := Mout) (Mo := Mo) (Mhold := Mhold) (Mh := Mh) (Mst := Mst) (Mt := Mt) (Mac := Mac) hL hc hI hn hl q1 q3 (fun icN na anS anE mj ic ie aC aAny aSt rch nx => ?_)
    exact ym_173 o2 (h _ _ _ _ _ _ _ _ _ _ _ _ _ _ hA)
  · have e2 : d.1.1 = 2 := by omega
    rw [if_neg e0, if_neg e1] at h
    obtain ⟨z1, z2⟩ := y2 e0
    obtain ⟨z3, z4⟩ := y3 e2
    subst z1 z2 z3 z4
    obtain ⟨q1, q2, q3⟩ := o3 e0
    obtain ⟨p1, p2, p3⟩ := o4 e2
    rw [ck]
    refine br_c (fun a0 => ?_) (fun a0 => ⟨vk, ?_⟩)
    · have ac0 : Mac k = 0 := by
        rcases hA k hk with ⟨_, y⟩ | ⟨y, _⟩
        · exact y
        · rw [a0] at y; exact absurd y (by decide)
      rw [if_pos ac0] at h
      refine ym_holds (Mout := Mout) (Mo := Mo) (Mhold := Mhold) (Mh := Mh) (Mst := Mst) (Mt := Mt) (Mac := Mac) hL hc hI hn hl q1 q3 (fun icN na anS anE mj ic ie aC aAny aSt rch nx => ?_)
      cases hH : rn_H Yscr L I d.1.2.1.1 d.1.2.1.2 (Mout, Mo, Ypat, n, Mhold, Mh, m, q, Mst, Mt, Mac) with
      | false =>
        rw [hH, if_neg (by decide)] at h
        exact br_t rfl (ym_173 (b := false) o2 (h _ _ _ _ _ _ _ _ _ _ _ _ _ _ hA))
      | true =>
        rw [hH, if_pos rfl] at h
        refine br_f (by decide) ⟨vk, nm_e ⟨vk, nm_e ?_⟩⟩
        have on : ya_R (upd Yactive k 1) (upd Yact k (nI m)) (upd Mac k (nI m)) := ya_Ru hA (Or.inr ⟨rfl, rfl, nm0⟩)
        refine pk_eq d.1.2.2.1.1 1 (fun k1 => br_c (fun y => ?_) (fun y => ⟨vk, nm_e ?_⟩)) (fun k1 => ?_)
        · rw [if_neg (fun z => absurd y (Int32.not_lt.mpr z.2))] at h
          exact ym_173 (b := true) o2 (h _ _ _ _ _ _ _ _ _ _ _ _ _ _ on)
        · rw [if_pos ⟨k1, Int32.not_lt.mp y⟩] at h
          have off : ya_R (upd (upd Yactive k 1) k (vp_nar .boolean 0)) (upd Yact k (nI m)) Mac := by
            intro j hj
            by_cases e : j = k
            · rw [e, pk_us, pk_us]; exact Or.inl ⟨rfl, ac0⟩
            · rw [pk_un e, pk_un e, pk_un e]; exact hA j hj
          exact ym_173 (b := true) o2 (h _ _ _ _ _ _ _ _ _ _ _ _ _ _ off)
        · rw [if_neg (fun z => k1 z.1)] at h
          exact ym_173 (b := true) o2 (h _ _ _ _ _ _ _ _ _ _ _ _ _ _ on)
    · obtain ⟨a1, a2, a3⟩ : Yactive k = 1 ∧ Yact k = Mac k ∧ ¬ Mac k = 0 := by
        rcases hA k hk with ⟨y, _⟩ | y
        · exact absurd y a0
        · exact y
      rw [if_neg a3] at h
      rw [a2]
      have keep : ¬ (Mac k < nI m ∧ ((d.1.2.2.1.1 = 1 ∧ d.1.2.2.1.2 ≤ nI m) ∨ (¬ d.1.2.2.1.1 = 1 ∧ rn_H Yscr L I d.1.2.2.1.1 d.1.2.2.1.2 (Mout, Mo, Ypat, n, Mhold, Mh, m, q, Mst, Mt, Mac) = true))) → ∀ icN na anS anE mj ic ie aC aAny aSt rch nx, wY_select_173 post (b2_i true) Yquiet Yfuel (nI L) (nI I) YhasTab YnCmd YoutLen (nI n) YholdLen (nI m) YstepsUsed Ytflag (nI d.1.1) (nI d.1.2.1.1) d.1.2.1.2 (nI d.1.2.2.1.1) d.1.2.2.1.2 Ycc YlabS YlabL YsRe YsRep YadK YadV d.1.2.2.2.1 YsG icN na anS anE mj YrLen Yscr Yinp YcmdPos Yout Ypat Yhold Yactive Yact ic ie aC aAny aSt rch nx Yrb := by
        intro hh icN na anS anE mj ic ie aC aAny aSt rch nx
        rw [if_neg hh] at h
        exact ym_173 o2 (h _ _ _ _ _ _ _ _ _ _ _ _ _ _ hA)
      have off : (Mac k < nI m ∧ ((d.1.2.2.1.1 = 1 ∧ d.1.2.2.1.2 ≤ nI m) ∨ (¬ d.1.2.2.1.1 = 1 ∧ rn_H Yscr L I d.1.2.2.1.1 d.1.2.2.1.2 (Mout, Mo, Ypat, n, Mhold, Mh, m, q, Mst, Mt, Mac) = true))) → ∀ icN na anS anE mj ic ie aC aAny aSt rch nx, wY_select_173 post (b2_i true) Yquiet Yfuel (nI L) (nI I) YhasTab YnCmd YoutLen (nI n) YholdLen (nI m) YstepsUsed Ytflag (nI d.1.1) (nI d.1.2.1.1) d.1.2.1.2 (nI d.1.2.2.1.1) d.1.2.2.1.2 Ycc YlabS YlabL YsRe YsRep YadK YadV d.1.2.2.2.1 YsG icN na anS anE mj YrLen Yscr Yinp YcmdPos Yout Ypat Yhold (upd Yactive k 0) Yact ic ie aC aAny aSt rch nx Yrb := by
        intro hh icN na anS anE mj ic ie aC aAny aSt rch nx
        rw [if_pos hh] at h
        refine ym_173 o2 (h _ _ _ _ _ _ _ _ _ _ _ _ _ _ ?_)
        intro j hj
        dsimp only
        by_cases e : j = k
        · rw [e, pk_us, pk_us]; exact Or.inl ⟨rfl, rfl⟩
        · rw [pk_un e, pk_un e]; exact hA j hj
      refine br_c (fun y => keep (fun z => absurd z.1 (Int32.not_lt.mpr y)) _ _ _ _ _ _ _ _ _ _ _ _) (fun y => ?_)
      have lt : Mac k < nI m := Int32.not_le.mp y
      refine pk_eq d.1.2.2.1.1 1 (fun k1 => br_c (fun y2 => br_t rfl (keep (fun z => ?_) _ _ _ _ _ _ _ _ _ _ _ _)) (fun y2 => br_f (by decide) ⟨vk, nm_e ?_⟩)) (fun k1 => ?_)
      · rcases z.2 with w | w
        · exact absurd y2 (Int32.not_lt.mpr w.2)
        · exact w.1 k1
      · rw [ck]
        exact off ⟨lt, Or.inl ⟨k1, Int32.not_lt.mp y2⟩⟩ _ _ _ _ _ _ _ _ _ _ _ _
      · refine ym_holds (Mout := Mout) (Mo := Mo) (Mhold := Mhold) (Mh := Mh) (Mst := Mst) (Mt := Mt) (Mac := Mac) hL hc hI hn hl p1 p3 (fun icN na anS anE mj ic ie aC aAny aSt rch nx => ?_)
        cases hH : rn_H Yscr L I d.1.2.2.1.1 d.1.2.2.1.2 (Mout, Mo, Ypat, n, Mhold, Mh, m, q, Mst, Mt, Mac) with
        | false =>
          refine br_t rfl (keep (fun z => ?_) _ _ _ _ _ _ _ _ _ _ _ _)
          rcases z.2 with w | w
          · exact k1 w.1
          · rw [hH] at w; exact absurd w.2 (by decide)
        | true =>
          refine br_f (by decide) ⟨vk, nm_e ?_⟩
          rw [ck]
          exact off ⟨lt, Or.inr ⟨k1, hH⟩⟩ _ _ _ _ _ _ _ _ _ _ _ _
end YV_1
end
section
/-! Y: one step -/
section YW_1
variable {Yquiet Yfuel YscrLen YinpLen YhasTab YnCmd YoutLen YpatLen YholdLen YlinesRead YstepsUsed Ytflag YnAddr Ya1K Ya1V Ya2K Ya2V Ycc YlabS YlabL YsRe YsRep YadK YadV Yneg YsG YicN Yna YanS YanE YmJ YrLen : Int32} {Yscr Yinp YcmdPos Yout Ypat Yhold Yactive Yact Yic Yie YaC YaAny YaSt Yrch Ynx Yrb : Nat → Int32}
def rn_y (r : Int32) (k : Nat) : Int32 := if r = -1 then nI k else if r = -2 then -2 else -10 - r
theorem ym_nextLine {I k o n m q : Nat} {Mhold Mac : Nat → Int32} {Mh Mst : Nat} {Mt : Int32} {post : Int32 → SY → Prop} (hI : I ≤ 128) (ho : o ≤ 256) (hn : n ≤ 64) (hl : ln_I Yinp I m q)
    (h : ∀ r out' o' pat' n' m' q', rn_N Yinp I Yquiet (Yout, o, Ypat, n, Mhold, Mh, m, q, Mst, Mt, Mac) = (r, (out', o', pat', n', Mhold, Mh, m', q', Mst, Mt, Mac)) → post (rn_y r (k + 1)) (Yquiet, Yfuel, YscrLen, nI I, YhasTab, YnCmd, nI o', nI n', YholdLen, nI m', YstepsUsed, Ytflag, YnAddr, Ya1K, Ya1V, Ya2K, Ya2V, Ycc, YlabS, YlabL, YsRe, YsRep, YadK, YadV, Yneg, YsG, YicN, Yna, YanS, YanE, YmJ, YrLen, Yscr, Yinp, YcmdPos, out', pat', Yhold, Yactive, Yact, Yic, Yie, YaC, YaAny, YaSt, Yrch, Ynx, Yrb)) :
    wpY_nextLine post (Yquiet, Yfuel, YscrLen, nI I, YhasTab, YnCmd, nI o, nI n, YholdLen, nI m, YstepsUsed, Ytflag, YnAddr, Ya1K, Ya1V, Ya2K, Ya2V, Ycc, YlabS, YlabL, YsRe, YsRep, YadK, YadV, Yneg, YsG, YicN, Yna, YanS, YanE, YmJ, YrLen, Yscr, Yinp, YcmdPos, Yout, Ypat, Yhold, Yactive, Yact, Yic, Yie, YaC, YaAny, YaSt, Yrch, Ynx, Yrb) (nI k) := by
  have hm := ln_le hl
  have hkl := ln_kle Yinp I
  have hlt := ln_lt hl
  unfold rn_N at h
  dsimp only at h
  unfold wpY_nextLine
  refine ym_lineCount hI ?_
  refine pk_le (ln_k Yinp I) m (fun w => ?_) (fun w => ?_)
  · rw [if_pos (show I ≤ q by omega)] at h
    refine br_c (fun q0 => ?_) (fun q0 => ?_)
    · rw [if_pos q0] at h
      unfold rn_print at h
      dsimp only at h
      refine ym_print ho hn (fun y => br_f (by decide) ?_) (fun y => br_t rfl ?_)
      · rw [if_neg y] at h
        exact h 0 _ _ _ _ _ _ rfl
      · rw [if_pos y] at h
        exact h 3 _ _ _ _ _ _ rfl
    · rw [if_neg q0] at h
      exact h 0 _ _ _ _ _ _ rfl
  · have hq : q < I := by omega
    have he := sc_facts (P := pb_n Yinp) (L := I) (q := q) (by omega)
    have he2 : ln_e Yinp I q ≤ I := he.2.1
    have he1 : q ≤ ln_e Yinp I q := he.1
    rw [if_neg (show ¬ I ≤ q by omega)] at h
    rw [nI_1 m]
    refine ym_lineLen hI hl hq ?_
    refine pk_le (n + 1 + (ln_e Yinp I q - q)) 64 (fun y => ?_) (fun y => ?_) (hx := by rw [nI_1, nI_add])
    · rw [if_neg (by omega)] at h
      refine ym_lineStart hI hl hq ⟨pk_in n 64 (by omega), nm_e ⟨ln_e Yinp I q - q + 1, ?_⟩⟩
      rw [nI_clamp (by omega)]
      have loop : ∀ f x, ln_e Yinp I q - q - x < f → x ≤ ln_e Yinp I q - q → wY_nextLine_63 post (nI k) (nI (ln_e Yinp I q - q)) (nI q) Yquiet Yfuel YscrLen (nI I) YhasTab YnCmd (nI o) (nI n) YholdLen (nI m) YstepsUsed Ytflag YnAddr Ya1K Ya1V Ya2K Ya2V Ycc YlabS YlabL YsRe YsRep YadK YadV Yneg YsG YicN Yna YanS YanE YmJ YrLen f (nI x) Yscr Yinp YcmdPos Yout (cp_y Yinp q (upd Ypat n 10) (n + 1) x) Yhold Yactive Yact Yic Yie YaC YaAny YaSt Yrch Ynx Yrb := by
        intro f
        induction f with
        | zero => intro x h; exact absurd h (Nat.not_lt_zero _)
        | succ f ih =>
        intro x hf hx
        refine pk_le (ln_e Yinp I q - q) x (fun z => ?_) (fun z => ?_)
        · have e : x = ln_e Yinp I q - q := by omega
          rw [e, cp_u _ _ _ _ _ _ _ (by omega)]
          refine nm_r (show nI n + 1 + nI (ln_e Yinp I q - q) = nI (n + 1 + (ln_e Yinp I q - q)) by rw [nI_1, nI_add]) (nm_r (nI_1 m) ?_)
          rw [nI_1]
          exact h (-1) _ _ _ _ _ _ rfl
        · rw [show nI q + nI x = nI (q + x) from nI_add q x, show nI n + 1 + nI x = nI (n + 1 + x) by rw [nI_1, nI_add]]
          refine br_f (nI_ge (by omega) (by omega)) ⟨vp_in_nI (by omega) (by omega), vp_in_nI (by omega) (by omega), nm_e (nm_r (nI_1 x) ?_)⟩
          rw [nI_clamp (by omega), nI_clamp (by omega), cp_s]
          exact ih (x + 1) (by omega) (by omega)
      have := loop (ln_e Yinp I q - q + 1) 0 (by omega) (by omega)
      rw [cp_0] at this
      exact this
    · rw [if_pos y] at h
      exact h 3 _ _ _ _ _ _ rfl
theorem ym_539 {L n a t : Nat} {post : Int32 → SY → Prop} (hL : L ≤ 128) (hc : ch_ok Yscr L) (hG : cq_G Yscr L n) (hn : n ≤ 16) (hcp : ∀ j, j < n → YcmdPos j = nI (cq_Q Yscr L j)) (ha : a < n) (ht : t < n) (h58 : lb_c Yscr L t = 58) (hq : lb_q Yscr L a t) (hno : ∀ j, j < t → lb_c Yscr L j = 58 → ¬ lb_q Yscr L a j)
    (h : ∀ YnAddr1 Ya1K1 Ya1V1 Ya2K1 Ya2V1 Ycc1 YlabS1 YlabL1 YsRe1 YsRep1 YadK1 YadV1 Yneg1 YsG1 YicN1 Yna1 YanS1 YanE1 YmJ1 YrLen1 Yic1 Yie1 YaC1 YaAny1 YaSt1 Yrch1 Ynx1 Yrb1, post (nI t) (Yquiet, Yfuel, nI L, YinpLen, YhasTab, nI n, YoutLen, YpatLen, YholdLen, YlinesRead, YstepsUsed, Ytflag, YnAddr1, Ya1K1, Ya1V1, Ya2K1, Ya2V1, Ycc1, YlabS1, YlabL1, YsRe1, YsRep1, YadK1, YadV1, Yneg1, YsG1, YicN1, Yna1, YanS1, YanE1, YmJ1, YrLen1, Yscr, Yinp, YcmdPos, Yout, Ypat, Yhold, Yactive, Yact, Yic1, Yie1, YaC1, YaAny1, YaSt1, Yrch1, Ynx1, Yrb1)) : ∀ f j, t - j < f → j ≤ t → ∀ YnAddr1 Ya1K1 Ya1V1 Ya2K1 Ya2V1 Ycc1 YlabS1 YlabL1 YsRe1 YsRep1 YadK1 YadV1 Yneg1 YsG1 YicN1 Yna1 YanS1 YanE1 YmJ1 YrLen1 Yic1 Yie1 YaC1 YaAny1 YaSt1 Yrch1 Ynx1 Yrb1, wY_step_539 post (nI (lb_s Yscr L a)) (nI (lb_l Yscr L a)) f (nI j) Yquiet Yfuel (nI L) YinpLen YhasTab (nI n) YoutLen YpatLen YholdLen YlinesRead YstepsUsed Ytflag YnAddr1 Ya1K1 Ya1V1 Ya2K1 Ya2V1 Ycc1 YlabS1 YlabL1 YsRe1 YsRep1 YadK1 YadV1 Yneg1 YsG1 YicN1 Yna1 YanS1 YanE1 YmJ1 YrLen1 Yscr Yinp YcmdPos Yout Ypat Yhold Yactive Yact Yic1 Yie1 YaC1 YaAny1 YaSt1 Yrch1 Ynx1 Yrb1 := by
  intro f
  induction f with
  | zero => intro j h; exact absurd h (Nat.not_lt_zero _)
  | succ f ih =>
  intro j hf hj YnAddr1 Ya1K1 Ya1V1 Ya2K1 Ya2V1 Ycc1 YlabS1 YlabL1 YsRe1 YsRep1 YadK1 YadV1 Yneg1 YsG1 YicN1 Yna1 YanS1 YanE1 YmJ1 YrLen1 Yic1 Yie1 YaC1 YaAny1 YaSt1 Yrch1 Ynx1 Yrb1
  refine br_f (nI_ge (by omega) (by omega)) (br_f (nI_ge (b := 16) (by omega) (by decide)) ⟨pk_in j 16 (by omega), ?_⟩)
  obtain ⟨g1, g2⟩ := hG j (by omega)
  rw [nI_clamp (by omega), hcp j (by omega)]
  refine ym_pc hL hc (Nat.le_of_lt g1) g2 ?_
  intro YnAddr2 Ya1K2 Ya1V2 Ya2K2 Ya2V2 Ycc2 YlabS2 YlabL2 YsRe2 YsRep2 YadK2 YadV2 Yneg2 YsG2 YicN2 Yna2 YanS2 YanE2 YmJ2 YrLen2 Yic2 Yie2 YaC2 YaAny2 YaSt2 Yrch2 Ynx2 Yrb2 hH
  obtain ⟨y1, y2, y3, y4, y5, y6, y7, y8, y9⟩ := hH
  subst y5 y6 y7
  have fa := lb_f hG ha
  have fj := lb_f hG (show j < n by omega)
  have nxt : j < t → wY_step_539 post (nI (lb_s Yscr L a)) (nI (lb_l Yscr L a)) f (nI (j + 1)) Yquiet Yfuel (nI L) YinpLen YhasTab (nI n) YoutLen YpatLen YholdLen YlinesRead YstepsUsed Ytflag YnAddr2 Ya1K2 Ya1V2 Ya2K2 Ya2V2 ((cq_D Yscr L j).2.1) (nI (cq_D Yscr L j).2.2.1.1.1) (nI (cq_D Yscr L j).2.2.1.1.2) YsRe2 YsRep2 YadK2 YadV2 Yneg2 YsG2 YicN2 Yna2 YanS2 YanE2 YmJ2 YrLen2 Yscr Yinp YcmdPos Yout Ypat Yhold Yactive Yact Yic2 Yie2 YaC2 YaAny2 YaSt2 Yrch2 Ynx2 Yrb2 := fun hlt => ih (j + 1) (by omega) (by omega) _ _ _ _ _ _ _ _ _ _ _ _ _ _ _ _ _ _ _ _ _ _ _ _ _ _ _ _
  refine br_c (fun c => ?_) (fun c => nm_r (nI_1 j) (nxt ?_))
  · refine ym_labEq hL fa.1 fj.1 (fun y => br_f (by decide) ?_) (fun y => br_t rfl (nm_r (nI_1 j) (nxt ?_)))
    · have e : j = t := by
        rcases Nat.lt_or_ge j t with z | z
        · exact absurd y (hno j z c)
        · omega
      rw [e]
      exact h _ _ _ _ _ _ _ _ _ _ _ _ _ _ _ _ _ _ _ _ _ _ _ _ _ _ _ _
    · rcases Nat.lt_or_ge j t with z | z
      · exact z
      · have e : j = t := by omega
        rw [e] at y; exact absurd hq y
  · rcases Nat.lt_or_ge j t with z | z
    · exact z
    · have e : j = t := by omega
      rw [e] at c; exact absurd h58 c
theorem ym_471 {k : Nat} {post : Int32 → SY → Prop} (n98 : ¬ Ycc = 98) (n116 : ¬ Ycc = 116) (h : post (nI (k + 1)) (Yquiet, Yfuel, YscrLen, YinpLen, YhasTab, YnCmd, YoutLen, YpatLen, YholdLen, YlinesRead, YstepsUsed, Ytflag, YnAddr, Ya1K, Ya1V, Ya2K, Ya2V, Ycc, YlabS, YlabL, YsRe, YsRep, YadK, YadV, Yneg, YsG, YicN, Yna, YanS, YanE, YmJ, YrLen, Yscr, Yinp, YcmdPos, Yout, Ypat, Yhold, Yactive, Yact, Yic, Yie, YaC, YaAny, YaSt, Yrch, Ynx, Yrb)) : wY_step_471 post (nI k) Yquiet Yfuel YscrLen YinpLen YhasTab YnCmd YoutLen YpatLen YholdLen YlinesRead YstepsUsed Ytflag YnAddr Ya1K Ya1V Ya2K Ya2V Ycc YlabS YlabL YsRe YsRep YadK YadV Yneg YsG YicN Yna YanS YanE YmJ YrLen Yscr Yinp YcmdPos Yout Ypat Yhold Yactive Yact Yic Yie YaC YaAny YaSt Yrch Ynx Yrb := by
  refine br_f n98 (br_f n116 ?_)
  rw [nI_1]; exact h
theorem ym_404 {k : Nat} {post : Int32 → SY → Prop} (n120 : ¬ Ycc = 120) (n98 : ¬ Ycc = 98) (n116 : ¬ Ycc = 116) (h : post (nI (k + 1)) (Yquiet, Yfuel, YscrLen, YinpLen, YhasTab, YnCmd, YoutLen, YpatLen, YholdLen, YlinesRead, YstepsUsed, Ytflag, YnAddr, Ya1K, Ya1V, Ya2K, Ya2V, Ycc, YlabS, YlabL, YsRe, YsRep, YadK, YadV, Yneg, YsG, YicN, Yna, YanS, YanE, YmJ, YrLen, Yscr, Yinp, YcmdPos, Yout, Ypat, Yhold, Yactive, Yact, Yic, Yie, YaC, YaAny, YaSt, Yrch, Ynx, Yrb)) : wY_step_404 post (nI k) Yquiet Yfuel YscrLen YinpLen YhasTab YnCmd YoutLen YpatLen YholdLen YlinesRead YstepsUsed Ytflag YnAddr Ya1K Ya1V Ya2K Ya2V Ycc YlabS YlabL YsRe YsRep YadK YadV Yneg YsG YicN Yna YanS YanE YmJ YrLen Yscr Yinp YcmdPos Yout Ypat Yhold Yactive Yact Yic Yie YaC YaAny YaSt Yrch Ynx Yrb := br_f n120 (ym_471 n98 n116 h)
theorem ym_315 {k : Nat} {post : Int32 → SY → Prop} (n71 : ¬ Ycc = 71) (n120 : ¬ Ycc = 120) (n98 : ¬ Ycc = 98) (n116 : ¬ Ycc = 116) (h : post (nI (k + 1)) (Yquiet, Yfuel, YscrLen, YinpLen, YhasTab, YnCmd, YoutLen, YpatLen, YholdLen, YlinesRead, YstepsUsed, Ytflag, YnAddr, Ya1K, Ya1V, Ya2K, Ya2V, Ycc, YlabS, YlabL, YsRe, YsRep, YadK, YadV, Yneg, YsG, YicN, Yna, YanS, YanE, YmJ, YrLen, Yscr, Yinp, YcmdPos, Yout, Ypat, Yhold, Yactive, Yact, Yic, Yie, YaC, YaAny, YaSt, Yrch, Ynx, Yrb)) : wY_step_315 post (nI k) Yquiet Yfuel YscrLen YinpLen YhasTab YnCmd YoutLen YpatLen YholdLen YlinesRead YstepsUsed Ytflag YnAddr Ya1K Ya1V Ya2K Ya2V Ycc YlabS YlabL YsRe YsRep YadK YadV Yneg YsG YicN Yna YanS YanE YmJ YrLen Yscr Yinp YcmdPos Yout Ypat Yhold Yactive Yact Yic Yie YaC YaAny YaSt Yrch Ynx Yrb := br_f n71 (ym_404 n120 n98 n116 h)
theorem ym_226 {k : Nat} {post : Int32 → SY → Prop} (n72 : ¬ Ycc = 72) (n71 : ¬ Ycc = 71) (n120 : ¬ Ycc = 120) (n98 : ¬ Ycc = 98) (n116 : ¬ Ycc = 116) (h : post (nI (k + 1)) (Yquiet, Yfuel, YscrLen, YinpLen, YhasTab, YnCmd, YoutLen, YpatLen, YholdLen, YlinesRead, YstepsUsed, Ytflag, YnAddr, Ya1K, Ya1V, Ya2K, Ya2V, Ycc, YlabS, YlabL, YsRe, YsRep, YadK, YadV, Yneg, YsG, YicN, Yna, YanS, YanE, YmJ, YrLen, Yscr, Yinp, YcmdPos, Yout, Ypat, Yhold, Yactive, Yact, Yic, Yie, YaC, YaAny, YaSt, Yrch, Ynx, Yrb)) : wY_step_226 post (nI k) Yquiet Yfuel YscrLen YinpLen YhasTab YnCmd YoutLen YpatLen YholdLen YlinesRead YstepsUsed Ytflag YnAddr Ya1K Ya1V Ya2K Ya2V Ycc YlabS YlabL YsRe YsRep YadK YadV Yneg YsG YicN Yna YanS YanE YmJ YrLen Yscr Yinp YcmdPos Yout Ypat Yhold Yactive Yact Yic Yie YaC YaAny YaSt Yrch Ynx Yrb := br_f n72 (ym_315 n71 n120 n98 n116 h)
theorem ym_181 {k : Nat} {post : Int32 → SY → Prop} (n103 : ¬ Ycc = 103) (n72 : ¬ Ycc = 72) (n71 : ¬ Ycc = 71) (n120 : ¬ Ycc = 120) (n98 : ¬ Ycc = 98) (n116 : ¬ Ycc = 116) (h : post (nI (k + 1)) (Yquiet, Yfuel, YscrLen, YinpLen, YhasTab, YnCmd, YoutLen, YpatLen, YholdLen, YlinesRead, YstepsUsed, Ytflag, YnAddr, Ya1K, Ya1V, Ya2K, Ya2V, Ycc, YlabS, YlabL, YsRe, YsRep, YadK, YadV, Yneg, YsG, YicN, Yna, YanS, YanE, YmJ, YrLen, Yscr, Yinp, YcmdPos, Yout, Ypat, Yhold, Yactive, Yact, Yic, Yie, YaC, YaAny, YaSt, Yrch, Ynx, Yrb)) : wY_step_181 post (nI k) Yquiet Yfuel YscrLen YinpLen YhasTab YnCmd YoutLen YpatLen YholdLen YlinesRead YstepsUsed Ytflag YnAddr Ya1K Ya1V Ya2K Ya2V Ycc YlabS YlabL YsRe YsRep YadK YadV Yneg YsG YicN Yna YanS YanE YmJ YrLen Yscr Yinp YcmdPos Yout Ypat Yhold Yactive Yact Yic Yie YaC YaAny YaSt Yrch Ynx Yrb := br_f n103 (ym_226 n72 n71 n120 n98 n116 h)
theorem ym_147 {k n : Nat} {post : Int32 → SY → Prop} (hn : n ≤ 64) (h : wY_step_181 post (nI k) Yquiet Yfuel YscrLen YinpLen YhasTab YnCmd YoutLen (nI n) (nI n) YlinesRead YstepsUsed Ytflag YnAddr Ya1K Ya1V Ya2K Ya2V Ycc YlabS YlabL YsRe YsRep YadK YadV Yneg YsG YicN Yna YanS YanE YmJ YrLen Yscr Yinp YcmdPos Yout Ypat (cp_y Ypat 0 Yhold 0 n) Yactive Yact Yic Yie YaC YaAny YaSt Yrch Ynx Yrb) : ∃ f, wY_step_147 post (nI k) Yquiet Yfuel YscrLen YinpLen YhasTab YnCmd YoutLen (nI n) YholdLen YlinesRead YstepsUsed Ytflag YnAddr Ya1K Ya1V Ya2K Ya2V Ycc YlabS YlabL YsRe YsRep YadK YadV Yneg YsG YicN Yna YanS YanE YmJ YrLen f 0 Yscr Yinp YcmdPos Yout Ypat Yhold Yactive Yact Yic Yie YaC YaAny YaSt Yrch Ynx Yrb := by
  have loop : ∀ f x, n - x < f → x ≤ n → wY_step_147 post (nI k) Yquiet Yfuel YscrLen YinpLen YhasTab YnCmd YoutLen (nI n) YholdLen YlinesRead YstepsUsed Ytflag YnAddr Ya1K Ya1V Ya2K Ya2V Ycc YlabS YlabL YsRe YsRep YadK YadV Yneg YsG YicN Yna YanS YanE YmJ YrLen f (nI x) Yscr Yinp YcmdPos Yout Ypat (cp_y Ypat 0 Yhold 0 x) Yactive Yact Yic Yie YaC YaAny YaSt Yrch Ynx Yrb := by
    intro f
    induction f with
    | zero => intro x h; exact absurd h (Nat.not_lt_zero _)
    | succ f ih =>
    intro x hf hx
    refine pk_le n x (fun w => ?_) (fun w => ⟨vp_in_nI (by omega) (by omega), vp_in_nI (by omega) (by omega), nm_e (nm_r (nI_1 x) ?_)⟩)
    · rw [show x = n by omega]; exact h
    · rw [nI_clamp (by omega)]
      have e := cp_s Ypat 0 Yhold 0 x
      rw [Nat.zero_add] at e
      rw [e]
      exact ih (x + 1) (by omega) (by omega)
  have := loop (n + 1) 0 (by omega) (by omega)
  rw [cp_0] at this
  exact ⟨_, this⟩
theorem ym_192 {k n : Nat} {post : Int32 → SY → Prop} (hn : n ≤ 64) (h : wY_step_226 post (nI k) Yquiet Yfuel YscrLen YinpLen YhasTab YnCmd YoutLen (nI n) (nI n) YlinesRead YstepsUsed Ytflag YnAddr Ya1K Ya1V Ya2K Ya2V Ycc YlabS YlabL YsRe YsRep YadK YadV Yneg YsG YicN Yna YanS YanE YmJ YrLen Yscr Yinp YcmdPos Yout (cp_y Yhold 0 Ypat 0 n) Yhold Yactive Yact Yic Yie YaC YaAny YaSt Yrch Ynx Yrb) : ∃ f, wY_step_192 post (nI k) Yquiet Yfuel YscrLen YinpLen YhasTab YnCmd YoutLen YpatLen (nI n) YlinesRead YstepsUsed Ytflag YnAddr Ya1K Ya1V Ya2K Ya2V Ycc YlabS YlabL YsRe YsRep YadK YadV Yneg YsG YicN Yna YanS YanE YmJ YrLen f 0 Yscr Yinp YcmdPos Yout Ypat Yhold Yactive Yact Yic Yie YaC YaAny YaSt Yrch Ynx Yrb := by
  have loop : ∀ f x, n - x < f → x ≤ n → wY_step_192 post (nI k) Yquiet Yfuel YscrLen YinpLen YhasTab YnCmd YoutLen YpatLen (nI n) YlinesRead YstepsUsed Ytflag YnAddr Ya1K Ya1V Ya2K Ya2V Ycc YlabS YlabL YsRe YsRep YadK YadV Yneg YsG YicN Yna YanS YanE YmJ YrLen f (nI x) Yscr Yinp YcmdPos Yout (cp_y Yhold 0 Ypat 0 x) Yhold Yactive Yact Yic Yie YaC YaAny YaSt Yrch Ynx Yrb := by
    intro f
    induction f with
    | zero => intro x h; exact absurd h (Nat.not_lt_zero _)
    | succ f ih =>
    intro x hf hx
    refine pk_le n x (fun w => ?_) (fun w => ⟨vp_in_nI (by omega) (by omega), vp_in_nI (by omega) (by omega), nm_e (nm_r (nI_1 x) ?_)⟩)
    · rw [show x = n by omega]; exact h
    · rw [nI_clamp (by omega)]
      have e := cp_s Yhold 0 Ypat 0 x
      rw [Nat.zero_add] at e
      rw [e]
      exact ih (x + 1) (by omega) (by omega)
  have := loop (n + 1) 0 (by omega) (by omega)
  rw [cp_0] at this
  exact ⟨_, this⟩
theorem ym_267 {k n p : Nat} {post : Int32 → SY → Prop} (hp : p + 1 + n ≤ 64) (h : wY_step_315 post (nI k) Yquiet Yfuel YscrLen YinpLen YhasTab YnCmd YoutLen (nI n) (nI (p + 1 + n)) YlinesRead YstepsUsed Ytflag YnAddr Ya1K Ya1V Ya2K Ya2V Ycc YlabS YlabL YsRe YsRep YadK YadV Yneg YsG YicN Yna YanS YanE YmJ YrLen Yscr Yinp YcmdPos Yout Ypat (cp_y Ypat 0 Yhold (p + 1) n) Yactive Yact Yic Yie YaC YaAny YaSt Yrch Ynx Yrb) : ∃ f, wY_step_267 post (nI k) Yquiet Yfuel YscrLen YinpLen YhasTab YnCmd YoutLen (nI n) (nI p) YlinesRead YstepsUsed Ytflag YnAddr Ya1K Ya1V Ya2K Ya2V Ycc YlabS YlabL YsRe YsRep YadK YadV Yneg YsG YicN Yna YanS YanE YmJ YrLen f 0 Yscr Yinp YcmdPos Yout Ypat Yhold Yactive Yact Yic Yie YaC YaAny YaSt Yrch Ynx Yrb := by
  have loop : ∀ f x, n - x < f → x ≤ n → wY_step_267 post (nI k) Yquiet Yfuel YscrLen YinpLen YhasTab YnCmd YoutLen (nI n) (nI p) YlinesRead YstepsUsed Ytflag YnAddr Ya1K Ya1V Ya2K Ya2V Ycc YlabS YlabL YsRe YsRep YadK YadV Yneg YsG YicN Yna YanS YanE YmJ YrLen f (nI x) Yscr Yinp YcmdPos Yout Ypat (cp_y Ypat 0 Yhold (p + 1) x) Yactive Yact Yic Yie YaC YaAny YaSt Yrch Ynx Yrb := by
    intro f
    induction f with
    | zero => intro x h; exact absurd h (Nat.not_lt_zero _)
    | succ f ih =>
    intro x hf hx
    refine pk_le n x (fun w => nm_r (show nI p + 1 + nI n = nI (p + 1 + n) by rw [nI_1, nI_add]) ?_) (fun w => ⟨vp_in_nI (by omega) (by omega), ?_⟩)
    · rw [show x = n by omega]; exact h
    · have ee : nI p + 1 + nI x = nI (p + 1 + x) := by rw [nI_1, nI_add]
      rw [ee]
      refine ⟨vp_in_nI (by omega) (by omega), nm_e (nm_r (nI_1 x) ?_)⟩
      rw [nI_clamp (by omega), nI_clamp (by omega)]
      have e := cp_s Ypat 0 Yhold (p + 1) x
      rw [Nat.zero_add] at e
      rw [e]
      exact ih (x + 1) (by omega) (by omega)
  have := loop (n + 1) 0 (by omega) (by omega)
  rw [cp_0] at this
  exact ⟨_, this⟩
theorem ym_356 {k n p : Nat} {post : Int32 → SY → Prop} (hp : p + 1 + n ≤ 64) (h : wY_step_404 post (nI k) Yquiet Yfuel YscrLen YinpLen YhasTab YnCmd YoutLen (nI (p + 1 + n)) (nI n) YlinesRead YstepsUsed Ytflag YnAddr Ya1K Ya1V Ya2K Ya2V Ycc YlabS YlabL YsRe YsRep YadK YadV Yneg YsG YicN Yna YanS YanE YmJ YrLen Yscr Yinp YcmdPos Yout (cp_y Yhold 0 Ypat (p + 1) n) Yhold Yactive Yact Yic Yie YaC YaAny YaSt Yrch Ynx Yrb) : ∃ f, wY_step_356 post (nI k) Yquiet Yfuel YscrLen YinpLen YhasTab YnCmd YoutLen (nI p) (nI n) YlinesRead YstepsUsed Ytflag YnAddr Ya1K Ya1V Ya2K Ya2V Ycc YlabS YlabL YsRe YsRep YadK YadV Yneg YsG YicN Yna YanS YanE YmJ YrLen f 0 Yscr Yinp YcmdPos Yout Ypat Yhold Yactive Yact Yic Yie YaC YaAny YaSt Yrch Ynx Yrb := by
  have loop : ∀ f x, n - x < f → x ≤ n → wY_step_356 post (nI k) Yquiet Yfuel YscrLen YinpLen YhasTab YnCmd YoutLen (nI p) (nI n) YlinesRead YstepsUsed Ytflag YnAddr Ya1K Ya1V Ya2K Ya2V Ycc YlabS YlabL YsRe YsRep YadK YadV Yneg YsG YicN Yna YanS YanE YmJ YrLen f (nI x) Yscr Yinp YcmdPos Yout (cp_y Yhold 0 Ypat (p + 1) x) Yhold Yactive Yact Yic Yie YaC YaAny YaSt Yrch Ynx Yrb := by
    intro f
    induction f with
    | zero => intro x h; exact absurd h (Nat.not_lt_zero _)
    | succ f ih =>
    intro x hf hx
    refine pk_le n x (fun w => nm_r (show nI p + 1 + nI n = nI (p + 1 + n) by rw [nI_1, nI_add]) ?_) (fun w => ⟨vp_in_nI (by omega) (by omega), ?_⟩)
    · rw [show x = n by omega]; exact h
    · have ee : nI p + 1 + nI x = nI (p + 1 + x) := by rw [nI_1, nI_add]
      rw [ee]
      refine ⟨vp_in_nI (by omega) (by omega), nm_e (nm_r (nI_1 x) ?_)⟩
      rw [nI_clamp (by omega), nI_clamp (by omega)]
      have e := cp_s Yhold 0 Ypat (p + 1) x
      rw [Nat.zero_add] at e
      rw [e]
      exact ih (x + 1) (by omega) (by omega)
  have := loop (n + 1) 0 (by omega) (by omega)
  rw [cp_0] at this
  exact ⟨_, this⟩
theorem ym_415 {k : Nat} {post : Int32 → SY → Prop} (h : wY_step_471 post (nI k) Yquiet Yfuel YscrLen YinpLen YhasTab YnCmd YoutLen YholdLen YpatLen YlinesRead YstepsUsed Ytflag YnAddr Ya1K Ya1V Ya2K Ya2V Ycc YlabS YlabL YsRe YsRep YadK YadV Yneg YsG YicN Yna YanS YanE YmJ YrLen Yscr Yinp YcmdPos Yout (cp_y Yhold 0 Ypat 0 64) (cp_y Ypat 0 Yhold 0 64) Yactive Yact Yic Yie YaC YaAny YaSt Yrch Ynx Yrb) : ∃ f, wY_step_415 post (nI k) Yquiet Yfuel YscrLen YinpLen YhasTab YnCmd YoutLen YpatLen YholdLen YlinesRead YstepsUsed Ytflag YnAddr Ya1K Ya1V Ya2K Ya2V Ycc YlabS YlabL YsRe YsRep YadK YadV Yneg YsG YicN Yna YanS YanE YmJ YrLen f 0 Yscr Yinp YcmdPos Yout Ypat Yhold Yactive Yact Yic Yie YaC YaAny YaSt Yrch Ynx Yrb := by
  have loop : ∀ f x, 64 - x < f → x ≤ 64 → wY_step_415 post (nI k) Yquiet Yfuel YscrLen YinpLen YhasTab YnCmd YoutLen YpatLen YholdLen YlinesRead YstepsUsed Ytflag YnAddr Ya1K Ya1V Ya2K Ya2V Ycc YlabS YlabL YsRe YsRep YadK YadV Yneg YsG YicN Yna YanS YanE YmJ YrLen f (nI x) Yscr Yinp YcmdPos Yout (cp_y Yhold 0 Ypat 0 x) (cp_y Ypat 0 Yhold 0 x) Yactive Yact Yic Yie YaC YaAny YaSt Yrch Ynx Yrb := by
    intro f
    induction f with
    | zero => intro x h; exact absurd h (Nat.not_lt_zero _)
    | succ f ih =>
    intro x hf hx
    have vi : x < 64 → vp_in (nI x) 64 := fun w => vp_in_nI w (by omega)
    refine pk_le 64 x (fun w => ?_) (fun w => ⟨vi w, nm_e ⟨vi w, vi w, nm_e ⟨vi w, nm_e (nm_r (nI_1 x) ?_)⟩⟩⟩)
    · rw [show x = 64 by omega]; exact h
    · rw [nI_clamp (by omega)]
      have p1 : cp_y Yhold 0 Ypat 0 x x = Ypat x := by unfold cp_y; rw [if_neg (by omega)]
      have p2 : cp_y Ypat 0 Yhold 0 x x = Yhold x := by unfold cp_y; rw [if_neg (by omega)]
      have e := cp_s Yhold 0 Ypat 0 x
      have e' := cp_s Ypat 0 Yhold 0 x
      rw [Nat.zero_add] at e e'
      rw [p1, p2, e, e']
      exact ih (x + 1) (by omega) (by omega)
  have := loop 65 0 (by omega) (by omega)
  rw [cp_0, cp_0] at this
  exact ⟨_, this⟩
end YW_1
end
section
/-! Y: one step, all of it -/
section YX_1
variable {Yquiet Yfuel YscrLen YinpLen YhasTab YnCmd YoutLen YpatLen YholdLen YlinesRead YstepsUsed Ytflag YnAddr Ya1K Ya1V Ya2K Ya2V Ycc YlabS YlabL YsRe YsRep YadK YadV Yneg YsG YicN Yna YanS YanE YmJ YrLen : Int32} {Yscr Yinp YcmdPos Yout Ypat Yhold Yactive Yact Yic Yie YaC YaAny YaSt Yrch Ynx Yrb : Nat → Int32}
theorem ym_514 {L n a t : Nat} {post : Int32 → SY → Prop} (hL : L ≤ 128) (hc : ch_ok Yscr L) (hG : cq_G Yscr L n) (hn : n ≤ 16) (hcp : ∀ j, j < n → YcmdPos j = nI (cq_Q Yscr L j)) (ha : a < n) (ht : lb_t Yscr L n a t)
    (h : ∀ YnAddr1 Ya1K1 Ya1V1 Ya2K1 Ya2V1 Ycc1 YlabS1 YlabL1 YsRe1 YsRep1 YadK1 YadV1 Yneg1 YsG1 YicN1 Yna1 YanS1 YanE1 YmJ1 YrLen1 Yic1 Yie1 YaC1 YaAny1 YaSt1 Yrch1 Ynx1 Yrb1, post (nI t) (Yquiet, Yfuel, nI L, YinpLen, YhasTab, nI n, YoutLen, YpatLen, YholdLen, YlinesRead, YstepsUsed, Ytflag, YnAddr1, Ya1K1, Ya1V1, Ya2K1, Ya2V1, Ycc1, YlabS1, YlabL1, YsRe1, YsRep1, YadK1, YadV1, Yneg1, YsG1, YicN1, Yna1, YanS1, YanE1, YmJ1, YrLen1, Yscr, Yinp, YcmdPos, Yout, Ypat, Yhold, Yactive, Yact, Yic1, Yie1, YaC1, YaAny1, YaSt1, Yrch1, Ynx1, Yrb1)) : wY_step_514 post Yquiet Yfuel (nI L) YinpLen YhasTab (nI n) YoutLen YpatLen YholdLen YlinesRead YstepsUsed Ytflag YnAddr Ya1K Ya1V Ya2K Ya2V Ycc (nI (lb_s Yscr L a)) (nI (lb_l Yscr L a)) YsRe YsRep YadK YadV Yneg YsG YicN Yna YanS YanE YmJ YrLen Yscr Yinp YcmdPos Yout Ypat Yhold Yactive Yact Yic Yie YaC YaAny YaSt Yrch Ynx Yrb := by
  have fa := lb_f hG ha
  rcases ht with ⟨t1, t2⟩ | ⟨t1, t2, t3, t4, t5⟩
  · refine br_t (by rw [t1]; rfl) ?_
    rw [t2] at h
    exact h _ _ _ _ _ _ _ _ _ _ _ _ _ _ _ _ _ _ _ _ _ _ _ _ _ _ _ _
  · refine br_f (nI_ne0 (by omega) (by omega)) ⟨t + 1, ?_⟩
    exact ym_539 hL hc hG hn hcp ha t2 t3 t4 t5 h (t + 1) 0 (by omega) (by omega) _ _ _ _ _ _ _ _ _ _ _ _ _ _ _ _ _ _ _ _ _ _ _ _ _ _ _ _
theorem ym_step {L I F nC k Mo Mp Mh Mm Mq Mst : Nat} {tg : Nat → Nat} {Mout Mpat Mhold Mac : Nat → Int32} {Mt : Int32} {post : Int32 → SY → Prop} (hL : L ≤ 128) (hc : ch_ok Yscr L) (hI : I ≤ 128) (hF : F ≤ 2048) (hG : cq_G Yscr L nC) (hnC : nC ≤ 16) (hcp : ∀ j, j < nC → YcmdPos j = nI (cq_Q Yscr L j)) (htg : ∀ a, a < nC → (lb_c Yscr L a = 98 ∨ lb_c Yscr L a = 116) → lb_t Yscr L nC a (tg a)) (hk : k < nC) (hok : rn_ok Yinp I F (Mout, Mo, Mpat, Mp, Mhold, Mh, Mm, Mq, Mst, Mt, Mac)) (hm1 : 1 ≤ Mm) (hA : ya_R Yactive Yact Mac)
    (h : ∀ r k' Moutp Mop Mpatp Mpp Mholdp Mhp Mmp Mqp Mstp Mtp Macp active act YnAddr1 Ya1K1 Ya1V1 Ya2K1 Ya2V1 Ycc1 YlabS1 YlabL1 YsRe1 YsRep1 YadK1 YadV1 Yneg1 YsG1 YicN1 Yna1 YanS1 YanE1 YmJ1 YrLen1 Yic1 Yie1 YaC1 YaAny1 YaSt1 Yrch1 Ynx1 Yrb1, rn_step Yscr Yinp L I F Yquiet tg (cq_D Yscr L) k (Mout, Mo, Mpat, Mp, Mhold, Mh, Mm, Mq, Mst, Mt, Mac) = (r, k', (Moutp, Mop, Mpatp, Mpp, Mholdp, Mhp, Mmp, Mqp, Mstp, Mtp, Macp)) → ya_R active act Macp → post (rn_y r k') (Yquiet, nI F, nI L, nI I, YhasTab, nI nC, nI Mop, nI Mpp, nI Mhp, nI Mmp, nI Mstp, Mtp, YnAddr1, Ya1K1, Ya1V1, Ya2K1, Ya2V1, Ycc1, YlabS1, YlabL1, YsRe1, YsRep1, YadK1, YadV1, Yneg1, YsG1, YicN1, Yna1, YanS1, YanE1, YmJ1, YrLen1, Yscr, Yinp, YcmdPos, Moutp, Mpatp, Mholdp, active, act, Yic1, Yie1, YaC1, YaAny1, YaSt1, Yrch1, Ynx1, Yrb1)) :
    wpY_step post (Yquiet, nI F, nI L, nI I, YhasTab, nI nC, nI Mo, nI Mp, nI Mh, nI Mm, nI Mst, Mt, YnAddr, Ya1K, Ya1V, Ya2K, Ya2V, Ycc, YlabS, YlabL, YsRe, YsRep, YadK, YadV, Yneg, YsG, YicN, Yna, YanS, YanE, YmJ, YrLen, Yscr, Yinp, YcmdPos, Mout, Mpat, Mhold, Yactive, Yact, Yic, Yie, YaC, YaAny, YaSt, Yrch, Ynx, Yrb) (nI k) := by
  obtain ⟨h1, h2, h3, h4, h5, h6⟩ := hok
  have hm := ln_le h5
  have hkl := ln_kle Yinp I
  unfold wpY_step
  refine pk_eq Mst F (fun e => ?_) (fun e => nm_r (nI_1 Mst) (br_f (nI_pos (by omega)) (br_f (nI_ge (b := 16) (by omega) (by decide)) ⟨pk_in k 16 (by omega), ?_⟩)))
  · exact h 2 k Mout Mo Mpat Mp Mhold Mh Mm Mq Mst Mt Mac _ _ _ _ _ _ _ _ _ _ _ _ _ _ _ _ _ _ _ _ _ _ _ _ _ _ _ _ _ _ (by unfold rn_step; dsimp only; rw [if_pos (by omega)]) hA
  obtain ⟨g1, g2⟩ := hG k hk
  have cok := cm_x_ok (Nat.le_of_lt g1) g2
  rw [nI_clamp (by omega), hcp k hk]
  refine ym_pc hL hc (Nat.le_of_lt g1) g2 ?_
  intro YnAddr2 Ya1K2 Ya1V2 Ya2K2 Ya2V2 Ycc2 YlabS2 YlabL2 YsRe2 YsRep2 YadK2 YadV2 Yneg2 YsG2 YicN2 Yna2 YanS2 YanE2 YmJ2 YrLen2 Yic2 Yie2 YaC2 YaAny2 YaSt2 Yrch2 Ynx2 Yrb2 hH
  have fx := cm_x_f (Nat.le_of_lt g1) g2
  refine br_t (nI_pos' (by omega)) ?_
  refine ym_select (Mout := Mout) (Mo := Mo) (Mhold := Mhold) (Mh := Mh) (Mst := Mst + 1) (Mt := Mt) (Mac := Mac) hL hc hI (by omega) h2 h5 hm1 cok hH hA (fun active act icN na anS anE mj ic ie aC aAny aSt rch nx hA' => ?_)
  obtain ⟨y1, y2, y3, y4, y5, y6, y7, y8, y9⟩ := hH
  obtain ⟨o1, o2, o3, o4, o5, o6, o7⟩ := cok
  have hsf : (rn_sel Yscr L I (cq_D Yscr L k) k (Mout, Mo, Mpat, Mp, Mhold, Mh, Mm, Mq, Mst + 1, Mt, Mac)).1 = false → rn_step Yscr Yinp L I F Yquiet tg (cq_D Yscr L) k (Mout, Mo, Mpat, Mp, Mhold, Mh, Mm, Mq, Mst, Mt, Mac) = (-1, k + 1, (Mout, Mo, Mpat, Mp, Mhold, Mh, Mm, Mq, Mst + 1, Mt, (rn_sel Yscr L I (cq_D Yscr L k) k (Mout, Mo, Mpat, Mp, Mhold, Mh, Mm, Mq, Mst + 1, Mt, Mac)).2)) := by
    intro hs
    unfold rn_step
    dsimp only
    rw [if_neg (by omega), if_neg (by rw [hs]; decide)]
  have hst : (rn_sel Yscr L I (cq_D Yscr L k) k (Mout, Mo, Mpat, Mp, Mhold, Mh, Mm, Mq, Mst + 1, Mt, Mac)).1 = true → rn_step Yscr Yinp L I F Yquiet tg (cq_D Yscr L) k (Mout, Mo, Mpat, Mp, Mhold, Mh, Mm, Mq, Mst, Mt, Mac) = rn_act Yscr Yinp L I Yquiet tg (cq_D Yscr L k) k (Mout, Mo, Mpat, Mp, Mhold, Mh, Mm, Mq, Mst + 1, Mt, (rn_sel Yscr L I (cq_D Yscr L k) k (Mout, Mo, Mpat, Mp, Mhold, Mh, Mm, Mq, Mst + 1, Mt, Mac)).2) := by
    intro hs
    unfold rn_step
    dsimp only
    rw [if_neg (by omega), if_pos hs]
  generalize rn_sel Yscr L I (cq_D Yscr L k) k (Mout, Mo, Mpat, Mp, Mhold, Mh, Mm, Mq, Mst + 1, Mt, Mac) = se at hA' hsf hst ⊢
  obtain ⟨b, ac'⟩ := se
  dsimp only at hA' hsf hst ⊢
  cases b with
  | false =>
    refine br_t rfl ?_
    rw [nI_1]
    exact h (-1) (k + 1) _ _ _ _ _ _ _ _ _ _ _ _ _ _ _ _ _ _ _ _ _ _ _ _ _ _ _ _ _ _ _ _ _ _ _ _ _ _ _ _ _ (hsf rfl) hA'
  | true =>
    have hst := hst rfl
    refine br_f (by decide) ?_
    subst y5 y6 y7
    unfold rn_act at hst
    dsimp only at hst
    have key : ∀ c : Int32, (cq_D Yscr L k).2.1 = c → lb_c Yscr L k = c := fun c y => y
    refine br_c (fun c115 => ?_) (fun c115 => ?_)
    · obtain ⟨s1, s2, s3, s4, s5⟩ := o5 c115
      obtain ⟨z1, z2⟩ := y8 c115
      subst z1 z2 y9
      rw [if_pos c115] at hst
      refine ym_subst (Mout := Mout) (Mo := Mo) (Mhold := Mhold) (Mh := Mh) (Mm := Mm) (Mq := Mq) (Mst := Mst + 1) (Mt := 0) (Mac := ac') hL hc h2 s1 s2 s3 s4 (fun r n' pat' t' icN na anS anE mj rl ic ie aC aAny aSt rch nx rb hr hr3 => ?_)
      rw [hr] at hst
      have e : rn_y r (k + 1) = if r = -1 then nI (k + 1) else -13 := by
        rcases hr3 with z | z
        · rw [z]; rfl
        · rw [z]; rfl
      rw [← e]
      exact h r (k + 1) _ _ _ _ _ _ _ _ _ _ _ _ _ _ _ _ _ _ _ _ _ _ _ _ _ _ _ _ _ _ _ _ _ _ _ _ _ _ _ _ _ hst hA'
    rw [if_neg c115] at hst
    refine br_c (fun c100 => ?_) (fun c100 => ?_)
    · rw [if_pos c100] at hst
      exact h (-2) (k + 1) _ _ _ 0 _ _ _ _ _ _ _ _ _ _ _ _ _ _ _ _ _ _ _ _ _ _ _ _ _ _ _ _ _ _ _ _ _ _ _ _ _ hst hA'
    rw [if_neg c100] at hst
    refine br_c (fun c112 => ?_) (fun c112 => ?_)
    · rw [if_pos c112] at hst
      unfold rn_print at hst
      dsimp only at hst
      refine ym_print h1 h2 (fun y => br_f (by decide) ?_) (fun y => br_t rfl ?_)
      · rw [if_neg y] at hst
        rw [nI_1]
        exact h (-1) (k + 1) _ _ _ _ _ _ _ _ _ _ _ _ _ _ _ _ _ _ _ _ _ _ _ _ _ _ _ _ _ _ _ _ _ _ _ _ _ _ _ _ _ hst hA'
      · rw [if_pos y] at hst
        exact h 3 (k + 1) _ _ _ _ _ _ _ _ _ _ _ _ _ _ _ _ _ _ _ _ _ _ _ _ _ _ _ _ _ _ _ _ _ _ _ _ _ _ _ _ _ hst hA'
    rw [if_neg c112] at hst
    refine br_c (fun c78 => ?_) (fun c78 => ?_)
    · rw [if_pos c78] at hst
      refine ym_nextLine (Mhold := Mhold) (Mh := Mh) (Mst := Mst + 1) (Mt := Mt) (Mac := ac') hI h1 h2 h5 (fun r out' o' pat' n' m' q' hr => ?_)
      rw [hr] at hst
      exact h r (k + 1) _ _ _ _ _ _ _ _ _ _ _ _ _ _ _ _ _ _ _ _ _ _ _ _ _ _ _ _ _ _ _ _ _ _ _ _ _ _ _ _ _ hst hA'
    rw [if_neg c78] at hst
    refine br_c (fun c104 => ?_) (fun c104 => ?_)
    · rw [if_pos c104] at hst
      refine ym_147 h2 (ym_181 (by rw [c104]; decide) (by rw [c104]; decide) (by rw [c104]; decide) (by rw [c104]; decide) (by rw [c104]; decide) (by rw [c104]; decide) ?_)
      exact h (-1) (k + 1) _ _ _ _ _ _ _ _ _ _ _ _ _ _ _ _ _ _ _ _ _ _ _ _ _ _ _ _ _ _ _ _ _ _ _ _ _ _ _ _ _ hst hA'
    rw [if_neg c104] at hst
    refine br_c (fun c103 => ?_) (fun c103 => ?_)
    · rw [if_pos c103] at hst
      refine ym_192 h3 (ym_226 (by rw [c103]; decide) (by rw [c103]; decide) (by rw [c103]; decide) (by rw [c103]; decide) (by rw [c103]; decide) ?_)
      exact h (-1) (k + 1) _ _ _ _ _ _ _ _ _ _ _ _ _ _ _ _ _ _ _ _ _ _ _ _ _ _ _ _ _ _ _ _ _ _ _ _ _ _ _ _ _ hst hA'
    rw [if_neg c103] at hst
    refine br_c (fun c72 => ?_) (fun c72 => ?_)
    · rw [if_pos c72] at hst
      refine pk_le (Mh + 1 + Mp) 64 (fun w => ⟨pk_in Mh 64 (by omega), nm_e ?_⟩) (fun w => ?_) (hx := by rw [nI_1, nI_add])
      · rw [if_neg (by omega)] at hst
        rw [nI_clamp (by omega)]
        refine ym_267 w (ym_315 (by rw [c72]; decide) (by rw [c72]; decide) (by rw [c72]; decide) (by rw [c72]; decide) ?_)
        exact h (-1) (k + 1) _ _ _ _ _ _ _ _ _ _ _ _ _ _ _ _ _ _ _ _ _ _ _ _ _ _ _ _ _ _ _ _ _ _ _ _ _ _ _ _ _ hst hA'
      · rw [if_pos w] at hst
        exact h 3 (k + 1) _ _ _ _ _ _ _ _ _ _ _ _ _ _ _ _ _ _ _ _ _ _ _ _ _ _ _ _ _ _ _ _ _ _ _ _ _ _ _ _ _ hst hA'
    rw [if_neg c72] at hst
    refine br_c (fun c71 => ?_) (fun c71 => ?_)
    · rw [if_pos c71] at hst
      refine pk_le (Mp + 1 + Mh) 64 (fun w => ⟨pk_in Mp 64 (by omega), nm_e ?_⟩) (fun w => ?_) (hx := by rw [nI_1, nI_add])
      · rw [if_neg (by omega)] at hst
        rw [nI_clamp (by omega)]
        refine ym_356 w (ym_404 (by rw [c71]; decide) (by rw [c71]; decide) (by rw [c71]; decide) ?_)
        exact h (-1) (k + 1) _ _ _ _ _ _ _ _ _ _ _ _ _ _ _ _ _ _ _ _ _ _ _ _ _ _ _ _ _ _ _ _ _ _ _ _ _ _ _ _ _ hst hA'
      · rw [if_pos w] at hst
        exact h 3 (k + 1) _ _ _ _ _ _ _ _ _ _ _ _ _ _ _ _ _ _ _ _ _ _ _ _ _ _ _ _ _ _ _ _ _ _ _ _ _ _ _ _ _ hst hA'
    rw [if_neg c71] at hst
    refine br_c (fun c120 => ?_) (fun c120 => ?_)
    · rw [if_pos c120] at hst
      refine ym_415 (ym_471 (by rw [c120]; decide) (by rw [c120]; decide) ?_)
      exact h (-1) (k + 1) _ _ _ _ _ _ _ _ _ _ _ _ _ _ _ _ _ _ _ _ _ _ _ _ _ _ _ _ _ _ _ _ _ _ _ _ _ _ _ _ _ hst hA'
    rw [if_neg c120] at hst
    refine br_c (fun c98 => br_f (by rw [c98]; decide) ?_) (fun c98 => br_c (fun c116 => br_t c116 ?_) (fun c116 => ?_))
    · rw [if_pos c98] at hst
      exact ym_514 hL hc hG hnC hcp hk (htg k hk (Or.inl c98)) (fun YnAddr3 Ya1K3 Ya1V3 Ya2K3 Ya2V3 Ycc3 YlabS3 YlabL3 YsRe3 YsRep3 YadK3 YadV3 Yneg3 YsG3 YicN3 Yna3 YanS3 YanE3 YmJ3 YrLen3 Yic3 Yie3 YaC3 YaAny3 YaSt3 Yrch3 Ynx3 Yrb3 => h (-1) (tg k) _ _ _ _ _ _ _ _ _ _ _ _ _ _ _ _ _ _ _ _ _ _ _ _ _ _ _ _ _ _ _ _ _ _ _ _ _ _ _ _ _ hst hA')
    · rw [if_neg c98, if_pos c116] at hst
      refine br_c (fun t0 => ?_) (fun t0 => ?_)
      · rw [if_pos t0] at hst
        rw [nI_1]
        exact h (-1) (k + 1) _ _ _ _ _ _ _ _ _ _ _ _ _ _ _ _ _ _ _ _ _ _ _ _ _ _ _ _ _ _ _ _ _ _ _ _ _ _ _ _ _ hst hA'
      · rw [if_neg t0] at hst
        exact ym_514 hL hc hG hnC hcp hk (htg k hk (Or.inr c116)) (fun YnAddr3 Ya1K3 Ya1V3 Ya2K3 Ya2V3 Ycc3 YlabS3 YlabL3 YsRe3 YsRep3 YadK3 YadV3 Yneg3 YsG3 YicN3 Yna3 YanS3 YanE3 YmJ3 YrLen3 Yic3 Yie3 YaC3 YaAny3 YaSt3 Yrch3 Ynx3 Yrb3 => h (-1) (tg k) _ _ _ _ _ _ _ _ _ _ _ _ _ _ _ _ _ _ _ _ _ _ _ _ _ _ _ _ _ _ _ _ _ _ _ _ _ _ _ _ _ hst hA')
    · rw [if_neg c98, if_neg c116] at hst
      rw [nI_1]
      exact h (-1) (k + 1) _ _ _ _ _ _ _ _ _ _ _ _ _ _ _ _ _ _ _ _ _ _ _ _ _ _ _ _ _ _ _ _ _ _ _ _ _ _ _ _ _ hst hA'
end YX_1
end
section
/-! X: copying, printing, lines, addresses -/
section XN_1
variable {Xquiet Xfuel XscriptSize XinputSize Xcursor XitemCount XtablePresent XcommandCount XoutputSize XpatternSize XholdSize XlineNumber XstepCount XnextLine Xpointer Xsubstituted XresultSize : Int32} {Xscript Xinput Xitems Xverb Xnegated Xeverywhere XlabelStart XlabelSize Xtarget XreplacementStart XreplacementEnd Xreplacement Xaddress XstartAnchor XendAnchor XatomCount XatomChar XatomStarred Xoutput Xpattern Xhold XactivationLine Xresult : Nat → Int32}
theorem xm_cp_input_pattern {a b n : Nat} {post : SX → Prop} (ha : a + n ≤ 128) (hb : b + n ≤ 64) (h : post (Xquiet, Xfuel, XscriptSize, XinputSize, Xcursor, XitemCount, XtablePresent, XcommandCount, XoutputSize, XpatternSize, XholdSize, XlineNumber, XstepCount, XnextLine, Xpointer, Xsubstituted, XresultSize, Xscript, Xinput, Xitems, Xverb, Xnegated, Xeverywhere, XlabelStart, XlabelSize, Xtarget, XreplacementStart, XreplacementEnd, Xreplacement, Xaddress, XstartAnchor, XendAnchor, XatomCount, XatomChar, XatomStarred, Xoutput, cp_y Xinput a Xpattern b n, Xhold, XactivationLine, Xresult)) : wpX_copyChars__input_pattern post (Xquiet, Xfuel, XscriptSize, XinputSize, Xcursor, XitemCount, XtablePresent, XcommandCount, XoutputSize, XpatternSize, XholdSize, XlineNumber, XstepCount, XnextLine, Xpointer, Xsubstituted, XresultSize, Xscript, Xinput, Xitems, Xverb, Xnegated, Xeverywhere, XlabelStart, XlabelSize, Xtarget, XreplacementStart, XreplacementEnd, Xreplacement, Xaddress, XstartAnchor, XendAnchor, XatomCount, XatomChar, XatomStarred, Xoutput, Xpattern, Xhold, XactivationLine, Xresult) (nI a) (nI b) (nI n) := by
  unfold wpX_copyChars__input_pattern
  have loop : ∀ f x, n - x < f → x ≤ n → wX_copyChars__input_pattern_3 post (nI a) (nI b) (nI n) Xquiet Xfuel XscriptSize XinputSize Xcursor XitemCount XtablePresent XcommandCount XoutputSize XpatternSize XholdSize XlineNumber XstepCount XnextLine Xpointer Xsubstituted XresultSize f (nI x) Xscript Xinput Xitems Xverb Xnegated Xeverywhere XlabelStart XlabelSize Xtarget XreplacementStart XreplacementEnd Xreplacement Xaddress XstartAnchor XendAnchor XatomCount XatomChar XatomStarred Xoutput (cp_y Xinput a Xpattern b x) Xhold XactivationLine Xresult := by
    intro f
    induction f with
    | zero => intro x h; exact absurd h (Nat.not_lt_zero _)
    | succ f ih =>
    intro x hf hx
    refine pk_le n x (fun w => ?_) (fun w => ?_)
    · rw [show x = n by omega]; exact h
    · rw [nI_add, nI_add]
      refine ⟨vp_in_nI (by omega) (by omega), vp_in_nI (by omega) (by omega), nm_e (nm_r (nI_1 x) ?_)⟩
      rw [nI_clamp (by omega), nI_clamp (by omega), cp_s]
      exact ih (x + 1) (by omega) (by omega)
  have := loop (n + 1) 0 (by omega) (by omega)
  rw [cp_0] at this
  exact ⟨_, this⟩
theorem xm_cp_result_pattern {a b n : Nat} {post : SX → Prop} (ha : a + n ≤ 64) (hb : b + n ≤ 64) (h : post (Xquiet, Xfuel, XscriptSize, XinputSize, Xcursor, XitemCount, XtablePresent, XcommandCount, XoutputSize, XpatternSize, XholdSize, XlineNumber, XstepCount, XnextLine, Xpointer, Xsubstituted, XresultSize, Xscript, Xinput, Xitems, Xverb, Xnegated, Xeverywhere, XlabelStart, XlabelSize, Xtarget, XreplacementStart, XreplacementEnd, Xreplacement, Xaddress, XstartAnchor, XendAnchor, XatomCount, XatomChar, XatomStarred, Xoutput, cp_y Xresult a Xpattern b n, Xhold, XactivationLine, Xresult)) : wpX_copyChars__result_pattern post (Xquiet, Xfuel, XscriptSize, XinputSize, Xcursor, XitemCount, XtablePresent, XcommandCount, XoutputSize, XpatternSize, XholdSize, XlineNumber, XstepCount, XnextLine, Xpointer, Xsubstituted, XresultSize, Xscript, Xinput, Xitems, Xverb, Xnegated, Xeverywhere, XlabelStart, XlabelSize, Xtarget, XreplacementStart, XreplacementEnd, Xreplacement, Xaddress, XstartAnchor, XendAnchor, XatomCount, XatomChar, XatomStarred, Xoutput, Xpattern, Xhold, XactivationLine, Xresult) (nI a) (nI b) (nI n) := by
  unfold wpX_copyChars__result_pattern
  have loop : ∀ f x, n - x < f → x ≤ n → wX_copyChars__result_pattern_3 post (nI a) (nI b) (nI n) Xquiet Xfuel XscriptSize XinputSize Xcursor XitemCount XtablePresent XcommandCount XoutputSize XpatternSize XholdSize XlineNumber XstepCount XnextLine Xpointer Xsubstituted XresultSize f (nI x) Xscript Xinput Xitems Xverb Xnegated Xeverywhere XlabelStart XlabelSize Xtarget XreplacementStart XreplacementEnd Xreplacement Xaddress XstartAnchor XendAnchor XatomCount XatomChar XatomStarred Xoutput (cp_y Xresult a Xpattern b x) Xhold XactivationLine Xresult := by
    intro f
    induction f with
    | zero => intro x h; exact absurd h (Nat.not_lt_zero _)
    | succ f ih =>
    intro x hf hx
    refine pk_le n x (fun w => ?_) (fun w => ?_)
    · rw [show x = n by omega]; exact h
    · rw [nI_add, nI_add]
      refine ⟨vp_in_nI (by omega) (by omega), vp_in_nI (by omega) (by omega), nm_e (nm_r (nI_1 x) ?_)⟩
      rw [nI_clamp (by omega), nI_clamp (by omega), cp_s]
      exact ih (x + 1) (by omega) (by omega)
  have := loop (n + 1) 0 (by omega) (by omega)
  rw [cp_0] at this
  exact ⟨_, this⟩
theorem xm_cp_pattern_output {a b n : Nat} {post : SX → Prop} (ha : a + n ≤ 64) (hb : b + n ≤ 256) (h : post (Xquiet, Xfuel, XscriptSize, XinputSize, Xcursor, XitemCount, XtablePresent, XcommandCount, XoutputSize, XpatternSize, XholdSize, XlineNumber, XstepCount, XnextLine, Xpointer, Xsubstituted, XresultSize, Xscript, Xinput, Xitems, Xverb, Xnegated, Xeverywhere, XlabelStart, XlabelSize, Xtarget, XreplacementStart, XreplacementEnd, Xreplacement, Xaddress, XstartAnchor, XendAnchor, XatomCount, XatomChar, XatomStarred, cp_y Xpattern a Xoutput b n, Xpattern, Xhold, XactivationLine, Xresult)) : wpX_copyChars__pattern_output post (Xquiet, Xfuel, XscriptSize, XinputSize, Xcursor, XitemCount, XtablePresent, XcommandCount, XoutputSize, XpatternSize, XholdSize, XlineNumber, XstepCount, XnextLine, Xpointer, Xsubstituted, XresultSize, Xscript, Xinput, Xitems, Xverb, Xnegated, Xeverywhere, XlabelStart, XlabelSize, Xtarget, XreplacementStart, XreplacementEnd, Xreplacement, Xaddress, XstartAnchor, XendAnchor, XatomCount, XatomChar, XatomStarred, Xoutput, Xpattern, Xhold, XactivationLine, Xresult) (nI a) (nI b) (nI n) := by
  unfold wpX_copyChars__pattern_output
  have loop : ∀ f x, n - x < f → x ≤ n → wX_copyChars__pattern_output_3 post (nI a) (nI b) (nI n) Xquiet Xfuel XscriptSize XinputSize Xcursor XitemCount XtablePresent XcommandCount XoutputSize XpatternSize XholdSize XlineNumber XstepCount XnextLine Xpointer Xsubstituted XresultSize f (nI x) Xscript Xinput Xitems Xverb Xnegated Xeverywhere XlabelStart XlabelSize Xtarget XreplacementStart XreplacementEnd Xreplacement Xaddress XstartAnchor XendAnchor XatomCount XatomChar XatomStarred (cp_y Xpattern a Xoutput b x) Xpattern Xhold XactivationLine Xresult := by
    intro f
    induction f with
    | zero => intro x h; exact absurd h (Nat.not_lt_zero _)
    | succ f ih =>
    intro x hf hx
    refine pk_le n x (fun w => ?_) (fun w => ?_)
    · rw [show x = n by omega]; exact h
    · rw [nI_add, nI_add]
      refine ⟨vp_in_nI (by omega) (by omega), vp_in_nI (by omega) (by omega), nm_e (nm_r (nI_1 x) ?_)⟩
      rw [nI_clamp (by omega), nI_clamp (by omega), cp_s]
      exact ih (x + 1) (by omega) (by omega)
  have := loop (n + 1) 0 (by omega) (by omega)
  rw [cp_0] at this
  exact ⟨_, this⟩
theorem xm_cp_pattern_hold {a b n : Nat} {post : SX → Prop} (ha : a + n ≤ 64) (hb : b + n ≤ 64) (h : post (Xquiet, Xfuel, XscriptSize, XinputSize, Xcursor, XitemCount, XtablePresent, XcommandCount, XoutputSize, XpatternSize, XholdSize, XlineNumber, XstepCount, XnextLine, Xpointer, Xsubstituted, XresultSize, Xscript, Xinput, Xitems, Xverb, Xnegated, Xeverywhere, XlabelStart, XlabelSize, Xtarget, XreplacementStart, XreplacementEnd, Xreplacement, Xaddress, XstartAnchor, XendAnchor, XatomCount, XatomChar, XatomStarred, Xoutput, Xpattern, cp_y Xpattern a Xhold b n, XactivationLine, Xresult)) : wpX_copyChars__pattern_hold post (Xquiet, Xfuel, XscriptSize, XinputSize, Xcursor, XitemCount, XtablePresent, XcommandCount, XoutputSize, XpatternSize, XholdSize, XlineNumber, XstepCount, XnextLine, Xpointer, Xsubstituted, XresultSize, Xscript, Xinput, Xitems, Xverb, Xnegated, Xeverywhere, XlabelStart, XlabelSize, Xtarget, XreplacementStart, XreplacementEnd, Xreplacement, Xaddress, XstartAnchor, XendAnchor, XatomCount, XatomChar, XatomStarred, Xoutput, Xpattern, Xhold, XactivationLine, Xresult) (nI a) (nI b) (nI n) := by
  unfold wpX_copyChars__pattern_hold
  have loop : ∀ f x, n - x < f → x ≤ n → wX_copyChars__pattern_hold_3 post (nI a) (nI b) (nI n) Xquiet Xfuel XscriptSize XinputSize Xcursor XitemCount XtablePresent XcommandCount XoutputSize XpatternSize XholdSize XlineNumber XstepCount XnextLine Xpointer Xsubstituted XresultSize f (nI x) Xscript Xinput Xitems Xverb Xnegated Xeverywhere XlabelStart XlabelSize Xtarget XreplacementStart XreplacementEnd Xreplacement Xaddress XstartAnchor XendAnchor XatomCount XatomChar XatomStarred Xoutput Xpattern (cp_y Xpattern a Xhold b x) XactivationLine Xresult := by
    intro f
    induction f with
    | zero => intro x h; exact absurd h (Nat.not_lt_zero _)
    | succ f ih =>
    intro x hf hx
    refine pk_le n x (fun w => ?_) (fun w => ?_)
    · rw [show x = n by omega]; exact h
    · rw [nI_add, nI_add]
      refine ⟨vp_in_nI (by omega) (by omega), vp_in_nI (by omega) (by omega), nm_e (nm_r (nI_1 x) ?_)⟩
      rw [nI_clamp (by omega), nI_clamp (by omega), cp_s]
      exact ih (x + 1) (by omega) (by omega)
  have := loop (n + 1) 0 (by omega) (by omega)
  rw [cp_0] at this
  exact ⟨_, this⟩
theorem xm_cp_hold_pattern {a b n : Nat} {post : SX → Prop} (ha : a + n ≤ 64) (hb : b + n ≤ 64) (h : post (Xquiet, Xfuel, XscriptSize, XinputSize, Xcursor, XitemCount, XtablePresent, XcommandCount, XoutputSize, XpatternSize, XholdSize, XlineNumber, XstepCount, XnextLine, Xpointer, Xsubstituted, XresultSize, Xscript, Xinput, Xitems, Xverb, Xnegated, Xeverywhere, XlabelStart, XlabelSize, Xtarget, XreplacementStart, XreplacementEnd, Xreplacement, Xaddress, XstartAnchor, XendAnchor, XatomCount, XatomChar, XatomStarred, Xoutput, cp_y Xhold a Xpattern b n, Xhold, XactivationLine, Xresult)) : wpX_copyChars__hold_pattern post (Xquiet, Xfuel, XscriptSize, XinputSize, Xcursor, XitemCount, XtablePresent, XcommandCount, XoutputSize, XpatternSize, XholdSize, XlineNumber, XstepCount, XnextLine, Xpointer, Xsubstituted, XresultSize, Xscript, Xinput, Xitems, Xverb, Xnegated, Xeverywhere, XlabelStart, XlabelSize, Xtarget, XreplacementStart, XreplacementEnd, Xreplacement, Xaddress, XstartAnchor, XendAnchor, XatomCount, XatomChar, XatomStarred, Xoutput, Xpattern, Xhold, XactivationLine, Xresult) (nI a) (nI b) (nI n) := by
  unfold wpX_copyChars__hold_pattern
  have loop : ∀ f x, n - x < f → x ≤ n → wX_copyChars__hold_pattern_3 post (nI a) (nI b) (nI n) Xquiet Xfuel XscriptSize XinputSize Xcursor XitemCount XtablePresent XcommandCount XoutputSize XpatternSize XholdSize XlineNumber XstepCount XnextLine Xpointer Xsubstituted XresultSize f (nI x) Xscript Xinput Xitems Xverb Xnegated Xeverywhere XlabelStart XlabelSize Xtarget XreplacementStart XreplacementEnd Xreplacement Xaddress XstartAnchor XendAnchor XatomCount XatomChar XatomStarred Xoutput (cp_y Xhold a Xpattern b x) Xhold XactivationLine Xresult := by
    intro f
    induction f with
    | zero => intro x h; exact absurd h (Nat.not_lt_zero _)
    | succ f ih =>
    intro x hf hx
    refine pk_le n x (fun w => ?_) (fun w => ?_)
    · rw [show x = n by omega]; exact h
    · rw [nI_add, nI_add]
      refine ⟨vp_in_nI (by omega) (by omega), vp_in_nI (by omega) (by omega), nm_e (nm_r (nI_1 x) ?_)⟩
      rw [nI_clamp (by omega), nI_clamp (by omega), cp_s]
      exact ih (x + 1) (by omega) (by omega)
  have := loop (n + 1) 0 (by omega) (by omega)
  rw [cp_0] at this
  exact ⟨_, this⟩
theorem xm_print {o n : Nat} {post : Int32 → SX → Prop} (ho : o ≤ 256) (hn : n ≤ 64)
    (hg : ¬ 256 < o + n + 1 → post (-1) (Xquiet, Xfuel, XscriptSize, XinputSize, Xcursor, XitemCount, XtablePresent, XcommandCount, nI (o + n + 1), nI n, XholdSize, XlineNumber, XstepCount, XnextLine, Xpointer, Xsubstituted, XresultSize, Xscript, Xinput, Xitems, Xverb, Xnegated, Xeverywhere, XlabelStart, XlabelSize, Xtarget, XreplacementStart, XreplacementEnd, Xreplacement, Xaddress, XstartAnchor, XendAnchor, XatomCount, XatomChar, XatomStarred, upd (cp_y Xpattern 0 Xoutput o n) (o + n) 10, Xpattern, Xhold, XactivationLine, Xresult)) (hb : 256 < o + n + 1 → post 3 (Xquiet, Xfuel, XscriptSize, XinputSize, Xcursor, XitemCount, XtablePresent, XcommandCount, nI o, nI n, XholdSize, XlineNumber, XstepCount, XnextLine, Xpointer, Xsubstituted, XresultSize, Xscript, Xinput, Xitems, Xverb, Xnegated, Xeverywhere, XlabelStart, XlabelSize, Xtarget, XreplacementStart, XreplacementEnd, Xreplacement, Xaddress, XstartAnchor, XendAnchor, XatomCount, XatomChar, XatomStarred, Xoutput, Xpattern, Xhold, XactivationLine, Xresult)) : wpX_print post (Xquiet, Xfuel, XscriptSize, XinputSize, Xcursor, XitemCount, XtablePresent, XcommandCount, nI o, nI n, XholdSize, XlineNumber, XstepCount, XnextLine, Xpointer, Xsubstituted, XresultSize, Xscript, Xinput, Xitems, Xverb, Xnegated, Xeverywhere, XlabelStart, XlabelSize, Xtarget, XreplacementStart, XreplacementEnd, Xreplacement, Xaddress, XstartAnchor, XendAnchor, XatomCount, XatomChar, XatomStarred, Xoutput, Xpattern, Xhold, XactivationLine, Xresult) := by
  unfold wpX_print
  refine pk_le (o + n + 1) 256 (fun w => ?_) (fun w => hb w) (hx := by rw [nI_add, nI_1])
  refine xm_cp_pattern_output (a := 0) (by omega) (by omega) (nm_r (nI_add o n) ⟨vp_in_nI (by omega) (by omega), nm_e (nm_r (nI_1 _) ?_)⟩)
  rw [nI_clamp (by omega)]
  exact hg (by omega)
theorem xm_allRead {I q : Nat} {post : Int32 → Prop} (hI : I ≤ 128) (hq : q ≤ I + 1) (h : post (b2_i (decide (I ≤ q)))) : wpX_allLinesRead post (Xquiet, Xfuel, XscriptSize, nI I, Xcursor, XitemCount, XtablePresent, XcommandCount, XoutputSize, XpatternSize, XholdSize, XlineNumber, XstepCount, nI q, Xpointer, Xsubstituted, XresultSize, Xscript, Xinput, Xitems, Xverb, Xnegated, Xeverywhere, XlabelStart, XlabelSize, Xtarget, XreplacementStart, XreplacementEnd, Xreplacement, Xaddress, XstartAnchor, XendAnchor, XatomCount, XatomChar, XatomStarred, Xoutput, Xpattern, Xhold, XactivationLine, Xresult) := by
  unfold wpX_allLinesRead
  refine pk_lt q I (fun w => ?_) (fun w => ?_)
  · rw [decide_eq_false (by omega)] at h; exact h
  · rw [decide_eq_true w] at h; exact h
theorem xm_readLine {I q b m : Nat} {post : Int32 → SX → Prop} (hI : I ≤ 128) (hq : q ≤ I) (hb64 : b ≤ 65) (hm : m ≤ 128)
    (hg : ¬ 64 < b + (ln_e Xinput I q - q) → post (-1) (Xquiet, Xfuel, XscriptSize, nI I, Xcursor, XitemCount, XtablePresent, XcommandCount, XoutputSize, nI (b + (ln_e Xinput I q - q)), XholdSize, nI (m + 1), XstepCount, nI (ln_e Xinput I q + 1), Xpointer, Xsubstituted, XresultSize, Xscript, Xinput, Xitems, Xverb, Xnegated, Xeverywhere, XlabelStart, XlabelSize, Xtarget, XreplacementStart, XreplacementEnd, Xreplacement, Xaddress, XstartAnchor, XendAnchor, XatomCount, XatomChar, XatomStarred, Xoutput, cp_y Xinput q Xpattern b (ln_e Xinput I q - q), Xhold, XactivationLine, Xresult))
    (hb : 64 < b + (ln_e Xinput I q - q) → post 3 (Xquiet, Xfuel, XscriptSize, nI I, Xcursor, XitemCount, XtablePresent, XcommandCount, XoutputSize, XpatternSize, XholdSize, nI m, XstepCount, nI q, Xpointer, Xsubstituted, XresultSize, Xscript, Xinput, Xitems, Xverb, Xnegated, Xeverywhere, XlabelStart, XlabelSize, Xtarget, XreplacementStart, XreplacementEnd, Xreplacement, Xaddress, XstartAnchor, XendAnchor, XatomCount, XatomChar, XatomStarred, Xoutput, Xpattern, Xhold, XactivationLine, Xresult)) :
    wpX_readLine post (Xquiet, Xfuel, XscriptSize, nI I, Xcursor, XitemCount, XtablePresent, XcommandCount, XoutputSize, XpatternSize, XholdSize, nI m, XstepCount, nI q, Xpointer, Xsubstituted, XresultSize, Xscript, Xinput, Xitems, Xverb, Xnegated, Xeverywhere, XlabelStart, XlabelSize, Xtarget, XreplacementStart, XreplacementEnd, Xreplacement, Xaddress, XstartAnchor, XendAnchor, XatomCount, XatomChar, XatomStarred, Xoutput, Xpattern, Xhold, XactivationLine, Xresult) (nI b) := by
  have he := sc_facts (P := pb_n Xinput) (L := I) (q := q) hq
  have he1 : q ≤ ln_e Xinput I q := he.1
  have he2 : ln_e Xinput I q ≤ I := he.2.1
  unfold wpX_readLine
  refine ⟨I - q + 1, ?_⟩
  refine sc_loop (fun f x => wX_readLine_5 post (nI b) Xquiet Xfuel XscriptSize (nI I) Xcursor XitemCount XtablePresent XcommandCount XoutputSize XpatternSize XholdSize (nI m) XstepCount (nI q) Xpointer Xsubstituted XresultSize Xscript Xinput Xitems Xverb Xnegated Xeverywhere XlabelStart XlabelSize Xtarget XreplacementStart XreplacementEnd Xreplacement Xaddress XstartAnchor XendAnchor XatomCount XatomChar XatomStarred Xoutput Xpattern Xhold XactivationLine Xresult f (nI x)) (pb_n Xinput) I (fun x => wX_readLine_30 post (nI b) (nI x) Xquiet Xfuel XscriptSize (nI I) Xcursor XitemCount XtablePresent XcommandCount XoutputSize XpatternSize XholdSize (nI m) XstepCount (nI q) Xpointer Xsubstituted XresultSize Xscript Xinput Xitems Xverb Xnegated Xeverywhere XlabelStart XlabelSize Xtarget XreplacementStart XreplacementEnd Xreplacement Xaddress XstartAnchor XendAnchor XatomCount XatomChar XatomStarred Xoutput Xpattern Xhold XactivationLine Xresult) ?_ ?_ (I - q + 1) q hq (by omega) ?_
  · intro f x hx hp hW
    refine br_f (nI_ge hx (by omega)) ⟨pk_in x 128 (by omega), ?_⟩
    rw [nI_clamp (by omega)]
    exact br_f (of_decide_eq_true hp) (nm_r (nI_1 x) hW)
  · intro f x hx hp hR
    refine pk_le I x (fun w => hR) (fun w => ⟨pk_in x 128 (by omega), ?_⟩)
    rw [nI_clamp (by omega)]
    exact br_t (Classical.not_not.mp (of_decide_eq_false (hp w))) hR
  · refine nm_r (show nI (ln_e Xinput I q) - nI q = nI (ln_e Xinput I q - q) from pk_sub he1) ?_
    rw [nI_add]
    refine pk_le (b + (ln_e Xinput I q - q)) 64 (fun w => ?_) (fun w => hb w)
    refine xm_cp_input_pattern (by omega) (by omega) (nm_e (nm_r (nI_1 _) (nm_r (nI_1 m) ?_)))
    exact hg (by omega)
theorem xm_holds {L I j kd n m q : Nat} {v : Int32} {Mout Mhold Mac : Nat → Int32} {Mo Mh Mst : Nat} {Mt : Int32} {post : Int32 → Prop} (hL : L ≤ 128) (hI : I ≤ 128) (hj : j < 48) (hn : n ≤ 64) (hm : m ≤ 128) (hq : q ≤ I + 1) (hA : tb_A Xscript L Xaddress XstartAnchor XendAnchor XatomCount XatomChar XatomStarred j kd v)
    (h0 : kd = 0 → post 1) (h : ¬ kd = 0 → post (b2_i (rn_H Xscript L I kd v (Mout, Mo, Xpattern, n, Mhold, Mh, m, q, Mst, Mt, Mac)))) :
    wpX_addressHolds post (Xquiet, Xfuel, XscriptSize, nI I, Xcursor, XitemCount, XtablePresent, XcommandCount, XoutputSize, nI n, XholdSize, nI m, XstepCount, nI q, Xpointer, Xsubstituted, XresultSize, Xscript, Xinput, Xitems, Xverb, Xnegated, Xeverywhere, XlabelStart, XlabelSize, Xtarget, XreplacementStart, XreplacementEnd, Xreplacement, Xaddress, XstartAnchor, XendAnchor, XatomCount, XatomChar, XatomStarred, Xoutput, Xpattern, Xhold, XactivationLine, Xresult) (nI j) := by
  have vj : vp_in (nI j) 48 := pk_in j 48 hj
  unfold wpX_addressHolds
  refine ⟨vj, ?_⟩
  rw [nI_clamp (by omega)]
  refine nm_e ?_
  unfold rn_H at h
  dsimp only at h
  rcases hA with ⟨k0, a⟩ | ⟨k1, a, p, p1, p2, pv⟩ | ⟨k2, a⟩ | ⟨k3, a, p, g, pL, pv, hx, hR⟩
  · rw [a]
    exact br_f (by decide) (br_f (by decide) (br_f (by decide) (br_f (by decide) (br_t rfl (h0 k0)))))
  · rw [a, pv]
    have h := h (by omega)
    rw [if_pos k1, pv] at h
    refine br_f (fun y => absurd (Int32.lt_trans y (by decide : (-2 : Int32) < 0)) (nI_pos (by omega))) (br_t (nI_lt (a := 0) (by omega) (by omega)) ⟨vj, ?_⟩)
    refine br_c (fun y => ?_) (fun y => ?_)
    · rw [decide_eq_true y] at h; exact h
    · rw [decide_eq_false y] at h; exact h
  · rw [a]
    have h := h (by omega)
    rw [if_neg (by omega), if_pos k2] at h
    refine br_f (by decide) (br_f (by decide) (br_f (by decide) (br_t rfl ?_)))
    exact xm_allRead hI hq ⟨ba_nb (b2_01 _), h⟩
  · rw [a]
    have h := h (by omega)
    rw [if_neg (by omega), if_neg (by omega), pv, nI_clamp (by omega), hx] at h
    dsimp only at h
    have f12 := rg_x_12 hx
    refine br_f (by decide) (br_f (by decide) (br_t rfl ?_))
    refine xm_findMatch (p := 0) hj hn (by omega) hR f12.1 f12.2.2.1 f12.2.2.2 ?_
    cases hm1 : mt_1 Xpattern n g.2.2.2.2.1 g.2.2.2.2.2 g.2.2.2.1 g.2.1 g.2.2.1 0 with
    | none => rw [hm1] at h; exact br_t rfl h
    | some r =>
      rw [hm1] at h
      have hr := mt_1_f hm1
      exact br_f (fun e => absurd (nI_pos (n := r.1) (by omega)) (by rw [show nI r.1 = -1 from e]; exact fun q => q (by decide))) h
theorem xm_range {L I k n m q : Nat} {d : cm_T} {Mout Mhold : Nat → Int32} {Mo Mh Mst : Nat} {Mt : Int32} {post : Int32 → SX → Prop} (hL : L ≤ 128) (hI : I ≤ 128) (hk : k < 16) (hn : n ≤ 64) (hm1 : 1 ≤ m) (hm : m ≤ 128) (hq : q ≤ I + 1) (hok : cm_ok Xscript L d) (h2 : d.1.1 = 2) (A1 : tb_A Xscript L Xaddress XstartAnchor XendAnchor XatomCount XatomChar XatomStarred (k * 3) d.1.2.1.1 d.1.2.1.2) (A2 : tb_A Xscript L Xaddress XstartAnchor XendAnchor XatomCount XatomChar XatomStarred (k * 3 + 1) d.1.2.2.1.1 d.1.2.2.1.2)
    (h : ∀ b ac, rn_sel Xscript L I d k (Mout, Mo, Xpattern, n, Mhold, Mh, m, q, Mst, Mt, XactivationLine) = ((b != decide (d.1.2.2.2.1 = 1)), ac) → post (b2_i b) (Xquiet, Xfuel, XscriptSize, nI I, Xcursor, XitemCount, XtablePresent, XcommandCount, XoutputSize, nI n, XholdSize, nI m, XstepCount, nI q, Xpointer, Xsubstituted, XresultSize, Xscript, Xinput, Xitems, Xverb, Xnegated, Xeverywhere, XlabelStart, XlabelSize, Xtarget, XreplacementStart, XreplacementEnd, Xreplacement, Xaddress, XstartAnchor, XendAnchor, XatomCount, XatomChar, XatomStarred, Xoutput, Xpattern, Xhold, ac, Xresult)) :
    wpX_rangeSelects post (Xquiet, Xfuel, XscriptSize, nI I, Xcursor, XitemCount, XtablePresent, XcommandCount, XoutputSize, nI n, XholdSize, nI m, XstepCount, nI q, Xpointer, Xsubstituted, XresultSize, Xscript, Xinput, Xitems, Xverb, Xnegated, Xeverywhere, XlabelStart, XlabelSize, Xtarget, XreplacementStart, XreplacementEnd, Xreplacement, Xaddress, XstartAnchor, XendAnchor, XatomCount, XatomChar, XatomStarred, Xoutput, Xpattern, Xhold, XactivationLine, Xresult) (nI k) := by
  obtain ⟨o1, o2, o3, o4, o5, o6, o7⟩ := hok
  obtain ⟨q1, q2, q3⟩ := o3 (by omega)
  obtain ⟨p1, p2, p3⟩ := o4 h2
  have vk : vp_in (nI k) 16 := pk_in k 16 hk
  have ck : (nI k).toNatClampNeg = k := nI_clamp (by omega)
  unfold rn_sel at h
  dsimp only at h
  rw [if_neg (by omega), if_neg (by omega)] at h
  have h35 : ∀ z0 : Int32, (z0 = 0 ∧ ¬ (d.1.2.2.1.1 = 1 ∧ d.1.2.2.1.2 ≤ nI m)) ∨ (z0 = 1 ∧ (d.1.2.2.1.1 = 1 ∧ d.1.2.2.1.2 ≤ nI m)) → wX_rangeSelects_35 post (nI k) (nI (k * 3)) (nI (k * 3 + 1)) z0 Xquiet Xfuel XscriptSize (nI I) Xcursor XitemCount XtablePresent XcommandCount XoutputSize (nI n) XholdSize (nI m) XstepCount (nI q) Xpointer Xsubstituted XresultSize Xscript Xinput Xitems Xverb Xnegated Xeverywhere XlabelStart XlabelSize Xtarget XreplacementStart XreplacementEnd Xreplacement Xaddress XstartAnchor XendAnchor XatomCount XatomChar XatomStarred Xoutput Xpattern Xhold XactivationLine Xresult := by
    intro z0 hz
    refine ⟨vk, ?_⟩
    rw [ck]
    refine br_c (fun a0 => ?_) (fun a0 => ⟨vk, ?_⟩)
    · rw [if_pos a0] at h
      refine xm_holds (Mout := Mout) (Mo := Mo) (Mhold := Mhold) (Mh := Mh) (Mst := Mst) (Mt := Mt) (Mac := XactivationLine) hL hI (by omega) hn hm hq A1 (fun y => absurd y q2) (fun _ => ?_)
      cases hH : rn_H Xscript L I d.1.2.1.1 d.1.2.1.2 (Mout, Mo, Xpattern, n, Mhold, Mh, m, q, Mst, Mt, XactivationLine) with
      | false =>
        rw [hH, if_neg (by decide)] at h
        exact br_t rfl ⟨rfl, h false _ rfl⟩
      | true =>
        rw [hH, if_pos rfl] at h
        refine br_f (by decide) ?_
        rcases hz with ⟨z, w⟩ | ⟨z, w⟩
        · rw [if_neg w] at h
          exact br_t z ⟨vk, nm_e ⟨rfl, h true _ rfl⟩⟩
        · rw [if_pos w] at h
          exact br_f (by rw [z]; decide) ⟨rfl, h true _ rfl⟩
    · rw [if_neg a0] at h
      refine br_c (fun y => ?_) (fun y => ?_)
      · rw [if_neg (fun z => absurd z.1 (Int32.not_lt.mpr y))] at h
        exact h true _ rfl
      · have lt : XactivationLine k < nI m := Int32.not_le.mp y
        rcases hz with ⟨z, w⟩ | ⟨z, w⟩
        · refine br_t z ?_
          refine xm_holds (Mout := Mout) (Mo := Mo) (Mhold := Mhold) (Mh := Mh) (Mst := Mst) (Mt := Mt) (Mac := XactivationLine) hL hI (by omega) hn hm hq A2 (fun y => absurd y p2) (fun _ => ?_)
          cases hH : rn_H Xscript L I d.1.2.2.1.1 d.1.2.2.1.2 (Mout, Mo, Xpattern, n, Mhold, Mh, m, q, Mst, Mt, XactivationLine) with
          | false =>
            rw [if_neg (fun y => by
              rcases y.2 with u | u
              · exact w u
              · rw [hH] at u; exact absurd u.2 (by decide))] at h
            exact br_t rfl (h true _ rfl)
          | true =>
            refine br_f (by decide) ⟨vk, nm_e ?_⟩
            by_cases k1 : d.1.2.2.1.1 = 1
            · -- a number that holds has been passed
              exfalso
              unfold rn_H at hH
              dsimp only at hH
              rw [if_pos k1] at hH
              exact w ⟨k1, by rw [of_decide_eq_true hH]; exact Int32.le_refl _⟩
            · rw [if_pos ⟨lt, Or.inr ⟨k1, hH⟩⟩] at h
              exact h true _ rfl
        · rw [if_pos ⟨lt, Or.inl w⟩] at h
          refine br_f (by rw [z]; decide) ⟨vk, nm_e ?_⟩
          exact h true _ rfl
  unfold wpX_rangeSelects
  refine nm_r (pk_mul k 3) (nm_r (nI_1 (k * 3)) ⟨vp_in_nI (by omega) (by omega), ?_⟩)
  rw [nI_clamp (by omega)]
  rcases A2 with ⟨y, _⟩ | ⟨k1, a, p, pp1, pp2, pv⟩ | ⟨k2, a⟩ | ⟨k3, a, _⟩
  · exact absurd y p2
  · rw [a, pv]
    refine br_f (nI_nle (by omega) (by omega)) ⟨vp_in_nI (by omega) (by omega), ?_⟩
    refine br_c (fun y => h35 0 (Or.inl ⟨rfl, fun z => ?_⟩)) (fun y => h35 1 (Or.inr ⟨rfl, k1, ?_⟩))
    · rw [pv] at z; exact absurd y (Int32.not_lt.mpr z.2)
    · rw [pv]; exact Int32.not_lt.mp y
  · rw [a]
    exact br_t (by decide) (h35 0 (Or.inl ⟨rfl, fun z => by omega⟩))
  · rw [a]
    exact br_t (by decide) (h35 0 (Or.inl ⟨rfl, fun z => by omega⟩))
end XN_1
end
section
/-! X: substitution -/
section XS_1
variable {Xquiet Xfuel XscriptSize XinputSize Xcursor XitemCount XtablePresent XcommandCount XoutputSize XpatternSize XholdSize XlineNumber XstepCount XnextLine Xpointer Xsubstituted XresultSize : Int32} {Xscript Xinput Xitems Xverb Xnegated Xeverywhere XlabelStart XlabelSize Xtarget XreplacementStart XreplacementEnd Xreplacement Xaddress XstartAnchor XendAnchor XatomCount XatomChar XatomStarred Xoutput Xpattern Xhold XactivationLine Xresult : Nat → Int32}
theorem xm_put {R : List Int32} {c : Int32} {post : SX → Prop} (hR : R.length < 2 ^ 30) (hr : rl_h Xresult R) (h : ∀ res, rl_h res (R ++ [c]) → post (Xquiet, Xfuel, XscriptSize, XinputSize, Xcursor, XitemCount, XtablePresent, XcommandCount, XoutputSize, XpatternSize, XholdSize, XlineNumber, XstepCount, XnextLine, Xpointer, Xsubstituted, nI (R ++ [c]).length, Xscript, Xinput, Xitems, Xverb, Xnegated, Xeverywhere, XlabelStart, XlabelSize, Xtarget, XreplacementStart, XreplacementEnd, Xreplacement, Xaddress, XstartAnchor, XendAnchor, XatomCount, XatomChar, XatomStarred, Xoutput, Xpattern, Xhold, XactivationLine, res)) : wpX_appendToResult post (Xquiet, Xfuel, XscriptSize, XinputSize, Xcursor, XitemCount, XtablePresent, XcommandCount, XoutputSize, XpatternSize, XholdSize, XlineNumber, XstepCount, XnextLine, Xpointer, Xsubstituted, nI R.length, Xscript, Xinput, Xitems, Xverb, Xnegated, Xeverywhere, XlabelStart, XlabelSize, Xtarget, XreplacementStart, XreplacementEnd, Xreplacement, Xaddress, XstartAnchor, XendAnchor, XatomCount, XatomChar, XatomStarred, Xoutput, Xpattern, Xhold, XactivationLine, Xresult) c := by
  have e : (R ++ [c]).length = R.length + 1 := by simp
  rw [e] at h
  unfold wpX_appendToResult
  refine pk_le 64 R.length (fun w => nm_r (nI_1 _) (h _ (rl_full hr (by omega)))) (fun w => ⟨pk_in R.length 64 w, nm_e (nm_r (nI_1 _) ?_)⟩)
  rw [nI_clamp (by omega)]
  exact h _ (rl_put hr w)
theorem xm_part {R : List Int32} {a b : Nat} {post : SX → Prop} (hb : b ≤ 64) (ha : a ≤ 65) (hR : R.length < 2 ^ 29) (hr : rl_h Xresult R) (h : ∀ res, rl_h res (R ++ sl_x Xpattern a (b - a)) → post (Xquiet, Xfuel, XscriptSize, XinputSize, Xcursor, XitemCount, XtablePresent, XcommandCount, XoutputSize, XpatternSize, XholdSize, XlineNumber, XstepCount, XnextLine, Xpointer, Xsubstituted, nI (R ++ sl_x Xpattern a (b - a)).length, Xscript, Xinput, Xitems, Xverb, Xnegated, Xeverywhere, XlabelStart, XlabelSize, Xtarget, XreplacementStart, XreplacementEnd, Xreplacement, Xaddress, XstartAnchor, XendAnchor, XatomCount, XatomChar, XatomStarred, Xoutput, Xpattern, Xhold, XactivationLine, res)) : wpX_appendPatternPart post (Xquiet, Xfuel, XscriptSize, XinputSize, Xcursor, XitemCount, XtablePresent, XcommandCount, XoutputSize, XpatternSize, XholdSize, XlineNumber, XstepCount, XnextLine, Xpointer, Xsubstituted, nI R.length, Xscript, Xinput, Xitems, Xverb, Xnegated, Xeverywhere, XlabelStart, XlabelSize, Xtarget, XreplacementStart, XreplacementEnd, Xreplacement, Xaddress, XstartAnchor, XendAnchor, XatomCount, XatomChar, XatomStarred, Xoutput, Xpattern, Xhold, XactivationLine, Xresult) (nI a) (nI b) := by
  unfold wpX_appendPatternPart
  have loop : ∀ f t res, b - a - t < f → t ≤ b - a → rl_h res (R ++ sl_x Xpattern a t) → wX_appendPatternPart_2 post (nI b) f (nI (a + t)) Xquiet Xfuel XscriptSize XinputSize Xcursor XitemCount XtablePresent XcommandCount XoutputSize XpatternSize XholdSize XlineNumber XstepCount XnextLine Xpointer Xsubstituted (nI (R ++ sl_x Xpattern a t).length) Xscript Xinput Xitems Xverb Xnegated Xeverywhere XlabelStart XlabelSize Xtarget XreplacementStart XreplacementEnd Xreplacement Xaddress XstartAnchor XendAnchor XatomCount XatomChar XatomStarred Xoutput Xpattern Xhold XactivationLine res := by
    intro f
    induction f with
    | zero => intro t res h; exact absurd h (Nat.not_lt_zero _)
    | succ f ih =>
    intro t res hf ht hh
    refine pk_le b (a + t) (fun w => ?_) (fun w => ⟨vp_in_nI (by omega) (by omega), ?_⟩)
    · have e : t = b - a := by omega
      rw [e] at hh ⊢
      exact h res hh
    · rw [nI_clamp (by omega)]
      refine xm_put (by rw [List.length_append, sl_len]; omega) hh (fun res' hh' => nm_r (nI_1 _) ?_)
      have e : R ++ sl_x Xpattern a t ++ [Xpattern (a + t)] = R ++ sl_x Xpattern a (t + 1) := by rw [List.append_assoc]; rfl
      rw [e] at hh' ⊢
      exact ih (t + 1) res' (by omega) (by omega) hh'
  have e : R ++ sl_x Xpattern a 0 = R := List.append_nil R
  have := loop (b - a + 1) 0 Xresult (by omega) (by omega) (by rw [e]; exact hr)
  rw [e] at this
  exact ⟨_, this⟩
theorem xm_33 {R : List Int32} {i j : Nat} {x1 x4 : Int32} {F : Nat} {post : SX → Prop} (hj : j ≤ 64) (hi : i ≤ 64) (hR : R.length < 2 ^ 29) (hr : rl_h Xresult R) (h : ∀ res, rl_h res (R ++ sl_x Xpattern i (j - i)) → wX_appendReplacement_8 post x1 (nI i) (nI j) F (x4 + 1) Xquiet Xfuel XscriptSize XinputSize Xcursor XitemCount XtablePresent XcommandCount XoutputSize XpatternSize XholdSize XlineNumber XstepCount XnextLine Xpointer Xsubstituted (nI (R ++ sl_x Xpattern i (j - i)).length) Xscript Xinput Xitems Xverb Xnegated Xeverywhere XlabelStart XlabelSize Xtarget XreplacementStart XreplacementEnd Xreplacement Xaddress XstartAnchor XendAnchor XatomCount XatomChar XatomStarred Xoutput Xpattern Xhold XactivationLine res) : ∃ f, wX_appendReplacement_33 post (wX_appendReplacement_8 post x1 (nI i) (nI j) F) x1 (nI i) (nI j) x4 f (nI i) Xquiet Xfuel XscriptSize XinputSize Xcursor XitemCount XtablePresent XcommandCount XoutputSize XpatternSize XholdSize XlineNumber XstepCount XnextLine Xpointer Xsubstituted (nI R.length) Xscript Xinput Xitems Xverb Xnegated Xeverywhere XlabelStart XlabelSize Xtarget XreplacementStart XreplacementEnd Xreplacement Xaddress XstartAnchor XendAnchor XatomCount XatomChar XatomStarred Xoutput Xpattern Xhold XactivationLine Xresult := by
  have loop : ∀ f t res, j - i - t < f → t ≤ j - i → rl_h res (R ++ sl_x Xpattern i t) → wX_appendReplacement_33 post (wX_appendReplacement_8 post x1 (nI i) (nI j) F) x1 (nI i) (nI j) x4 f (nI (i + t)) Xquiet Xfuel XscriptSize XinputSize Xcursor XitemCount XtablePresent XcommandCount XoutputSize XpatternSize XholdSize XlineNumber XstepCount XnextLine Xpointer Xsubstituted (nI (R ++ sl_x Xpattern i t).length) Xscript Xinput Xitems Xverb Xnegated Xeverywhere XlabelStart XlabelSize Xtarget XreplacementStart XreplacementEnd Xreplacement Xaddress XstartAnchor XendAnchor XatomCount XatomChar XatomStarred Xoutput Xpattern Xhold XactivationLine res := by
    intro f
    induction f with
    | zero => intro t res h; exact absurd h (Nat.not_lt_zero _)
    | succ f ih =>
    intro t res hf ht hh
    refine pk_le j (i + t) (fun w => nm_e ?_) (fun w => ⟨vp_in_nI (by omega) (by omega), ?_⟩)
    · have e : t = j - i := by omega
      rw [e] at hh ⊢
      exact h res hh
    · rw [nI_clamp (by omega)]
      refine xm_put (by rw [List.length_append, sl_len]; omega) hh (fun res' hh' => nm_r (nI_1 _) ?_)
      have e : R ++ sl_x Xpattern i t ++ [Xpattern (i + t)] = R ++ sl_x Xpattern i (t + 1) := by rw [List.append_assoc]; rfl
      rw [e] at hh' ⊢
      exact ih (t + 1) res' (by omega) (by omega) hh'
  have e : R ++ sl_x Xpattern i 0 = R := List.append_nil R
  have := loop (j - i + 1) 0 Xresult (by omega) (by omega) (by rw [e]; exact hr)
  rw [e] at this
  exact ⟨_, this⟩
theorem xm_rep {k rp rn i j n : Nat} {R : List Int32} {post : SX → Prop} (hk : k < 16) (hn : n ≤ 64) (hij : i ≤ j) (hj : j ≤ n) (hrn : rp + rn ≤ 128) (hR : R.length < 2 ^ 28) (hr : rl_h Xresult R) (e1 : XreplacementStart k = nI rp) (e2 : XreplacementEnd k = nI (rp + rn)) (e3 : ∀ t, t < rn → Xreplacement (rp + t) = tb_c Xscript (tx_p Xscript rp t))
    (h : ∀ res, rl_h res (R ++ sl_r Xscript Xpattern rp i j rn) → post (Xquiet, Xfuel, XscriptSize, XinputSize, Xcursor, XitemCount, XtablePresent, XcommandCount, XoutputSize, XpatternSize, XholdSize, XlineNumber, XstepCount, XnextLine, Xpointer, Xsubstituted, nI (R ++ sl_r Xscript Xpattern rp i j rn).length, Xscript, Xinput, Xitems, Xverb, Xnegated, Xeverywhere, XlabelStart, XlabelSize, Xtarget, XreplacementStart, XreplacementEnd, Xreplacement, Xaddress, XstartAnchor, XendAnchor, XatomCount, XatomChar, XatomStarred, Xoutput, Xpattern, Xhold, XactivationLine, res)) : wpX_appendReplacement post (Xquiet, Xfuel, XscriptSize, XinputSize, Xcursor, XitemCount, XtablePresent, XcommandCount, XoutputSize, XpatternSize, XholdSize, XlineNumber, XstepCount, XnextLine, Xpointer, Xsubstituted, nI R.length, Xscript, Xinput, Xitems, Xverb, Xnegated, Xeverywhere, XlabelStart, XlabelSize, Xtarget, XreplacementStart, XreplacementEnd, Xreplacement, Xaddress, XstartAnchor, XendAnchor, XatomCount, XatomChar, XatomStarred, Xoutput, Xpattern, Xhold, XactivationLine, Xresult) (nI k) (nI i) (nI j) := by
  have vk : vp_in (nI k) 16 := pk_in k 16 hk
  have ck : (nI k).toNatClampNeg = k := nI_clamp (by omega)
  unfold wpX_appendReplacement
  refine ⟨vk, ?_⟩
  rw [ck, e1]
  refine nm_e ⟨rn + 1, ?_⟩
  have loop : ∀ f t res, rn - t < f → t ≤ rn → rl_h res (R ++ sl_r Xscript Xpattern rp i j t) → wX_appendReplacement_8 post (nI k) (nI i) (nI j) f (nI (rp + t)) Xquiet Xfuel XscriptSize XinputSize Xcursor XitemCount XtablePresent XcommandCount XoutputSize XpatternSize XholdSize XlineNumber XstepCount XnextLine Xpointer Xsubstituted (nI (R ++ sl_r Xscript Xpattern rp i j t).length) Xscript Xinput Xitems Xverb Xnegated Xeverywhere XlabelStart XlabelSize Xtarget XreplacementStart XreplacementEnd Xreplacement Xaddress XstartAnchor XendAnchor XatomCount XatomChar XatomStarred Xoutput Xpattern Xhold XactivationLine res := by
    intro f
    induction f with
    | zero => intro t res h; exact absurd h (Nat.not_lt_zero _)
    | succ f ih =>
    intro t res hf ht hh
    have len : (R ++ sl_r Xscript Xpattern rp i j t).length < 2 ^ 29 := by
      have a := sl_rlen Xscript Xpattern rp i j t
      have b : t * (j - i + 1) ≤ 128 * 65 := Nat.mul_le_mul (by omega) (by omega)
      rw [List.length_append]
      omega
    refine ⟨vk, ?_⟩
    rw [ck, e2]
    refine pk_le (rp + rn) (rp + t) (fun w => ?_) (fun w => ⟨vp_in_nI (by omega) (by omega), ?_⟩)
    · have e : t = rn := by omega
      rw [e] at hh ⊢
      exact h res hh
    · have tl : t < rn := by omega
      rw [nI_clamp (by omega), e3 t tl]
      refine br_c (fun y => ?_) (fun y => ⟨vp_in_nI (by omega) (by omega), ?_⟩)
      · refine xm_33 (by omega) (by omega) len hh (fun res' hh' => ?_)
        have e : R ++ sl_r Xscript Xpattern rp i j t ++ sl_x Xpattern i (j - i) = R ++ sl_r Xscript Xpattern rp i j (t + 1) := by
          rw [sl_r, if_pos y, List.append_assoc]
        rw [nI_1]
        rw [e] at hh' ⊢
        exact ih (t + 1) res' (by omega) (by omega) hh'
      · refine xm_put (by omega) hh (fun res' hh' => nm_r (nI_1 _) ?_)
        have e : R ++ sl_r Xscript Xpattern rp i j t ++ [tb_c Xscript (tx_p Xscript rp t)] = R ++ sl_r Xscript Xpattern rp i j (t + 1) := by
          rw [sl_r, if_neg y, List.append_assoc]
        rw [e] at hh' ⊢
        exact ih (t + 1) res' (by omega) (by omega) hh'
  have e : R ++ sl_r Xscript Xpattern rp i j 0 = R := List.append_nil R
  have := loop (rn + 1) 0 Xresult (by omega) (by omega) (by rw [e]; exact hr)
  rw [e] at this
  exact this
theorem xm_134 {n p : Nat} {R : List Int32} {tk : Int32} {post : Int32 → SX → Prop} (hn : n ≤ 64) (hp : p ≤ n + 1) (hR : R.length < 2 ^ 28) (hr : rl_h Xresult R)
    (h0 : tk = 0 → post (-1) (Xquiet, Xfuel, XscriptSize, XinputSize, Xcursor, XitemCount, XtablePresent, XcommandCount, XoutputSize, nI n, XholdSize, XlineNumber, XstepCount, XnextLine, Xpointer, Xsubstituted, nI R.length, Xscript, Xinput, Xitems, Xverb, Xnegated, Xeverywhere, XlabelStart, XlabelSize, Xtarget, XreplacementStart, XreplacementEnd, Xreplacement, Xaddress, XstartAnchor, XendAnchor, XatomCount, XatomChar, XatomStarred, Xoutput, Xpattern, Xhold, XactivationLine, Xresult))
    (h1 : ¬ tk = 0 → 64 < (R ++ sl_x Xpattern p (n - p)).length → ∀ rl res, post 3 (Xquiet, Xfuel, XscriptSize, XinputSize, Xcursor, XitemCount, XtablePresent, XcommandCount, XoutputSize, nI n, XholdSize, XlineNumber, XstepCount, XnextLine, Xpointer, Xsubstituted, rl, Xscript, Xinput, Xitems, Xverb, Xnegated, Xeverywhere, XlabelStart, XlabelSize, Xtarget, XreplacementStart, XreplacementEnd, Xreplacement, Xaddress, XstartAnchor, XendAnchor, XatomCount, XatomChar, XatomStarred, Xoutput, Xpattern, Xhold, XactivationLine, res))
    (h2 : ¬ tk = 0 → ¬ 64 < (R ++ sl_x Xpattern p (n - p)).length → ∀ rl res, post (-1) (Xquiet, Xfuel, XscriptSize, XinputSize, Xcursor, XitemCount, XtablePresent, XcommandCount, XoutputSize, nI (R ++ sl_x Xpattern p (n - p)).length, XholdSize, XlineNumber, XstepCount, XnextLine, Xpointer, 1, rl, Xscript, Xinput, Xitems, Xverb, Xnegated, Xeverywhere, XlabelStart, XlabelSize, Xtarget, XreplacementStart, XreplacementEnd, Xreplacement, Xaddress, XstartAnchor, XendAnchor, XatomCount, XatomChar, XatomStarred, Xoutput, cp_y (sb_f (R ++ sl_x Xpattern p (n - p))) 0 Xpattern 0 (R ++ sl_x Xpattern p (n - p)).length, Xhold, XactivationLine, res)) :
    wX_substitute_134 post (nI p) tk Xquiet Xfuel XscriptSize XinputSize Xcursor XitemCount XtablePresent XcommandCount XoutputSize (nI n) XholdSize XlineNumber XstepCount XnextLine Xpointer Xsubstituted (nI R.length) Xscript Xinput Xitems Xverb Xnegated Xeverywhere XlabelStart XlabelSize Xtarget XreplacementStart XreplacementEnd Xreplacement Xaddress XstartAnchor XendAnchor XatomCount XatomChar XatomStarred Xoutput Xpattern Xhold XactivationLine Xresult := by
  refine br_c h0 (fun z => ?_)
  refine xm_part (by omega) (by omega) (by omega) hr (fun res hh => ?_)
  have len : (R ++ sl_x Xpattern p (n - p)).length < 2 ^ 30 := by rw [List.length_append, sl_len]; omega
  refine pk_le (R ++ sl_x Xpattern p (n - p)).length 64 (fun w => ?_) (fun w => h1 z w _ _)
  refine xm_cp_result_pattern (a := 0) (b := 0) (by omega) (by omega) ?_
  rw [rl_cp hh w]
  exact h2 z (by omega) _ _
theorem xm_27 {L n k rp rn : Nat} {g : Nat × Nat × Nat × Nat × (Nat → Int32) × (Nat → Int32)} {tr : Nat × List Int32 × Int32} {post : Int32 → SX → Prop} (hn : n ≤ 64) (hk : k < 16) (hR0 : tb_R XstartAnchor XendAnchor XatomCount XatomChar XatomStarred (k * 3 + 2) g) (h12 : g.2.2.2.1 ≤ 12) (hS : g.2.1 ≤ 1) (hE : g.2.2.1 ≤ 1) (hrn : rp + rn ≤ 128) (e1 : XreplacementStart k = nI rp) (e2 : XreplacementEnd k = nI (rp + rn)) (e3 : ∀ t, t < rn → Xreplacement (rp + t) = tb_c Xscript (tx_p Xscript rp t))
    (h0 : tr.2.2 = 0 → ∀ rl res, post (-1) (Xquiet, Xfuel, XscriptSize, XinputSize, Xcursor, XitemCount, XtablePresent, XcommandCount, XoutputSize, nI n, XholdSize, XlineNumber, XstepCount, XnextLine, Xpointer, Xsubstituted, rl, Xscript, Xinput, Xitems, Xverb, Xnegated, Xeverywhere, XlabelStart, XlabelSize, Xtarget, XreplacementStart, XreplacementEnd, Xreplacement, Xaddress, XstartAnchor, XendAnchor, XatomCount, XatomChar, XatomStarred, Xoutput, Xpattern, Xhold, XactivationLine, res))
    (h1 : ¬ tr.2.2 = 0 → 64 < (tr.2.1 ++ sl_x Xpattern tr.1 (n - tr.1)).length → ∀ rl res, post 3 (Xquiet, Xfuel, XscriptSize, XinputSize, Xcursor, XitemCount, XtablePresent, XcommandCount, XoutputSize, nI n, XholdSize, XlineNumber, XstepCount, XnextLine, Xpointer, Xsubstituted, rl, Xscript, Xinput, Xitems, Xverb, Xnegated, Xeverywhere, XlabelStart, XlabelSize, Xtarget, XreplacementStart, XreplacementEnd, Xreplacement, Xaddress, XstartAnchor, XendAnchor, XatomCount, XatomChar, XatomStarred, Xoutput, Xpattern, Xhold, XactivationLine, res))
    (h2 : ¬ tr.2.2 = 0 → ¬ 64 < (tr.2.1 ++ sl_x Xpattern tr.1 (n - tr.1)).length → ∀ rl res, post (-1) (Xquiet, Xfuel, XscriptSize, XinputSize, Xcursor, XitemCount, XtablePresent, XcommandCount, XoutputSize, nI (tr.2.1 ++ sl_x Xpattern tr.1 (n - tr.1)).length, XholdSize, XlineNumber, XstepCount, XnextLine, Xpointer, 1, rl, Xscript, Xinput, Xitems, Xverb, Xnegated, Xeverywhere, XlabelStart, XlabelSize, Xtarget, XreplacementStart, XreplacementEnd, Xreplacement, Xaddress, XstartAnchor, XendAnchor, XatomCount, XatomChar, XatomStarred, Xoutput, cp_y (sb_f (tr.2.1 ++ sl_x Xpattern tr.1 (n - tr.1))) 0 Xpattern 0 (tr.2.1 ++ sl_x Xpattern tr.1 (n - tr.1)).length, Xhold, XactivationLine, res)) :
    ∀ f p R tk res, p ≤ n → 65 ≤ p + f → f ≤ 65 → R.length ≤ (65 - f) * 8400 → rl_h res R → sb_x Xscript L Xpattern n g rp rn (Xeverywhere k) f p R tk = tr → wX_substitute_27 post (nI k) (nI (k * 3 + 2)) (f + 1) (nI p) tk (mt_o1 (mt_1 Xpattern n g.2.2.2.2.1 g.2.2.2.2.2 g.2.2.2.1 g.2.1 g.2.2.1 p)) (nI (65 - f)) Xquiet Xfuel XscriptSize XinputSize Xcursor XitemCount XtablePresent XcommandCount XoutputSize (nI n) XholdSize XlineNumber XstepCount XnextLine Xpointer Xsubstituted (nI R.length) Xscript Xinput Xitems Xverb Xnegated Xeverywhere XlabelStart XlabelSize Xtarget XreplacementStart XreplacementEnd Xreplacement Xaddress XstartAnchor XendAnchor XatomCount XatomChar XatomStarred Xoutput Xpattern Xhold XactivationLine res := by
  have fin : ∀ F p' R' tk' x6 res', (p', R', tk') = tr → p' ≤ n + 1 → R'.length ≤ 65 * 8400 → rl_h res' R' → wX_substitute_27 post (nI k) (nI (k * 3 + 2)) (F + 1) (nI p') tk' (-1) x6 Xquiet Xfuel XscriptSize XinputSize Xcursor XitemCount XtablePresent XcommandCount XoutputSize (nI n) XholdSize XlineNumber XstepCount XnextLine Xpointer Xsubstituted (nI R'.length) Xscript Xinput Xitems Xverb Xnegated Xeverywhere XlabelStart XlabelSize Xtarget XreplacementStart XreplacementEnd Xreplacement Xaddress XstartAnchor XendAnchor XatomCount XatomChar XatomStarred Xoutput Xpattern Xhold XactivationLine res' := by
    intro F p' R' tk' x6 res' e hp' hR' hr'
    rw [← e] at h0 h1 h2
    have : wX_substitute_134 post (nI p') tk' Xquiet Xfuel XscriptSize XinputSize Xcursor XitemCount XtablePresent XcommandCount XoutputSize (nI n) XholdSize XlineNumber XstepCount XnextLine Xpointer Xsubstituted (nI R'.length) Xscript Xinput Xitems Xverb Xnegated Xeverywhere XlabelStart XlabelSize Xtarget XreplacementStart XreplacementEnd Xreplacement Xaddress XstartAnchor XendAnchor XatomCount XatomChar XatomStarred Xoutput Xpattern Xhold XactivationLine res' := xm_134 hn hp' (by omega) hr' (fun z => h0 z _ _) h1 h2
    exact br_c (fun _ => this) (fun _ => br_t rfl this)
  have vk : vp_in (nI k) 16 := pk_in k 16 hk
  have ck : (nI k).toNatClampNeg = k := nI_clamp (by omega)
  intro f
  induction f with
  | zero => intro p R tk res hp hf; omega
  | succ f ih =>
  intro p R tk res hp hpf hf65 hR hr hsb
  have len : R.length ≤ 64 * 8400 := Nat.le_trans hR (Nat.mul_le_mul_right _ (by omega))
  rw [sb_x] at hsb
  cases hm : mt_1 Xpattern n g.2.2.2.2.1 g.2.2.2.2.2 g.2.2.2.1 g.2.1 g.2.2.1 p with
  | none =>
    rw [hm] at hsb
    exact fin (f + 1) p R tk _ _ hsb (by omega) (by omega) hr
  | some r =>
    rw [hm] at hsb
    dsimp only at hsb
    obtain ⟨q1, q2, q3, dd, q4, q5⟩ := mt_1_f hm
    refine br_f (nI_nlt (a := 64) (by omega) (by decide)) (br_f (fun e => absurd (nI_pos (n := r.1) (by omega)) (by rw [show nI r.1 = -1 from e]; exact fun q => q (by decide))) ?_)
    refine xm_longest (by omega) hn (by omega) hR0 h12 hE ?_
    rw [q4]
    show wpX_appendPatternPart _ _ (nI p) (nI r.1)
    refine xm_part (by omega) (by omega) (by omega) hr (fun res1 hr1 => ?_)
    have l1 : (R ++ sl_x Xpattern p (r.1 - p)).length < 2 ^ 28 := by rw [List.length_append, sl_len]; omega
    have er : (mt_lo r.1 (some dd)) = nI r.2 := by rw [q5]; rfl
    rw [er]
    refine xm_rep hk hn q2 q3 hrn l1 hr1 e1 e2 e3 (fun res2 hr2 => ?_)
    have h107 : ∀ p' R' res', (p' = if r.2 = r.1 then r.1 + 1 else r.2) → R' = R ++ sl_x Xpattern p (r.1 - p) ++ sl_r Xscript Xpattern rp r.1 r.2 rn ++ (if r.2 = r.1 ∧ r.1 < n then [Xpattern r.1] else []) → rl_h res' R' → wX_substitute_107 post (wX_substitute_27 post (nI k) (nI (k * 3 + 2)) (f + 1)) (nI k) (nI (k * 3 + 2)) (nI p') 1 (nI (65 - (f + 1))) Xquiet Xfuel XscriptSize XinputSize Xcursor XitemCount XtablePresent XcommandCount XoutputSize (nI n) XholdSize XlineNumber XstepCount XnextLine Xpointer Xsubstituted (nI R'.length) Xscript Xinput Xitems Xverb Xnegated Xeverywhere XlabelStart XlabelSize Xtarget XreplacementStart XreplacementEnd Xreplacement Xaddress XstartAnchor XendAnchor XatomCount XatomChar XatomStarred Xoutput Xpattern Xhold XactivationLine res' := by
      intro p' R' res' ep eR hr'
      have hp'1 : p' ≤ n + 1 := by rw [ep]; split <;> omega
      have hp'2 : p < p' := by rw [ep]; split <;> omega
      have hl : R'.length ≤ R.length + 8400 := by
        have := sb_len (s := Xscript) (T := Xpattern) (n := n) (rp := rp) (rn := rn) (p := p) (R := R) (r := r) hn (by omega) ⟨q2, q3⟩
        unfold sb_R at this
        rw [← eR] at this
        exact this
      have hl2 : R'.length ≤ (65 - f) * 8400 := by
        have : (65 - f) * 8400 = (65 - (f + 1)) * 8400 + 8400 := by
          rw [show 65 - f = (65 - (f + 1)) + 1 by omega, Nat.succ_mul]
        omega
      have last : (Xeverywhere k = 0 ∨ (r.2 = r.1 ∧ r.1 = n)) → ∀ x6, wX_substitute_27 post (nI k) (nI (k * 3 + 2)) (f + 1) (nI p') 1 (-1) x6 Xquiet Xfuel XscriptSize XinputSize Xcursor XitemCount XtablePresent XcommandCount XoutputSize (nI n) XholdSize XlineNumber XstepCount XnextLine Xpointer Xsubstituted (nI R'.length) Xscript Xinput Xitems Xverb Xnegated Xeverywhere XlabelStart XlabelSize Xtarget XreplacementStart XreplacementEnd Xreplacement Xaddress XstartAnchor XendAnchor XatomCount XatomChar XatomStarred Xoutput Xpattern Xhold XactivationLine res' := by
        intro hh x6
        rw [if_pos hh, ← ep, ← eR] at hsb
        exact fin f p' R' 1 x6 _ hsb hp'1 (by omega) hr'
      refine ⟨vk, ?_⟩
      rw [ck]
      refine br_c (fun z => nm_e (last (Or.inl z) _)) (fun z => ?_)
      refine xm_findMatch (by omega) hn hp'1 hR0 h12 hS hE ?_
      by_cases w : p' = n + 1
      · rw [w, mt_1_hi (by omega)]
        refine nm_e ?_
        have hh : r.2 = r.1 ∧ r.1 = n := by
          rw [w] at ep
          by_cases y : r.2 = r.1
          · rw [if_pos y] at ep; exact ⟨y, by omega⟩
          · rw [if_neg y] at ep; omega
        have := last (Or.inr hh) (nI (65 - (f + 1)) + 1)
        rw [w] at this
        exact this
      · have hh : ¬ (Xeverywhere k = 0 ∨ (r.2 = r.1 ∧ r.1 = n)) := fun y => by
          rcases y with y | y
          · exact z y
          · rw [if_pos y.1] at ep; omega
        rw [if_neg hh, ← ep, ← eR] at hsb
        refine nm_r (show nI (65 - (f + 1)) + 1 = nI (65 - f) from by rw [nI_1, show 65 - (f + 1) + 1 = 65 - f by omega]) ?_
        exact ih p' R' 1 _ (by omega) (by omega) (by omega) hl2 hr' hsb
    have l2 : (R ++ sl_x Xpattern p (r.1 - p) ++ sl_r Xscript Xpattern rp r.1 r.2 rn).length < 2 ^ 29 := by
      have a := sl_rlen Xscript Xpattern rp r.1 r.2 rn
      have b : rn * (r.2 - r.1 + 1) ≤ 128 * 65 := Nat.mul_le_mul (by omega) (by omega)
      rw [List.length_append]
      omega
    show (nI r.2 = nI r.1 → _) ∧ _
    refine pk_eq r.2 r.1 (fun w => pk_le n r.1 (fun w2 => ?_) (fun w2 => ?_)) (fun w => ?_)
    · refine xm_part (by omega) (by omega) l2 hr2 (fun res3 hr3 => nm_r (nI_1 r.1) ?_)
      rw [Nat.sub_self] at hr3 ⊢
      exact h107 (r.1 + 1) _ res3 (by rw [if_pos w]) (by rw [if_neg (by omega)]; rfl) hr3
    · show wX_substitute_99 _ _ _ _ _ _ _ (nI r.1 + 1) _ _ _ _ _ _ _ _ _ _ _ _ _ _ _ _ _ _ _ _ _ _ _ _ _ _ _ _ _ _ _ _ _ _ _ _ _ _ _ _ _
      rw [show nI r.1 + 1 = nI (r.1 + 1) from nI_1 r.1]
      refine xm_part (by omega) (by omega) l2 hr2 (fun res3 hr3 => nm_r (nI_1 r.1) ?_)
      rw [show r.1 + 1 - r.1 = 1 by omega] at hr3 ⊢
      exact h107 (r.1 + 1) _ res3 (by rw [if_pos w]) (by rw [if_pos ⟨w, w2⟩]; rfl) hr3
    · exact h107 r.2 _ res2 (by rw [if_neg w]) (by rw [if_neg (fun y => w y.1)]; exact (List.append_nil _).symm) hr2
end XS_1
end
section
/-! X: one step -/
section XO_1
variable {Xquiet Xfuel XscriptSize XinputSize Xcursor XitemCount XtablePresent XcommandCount XoutputSize XpatternSize XholdSize XlineNumber XstepCount XnextLine Xpointer Xsubstituted XresultSize : Int32} {Xscript Xinput Xitems Xverb Xnegated Xeverywhere XlabelStart XlabelSize Xtarget XreplacementStart XreplacementEnd Xreplacement Xaddress XstartAnchor XendAnchor XatomCount XatomChar XatomStarred Xoutput Xpattern Xhold XactivationLine Xresult : Nat → Int32}
theorem xm_subst {L n k : Nat} {d : cm_T} {Mout Mhold Mac : Nat → Int32} {Mo Mh Mm Mq Mst : Nat} {post : Int32 → SX → Prop} (hL : L ≤ 128) (hn : n ≤ 64) (hk : k < 16) (h115 : d.2.1 = 115) (hX : tb_X Xscript L Xverb Xnegated Xeverywhere XlabelStart XlabelSize XreplacementStart XreplacementEnd Xreplacement Xaddress XstartAnchor XendAnchor XatomCount XatomChar XatomStarred k d) (hrp : d.2.2.1.2.1.2.1 + d.2.2.1.2.1.2.2.1 ≤ L)
    (h : ∀ r n' pat' t' rl res, rn_sub Xscript L d (Mout, Mo, Xpattern, n, Mhold, Mh, Mm, Mq, Mst, Xsubstituted, Mac) = (r, (Mout, Mo, pat', n', Mhold, Mh, Mm, Mq, Mst, t', Mac)) → post r (Xquiet, Xfuel, XscriptSize, XinputSize, Xcursor, XitemCount, XtablePresent, XcommandCount, XoutputSize, nI n', XholdSize, XlineNumber, XstepCount, XnextLine, Xpointer, t', rl, Xscript, Xinput, Xitems, Xverb, Xnegated, Xeverywhere, XlabelStart, XlabelSize, Xtarget, XreplacementStart, XreplacementEnd, Xreplacement, Xaddress, XstartAnchor, XendAnchor, XatomCount, XatomChar, XatomStarred, Xoutput, pat', Xhold, XactivationLine, res)) :
    wpX_substitute post (Xquiet, Xfuel, XscriptSize, XinputSize, Xcursor, XitemCount, XtablePresent, XcommandCount, XoutputSize, nI n, XholdSize, XlineNumber, XstepCount, XnextLine, Xpointer, Xsubstituted, XresultSize, Xscript, Xinput, Xitems, Xverb, Xnegated, Xeverywhere, XlabelStart, XlabelSize, Xtarget, XreplacementStart, XreplacementEnd, Xreplacement, Xaddress, XstartAnchor, XendAnchor, XatomCount, XatomChar, XatomStarred, Xoutput, Xpattern, Xhold, XactivationLine, Xresult) (nI k) := by
  obtain ⟨x1, x2, x3, x4, x5, x6⟩ := hX
  obtain ⟨s1, s2, s3, s4, g, s5, s6⟩ := x5 h115
  have f12 := rg_x_12 s5
  unfold rn_sub at h
  dsimp only at h
  rw [s5] at h
  dsimp only at h
  rw [← s1] at h
  unfold wpX_substitute
  refine nm_r (show nI k * 3 + 2 = nI (k * 3 + 2) by rw [show nI k * 3 = nI (k * 3) from pk_mul k 3]; exact nI_add (k * 3) 2) ?_
  refine xm_findMatch (p := 0) (by omega) hn (by omega) s6 f12.1 f12.2.2.1 f12.2.2.2 ⟨66, ?_⟩
  refine xm_27 (L := L) (f := 65) (tr := sb_x Xscript L Xpattern n g d.2.2.1.2.1.2.1 d.2.2.1.2.1.2.2.1 (Xeverywhere k) 65 0 [] 0) hn hk s6 f12.1 f12.2.2.1 f12.2.2.2 (by omega) s2 s3 s4 ?_ ?_ ?_ 0 [] 0 Xresult (by omega) (by omega) (by omega) (Nat.zero_le _) (rl_0 _) rfl
  · intro z rl res
    exact h (-1) n Xpattern Xsubstituted rl res (by rw [if_pos z])
  · intro z w rl res
    exact h 3 n Xpattern Xsubstituted rl res (by rw [if_neg z, if_pos w])
  · intro z w rl res
    exact h (-1) _ _ 1 rl res (by rw [if_neg z, if_neg w])
theorem xm_swap {post : SX → Prop} (h : post (Xquiet, Xfuel, XscriptSize, XinputSize, Xcursor, XitemCount, XtablePresent, XcommandCount, XoutputSize, XholdSize, XpatternSize, XlineNumber, XstepCount, XnextLine, Xpointer, Xsubstituted, XresultSize, Xscript, Xinput, Xitems, Xverb, Xnegated, Xeverywhere, XlabelStart, XlabelSize, Xtarget, XreplacementStart, XreplacementEnd, Xreplacement, Xaddress, XstartAnchor, XendAnchor, XatomCount, XatomChar, XatomStarred, Xoutput, cp_y Xhold 0 Xpattern 0 64, cp_y Xpattern 0 Xhold 0 64, XactivationLine, Xresult)) : wpX_swapSpaces post (Xquiet, Xfuel, XscriptSize, XinputSize, Xcursor, XitemCount, XtablePresent, XcommandCount, XoutputSize, XpatternSize, XholdSize, XlineNumber, XstepCount, XnextLine, Xpointer, Xsubstituted, XresultSize, Xscript, Xinput, Xitems, Xverb, Xnegated, Xeverywhere, XlabelStart, XlabelSize, Xtarget, XreplacementStart, XreplacementEnd, Xreplacement, Xaddress, XstartAnchor, XendAnchor, XatomCount, XatomChar, XatomStarred, Xoutput, Xpattern, Xhold, XactivationLine, Xresult) := by
  unfold wpX_swapSpaces
  have loop : ∀ f x, 64 - x < f → x ≤ 64 → wX_swapSpaces_2 post Xquiet Xfuel XscriptSize XinputSize Xcursor XitemCount XtablePresent XcommandCount XoutputSize XpatternSize XholdSize XlineNumber XstepCount XnextLine Xpointer Xsubstituted XresultSize f (nI x) Xscript Xinput Xitems Xverb Xnegated Xeverywhere XlabelStart XlabelSize Xtarget XreplacementStart XreplacementEnd Xreplacement Xaddress XstartAnchor XendAnchor XatomCount XatomChar XatomStarred Xoutput (cp_y Xhold 0 Xpattern 0 x) (cp_y Xpattern 0 Xhold 0 x) XactivationLine Xresult := by
    intro f
    induction f with
    | zero => intro x h; exact absurd h (Nat.not_lt_zero _)
    | succ f ih =>
    intro x hf hx
    have vi : x < 64 → vp_in (nI x) 64 := fun w => vp_in_nI w (by omega)
    refine pk_le 64 x (fun w => ?_) (fun w => ⟨vi w, nm_e ⟨vi w, vi w, nm_e ⟨vi w, nm_e (nm_r (nI_1 x) ?_)⟩⟩⟩)
    · rw [show x = 64 by omega]; exact h
    · rw [nI_clamp (by omega)]
      have p1 : cp_y Xhold 0 Xpattern 0 x x = Xpattern x := by unfold cp_y; rw [if_neg (by omega)]
      have p2 : cp_y Xpattern 0 Xhold 0 x x = Xhold x := by unfold cp_y; rw [if_neg (by omega)]
      have e := cp_s Xhold 0 Xpattern 0 x
      have e' := cp_s Xpattern 0 Xhold 0 x
      rw [Nat.zero_add] at e e'
      rw [p1, p2, e, e']
      exact ih (x + 1) (by omega) (by omega)
  have := loop 65 0 (by omega) (by omega)
  rw [cp_0, cp_0] at this
  exact ⟨_, this⟩
theorem xm_N {I o n m q : Nat} {Mhold Mac : Nat → Int32} {Mh Mst : Nat} {Mt : Int32} {post : Int32 → SX → Prop} (hI : I ≤ 128) (ho : o ≤ 256) (hn : n ≤ 64) (hm : m ≤ 128) (hq : q ≤ I + 1)
    (h : ∀ r out' o' pat' n' m' q', rn_N Xinput I Xquiet (Xoutput, o, Xpattern, n, Mhold, Mh, m, q, Mst, Mt, Mac) = (r, (out', o', pat', n', Mhold, Mh, m', q', Mst, Mt, Mac)) → post r (Xquiet, Xfuel, XscriptSize, nI I, Xcursor, XitemCount, XtablePresent, XcommandCount, nI o', nI n', XholdSize, nI m', XstepCount, nI q', Xpointer, Xsubstituted, XresultSize, Xscript, Xinput, Xitems, Xverb, Xnegated, Xeverywhere, XlabelStart, XlabelSize, Xtarget, XreplacementStart, XreplacementEnd, Xreplacement, Xaddress, XstartAnchor, XendAnchor, XatomCount, XatomChar, XatomStarred, out', pat', Xhold, XactivationLine, Xresult)) :
    wpX_joinNextLine post (Xquiet, Xfuel, XscriptSize, nI I, Xcursor, XitemCount, XtablePresent, XcommandCount, nI o, nI n, XholdSize, nI m, XstepCount, nI q, Xpointer, Xsubstituted, XresultSize, Xscript, Xinput, Xitems, Xverb, Xnegated, Xeverywhere, XlabelStart, XlabelSize, Xtarget, XreplacementStart, XreplacementEnd, Xreplacement, Xaddress, XstartAnchor, XendAnchor, XatomCount, XatomChar, XatomStarred, Xoutput, Xpattern, Xhold, XactivationLine, Xresult) := by
  unfold rn_N at h
  dsimp only at h
  unfold wpX_joinNextLine
  refine xm_allRead hI hq ?_
  by_cases w : I ≤ q
  · rw [decide_eq_true w]
    rw [if_pos w] at h
    refine br_f (by decide) (br_c (fun q0 => ?_) (fun q0 => ?_))
    · rw [if_pos q0] at h
      unfold rn_print at h
      dsimp only at h
      refine xm_print ho hn (fun y => br_t rfl ?_) (fun y => br_f (by decide) ?_)
      · rw [if_neg y] at h
        exact h 0 _ _ _ _ _ _ rfl
      · rw [if_pos y] at h
        exact h 3 _ _ _ _ _ _ rfl
    · rw [if_neg q0] at h
      exact h 0 _ _ _ _ _ _ rfl
  · rw [decide_eq_false w]
    rw [if_neg w] at h
    refine br_t rfl ?_
    rw [nI_1]
    refine xm_readLine hI (by omega) (by omega) hm (fun y => br_t rfl ⟨pk_in n 64 (by omega), nm_e ?_⟩) (fun y => br_f (by decide) ?_)
    · rw [if_neg y] at h
      rw [nI_clamp (by omega)]
      exact h (-1) _ _ _ _ _ _ rfl
    · rw [if_pos y] at h
      exact h 3 _ _ _ _ _ _ rfl
theorem xm_act {L I F k Mo Mp Mh Mm Mq Mst : Nat} {tg : Nat → Nat} {d : cm_T} {Mout Mpat Mhold Mac : Nat → Int32} {Mt : Int32} {post : Int32 → SX → Prop} (hL : L ≤ 128) (hI : I ≤ 128) (hk : k < 16) (hrp : d.2.2.1.2.1.2.1 + d.2.2.1.2.1.2.2.1 ≤ L) (hX : tb_X Xscript L Xverb Xnegated Xeverywhere XlabelStart XlabelSize XreplacementStart XreplacementEnd Xreplacement Xaddress XstartAnchor XendAnchor XatomCount XatomChar XatomStarred k d) (htg : (d.2.1 = 98 ∨ d.2.1 = 116) → Xtarget k = nI (tg k)) (hok : rn_ok Xinput I F (Mout, Mo, Mpat, Mp, Mhold, Mh, Mm, Mq, Mst, Mt, Mac))
    (h : ∀ r k' Moutp Mop Mpatp Mpp Mholdp Mhp Mmp Mqp Mstp Mtp Macp pt rl res, rn_act Xscript Xinput L I Xquiet tg d k (Mout, Mo, Mpat, Mp, Mhold, Mh, Mm, Mq, Mst, Mt, Mac) = (r, k', (Moutp, Mop, Mpatp, Mpp, Mholdp, Mhp, Mmp, Mqp, Mstp, Mtp, Macp)) → (r = -1 → pt = nI k') → post r (Xquiet, Xfuel, XscriptSize, nI I, Xcursor, XitemCount, XtablePresent, XcommandCount, nI Mop, nI Mpp, nI Mhp, nI Mmp, nI Mstp, nI Mqp, pt, Mtp, rl, Xscript, Xinput, Xitems, Xverb, Xnegated, Xeverywhere, XlabelStart, XlabelSize, Xtarget, XreplacementStart, XreplacementEnd, Xreplacement, Xaddress, XstartAnchor, XendAnchor, XatomCount, XatomChar, XatomStarred, Moutp, Mpatp, Mholdp, Macp, res)) :
    wpX_act post (Xquiet, Xfuel, XscriptSize, nI I, Xcursor, XitemCount, XtablePresent, XcommandCount, nI Mo, nI Mp, nI Mh, nI Mm, nI Mst, nI Mq, nI (k + 1), Mt, XresultSize, Xscript, Xinput, Xitems, Xverb, Xnegated, Xeverywhere, XlabelStart, XlabelSize, Xtarget, XreplacementStart, XreplacementEnd, Xreplacement, Xaddress, XstartAnchor, XendAnchor, XatomCount, XatomChar, XatomStarred, Mout, Mpat, Mhold, Mac, Xresult) (nI k) := by
  obtain ⟨h1, h2, h3, h4, h5, h6⟩ := hok
  have hm := ln_le h5
  have hkl := ln_kle Xinput I
  have hq : Mq ≤ I + 1 := by
    rcases h5 with ⟨y, _⟩ | ⟨y, _⟩ <;> omega
  have vk : vp_in (nI k) 16 := pk_in k 16 hk
  unfold rn_act at h
  dsimp only at h
  unfold wpX_act
  refine ⟨vk, ?_⟩
  rw [nI_clamp (by omega), hX.1]
  refine nm_e ?_
  refine br_c (fun c => ?_) (fun c71 => ?_)
  · rw [if_neg (by rw [c]; decide), if_neg (by rw [c]; decide), if_neg (by rw [c]; decide), if_neg (by rw [c]; decide), if_neg (by rw [c]; decide), if_neg (by rw [c]; decide), if_neg (by rw [c]; decide), if_pos c] at h
    unfold wpX_joinToPattern
    refine pk_le (Mp + 1 + Mh) 64 (fun w => ⟨pk_in Mp 64 (by omega), nm_e ?_⟩) (fun w => ?_) (hx := by rw [nI_1, nI_add])
    · rw [if_neg (by omega)] at h
      rw [nI_clamp (by omega), nI_1]
      refine xm_cp_hold_pattern (a := 0) (by omega) (by omega) (nm_r (show nI Mp + (1 + nI Mh) = nI (Mp + 1 + Mh) by rw [show (1 : Int32) + nI Mh = nI (1 + Mh) from nI_add 1 Mh, nI_add, Nat.add_assoc]) ?_)
      exact h (-1) (k + 1) _ _ _ _ _ _ _ _ _ _ _ _ _ _ rfl (fun _ => rfl)
    · rw [if_pos w] at h
      exact h (3) (k + 1) _ _ _ _ _ _ _ _ _ _ _ _ _ _ rfl (fun y => absurd y (by decide))
  refine br_c (fun c => ?_) (fun c72 => ?_)
  · rw [if_neg (by rw [c]; decide), if_neg (by rw [c]; decide), if_neg (by rw [c]; decide), if_neg (by rw [c]; decide), if_neg (by rw [c]; decide), if_neg (by rw [c]; decide), if_pos c] at h
    unfold wpX_joinToHold
    refine pk_le (Mh + 1 + Mp) 64 (fun w => ⟨pk_in Mh 64 (by omega), nm_e ?_⟩) (fun w => ?_) (hx := by rw [nI_1, nI_add])
    · rw [if_neg (by omega)] at h
      rw [nI_clamp (by omega), nI_1]
      refine xm_cp_pattern_hold (a := 0) (by omega) (by omega) (nm_r (show nI Mh + (1 + nI Mp) = nI (Mh + 1 + Mp) by rw [show (1 : Int32) + nI Mp = nI (1 + Mp) from nI_add 1 Mp, nI_add, Nat.add_assoc]) ?_)
      exact h (-1) (k + 1) _ _ _ _ _ _ _ _ _ _ _ _ _ _ rfl (fun _ => rfl)
    · rw [if_pos w] at h
      exact h (3) (k + 1) _ _ _ _ _ _ _ _ _ _ _ _ _ _ rfl (fun y => absurd y (by decide))
  refine br_c (fun c => ?_) (fun c78 => ?_)
  · rw [if_neg (by rw [c]; decide), if_neg (by rw [c]; decide), if_neg (by rw [c]; decide), if_pos c] at h
    refine xm_N (Mhold := Mhold) (Mh := Mh) (Mst := Mst) (Mt := Mt) (Mac := Mac) hI h1 h2 (by omega) hq (fun r out' o' pat' n' m' q' hr => ?_)
    rw [hr] at h
    exact h r (k + 1) _ _ _ _ _ _ _ _ _ _ _ _ _ _ rfl (fun _ => rfl)
  refine br_c (fun c => ⟨vk, ?_⟩) (fun c98 => ?_)
  · rw [if_neg (by rw [c]; decide), if_neg (by rw [c]; decide), if_neg (by rw [c]; decide), if_neg (by rw [c]; decide), if_neg (by rw [c]; decide), if_neg (by rw [c]; decide), if_neg (by rw [c]; decide), if_neg (by rw [c]; decide), if_neg (by rw [c]; decide), if_pos c] at h
    rw [htg (Or.inl c)]
    exact nm_e (h (-1) (tg k) _ _ _ _ _ _ _ _ _ _ _ _ _ _ rfl (fun _ => rfl))
  refine br_c (fun c => ?_) (fun c100 => ?_)
  · rw [if_neg (by rw [c]; decide), if_pos c] at h
    exact h (-2) (k + 1) _ _ _ 0 _ _ _ _ _ _ _ _ _ _ rfl (fun y => absurd y (by decide))
  refine br_c (fun c => ?_) (fun c103 => ?_)
  · rw [if_neg (by rw [c]; decide), if_neg (by rw [c]; decide), if_neg (by rw [c]; decide), if_neg (by rw [c]; decide), if_neg (by rw [c]; decide), if_pos c] at h
    exact xm_cp_hold_pattern (a := 0) (b := 0) (by omega) (by omega) (h (-1) (k + 1) _ _ _ _ _ _ _ _ _ _ _ _ _ _ rfl (fun _ => rfl))
  refine br_c (fun c => ?_) (fun c104 => ?_)
  · rw [if_neg (by rw [c]; decide), if_neg (by rw [c]; decide), if_neg (by rw [c]; decide), if_neg (by rw [c]; decide), if_pos c] at h
    exact xm_cp_pattern_hold (a := 0) (b := 0) (by omega) (by omega) (h (-1) (k + 1) _ _ _ _ _ _ _ _ _ _ _ _ _ _ rfl (fun _ => rfl))
  refine br_c (fun c => ?_) (fun c112 => ?_)
  · rw [if_neg (by rw [c]; decide), if_neg (by rw [c]; decide), if_pos c] at h
    unfold rn_print at h
    dsimp only at h
    refine xm_print h1 h2 (fun y => ?_) (fun y => ?_)
    · rw [if_neg y] at h
      exact h (-1) (k + 1) _ _ _ _ _ _ _ _ _ _ _ _ _ _ rfl (fun _ => rfl)
    · rw [if_pos y] at h
      exact h (3) (k + 1) _ _ _ _ _ _ _ _ _ _ _ _ _ _ rfl (fun y => absurd y (by decide))
  refine br_c (fun c => ?_) (fun c115 => ?_)
  · rw [if_pos c] at h
    refine xm_subst (Mout := Mout) (Mo := Mo) (Mhold := Mhold) (Mh := Mh) (Mm := Mm) (Mq := Mq) (Mst := Mst) (Mac := Mac) hL h2 hk c hX hrp (fun r n' pat' t' rl res hr => ?_)
    rw [hr] at h
    exact h r (k + 1) _ _ _ _ _ _ _ _ _ _ _ _ rl res rfl (fun _ => rfl)
  refine br_c (fun c => ?_) (fun c116 => ?_)
  · rw [if_neg (by rw [c]; decide), if_neg (by rw [c]; decide), if_neg (by rw [c]; decide), if_neg (by rw [c]; decide), if_neg (by rw [c]; decide), if_neg (by rw [c]; decide), if_neg (by rw [c]; decide), if_neg (by rw [c]; decide), if_neg (by rw [c]; decide), if_neg (by rw [c]; decide), if_pos c] at h
    refine br_c (fun t0 => ?_) (fun t0 => ⟨vk, ?_⟩)
    · rw [if_pos t0] at h
      exact h (-1) (k + 1) _ _ _ _ _ _ _ _ _ _ _ _ _ _ rfl (fun _ => rfl)
    · rw [if_neg t0] at h
      rw [htg (Or.inr c)]
      exact nm_e (h (-1) (tg k) _ _ _ _ _ _ _ _ _ _ _ _ _ _ rfl (fun _ => rfl))
  refine br_c (fun c => ?_) (fun c120 => ?_)
  · rw [if_neg (by rw [c]; decide), if_neg (by rw [c]; decide), if_neg (by rw [c]; decide), if_neg (by rw [c]; decide), if_neg (by rw [c]; decide), if_neg (by rw [c]; decide), if_neg (by rw [c]; decide), if_neg (by rw [c]; decide), if_pos c] at h
    exact xm_swap (h (-1) (k + 1) _ _ _ _ _ _ _ _ _ _ _ _ _ _ rfl (fun _ => rfl))
  · rw [if_neg c115, if_neg c100, if_neg c112, if_neg c78, if_neg c104, if_neg c103, if_neg c72, if_neg c71, if_neg c120, if_neg c98, if_neg c116] at h
    exact h (-1) (k + 1) _ _ _ _ _ _ _ _ _ _ _ _ _ _ rfl (fun _ => rfl)
theorem xm_step {L I F k Mo Mp Mh Mm Mq Mst : Nat} {tg : Nat → Nat} {D : Nat → cm_T} {Mout Mpat Mhold Mac : Nat → Int32} {Mt : Int32} {post : Int32 → SX → Prop} (hL : L ≤ 128) (hI : I ≤ 128) (hF : F ≤ 2048) (hk : k < 16) (hok' : cm_ok Xscript L (D k)) (hrp : (D k).2.2.1.2.1.2.1 + (D k).2.2.1.2.1.2.2.1 ≤ L) (hX : tb_X Xscript L Xverb Xnegated Xeverywhere XlabelStart XlabelSize XreplacementStart XreplacementEnd Xreplacement Xaddress XstartAnchor XendAnchor XatomCount XatomChar XatomStarred k (D k)) (htg : ((D k).2.1 = 98 ∨ (D k).2.1 = 116) → Xtarget k = nI (tg k)) (hok : rn_ok Xinput I F (Mout, Mo, Mpat, Mp, Mhold, Mh, Mm, Mq, Mst, Mt, Mac)) (hm1 : 1 ≤ Mm)
    (h : ∀ r k' Moutp Mop Mpatp Mpp Mholdp Mhp Mmp Mqp Mstp Mtp Macp pt rl res, rn_step Xscript Xinput L I F Xquiet tg D k (Mout, Mo, Mpat, Mp, Mhold, Mh, Mm, Mq, Mst, Mt, Mac) = (r, k', (Moutp, Mop, Mpatp, Mpp, Mholdp, Mhp, Mmp, Mqp, Mstp, Mtp, Macp)) → (r = -1 → pt = nI k') → post r (Xquiet, nI F, XscriptSize, nI I, Xcursor, XitemCount, XtablePresent, XcommandCount, nI Mop, nI Mpp, nI Mhp, nI Mmp, nI Mstp, nI Mqp, pt, Mtp, rl, Xscript, Xinput, Xitems, Xverb, Xnegated, Xeverywhere, XlabelStart, XlabelSize, Xtarget, XreplacementStart, XreplacementEnd, Xreplacement, Xaddress, XstartAnchor, XendAnchor, XatomCount, XatomChar, XatomStarred, Moutp, Mpatp, Mholdp, Macp, res)) :
    wpX_step post (Xquiet, nI F, XscriptSize, nI I, Xcursor, XitemCount, XtablePresent, XcommandCount, nI Mo, nI Mp, nI Mh, nI Mm, nI Mst, nI Mq, nI k, Mt, XresultSize, Xscript, Xinput, Xitems, Xverb, Xnegated, Xeverywhere, XlabelStart, XlabelSize, Xtarget, XreplacementStart, XreplacementEnd, Xreplacement, Xaddress, XstartAnchor, XendAnchor, XatomCount, XatomChar, XatomStarred, Mout, Mpat, Mhold, Mac, Xresult) := by
  have hok0 := hok
  obtain ⟨h1, h2, h3, h4, h5, h6⟩ := hok
  have hm := ln_le h5
  have hkl := ln_kle Xinput I
  have hq : Mq ≤ I + 1 := by
    rcases h5 with ⟨y, _⟩ | ⟨y, _⟩ <;> omega
  have vk : vp_in (nI k) 16 := pk_in k 16 hk
  have cok := hok'
  obtain ⟨o1, o2, o3, o4, o5, o6, o7⟩ := hok'
  have hX0 := hX
  obtain ⟨x1, x2, x3, x4, x5, x6⟩ := hX
  unfold wpX_step
  refine pk_lt Mst F (fun w => nm_r (nI_1 Mst) (nm_r (pk_mul k 3) ?_)) (fun w => ?_)
  · have h66 : ∀ b ac, rn_sel Xscript L I (D k) k (Mout, Mo, Mpat, Mp, Mhold, Mh, Mm, Mq, Mst + 1, Mt, Mac) = ((b != decide ((D k).1.2.2.2.1 = 1)), ac) → wX_step_66 post (nI k) (b2_i b) Xquiet (nI F) XscriptSize (nI I) Xcursor XitemCount XtablePresent XcommandCount (nI Mo) (nI Mp) (nI Mh) (nI Mm) (nI (Mst + 1)) (nI Mq) (nI k) Mt XresultSize Xscript Xinput Xitems Xverb Xnegated Xeverywhere XlabelStart XlabelSize Xtarget XreplacementStart XreplacementEnd Xreplacement Xaddress XstartAnchor XendAnchor XatomCount XatomChar XatomStarred Mout Mpat Mhold ac Xresult := by
      intro b ac hs
      refine nm_r (nI_1 k) ⟨vk, ?_⟩
      rw [nI_clamp (by omega), x2]
      unfold rn_step at h
      dsimp only at h
      rw [if_neg (by omega), hs] at h
      dsimp only at h
      refine br_c (fun e => ?_) (fun e => ?_)
      · have sf : (b != decide ((D k).1.2.2.2.1 = 1)) = false := by
          rw [← e]; cases b <;> rfl
        rw [sf, if_neg (by decide)] at h
        exact h (-1) (k + 1) _ _ _ _ _ _ _ _ _ _ _ _ _ _ rfl (fun _ => rfl)
      · have st : (b != decide ((D k).1.2.2.2.1 = 1)) = true := by
          rcases o2 with z | z
          · rw [z] at e ⊢; cases b
            · exact absurd rfl e
            · rfl
          · rw [z] at e ⊢; cases b
            · rfl
            · exact absurd rfl e
        rw [st, if_pos rfl] at h
        exact xm_act (F := F) hL hI hk hrp hX0 htg ⟨h1, h2, h3, by omega, h5, h6⟩ (fun r k' Moutp Mop Mpatp Mpp Mholdp Mhp Mmp Mqp Mstp Mtp Macp pt rl res hr hp => h r k' Moutp Mop Mpatp Mpp Mholdp Mhp Mmp Mqp Mstp Mtp Macp pt rl res hr hp)
    rw [nI_1]
    refine ⟨vp_in_nI (by omega) (by omega), ?_⟩
    rw [nI_clamp (by omega)]
    have single : ¬ (D k).1.1 = 2 → wX_step_48 post (nI k) (nI (k * 3)) 0 Xquiet (nI F) XscriptSize (nI I) Xcursor XitemCount XtablePresent XcommandCount (nI Mo) (nI Mp) (nI Mh) (nI Mm) (nI (Mst + 1)) (nI Mq) (nI k) Mt XresultSize Xscript Xinput Xitems Xverb Xnegated Xeverywhere XlabelStart XlabelSize Xtarget XreplacementStart XreplacementEnd Xreplacement Xaddress XstartAnchor XendAnchor XatomCount XatomChar XatomStarred Mout Mpat Mhold Mac Xresult := by
      intro n2
      refine br_t rfl ?_
      refine xm_holds (Mout := Mout) (Mo := Mo) (Mhold := Mhold) (Mh := Mh) (Mst := Mst + 1) (Mt := Mt) (Mac := Mac) hL hI (by omega) h2 (by omega) hq x3 (fun k0 => ?_) (fun k0 => ?_)
      · have e0 : (D k).1.1 = 0 := by
          rcases Nat.eq_zero_or_pos (D k).1.1 with z | z
          · exact z
          · exact absurd k0 (o3 (by omega)).2.1
        refine h66 true Mac ?_
        unfold rn_sel
        dsimp only
        rw [if_pos e0, (o6 e0).2]
        rfl
      · have e1 : (D k).1.1 = 1 := by
          rcases Nat.eq_zero_or_pos (D k).1.1 with z | z
          · exact absurd (o6 z).1 k0
          · omega
        refine h66 _ Mac ?_
        unfold rn_sel
        dsimp only
        rw [if_neg (by omega), if_pos e1]
    by_cases e2 : (D k).1.1 = 2
    · have na : ¬ Xaddress (k * 3 + 1) = 0 := by
        rcases x4 with ⟨y, _⟩ | ⟨_, y1, p, p1, p2, y2⟩ | ⟨_, y1⟩ | ⟨_, y1, _⟩
        · exact absurd y (o4 e2).2.1
        · rw [y1, y2]; exact nI_ne0 (by omega) (by omega)
        · rw [y1]; decide
        · rw [y1]; decide
      refine br_f na (br_f (by decide) ?_)
      exact xm_range (Mout := Mout) (Mo := Mo) (Mhold := Mhold) (Mh := Mh) (Mst := Mst + 1) (Mt := Mt) hL hI hk h2 hm1 (by omega) hq cok e2 x3 x4 (fun b ac hs => h66 b ac hs)
    · have na : Xaddress (k * 3 + 1) = 0 := by
        rcases x4 with ⟨_, y⟩ | ⟨y, _⟩ | ⟨y, _⟩ | ⟨y, _⟩
        · exact y
        · rw [o7 e2] at y; exact absurd y (by decide)
        · rw [o7 e2] at y; exact absurd y (by decide)
        · rw [o7 e2] at y; exact absurd y (by decide)
      exact br_t na (single e2)
  · exact h 2 k Mout Mo Mpat Mp Mhold Mh Mm Mq Mst Mt Mac _ _ _ (by unfold rn_step; dsimp only; rw [if_pos (by omega)]) (fun y => absurd y (by decide))
end XO_1
end
section
/-! X: the run -/
section XQ_1
variable {Xquiet Xfuel XscriptSize XinputSize Xcursor XitemCount XtablePresent XcommandCount XoutputSize XpatternSize XholdSize XlineNumber XstepCount XnextLine Xpointer Xsubstituted XresultSize : Int32} {Xscript Xinput Xitems Xverb Xnegated Xeverywhere XlabelStart XlabelSize Xtarget XreplacementStart XreplacementEnd Xreplacement Xaddress XstartAnchor XendAnchor XatomCount XatomChar XatomStarred Xoutput Xpattern Xhold XactivationLine Xresult : Nat → Int32}
theorem ln_1 {s : Nat → Int32} {L m q : Nat} (h : ln_I s L m q) (hq : 1 ≤ q) : 1 ≤ m := by
  rcases h with ⟨h1, h2, h3⟩ | ⟨h1, h2, h3, h4⟩
  · rcases h3 with y | y
    · omega
    · obtain ⟨x, rfl⟩ : ∃ x, q = x + 1 := ⟨q - 1, by omega⟩
      rw [Nat.add_sub_cancel] at y
      rw [ln_c, if_pos y] at h2
      omega
  · omega
theorem ln_str {s : Nat → Int32} {L m q m' q' : Nat} (h : ln_I s L m q) (h' : ln_I s L m' q') (hq : q < q') : m < m' := by
  rcases h with ⟨a1, a2, a3⟩ | ⟨a1, a2, a3, a4⟩
  · rcases h' with ⟨b1, b2, b3⟩ | ⟨b1, b2, b3, b4⟩
    · rcases b3 with y | y
      · omega
      · obtain ⟨x, rfl⟩ : ∃ x, q' = x + 1 := ⟨q' - 1, by omega⟩
        rw [Nat.add_sub_cancel] at y
        rw [ln_c, if_pos y] at b2
        have := ln_mono s (show q ≤ x by omega)
        omega
    · have := ln_mono s a1
      omega
  · rcases h' with ⟨b1, _⟩ | ⟨b1, _⟩ <;> omega
theorem xm_71 {c I Mo Mp : Nat} {r : Int32} {Mout Mpat Mhold Mac : Nat → Int32} {Mh Mm Mq Mst : Nat} {Mt : Int32} {G : Nat} {post : Int32 → SX → Prop} (h1 : Mo ≤ 256) (h2 : Mp ≤ 64)
    (h : ∀ r' Moutp Mop Mpatp Mpp Mholdp Mhp Mmp Mqp Mstp Mtp Macp, rn_end Xquiet r (Mout, Mo, Mpat, Mp, Mhold, Mh, Mm, Mq, Mst, Mt, Mac) = (r', (Moutp, Mop, Mpatp, Mpp, Mholdp, Mhp, Mmp, Mqp, Mstp, Mtp, Macp)) → wX_run_17 post G r' (nI (c + 1)) Xquiet Xfuel XscriptSize (nI I) Xcursor XitemCount XtablePresent XcommandCount (nI Mop) (nI Mpp) (nI Mhp) (nI Mmp) (nI Mstp) (nI Mqp) Xpointer Mtp XresultSize Xscript Xinput Xitems Xverb Xnegated Xeverywhere XlabelStart XlabelSize Xtarget XreplacementStart XreplacementEnd Xreplacement Xaddress XstartAnchor XendAnchor XatomCount XatomChar XatomStarred Moutp Mpatp Mholdp Macp Xresult) : wX_run_71 post (wX_run_17 post G) r (nI c) Xquiet Xfuel XscriptSize (nI I) Xcursor XitemCount XtablePresent XcommandCount (nI Mo) (nI Mp) (nI Mh) (nI Mm) (nI Mst) (nI Mq) Xpointer Mt XresultSize Xscript Xinput Xitems Xverb Xnegated Xeverywhere XlabelStart XlabelSize Xtarget XreplacementStart XreplacementEnd Xreplacement Xaddress XstartAnchor XendAnchor XatomCount XatomChar XatomStarred Mout Mpat Mhold Mac Xresult := by
  unfold rn_end at h
  have h91 : (r = -1 → ¬ Xquiet = 0) → wX_run_91 post (wX_run_17 post G) r (nI c) Xquiet Xfuel XscriptSize (nI I) Xcursor XitemCount XtablePresent XcommandCount (nI Mo) (nI Mp) (nI Mh) (nI Mm) (nI Mst) (nI Mq) Xpointer Mt XresultSize Xscript Xinput Xitems Xverb Xnegated Xeverywhere XlabelStart XlabelSize Xtarget XreplacementStart XreplacementEnd Xreplacement Xaddress XstartAnchor XendAnchor XatomCount XatomChar XatomStarred Mout Mpat Mhold Mac Xresult := by
    intro hq
    refine br_c (fun e => nm_r (nI_1 c) ?_) (fun e => nm_r (nI_1 c) ?_)
    · rw [if_neg (by rw [e]; decide), if_pos e] at h
      exact h _ _ _ _ _ _ _ _ _ _ _ _ rfl
    · by_cases e1 : r = -1
      · rw [if_pos e1, if_neg (hq e1)] at h
        rw [e1]
        exact h _ _ _ _ _ _ _ _ _ _ _ _ rfl
      · rw [if_neg e1, if_neg e] at h
        exact h _ _ _ _ _ _ _ _ _ _ _ _ rfl
  refine br_c (fun e => br_c (fun q0 => ?_) (fun q0 => h91 (fun _ => q0))) (fun e => h91 (fun y => absurd y e))
  rw [if_pos e, if_pos q0] at h
  unfold rn_print at h
  dsimp only at h
  refine xm_print h1 h2 (fun y => nm_r (nI_1 c) ?_) (fun y => nm_r (nI_1 c) ?_)
  · rw [if_neg y] at h
    exact h _ _ _ _ _ _ _ _ _ _ _ _ rfl
  · rw [if_pos y] at h
    exact h _ _ _ _ _ _ _ _ _ _ _ _ rfl
theorem xm_36 {L I F n : Nat} {tg : Nat → Nat} {D : Nat → cm_T} {c : Int32} {J : Nat} {post : Int32 → SX → Prop} (hL : L ≤ 128) (hI : I ≤ 128) (hF : F ≤ 2048) (hn : n ≤ 16) (hD : ∀ k, k < n → cm_ok Xscript L (D k) ∧ (D k).2.2.1.2.1.2.1 + (D k).2.2.1.2.1.2.2.1 ≤ L ∧ tb_X Xscript L Xverb Xnegated Xeverywhere XlabelStart XlabelSize XreplacementStart XreplacementEnd Xreplacement Xaddress XstartAnchor XendAnchor XatomCount XatomChar XatomStarred k (D k) ∧ (((D k).2.1 = 98 ∨ (D k).2.1 = 116) → Xtarget k = nI (tg k))) (ht : ∀ k, k < n → tg k ≤ n) :
    ∀ g k rd Mout Mo Mpat Mp Mhold Mh Mm Mq Mst Mt Mac rl res, rn_ok Xinput I F (Mout, Mo, Mpat, Mp, Mhold, Mh, Mm, Mq, Mst, Mt, Mac) → 1 ≤ Mq → F + 1 - Mst ≤ g → rd ≤ Mst → k ≤ n → (∀ r Moutp Mop Mpatp Mpp Mholdp Mhp Mmp Mqp Mstp Mtp Macp pt rl res, rn_in Xscript Xinput L I F n Xquiet tg D g k (Mout, Mo, Mpat, Mp, Mhold, Mh, Mm, Mq, Mst, Mt, Mac) = (r, (Moutp, Mop, Mpatp, Mpp, Mholdp, Mhp, Mmp, Mqp, Mstp, Mtp, Macp)) → wX_run_71 post (wX_run_17 post J) r c Xquiet (nI F) XscriptSize (nI I) Xcursor XitemCount XtablePresent (nI n) (nI Mop) (nI Mpp) (nI Mhp) (nI Mmp) (nI Mstp) (nI Mqp) pt Mtp rl Xscript Xinput Xitems Xverb Xnegated Xeverywhere XlabelStart XlabelSize Xtarget XreplacementStart XreplacementEnd Xreplacement Xaddress XstartAnchor XendAnchor XatomCount XatomChar XatomStarred Moutp Mpatp Mholdp Macp res) → wX_run_36 post (wX_run_17 post J) c (g + 1) (-1) (nI rd) Xquiet (nI F) XscriptSize (nI I) Xcursor XitemCount XtablePresent (nI n) (nI Mo) (nI Mp) (nI Mh) (nI Mm) (nI Mst) (nI Mq) (nI k) Mt rl Xscript Xinput Xitems Xverb Xnegated Xeverywhere XlabelStart XlabelSize Xtarget XreplacementStart XreplacementEnd Xreplacement Xaddress XstartAnchor XendAnchor XatomCount XatomChar XatomStarred Mout Mpat Mhold Mac res := by
  intro g
  induction g with
  | zero => intro k rd Mout Mo Mpat Mp Mhold Mh Mm Mq Mst Mt Mac rl res hok hq hg; have := hok.2.2.2.1; omega
  | succ g ih =>
  intro k rd Mout Mo Mpat Mp Mhold Mh Mm Mq Mst Mt Mac rl res hok hq hg hrd hk h
  have h4 := hok.2.2.2.1
  rw [rn_in] at h
  refine br_f (nI_nlt (show rd ≤ F by omega) (by omega)) (br_t rfl (pk_le n k (fun w => ?_) (fun w => ?_)))
  · rw [if_pos w] at h
    exact h _ _ _ _ _ _ _ _ _ _ _ _ _ _ _ rfl
  · rw [if_neg (by omega)] at h
    obtain ⟨d1, d2, d3, d4⟩ := hD k w
    have hm1 := ln_1 hok.2.2.2.2.1 hq
    obtain ⟨s1, s2, s3⟩ := rn_step_ok (s := Xscript) (L := L) (qt := Xquiet) (tg := tg) (D := D) hok w (ht k w)
    refine xm_step hL hI hF (by omega) d1 d2 d3 d4 hok hm1 ?_
    intro r k' Moutp Mop Mpatp Mpp Mholdp Mhp Mmp Mqp Mstp Mtp Macp pt rl' res' hr hp
    rw [hr] at h s1 s2 s3
    dsimp only at h s1 s2 s3
    refine nm_r (nI_1 rd) ?_
    by_cases e : r = -1
    · rw [if_pos e] at h
      obtain ⟨t1, t2⟩ := s2 e
      rw [e, hp e]
      exact ih k' (rd + 1) Moutp Mop Mpatp Mpp Mholdp Mhp Mmp Mqp Mstp Mtp Macp rl' res' s1 (by omega) (by omega) (by omega) t1 h
    · rw [if_neg e] at h
      have := h r Moutp Mop Mpatp Mpp Mholdp Mhp Mmp Mqp Mstp Mtp Macp pt rl' res' rfl
      exact br_c (fun _ => this) (fun _ => br_f e this)
theorem xm_17 {L I F n : Nat} {tg : Nat → Nat} {D : Nat → cm_T} {post : Int32 → SX → Prop} (hL : L ≤ 128) (hI : I ≤ 128) (hF : F ≤ 2048) (hn : n ≤ 16) (hD : ∀ k, k < n → cm_ok Xscript L (D k) ∧ (D k).2.2.1.2.1.2.1 + (D k).2.2.1.2.1.2.2.1 ≤ L ∧ tb_X Xscript L Xverb Xnegated Xeverywhere XlabelStart XlabelSize XreplacementStart XreplacementEnd Xreplacement Xaddress XstartAnchor XendAnchor XatomCount XatomChar XatomStarred k (D k) ∧ (((D k).2.1 = 98 ∨ (D k).2.1 = 116) → Xtarget k = nI (tg k))) (ht : ∀ k, k < n → tg k ≤ n) :
    ∀ g c Mout Mo Mpat Mp Mhold Mh Mm Mq Mst Mt Mac pt rl res, rn_ok Xinput I F (Mout, Mo, Mpat, Mp, Mhold, Mh, Mm, Mq, Mst, Mt, Mac) → I + 2 - Mq ≤ g → c ≤ Mm → (∀ r Moutp Mop Mpatp Mpp Mholdp Mhp Mmp Mqp Mstp Mtp Macp pt t rl res, rn_out Xscript Xinput L I F n Xquiet tg D g (Mout, Mo, Mpat, Mp, Mhold, Mh, Mm, Mq, Mst, Mt, Mac) = (r, (Moutp, Mop, Mpatp, Mpp, Mholdp, Mhp, Mmp, Mqp, Mstp, Mtp, Macp)) → post r (Xquiet, nI F, XscriptSize, nI I, Xcursor, XitemCount, XtablePresent, nI n, nI Mop, nI Mpp, nI Mhp, nI Mmp, nI Mstp, nI Mqp, pt, t, rl, Xscript, Xinput, Xitems, Xverb, Xnegated, Xeverywhere, XlabelStart, XlabelSize, Xtarget, XreplacementStart, XreplacementEnd, Xreplacement, Xaddress, XstartAnchor, XendAnchor, XatomCount, XatomChar, XatomStarred, Moutp, Mpatp, Mholdp, Macp, res)) → wX_run_17 post (g + 1) (-1) (nI c) Xquiet (nI F) XscriptSize (nI I) Xcursor XitemCount XtablePresent (nI n) (nI Mo) (nI Mp) (nI Mh) (nI Mm) (nI Mst) (nI Mq) pt Mt rl Xscript Xinput Xitems Xverb Xnegated Xeverywhere XlabelStart XlabelSize Xtarget XreplacementStart XreplacementEnd Xreplacement Xaddress XstartAnchor XendAnchor XatomCount XatomChar XatomStarred Mout Mpat Mhold Mac res := by
  intro g
  induction g with
  | zero =>
    intro c Mout Mo Mpat Mp Mhold Mh Mm Mq Mst Mt Mac pt rl res hok hg
    rcases hok.2.2.2.2.1 with ⟨y, _⟩ | ⟨y, _⟩ <;> omega
  | succ g ih =>
  intro c Mout Mo Mpat Mp Mhold Mh Mm Mq Mst Mt Mac pt rl res hok hg hc h
  have hok0 := hok
  obtain ⟨h1, h2, h3, h4, h5, h6⟩ := hok
  have hm := ln_le h5
  have hkl := ln_kle Xinput I
  have hq : Mq ≤ I + 1 := by
    rcases h5 with ⟨y, _⟩ | ⟨y, _⟩ <;> omega
  rw [rn_out] at h
  refine br_f (nI_nlt (a := 128) (by omega) (by decide)) (br_t rfl ?_)
  have stop : ∀ r, ¬ r = -1 → ¬ r = -2 → rn_cyc Xscript Xinput L I F n Xquiet tg D (Mout, Mo, Mpat, Mp, Mhold, Mh, Mm, Mq, Mst, Mt, Mac) = (r, (Mout, Mo, Mpat, Mp, Mhold, Mh, Mm, Mq, Mst, Mt, Mac)) → ∀ pt t rl res, ∃ f, wX_run_36 post (wX_run_17 post (g + 1)) (nI c) f r 0 Xquiet (nI F) XscriptSize (nI I) Xcursor XitemCount XtablePresent (nI n) (nI Mo) (nI Mp) (nI Mh) (nI Mm) (nI Mst) (nI Mq) pt t rl Xscript Xinput Xitems Xverb Xnegated Xeverywhere XlabelStart XlabelSize Xtarget XreplacementStart XreplacementEnd Xreplacement Xaddress XstartAnchor XendAnchor XatomCount XatomChar XatomStarred Mout Mpat Mhold Mac res := by
    intro r e1 e2 hcy pt t rl res
    refine ⟨1, ?_⟩
    rw [hcy] at h
    dsimp only at h
    rw [if_neg e1] at h
    have h71 : wX_run_71 post (wX_run_17 post (g + 1)) r (nI c) Xquiet (nI F) XscriptSize (nI I) Xcursor XitemCount XtablePresent (nI n) (nI Mo) (nI Mp) (nI Mh) (nI Mm) (nI Mst) (nI Mq) pt t rl Xscript Xinput Xitems Xverb Xnegated Xeverywhere XlabelStart XlabelSize Xtarget XreplacementStart XreplacementEnd Xreplacement Xaddress XstartAnchor XendAnchor XatomCount XatomChar XatomStarred Mout Mpat Mhold Mac res := by
      refine br_f e1 (br_f e2 (nm_r (nI_1 c) ?_))
      have := h r Mout Mo Mpat Mp Mhold Mh Mm Mq Mst Mt Mac pt t rl res rfl
      exact br_c (fun _ => this) (fun _ => br_f e1 this)
    exact br_c (fun _ => h71) (fun _ => br_f e1 h71)
  have hbeg : rn_beg Xinput I (Mout, Mo, Mpat, Mp, Mhold, Mh, Mm, Mq, Mst, Mt, Mac) = if I ≤ Mq then (0, (Mout, Mo, Mpat, Mp, Mhold, Mh, Mm, Mq, Mst, Mt, Mac)) else if 64 < ln_e Xinput I Mq - Mq then (3, (Mout, Mo, Mpat, Mp, Mhold, Mh, Mm, Mq, Mst, Mt, Mac)) else (-1, (Mout, Mo, cp_y Xinput Mq Mpat 0 (ln_e Xinput I Mq - Mq), ln_e Xinput I Mq - Mq, Mhold, Mh, Mm + 1, ln_e Xinput I Mq + 1, Mst, 0, Mac)) := rfl
  unfold wpX_startCycle
  refine xm_allRead hI hq ?_
  by_cases w : I ≤ Mq
  · rw [decide_eq_true w]
    rw [if_pos w] at hbeg
    refine br_f (by decide) ?_
    exact stop 0 (by decide) (by decide) (by unfold rn_cyc; rw [hbeg]; rfl) _ _ _ _
  · rw [decide_eq_false w]
    rw [if_neg w] at hbeg
    refine br_t rfl ?_
    have hb0 := rn_beg_ok hok0
    refine xm_readLine (b := 0) hI (by omega) (by omega) (by omega) (fun y => ?_) (fun y => ?_)
    · rw [Nat.zero_add] at y ⊢
      rw [if_neg y] at hbeg
      rw [hbeg] at hb0
      refine ⟨F + 3, ?_⟩
      refine xm_36 (g := F + 2) hL hI hF hn hD ht 0 0 Mout Mo _ _ Mhold Mh _ _ Mst 0 Mac _ _ hb0.1 (by omega) (by omega) (by omega) (by omega) (fun r Moutp Mop Mpatp Mpp Mholdp Mhp Mmp Mqp Mstp Mtp Macp pt' rl' res' hin => ?_)
      have hcy : rn_cyc Xscript Xinput L I F n Xquiet tg D (Mout, Mo, Mpat, Mp, Mhold, Mh, Mm, Mq, Mst, Mt, Mac) = rn_end Xquiet r (Moutp, Mop, Mpatp, Mpp, Mholdp, Mhp, Mmp, Mqp, Mstp, Mtp, Macp) := by
        unfold rn_cyc
        rw [hbeg]
        dsimp only
        rw [if_pos rfl, hin]
      have hio := rn_in_ok (s := Xscript) (L := L) (qt := Xquiet) (tg := tg) (D := D) ht (F + 2) 0 _ hb0.1
      rw [hin] at hio
      have hco := rn_cyc_ok (s := Xscript) (L := L) (qt := Xquiet) (tg := tg) (D := D) ht hok0
      refine xm_71 hio.1.1 hio.1.2.1 (fun r' Mout2 Mo2 Mpat2 Mp2 Mhold2 Mh2 Mm2 Mq2 Mst2 Mt2 Mac2 hend => ?_)
      rw [hend] at hcy
      rw [hcy] at h hco
      dsimp only at h hco
      by_cases e : r' = -1
      · rw [if_pos e] at h
        obtain ⟨k1, k2⟩ := hco
        have k3 := k2 e
        have k3' : Mq < I ∧ Mq < Mq2 := k3
        rw [e]
        exact ih (c + 1) Mout2 Mo2 Mpat2 Mp2 Mhold2 Mh2 Mm2 Mq2 Mst2 Mt2 Mac2 _ _ _ k1 (by omega) (by have := ln_str h5 k1.2.2.2.2.1 k3'.2; omega) h
      · rw [if_neg e] at h
        have := h r' Mout2 Mo2 Mpat2 Mp2 Mhold2 Mh2 Mm2 Mq2 Mst2 Mt2 Mac2 pt' Mt2 rl' res' rfl
        exact br_c (fun _ => this) (fun _ => br_f e this)
    · rw [Nat.zero_add] at y
      rw [if_pos y] at hbeg
      exact stop 3 (by decide) (by decide) (by unfold rn_cyc; rw [hbeg]; rfl) _ _ _ _
/-- the activation lines at a run's start -/
def rn_a0 (a : Nat → Int32) (x : Nat) : Nat → Int32 := fun j => if j < x then 0 else a j
theorem xm_run {L I F n : Nat} {tg : Nat → Nat} {D : Nat → cm_T} {post : Int32 → SX → Prop} (hL : L ≤ 128) (hI : I ≤ 128) (hF : F ≤ 2048) (hn : n ≤ 16) (hD : ∀ k, k < n → cm_ok Xscript L (D k) ∧ (D k).2.2.1.2.1.2.1 + (D k).2.2.1.2.1.2.2.1 ≤ L ∧ tb_X Xscript L Xverb Xnegated Xeverywhere XlabelStart XlabelSize XreplacementStart XreplacementEnd Xreplacement Xaddress XstartAnchor XendAnchor XatomCount XatomChar XatomStarred k (D k) ∧ (((D k).2.1 = 98 ∨ (D k).2.1 = 116) → Xtarget k = nI (tg k))) (ht : ∀ k, k < n → tg k ≤ n)
    (h : ∀ r Moutp Mop Mpatp Mpp Mholdp Mhp Mmp Mqp Mstp Mtp Macp pt t rl res, rn_out Xscript Xinput L I F n Xquiet tg D (I + 2) (Xoutput, 0, Xpattern, 0, Xhold, 0, 0, 0, 0, 0, rn_a0 XactivationLine 16) = (r, (Moutp, Mop, Mpatp, Mpp, Mholdp, Mhp, Mmp, Mqp, Mstp, Mtp, Macp)) → post r (Xquiet, nI F, XscriptSize, nI I, Xcursor, XitemCount, 1, nI n, nI Mop, nI Mpp, nI Mhp, nI Mmp, nI Mstp, nI Mqp, pt, t, rl, Xscript, Xinput, Xitems, Xverb, Xnegated, Xeverywhere, XlabelStart, XlabelSize, Xtarget, XreplacementStart, XreplacementEnd, Xreplacement, Xaddress, XstartAnchor, XendAnchor, XatomCount, XatomChar, XatomStarred, Moutp, Mpatp, Mholdp, Macp, res)) :
    wpX_run post (Xquiet, nI F, XscriptSize, nI I, Xcursor, XitemCount, 1, nI n, XoutputSize, XpatternSize, XholdSize, XlineNumber, XstepCount, XnextLine, Xpointer, Xsubstituted, XresultSize, Xscript, Xinput, Xitems, Xverb, Xnegated, Xeverywhere, XlabelStart, XlabelSize, Xtarget, XreplacementStart, XreplacementEnd, Xreplacement, Xaddress, XstartAnchor, XendAnchor, XatomCount, XatomChar, XatomStarred, Xoutput, Xpattern, Xhold, XactivationLine, Xresult) := by
  unfold wpX_run
  refine br_f (by decide) ?_
  unfold wpX_startRun
  suffices hs : ∃ f, wX_run_17 post f (-1) 0 Xquiet (nI F) XscriptSize (nI I) Xcursor XitemCount 1 (nI n) 0 0 0 0 0 0 Xpointer 0 XresultSize Xscript Xinput Xitems Xverb Xnegated Xeverywhere XlabelStart XlabelSize Xtarget XreplacementStart XreplacementEnd Xreplacement Xaddress XstartAnchor XendAnchor XatomCount XatomChar XatomStarred Xoutput Xpattern Xhold (rn_a0 XactivationLine 16) Xresult by
    have loop : ∀ f x, 16 - x < f → x ≤ 16 → wX_startRun_37 (fun u => match u with | (Xquiet1, Xfuel1, XscriptSize1, XinputSize1, Xcursor1, XitemCount1, XtablePresent1, XcommandCount1, XoutputSize1, XpatternSize1, XholdSize1, XlineNumber1, XstepCount1, XnextLine1, Xpointer1, Xsubstituted1, XresultSize1, Xscript1, Xinput1, Xitems1, Xverb1, Xnegated1, Xeverywhere1, XlabelStart1, XlabelSize1, Xtarget1, XreplacementStart1, XreplacementEnd1, Xreplacement1, Xaddress1, XstartAnchor1, XendAnchor1, XatomCount1, XatomChar1, XatomStarred1, Xoutput1, Xpattern1, Xhold1, XactivationLine1, Xresult1) => ∃ n17 : Nat, wX_run_17 post n17 (-1) 0 Xquiet1 Xfuel1 XscriptSize1 XinputSize1 Xcursor1 XitemCount1 XtablePresent1 XcommandCount1 XoutputSize1 XpatternSize1 XholdSize1 XlineNumber1 XstepCount1 XnextLine1 Xpointer1 Xsubstituted1 XresultSize1 Xscript1 Xinput1 Xitems1 Xverb1 Xnegated1 Xeverywhere1 XlabelStart1 XlabelSize1 Xtarget1 XreplacementStart1 XreplacementEnd1 Xreplacement1 Xaddress1 XstartAnchor1 XendAnchor1 XatomCount1 XatomChar1 XatomStarred1 Xoutput1 Xpattern1 Xhold1 XactivationLine1 Xresult1) Xquiet (nI F) XscriptSize (nI I) Xcursor XitemCount 1 (nI n) 0 0 0 0 0 0 Xpointer 0 XresultSize f (nI x) Xscript Xinput Xitems Xverb Xnegated Xeverywhere XlabelStart XlabelSize Xtarget XreplacementStart XreplacementEnd Xreplacement Xaddress XstartAnchor XendAnchor XatomCount XatomChar XatomStarred Xoutput Xpattern Xhold (rn_a0 XactivationLine x) Xresult := by
      intro f
      induction f with
      | zero => intro x h; exact absurd h (Nat.not_lt_zero _)
      | succ f ih =>
      intro x hf hx
      refine pk_le 16 x (fun w => ?_) (fun w => ⟨pk_in x 16 w, nm_e (nm_r (nI_1 x) ?_)⟩)
      · rw [show x = 16 by omega]; exact hs
      · rw [nI_clamp (by omega)]
        have e : upd (rn_a0 XactivationLine x) x 0 = rn_a0 XactivationLine (x + 1) := by
          funext j
          unfold upd rn_a0
          by_cases z : j = x
          · rw [if_pos z, if_pos (by omega)]
          · rw [if_neg z]
            by_cases y : j < x
            · rw [if_pos y, if_pos (by omega)]
            · rw [if_neg y, if_neg (by omega)]
        rw [e]
        exact ih (x + 1) (by omega) (by omega)
    have e0 : rn_a0 XactivationLine 0 = XactivationLine := by funext j; unfold rn_a0; rw [if_neg (by omega)]
    have := loop 17 0 (by omega) (by omega)
    rw [e0] at this
    exact ⟨17, this⟩
  exact ⟨I + 2 + 1, xm_17 hL hI hF hn hD ht (I + 2) 0 Xoutput 0 Xpattern 0 Xhold 0 0 0 0 0 (rn_a0 XactivationLine 16) _ _ _ ⟨by omega, by omega, by omega, by omega, ln_0 _ _, Or.inl rfl⟩ (by omega) (by omega) h⟩
end XQ_1
end
section
/-! Y: the run -/
section YR_1
variable {Yquiet Yfuel YscrLen YinpLen YhasTab YnCmd YoutLen YpatLen YholdLen YlinesRead YstepsUsed Ytflag YnAddr Ya1K Ya1V Ya2K Ya2V Ycc YlabS YlabL YsRe YsRep YadK YadV Yneg YsG YicN Yna YanS YanE YmJ YrLen : Int32} {Yscr Yinp YcmdPos Yout Ypat Yhold Yactive Yact Yic Yie YaC YaAny YaSt Yrch Ynx Yrb : Nat → Int32}
def rn_V (r : Int32) : Prop := r = -1 ∨ r = -2 ∨ r = 0 ∨ r = 2 ∨ r = 3
theorem rn_sub_V (s : Nat → Int32) (L : Nat) (d : cm_T) (z : rn_T) : rn_V (rn_sub s L d z).1 := by
  obtain ⟨Mout, Mo, Mpat, Mp, Mhold, Mh, Mm, Mq, Mst, Mt, Mac⟩ := z
  unfold rn_sub
  dsimp only
  split
  · exact Or.inl rfl
  · split
    · exact Or.inl rfl
    · split
      · exact Or.inr (Or.inr (Or.inr (Or.inr rfl)))
      · exact Or.inl rfl
theorem rn_N_V (inp : Nat → Int32) (I : Nat) (qt : Int32) (z : rn_T) : rn_V (rn_N inp I qt z).1 := by
  obtain ⟨Mout, Mo, Mpat, Mp, Mhold, Mh, Mm, Mq, Mst, Mt, Mac⟩ := z
  unfold rn_N
  dsimp only
  split
  · split
    · split
      · exact Or.inr (Or.inr (Or.inr (Or.inr rfl)))
      · exact Or.inr (Or.inr (Or.inl rfl))
    · exact Or.inr (Or.inr (Or.inl rfl))
  · split
    · exact Or.inr (Or.inr (Or.inr (Or.inr rfl)))
    · exact Or.inl rfl
theorem rn_act_V (s inp : Nat → Int32) (L I : Nat) (qt : Int32) (tg : Nat → Nat) (d : cm_T) (k : Nat) (z : rn_T) : rn_V (rn_act s inp L I qt tg d k z).1 := by
  obtain ⟨Mout, Mo, Mpat, Mp, Mhold, Mh, Mm, Mq, Mst, Mt, Mac⟩ := z
  unfold rn_act
  dsimp only
  by_cases c115 : d.2.1 = 115
  · rw [if_pos c115]
    exact rn_sub_V _ _ _ _
  rw [if_neg c115]
  by_cases c100 : d.2.1 = 100
  · rw [if_pos c100]
    exact Or.inr (Or.inl rfl)
  rw [if_neg c100]
  by_cases c112 : d.2.1 = 112
  · rw [if_pos c112]
    split
    · exact Or.inr (Or.inr (Or.inr (Or.inr rfl)))
    · exact Or.inl rfl
  rw [if_neg c112]
  by_cases c78 : d.2.1 = 78
  · rw [if_pos c78]
    exact rn_N_V _ _ _ _
  rw [if_neg c78]
  by_cases c104 : d.2.1 = 104
  · rw [if_pos c104]
    exact Or.inl rfl
  rw [if_neg c104]
  by_cases c103 : d.2.1 = 103
  · rw [if_pos c103]
    exact Or.inl rfl
  rw [if_neg c103]
  by_cases c72 : d.2.1 = 72
  · rw [if_pos c72]
    split
    · exact Or.inr (Or.inr (Or.inr (Or.inr rfl)))
    · exact Or.inl rfl
  rw [if_neg c72]
  by_cases c71 : d.2.1 = 71
  · rw [if_pos c71]
    split
    · exact Or.inr (Or.inr (Or.inr (Or.inr rfl)))
    · exact Or.inl rfl
  rw [if_neg c71]
  by_cases c120 : d.2.1 = 120
  · rw [if_pos c120]
    exact Or.inl rfl
  rw [if_neg c120]
  by_cases c98 : d.2.1 = 98
  · rw [if_pos c98]
    exact Or.inl rfl
  rw [if_neg c98]
  by_cases c116 : d.2.1 = 116
  · rw [if_pos c116]
    split
    · exact Or.inl rfl
    · exact Or.inl rfl
  rw [if_neg c116]
  exact Or.inl rfl
theorem rn_step_V (s inp : Nat → Int32) (L I F : Nat) (qt : Int32) (tg : Nat → Nat) (D : Nat → cm_T) (k : Nat) (z : rn_T) : rn_V (rn_step s inp L I F qt tg D k z).1 := by
  obtain ⟨Mout, Mo, Mpat, Mp, Mhold, Mh, Mm, Mq, Mst, Mt, Mac⟩ := z
  unfold rn_step
  dsimp only
  split
  · exact Or.inr (Or.inr (Or.inr (Or.inl rfl)))
  · split
    · exact rn_act_V _ _ _ _ _ _ _ _ _
    · exact Or.inl rfl
theorem ym_216 {c I k Mo Mp : Nat} {r : Int32} {Mout Mpat Mhold Mac : Nat → Int32} {Mh Mm Mq Mst : Nat} {Mt : Int32} {G : Nat} {post : Int32 → SY → Prop} (h1 : Mo ≤ 256) (h2 : Mp ≤ 64) (hk : k ≤ 16) (hV : rn_V r)
    (hJ : ∀ Moutp Mop Mpatp Mpp Mholdp Mhp Mmp Mqp Mstp Mtp Macp, rn_end Yquiet r (Mout, Mo, Mpat, Mp, Mhold, Mh, Mm, Mq, Mst, Mt, Mac) = (-1, (Moutp, Mop, Mpatp, Mpp, Mholdp, Mhp, Mmp, Mqp, Mstp, Mtp, Macp)) → wY_run_62 post G (nI (c + 1)) Yquiet Yfuel YscrLen (nI I) YhasTab YnCmd (nI Mop) (nI Mpp) (nI Mhp) (nI Mmp) (nI Mstp) Mtp YnAddr Ya1K Ya1V Ya2K Ya2V Ycc YlabS YlabL YsRe YsRep YadK YadV Yneg YsG YicN Yna YanS YanE YmJ YrLen Yscr Yinp YcmdPos Moutp Mpatp Mholdp Yactive Yact Yic Yie YaC YaAny YaSt Yrch Ynx Yrb)
    (hP : ∀ r' Moutp Mop Mpatp Mpp Mholdp Mhp Mmp Mqp Mstp Mtp Macp, ¬ r' = -1 → rn_end Yquiet r (Mout, Mo, Mpat, Mp, Mhold, Mh, Mm, Mq, Mst, Mt, Mac) = (r', (Moutp, Mop, Mpatp, Mpp, Mholdp, Mhp, Mmp, Mqp, Mstp, Mtp, Macp)) → post r' (Yquiet, Yfuel, YscrLen, nI I, YhasTab, YnCmd, nI Mop, nI Mpp, nI Mhp, nI Mmp, nI Mstp, Mtp, YnAddr, Ya1K, Ya1V, Ya2K, Ya2V, Ycc, YlabS, YlabL, YsRe, YsRep, YadK, YadV, Yneg, YsG, YicN, Yna, YanS, YanE, YmJ, YrLen, Yscr, Yinp, YcmdPos, Moutp, Mpatp, Mholdp, Yactive, Yact, Yic, Yie, YaC, YaAny, YaSt, Yrch, Ynx, Yrb)) : wY_run_216 post (wY_run_62 post G) (nI c) (rn_y r k) Yquiet Yfuel YscrLen (nI I) YhasTab YnCmd (nI Mo) (nI Mp) (nI Mh) (nI Mm) (nI Mst) Mt YnAddr Ya1K Ya1V Ya2K Ya2V Ycc YlabS YlabL YsRe YsRep YadK YadV Yneg YsG YicN Yna YanS YanE YmJ YrLen Yscr Yinp YcmdPos Mout Mpat Mhold Yactive Yact Yic Yie YaC YaAny YaSt Yrch Ynx Yrb := by
  unfold rn_end at hJ hP
  by_cases e1 : r = -1
  · subst e1
    rw [if_pos rfl] at hJ hP
    show wY_run_216 post (wY_run_62 post G) (nI c) (nI k) Yquiet Yfuel YscrLen (nI I) YhasTab YnCmd (nI Mo) (nI Mp) (nI Mh) (nI Mm) (nI Mst) Mt YnAddr Ya1K Ya1V Ya2K Ya2V Ycc YlabS YlabL YsRe YsRep YadK YadV Yneg YsG YicN Yna YanS YanE YmJ YrLen Yscr Yinp YcmdPos Mout Mpat Mhold Yactive Yact Yic Yie YaC YaAny YaSt Yrch Ynx Yrb
    refine br_f (fun e => absurd (nI_pos (n := k) (by omega)) (by rw [e]; exact fun q => q (by decide))) (br_t (Int32.lt_of_lt_of_le (by decide : (-10 : Int32) < 0) (nI_pos' (by omega))) (br_c (fun q0 => ?_) (fun q0 => nm_r (nI_1 c) ?_)))
    · rw [if_pos q0] at hJ hP
      unfold rn_print at hJ hP
      dsimp only at hJ hP
      refine ym_print h1 h2 (fun y => br_f (by decide) (nm_r (nI_1 c) ?_)) (fun y => br_t rfl ?_)
      · rw [if_neg y] at hJ
        exact hJ _ _ _ _ _ _ _ _ _ _ _ rfl
      · rw [if_pos y] at hP
        exact hP 3 _ _ _ _ _ _ _ _ _ _ _ (by decide) rfl
    · rw [if_neg q0] at hJ
      exact hJ _ _ _ _ _ _ _ _ _ _ _ rfl
  · rw [if_neg e1] at hJ hP
    by_cases e2 : r = -2
    · subst e2
      rw [if_pos rfl] at hJ
      exact br_t rfl (nm_r (nI_1 c) (hJ _ _ _ _ _ _ _ _ _ _ _ rfl))
    · rw [if_neg e2] at hP
      have := hP r _ _ _ _ _ _ _ _ _ _ _ e1 rfl
      rcases hV with z | z | z | z | z
      · exact absurd z e1
      · exact absurd z e2
      · subst z
        rw [show rn_y 0 k = -10 from rfl]
        refine br_f (by decide) (br_f (by decide) ?_)
        rw [show (-10 : Int32) - (-10) = 0 by decide]
        exact this
      · subst z
        rw [show rn_y 2 k = -12 from rfl]
        refine br_f (by decide) (br_f (by decide) ?_)
        rw [show (-10 : Int32) - (-12) = 2 by decide]
        exact this
      · subst z
        rw [show rn_y 3 k = -13 from rfl]
        refine br_f (by decide) (br_f (by decide) ?_)
        rw [show (-10 : Int32) - (-13) = 3 by decide]
        exact this
theorem rn_y_neg {r : Int32} {k : Nat} (hV : rn_V r) (e : ¬ r = -1) : rn_y r k < 0 := by
  unfold rn_y
  rw [if_neg e]
  rcases hV with z | z | z | z | z
  · exact absurd z e
  · rw [z]; decide
  · rw [z]; decide
  · rw [z]; decide
  · rw [z]; decide
theorem ym_180 {L I F n : Nat} {tg : Nat → Nat} {c : Int32} {J : Nat} {post : Int32 → SY → Prop} (hL : L ≤ 128) (hc : ch_ok Yscr L) (hI : I ≤ 128) (hF : F ≤ 2048) (hG : cq_G Yscr L n) (hn : n ≤ 16) (hcp : ∀ j, j < n → YcmdPos j = nI (cq_Q Yscr L j)) (htg : ∀ a, a < n → (lb_c Yscr L a = 98 ∨ lb_c Yscr L a = 116) → lb_t Yscr L n a (tg a)) (ht : ∀ k, k < n → tg k ≤ n) :
    ∀ g k rd Mout Mo Mpat Mp Mhold Mh Mm Mq Mst Mt Mac active act YnAddr1 Ya1K1 Ya1V1 Ya2K1 Ya2V1 Ycc1 YlabS1 YlabL1 YsRe1 YsRep1 YadK1 YadV1 Yneg1 YsG1 YicN1 Yna1 YanS1 YanE1 YmJ1 YrLen1 Yic1 Yie1 YaC1 YaAny1 YaSt1 Yrch1 Ynx1 Yrb1, rn_ok Yinp I F (Mout, Mo, Mpat, Mp, Mhold, Mh, Mm, Mq, Mst, Mt, Mac) → 1 ≤ Mq → F + 1 - Mst ≤ g → rd ≤ Mst → k ≤ n → ya_R active act Mac → (∀ r k' Moutp Mop Mpatp Mpp Mholdp Mhp Mmp Mqp Mstp Mtp Macp active act YnAddr2 Ya1K2 Ya1V2 Ya2K2 Ya2V2 Ycc2 YlabS2 YlabL2 YsRe2 YsRep2 YadK2 YadV2 Yneg2 YsG2 YicN2 Yna2 YanS2 YanE2 YmJ2 YrLen2 Yic2 Yie2 YaC2 YaAny2 YaSt2 Yrch2 Ynx2 Yrb2, rn_in Yscr Yinp L I F n Yquiet tg (cq_D Yscr L) g k (Mout, Mo, Mpat, Mp, Mhold, Mh, Mm, Mq, Mst, Mt, Mac) = (r, (Moutp, Mop, Mpatp, Mpp, Mholdp, Mhp, Mmp, Mqp, Mstp, Mtp, Macp)) → k' ≤ 16 → rn_V r → ya_R active act Macp → wY_run_216 post (wY_run_62 post J) c (rn_y r k') Yquiet (nI F) (nI L) (nI I) YhasTab (nI n) (nI Mop) (nI Mpp) (nI Mhp) (nI Mmp) (nI Mstp) Mtp YnAddr2 Ya1K2 Ya1V2 Ya2K2 Ya2V2 Ycc2 YlabS2 YlabL2 YsRe2 YsRep2 YadK2 YadV2 Yneg2 YsG2 YicN2 Yna2 YanS2 YanE2 YmJ2 YrLen2 Yscr Yinp YcmdPos Moutp Mpatp Mholdp active act Yic2 Yie2 YaC2 YaAny2 YaSt2 Yrch2 Ynx2 Yrb2) → wY_run_180 post (wY_run_62 post J) c (g + 1) (nI k) (nI rd) Yquiet (nI F) (nI L) (nI I) YhasTab (nI n) (nI Mo) (nI Mp) (nI Mh) (nI Mm) (nI Mst) Mt YnAddr1 Ya1K1 Ya1V1 Ya2K1 Ya2V1 Ycc1 YlabS1 YlabL1 YsRe1 YsRep1 YadK1 YadV1 Yneg1 YsG1 YicN1 Yna1 YanS1 YanE1 YmJ1 YrLen1 Yscr Yinp YcmdPos Mout Mpat Mhold active act Yic1 Yie1 YaC1 YaAny1 YaSt1 Yrch1 Ynx1 Yrb1 := by
  intro g
  induction g with
  | zero => intro k rd Mout Mo Mpat Mp Mhold Mh Mm Mq Mst Mt Mac active act YnAddr1 Ya1K1 Ya1V1 Ya2K1 Ya2V1 Ycc1 YlabS1 YlabL1 YsRe1 YsRep1 YadK1 YadV1 Yneg1 YsG1 YicN1 Yna1 YanS1 YanE1 YmJ1 YrLen1 Yic1 Yie1 YaC1 YaAny1 YaSt1 Yrch1 Ynx1 Yrb1 hok hq hg; have := hok.2.2.2.1; omega
  | succ g ih =>
  intro k rd Mout Mo Mpat Mp Mhold Mh Mm Mq Mst Mt Mac active act YnAddr1 Ya1K1 Ya1V1 Ya2K1 Ya2V1 Ycc1 YlabS1 YlabL1 YsRe1 YsRep1 YadK1 YadV1 Yneg1 YsG1 YicN1 Yna1 YanS1 YanE1 YmJ1 YrLen1 Yic1 Yie1 YaC1 YaAny1 YaSt1 Yrch1 Ynx1 Yrb1 hok hq hg hrd hk hA h
  have h4 := hok.2.2.2.1
  rw [rn_in] at h
  refine br_f (nI_nlt (a := 2048) (by omega) (by decide)) (br_f (nI_pos (by omega)) (pk_le n k (fun w => ?_) (fun w => ?_)))
  · rw [if_pos w] at h
    exact h (-1) k _ _ _ _ _ _ _ _ _ _ _ _ _ _ _ _ _ _ _ _ _ _ _ _ _ _ _ _ _ _ _ _ _ _ _ _ _ _ _ _ _ rfl (by omega) (Or.inl rfl) hA
  · rw [if_neg (by omega)] at h
    have hm1 := ln_1 hok.2.2.2.2.1 hq
    obtain ⟨s1, s2, s3⟩ := rn_step_ok (s := Yscr) (L := L) (qt := Yquiet) (tg := tg) (D := cq_D Yscr L) hok w (ht k w)
    have sV := rn_step_V Yscr Yinp L I F Yquiet tg (cq_D Yscr L) k (Mout, Mo, Mpat, Mp, Mhold, Mh, Mm, Mq, Mst, Mt, Mac)
    refine ym_step hL hc hI hF hG hn hcp htg w hok hm1 hA ?_
    intro r k' Moutp Mop Mpatp Mpp Mholdp Mhp Mmp Mqp Mstp Mtp Macp active' act' YnAddr3 Ya1K3 Ya1V3 Ya2K3 Ya2V3 Ycc3 YlabS3 YlabL3 YsRe3 YsRep3 YadK3 YadV3 Yneg3 YsG3 YicN3 Yna3 YanS3 YanE3 YmJ3 YrLen3 Yic3 Yie3 YaC3 YaAny3 YaSt3 Yrch3 Ynx3 Yrb3 hr hA'
    rw [hr] at h s1 s2 s3 sV
    dsimp only at h s1 s2 s3 sV
    refine nm_r (nI_1 rd) ?_
    by_cases e : r = -1
    · rw [if_pos e] at h
      obtain ⟨t1, t2⟩ := s2 e
      rw [e]
      exact ih k' (rd + 1) Moutp Mop Mpatp Mpp Mholdp Mhp Mmp Mqp Mstp Mtp Macp active' act' YnAddr3 Ya1K3 Ya1V3 Ya2K3 Ya2V3 Ycc3 YlabS3 YlabL3 YsRe3 YsRep3 YadK3 YadV3 Yneg3 YsG3 YicN3 Yna3 YanS3 YanE3 YmJ3 YrLen3 Yic3 Yie3 YaC3 YaAny3 YaSt3 Yrch3 Ynx3 Yrb3 s1 (by omega) (by omega) (by omega) t1 hA' h
    · rw [if_neg e] at h
      have := h r 0 Moutp Mop Mpatp Mpp Mholdp Mhp Mmp Mqp Mstp Mtp Macp active' act' YnAddr3 Ya1K3 Ya1V3 Ya2K3 Ya2V3 Ycc3 YlabS3 YlabL3 YsRe3 YsRep3 YadK3 YadV3 Yneg3 YsG3 YicN3 Yna3 YanS3 YanE3 YmJ3 YrLen3 Yic3 Yie3 YaC3 YaAny3 YaSt3 Yrch3 Ynx3 Yrb3 rfl (by omega) sV hA'
      have e0 : rn_y r k' = rn_y r 0 := by unfold rn_y; rw [if_neg e, if_neg e]
      rw [e0]
      exact br_c (fun _ => this) (fun _ => br_t (rn_y_neg sV e) this)
theorem rn_in_V (s inp : Nat → Int32) (L I F n : Nat) (qt : Int32) (tg : Nat → Nat) (D : Nat → cm_T) : ∀ g k z, rn_V (rn_in s inp L I F n qt tg D g k z).1 := by
  intro g
  induction g with
  | zero => intro k z; exact Or.inr (Or.inr (Or.inr (Or.inl rfl)))
  | succ g ih =>
    intro k z
    rw [rn_in]
    split
    · exact Or.inl rfl
    · split
      · exact ih _ _
      · exact rn_step_V _ _ _ _ _ _ _ _ _ _
theorem ym_62 {L I F n : Nat} {tg : Nat → Nat} {post : Int32 → SY → Prop} (hL : L ≤ 128) (hc : ch_ok Yscr L) (hI : I ≤ 128) (hF : F ≤ 2048) (hG : cq_G Yscr L n) (hn : n ≤ 16) (hcp : ∀ j, j < n → YcmdPos j = nI (cq_Q Yscr L j)) (htg : ∀ a, a < n → (lb_c Yscr L a = 98 ∨ lb_c Yscr L a = 116) → lb_t Yscr L n a (tg a)) (ht : ∀ k, k < n → tg k ≤ n) :
    ∀ g c Mout Mo Mpat Mp Mhold Mh Mm Mq Mst Mt Mac active act YnAddr1 Ya1K1 Ya1V1 Ya2K1 Ya2V1 Ycc1 YlabS1 YlabL1 YsRe1 YsRep1 YadK1 YadV1 Yneg1 YsG1 YicN1 Yna1 YanS1 YanE1 YmJ1 YrLen1 Yic1 Yie1 YaC1 YaAny1 YaSt1 Yrch1 Ynx1 Yrb1, rn_ok Yinp I F (Mout, Mo, Mpat, Mp, Mhold, Mh, Mm, Mq, Mst, Mt, Mac) → I + 2 - Mq ≤ g → c ≤ Mm → ya_R active act Mac → (∀ r Moutp Mop Mpatp Mpp Mholdp Mhp Mmp Mqp Mstp Mtp Macp active act YnAddr2 Ya1K2 Ya1V2 Ya2K2 Ya2V2 Ycc2 YlabS2 YlabL2 YsRe2 YsRep2 YadK2 YadV2 Yneg2 YsG2 YicN2 Yna2 YanS2 YanE2 YmJ2 YrLen2 Yic2 Yie2 YaC2 YaAny2 YaSt2 Yrch2 Ynx2 Yrb2, rn_out Yscr Yinp L I F n Yquiet tg (cq_D Yscr L) g (Mout, Mo, Mpat, Mp, Mhold, Mh, Mm, Mq, Mst, Mt, Mac) = (r, (Moutp, Mop, Mpatp, Mpp, Mholdp, Mhp, Mmp, Mqp, Mstp, Mtp, Macp)) → post r (Yquiet, nI F, nI L, nI I, YhasTab, nI n, nI Mop, nI Mpp, nI Mhp, nI Mmp, nI Mstp, Mtp, YnAddr2, Ya1K2, Ya1V2, Ya2K2, Ya2V2, Ycc2, YlabS2, YlabL2, YsRe2, YsRep2, YadK2, YadV2, Yneg2, YsG2, YicN2, Yna2, YanS2, YanE2, YmJ2, YrLen2, Yscr, Yinp, YcmdPos, Moutp, Mpatp, Mholdp, active, act, Yic2, Yie2, YaC2, YaAny2, YaSt2, Yrch2, Ynx2, Yrb2)) → wY_run_62 post (g + 1) (nI c) Yquiet (nI F) (nI L) (nI I) YhasTab (nI n) (nI Mo) (nI Mp) (nI Mh) (nI Mm) (nI Mst) Mt YnAddr1 Ya1K1 Ya1V1 Ya2K1 Ya2V1 Ycc1 YlabS1 YlabL1 YsRe1 YsRep1 YadK1 YadV1 Yneg1 YsG1 YicN1 Yna1 YanS1 YanE1 YmJ1 YrLen1 Yscr Yinp YcmdPos Mout Mpat Mhold active act Yic1 Yie1 YaC1 YaAny1 YaSt1 Yrch1 Ynx1 Yrb1 := by
  intro g
  induction g with
  | zero =>
    intro c Mout Mo Mpat Mp Mhold Mh Mm Mq Mst Mt Mac active act YnAddr1 Ya1K1 Ya1V1 Ya2K1 Ya2V1 Ycc1 YlabS1 YlabL1 YsRe1 YsRep1 YadK1 YadV1 Yneg1 YsG1 YicN1 Yna1 YanS1 YanE1 YmJ1 YrLen1 Yic1 Yie1 YaC1 YaAny1 YaSt1 Yrch1 Ynx1 Yrb1 hok hg
    rcases hok.2.2.2.2.1 with ⟨y, _⟩ | ⟨y, _⟩ <;> omega
  | succ g ih =>
  intro c Mout Mo Mpat Mp Mhold Mh Mm Mq Mst Mt Mac active act YnAddr1 Ya1K1 Ya1V1 Ya2K1 Ya2V1 Ycc1 YlabS1 YlabL1 YsRe1 YsRep1 YadK1 YadV1 Yneg1 YsG1 YicN1 Yna1 YanS1 YanE1 YmJ1 YrLen1 Yic1 Yie1 YaC1 YaAny1 YaSt1 Yrch1 Ynx1 Yrb1 hok hg hcm hA h
  have hok0 := hok
  obtain ⟨h1, h2, h3, h4, h5, h6⟩ := hok
  have hm := ln_le h5
  have hkl := ln_kle Yinp I
  have hlt := ln_lt h5
  have hq : Mq ≤ I + 1 := by
    rcases h5 with ⟨y, _⟩ | ⟨y, _⟩ <;> omega
  rw [rn_out] at h
  refine br_f (nI_nlt (a := 129) (by omega) (by decide)) ?_
  have hbeg : rn_beg Yinp I (Mout, Mo, Mpat, Mp, Mhold, Mh, Mm, Mq, Mst, Mt, Mac) = if I ≤ Mq then (0, (Mout, Mo, Mpat, Mp, Mhold, Mh, Mm, Mq, Mst, Mt, Mac)) else if 64 < ln_e Yinp I Mq - Mq then (3, (Mout, Mo, Mpat, Mp, Mhold, Mh, Mm, Mq, Mst, Mt, Mac)) else (-1, (Mout, Mo, cp_y Yinp Mq Mpat 0 (ln_e Yinp I Mq - Mq), ln_e Yinp I Mq - Mq, Mhold, Mh, Mm + 1, ln_e Yinp I Mq + 1, Mst, 0, Mac)) := rfl
  have stop : ∀ r, ¬ r = -1 → rn_cyc Yscr Yinp L I F n Yquiet tg (cq_D Yscr L) (Mout, Mo, Mpat, Mp, Mhold, Mh, Mm, Mq, Mst, Mt, Mac) = (r, (Mout, Mo, Mpat, Mp, Mhold, Mh, Mm, Mq, Mst, Mt, Mac)) → post r (Yquiet, nI F, nI L, nI I, YhasTab, nI n, nI Mo, nI Mp, nI Mh, nI Mm, nI Mst, Mt, YnAddr1, Ya1K1, Ya1V1, Ya2K1, Ya2V1, Ycc1, YlabS1, YlabL1, YsRe1, YsRep1, YadK1, YadV1, Yneg1, YsG1, YicN1, Yna1, YanS1, YanE1, YmJ1, YrLen1, Yscr, Yinp, YcmdPos, Mout, Mpat, Mhold, active, act, Yic1, Yie1, YaC1, YaAny1, YaSt1, Yrch1, Ynx1, Yrb1) := by
    intro r e1 hcy
    rw [hcy] at h
    dsimp only at h
    rw [if_neg e1] at h
    exact h r Mout Mo Mpat Mp Mhold Mh Mm Mq Mst Mt Mac active act YnAddr1 Ya1K1 Ya1V1 Ya2K1 Ya2V1 Ycc1 YlabS1 YlabL1 YsRe1 YsRep1 YadK1 YadV1 Yneg1 YsG1 YicN1 Yna1 YanS1 YanE1 YmJ1 YrLen1 Yic1 Yie1 YaC1 YaAny1 YaSt1 Yrch1 Ynx1 Yrb1 rfl
  refine ym_lineCount hI ?_
  refine pk_lt Mm (ln_k Yinp I) (fun w => ?_) (fun w => ?_)
  · have hqI : Mq < I := by omega
    rw [if_neg (by omega)] at hbeg
    have he := sc_facts (P := pb_n Yinp) (L := I) (q := Mq) (by omega)
    have he1 : Mq ≤ ln_e Yinp I Mq := he.1
    have he2 : ln_e Yinp I Mq ≤ I := he.2.1
    rw [nI_1]
    refine ym_lineLen hI h5 hqI ?_
    refine pk_le (ln_e Yinp I Mq - Mq) 64 (fun y => ?_) (fun y => ?_)
    · rw [if_neg (by omega)] at hbeg
      have hb0 := rn_beg_ok hok0
      rw [hbeg] at hb0
      refine ym_lineStart hI h5 hqI ⟨ln_e Yinp I Mq - Mq + 1, ?_⟩
      suffices h154 : wY_run_154 post (wY_run_62 post (g + 1)) (nI c) (nI (ln_e Yinp I Mq - Mq)) Yquiet (nI F) (nI L) (nI I) YhasTab (nI n) (nI Mo) (nI Mp) (nI Mh) (nI Mm) (nI Mst) Mt YnAddr1 Ya1K1 Ya1V1 Ya2K1 Ya2V1 Ycc1 YlabS1 YlabL1 YsRe1 YsRep1 YadK1 YadV1 Yneg1 YsG1 YicN1 Yna1 YanS1 YanE1 YmJ1 YrLen1 Yscr Yinp YcmdPos Mout (cp_y Yinp Mq Mpat 0 (ln_e Yinp I Mq - Mq)) Mhold active act Yic1 Yie1 YaC1 YaAny1 YaSt1 Yrch1 Ynx1 Yrb1 by
        have loop : ∀ f x, ln_e Yinp I Mq - Mq - x < f → x ≤ ln_e Yinp I Mq - Mq → wY_run_115 post (wY_run_62 post (g + 1)) (nI c) (nI (ln_e Yinp I Mq - Mq)) (nI Mq) Yquiet (nI F) (nI L) (nI I) YhasTab (nI n) (nI Mo) (nI Mp) (nI Mh) (nI Mm) (nI Mst) Mt YnAddr1 Ya1K1 Ya1V1 Ya2K1 Ya2V1 Ycc1 YlabS1 YlabL1 YsRe1 YsRep1 YadK1 YadV1 Yneg1 YsG1 YicN1 Yna1 YanS1 YanE1 YmJ1 YrLen1 f (nI x) Yscr Yinp YcmdPos Mout (cp_y Yinp Mq Mpat 0 x) Mhold active act Yic1 Yie1 YaC1 YaAny1 YaSt1 Yrch1 Ynx1 Yrb1 := by
          intro f
          induction f with
          | zero => intro x h; exact absurd h (Nat.not_lt_zero _)
          | succ f ih2 =>
          intro x hf hx
          refine pk_le (ln_e Yinp I Mq - Mq) x (fun w2 => ?_) (fun w2 => ?_)
          · rw [show x = ln_e Yinp I Mq - Mq by omega]; exact h154
          · rw [nI_add]
            refine br_f (nI_ge (by omega) (by omega)) ⟨vp_in_nI (by omega) (by omega), vp_in_nI (by omega) (by omega), nm_e (nm_r (nI_1 x) ?_)⟩
            rw [nI_clamp (by omega), nI_clamp (by omega)]
            have e := cp_s Yinp Mq Mpat 0 x
            rw [Nat.zero_add] at e
            rw [e]
            exact ih2 (x + 1) (by omega) (by omega)
        have := loop (ln_e Yinp I Mq - Mq + 1) 0 (by omega) (by omega)
        rw [cp_0] at this
        exact this
      refine nm_r (nI_1 Mm) ⟨F + 3, ?_⟩
      refine ym_180 (g := F + 2) hL hc hI hF hG hn hcp htg ht 0 0 Mout Mo _ _ Mhold Mh _ _ Mst 0 Mac active act YnAddr1 Ya1K1 Ya1V1 Ya2K1 Ya2V1 Ycc1 YlabS1 YlabL1 YsRe1 YsRep1 YadK1 YadV1 Yneg1 YsG1 YicN1 Yna1 YanS1 YanE1 YmJ1 YrLen1 Yic1 Yie1 YaC1 YaAny1 YaSt1 Yrch1 Ynx1 Yrb1 hb0.1 (by omega) (by omega) (by omega) (by omega) hA (fun r k' Moutp Mop Mpatp Mpp Mholdp Mhp Mmp Mqp Mstp Mtp Macp active' act' YnAddr2 Ya1K2 Ya1V2 Ya2K2 Ya2V2 Ycc2 YlabS2 YlabL2 YsRe2 YsRep2 YadK2 YadV2 Yneg2 YsG2 YicN2 Yna2 YanS2 YanE2 YmJ2 YrLen2 Yic2 Yie2 YaC2 YaAny2 YaSt2 Yrch2 Ynx2 Yrb2 hin hk' hV hA' => ?_)
      have hcy : rn_cyc Yscr Yinp L I F n Yquiet tg (cq_D Yscr L) (Mout, Mo, Mpat, Mp, Mhold, Mh, Mm, Mq, Mst, Mt, Mac) = rn_end Yquiet r (Moutp, Mop, Mpatp, Mpp, Mholdp, Mhp, Mmp, Mqp, Mstp, Mtp, Macp) := by
        unfold rn_cyc
        rw [hbeg]
        dsimp only
        rw [if_pos rfl, hin]
      have hio := rn_in_ok (s := Yscr) (L := L) (qt := Yquiet) (tg := tg) (D := cq_D Yscr L) ht (F + 2) 0 _ hb0.1
      rw [hin] at hio
      have hco := rn_cyc_ok (s := Yscr) (L := L) (qt := Yquiet) (tg := tg) (D := cq_D Yscr L) ht hok0
      rw [hcy] at h hco
      have hMac : ∀ r' z', rn_end Yquiet r (Moutp, Mop, Mpatp, Mpp, Mholdp, Mhp, Mmp, Mqp, Mstp, Mtp, Macp) = (r', z') → z'.2.2.2.2.2.2.2.2.2.2 = Macp := by
        intro r' z' he
        unfold rn_end at he
        split at he
        · split at he
          · split at he
            · rw [← (Prod.mk.inj he).2]
            · rename_i z'' ez
              unfold rn_print at ez
              dsimp only at ez
              split at ez
              · exact absurd ez (by simp)
              · rw [← (Prod.mk.inj he).2, ← Option.some.inj ez]
          · rw [← (Prod.mk.inj he).2]
        · split at he
          · rw [← (Prod.mk.inj he).2]
          · rw [← (Prod.mk.inj he).2]
      refine ym_216 (Mac := Macp) (Mq := Mqp) hio.1.1 hio.1.2.1 hk' hV (fun Mout2 Mo2 Mpat2 Mp2 Mhold2 Mh2 Mm2 Mq2 Mst2 Mt2 Mac2 hend => ?_) (fun r' Mout2 Mo2 Mpat2 Mp2 Mhold2 Mh2 Mm2 Mq2 Mst2 Mt2 Mac2 e1 hend => ?_)
      · rw [hend] at h hco
        dsimp only at h hco
        rw [if_pos rfl] at h
        obtain ⟨k1, k2⟩ := hco
        have k3 : Mq < I ∧ Mq < Mq2 := k2 rfl
        have em : Mac2 = Macp := hMac _ _ hend
        subst em
        exact ih (c + 1) Mout2 Mo2 Mpat2 Mp2 Mhold2 Mh2 Mm2 Mq2 Mst2 Mt2 Mac2 active' act' YnAddr2 Ya1K2 Ya1V2 Ya2K2 Ya2V2 Ycc2 YlabS2 YlabL2 YsRe2 YsRep2 YadK2 YadV2 Yneg2 YsG2 YicN2 Yna2 YanS2 YanE2 YmJ2 YrLen2 Yic2 Yie2 YaC2 YaAny2 YaSt2 Yrch2 Ynx2 Yrb2 k1 (by omega) (by have := ln_str h5 k1.2.2.2.2.1 k3.2; omega) hA' h
      · rw [hend] at h
        dsimp only at h
        rw [if_neg e1] at h
        exact h r' Mout2 Mo2 Mpat2 Mp2 Mhold2 Mh2 Mm2 Mq2 Mst2 Mt2 Mac2 active' act' YnAddr2 Ya1K2 Ya1V2 Ya2K2 Ya2V2 Ycc2 YlabS2 YlabL2 YsRe2 YsRep2 YadK2 YadV2 Yneg2 YsG2 YicN2 Yna2 YanS2 YanE2 YmJ2 YrLen2 Yic2 Yie2 YaC2 YaAny2 YaSt2 Yrch2 Ynx2 Yrb2 rfl
    · rw [if_pos y] at hbeg
      exact stop 3 (by decide) (by unfold rn_cyc; rw [hbeg]; rfl)
  · rw [if_pos (by omega)] at hbeg
    exact stop 0 (by decide) (by unfold rn_cyc; rw [hbeg]; rfl)
theorem ym_run {L I F n : Nat} {tg : Nat → Nat} {Mac : Nat → Int32} {post : Int32 → SY → Prop} (hL : L ≤ 128) (hc : ch_ok Yscr L) (hI : I ≤ 128) (hF : F ≤ 2048) (hG : cq_G Yscr L n) (hn : n ≤ 16) (hcp : ∀ j, j < n → YcmdPos j = nI (cq_Q Yscr L j)) (htg : ∀ a, a < n → (lb_c Yscr L a = 98 ∨ lb_c Yscr L a = 116) → lb_t Yscr L n a (tg a)) (ht : ∀ k, k < n → tg k ≤ n) (hM : ∀ j, j < 16 → Mac j = 0)
    (h : ∀ r Moutp Mop Mpatp Mpp Mholdp Mhp Mmp Mqp Mstp Mtp Macp active act YnAddr2 Ya1K2 Ya1V2 Ya2K2 Ya2V2 Ycc2 YlabS2 YlabL2 YsRe2 YsRep2 YadK2 YadV2 Yneg2 YsG2 YicN2 Yna2 YanS2 YanE2 YmJ2 YrLen2 Yic2 Yie2 YaC2 YaAny2 YaSt2 Yrch2 Ynx2 Yrb2, rn_out Yscr Yinp L I F n Yquiet tg (cq_D Yscr L) (I + 2) (Yout, 0, Ypat, 0, Yhold, 0, 0, 0, 0, 0, Mac) = (r, (Moutp, Mop, Mpatp, Mpp, Mholdp, Mhp, Mmp, Mqp, Mstp, Mtp, Macp)) → post r (Yquiet, nI F, nI L, nI I, 1, nI n, nI Mop, nI Mpp, nI Mhp, nI Mmp, nI Mstp, Mtp, YnAddr2, Ya1K2, Ya1V2, Ya2K2, Ya2V2, Ycc2, YlabS2, YlabL2, YsRe2, YsRep2, YadK2, YadV2, Yneg2, YsG2, YicN2, Yna2, YanS2, YanE2, YmJ2, YrLen2, Yscr, Yinp, YcmdPos, Moutp, Mpatp, Mholdp, active, act, Yic2, Yie2, YaC2, YaAny2, YaSt2, Yrch2, Ynx2, Yrb2)) :
    wpY_run post (Yquiet, nI F, nI L, nI I, 1, nI n, YoutLen, YpatLen, YholdLen, YlinesRead, YstepsUsed, Ytflag, YnAddr, Ya1K, Ya1V, Ya2K, Ya2V, Ycc, YlabS, YlabL, YsRe, YsRep, YadK, YadV, Yneg, YsG, YicN, Yna, YanS, YanE, YmJ, YrLen, Yscr, Yinp, YcmdPos, Yout, Ypat, Yhold, Yactive, Yact, Yic, Yie, YaC, YaAny, YaSt, Yrch, Ynx, Yrb) := by
  unfold wpY_run
  refine br_f (by decide) ⟨17, ?_⟩
  have loop : ∀ f x active, 16 - x < f → x ≤ 16 → (∀ j, j < x → active j = 0) → wY_run_26 post Yquiet (nI F) (nI L) (nI I) 1 (nI n) 0 0 0 YlinesRead YstepsUsed Ytflag YnAddr Ya1K Ya1V Ya2K Ya2V Ycc YlabS YlabL YsRe YsRep YadK YadV Yneg YsG YicN Yna YanS YanE YmJ YrLen f (nI x) Yscr Yinp YcmdPos Yout Ypat Yhold active Yact Yic Yie YaC YaAny YaSt Yrch Ynx Yrb := by
    intro f
    induction f with
    | zero => intro x active h; exact absurd h (Nat.not_lt_zero _)
    | succ f ih =>
    intro x active hf hx ha
    refine pk_le 16 x (fun w => ⟨I + 2 + 1, ?_⟩) (fun w => ⟨pk_in x 16 w, nm_e (nm_r (nI_1 x) ?_)⟩)
    · exact ym_62 hL hc hI hF hG hn hcp htg ht (I + 2) 0 Yout 0 Ypat 0 Yhold 0 0 0 0 0 Mac active Yact YnAddr Ya1K Ya1V Ya2K Ya2V Ycc YlabS YlabL YsRe YsRep YadK YadV Yneg YsG YicN Yna YanS YanE YmJ YrLen Yic Yie YaC YaAny YaSt Yrch Ynx Yrb ⟨by omega, by omega, by omega, by omega, ln_0 _ _, Or.inl rfl⟩ (by omega) (by omega) (fun j hj => Or.inl ⟨ha j (by omega), hM j hj⟩) h
    · rw [nI_clamp (by omega)]
      refine ih (x + 1) _ (by omega) (by omega) (fun j hj => ?_)
      by_cases z : j = x
      · rw [z, pk_us]; rfl
      · rw [pk_un z]; exact ha j (by omega)
  exact loop 17 0 Yactive (by omega) (by omega) (fun j hj => absurd hj (by omega))
end YR_1
end
section
/-! the relation, and what is owed -/
section FI_1
variable {Xquiet Xfuel XscriptSize XinputSize Xcursor XitemCount XtablePresent XcommandCount XoutputSize XpatternSize XholdSize XlineNumber XstepCount XnextLine Xpointer Xsubstituted XresultSize : Int32} {Xscript Xinput Xitems Xverb Xnegated Xeverywhere XlabelStart XlabelSize Xtarget XreplacementStart XreplacementEnd Xreplacement Xaddress XstartAnchor XendAnchor XatomCount XatomChar XatomStarred Xoutput Xpattern Xhold XactivationLine Xresult : Nat → Int32}
variable {Yquiet Yfuel YscrLen YinpLen YhasTab YnCmd YoutLen YpatLen YholdLen YlinesRead YstepsUsed Ytflag YnAddr Ya1K Ya1V Ya2K Ya2V Ycc YlabS YlabL YsRe YsRep YadK YadV Yneg YsG YicN Yna YanS YanE YmJ YrLen : Int32} {Yscr Yinp YcmdPos Yout Ypat Yhold Yactive Yact Yic Yie YaC YaAny YaSt Yrch Ynx Yrb : Nat → Int32}
/-- X's and Y's tables are those of the script -/
def fi_T (s : Nat → Int32) (L : Nat) (cc nc : Int32) (tgt vb ng ev lst lsz rst ren rep adr sa ea ac ach ast cp : Nat → Int32) : Prop :=
  ∃ n, cq_N s L n ∧ cc = nI n ∧ nc = nI n ∧ tx_T s L n vb ng ev lst lsz rst ren rep adr sa ea ac ach ast ∧ (∀ j, j < n → cp j = nI (cq_Q s L j)) ∧ (∀ a, a < n → (lb_c s L a = 98 ∨ lb_c s L a = 116) → ∃ t, tgt a = nI t ∧ lb_t s L n a t)
/-- the same script, input, results; the table as compiled -/
def i_Rel (k : Nat) (u : SX) (v : SY) : Prop := match u, v with
  | (Xquiet, Xfuel, XscriptSize, XinputSize, Xcursor, XitemCount, XtablePresent, XcommandCount, XoutputSize, XpatternSize, XholdSize, XlineNumber, XstepCount, XnextLine, Xpointer, Xsubstituted, XresultSize, Xscript, Xinput, Xitems, Xverb, Xnegated, Xeverywhere, XlabelStart, XlabelSize, Xtarget, XreplacementStart, XreplacementEnd, Xreplacement, Xaddress, XstartAnchor, XendAnchor, XatomCount, XatomChar, XatomStarred, Xoutput, Xpattern, Xhold, XactivationLine, Xresult), (Yquiet, Yfuel, YscrLen, YinpLen, YhasTab, YnCmd, YoutLen, YpatLen, YholdLen, YlinesRead, YstepsUsed, Ytflag, YnAddr, Ya1K, Ya1V, Ya2K, Ya2V, Ycc, YlabS, YlabL, YsRe, YsRep, YadK, YadV, Yneg, YsG, YicN, Yna, YanS, YanE, YmJ, YrLen, Yscr, Yinp, YcmdPos, Yout, Ypat, Yhold, Yactive, Yact, Yic, Yie, YaC, YaAny, YaSt, Yrch, Ynx, Yrb) => ∃ F L I o p h : Nat, F ≤ 2048 ∧ L ≤ 128 ∧ I ≤ 128 ∧ o ≤ 256 ∧ p ≤ 64 ∧ h ≤ 64 ∧ ch_ok Xscript L ∧ (XtablePresent = 0 ∨ XtablePresent = 1) ∧ (XtablePresent = 1 → fi_T Xscript L XcommandCount YnCmd Xtarget Xverb Xnegated Xeverywhere XlabelStart XlabelSize XreplacementStart XreplacementEnd Xreplacement Xaddress XstartAnchor XendAnchor XatomCount XatomChar XatomStarred YcmdPos) ∧ Xfuel = nI F ∧ XscriptSize = nI L ∧ XinputSize = nI I ∧ XoutputSize = nI o ∧ XpatternSize = nI p ∧ XholdSize = nI h ∧ Xquiet = Yquiet ∧ Yfuel = nI F ∧ YscrLen = nI L ∧ YinpLen = nI I ∧ XtablePresent = YhasTab ∧ YoutLen = nI o ∧ YpatLen = nI p ∧ YholdLen = nI h ∧ XlineNumber = YlinesRead ∧ XstepCount = YstepsUsed ∧ Xscript = Yscr ∧ Xinput = Yinp ∧ Xoutput = Yout ∧ Xpattern = Ypat ∧ Xhold = Yhold
theorem i_up {k : Nat} {u : SX} {v : SY} (h : i_Rel k u v) : i_Rel (k + 2) u v := h
theorem fi_0 {q : Int32} {F : Nat} (hF : F ≤ 2048) : i_Rel 2 (q, nI F, 0, 0, 0, 0, 0, 0, 0, 0, 0, 0, 0, 0, 0, 0, 0, (fun _ => 0), (fun _ => 0), (fun _ => 0), (fun _ => 0), (fun _ => 0), (fun _ => 0), (fun _ => 0), (fun _ => 0), (fun _ => 0), (fun _ => 0), (fun _ => 0), (fun _ => 0), (fun _ => 0), (fun _ => 0), (fun _ => 0), (fun _ => 0), (fun _ => 0), (fun _ => 0), (fun _ => 0), (fun _ => 0), (fun _ => 0), (fun _ => 0), (fun _ => 0)) (q, nI F, 0, 0, 0, 0, 0, 0, 0, 0, 0, 0, 0, 0, 0, 0, 0, 0, 0, 0, 0, 0, 0, 0, 0, 0, 0, 0, 0, 0, 0, 0, (fun _ => 0), (fun _ => 0), (fun _ => 0), (fun _ => 0), (fun _ => 0), (fun _ => 0), (fun _ => 0), (fun _ => 0), (fun _ => 0), (fun _ => 0), (fun _ => 0), (fun _ => 0), (fun _ => 0), (fun _ => 0), (fun _ => 0), (fun _ => 0)) :=
  ⟨F, 0, 0, 0, 0, 0, hF, by omega, by omega, by omega, by omega, by omega, fun i hi => absurd hi (by omega), Or.inl rfl, fun y => absurd y (by decide), rfl, rfl, rfl, rfl, rfl, rfl, rfl, rfl, rfl, rfl, rfl, rfl, rfl, rfl, rfl, rfl, rfl, rfl, rfl, rfl, rfl⟩
theorem i_vc0 (k0 : Int32) (k1 : Int32) : wpX_init (fun u => wpY_init (fun v => i_Rel 2 u v) k0 k1) k0 k1 := by
  have hY : ∀ q : Int32, (k0 ≤ 0 ∧ q = 0 ∨ ¬ k0 ≤ 0 ∧ q = 1) → ∀ P : SY → Prop, wY_init_156 P k1 q 0 0 0 0 0 0 0 0 0 0 0 0 0 0 0 0 0 0 0 0 0 0 0 0 0 0 0 0 0 0 0 0 (fun _ => 0) (fun _ => 0) (fun _ => 0) (fun _ => 0) (fun _ => 0) (fun _ => 0) (fun _ => 0) (fun _ => 0) (fun _ => 0) (fun _ => 0) (fun _ => 0) (fun _ => 0) (fun _ => 0) (fun _ => 0) (fun _ => 0) (fun _ => 0) → wpY_init P k0 k1 := by
    intro q hq P h
    refine br_c (fun a => br_c (fun b => ?_) (fun b => ?_)) (fun a => ?_)
    · have e : k0 = q := by
        rcases hq with ⟨y, z⟩ | ⟨y, z⟩
        · rw [z]; exact Int32.le_antisymm y a
        · rw [z]
          obtain ⟨j, hj, rfl⟩ := nI_of (x := k0) (Int32.not_lt.mpr a)
          have b1 := (nI_leI (b := 1) hj (by omega)).mp b
          rcases Nat.eq_zero_or_pos j with w | w
          · rw [w] at y; exact absurd (Int32.le_refl 0) y
          · rw [show j = 1 by omega]; rfl
      rw [e]; exact h
    · have e : q = 1 := by
        rcases hq with ⟨y, z⟩ | ⟨y, z⟩
        · exact absurd (Int32.le_trans y (by decide)) b
        · exact z
      rw [e] at h; exact h
    · have e : q = 0 := by
        rcases hq with ⟨y, z⟩ | ⟨y, z⟩
        · exact z
        · exact absurd (Int32.le_of_lt (Int32.not_le.mp a)) y
      rw [e] at h; exact h
  have hX : ∀ q : Int32, (q = 0 ∨ q = 1) → (k0 ≤ 0 ∧ q = 0 ∨ ¬ k0 ≤ 0 ∧ q = 1) → wX_init_205 (fun u => wpY_init (fun v => i_Rel 2 u v) k0 k1) k1 q 0 0 0 0 0 0 0 0 0 0 0 0 0 0 0 0 0 (fun _ => 0) (fun _ => 0) (fun _ => 0) (fun _ => 0) (fun _ => 0) (fun _ => 0) (fun _ => 0) (fun _ => 0) (fun _ => 0) (fun _ => 0) (fun _ => 0) (fun _ => 0) (fun _ => 0) (fun _ => 0) (fun _ => 0) (fun _ => 0) (fun _ => 0) (fun _ => 0) (fun _ => 0) (fun _ => 0) (fun _ => 0) (fun _ => 0) (fun _ => 0) := by
    intro q h01 hq
    refine ⟨ba_nb h01, ba_fb h01, ?_⟩
    by_cases a : (16 : Int32) ≤ k1
    · refine br_t a ?_
      by_cases b : k1 ≤ 2048
      · obtain ⟨j, hj, rfl⟩ := nI_of2 (x := k1) (M := 2048) (n := 2048) (by decide) (Int32.not_lt.mpr (Int32.le_trans (by decide) a)) b
        exact br_t b (hY q hq _ (br_t a (br_t b (fi_0 hj))))
      · exact br_f b (hY q hq _ (br_t a (br_f b (fi_0 (F := 2048) (by omega)))))
    · exact br_f a (hY q hq _ (br_f a (fi_0 (F := 16) (by omega))))
  exact br_c (fun a => hX 0 (Or.inl rfl) (Or.inl ⟨a, rfl⟩)) (fun a => hX 1 (Or.inr rfl) (Or.inr ⟨a, rfl⟩))
theorem fi_c {c : Int32} : (c = 10 ∨ (32 ≤ c ∧ c ≤ 126)) ∨ ¬ (c = 10 ∨ (32 ≤ c ∧ c ≤ 126)) := Classical.em _
theorem fi_x {c : Int32} {post : Int32 → Prop} (h1 : (c = 10 ∨ (32 ≤ c ∧ c ≤ 126)) → post 1) (h0 : ¬ (c = 10 ∨ (32 ≤ c ∧ c ≤ 126)) → post 0) : wpX_isTextChar post c :=
  br_c (fun a => h1 (Or.inl a)) (fun a => br_c (fun b => h0 (fun y => y.elim a (fun z => absurd b (Int32.not_lt.mpr z.1)))) (fun b => br_c (fun d => h0 (fun y => y.elim a (fun z => absurd d (Int32.not_lt.mpr z.2)))) (fun d => h1 (Or.inr ⟨Int32.not_lt.mp b, Int32.not_lt.mp d⟩))))
theorem fi_n {c : Int32} (h : c = 10 ∨ (32 ≤ c ∧ c ≤ 126)) : ∃ m : Nat, m < 128 ∧ c = nI m := by
  rcases h with y | y
  · exact ⟨10, by omega, y⟩
  · obtain ⟨j, hj, e⟩ := nI_of2 (x := c) (M := 126) (n := 126) (by decide) (Int32.not_lt.mpr (Int32.le_trans (by decide) y.1)) y.2
    exact ⟨j, by omega, e⟩
theorem fi_yaddScriptChar {c : Int32} {P : Int32 → SY → Prop} (h1 : (c = 10 ∨ (32 ≤ c ∧ c ≤ 126)) → wY_addScriptChar_20 P c Yquiet Yfuel YscrLen YinpLen YhasTab YnCmd YoutLen YpatLen YholdLen YlinesRead YstepsUsed Ytflag YnAddr Ya1K Ya1V Ya2K Ya2V Ycc YlabS YlabL YsRe YsRep YadK YadV Yneg YsG YicN Yna YanS YanE YmJ YrLen Yscr Yinp YcmdPos Yout Ypat Yhold Yactive Yact Yic Yie YaC YaAny YaSt Yrch Ynx Yrb) (h0 : ¬ (c = 10 ∨ (32 ≤ c ∧ c ≤ 126)) → P (-1) (Yquiet, Yfuel, YscrLen, YinpLen, YhasTab, YnCmd, YoutLen, YpatLen, YholdLen, YlinesRead, YstepsUsed, Ytflag, YnAddr, Ya1K, Ya1V, Ya2K, Ya2V, Ycc, YlabS, YlabL, YsRe, YsRep, YadK, YadV, Yneg, YsG, YicN, Yna, YanS, YanE, YmJ, YrLen, Yscr, Yinp, YcmdPos, Yout, Ypat, Yhold, Yactive, Yact, Yic, Yie, YaC, YaAny, YaSt, Yrch, Ynx, Yrb)) : wpY_addScriptChar P (Yquiet, Yfuel, YscrLen, YinpLen, YhasTab, YnCmd, YoutLen, YpatLen, YholdLen, YlinesRead, YstepsUsed, Ytflag, YnAddr, Ya1K, Ya1V, Ya2K, Ya2V, Ycc, YlabS, YlabL, YsRe, YsRep, YadK, YadV, Yneg, YsG, YicN, Yna, YanS, YanE, YmJ, YrLen, Yscr, Yinp, YcmdPos, Yout, Ypat, Yhold, Yactive, Yact, Yic, Yie, YaC, YaAny, YaSt, Yrch, Ynx, Yrb) c :=
  br_c (fun a => h1 (Or.inl a)) (fun a => br_c (fun b => h0 (fun y => y.elim a (fun z => absurd b (Int32.not_lt.mpr z.1)))) (fun b => br_c (fun d => h1 (Or.inr ⟨Int32.not_lt.mp b, d⟩)) (fun d => h0 (fun y => y.elim a (fun z => d z.2)))))
theorem fi_yaddInputChar {c : Int32} {P : Int32 → SY → Prop} (h1 : (c = 10 ∨ (32 ≤ c ∧ c ≤ 126)) → wY_addInputChar_20 P c Yquiet Yfuel YscrLen YinpLen YhasTab YnCmd YoutLen YpatLen YholdLen YlinesRead YstepsUsed Ytflag YnAddr Ya1K Ya1V Ya2K Ya2V Ycc YlabS YlabL YsRe YsRep YadK YadV Yneg YsG YicN Yna YanS YanE YmJ YrLen Yscr Yinp YcmdPos Yout Ypat Yhold Yactive Yact Yic Yie YaC YaAny YaSt Yrch Ynx Yrb) (h0 : ¬ (c = 10 ∨ (32 ≤ c ∧ c ≤ 126)) → P (-1) (Yquiet, Yfuel, YscrLen, YinpLen, YhasTab, YnCmd, YoutLen, YpatLen, YholdLen, YlinesRead, YstepsUsed, Ytflag, YnAddr, Ya1K, Ya1V, Ya2K, Ya2V, Ycc, YlabS, YlabL, YsRe, YsRep, YadK, YadV, Yneg, YsG, YicN, Yna, YanS, YanE, YmJ, YrLen, Yscr, Yinp, YcmdPos, Yout, Ypat, Yhold, Yactive, Yact, Yic, Yie, YaC, YaAny, YaSt, Yrch, Ynx, Yrb)) : wpY_addInputChar P (Yquiet, Yfuel, YscrLen, YinpLen, YhasTab, YnCmd, YoutLen, YpatLen, YholdLen, YlinesRead, YstepsUsed, Ytflag, YnAddr, Ya1K, Ya1V, Ya2K, Ya2V, Ycc, YlabS, YlabL, YsRe, YsRep, YadK, YadV, Yneg, YsG, YicN, Yna, YanS, YanE, YmJ, YrLen, Yscr, Yinp, YcmdPos, Yout, Ypat, Yhold, Yactive, Yact, Yic, Yie, YaC, YaAny, YaSt, Yrch, Ynx, Yrb) c :=
  br_c (fun a => h1 (Or.inl a)) (fun a => br_c (fun b => h0 (fun y => y.elim a (fun z => absurd b (Int32.not_lt.mpr z.1)))) (fun b => br_c (fun d => h1 (Or.inr ⟨Int32.not_lt.mp b, d⟩)) (fun d => h0 (fun y => y.elim a (fun z => d z.2)))))
theorem i_vc_addScriptChar {k : Nat} {u : SX} {v : SY} (I : i_Rel k u v) (hk : k + 2 ≤ 1026) (v1 : Int32) : wpX_addScriptChar (fun r u' => wpY_addScriptChar (fun r' v' => r' = r ∧ i_Rel (k + 2) u' v') v v1) u v1 := by
  have J := I
  clear I
  obtain ⟨Xquiet, Xfuel, XscriptSize, XinputSize, Xcursor, XitemCount, XtablePresent, XcommandCount, XoutputSize, XpatternSize, XholdSize, XlineNumber, XstepCount, XnextLine, Xpointer, Xsubstituted, XresultSize, Xscript, Xinput, Xitems, Xverb, Xnegated, Xeverywhere, XlabelStart, XlabelSize, Xtarget, XreplacementStart, XreplacementEnd, Xreplacement, Xaddress, XstartAnchor, XendAnchor, XatomCount, XatomChar, XatomStarred, Xoutput, Xpattern, Xhold, XactivationLine, Xresult⟩ := u
  obtain ⟨Yquiet, Yfuel, YscrLen, YinpLen, YhasTab, YnCmd, YoutLen, YpatLen, YholdLen, YlinesRead, YstepsUsed, Ytflag, YnAddr, Ya1K, Ya1V, Ya2K, Ya2V, Ycc, YlabS, YlabL, YsRe, YsRep, YadK, YadV, Yneg, YsG, YicN, Yna, YanS, YanE, YmJ, YrLen, Yscr, Yinp, YcmdPos, Yout, Ypat, Yhold, Yactive, Yact, Yic, Yie, YaC, YaAny, YaSt, Yrch, Ynx, Yrb⟩ := v
  have I0 := J
  obtain ⟨F, L, I, o, p, h, hF, hL, hI, ho, hp, hh, hch, ht, hT, rfl, rfl, rfl, rfl, rfl, rfl, rfl, rfl, rfl, rfl, rfl, rfl, rfl, rfl, rfl, rfl, rfl, rfl, rfl, rfl, rfl⟩ := I0
  unfold wpX_addScriptChar
  refine fi_x (fun y => br_f (by decide) (pk_lt L 128 (fun w => ⟨pk_in L 128 w, nm_e (nm_r (nI_1 L) ?_)⟩) (fun w => ?_))) (fun y => br_t rfl ?_)
  · rw [nI_clamp (by omega)]
    refine fi_yaddScriptChar (fun _ => br_t (nI_lt (b := 128) w (by decide)) ⟨pk_in L 128 w, nm_e (nm_r (nI_1 L) ⟨rfl, ?_⟩)⟩) (fun z => absurd y z)
    rw [nI_clamp (by omega)]
    refine ⟨F, L + 1, I, o, p, h, hF, by omega, hI, ho, hp, hh, ?_, Or.inl rfl, fun z => absurd z (by decide), rfl, rfl, rfl, rfl, rfl, rfl, rfl, rfl, rfl, rfl, rfl, rfl, rfl, rfl, rfl, rfl, rfl, rfl, rfl, rfl, rfl⟩
    intro i hi
    by_cases e : i = L
    · rw [e, pk_us]; exact fi_n y
    · rw [pk_un e]; exact hch i (by omega)
  · exact fi_yaddScriptChar (fun _ => br_f (nI_nlt (b := 128) w (by omega)) ⟨rfl, J⟩) (fun z => absurd y z)
  · exact fi_yaddScriptChar (fun z => absurd z y) (fun _ => ⟨rfl, J⟩)
theorem i_vc_clearScript {k : Nat} {u : SX} {v : SY} (I : i_Rel k u v) (hk : k + 2 ≤ 1026) : wpX_clearScript (fun u' => wpY_clearScript (fun v' => i_Rel (k + 2) u' v') v) u := by
  have J := I
  clear I
  obtain ⟨Xquiet, Xfuel, XscriptSize, XinputSize, Xcursor, XitemCount, XtablePresent, XcommandCount, XoutputSize, XpatternSize, XholdSize, XlineNumber, XstepCount, XnextLine, Xpointer, Xsubstituted, XresultSize, Xscript, Xinput, Xitems, Xverb, Xnegated, Xeverywhere, XlabelStart, XlabelSize, Xtarget, XreplacementStart, XreplacementEnd, Xreplacement, Xaddress, XstartAnchor, XendAnchor, XatomCount, XatomChar, XatomStarred, Xoutput, Xpattern, Xhold, XactivationLine, Xresult⟩ := u
  obtain ⟨Yquiet, Yfuel, YscrLen, YinpLen, YhasTab, YnCmd, YoutLen, YpatLen, YholdLen, YlinesRead, YstepsUsed, Ytflag, YnAddr, Ya1K, Ya1V, Ya2K, Ya2V, Ycc, YlabS, YlabL, YsRe, YsRep, YadK, YadV, Yneg, YsG, YicN, Yna, YanS, YanE, YmJ, YrLen, Yscr, Yinp, YcmdPos, Yout, Ypat, Yhold, Yactive, Yact, Yic, Yie, YaC, YaAny, YaSt, Yrch, Ynx, Yrb⟩ := v
  have I0 := J
  obtain ⟨F, L, I, o, p, h, hF, hL, hI, ho, hp, hh, hch, ht, hT, rfl, rfl, rfl, rfl, rfl, rfl, rfl, rfl, rfl, rfl, rfl, rfl, rfl, rfl, rfl, rfl, rfl, rfl, rfl, rfl, rfl⟩ := I0
  exact ⟨F, 0, I, o, p, h, hF, by omega, hI, ho, hp, hh, fun i hi => absurd hi (by omega), Or.inl rfl, fun z => absurd z (by decide), rfl, rfl, rfl, rfl, rfl, rfl, rfl, rfl, rfl, rfl, rfl, rfl, rfl, rfl, rfl, rfl, rfl, rfl, rfl, rfl, rfl⟩
theorem i_vc_addInputChar {k : Nat} {u : SX} {v : SY} (I : i_Rel k u v) (hk : k + 2 ≤ 1026) (v1 : Int32) : wpX_addInputChar (fun r u' => wpY_addInputChar (fun r' v' => r' = r ∧ i_Rel (k + 2) u' v') v v1) u v1 := by
  have J := I
  clear I
  obtain ⟨Xquiet, Xfuel, XscriptSize, XinputSize, Xcursor, XitemCount, XtablePresent, XcommandCount, XoutputSize, XpatternSize, XholdSize, XlineNumber, XstepCount, XnextLine, Xpointer, Xsubstituted, XresultSize, Xscript, Xinput, Xitems, Xverb, Xnegated, Xeverywhere, XlabelStart, XlabelSize, Xtarget, XreplacementStart, XreplacementEnd, Xreplacement, Xaddress, XstartAnchor, XendAnchor, XatomCount, XatomChar, XatomStarred, Xoutput, Xpattern, Xhold, XactivationLine, Xresult⟩ := u
  obtain ⟨Yquiet, Yfuel, YscrLen, YinpLen, YhasTab, YnCmd, YoutLen, YpatLen, YholdLen, YlinesRead, YstepsUsed, Ytflag, YnAddr, Ya1K, Ya1V, Ya2K, Ya2V, Ycc, YlabS, YlabL, YsRe, YsRep, YadK, YadV, Yneg, YsG, YicN, Yna, YanS, YanE, YmJ, YrLen, Yscr, Yinp, YcmdPos, Yout, Ypat, Yhold, Yactive, Yact, Yic, Yie, YaC, YaAny, YaSt, Yrch, Ynx, Yrb⟩ := v
  have I0 := J
  obtain ⟨F, L, I, o, p, h, hF, hL, hI, ho, hp, hh, hch, ht, hT, rfl, rfl, rfl, rfl, rfl, rfl, rfl, rfl, rfl, rfl, rfl, rfl, rfl, rfl, rfl, rfl, rfl, rfl, rfl, rfl, rfl⟩ := I0
  unfold wpX_addInputChar
  refine fi_x (fun y => br_f (by decide) (pk_lt I 128 (fun w => ⟨pk_in I 128 w, nm_e (nm_r (nI_1 I) ?_)⟩) (fun w => ?_))) (fun y => br_t rfl ?_)
  · rw [nI_clamp (by omega)]
    refine fi_yaddInputChar (fun _ => br_t (nI_lt (b := 128) w (by decide)) ⟨pk_in I 128 w, nm_e (nm_r (nI_1 I) ⟨rfl, ?_⟩)⟩) (fun z => absurd y z)
    rw [nI_clamp (by omega)]
    exact ⟨F, L, I + 1, o, p, h, hF, hL, by omega, ho, hp, hh, hch, ht, hT, rfl, rfl, rfl, rfl, rfl, rfl, rfl, rfl, rfl, rfl, rfl, rfl, rfl, rfl, rfl, rfl, rfl, rfl, rfl, rfl, rfl⟩
  · exact fi_yaddInputChar (fun _ => br_f (nI_nlt (b := 128) w (by omega)) ⟨rfl, J⟩) (fun z => absurd y z)
  · exact fi_yaddInputChar (fun z => absurd z y) (fun _ => ⟨rfl, J⟩)
theorem i_vc_clearInput {k : Nat} {u : SX} {v : SY} (I : i_Rel k u v) (hk : k + 2 ≤ 1026) : wpX_clearInput (fun u' => wpY_clearInput (fun v' => i_Rel (k + 2) u' v') v) u := by
  have J := I
  clear I
  obtain ⟨Xquiet, Xfuel, XscriptSize, XinputSize, Xcursor, XitemCount, XtablePresent, XcommandCount, XoutputSize, XpatternSize, XholdSize, XlineNumber, XstepCount, XnextLine, Xpointer, Xsubstituted, XresultSize, Xscript, Xinput, Xitems, Xverb, Xnegated, Xeverywhere, XlabelStart, XlabelSize, Xtarget, XreplacementStart, XreplacementEnd, Xreplacement, Xaddress, XstartAnchor, XendAnchor, XatomCount, XatomChar, XatomStarred, Xoutput, Xpattern, Xhold, XactivationLine, Xresult⟩ := u
  obtain ⟨Yquiet, Yfuel, YscrLen, YinpLen, YhasTab, YnCmd, YoutLen, YpatLen, YholdLen, YlinesRead, YstepsUsed, Ytflag, YnAddr, Ya1K, Ya1V, Ya2K, Ya2V, Ycc, YlabS, YlabL, YsRe, YsRep, YadK, YadV, Yneg, YsG, YicN, Yna, YanS, YanE, YmJ, YrLen, Yscr, Yinp, YcmdPos, Yout, Ypat, Yhold, Yactive, Yact, Yic, Yie, YaC, YaAny, YaSt, Yrch, Ynx, Yrb⟩ := v
  have I0 := J
  obtain ⟨F, L, I, o, p, h, hF, hL, hI, ho, hp, hh, hch, ht, hT, rfl, rfl, rfl, rfl, rfl, rfl, rfl, rfl, rfl, rfl, rfl, rfl, rfl, rfl, rfl, rfl, rfl, rfl, rfl, rfl, rfl⟩ := I0
  exact ⟨F, L, 0, o, p, h, hF, hL, by omega, ho, hp, hh, hch, ht, hT, rfl, rfl, rfl, rfl, rfl, rfl, rfl, rfl, rfl, rfl, rfl, rfl, rfl, rfl, rfl, rfl, rfl, rfl, rfl, rfl, rfl⟩
theorem cq_Nu {s : Nat → Int32} {L n n' : Nat} (h : cq_N s L n) (h' : cq_N s L n') : n' = n := by
  rcases Nat.lt_trichotomy n' n with z | z | z
  · have := (h.1 n' z).1; have := h'.2.1; omega
  · exact z
  · have := (h'.1 n z).1; have := h.2.1; omega
theorem i_vc_compile {k : Nat} {u : SX} {v : SY} (I : i_Rel k u v) (hk : k + 2 ≤ 1026) : wpX_compile (fun r u' => wpY_compile (fun r' v' => r' = r ∧ i_Rel (k + 2) u' v') v) u := by
  have J := I
  clear I
  obtain ⟨Xquiet, Xfuel, XscriptSize, XinputSize, Xcursor, XitemCount, XtablePresent, XcommandCount, XoutputSize, XpatternSize, XholdSize, XlineNumber, XstepCount, XnextLine, Xpointer, Xsubstituted, XresultSize, Xscript, Xinput, Xitems, Xverb, Xnegated, Xeverywhere, XlabelStart, XlabelSize, Xtarget, XreplacementStart, XreplacementEnd, Xreplacement, Xaddress, XstartAnchor, XendAnchor, XatomCount, XatomChar, XatomStarred, Xoutput, Xpattern, Xhold, XactivationLine, Xresult⟩ := u
  obtain ⟨Yquiet, Yfuel, YscrLen, YinpLen, YhasTab, YnCmd, YoutLen, YpatLen, YholdLen, YlinesRead, YstepsUsed, Ytflag, YnAddr, Ya1K, Ya1V, Ya2K, Ya2V, Ycc, YlabS, YlabL, YsRe, YsRep, YadK, YadV, Yneg, YsG, YicN, Yna, YanS, YanE, YmJ, YrLen, Yscr, Yinp, YcmdPos, Yout, Ypat, Yhold, Yactive, Yact, Yic, Yie, YaC, YaAny, YaSt, Yrch, Ynx, Yrb⟩ := v
  have I0 := J
  obtain ⟨F, L, I, o, p, h, hF, hL, hI, ho, hp, hh, hch, ht, hT, rfl, rfl, rfl, rfl, rfl, rfl, rfl, rfl, rfl, rfl, rfl, rfl, rfl, rfl, rfl, rfl, rfl, rfl, rfl, rfl, rfl⟩ := I0
  refine xm_compile hL hch (fun n u' hN l1 l2 hu => ?_) (fun hbad u' hK h0 => ?_)
  · obtain ⟨Xquiet1, Xfuel1, XscriptSize1, XinputSize1, Xcursor1, XitemCount1, XtablePresent1, XcommandCount1, XoutputSize1, XpatternSize1, XholdSize1, XlineNumber1, XstepCount1, XnextLine1, Xpointer1, Xsubstituted1, XresultSize1, Xscript1, Xinput1, Xitems1, Xverb1, Xnegated1, Xeverywhere1, XlabelStart1, XlabelSize1, Xtarget1, XreplacementStart1, XreplacementEnd1, Xreplacement1, Xaddress1, XstartAnchor1, XendAnchor1, XatomCount1, XatomChar1, XatomStarred1, Xoutput1, Xpattern1, Xhold1, XactivationLine1, Xresult1⟩ := u'
    obtain ⟨hK, u1, u2, u3, u4⟩ := hu
    unfold xc_K at hK
    simp only [Prod.mk.injEq] at hK
    obtain ⟨rfl, rfl, rfl, rfl, rfl, rfl, rfl, rfl, rfl, rfl, rfl, rfl, rfl, rfl⟩ := hK
    subst u1 u2
    refine ym_compile hL hch (fun n' cp hN' hl' hcp => ?_) (fun hbad => absurd ⟨l1, l2⟩ (hbad n hN))
    intro YnAddr2 Ya1K2 Ya1V2 Ya2K2 Ya2V2 Ycc2 YlabS2 YlabL2 YsRe2 YsRep2 YadK2 YadV2 Yneg2 YsG2 YicN2 Yna2 YanS2 YanE2 YmJ2 YrLen2 Yic2 Yie2 YaC2 YaAny2 YaSt2 Yrch2 Ynx2 Yrb2
    have e := cq_Nu hN hN'
    subst e
    exact ⟨rfl, ⟨F, L, I, o, p, h, hF, hL, hI, ho, hp, hh, hch, Or.inr rfl, fun _ => ⟨n', hN, rfl, rfl, u3, hcp, u4⟩, rfl, rfl, rfl, rfl, rfl, rfl, rfl, rfl, rfl, rfl, rfl, rfl, rfl, rfl, rfl, rfl, rfl, rfl, rfl, rfl, rfl⟩⟩
  · obtain ⟨Xquiet1, Xfuel1, XscriptSize1, XinputSize1, Xcursor1, XitemCount1, XtablePresent1, XcommandCount1, XoutputSize1, XpatternSize1, XholdSize1, XlineNumber1, XstepCount1, XnextLine1, Xpointer1, Xsubstituted1, XresultSize1, Xscript1, Xinput1, Xitems1, Xverb1, Xnegated1, Xeverywhere1, XlabelStart1, XlabelSize1, Xtarget1, XreplacementStart1, XreplacementEnd1, Xreplacement1, Xaddress1, XstartAnchor1, XendAnchor1, XatomCount1, XatomChar1, XatomStarred1, Xoutput1, Xpattern1, Xhold1, XactivationLine1, Xresult1⟩ := u'
    unfold xc_K at hK
    simp only [Prod.mk.injEq] at hK
    obtain ⟨rfl, rfl, rfl, rfl, rfl, rfl, rfl, rfl, rfl, rfl, rfl, rfl, rfl, rfl⟩ := hK
    have h0 : XtablePresent1 = 0 := h0
    subst h0
    refine ym_compile hL hch (fun n' cp hN' hl' hcp => absurd hl' (hbad n' hN')) (fun _ => ?_)
    intro cp YnAddr2 Ya1K2 Ya1V2 Ya2K2 Ya2V2 Ycc2 YlabS2 YlabL2 YsRe2 YsRep2 YadK2 YadV2 Yneg2 YsG2 YicN2 Yna2 YanS2 YanE2 YmJ2 YrLen2 Yic2 Yie2 YaC2 YaAny2 YaSt2 Yrch2 Ynx2 Yrb2
    exact ⟨rfl, ⟨F, L, I, o, p, h, hF, hL, hI, ho, hp, hh, hch, Or.inl rfl, fun z => absurd z (by decide), rfl, rfl, rfl, rfl, rfl, rfl, rfl, rfl, rfl, rfl, rfl, rfl, rfl, rfl, rfl, rfl, rfl, rfl, rfl, rfl, rfl⟩⟩
theorem i_vc_hasTable {k : Nat} {u : SX} {v : SY} (I : i_Rel k u v) (hk : k + 2 ≤ 1026) : wpX_hasTable (fun r => wpY_hasTable (fun r' => r' = r ∧ i_Rel (k + 2) u v) v) u := by
  have J := I
  clear I
  obtain ⟨Xquiet, Xfuel, XscriptSize, XinputSize, Xcursor, XitemCount, XtablePresent, XcommandCount, XoutputSize, XpatternSize, XholdSize, XlineNumber, XstepCount, XnextLine, Xpointer, Xsubstituted, XresultSize, Xscript, Xinput, Xitems, Xverb, Xnegated, Xeverywhere, XlabelStart, XlabelSize, Xtarget, XreplacementStart, XreplacementEnd, Xreplacement, Xaddress, XstartAnchor, XendAnchor, XatomCount, XatomChar, XatomStarred, Xoutput, Xpattern, Xhold, XactivationLine, Xresult⟩ := u
  obtain ⟨Yquiet, Yfuel, YscrLen, YinpLen, YhasTab, YnCmd, YoutLen, YpatLen, YholdLen, YlinesRead, YstepsUsed, Ytflag, YnAddr, Ya1K, Ya1V, Ya2K, Ya2V, Ycc, YlabS, YlabL, YsRe, YsRep, YadK, YadV, Yneg, YsG, YicN, Yna, YanS, YanE, YmJ, YrLen, Yscr, Yinp, YcmdPos, Yout, Ypat, Yhold, Yactive, Yact, Yic, Yie, YaC, YaAny, YaSt, Yrch, Ynx, Yrb⟩ := v
  have I0 := J
  obtain ⟨F, L, I, o, p, h, hF, hL, hI, ho, hp, hh, hch, ht, hT, rfl, rfl, rfl, rfl, rfl, rfl, rfl, rfl, rfl, rfl, rfl, rfl, rfl, rfl, rfl, rfl, rfl, rfl, rfl, rfl, rfl⟩ := I0
  exact ⟨ba_nb ht, ba_nb ht, rfl, J⟩
theorem rn_out_ok {s inp : Nat → Int32} {L I F n : Nat} {qt : Int32} {tg : Nat → Nat} {D : Nat → cm_T} (ht : ∀ k, k < n → tg k ≤ n) : ∀ g z, rn_ok inp I F z → rn_ok inp I F (rn_out s inp L I F n qt tg D g z).2 := by
  intro g
  induction g with
  | zero => intro z h; exact h
  | succ g ih =>
    intro z h
    have hc := rn_cyc_ok (s := s) (L := L) (qt := qt) (tg := tg) (D := D) ht h
    rw [rn_out]
    split
    · exact ih _ hc.1
    · exact hc.1
def fi_g (s : Nat → Int32) (L : Nat) (tgt : Nat → Int32) (a : Nat) : Nat := if lb_c s L a = 98 ∨ lb_c s L a = 116 then (tgt a).toNatClampNeg else 0
theorem i_vc_run {k : Nat} {u : SX} {v : SY} (I : i_Rel k u v) (hk : k + 2 ≤ 1026) : wpX_run (fun r u' => wpY_run (fun r' v' => r' = r ∧ i_Rel (k + 2) u' v') v) u := by
  have J := I
  clear I
  obtain ⟨Xquiet, Xfuel, XscriptSize, XinputSize, Xcursor, XitemCount, XtablePresent, XcommandCount, XoutputSize, XpatternSize, XholdSize, XlineNumber, XstepCount, XnextLine, Xpointer, Xsubstituted, XresultSize, Xscript, Xinput, Xitems, Xverb, Xnegated, Xeverywhere, XlabelStart, XlabelSize, Xtarget, XreplacementStart, XreplacementEnd, Xreplacement, Xaddress, XstartAnchor, XendAnchor, XatomCount, XatomChar, XatomStarred, Xoutput, Xpattern, Xhold, XactivationLine, Xresult⟩ := u
  obtain ⟨Yquiet, Yfuel, YscrLen, YinpLen, YhasTab, YnCmd, YoutLen, YpatLen, YholdLen, YlinesRead, YstepsUsed, Ytflag, YnAddr, Ya1K, Ya1V, Ya2K, Ya2V, Ycc, YlabS, YlabL, YsRe, YsRep, YadK, YadV, Yneg, YsG, YicN, Yna, YanS, YanE, YmJ, YrLen, Yscr, Yinp, YcmdPos, Yout, Ypat, Yhold, Yactive, Yact, Yic, Yie, YaC, YaAny, YaSt, Yrch, Ynx, Yrb⟩ := v
  have I0 := J
  obtain ⟨F, L, I, o, p, h, hF, hL, hI, ho, hp, hh, hch, ht, hT, rfl, rfl, rfl, rfl, rfl, rfl, rfl, rfl, rfl, rfl, rfl, rfl, rfl, rfl, rfl, rfl, rfl, rfl, rfl, rfl, rfl⟩ := I0
  rcases ht with t0 | t1
  · subst t0
    exact br_t rfl (br_t rfl ⟨rfl, J⟩)
  · subst t1
    obtain ⟨n, hN, rfl, rfl, hTT, hcp, htg⟩ := hT rfl
    obtain ⟨hG, hQ, hn⟩ := hN
    have hg : ∀ a, a < n → (lb_c Xscript L a = 98 ∨ lb_c Xscript L a = 116) → Xtarget a = nI (fi_g Xscript L Xtarget a) ∧ lb_t Xscript L n a (fi_g Xscript L Xtarget a) := by
      intro a ha c
      obtain ⟨t, e, l⟩ := htg a ha c
      have tn : t ≤ n := by
        rcases l with ⟨_, y⟩ | ⟨_, y, _⟩ <;> omega
      have eg : fi_g Xscript L Xtarget a = t := by
        unfold fi_g
        rw [if_pos c, e, nI_clamp (by omega)]
      rw [eg]
      exact ⟨e, l⟩
    have hgn : ∀ a, a < n → fi_g Xscript L Xtarget a ≤ n := by
      intro a ha
      by_cases c : lb_c Xscript L a = 98 ∨ lb_c Xscript L a = 116
      · rcases (hg a ha c).2 with ⟨_, y⟩ | ⟨_, y, _⟩ <;> omega
      · unfold fi_g; rw [if_neg c]; omega
    refine xm_run (tg := fi_g Xscript L Xtarget) (D := cq_D Xscript L) hL hI hF hn (fun a ha => ?_) hgn (fun r Mout1 Mo1 Mpat1 Mp1 Mhold1 Mh1 Mm1 Mq1 Mst1 Mt1 Mac1 pt t rl res hr => ?_)
    · obtain ⟨g1, g2⟩ := hG a ha
      have f := cm_x_f (Nat.le_of_lt g1) g2
      exact ⟨cm_x_ok (Nat.le_of_lt g1) g2, by omega, hTT a ha, fun c => (hg a ha c).1⟩
    · refine ym_run (tg := fi_g Xscript L Xtarget) (Mac := rn_a0 XactivationLine 16) hL hch hI hF hG hn hcp (fun a ha c => (hg a ha c).2) hgn (fun j hj => by unfold rn_a0; rw [if_pos hj]) ?_
      intro r' Mout2 Mo2 Mpat2 Mp2 Mhold2 Mh2 Mm2 Mq2 Mst2 Mt2 Mac2 active act YnAddr2 Ya1K2 Ya1V2 Ya2K2 Ya2V2 Ycc2 YlabS2 YlabL2 YsRe2 YsRep2 YadK2 YadV2 Yneg2 YsG2 YicN2 Yna2 YanS2 YanE2 YmJ2 YrLen2 Yic2 Yie2 YaC2 YaAny2 YaSt2 Yrch2 Ynx2 Yrb2 hr'
      have ok := rn_out_ok (s := Xscript) (L := L) (F := F) (qt := Xquiet) (D := cq_D Xscript L) hgn (I + 2) (Xoutput, 0, Xpattern, 0, Xhold, 0, 0, 0, 0, 0, rn_a0 XactivationLine 16) (inp := Xinput) (I := I) ⟨by omega, by omega, by omega, by omega, ln_0 _ _, Or.inl rfl⟩
      rw [hr] at hr' ok
      simp only [Prod.mk.injEq] at hr'
      obtain ⟨rfl, rfl, rfl, rfl, rfl, rfl, rfl, rfl, rfl, rfl, rfl, rfl⟩ := hr'
      obtain ⟨k1, k2, k3, k4, k5, k6⟩ := ok
      exact ⟨rfl, ⟨F, L, I, Mo1, Mp1, Mh1, hF, hL, hI, k1, k2, k3, hch, Or.inr rfl, fun _ => ⟨n, ⟨hG, hQ, hn⟩, rfl, rfl, hTT, hcp, htg⟩, rfl, rfl, rfl, rfl, rfl, rfl, rfl, rfl, rfl, rfl, rfl, rfl, rfl, rfl, rfl, rfl, rfl, rfl, rfl, rfl, rfl⟩⟩
theorem i_vc_outputLength {k : Nat} {u : SX} {v : SY} (I : i_Rel k u v) (hk : k + 2 ≤ 1026) : wpX_outputLength (fun r => wpY_outputLength (fun r' => r' = r ∧ i_Rel (k + 2) u v) v) u := by
  have J := I
  clear I
  obtain ⟨Xquiet, Xfuel, XscriptSize, XinputSize, Xcursor, XitemCount, XtablePresent, XcommandCount, XoutputSize, XpatternSize, XholdSize, XlineNumber, XstepCount, XnextLine, Xpointer, Xsubstituted, XresultSize, Xscript, Xinput, Xitems, Xverb, Xnegated, Xeverywhere, XlabelStart, XlabelSize, Xtarget, XreplacementStart, XreplacementEnd, Xreplacement, Xaddress, XstartAnchor, XendAnchor, XatomCount, XatomChar, XatomStarred, Xoutput, Xpattern, Xhold, XactivationLine, Xresult⟩ := u
  obtain ⟨Yquiet, Yfuel, YscrLen, YinpLen, YhasTab, YnCmd, YoutLen, YpatLen, YholdLen, YlinesRead, YstepsUsed, Ytflag, YnAddr, Ya1K, Ya1V, Ya2K, Ya2V, Ycc, YlabS, YlabL, YsRe, YsRep, YadK, YadV, Yneg, YsG, YicN, Yna, YanS, YanE, YmJ, YrLen, Yscr, Yinp, YcmdPos, Yout, Ypat, Yhold, Yactive, Yact, Yic, Yie, YaC, YaAny, YaSt, Yrch, Ynx, Yrb⟩ := v
  have I0 := J
  obtain ⟨F, L, I, o, p, h, hF, hL, hI, ho, hp, hh, hch, ht, hT, rfl, rfl, rfl, rfl, rfl, rfl, rfl, rfl, rfl, rfl, rfl, rfl, rfl, rfl, rfl, rfl, rfl, rfl, rfl, rfl, rfl⟩ := I0
  exact ⟨rfl, J⟩
theorem i_vc_outputChar {k : Nat} {u : SX} {v : SY} (I : i_Rel k u v) (hk : k + 2 ≤ 1026) (v1 : Int32) : wpX_outputChar (fun r => wpY_outputChar (fun r' => r' = r ∧ i_Rel (k + 2) u v) v v1) u v1 := by
  have J := I
  clear I
  obtain ⟨Xquiet, Xfuel, XscriptSize, XinputSize, Xcursor, XitemCount, XtablePresent, XcommandCount, XoutputSize, XpatternSize, XholdSize, XlineNumber, XstepCount, XnextLine, Xpointer, Xsubstituted, XresultSize, Xscript, Xinput, Xitems, Xverb, Xnegated, Xeverywhere, XlabelStart, XlabelSize, Xtarget, XreplacementStart, XreplacementEnd, Xreplacement, Xaddress, XstartAnchor, XendAnchor, XatomCount, XatomChar, XatomStarred, Xoutput, Xpattern, Xhold, XactivationLine, Xresult⟩ := u
  obtain ⟨Yquiet, Yfuel, YscrLen, YinpLen, YhasTab, YnCmd, YoutLen, YpatLen, YholdLen, YlinesRead, YstepsUsed, Ytflag, YnAddr, Ya1K, Ya1V, Ya2K, Ya2V, Ycc, YlabS, YlabL, YsRe, YsRep, YadK, YadV, Yneg, YsG, YicN, Yna, YanS, YanE, YmJ, YrLen, Yscr, Yinp, YcmdPos, Yout, Ypat, Yhold, Yactive, Yact, Yic, Yie, YaC, YaAny, YaSt, Yrch, Ynx, Yrb⟩ := v
  have I0 := J
  obtain ⟨F, L, I, o, p, h, hF, hL, hI, ho, hp, hh, hch, ht, hT, rfl, rfl, rfl, rfl, rfl, rfl, rfl, rfl, rfl, rfl, rfl, rfl, rfl, rfl, rfl, rfl, rfl, rfl, rfl, rfl, rfl⟩ := I0
  unfold wpX_outputChar wpX_charOrRefused__output
  by_cases a : v1 < 0
  · exact br_t a (br_t a ⟨rfl, J⟩)
  · refine br_f a ?_
    by_cases b : v1 < nI o
    · obtain ⟨j, hj, rfl⟩ := nI_of a
      have hj2 := (nI_ltI hj (by omega)).mp b
      have vi : vp_in (nI j) 256 := vp_in_nI (by omega) (by omega)
      exact br_t b ⟨vi, br_f a (br_t b ⟨vi, rfl, J⟩)⟩
    · exact br_f b (br_f a (br_f b ⟨rfl, J⟩))
theorem i_vc_patternLength {k : Nat} {u : SX} {v : SY} (I : i_Rel k u v) (hk : k + 2 ≤ 1026) : wpX_patternLength (fun r => wpY_patternLength (fun r' => r' = r ∧ i_Rel (k + 2) u v) v) u := by
  have J := I
  clear I
  obtain ⟨Xquiet, Xfuel, XscriptSize, XinputSize, Xcursor, XitemCount, XtablePresent, XcommandCount, XoutputSize, XpatternSize, XholdSize, XlineNumber, XstepCount, XnextLine, Xpointer, Xsubstituted, XresultSize, Xscript, Xinput, Xitems, Xverb, Xnegated, Xeverywhere, XlabelStart, XlabelSize, Xtarget, XreplacementStart, XreplacementEnd, Xreplacement, Xaddress, XstartAnchor, XendAnchor, XatomCount, XatomChar, XatomStarred, Xoutput, Xpattern, Xhold, XactivationLine, Xresult⟩ := u
  obtain ⟨Yquiet, Yfuel, YscrLen, YinpLen, YhasTab, YnCmd, YoutLen, YpatLen, YholdLen, YlinesRead, YstepsUsed, Ytflag, YnAddr, Ya1K, Ya1V, Ya2K, Ya2V, Ycc, YlabS, YlabL, YsRe, YsRep, YadK, YadV, Yneg, YsG, YicN, Yna, YanS, YanE, YmJ, YrLen, Yscr, Yinp, YcmdPos, Yout, Ypat, Yhold, Yactive, Yact, Yic, Yie, YaC, YaAny, YaSt, Yrch, Ynx, Yrb⟩ := v
  have I0 := J
  obtain ⟨F, L, I, o, p, h, hF, hL, hI, ho, hp, hh, hch, ht, hT, rfl, rfl, rfl, rfl, rfl, rfl, rfl, rfl, rfl, rfl, rfl, rfl, rfl, rfl, rfl, rfl, rfl, rfl, rfl, rfl, rfl⟩ := I0
  exact ⟨rfl, J⟩
theorem i_vc_patternChar {k : Nat} {u : SX} {v : SY} (I : i_Rel k u v) (hk : k + 2 ≤ 1026) (v1 : Int32) : wpX_patternChar (fun r => wpY_patternChar (fun r' => r' = r ∧ i_Rel (k + 2) u v) v v1) u v1 := by
  have J := I
  clear I
  obtain ⟨Xquiet, Xfuel, XscriptSize, XinputSize, Xcursor, XitemCount, XtablePresent, XcommandCount, XoutputSize, XpatternSize, XholdSize, XlineNumber, XstepCount, XnextLine, Xpointer, Xsubstituted, XresultSize, Xscript, Xinput, Xitems, Xverb, Xnegated, Xeverywhere, XlabelStart, XlabelSize, Xtarget, XreplacementStart, XreplacementEnd, Xreplacement, Xaddress, XstartAnchor, XendAnchor, XatomCount, XatomChar, XatomStarred, Xoutput, Xpattern, Xhold, XactivationLine, Xresult⟩ := u
  obtain ⟨Yquiet, Yfuel, YscrLen, YinpLen, YhasTab, YnCmd, YoutLen, YpatLen, YholdLen, YlinesRead, YstepsUsed, Ytflag, YnAddr, Ya1K, Ya1V, Ya2K, Ya2V, Ycc, YlabS, YlabL, YsRe, YsRep, YadK, YadV, Yneg, YsG, YicN, Yna, YanS, YanE, YmJ, YrLen, Yscr, Yinp, YcmdPos, Yout, Ypat, Yhold, Yactive, Yact, Yic, Yie, YaC, YaAny, YaSt, Yrch, Ynx, Yrb⟩ := v
  have I0 := J
  obtain ⟨F, L, I, o, p, h, hF, hL, hI, ho, hp, hh, hch, ht, hT, rfl, rfl, rfl, rfl, rfl, rfl, rfl, rfl, rfl, rfl, rfl, rfl, rfl, rfl, rfl, rfl, rfl, rfl, rfl, rfl, rfl⟩ := I0
  unfold wpX_patternChar wpX_charOrRefused__pattern
  by_cases a : v1 < 0
  · exact br_t a (br_t a ⟨rfl, J⟩)
  · refine br_f a ?_
    by_cases b : v1 < nI p
    · obtain ⟨j, hj, rfl⟩ := nI_of a
      have hj2 := (nI_ltI hj (by omega)).mp b
      have vi : vp_in (nI j) 64 := vp_in_nI (by omega) (by omega)
      exact br_t b ⟨vi, br_f a (br_t b ⟨vi, rfl, J⟩)⟩
    · exact br_f b (br_f a (br_f b ⟨rfl, J⟩))
theorem i_vc_holdLength {k : Nat} {u : SX} {v : SY} (I : i_Rel k u v) (hk : k + 2 ≤ 1026) : wpX_holdLength (fun r => wpY_holdLength (fun r' => r' = r ∧ i_Rel (k + 2) u v) v) u := by
  have J := I
  clear I
  obtain ⟨Xquiet, Xfuel, XscriptSize, XinputSize, Xcursor, XitemCount, XtablePresent, XcommandCount, XoutputSize, XpatternSize, XholdSize, XlineNumber, XstepCount, XnextLine, Xpointer, Xsubstituted, XresultSize, Xscript, Xinput, Xitems, Xverb, Xnegated, Xeverywhere, XlabelStart, XlabelSize, Xtarget, XreplacementStart, XreplacementEnd, Xreplacement, Xaddress, XstartAnchor, XendAnchor, XatomCount, XatomChar, XatomStarred, Xoutput, Xpattern, Xhold, XactivationLine, Xresult⟩ := u
  obtain ⟨Yquiet, Yfuel, YscrLen, YinpLen, YhasTab, YnCmd, YoutLen, YpatLen, YholdLen, YlinesRead, YstepsUsed, Ytflag, YnAddr, Ya1K, Ya1V, Ya2K, Ya2V, Ycc, YlabS, YlabL, YsRe, YsRep, YadK, YadV, Yneg, YsG, YicN, Yna, YanS, YanE, YmJ, YrLen, Yscr, Yinp, YcmdPos, Yout, Ypat, Yhold, Yactive, Yact, Yic, Yie, YaC, YaAny, YaSt, Yrch, Ynx, Yrb⟩ := v
  have I0 := J
  obtain ⟨F, L, I, o, p, h, hF, hL, hI, ho, hp, hh, hch, ht, hT, rfl, rfl, rfl, rfl, rfl, rfl, rfl, rfl, rfl, rfl, rfl, rfl, rfl, rfl, rfl, rfl, rfl, rfl, rfl, rfl, rfl⟩ := I0
  exact ⟨rfl, J⟩
theorem i_vc_holdChar {k : Nat} {u : SX} {v : SY} (I : i_Rel k u v) (hk : k + 2 ≤ 1026) (v1 : Int32) : wpX_holdChar (fun r => wpY_holdChar (fun r' => r' = r ∧ i_Rel (k + 2) u v) v v1) u v1 := by
  have J := I
  clear I
  obtain ⟨Xquiet, Xfuel, XscriptSize, XinputSize, Xcursor, XitemCount, XtablePresent, XcommandCount, XoutputSize, XpatternSize, XholdSize, XlineNumber, XstepCount, XnextLine, Xpointer, Xsubstituted, XresultSize, Xscript, Xinput, Xitems, Xverb, Xnegated, Xeverywhere, XlabelStart, XlabelSize, Xtarget, XreplacementStart, XreplacementEnd, Xreplacement, Xaddress, XstartAnchor, XendAnchor, XatomCount, XatomChar, XatomStarred, Xoutput, Xpattern, Xhold, XactivationLine, Xresult⟩ := u
  obtain ⟨Yquiet, Yfuel, YscrLen, YinpLen, YhasTab, YnCmd, YoutLen, YpatLen, YholdLen, YlinesRead, YstepsUsed, Ytflag, YnAddr, Ya1K, Ya1V, Ya2K, Ya2V, Ycc, YlabS, YlabL, YsRe, YsRep, YadK, YadV, Yneg, YsG, YicN, Yna, YanS, YanE, YmJ, YrLen, Yscr, Yinp, YcmdPos, Yout, Ypat, Yhold, Yactive, Yact, Yic, Yie, YaC, YaAny, YaSt, Yrch, Ynx, Yrb⟩ := v
  have I0 := J
  obtain ⟨F, L, I, o, p, h, hF, hL, hI, ho, hp, hh, hch, ht, hT, rfl, rfl, rfl, rfl, rfl, rfl, rfl, rfl, rfl, rfl, rfl, rfl, rfl, rfl, rfl, rfl, rfl, rfl, rfl, rfl, rfl⟩ := I0
  unfold wpX_holdChar wpX_charOrRefused__hold
  by_cases a : v1 < 0
  · exact br_t a (br_t a ⟨rfl, J⟩)
  · refine br_f a ?_
    by_cases b : v1 < nI h
    · obtain ⟨j, hj, rfl⟩ := nI_of a
      have hj2 := (nI_ltI hj (by omega)).mp b
      have vi : vp_in (nI j) 64 := vp_in_nI (by omega) (by omega)
      exact br_t b ⟨vi, br_f a (br_t b ⟨vi, rfl, J⟩)⟩
    · exact br_f b (br_f a (br_f b ⟨rfl, J⟩))
theorem i_vc_linesRead {k : Nat} {u : SX} {v : SY} (I : i_Rel k u v) (hk : k + 2 ≤ 1026) : wpX_linesRead (fun r => wpY_linesRead (fun r' => r' = r ∧ i_Rel (k + 2) u v) v) u := by
  have J := I
  clear I
  obtain ⟨Xquiet, Xfuel, XscriptSize, XinputSize, Xcursor, XitemCount, XtablePresent, XcommandCount, XoutputSize, XpatternSize, XholdSize, XlineNumber, XstepCount, XnextLine, Xpointer, Xsubstituted, XresultSize, Xscript, Xinput, Xitems, Xverb, Xnegated, Xeverywhere, XlabelStart, XlabelSize, Xtarget, XreplacementStart, XreplacementEnd, Xreplacement, Xaddress, XstartAnchor, XendAnchor, XatomCount, XatomChar, XatomStarred, Xoutput, Xpattern, Xhold, XactivationLine, Xresult⟩ := u
  obtain ⟨Yquiet, Yfuel, YscrLen, YinpLen, YhasTab, YnCmd, YoutLen, YpatLen, YholdLen, YlinesRead, YstepsUsed, Ytflag, YnAddr, Ya1K, Ya1V, Ya2K, Ya2V, Ycc, YlabS, YlabL, YsRe, YsRep, YadK, YadV, Yneg, YsG, YicN, Yna, YanS, YanE, YmJ, YrLen, Yscr, Yinp, YcmdPos, Yout, Ypat, Yhold, Yactive, Yact, Yic, Yie, YaC, YaAny, YaSt, Yrch, Ynx, Yrb⟩ := v
  have I0 := J
  obtain ⟨F, L, I, o, p, h, hF, hL, hI, ho, hp, hh, hch, ht, hT, rfl, rfl, rfl, rfl, rfl, rfl, rfl, rfl, rfl, rfl, rfl, rfl, rfl, rfl, rfl, rfl, rfl, rfl, rfl, rfl, rfl⟩ := I0
  exact ⟨rfl, J⟩
theorem i_vc_stepsUsed {k : Nat} {u : SX} {v : SY} (I : i_Rel k u v) (hk : k + 2 ≤ 1026) : wpX_stepsUsed (fun r => wpY_stepsUsed (fun r' => r' = r ∧ i_Rel (k + 2) u v) v) u := by
  have J := I
  clear I
  obtain ⟨Xquiet, Xfuel, XscriptSize, XinputSize, Xcursor, XitemCount, XtablePresent, XcommandCount, XoutputSize, XpatternSize, XholdSize, XlineNumber, XstepCount, XnextLine, Xpointer, Xsubstituted, XresultSize, Xscript, Xinput, Xitems, Xverb, Xnegated, Xeverywhere, XlabelStart, XlabelSize, Xtarget, XreplacementStart, XreplacementEnd, Xreplacement, Xaddress, XstartAnchor, XendAnchor, XatomCount, XatomChar, XatomStarred, Xoutput, Xpattern, Xhold, XactivationLine, Xresult⟩ := u
  obtain ⟨Yquiet, Yfuel, YscrLen, YinpLen, YhasTab, YnCmd, YoutLen, YpatLen, YholdLen, YlinesRead, YstepsUsed, Ytflag, YnAddr, Ya1K, Ya1V, Ya2K, Ya2V, Ycc, YlabS, YlabL, YsRe, YsRep, YadK, YadV, Yneg, YsG, YicN, Yna, YanS, YanE, YmJ, YrLen, Yscr, Yinp, YcmdPos, Yout, Ypat, Yhold, Yactive, Yact, Yic, Yie, YaC, YaAny, YaSt, Yrch, Ynx, Yrb⟩ := v
  have I0 := J
  obtain ⟨F, L, I, o, p, h, hF, hL, hI, ho, hp, hh, hch, ht, hT, rfl, rfl, rfl, rfl, rfl, rfl, rfl, rfl, rfl, rfl, rfl, rfl, rfl, rfl, rfl, rfl, rfl, rfl, rfl, rfl, rfl⟩ := I0
  exact ⟨rfl, J⟩
end FI_1
end
