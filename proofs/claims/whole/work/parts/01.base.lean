-- part 01: rows taken from kit/rows (stores, numbers, branches, bits), then scans
theorem pk_us {f : Nat → Int32} {k : Nat} {x : Int32} : upd f k x k = x := if_pos rfl
theorem pk_un {f : Nat → Int32} {k j : Nat} {x : Int32} (h : j ≠ k) : upd f k x j = f j := if_neg h
theorem pk_sub {a b : Nat} (h : b ≤ a) : nI a - nI b = nI (a - b) := by
  obtain ⟨c, rfl⟩ : ∃ c, a = c + b := ⟨a - b, by omega⟩
  rw [← nI_add, Int32.add_sub_cancel, Nat.add_sub_cancel]
theorem pk_m1 (n : Nat) : nI (n + 1) + (-1) = nI n := by
  rw [← nI_1, Int32.add_assoc, show (1 : Int32) + (-1) = 0 from rfl, Int32.add_zero]
theorem pk_mul (a b : Nat) : nI a * nI b = nI (a * b) := (Int32.ofNat_mul a b).symm
theorem pk_div {a d : Nat} (ha : a < 2 ^ 31) (h0 : 0 < d) (hd : d < 2 ^ 31) : nI a / nI d = nI (a / d) := by
  apply Int32.toInt_inj.mp
  rw [lg_idiv_nonneg (by rw [nI_toInt ha]; omega) (by rw [nI_toInt hd]; omega), nI_toInt ha, nI_toInt hd, nI_toInt (Nat.lt_of_le_of_lt (Nat.div_le_self a d) ha)]
  first | rfl | exact (Int.natCast_ediv _ _).symm
theorem pk_rem {a d : Nat} (ha : a < 2 ^ 31) (h0 : 0 < d) (hd : d < 2 ^ 31) : nI a - nI a / nI d * nI d = nI (a % d) := by
  rw [pk_div ha h0 hd, pk_mul, pk_sub (Nat.div_mul_le_self a d)]
  exact congrArg nI (by have := Nat.div_add_mod' a d; omega)
theorem pk_sub_toInt {a b : Nat} (ha : a < 2 ^ 30) (hb : b < 2 ^ 30) : (nI a - nI b).toInt = (a : Int) - b := by
  rw [Int32.toInt_sub, nI_toInt (by omega), nI_toInt (by omega)]
  exact Int.bmod_eq_of_le (by omega) (by omega)
theorem pk_sneg {a b : Nat} (hb : b < 2 ^ 30) (h : a < b) : nI a - nI b < 0 := by
  rw [Int32.lt_iff_toInt_lt, pk_sub_toInt (by omega) hb, show (0 : Int32).toInt = 0 from by decide]
  omega
theorem pk_ix (x : Int32) {n : Nat} (hn : n < 2 ^ 31) : x < 0 ∨ nI n ≤ x ∨ ∃ j : Nat, j < n ∧ x = nI j := by
  by_cases h : x < 0
  · exact Or.inl h
  · obtain ⟨j, hj, rfl⟩ := nI_of h
    by_cases h2 : j < n
    · exact Or.inr (Or.inr ⟨j, h2, rfl⟩)
    · exact Or.inr (Or.inl (nI_le (by omega) hj))
theorem pk_le {x y : Int32} {A B : Prop} (a b : Nat) (f : a ≤ b → A) (g : b < a → B) (hx : x = nI a := by rfl) (hy : y = nI b := by rfl) (ha : a < 2 ^ 31 := by omega) (hb : b < 2 ^ 31 := by omega) : (x ≤ y → A) ∧ (¬ x ≤ y → B) := by
  subst hx hy
  rw [nI_leI ha hb]
  exact ⟨f, fun z => g (by omega)⟩
theorem pk_lt {x y : Int32} {A B : Prop} (a b : Nat) (f : a < b → A) (g : b ≤ a → B) (hx : x = nI a := by rfl) (hy : y = nI b := by rfl) (ha : a < 2 ^ 31 := by omega) (hb : b < 2 ^ 31 := by omega) : (x < y → A) ∧ (¬ x < y → B) := by
  subst hx hy
  rw [nI_ltI ha hb]
  exact ⟨f, fun z => g (by omega)⟩
theorem pk_eq {x y : Int32} {A B : Prop} (a b : Nat) (f : a = b → A) (g : a ≠ b → B) (hx : x = nI a := by rfl) (hy : y = nI b := by rfl) (ha : a < 2 ^ 31 := by omega) (hb : b < 2 ^ 31 := by omega) : (x = y → A) ∧ (¬ x = y → B) := by
  subst hx hy
  rw [nI_eq ha hb]
  exact ⟨f, g⟩
theorem pk_in {x : Int32} (n N : Nat) (h : n < N) (hx : x = nI n := by rfl) (hN : N < 2 ^ 31 := by omega) : vp_in x N := by
  subst hx
  exact vp_in_nI h hN
theorem pk_cl {x : Int32} (n : Nat) (hx : x = nI n := by rfl) (h : n < 2 ^ 31 := by omega) : x.toNatClampNeg = n := by
  subst hx
  exact nI_clamp h
theorem pk_tn {n : Nat} (h : n < 2 ^ 32) : (nI n).toBitVec.toNat = n := Nat.mod_eq_of_lt h
def bt (x : Int32) (i : Nat) : Bool := x.toBitVec.getLsbD i
theorem b_ext {x y : Int32} (h : ∀ i, i < 32 → bt x i = bt y i) : x = y := Int32.toBitVec_inj.mp (BitVec.eq_of_getLsbD_eq (fun i hi => h i hi))
theorem b_or (x y : Int32) (i : Nat) : bt (x ||| y) i = (bt x i || bt y i) := by unfold bt; rw [Int32.toBitVec_or, BitVec.getLsbD_or]
theorem b_and (x y : Int32) (i : Nat) : bt (x &&& y) i = (bt x i && bt y i) := by unfold bt; rw [Int32.toBitVec_and, BitVec.getLsbD_and]
theorem b_xor (x y : Int32) (i : Nat) : bt (x ^^^ y) i = (bt x i ^^ bt y i) := by unfold bt; rw [Int32.toBitVec_xor, BitVec.getLsbD_xor]
theorem b_big {x : Int32} {i : Nat} (h : 32 ≤ i) : bt x i = false := BitVec.getLsbD_of_ge _ _ h
theorem b_255 (i : Nat) : bt 255 i = decide (i < 8) := by
  rcases Nat.lt_or_ge i 32 with h | h
  · exact (by decide +kernel : ∀ i, i < 32 → bt 255 i = decide (i < 8)) i h
  · rw [b_big h, decide_eq_false (by omega)]
theorem b_65535 (i : Nat) : bt 65535 i = decide (i < 16) := by
  rcases Nat.lt_or_ge i 32 with h | h
  · exact (by decide +kernel : ∀ i, i < 32 → bt 65535 i = decide (i < 16)) i h
  · rw [b_big h, decide_eq_false (by omega)]
theorem b_m1 : ∀ i, i < 32 → bt (-1) i = true := by decide +kernel
theorem b_0 (i : Nat) : bt 0 i = false := BitVec.getLsbD_zero
theorem s_l : ∀ n, n < 32 → ((nI n &&& 31).toBitVec.smod 32).toNat = n := by decide +kernel
theorem s_u : ∀ n, n < 32 → (((nI n).toUInt32 &&& Int32.toUInt32 31).toBitVec % 32).toNat = n := by decide +kernel
theorem b_shl (n : Nat) (hn : n < 32) (x : Int32) {i : Nat} (hi : i < 32) : bt (x <<< (nI n &&& 31)) i = (decide (n ≤ i) && bt x (i - n)) := by
  unfold bt
  rw [Int32.toBitVec_shiftLeft]
  show (x.toBitVec <<< ((nI n &&& 31).toBitVec.smod 32).toNat).getLsbD i = _
  rw [s_l n hn, BitVec.getLsbD_shiftLeft]
  rcases Nat.lt_or_ge i n with h | h
  · simp [h, Nat.not_le.mpr h]
  · simp [hi, h, Nat.not_lt.mpr h]
theorem b_ushr (n : Nat) (hn : n < 32) (x : Int32) (i : Nat) : bt ((x.toUInt32 >>> ((nI n).toUInt32 &&& Int32.toUInt32 31)).toInt32) i = bt x (n + i) := by
  show (x.toUInt32 >>> ((nI n).toUInt32 &&& Int32.toUInt32 31)).toBitVec.getLsbD i = x.toUInt32.toBitVec.getLsbD (n + i)
  rw [UInt32.toBitVec_shiftRight]
  show (x.toUInt32.toBitVec >>> (((nI n).toUInt32 &&& Int32.toUInt32 31).toBitVec % 32).toNat).getLsbD i = _
  rw [s_u n hn, BitVec.getLsbD_ushiftRight]
theorem b_sshr (n : Nat) (hn : n < 32) (x : Int32) {i : Nat} (hi : i < 32) : bt (x >>> (nI n &&& 31)) i = if n + i < 32 then bt x (n + i) else bt x 31 := by
  unfold bt
  rw [Int32.toBitVec_shiftRight]
  show (x.toBitVec.sshiftRight ((nI n &&& 31).toBitVec.smod 32).toNat).getLsbD i = _
  rw [s_l n hn, BitVec.getLsbD_sshiftRight, BitVec.msb_eq_getLsbD_last]
  simp [hi]
theorem b_shl8 (x : Int32) {i : Nat} (hi : i < 32) : bt (x <<< ((8 : Int32) &&& 31)) i = (decide (8 ≤ i) && bt x (i - 8)) := b_shl 8 (by omega) x hi
theorem b_shl16 (x : Int32) {i : Nat} (hi : i < 32) : bt (x <<< ((16 : Int32) &&& 31)) i = (decide (16 ≤ i) && bt x (i - 16)) := b_shl 16 (by omega) x hi
/-! scans: from q on, as long as P holds, not beyond L -/
theorem ba_vb0 : vp_nar .boolean 0 = 0 := rfl
theorem ba_vb1 : vp_nar .boolean 1 = 1 := rfl
theorem ba_nb0 : narrow .boolean (.int 0) = .int 0 := rfl
theorem ba_nb1 : narrow .boolean (.int 1) = .int 1 := rfl
theorem ba_nb {z : Int32} (h : z = 0 ∨ z = 1) : narrow .boolean (.int z) = .int z := by
  rcases h with rfl | rfl <;> rfl
theorem ba_vb {z : Int32} (h : z = 0 ∨ z = 1) : vp_nar .boolean z = z := by
  rcases h with rfl | rfl <;> rfl
theorem ba_fb {z : Int32} (h : z = 0 ∨ z = 1) : fits .boolean (.int z) = true := by
  rcases h with rfl | rfl <;> rfl
def sc_to (P : Nat → Bool) : Nat → Nat → Nat
  | 0, q => q
  | d + 1, q => if P q = true then sc_to P d (q + 1) else q
def sc_e (P : Nat → Bool) (L q : Nat) : Nat := sc_to P (L - q) q
theorem sc_go {P : Nat → Bool} {L q : Nat} (h : q < L) (hp : P q = true) : sc_e P L q = sc_e P L (q + 1) := by
  unfold sc_e
  obtain ⟨d, hd⟩ : ∃ d, L - q = d + 1 := ⟨L - q - 1, by omega⟩
  rw [hd, show L - (q + 1) = d from by omega, sc_to, if_pos hp]
theorem sc_st {P : Nat → Bool} {L q : Nat} (h : q < L → P q = false) : sc_e P L q = q := by
  unfold sc_e
  rcases Nat.lt_or_ge q L with g | g
  · obtain ⟨d, hd⟩ : ∃ d, L - q = d + 1 := ⟨L - q - 1, by omega⟩
    rw [hd, sc_to, if_neg (by rw [h g]; exact Bool.false_ne_true)]
  · rw [show L - q = 0 from by omega, sc_to]
theorem sc_ind {P : Nat → Bool} {L : Nat} (M : Nat → Nat → Prop) (h1 : ∀ q, q ≤ L → (q < L → P q = false) → M q q) (h2 : ∀ q e, q < L → P q = true → M (q + 1) e → M q e) : ∀ d q, q ≤ L → L - q = d → M q (sc_e P L q) := by
  intro d
  induction d with
  | zero =>
    intro q hq hd
    rw [sc_st (fun h => absurd h (by omega))]
    exact h1 q hq (fun h => absurd h (by omega))
  | succ d ih =>
    intro q hq hd
    cases hp : P q
    · rw [sc_st (fun _ => hp)]
      exact h1 q hq (fun _ => hp)
    · rw [sc_go (by omega) hp]
      exact h2 q _ (by omega) hp (ih (q + 1) (by omega) (by omega))
theorem sc_loop (W : Nat → Nat → Prop) (P : Nat → Bool) (L : Nat) (R : Nat → Prop) (hs : ∀ n q, q < L → P q = true → W n (q + 1) → W (n + 1) q) (hx : ∀ n q, q ≤ L → (q < L → P q = false) → R q → W (n + 1) q) : ∀ n q, q ≤ L → L - q < n → R (sc_e P L q) → W n q := by
  intro n
  induction n with
  | zero => intro q _ h; omega
  | succ n ih =>
    intro q hq hn hR
    rcases Nat.lt_or_ge q L with g | g
    · cases hp : P q
      · rw [sc_st (fun _ => hp)] at hR
        exact hx n q hq (fun _ => hp) hR
      · rw [sc_go g hp] at hR
        exact hs n q g hp (ih (q + 1) (by omega) (by omega) hR)
    · rw [sc_st (fun h => absurd h (by omega))] at hR
      exact hx n q hq (fun h => absurd h (by omega)) hR
theorem sc_facts {P : Nat → Bool} {L q : Nat} (hq : q ≤ L) : q ≤ sc_e P L q ∧ sc_e P L q ≤ L ∧ (∀ j, q ≤ j → j < sc_e P L q → P j = true) ∧ (sc_e P L q < L → P (sc_e P L q) = false) := by
  refine sc_ind (P := P) (L := L) (fun q e => q ≤ e ∧ e ≤ L ∧ (∀ j, q ≤ j → j < e → P j = true) ∧ (e < L → P e = false)) ?_ ?_ (L - q) q hq rfl
  · intro q hq h
    exact ⟨Nat.le_refl _, hq, fun j a b => absurd b (by omega), h⟩
  · intro q e hq hp h
    refine ⟨by omega, h.2.1, fun j a b => ?_, h.2.2.2⟩
    by_cases z : j = q
    · rw [z]; exact hp
    · exact h.2.2.1 j (by omega) b
theorem sc_le {P : Nat → Bool} {L q : Nat} (hq : q ≤ L) : sc_e P L q ≤ L := (sc_facts hq).2.1
theorem sc_ge {P : Nat → Bool} {L q : Nat} (hq : q ≤ L) : q ≤ sc_e P L q := (sc_facts hq).1
/-- a chars' array: below L every char is a small number -/
def ch_ok (s : Nat → Int32) (L : Nat) : Prop := ∀ i, i < L → ∃ m : Nat, m < 128 ∧ s i = nI m
def pb_b (s : Nat → Int32) (i : Nat) : Bool := decide (s i = 32)
def pb_z (s : Nat → Int32) (i : Nat) : Bool := decide (s i = 32 ∨ s i = 59 ∨ s i = 10)
def pb_d (s : Nat → Int32) (i : Nat) : Bool := decide (48 ≤ s i ∧ s i ≤ 57)
def pb_l (s : Nat → Int32) (i : Nat) : Bool := decide ((65 ≤ s i ∧ s i ≤ 90) ∨ (97 ≤ s i ∧ s i ≤ 122) ∨ (48 ≤ s i ∧ s i ≤ 57) ∨ s i = 95)
def pb_n (s : Nat → Int32) (i : Nat) : Bool := decide (¬ s i = 10)
