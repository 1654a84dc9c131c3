/-! the run as a pure machine: its state (Mout, Mo, Mpat, Mp, Mhold, Mh, Mm, Mq, Mst, Mt, Mac) is output and its length, pattern space and its length, hold space and its length, lines read, the next line's start, steps, the t flag, the activation lines -/
abbrev rn_T : Type := (Nat → Int32) × Nat × (Nat → Int32) × Nat × (Nat → Int32) × Nat × Nat × Nat × Nat × Int32 × (Nat → Int32)
abbrev cm_T : Type := (Nat × (Nat × Int32) × (Nat × Int32) × Int32 × Nat) × Int32 × ((Nat × Nat) × (Nat × Nat × Nat × Int32) × Nat) × Nat
/-- n cells of f from a on, copied into g from b on -/
def cp_y (f : Nat → Int32) (a : Nat) (g : Nat → Int32) (b n : Nat) : Nat → Int32 := fun j => if b ≤ j ∧ j < b + n then f (a + (j - b)) else g j
theorem cp_0 (f : Nat → Int32) (a : Nat) (g : Nat → Int32) (b : Nat) : cp_y f a g b 0 = g := by
  funext j
  unfold cp_y
  rw [if_neg (by omega)]
theorem cp_s (f : Nat → Int32) (a : Nat) (g : Nat → Int32) (b n : Nat) : upd (cp_y f a g b n) (b + n) (f (a + n)) = cp_y f a g b (n + 1) := by
  funext j
  unfold cp_y upd
  by_cases h : j = b + n
  · rw [if_pos h, if_pos (by omega), h, Nat.add_sub_cancel_left]
  · rw [if_neg h]
    dsimp only
    by_cases h2 : b ≤ j ∧ j < b + n
    · rw [if_pos h2, if_pos (by omega)]
    · rw [if_neg h2, if_neg (by omega)]
theorem cp_u (f : Nat → Int32) (a : Nat) (g : Nat → Int32) (b n k : Nat) (x : Int32) (h : k < b) : cp_y f a (upd g k x) b n = upd (cp_y f a g b n) k x := by
  funext j
  unfold cp_y upd
  by_cases h1 : j = k
  · rw [if_pos h1, if_neg (by omega), if_pos h1]
  · rw [if_neg h1, if_neg h1]
theorem cp_c {f f' : Nat → Int32} {a : Nat} {g : Nat → Int32} {b n : Nat} (h : ∀ j, j < n → f (a + j) = f' (a + j)) : cp_y f a g b n = cp_y f' a g b n := by
  funext j
  unfold cp_y
  split
  · exact h (j - b) (by omega)
  · rfl
/-! substitution -/
/-- the chars of T from a to b -/
def sl_x (T : Nat → Int32) (a : Nat) : Nat → List Int32
  | 0 => []
  | n + 1 => sl_x T a n ++ [T (a + n)]
/-- the first t items of the replacement at rp, for the match i to j -/
def sl_r (s T : Nat → Int32) (rp i j : Nat) : Nat → List Int32
  | 0 => []
  | t + 1 => sl_r s T rp i j t ++ (if tb_c s (tx_p s rp t) = -1 then sl_x T i (j - i) else [tb_c s (tx_p s rp t)])
/-- the loop: from place p, with R so far -/
def sb_x (s : Nat → Int32) (L : Nat) (T : Nat → Int32) (n : Nat) (g : Nat × Nat × Nat × Nat × (Nat → Int32) × (Nat → Int32)) (rp rn : Nat) (ev : Int32) : Nat → Nat → List Int32 → Int32 → Nat × List Int32 × Int32
  | 0, p, R, tk => (p, R, tk)
  | f + 1, p, R, tk => match mt_1 T n g.2.2.2.2.1 g.2.2.2.2.2 g.2.2.2.1 g.2.1 g.2.2.1 p with
    | none => (p, R, tk)
    | some r =>
      if ev = 0 ∨ (r.2 = r.1 ∧ r.1 = n) then ((if r.2 = r.1 then r.1 + 1 else r.2), R ++ sl_x T p (r.1 - p) ++ sl_r s T rp r.1 r.2 rn ++ (if r.2 = r.1 ∧ r.1 < n then [T r.1] else []), 1)
      else sb_x s L T n g rp rn ev f (if r.2 = r.1 then r.1 + 1 else r.2) (R ++ sl_x T p (r.1 - p) ++ sl_r s T rp r.1 r.2 rn ++ (if r.2 = r.1 ∧ r.1 < n then [T r.1] else [])) 1
def sb_f (l : List Int32) : Nat → Int32 := fun j => l.getD j 0
section RN_1
variable (s inp : Nat → Int32) (L I F n : Nat) (qt : Int32) (tg : Nat → Nat) (D : Nat → cm_T)
def rn_print (z : rn_T) : Option rn_T := match z with
  | (Mout, Mo, Mpat, Mp, Mhold, Mh, Mm, Mq, Mst, Mt, Mac) => if 256 < Mo + Mp + 1 then none else some (upd (cp_y Mpat 0 Mout Mo Mp) (Mo + Mp) 10, Mo + Mp + 1, Mpat, Mp, Mhold, Mh, Mm, Mq, Mst, Mt, Mac)
def rn_H (kd : Nat) (v : Int32) (z : rn_T) : Bool := match z with
  | (Mout, Mo, Mpat, Mp, Mhold, Mh, Mm, Mq, Mst, Mt, Mac) => if kd = 1 then decide (v = nI Mm) else if kd = 2 then decide (I ≤ Mq) else
    match rg_x s L v.toNatClampNeg with
    | none => false
    | some g => (mt_1 Mpat Mp g.2.2.2.2.1 g.2.2.2.2.2 g.2.2.2.1 g.2.1 g.2.2.1 0).isSome
/-- is command k (parse d) selected, and the activation lines then -/
def rn_sel (d : cm_T) (k : Nat) (z : rn_T) : Bool × (Nat → Int32) := match z with
  | (Mout, Mo, Mpat, Mp, Mhold, Mh, Mm, Mq, Mst, Mt, Mac) =>
    if d.1.1 = 0 then (true, Mac)
    else if d.1.1 = 1 then ((rn_H s L I d.1.2.1.1 d.1.2.1.2 z != decide (d.1.2.2.2.1 = 1)), Mac)
    else if Mac k = 0 then
      (if rn_H s L I d.1.2.1.1 d.1.2.1.2 z = true then ((true != decide (d.1.2.2.2.1 = 1)), if d.1.2.2.1.1 = 1 ∧ d.1.2.2.1.2 ≤ nI Mm then Mac else upd Mac k (nI Mm))
       else ((false != decide (d.1.2.2.2.1 = 1)), Mac))
    else ((true != decide (d.1.2.2.2.1 = 1)), if Mac k < nI Mm ∧ ((d.1.2.2.1.1 = 1 ∧ d.1.2.2.1.2 ≤ nI Mm) ∨ (¬ d.1.2.2.1.1 = 1 ∧ rn_H s L I d.1.2.2.1.1 d.1.2.2.1.2 z = true)) then upd Mac k 0 else Mac)
def rn_sub (d : cm_T) (z : rn_T) : Int32 × rn_T := match z with
  | (Mout, Mo, Mpat, Mp, Mhold, Mh, Mm, Mq, Mst, Mt, Mac) => match rg_x s L d.2.2.1.2.1.1 with
    | none => (-1, z)
    | some g => match sb_x s L Mpat Mp g d.2.2.1.2.1.2.1 d.2.2.1.2.1.2.2.1 d.2.2.1.2.1.2.2.2 65 0 [] 0 with
      | (p, R, tk) => if tk = 0 then (-1, z) else
        if 64 < (R ++ sl_x Mpat p (Mp - p)).length then (3, z)
        else (-1, (Mout, Mo, cp_y (sb_f (R ++ sl_x Mpat p (Mp - p))) 0 Mpat 0 (R ++ sl_x Mpat p (Mp - p)).length, (R ++ sl_x Mpat p (Mp - p)).length, Mhold, Mh, Mm, Mq, Mst, 1, Mac))
def rn_N (z : rn_T) : Int32 × rn_T := match z with
  | (Mout, Mo, Mpat, Mp, Mhold, Mh, Mm, Mq, Mst, Mt, Mac) =>
    if I ≤ Mq then (if qt = 0 then (match rn_print z with | none => (3, z) | some z' => (0, z')) else (0, z))
    else if 64 < Mp + 1 + (ln_e inp I Mq - Mq) then (3, z)
    else (-1, (Mout, Mo, upd (cp_y inp Mq Mpat (Mp + 1) (ln_e inp I Mq - Mq)) Mp 10, Mp + 1 + (ln_e inp I Mq - Mq), Mhold, Mh, Mm + 1, ln_e inp I Mq + 1, Mst, Mt, Mac))
def rn_act (d : cm_T) (k : Nat) (z : rn_T) : Int32 × Nat × rn_T := match z with
  | (Mout, Mo, Mpat, Mp, Mhold, Mh, Mm, Mq, Mst, Mt, Mac) =>
    if d.2.1 = 115 then ((rn_sub s L d z).1, k + 1, (rn_sub s L d z).2)
    else if d.2.1 = 100 then (-2, k + 1, (Mout, Mo, Mpat, 0, Mhold, Mh, Mm, Mq, Mst, Mt, Mac))
    else if d.2.1 = 112 then (match rn_print z with | none => (3, k + 1, z) | some z' => (-1, k + 1, z'))
    else if d.2.1 = 78 then ((rn_N inp I qt z).1, k + 1, (rn_N inp I qt z).2)
    else if d.2.1 = 104 then (-1, k + 1, (Mout, Mo, Mpat, Mp, cp_y Mpat 0 Mhold 0 Mp, Mp, Mm, Mq, Mst, Mt, Mac))
    else if d.2.1 = 103 then (-1, k + 1, (Mout, Mo, cp_y Mhold 0 Mpat 0 Mh, Mh, Mhold, Mh, Mm, Mq, Mst, Mt, Mac))
    else if d.2.1 = 72 then (if 64 < Mh + 1 + Mp then (3, k + 1, z) else (-1, k + 1, (Mout, Mo, Mpat, Mp, cp_y Mpat 0 (upd Mhold Mh 10) (Mh + 1) Mp, Mh + 1 + Mp, Mm, Mq, Mst, Mt, Mac)))
    else if d.2.1 = 71 then (if 64 < Mp + 1 + Mh then (3, k + 1, z) else (-1, k + 1, (Mout, Mo, cp_y Mhold 0 (upd Mpat Mp 10) (Mp + 1) Mh, Mp + 1 + Mh, Mhold, Mh, Mm, Mq, Mst, Mt, Mac)))
    else if d.2.1 = 120 then (-1, k + 1, (Mout, Mo, cp_y Mhold 0 Mpat 0 64, Mh, cp_y Mpat 0 Mhold 0 64, Mp, Mm, Mq, Mst, Mt, Mac))
    else if d.2.1 = 98 then (-1, tg k, z)
    else if d.2.1 = 116 then (if Mt = 0 then (-1, k + 1, z) else (-1, tg k, (Mout, Mo, Mpat, Mp, Mhold, Mh, Mm, Mq, Mst, 0, Mac)))
    else (-1, k + 1, z)
def rn_step (k : Nat) (z : rn_T) : Int32 × Nat × rn_T := match z with
  | (Mout, Mo, Mpat, Mp, Mhold, Mh, Mm, Mq, Mst, Mt, Mac) => if F ≤ Mst then (2, k, z) else
    if (rn_sel s L I (D k) k (Mout, Mo, Mpat, Mp, Mhold, Mh, Mm, Mq, Mst + 1, Mt, Mac)).1 = true then rn_act s inp L I qt tg (D k) k (Mout, Mo, Mpat, Mp, Mhold, Mh, Mm, Mq, Mst + 1, Mt, (rn_sel s L I (D k) k (Mout, Mo, Mpat, Mp, Mhold, Mh, Mm, Mq, Mst + 1, Mt, Mac)).2)
    else (-1, k + 1, (Mout, Mo, Mpat, Mp, Mhold, Mh, Mm, Mq, Mst + 1, Mt, (rn_sel s L I (D k) k (Mout, Mo, Mpat, Mp, Mhold, Mh, Mm, Mq, Mst + 1, Mt, Mac)).2))
def rn_in : Nat → Nat → rn_T → Int32 × rn_T
  | 0, _, z => (2, z)
  | f + 1, k, z => if n ≤ k then (-1, z) else
    if (rn_step s inp L I F qt tg D k z).1 = -1 then rn_in f (rn_step s inp L I F qt tg D k z).2.1 (rn_step s inp L I F qt tg D k z).2.2
    else ((rn_step s inp L I F qt tg D k z).1, (rn_step s inp L I F qt tg D k z).2.2)
/-- the beginning of a cycle -/
def rn_beg (z : rn_T) : Int32 × rn_T := match z with
  | (Mout, Mo, Mpat, Mp, Mhold, Mh, Mm, Mq, Mst, Mt, Mac) => if I ≤ Mq then (0, z) else if 64 < ln_e inp I Mq - Mq then (3, z)
    else (-1, (Mout, Mo, cp_y inp Mq Mpat 0 (ln_e inp I Mq - Mq), ln_e inp I Mq - Mq, Mhold, Mh, Mm + 1, ln_e inp I Mq + 1, Mst, 0, Mac))
/-- the end of a cycle -/
def rn_end (r : Int32) (z : rn_T) : Int32 × rn_T := if r = -1 then (if qt = 0 then (match rn_print z with | none => (3, z) | some z' => (-1, z')) else (-1, z)) else if r = -2 then (-1, z) else (r, z)
def rn_cyc (z : rn_T) : Int32 × rn_T := if (rn_beg inp I z).1 = -1 then rn_end qt (rn_in s inp L I F n qt tg D (F + 2) 0 (rn_beg inp I z).2).1 (rn_in s inp L I F n qt tg D (F + 2) 0 (rn_beg inp I z).2).2 else rn_beg inp I z
def rn_out : Nat → rn_T → Int32 × rn_T
  | 0, z => (0, z)
  | f + 1, z => if (rn_cyc s inp L I F n qt tg D z).1 = -1 then rn_out f (rn_cyc s inp L I F n qt tg D z).2 else rn_cyc s inp L I F n qt tg D z
/-- what every state of a run keeps -/
def rn_ok (z : rn_T) : Prop := match z with
  | (Mout, Mo, Mpat, Mp, Mhold, Mh, Mm, Mq, Mst, Mt, Mac) => Mo ≤ 256 ∧ Mp ≤ 64 ∧ Mh ≤ 64 ∧ Mst ≤ F ∧ ln_I inp I Mm Mq ∧ (Mt = 0 ∨ Mt = 1)
end RN_1
