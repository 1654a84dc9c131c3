/-! Y: a match, lines, addresses that hold -/
section YH_1
variable {Yquiet Yfuel YscrLen YinpLen YhasTab YnCmd YoutLen YpatLen YholdLen YlinesRead YstepsUsed Ytflag YnAddr Ya1K Ya1V Ya2K Ya2V Ycc YlabS YlabL YsRe YsRep YadK YadV Yneg YsG YicN Yna YanS YanE YmJ YrLen : Int32} {Yscr Yinp YcmdPos Yout Ypat Yhold Yactive Yact Yic Yie YaC YaAny YaSt Yrch Ynx Yrb : Nat → Int32}
theorem ym_58 {n na anE i : Nat} {ch st : Nat → Int32} {post : Int32 → SY → Prop} (hn : n ≤ 64) (hi : i ≤ n) (h12 : na ≤ 12) (hE : anE ≤ 1) (hH : ya_H YaC YaAny YaSt (na, ch, st))
    (hp : ∀ rch nx, post (mt_lo i (mt_l Ypat n ch st na anE i)) (Yquiet, Yfuel, YscrLen, YinpLen, YhasTab, YnCmd, YoutLen, YpatLen, YholdLen, YlinesRead, YstepsUsed, Ytflag, YnAddr, Ya1K, Ya1V, Ya2K, Ya2V, Ycc, YlabS, YlabL, YsRe, YsRep, YadK, YadV, Yneg, YsG, YicN, nI na, YanS, nI anE, YmJ, YrLen, Yscr, Yinp, YcmdPos, Yout, Ypat, Yhold, Yactive, Yact, Yic, Yie, YaC, YaAny, YaSt, rch, nx, Yrb)) :
    ∀ f a rch nx, na - a < f → a ≤ na → (∀ x, i ≤ x → x ≤ n → rch x = b2_i (mt_R Ypat ch st i a (x - i))) → wY_matchAt_58 post (nI i) (nI n) Yquiet Yfuel YscrLen YinpLen YhasTab YnCmd YoutLen YpatLen YholdLen YlinesRead YstepsUsed Ytflag YnAddr Ya1K Ya1V Ya2K Ya2V Ycc YlabS YlabL YsRe YsRep YadK YadV Yneg YsG YicN (nI na) YanS (nI anE) YmJ YrLen f (nI a) Yscr Yinp YcmdPos Yout Ypat Yhold Yactive Yact Yic Yie YaC YaAny YaSt rch nx Yrb := by
  intro f
  induction f with
  | zero => intro a rch nx h; exact absurd h (Nat.not_lt_zero _)
  | succ f ih =>
  intro a rch nx hf ha hrow
  refine pk_le na a (fun w => ⟨n + 2, ?_⟩) (fun w => ⟨pk_in a 12 (by omega), ?_⟩)
  · have e : a = na := by omega
    rw [e] at hrow
    refine ym_248 (na := na) hn hi hE hrow (n + 2) (n + 1 - i) (nI n) (by omega) (by omega) (fun z => by omega) (fun D' z => by rw [show i + D' = n by omega]) ?_
    exact hp rch nx
  · rw [nI_clamp (by omega), (hH a w).2]
    dsimp only
    refine br_c (fun s0 => ⟨n + 2, ?_⟩) (fun s0 => ⟨n + 2, ?_⟩)
    · exact ym_152 hn h12 w hH (by unfold mt_b; rw [decide_eq_false (fun z => z s0)]) hrow (fun rch' nx' h => ih (a + 1) rch' nx' (by omega) (by omega) h) (n + 2) i nx (by omega) (Nat.le_refl _) (by omega) (fun y h1 h2 => absurd h2 (by omega))
    · exact ym_81 hn h12 w hH (by unfold mt_b; rw [decide_eq_true s0]) hrow (fun rch' nx' h => ih (a + 1) rch' nx' (by omega) (by omega) h) (n + 2) i false nx (by omega) (Nat.le_refl _) (by omega) (fun y h1 h2 => absurd h2 (by omega)) (fun _ => rfl) (fun y hy => by omega)
theorem ym_29 {n na anE i : Nat} {ch st : Nat → Int32} {post : Int32 → SY → Prop} (hn : n ≤ 64) (hi : i ≤ n) (h12 : na ≤ 12) (hE : anE ≤ 1) (hH : ya_H YaC YaAny YaSt (na, ch, st))
    (hp : ∀ rch nx, post (mt_lo i (mt_l Ypat n ch st na anE i)) (Yquiet, Yfuel, YscrLen, YinpLen, YhasTab, YnCmd, YoutLen, YpatLen, YholdLen, YlinesRead, YstepsUsed, Ytflag, YnAddr, Ya1K, Ya1V, Ya2K, Ya2V, Ycc, YlabS, YlabL, YsRe, YsRep, YadK, YadV, Yneg, YsG, YicN, nI na, YanS, nI anE, YmJ, YrLen, Yscr, Yinp, YcmdPos, Yout, Ypat, Yhold, Yactive, Yact, Yic, Yie, YaC, YaAny, YaSt, rch, nx, Yrb)) :
    ∀ f x rch, n + 1 - x < f → x ≤ n + 1 → (∀ y, y < x → rch y = b2_i (decide (y = i))) → wY_matchAt_29 post (nI i) (nI n) Yquiet Yfuel YscrLen YinpLen YhasTab YnCmd YoutLen YpatLen YholdLen YlinesRead YstepsUsed Ytflag YnAddr Ya1K Ya1V Ya2K Ya2V Ycc YlabS YlabL YsRe YsRep YadK YadV Yneg YsG YicN (nI na) YanS (nI anE) YmJ YrLen f (nI x) Yscr Yinp YcmdPos Yout Ypat Yhold Yactive Yact Yic Yie YaC YaAny YaSt rch Ynx Yrb := by
  intro f
  induction f with
  | zero => intro x rch h; exact absurd h (Nat.not_lt_zero _)
  | succ f ih =>
  intro x rch hf hx hr
  refine pk_lt n x (fun w => ⟨na + 1, ?_⟩) (fun w => ?_)
  · refine ym_58 hn hi h12 hE hH hp (na + 1) 0 rch Ynx (by omega) (by omega) (fun y h1 h2 => ?_)
    rw [hr y (by omega), mt_R]
    dsimp only
    by_cases z : y = i
    · rw [decide_eq_true z, decide_eq_true (show y - i = 0 by omega)]
    · rw [decide_eq_false z, decide_eq_false (show ¬ y - i = 0 by omega)]
  · have vi : vp_in (nI x) 65 := vp_in_nI (by omega) (by omega)
    have nxt : ∀ v : Bool, v = decide (x = i) → wY_matchAt_29 post (nI i) (nI n) Yquiet Yfuel YscrLen YinpLen YhasTab YnCmd YoutLen YpatLen YholdLen YlinesRead YstepsUsed Ytflag YnAddr Ya1K Ya1V Ya2K Ya2V Ycc YlabS YlabL YsRe YsRep YadK YadV Yneg YsG YicN (nI na) YanS (nI anE) YmJ YrLen f (nI (x + 1)) Yscr Yinp YcmdPos Yout Ypat Yhold Yactive Yact Yic Yie YaC YaAny YaSt (upd rch x (b2_i v)) Ynx Yrb := by
      intro v hv
      refine ih (x + 1) _ (by omega) (by omega) (fun y h => ?_)
      by_cases z : y = x
      · rw [z, pk_us, hv]
      · rw [pk_un z]; exact hr y (by omega)
    refine pk_eq x i (fun e => ⟨vi, nm_e (nm_r (nI_1 x) ?_)⟩) (fun e => ⟨vi, nm_e (nm_r (nI_1 x) ?_)⟩)
    · rw [nI_clamp (by omega)]
      exact nxt true (by rw [decide_eq_true e])
    · rw [nI_clamp (by omega)]
      exact nxt false (by rw [decide_eq_false e])
theorem ym_matchAt {n na anS anE i : Nat} {ch st : Nat → Int32} {post : Int32 → SY → Prop} (hn : n ≤ 64) (hi : i ≤ n) (h12 : na ≤ 12) (hS : anS ≤ 1) (hE : anE ≤ 1) (hH : ya_H YaC YaAny YaSt (na, ch, st))
    (hp : ∀ rch nx, post (mt_lo i (mt_at Ypat n ch st na anS anE i)) (Yquiet, Yfuel, YscrLen, YinpLen, YhasTab, YnCmd, YoutLen, nI n, YholdLen, YlinesRead, YstepsUsed, Ytflag, YnAddr, Ya1K, Ya1V, Ya2K, Ya2V, Ycc, YlabS, YlabL, YsRe, YsRep, YadK, YadV, Yneg, YsG, YicN, nI na, nI anS, nI anE, YmJ, YrLen, Yscr, Yinp, YcmdPos, Yout, Ypat, Yhold, Yactive, Yact, Yic, Yie, YaC, YaAny, YaSt, rch, nx, Yrb)) :
    wpY_matchAt post (Yquiet, Yfuel, YscrLen, YinpLen, YhasTab, YnCmd, YoutLen, nI n, YholdLen, YlinesRead, YstepsUsed, Ytflag, YnAddr, Ya1K, Ya1V, Ya2K, Ya2V, Ycc, YlabS, YlabL, YsRe, YsRep, YadK, YadV, Yneg, YsG, YicN, nI na, nI anS, nI anE, YmJ, YrLen, Yscr, Yinp, YcmdPos, Yout, Ypat, Yhold, Yactive, Yact, Yic, Yie, YaC, YaAny, YaSt, Yrch, Ynx, Yrb) (nI i) := by
  unfold wpY_matchAt
  have go : ¬ (¬ anS = 0 ∧ ¬ i = 0) → ∃ f, wY_matchAt_29 post (nI i) (nI n) Yquiet Yfuel YscrLen YinpLen YhasTab YnCmd YoutLen (nI n) YholdLen YlinesRead YstepsUsed Ytflag YnAddr Ya1K Ya1V Ya2K Ya2V Ycc YlabS YlabL YsRe YsRep YadK YadV Yneg YsG YicN (nI na) (nI anS) (nI anE) YmJ YrLen f 0 Yscr Yinp YcmdPos Yout Ypat Yhold Yactive Yact Yic Yie YaC YaAny YaSt Yrch Ynx Yrb := by
    intro hh
    unfold mt_at at hp
    rw [if_neg hh] at hp
    exact ⟨n + 2, ym_29 hn hi h12 hE hH hp (n + 2) 0 Yrch (by omega) (by omega) (fun y h => absurd h (by omega))⟩
  refine br_f (nI_pos (by omega)) (br_f (nI_nlt hi (by omega)) (pk_eq anS 0 (fun e => go (fun y => y.1 e)) (fun e => pk_eq i 0 (fun e2 => go (fun y => y.2 e2)) (fun e2 => ?_))))
  unfold mt_at at hp
  rw [if_pos ⟨e, e2⟩] at hp
  exact hp _ _
theorem ym_firstMatch {n na anS anE p : Nat} {ch st : Nat → Int32} {post : Int32 → SY → Prop} (hn : n ≤ 64) (hp0 : p ≤ n + 1) (h12 : na ≤ 12) (hS : anS ≤ 1) (hE : anE ≤ 1) (hH : ya_H YaC YaAny YaSt (na, ch, st))
    (hp : ∀ mj rch nx, (∀ r, mt_1 Ypat n ch st na anS anE p = some r → mj = nI r.2) → post (mt_o1 (mt_1 Ypat n ch st na anS anE p)) (Yquiet, Yfuel, YscrLen, YinpLen, YhasTab, YnCmd, YoutLen, nI n, YholdLen, YlinesRead, YstepsUsed, Ytflag, YnAddr, Ya1K, Ya1V, Ya2K, Ya2V, Ycc, YlabS, YlabL, YsRe, YsRep, YadK, YadV, Yneg, YsG, YicN, nI na, nI anS, nI anE, mj, YrLen, Yscr, Yinp, YcmdPos, Yout, Ypat, Yhold, Yactive, Yact, Yic, Yie, YaC, YaAny, YaSt, rch, nx, Yrb)) :
    wpY_firstMatch post (Yquiet, Yfuel, YscrLen, YinpLen, YhasTab, YnCmd, YoutLen, nI n, YholdLen, YlinesRead, YstepsUsed, Ytflag, YnAddr, Ya1K, Ya1V, Ya2K, Ya2V, Ycc, YlabS, YlabL, YsRe, YsRep, YadK, YadV, Yneg, YsG, YicN, nI na, nI anS, nI anE, YmJ, YrLen, Yscr, Yinp, YcmdPos, Yout, Ypat, Yhold, Yactive, Yact, Yic, Yie, YaC, YaAny, YaSt, Yrch, Ynx, Yrb) (nI p) := by
  unfold wpY_firstMatch
  have loop : ∀ f i rch nx, n + 1 - i < f → i ≤ n + 1 → mt_1 Ypat n ch st na anS anE p = mt_s (mt_at Ypat n ch st na anS anE) (n + 1 - i) i → wY_firstMatch_2 post f (nI i) Yquiet Yfuel YscrLen YinpLen YhasTab YnCmd YoutLen (nI n) YholdLen YlinesRead YstepsUsed Ytflag YnAddr Ya1K Ya1V Ya2K Ya2V Ycc YlabS YlabL YsRe YsRep YadK YadV Yneg YsG YicN (nI na) (nI anS) (nI anE) YmJ YrLen Yscr Yinp YcmdPos Yout Ypat Yhold Yactive Yact Yic Yie YaC YaAny YaSt rch nx Yrb := by
    intro f
    induction f with
    | zero => intro i rch nx h; exact absurd h (Nat.not_lt_zero _)
    | succ f ih =>
    intro i rch nx hf hi he
    refine pk_lt n i (fun w => ?_) (fun w => ?_)
    · rw [show n + 1 - i = 0 by omega, mt_s] at he
      have := hp YmJ rch nx (fun r hr => by rw [he] at hr; exact absurd hr (by simp))
      rw [he] at this
      exact this
    · obtain ⟨c, hc⟩ : ∃ c, n + 1 - i = c + 1 := ⟨n - i, by omega⟩
      refine ym_matchAt hn w h12 hS hE hH (fun rch' nx' => ?_)
      rw [hc, mt_s] at he
      cases hm : mt_at Ypat n ch st na anS anE i with
      | none =>
        rw [hm] at he
        refine br_t (by decide : (-1 : Int32) < 0) (nm_r (nI_1 i) (ih (i + 1) rch' nx' (by omega) (by omega) ?_))
        rw [he, show n + 1 - (i + 1) = c by omega]
      | some d =>
        rw [hm] at he
        have hl := mt_l_lt (mt_at_l hm)
        refine br_f (nI_pos (by omega)) ?_
        have := hp (nI (i + d)) rch' nx' (fun r hr => by rw [he] at hr; rw [← Option.some.inj hr])
        rw [he] at this
        exact this
  exact ⟨n + 2, loop (n + 2) p Yrch Ynx (by omega) hp0 rfl⟩
/-! lines -/
theorem ym_lineCount {I : Nat} {post : Int32 → Prop} (hI : I ≤ 128) (h : post (nI (ln_k Yinp I))) : wpY_lineCount post (Yquiet, Yfuel, YscrLen, nI I, YhasTab, YnCmd, YoutLen, YpatLen, YholdLen, YlinesRead, YstepsUsed, Ytflag, YnAddr, Ya1K, Ya1V, Ya2K, Ya2V, Ycc, YlabS, YlabL, YsRe, YsRep, YadK, YadV, Yneg, YsG, YicN, Yna, YanS, YanE, YmJ, YrLen, Yscr, Yinp, YcmdPos, Yout, Ypat, Yhold, Yactive, Yact, Yic, Yie, YaC, YaAny, YaSt, Yrch, Ynx, Yrb) := by
  unfold wpY_lineCount
  have loop : ∀ f x, I - x < f → x ≤ I → wY_lineCount_4 post Yquiet Yfuel YscrLen (nI I) YhasTab YnCmd YoutLen YpatLen YholdLen YlinesRead YstepsUsed Ytflag YnAddr Ya1K Ya1V Ya2K Ya2V Ycc YlabS YlabL YsRe YsRep YadK YadV Yneg YsG YicN Yna YanS YanE YmJ YrLen Yscr Yinp YcmdPos Yout Ypat Yhold Yactive Yact Yic Yie YaC YaAny YaSt Yrch Ynx Yrb f (nI (ln_c Yinp x)) (nI x) := by
    intro f
    induction f with
    | zero => intro x h; exact absurd h (Nat.not_lt_zero _)
    | succ f ih =>
    intro x hf hx
    refine pk_le I x (fun w => ?_) (fun w => ⟨pk_in x 128 (by omega), ?_⟩)
    · have e : x = I := by omega
      subst e
      refine pk_le x 0 (fun w0 => ?_) (fun w0 => ?_)
      · unfold ln_k at h
        rw [if_neg (fun y => by omega)] at h
        exact h
      · have e1 : nI x - 1 = nI (x - 1) := by
          obtain ⟨y, rfl⟩ : ∃ y, x = y + 1 := ⟨x - 1, by omega⟩
          exact nI_pred y
        rw [e1]
        refine ⟨vp_in_nI (by omega) (by omega), ?_⟩
        rw [nI_clamp (by omega)]
        unfold ln_k at h
        refine br_c (fun y => ?_) (fun y => nm_r (nI_1 _) ?_)
        · rw [if_neg (fun z => z.2 y)] at h; exact h
        · rw [if_pos ⟨w0, y⟩] at h; exact h
    · rw [nI_clamp (by omega)]
      have := ih (x + 1) (by omega) (by omega)
      rw [ln_c] at this
      refine br_c (fun y => nm_r (nI_1 _) (nm_r (nI_1 x) ?_)) (fun y => nm_r (nI_1 x) ?_)
      · rw [if_pos y] at this; exact this
      · rw [if_neg y] at this; exact this
  exact ⟨I + 1, loop (I + 1) 0 (by omega) (by omega)⟩
theorem ym_lineStart {I m q : Nat} {post : Int32 → Prop} (hI : I ≤ 128) (hl : ln_I Yinp I m q) (hq : q < I) (h : post (nI q)) : wpY_lineStart post (Yquiet, Yfuel, YscrLen, nI I, YhasTab, YnCmd, YoutLen, YpatLen, YholdLen, YlinesRead, YstepsUsed, Ytflag, YnAddr, Ya1K, Ya1V, Ya2K, Ya2V, Ycc, YlabS, YlabL, YsRe, YsRep, YadK, YadV, Yneg, YsG, YicN, Yna, YanS, YanE, YmJ, YrLen, Yscr, Yinp, YcmdPos, Yout, Ypat, Yhold, Yactive, Yact, Yic, Yie, YaC, YaAny, YaSt, Yrch, Ynx, Yrb) (nI (m + 1)) := by
  have hm := ln_le hl
  have hk := ln_kle Yinp I
  rcases hl with ⟨h1, h2, h3⟩ | ⟨h1, _⟩
  · unfold wpY_lineStart
    refine pk_lt 1 (m + 1) (fun w => ⟨I + 1, ?_⟩) (fun w => ?_)
    · have q0 : ¬ q = 0 := fun z => by rw [z, ln_c] at h2; omega
      have s1 : Yinp (q - 1) = 10 := by
        rcases h3 with y | y
        · exact absurd y q0
        · exact y
      have cq : ln_c Yinp (q - 1) + 1 = m := by
        obtain ⟨x, rfl⟩ : ∃ x, q = x + 1 := ⟨q - 1, by omega⟩
        rw [Nat.add_sub_cancel] at s1 ⊢
        rw [ln_c, if_pos s1] at h2
        exact h2
      have em : nI (m + 1) - 1 = nI m := nI_pred m
      have loop : ∀ f x, I - x < f → x < q → wY_lineStart_11 post (nI (m + 1)) Yquiet Yfuel YscrLen (nI I) YhasTab YnCmd YoutLen YpatLen YholdLen YlinesRead YstepsUsed Ytflag YnAddr Ya1K Ya1V Ya2K Ya2V Ycc YlabS YlabL YsRe YsRep YadK YadV Yneg YsG YicN Yna YanS YanE YmJ YrLen Yscr Yinp YcmdPos Yout Ypat Yhold Yactive Yact Yic Yie YaC YaAny YaSt Yrch Ynx Yrb f (nI (ln_c Yinp x)) (nI x) := by
        intro f
        induction f with
        | zero => intro x h; exact absurd h (Nat.not_lt_zero _)
        | succ f ih =>
        intro x hf hx
        have lx := ln_mono Yinp (show x ≤ q - 1 by omega)
        refine br_f (nI_ge (show x < I by omega) (by omega)) ⟨pk_in x 128 (by omega), ?_⟩
        rw [nI_clamp (by omega), em]
        have cs : ln_c Yinp (x + 1) = if Yinp x = 10 then ln_c Yinp x + 1 else ln_c Yinp x := rfl
        refine br_c (fun y => nm_r (nI_1 _) ?_) (fun y => nm_r (nI_1 x) ?_)
        · rw [if_pos y] at cs
          refine pk_eq (ln_c Yinp x + 1) m (fun e => ?_) (fun e => nm_r (nI_1 x) ?_)
          · have : x + 1 = q := by
              rcases Nat.lt_or_ge (x + 1) q with z | z
              · have := ln_mono Yinp (show x + 1 ≤ q - 1 by omega); omega
              · omega
            rw [nI_1, this]
            exact h
          · have : x + 1 < q := by
              rcases Nat.lt_or_ge (x + 1) q with z | z
              · exact z
              · have : x = q - 1 := by omega
                rw [this] at e; omega
            have := ih (x + 1) (by omega) this
            rw [cs] at this
            exact this
        · rw [if_neg y] at cs
          have : x + 1 < q := by
            rcases Nat.lt_or_ge (x + 1) q with z | z
            · exact z
            · have : x = q - 1 := by omega
              rw [this] at y; exact absurd s1 y
          have := ih (x + 1) (by omega) this
          rw [cs] at this
          exact this
      exact loop (I + 1) 0 (by omega) (by omega)
    · have q0 : q = 0 := by
        rcases h3 with y | y
        · exact y
        · rcases Nat.eq_zero_or_pos q with z | z
          · exact z
          · obtain ⟨x, rfl⟩ : ∃ x, q = x + 1 := ⟨q - 1, by omega⟩
            rw [Nat.add_sub_cancel] at y
            rw [ln_c, if_pos y] at h2
            omega
      rw [q0] at h
      exact h
  · omega
theorem ym_lineLen {I m q : Nat} {post : Int32 → Prop} (hI : I ≤ 128) (hl : ln_I Yinp I m q) (hq : q < I) (h : post (nI (ln_e Yinp I q - q))) : wpY_lineLen post (Yquiet, Yfuel, YscrLen, nI I, YhasTab, YnCmd, YoutLen, YpatLen, YholdLen, YlinesRead, YstepsUsed, Ytflag, YnAddr, Ya1K, Ya1V, Ya2K, Ya2V, Ycc, YlabS, YlabL, YsRe, YsRep, YadK, YadV, Yneg, YsG, YicN, Yna, YanS, YanE, YmJ, YrLen, Yscr, Yinp, YcmdPos, Yout, Ypat, Yhold, Yactive, Yact, Yic, Yie, YaC, YaAny, YaSt, Yrch, Ynx, Yrb) (nI (m + 1)) := by
  unfold wpY_lineLen
  refine ym_lineStart hI hl hq ⟨I + 1, ?_⟩
  have hf := sc_facts (P := pb_n Yinp) (L := I) (q := q) (by omega)
  refine sc_loop (fun n x => q ≤ x → wY_lineLen_8 post (nI q) Yquiet Yfuel YscrLen (nI I) YhasTab YnCmd YoutLen YpatLen YholdLen YlinesRead YstepsUsed Ytflag YnAddr Ya1K Ya1V Ya2K Ya2V Ycc YlabS YlabL YsRe YsRep YadK YadV Yneg YsG YicN Yna YanS YanE YmJ YrLen Yscr Yinp YcmdPos Yout Ypat Yhold Yactive Yact Yic Yie YaC YaAny YaSt Yrch Ynx Yrb n (nI x)) (pb_n Yinp) I (fun x => q ≤ x → post (nI x - nI q)) ?_ ?_ (I + 1) q (by omega) (by omega) (fun hx => by rw [pk_sub hx]; exact h) (Nat.le_refl _)
  · intro n x hx hp hW hqx
    refine br_f (nI_ge hx (by omega)) ⟨pk_in x 128 (by omega), ?_⟩
    rw [nI_clamp (by omega)]
    exact br_f (of_decide_eq_true hp) (nm_r (nI_1 x) (hW (by omega)))
  · intro n x hx hp hR hqx
    refine pk_le I x (fun w => hR hqx) (fun w => ⟨pk_in x 128 (by omega), ?_⟩)
    rw [nI_clamp (by omega)]
    refine br_t ?_ (hR hqx)
    have := of_decide_eq_false (hp w)
    exact Classical.not_not.mp this
theorem ym_holds {L I kd n m q : Nat} {v : Int32} {Mout Mhold Mac : Nat → Int32} {Mo Mh Mst : Nat} {Mt : Int32} {post : Int32 → SY → Prop} (hL : L ≤ 128) (hc : ch_ok Yscr L) (hI : I ≤ 128) (hn : n ≤ 64) (hl : ln_I Yinp I m q) (hk : kd ≤ 3) (hv : ¬ kd = 1 → ¬ kd = 2 → ∃ p : Nat, p ≤ L ∧ v = nI p)
    (h : ∀ icN na anS anE mj ic ie aC aAny aSt rch nx, post (b2_i (rn_H Yscr L I kd v (Mout, Mo, Ypat, n, Mhold, Mh, m, q, Mst, Mt, Mac))) (Yquiet, Yfuel, nI L, nI I, YhasTab, YnCmd, YoutLen, nI n, YholdLen, nI m, YstepsUsed, Ytflag, YnAddr, Ya1K, Ya1V, Ya2K, Ya2V, Ycc, YlabS, YlabL, YsRe, YsRep, YadK, YadV, Yneg, YsG, icN, na, anS, anE, mj, YrLen, Yscr, Yinp, YcmdPos, Yout, Ypat, Yhold, Yactive, Yact, ic, ie, aC, aAny, aSt, rch, nx, Yrb)) :
    wpY_holds post (Yquiet, Yfuel, nI L, nI I, YhasTab, YnCmd, YoutLen, nI n, YholdLen, nI m, YstepsUsed, Ytflag, YnAddr, Ya1K, Ya1V, Ya2K, Ya2V, Ycc, YlabS, YlabL, YsRe, YsRep, YadK, YadV, Yneg, YsG, YicN, Yna, YanS, YanE, YmJ, YrLen, Yscr, Yinp, YcmdPos, Yout, Ypat, Yhold, Yactive, Yact, Yic, Yie, YaC, YaAny, YaSt, Yrch, Ynx, Yrb) (nI kd) v := by
  unfold wpY_holds
  unfold rn_H at h
  dsimp only at h
  have hm := ln_le hl
  have hkl := ln_kle Yinp I
  refine pk_eq kd 1 (fun e1 => ?_) (fun e1 => pk_eq kd 2 (fun e2 => ?_) (fun e2 => ?_))
  · rw [if_pos e1] at h
    refine br_c (fun y => ?_) (fun y => ?_)
    · rw [decide_eq_true y] at h; exact h _ _ _ _ _ _ _ _ _ _ _ _
    · rw [decide_eq_false y] at h; exact h _ _ _ _ _ _ _ _ _ _ _ _
  · rw [if_neg e1, if_pos e2] at h
    refine ym_lineCount hI ?_
    have hlt := ln_lt hl
    refine pk_eq m (ln_k Yinp I) (fun y => ?_) (fun y => ?_)
    · rw [decide_eq_true (show I ≤ q by omega)] at h; exact h _ _ _ _ _ _ _ _ _ _ _ _
    · rw [decide_eq_false (show ¬ I ≤ q by omega)] at h; exact h _ _ _ _ _ _ _ _ _ _ _ _
  · rw [if_neg e1, if_neg e2] at h
    obtain ⟨p, hp, rfl⟩ := hv e1 e2
    rw [nI_clamp (by omega)] at h
    refine ym_loadText hL hp ?_ ?_
    · intro n1 ic ie htx hic
      have ft := tx_facts n1 p htx
      refine br_f (nI_pos (by omega)) ?_
      refine ym_build hL hc htx hic ?_ ?_
      · intro g aC aAny aSt hr hH
        have f12 := rg_x_12 hr
        rw [hr] at h
        refine br_f (by decide) ?_
        refine ym_firstMatch (p := 0) hn (by omega) f12.1 f12.2.2.1 f12.2.2.2 hH (fun mj rch nx _ => ?_)
        cases hm1 : mt_1 Ypat n g.2.2.2.2.1 g.2.2.2.2.2 g.2.2.2.1 g.2.1 g.2.2.1 0 with
        | none =>
          dsimp only at h
          rw [hm1] at h
          exact br_t (by decide) (h _ _ _ _ _ _ _ _ _ _ _ _)
        | some r =>
          dsimp only at h
          rw [hm1] at h
          have hr := mt_1_f hm1
          exact br_f (nI_pos (by omega)) (h _ _ _ _ _ _ _ _ _ _ _ _)
      · intro hr na anS anE aC aAny aSt
        rw [hr] at h
        exact br_t rfl (h _ _ _ _ _ _ _ _ _ _ _ _)
    · intro htx icn ic ie
      rw [show rg_x Yscr L p = none by unfold rg_x; rw [htx]] at h
      exact br_t (by decide) (h _ _ _ _ _ _ _ _ _ _ _ _)
end YH_1
