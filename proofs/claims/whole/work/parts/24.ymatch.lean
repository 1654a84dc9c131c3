/-! Y's matching -/
section YM_1
variable {Yquiet Yfuel YscrLen YinpLen YhasTab YnCmd YoutLen YpatLen YholdLen YlinesRead YstepsUsed Ytflag YnAddr Ya1K Ya1V Ya2K Ya2V Ycc YlabS YlabL YsRe YsRep YadK YadV Yneg YsG YicN Yna YanS YanE YmJ YrLen : Int32} {Yscr Yinp YcmdPos Yout Ypat Yhold Yactive Yact Yic Yie YaC YaAny YaSt Yrch Ynx Yrb : Nat → Int32}
def b2_i (b : Bool) : Int32 := if b = true then 1 else 0
theorem b2_01 (b : Bool) : b2_i b = 0 ∨ b2_i b = 1 := by cases b; exact Or.inl rfl; exact Or.inr rfl
theorem b2_0 {b : Bool} : b2_i b = 0 ↔ b = false := by cases b; exact ⟨fun _ => rfl, fun _ => rfl⟩; exact ⟨fun h => absurd h (by decide), fun h => absurd h (by decide)⟩
theorem ym_fits {a na : Nat} {c : Int32} {ch st : Nat → Int32} {post : Int32 → Prop} (h12 : na ≤ 12) (ha : a < na) (hH : ya_H YaC YaAny YaSt (na, ch, st)) (h1 : (decide (ch a = -1) || decide (ch a = c)) = true → post 1) (h0 : (decide (ch a = -1) || decide (ch a = c)) = false → post 0) : wpY_fits post (Yquiet, Yfuel, YscrLen, YinpLen, YhasTab, YnCmd, YoutLen, YpatLen, YholdLen, YlinesRead, YstepsUsed, Ytflag, YnAddr, Ya1K, Ya1V, Ya2K, Ya2V, Ycc, YlabS, YlabL, YsRe, YsRep, YadK, YadV, Yneg, YsG, YicN, Yna, YanS, YanE, YmJ, YrLen, Yscr, Yinp, YcmdPos, Yout, Ypat, Yhold, Yactive, Yact, Yic, Yie, YaC, YaAny, YaSt, Yrch, Ynx, Yrb) (nI a) c := by
  have vi : vp_in (nI a) 12 := pk_in a 12 (by omega)
  have hh := (hH a ha).1
  dsimp only at hh
  unfold wpY_fits
  refine ⟨vi, ?_⟩
  rw [nI_clamp (by omega)]
  rcases hh with ⟨e1, e2, e3⟩ | ⟨e1, e2⟩
  · refine br_t e1 ⟨vi, ?_⟩
    rw [e2]
    exact br_c (fun y => h1 (by rw [decide_eq_true y]; simp)) (fun y => h0 (by rw [decide_eq_false y, decide_eq_false e3]; rfl))
  · exact br_f e1 (h1 (by rw [decide_eq_true e2]; rfl))
theorem ym_248 {n na anE i : Nat} {ch st : Nat → Int32} {post : Int32 → SY → Prop} (hn : n ≤ 64) (hi : i ≤ n) (hE : anE ≤ 1) (hrow : ∀ x, i ≤ x → x ≤ n → Yrch x = b2_i (mt_R Ypat ch st i na (x - i))) :
    ∀ f D x3, D < f → i + D ≤ n + 1 → (D = 0 → x3 = nI i + (-1)) → (∀ D', D = D' + 1 → x3 = nI (i + D')) → post (mt_lo i (mt_g (mt_Q Ypat n ch st na anE i) D)) (Yquiet, Yfuel, YscrLen, YinpLen, YhasTab, YnCmd, YoutLen, YpatLen, YholdLen, YlinesRead, YstepsUsed, Ytflag, YnAddr, Ya1K, Ya1V, Ya2K, Ya2V, Ycc, YlabS, YlabL, YsRe, YsRep, YadK, YadV, Yneg, YsG, YicN, Yna, YanS, nI anE, YmJ, YrLen, Yscr, Yinp, YcmdPos, Yout, Ypat, Yhold, Yactive, Yact, Yic, Yie, YaC, YaAny, YaSt, Yrch, Ynx, Yrb) → wY_matchAt_248 post (nI i) (nI n) Yquiet Yfuel YscrLen YinpLen YhasTab YnCmd YoutLen YpatLen YholdLen YlinesRead YstepsUsed Ytflag YnAddr Ya1K Ya1V Ya2K Ya2V Ycc YlabS YlabL YsRe YsRep YadK YadV Yneg YsG YicN Yna YanS (nI anE) YmJ YrLen Yscr Yinp YcmdPos Yout Ypat Yhold Yactive Yact Yic Yie YaC YaAny YaSt Yrch Ynx Yrb f x3 := by
  intro f
  induction f with
  | zero => intro D x3 h; exact absurd h (Nat.not_lt_zero _)
  | succ f ih =>
  intro D x3 hf hD h0 h1 hp
  cases D with
  | zero =>
    refine br_t ?_ hp
    rw [h0 rfl]
    cases i with
    | zero => decide
    | succ i => rw [pk_m1]; exact nI_lt (by omega) (by omega)
  | succ D =>
    rw [h1 D rfl]
    have nxt : ¬ mt_Q Ypat n ch st na anE i D = true → ∀ x, x = nI (i + D) + (-1) → wY_matchAt_248 post (nI i) (nI n) Yquiet Yfuel YscrLen YinpLen YhasTab YnCmd YoutLen YpatLen YholdLen YlinesRead YstepsUsed Ytflag YnAddr Ya1K Ya1V Ya2K Ya2V Ycc YlabS YlabL YsRe YsRep YadK YadV Yneg YsG YicN Yna YanS (nI anE) YmJ YrLen Yscr Yinp YcmdPos Yout Ypat Yhold Yactive Yact Yic Yie YaC YaAny YaSt Yrch Ynx Yrb f x := by
      intro hq x hx
      refine ih D x (by omega) (by omega) (fun z => by rw [hx, z]; rfl) (fun D' z => by rw [hx, z]; exact pk_m1 (i + D')) ?_
      rw [mt_g, if_neg hq] at hp
      exact hp
    have yes : mt_Q Ypat n ch st na anE i D = true → post (nI (i + D)) (Yquiet, Yfuel, YscrLen, YinpLen, YhasTab, YnCmd, YoutLen, YpatLen, YholdLen, YlinesRead, YstepsUsed, Ytflag, YnAddr, Ya1K, Ya1V, Ya2K, Ya2V, Ycc, YlabS, YlabL, YsRe, YsRep, YadK, YadV, Yneg, YsG, YicN, Yna, YanS, nI anE, YmJ, YrLen, Yscr, Yinp, YcmdPos, Yout, Ypat, Yhold, Yactive, Yact, Yic, Yie, YaC, YaAny, YaSt, Yrch, Ynx, Yrb) := fun hq => by rw [mt_g, if_pos hq] at hp; exact hp
    refine br_f (nI_nlt (by omega) (by omega)) ⟨vp_in_nI (by omega) (by omega), ?_⟩
    rw [nI_clamp (by omega), hrow (i + D) (by omega) (by omega), Nat.add_sub_cancel_left]
    have hQ : mt_Q Ypat n ch st na anE i D = (mt_R Ypat ch st i na D && (decide (anE = 0) || decide (i + D = n))) := rfl
    refine br_c (fun y => fun x hx => nxt (by rw [hQ, b2_0.mp y]; simp) x hx) (fun y => ?_)
    have hr : mt_R Ypat ch st i na D = true := by
      cases e : mt_R Ypat ch st i na D
      · exact absurd (b2_0.mpr e) y
      · rfl
    refine pk_eq anE 0 (fun e0 => yes (by rw [hQ, hr, decide_eq_true e0]; rfl)) (fun e0 => pk_eq (i + D) n (fun en => yes (by rw [hQ, hr, decide_eq_true en]; simp)) (fun en => fun x hx => nxt (by rw [hQ, decide_eq_false e0, decide_eq_false en]; simp) x hx))
theorem ym_214 {n i a : Nat} {R : Nat → Bool} {post : Int32 → SY → Prop} {J : Int32 → (Nat → Int32) → (Nat → Int32) → (Nat → Int32) → (Nat → Int32) → (Nat → Int32) → (Nat → Int32) → (Nat → Int32) → (Nat → Int32) → (Nat → Int32) → (Nat → Int32) → (Nat → Int32) → (Nat → Int32) → (Nat → Int32) → (Nat → Int32) → (Nat → Int32) → (Nat → Int32) → Prop} (hn : n ≤ 64) (ha : a < 12) (hnx : ∀ x, i ≤ x → x ≤ n → Ynx x = b2_i (R (x - i)))
    (hJ : ∀ rch, (∀ x, i ≤ x → x ≤ n → rch x = b2_i (R (x - i))) → J (nI (a + 1)) Yscr Yinp YcmdPos Yout Ypat Yhold Yactive Yact Yic Yie YaC YaAny YaSt rch Ynx Yrb) :
    ∀ f x rch, n + 1 - x < f → i ≤ x → x ≤ n + 1 → (∀ y, i ≤ y → y < x → rch y = b2_i (R (y - i))) → wY_matchAt_214 post J (nI i) (nI n) (nI a) Yquiet Yfuel YscrLen YinpLen YhasTab YnCmd YoutLen YpatLen YholdLen YlinesRead YstepsUsed Ytflag YnAddr Ya1K Ya1V Ya2K Ya2V Ycc YlabS YlabL YsRe YsRep YadK YadV Yneg YsG YicN Yna YanS YanE YmJ YrLen f (nI x) Yscr Yinp YcmdPos Yout Ypat Yhold Yactive Yact Yic Yie YaC YaAny YaSt rch Ynx Yrb := by
  intro f
  induction f with
  | zero => intro x rch h; exact absurd h (Nat.not_lt_zero _)
  | succ f ih =>
  intro x rch hf hix hx hr
  refine pk_lt n x (fun w => nm_r (nI_1 a) (hJ rch (fun y h1 h2 => hr y h1 (by omega)))) (fun w => ?_)
  have vi : vp_in (nI x) 65 := vp_in_nI (by omega) (by omega)
  refine ⟨vi, vi, nm_e (nm_r (nI_1 x) ?_)⟩
  rw [nI_clamp (by omega), hnx x hix w, ba_vb (b2_01 _)]
  refine ih (x + 1) _ (by omega) (by omega) (by omega) (fun y h1 h2 => ?_)
  by_cases z : y = x
  · rw [z, pk_us]
  · rw [pk_un z]; exact hr y h1 (by omega)
theorem ym_152 {n i a na : Nat} {ch st : Nat → Int32} {post : Int32 → SY → Prop} {J : Int32 → (Nat → Int32) → (Nat → Int32) → (Nat → Int32) → (Nat → Int32) → (Nat → Int32) → (Nat → Int32) → (Nat → Int32) → (Nat → Int32) → (Nat → Int32) → (Nat → Int32) → (Nat → Int32) → (Nat → Int32) → (Nat → Int32) → (Nat → Int32) → (Nat → Int32) → (Nat → Int32) → Prop} (hn : n ≤ 64) (h12 : na ≤ 12) (ha : a < na) (hH : ya_H YaC YaAny YaSt (na, ch, st)) (hs : mt_b st a = false) (hrow : ∀ x, i ≤ x → x ≤ n → Yrch x = b2_i (mt_R Ypat ch st i a (x - i)))
    (hJ : ∀ rch nx, (∀ x, i ≤ x → x ≤ n → rch x = b2_i (mt_R Ypat ch st i (a + 1) (x - i))) → J (nI (a + 1)) Yscr Yinp YcmdPos Yout Ypat Yhold Yactive Yact Yic Yie YaC YaAny YaSt rch nx Yrb) :
    ∀ f x nx, n + 1 - x < f → i ≤ x → x ≤ n + 1 → (∀ y, i ≤ y → y < x → nx y = b2_i (mt_R Ypat ch st i (a + 1) (y - i))) → wY_matchAt_152 post J (nI i) (nI n) (nI a) Yquiet Yfuel YscrLen YinpLen YhasTab YnCmd YoutLen YpatLen YholdLen YlinesRead YstepsUsed Ytflag YnAddr Ya1K Ya1V Ya2K Ya2V Ycc YlabS YlabL YsRe YsRep YadK YadV Yneg YsG YicN Yna YanS YanE YmJ YrLen f (nI x) Yscr Yinp YcmdPos Yout Ypat Yhold Yactive Yact Yic Yie YaC YaAny YaSt Yrch nx Yrb := by
  intro f
  induction f with
  | zero => intro x nx h; exact absurd h (Nat.not_lt_zero _)
  | succ f ih =>
  intro x nx hf hix hx hr
  refine pk_lt n x (fun w => ⟨n + 2, ?_⟩) (fun w => ?_)
  · exact ym_214 (R := mt_R Ypat ch st i (a + 1)) hn (by omega) (fun y h1 h2 => hr y h1 (by omega)) (fun rch h => hJ rch nx h) (n + 2) i Yrch (by omega) (Nat.le_refl _) (by omega) (fun y h1 h2 => absurd h2 (by omega))
  · have vi : vp_in (nI x) 65 := vp_in_nI (by omega) (by omega)
    have nxt : ∀ v : Bool, v = mt_R Ypat ch st i (a + 1) (x - i) → wY_matchAt_152 post J (nI i) (nI n) (nI a) Yquiet Yfuel YscrLen YinpLen YhasTab YnCmd YoutLen YpatLen YholdLen YlinesRead YstepsUsed Ytflag YnAddr Ya1K Ya1V Ya2K Ya2V Ycc YlabS YlabL YsRe YsRep YadK YadV Yneg YsG YicN Yna YanS YanE YmJ YrLen f (nI (x + 1)) Yscr Yinp YcmdPos Yout Ypat Yhold Yactive Yact Yic Yie YaC YaAny YaSt Yrch (upd nx x (b2_i v)) Yrb := by
      intro v hv
      refine ih (x + 1) _ (by omega) (by omega) (by omega) (fun y h1 h2 => ?_)
      by_cases z : y = x
      · rw [z, pk_us, hv]
      · rw [pk_un z]; exact hr y h1 (by omega)
    refine pk_le x i (fun wi => ?_) (fun wi => ?_)
    · refine ⟨vi, nm_e (nm_r (nI_1 x) ?_)⟩
      rw [nI_clamp (by omega)]
      exact nxt false (by rw [show x - i = 0 by omega, mt_R, mt_row, hs]; rfl)
    · have e1 : nI x - 1 = nI (x - 1) := by
        obtain ⟨y, rfl⟩ : ∃ y, x = y + 1 := ⟨x - 1, by omega⟩
        exact nI_pred y
      have hrec : mt_R Ypat ch st i (a + 1) (x - i) = (mt_R Ypat ch st i a (x - 1 - i) && mt_f Ypat ch a (x - 1)) := by
        obtain ⟨y, hy⟩ : ∃ y, x - i = y + 1 := ⟨x - i - 1, by omega⟩
        rw [hy, mt_R, mt_row, hs, if_neg (by decide), show x - 1 - i = y by omega, show i + y = x - 1 by omega]
      rw [e1]
      refine ⟨vp_in_nI (by omega) (by omega), ?_⟩
      rw [nI_clamp (show x - 1 < 2 ^ 31 by omega), hrow (x - 1) (by omega) (by omega)]
      refine br_c (fun y => ⟨vi, nm_e (nm_r (nI_1 x) ?_)⟩) (fun y => ⟨vp_in_nI (by omega) (by omega), ?_⟩)
      · rw [nI_clamp (show x < 2 ^ 31 by omega)]
        exact nxt false (by rw [hrec, b2_0.mp y]; rfl)
      · have hr1 : mt_R Ypat ch st i a (x - 1 - i) = true := by
          cases e : mt_R Ypat ch st i a (x - 1 - i)
          · exact absurd (b2_0.mpr e) y
          · rfl
        refine ym_fits h12 ha hH (fun hf' => br_f (by decide) ⟨vi, nm_e (nm_r (nI_1 x) ?_)⟩) (fun hf' => br_t rfl ⟨vi, nm_e (nm_r (nI_1 x) ?_)⟩)
        · rw [nI_clamp (show x < 2 ^ 31 by omega)]
          exact nxt true (by rw [hrec, hr1, show mt_f Ypat ch a (x - 1) = true from hf']; rfl)
        · rw [nI_clamp (show x < 2 ^ 31 by omega)]
          exact nxt false (by rw [hrec, hr1, show mt_f Ypat ch a (x - 1) = false from hf']; rfl)
theorem ym_81 {n i a na : Nat} {ch st : Nat → Int32} {post : Int32 → SY → Prop} {J : Int32 → (Nat → Int32) → (Nat → Int32) → (Nat → Int32) → (Nat → Int32) → (Nat → Int32) → (Nat → Int32) → (Nat → Int32) → (Nat → Int32) → (Nat → Int32) → (Nat → Int32) → (Nat → Int32) → (Nat → Int32) → (Nat → Int32) → (Nat → Int32) → (Nat → Int32) → (Nat → Int32) → Prop} (hn : n ≤ 64) (h12 : na ≤ 12) (ha : a < na) (hH : ya_H YaC YaAny YaSt (na, ch, st)) (hs : mt_b st a = true) (hrow : ∀ x, i ≤ x → x ≤ n → Yrch x = b2_i (mt_R Ypat ch st i a (x - i)))
    (hJ : ∀ rch nx, (∀ x, i ≤ x → x ≤ n → rch x = b2_i (mt_R Ypat ch st i (a + 1) (x - i))) → J (nI (a + 1)) Yscr Yinp YcmdPos Yout Ypat Yhold Yactive Yact Yic Yie YaC YaAny YaSt rch nx Yrb) :
    ∀ f x c nx, n + 1 - x < f → i ≤ x → x ≤ n + 1 → (∀ y, i ≤ y → y < x → nx y = b2_i (mt_R Ypat ch st i (a + 1) (y - i))) → (x = i → c = false) → (∀ y, x = i + (y + 1) → c = mt_R Ypat ch st i (a + 1) y) → wY_matchAt_81 post J (nI i) (nI n) (nI a) Yquiet Yfuel YscrLen YinpLen YhasTab YnCmd YoutLen YpatLen YholdLen YlinesRead YstepsUsed Ytflag YnAddr Ya1K Ya1V Ya2K Ya2V Ycc YlabS YlabL YsRe YsRep YadK YadV Yneg YsG YicN Yna YanS YanE YmJ YrLen f (b2_i c) (nI x) Yscr Yinp YcmdPos Yout Ypat Yhold Yactive Yact Yic Yie YaC YaAny YaSt Yrch nx Yrb := by
  intro f
  induction f with
  | zero => intro x c nx h; exact absurd h (Nat.not_lt_zero _)
  | succ f ih =>
  intro x c nx hf hix hx hr hc0 hc1
  refine pk_lt n x (fun w => ⟨n + 2, ?_⟩) (fun w => ?_)
  · exact ym_214 (R := mt_R Ypat ch st i (a + 1)) hn (by omega) (fun y h1 h2 => hr y h1 (by omega)) (fun rch h => hJ rch nx h) (n + 2) i Yrch (by omega) (Nat.le_refl _) (by omega) (fun y h1 h2 => absurd h2 (by omega))
  · have vi : vp_in (nI x) 65 := vp_in_nI (by omega) (by omega)
    have nxt : ∀ v : Bool, v = mt_R Ypat ch st i (a + 1) (x - i) → wY_matchAt_81 post J (nI i) (nI n) (nI a) Yquiet Yfuel YscrLen YinpLen YhasTab YnCmd YoutLen YpatLen YholdLen YlinesRead YstepsUsed Ytflag YnAddr Ya1K Ya1V Ya2K Ya2V Ycc YlabS YlabL YsRe YsRep YadK YadV Yneg YsG YicN Yna YanS YanE YmJ YrLen f (b2_i v) (nI (x + 1)) Yscr Yinp YcmdPos Yout Ypat Yhold Yactive Yact Yic Yie YaC YaAny YaSt Yrch (upd nx x (b2_i v)) Yrb := by
      intro v hv
      refine ih (x + 1) v _ (by omega) (by omega) (by omega) (fun y h1 h2 => ?_) (fun z => by omega) (fun y hy => by rw [hv, show x - i = y by omega])
      by_cases z : y = x
      · rw [z, pk_us, hv]
      · rw [pk_un z]; exact hr y h1 (by omega)
    have h118 : ∀ c' : Bool, (mt_R Ypat ch st i a (x - i) || c') = mt_R Ypat ch st i (a + 1) (x - i) → wY_matchAt_118 post J (wY_matchAt_81 post J (nI i) (nI n) (nI a) Yquiet Yfuel YscrLen YinpLen YhasTab YnCmd YoutLen YpatLen YholdLen YlinesRead YstepsUsed Ytflag YnAddr Ya1K Ya1V Ya2K Ya2V Ycc YlabS YlabL YsRe YsRep YadK YadV Yneg YsG YicN Yna YanS YanE YmJ YrLen f) (nI i) (nI n) (nI a) (b2_i c') (nI x) Yquiet Yfuel YscrLen YinpLen YhasTab YnCmd YoutLen YpatLen YholdLen YlinesRead YstepsUsed Ytflag YnAddr Ya1K Ya1V Ya2K Ya2V Ycc YlabS YlabL YsRe YsRep YadK YadV Yneg YsG YicN Yna YanS YanE YmJ YrLen Yscr Yinp YcmdPos Yout Ypat Yhold Yactive Yact Yic Yie YaC YaAny YaSt Yrch nx Yrb := by
      intro c' hc'
      refine ⟨vi, ?_⟩
      rw [nI_clamp (by omega), hrow x hix w]
      refine br_c (fun y => ⟨vi, nm_e (nm_r (nI_1 x) ?_)⟩) (fun y => ⟨vi, nm_e (nm_r (nI_1 x) ?_)⟩)
      · rw [ba_vb (b2_01 _)]
        exact nxt c' (by rw [← hc', b2_0.mp y]; rfl)
      · exact nxt true (by
          rw [← hc']
          cases e : mt_R Ypat ch st i a (x - i)
          · exact absurd (b2_0.mpr e) y
          · rfl)
    refine pk_le x i (fun wi => ?_) (fun wi => ?_)
    · have e := hc0 (by omega)
      subst e
      exact h118 false (by rw [show x - i = 0 by omega, mt_R, mt_row, hs]; simp)
    · obtain ⟨y, hy⟩ : ∃ y, x - i = y + 1 := ⟨x - i - 1, by omega⟩
      have hrec : mt_R Ypat ch st i (a + 1) (x - i) = (mt_R Ypat ch st i a (x - i) || (mt_R Ypat ch st i (a + 1) y && mt_f Ypat ch a (x - 1))) := by
        rw [hy]
        show mt_row (mt_b st a) _ _ (y + 1) = _
        rw [mt_row, hs, if_pos rfl, show x - 1 = i + y by omega, ← hs]
        rfl
      have hc := hc1 y (by omega)
      refine br_c (fun z => ?_) (fun z => ?_)
      · have hcf := b2_0.mp z
        exact h118 c (by rw [hrec, ← hc, hcf]; simp)
      · have hct : c = true := by
          cases e : c
          · exact absurd (b2_0.mpr e) z
          · rfl
        have e1 : nI x - 1 = nI (x - 1) := by
          obtain ⟨y, rfl⟩ : ∃ y, x = y + 1 := ⟨x - 1, by omega⟩
          exact nI_pred y
        rw [e1]
        refine ⟨vp_in_nI (by omega) (by omega), ?_⟩
        rw [nI_clamp (show x - 1 < 2 ^ 31 by omega)]
        refine ym_fits h12 ha hH (fun hf' => br_f (by decide) (h118 c ?_)) (fun hf' => br_t rfl (h118 false ?_))
        · rw [hrec, ← hc, hct, show mt_f Ypat ch a (x - 1) = true from hf']; rfl
        · rw [hrec, ← hc, hct, show mt_f Ypat ch a (x - 1) = false from hf']; simp
end YM_1
