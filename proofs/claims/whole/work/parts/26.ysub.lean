/-! Y: printing, substitution -/
section YS_1
variable {Yquiet Yfuel YscrLen YinpLen YhasTab YnCmd YoutLen YpatLen YholdLen YlinesRead YstepsUsed Ytflag YnAddr Ya1K Ya1V Ya2K Ya2V Ycc YlabS YlabL YsRe YsRep YadK YadV Yneg YsG YicN Yna YanS YanE YmJ YrLen : Int32} {Yscr Yinp YcmdPos Yout Ypat Yhold Yactive Yact Yic Yie YaC YaAny YaSt Yrch Ynx Yrb : Nat → Int32}
theorem ym_print {o n : Nat} {post : Int32 → SY → Prop} (ho : o ≤ 256) (hn : n ≤ 64)
    (hg : ¬ 256 < o + n + 1 → post 1 (Yquiet, Yfuel, YscrLen, YinpLen, YhasTab, YnCmd, nI (o + n + 1), nI n, YholdLen, YlinesRead, YstepsUsed, Ytflag, YnAddr, Ya1K, Ya1V, Ya2K, Ya2V, Ycc, YlabS, YlabL, YsRe, YsRep, YadK, YadV, Yneg, YsG, YicN, Yna, YanS, YanE, YmJ, YrLen, Yscr, Yinp, YcmdPos, upd (cp_y Ypat 0 Yout o n) (o + n) 10, Ypat, Yhold, Yactive, Yact, Yic, Yie, YaC, YaAny, YaSt, Yrch, Ynx, Yrb)) (hb : 256 < o + n + 1 → post 0 (Yquiet, Yfuel, YscrLen, YinpLen, YhasTab, YnCmd, nI o, nI n, YholdLen, YlinesRead, YstepsUsed, Ytflag, YnAddr, Ya1K, Ya1V, Ya2K, Ya2V, Ycc, YlabS, YlabL, YsRe, YsRep, YadK, YadV, Yneg, YsG, YicN, Yna, YanS, YanE, YmJ, YrLen, Yscr, Yinp, YcmdPos, Yout, Ypat, Yhold, Yactive, Yact, Yic, Yie, YaC, YaAny, YaSt, Yrch, Ynx, Yrb)) : wpY_print post (Yquiet, Yfuel, YscrLen, YinpLen, YhasTab, YnCmd, nI o, nI n, YholdLen, YlinesRead, YstepsUsed, Ytflag, YnAddr, Ya1K, Ya1V, Ya2K, Ya2V, Ycc, YlabS, YlabL, YsRe, YsRep, YadK, YadV, Yneg, YsG, YicN, Yna, YanS, YanE, YmJ, YrLen, Yscr, Yinp, YcmdPos, Yout, Ypat, Yhold, Yactive, Yact, Yic, Yie, YaC, YaAny, YaSt, Yrch, Ynx, Yrb) := by
  unfold wpY_print
  refine pk_le (o + n + 1) 256 (fun w => ⟨n + 1, ?_⟩) (fun w => hb w) (hx := by rw [nI_add, nI_1])
  have loop : ∀ f x, n - x < f → x ≤ n → wY_print_21 post Yquiet Yfuel YscrLen YinpLen YhasTab YnCmd (nI o) (nI n) YholdLen YlinesRead YstepsUsed Ytflag YnAddr Ya1K Ya1V Ya2K Ya2V Ycc YlabS YlabL YsRe YsRep YadK YadV Yneg YsG YicN Yna YanS YanE YmJ YrLen f (nI x) Yscr Yinp YcmdPos (cp_y Ypat 0 Yout o x) Ypat Yhold Yactive Yact Yic Yie YaC YaAny YaSt Yrch Ynx Yrb := by
    intro f
    induction f with
    | zero => intro x h; exact absurd h (Nat.not_lt_zero _)
    | succ f ih =>
    intro x hf hx
    refine pk_le n x (fun y => ?_) (fun y => ⟨vp_in_nI (by omega) (by omega), ?_⟩)
    · have e : x = n := by omega
      subst e
      rw [nI_add]
      refine ⟨vp_in_nI (by omega) (by omega), nm_e (nm_r (nI_1 (o + x)) ?_)⟩
      rw [nI_clamp (by omega)]
      exact hg (by omega)
    · rw [nI_add]
      refine ⟨vp_in_nI (by omega) (by omega), nm_e (nm_r (nI_1 x) ?_)⟩
      rw [nI_clamp (show o + x < 2 ^ 31 by omega), nI_clamp (show x < 2 ^ 31 by omega)]
      have e := cp_s Ypat 0 Yout o x
      rw [Nat.zero_add] at e
      rw [e]
      exact ih (x + 1) (by omega) (by omega)
  have := loop (n + 1) 0 (by omega) (by omega)
  rw [cp_0] at this
  exact this
theorem ym_put {R : List Int32} {c : Int32} {post : SY → Prop} (hR : R.length < 2 ^ 30) (hr : rl_h Yrb R) (h : ∀ rb, rl_h rb (R ++ [c]) → post (Yquiet, Yfuel, YscrLen, YinpLen, YhasTab, YnCmd, YoutLen, YpatLen, YholdLen, YlinesRead, YstepsUsed, Ytflag, YnAddr, Ya1K, Ya1V, Ya2K, Ya2V, Ycc, YlabS, YlabL, YsRe, YsRep, YadK, YadV, Yneg, YsG, YicN, Yna, YanS, YanE, YmJ, nI (R ++ [c]).length, Yscr, Yinp, YcmdPos, Yout, Ypat, Yhold, Yactive, Yact, Yic, Yie, YaC, YaAny, YaSt, Yrch, Ynx, rb)) : wpY_put post (Yquiet, Yfuel, YscrLen, YinpLen, YhasTab, YnCmd, YoutLen, YpatLen, YholdLen, YlinesRead, YstepsUsed, Ytflag, YnAddr, Ya1K, Ya1V, Ya2K, Ya2V, Ycc, YlabS, YlabL, YsRe, YsRep, YadK, YadV, Yneg, YsG, YicN, Yna, YanS, YanE, YmJ, nI R.length, Yscr, Yinp, YcmdPos, Yout, Ypat, Yhold, Yactive, Yact, Yic, Yie, YaC, YaAny, YaSt, Yrch, Ynx, Yrb) c := by
  have e : (R ++ [c]).length = R.length + 1 := by simp
  rw [e] at h
  unfold wpY_put
  refine br_f (nI_pos (by omega)) (pk_le 64 R.length (fun w => nm_r (nI_1 _) (h _ (rl_full hr (by omega)))) (fun w => ⟨pk_in R.length 64 w, nm_e (nm_r (nI_1 _) ?_)⟩))
  rw [nI_clamp (by omega)]
  exact h _ (rl_put hr w)
theorem ym_putRange {R : List Int32} {a b : Nat} {post : SY → Prop} (hb : b ≤ 64) (hR : R.length < 2 ^ 29) (hr : rl_h Yrb R) (ha : a ≤ 65) (h : ∀ rb, rl_h rb (R ++ sl_x Ypat a (b - a)) → post (Yquiet, Yfuel, YscrLen, YinpLen, YhasTab, YnCmd, YoutLen, YpatLen, YholdLen, YlinesRead, YstepsUsed, Ytflag, YnAddr, Ya1K, Ya1V, Ya2K, Ya2V, Ycc, YlabS, YlabL, YsRe, YsRep, YadK, YadV, Yneg, YsG, YicN, Yna, YanS, YanE, YmJ, nI (R ++ sl_x Ypat a (b - a)).length, Yscr, Yinp, YcmdPos, Yout, Ypat, Yhold, Yactive, Yact, Yic, Yie, YaC, YaAny, YaSt, Yrch, Ynx, rb)) : wpY_putRange post (Yquiet, Yfuel, YscrLen, YinpLen, YhasTab, YnCmd, YoutLen, YpatLen, YholdLen, YlinesRead, YstepsUsed, Ytflag, YnAddr, Ya1K, Ya1V, Ya2K, Ya2V, Ycc, YlabS, YlabL, YsRe, YsRep, YadK, YadV, Yneg, YsG, YicN, Yna, YanS, YanE, YmJ, nI R.length, Yscr, Yinp, YcmdPos, Yout, Ypat, Yhold, Yactive, Yact, Yic, Yie, YaC, YaAny, YaSt, Yrch, Ynx, Yrb) (nI a) (nI b) := by
  unfold wpY_putRange
  have loop : ∀ f t rb, b - a - t < f → t ≤ b - a → rl_h rb (R ++ sl_x Ypat a t) → wY_putRange_2 post (nI b) f (nI (a + t)) Yquiet Yfuel YscrLen YinpLen YhasTab YnCmd YoutLen YpatLen YholdLen YlinesRead YstepsUsed Ytflag YnAddr Ya1K Ya1V Ya2K Ya2V Ycc YlabS YlabL YsRe YsRep YadK YadV Yneg YsG YicN Yna YanS YanE YmJ (nI (R ++ sl_x Ypat a t).length) Yscr Yinp YcmdPos Yout Ypat Yhold Yactive Yact Yic Yie YaC YaAny YaSt Yrch Ynx rb := by
    intro f
    induction f with
    | zero => intro t rb h; exact absurd h (Nat.not_lt_zero _)
    | succ f ih =>
    intro t rb hf ht hh
    refine pk_le b (a + t) (fun w => ?_) (fun w => ?_)
    · have e : t = b - a := by omega
      rw [e] at hh ⊢
      exact h rb hh
    · refine br_f (nI_ge (b := 64) (by omega) (by decide)) (br_f (nI_pos (by omega)) ⟨vp_in_nI (by omega) (by omega), ?_⟩)
      rw [nI_clamp (by omega)]
      refine ym_put (by rw [List.length_append, sl_len]; omega) hh (fun rb' hh' => nm_r (nI_1 _) ?_)
      have e : R ++ sl_x Ypat a t ++ [Ypat (a + t)] = R ++ sl_x Ypat a (t + 1) := by rw [List.append_assoc]; rfl
      rw [e] at hh' ⊢
      exact ih (t + 1) rb' (by omega) (by omega) hh'
  have e : R ++ sl_x Ypat a 0 = R := List.append_nil R
  have := loop (b - a + 1) 0 Yrb (by omega) (by omega) (by rw [e]; exact hr)
  rw [e] at this
  exact ⟨_, this⟩
/-- the replacement -/
theorem ym_101 {L n rp rn i j k : Nat} {R : List Int32} {x5 x6 : Int32} {post : Int32 → SY → Prop} {J : Nat} (hL : L ≤ 128) (hc : ch_ok Yscr L) (hn : n ≤ 64) (hij : i ≤ j) (hj : j ≤ n) (hR : R.length < 2 ^ 28) (htx : tx_n Yscr L rp = some rn) (hrn : rn ≤ 128) (hic : ∀ t, t < rn → Yic t = tx_c Yscr (tx_p Yscr rp t) ∧ Yie t = tx_e Yscr (tx_p Yscr rp t))
    (h : ∀ rb, rl_h rb (R ++ sl_r Yscr Ypat rp i j rn) → wY_subst_168 post (wY_subst_58 post (nI k) (nI n) J) (nI k) (nI n) x5 x6 (nI i) (nI j) Yquiet Yfuel YscrLen YinpLen YhasTab YnCmd YoutLen YpatLen YholdLen YlinesRead YstepsUsed Ytflag YnAddr Ya1K Ya1V Ya2K Ya2V Ycc YlabS YlabL YsRe YsRep YadK YadV Yneg YsG (nI rn) Yna YanS YanE YmJ (nI (R ++ sl_r Yscr Ypat rp i j rn).length) Yscr Yinp YcmdPos Yout Ypat Yhold Yactive Yact Yic Yie YaC YaAny YaSt Yrch Ynx rb) :
    ∀ f t rb, rn - t < f → t ≤ rn → rl_h rb (R ++ sl_r Yscr Ypat rp i j t) → wY_subst_101 post (wY_subst_58 post (nI k) (nI n) J) (nI k) (nI n) x5 x6 (nI i) (nI j) f (nI t) Yquiet Yfuel YscrLen YinpLen YhasTab YnCmd YoutLen YpatLen YholdLen YlinesRead YstepsUsed Ytflag YnAddr Ya1K Ya1V Ya2K Ya2V Ycc YlabS YlabL YsRe YsRep YadK YadV Yneg YsG (nI rn) Yna YanS YanE YmJ (nI (R ++ sl_r Yscr Ypat rp i j t).length) Yscr Yinp YcmdPos Yout Ypat Yhold Yactive Yact Yic Yie YaC YaAny YaSt Yrch Ynx rb := by
  have ft := tx_facts rn rp htx
  intro f
  induction f with
  | zero => intro t rb h; exact absurd h (Nat.not_lt_zero _)
  | succ f ih =>
  intro t rb hf ht hh
  refine pk_le rn t (fun w => ?_) (fun w => ?_)
  · have e : t = rn := by omega
    rw [e] at hh ⊢
    exact h rb hh
  · obtain ⟨f1, f2, f3, f4⟩ := ft.1 t w
    obtain ⟨c1, c2⟩ := hic t w
    have amp := tb_c_amp hc f1 (fun y => (f4 y).1)
    have len : (R ++ sl_r Yscr Ypat rp i j t).length < 2 ^ 29 := by
      have a := sl_rlen Yscr Ypat rp i j t
      have b : t * (j - i + 1) ≤ 128 * 65 := Nat.mul_le_mul (by omega) (by omega)
      rw [List.length_append]
      omega
    have vi : vp_in (nI t) 128 := vp_in_nI (by omega) (by omega)
    have h151 : ¬ (tx_e Yscr (tx_p Yscr rp t) = 0 ∧ tx_c Yscr (tx_p Yscr rp t) = 38) → wY_subst_151 post (wY_subst_58 post (nI k) (nI n) J) (wY_subst_101 post (wY_subst_58 post (nI k) (nI n) J) (nI k) (nI n) x5 x6 (nI i) (nI j) f) (nI k) (nI n) x5 x6 (nI i) (nI j) (nI t) Yquiet Yfuel YscrLen YinpLen YhasTab YnCmd YoutLen YpatLen YholdLen YlinesRead YstepsUsed Ytflag YnAddr Ya1K Ya1V Ya2K Ya2V Ycc YlabS YlabL YsRe YsRep YadK YadV Yneg YsG (nI rn) Yna YanS YanE YmJ (nI (R ++ sl_r Yscr Ypat rp i j t).length) Yscr Yinp YcmdPos Yout Ypat Yhold Yactive Yact Yic Yie YaC YaAny YaSt Yrch Ynx rb := by
      intro hna
      refine ⟨vi, ?_⟩
      rw [nI_clamp (by omega), c1]
      refine ym_put (by omega) hh (fun rb' hh' => nm_r (nI_1 t) ?_)
      have e : R ++ sl_r Yscr Ypat rp i j t ++ [tx_c Yscr (tx_p Yscr rp t)] = R ++ sl_r Yscr Ypat rp i j (t + 1) := by
        rw [sl_r, if_neg (fun y => hna (amp.mp y)), List.append_assoc, show tb_c Yscr (tx_p Yscr rp t) = tx_c Yscr (tx_p Yscr rp t) by unfold tb_c; rw [if_neg hna]]
      rw [e] at hh' ⊢
      exact ih (t + 1) rb' (by omega) (by omega) hh'
    refine br_f (nI_ge (b := 128) (by omega) (by decide)) ⟨vi, ?_⟩
    rw [nI_clamp (by omega), c1, c2]
    refine br_c (fun e0 => ⟨vi, br_c (fun e38 => ?_) (fun e38 => h151 (fun y => e38 y.2))⟩) (fun e0 => h151 (fun y => e0 y.1))
    refine ym_putRange (by omega) len hh (by omega) (fun rb' hh' => nm_r (nI_1 t) ?_)
    have e : R ++ sl_r Yscr Ypat rp i j t ++ sl_x Ypat i (j - i) = R ++ sl_r Yscr Ypat rp i j (t + 1) := by
      rw [sl_r, if_pos (amp.mpr ⟨e0, e38⟩), List.append_assoc]
    rw [e] at hh' ⊢
    exact ih (t + 1) rb' (by omega) (by omega) hh'
/-- the end of a substitution -/
theorem ym_237 {n p k : Nat} {R : List Int32} {tk : Int32} {post : Int32 → SY → Prop} (hn : n ≤ 64) (hp : p ≤ n + 1) (hR : R.length < 2 ^ 28) (hr : rl_h Yrb R)
    (h0 : tk = 0 → ∀ rl rb, post (nI (k + 1)) (Yquiet, Yfuel, YscrLen, YinpLen, YhasTab, YnCmd, YoutLen, nI n, YholdLen, YlinesRead, YstepsUsed, Ytflag, YnAddr, Ya1K, Ya1V, Ya2K, Ya2V, Ycc, YlabS, YlabL, YsRe, YsRep, YadK, YadV, Yneg, YsG, YicN, Yna, YanS, YanE, YmJ, rl, Yscr, Yinp, YcmdPos, Yout, Ypat, Yhold, Yactive, Yact, Yic, Yie, YaC, YaAny, YaSt, Yrch, Ynx, rb))
    (h1 : ¬ tk = 0 → 64 < (R ++ sl_x Ypat p (n - p)).length → ∀ rl rb, post (-13) (Yquiet, Yfuel, YscrLen, YinpLen, YhasTab, YnCmd, YoutLen, nI n, YholdLen, YlinesRead, YstepsUsed, Ytflag, YnAddr, Ya1K, Ya1V, Ya2K, Ya2V, Ycc, YlabS, YlabL, YsRe, YsRep, YadK, YadV, Yneg, YsG, YicN, Yna, YanS, YanE, YmJ, rl, Yscr, Yinp, YcmdPos, Yout, Ypat, Yhold, Yactive, Yact, Yic, Yie, YaC, YaAny, YaSt, Yrch, Ynx, rb))
    (h2 : ¬ tk = 0 → ¬ 64 < (R ++ sl_x Ypat p (n - p)).length → ∀ rl rb, post (nI (k + 1)) (Yquiet, Yfuel, YscrLen, YinpLen, YhasTab, YnCmd, YoutLen, nI (R ++ sl_x Ypat p (n - p)).length, YholdLen, YlinesRead, YstepsUsed, 1, YnAddr, Ya1K, Ya1V, Ya2K, Ya2V, Ycc, YlabS, YlabL, YsRe, YsRep, YadK, YadV, Yneg, YsG, YicN, Yna, YanS, YanE, YmJ, rl, Yscr, Yinp, YcmdPos, Yout, cp_y (sb_f (R ++ sl_x Ypat p (n - p))) 0 Ypat 0 (R ++ sl_x Ypat p (n - p)).length, Yhold, Yactive, Yact, Yic, Yie, YaC, YaAny, YaSt, Yrch, Ynx, rb)) :
    wY_subst_237 post (nI k) (nI n) (nI p) tk Yquiet Yfuel YscrLen YinpLen YhasTab YnCmd YoutLen (nI n) YholdLen YlinesRead YstepsUsed Ytflag YnAddr Ya1K Ya1V Ya2K Ya2V Ycc YlabS YlabL YsRe YsRep YadK YadV Yneg YsG YicN Yna YanS YanE YmJ (nI R.length) Yscr Yinp YcmdPos Yout Ypat Yhold Yactive Yact Yic Yie YaC YaAny YaSt Yrch Ynx Yrb := by
  have h250 : ∀ R' rb, R' = R ++ sl_x Ypat p (n - p) → rl_h rb R' → wY_subst_250 post (nI k) tk Yquiet Yfuel YscrLen YinpLen YhasTab YnCmd YoutLen (nI n) YholdLen YlinesRead YstepsUsed Ytflag YnAddr Ya1K Ya1V Ya2K Ya2V Ycc YlabS YlabL YsRe YsRep YadK YadV Yneg YsG YicN Yna YanS YanE YmJ (nI R'.length) Yscr Yinp YcmdPos Yout Ypat Yhold Yactive Yact Yic Yie YaC YaAny YaSt Yrch Ynx rb := by
    intro R' rb e hh
    subst e
    have len : (R ++ sl_x Ypat p (n - p)).length < 2 ^ 30 := by rw [List.length_append, sl_len]; omega
    refine br_c (fun z => ?_) (fun z => pk_le (R ++ sl_x Ypat p (n - p)).length 64 (fun w => ⟨(R ++ sl_x Ypat p (n - p)).length + 1, ?_⟩) (fun w => h1 z w _ _))
    · rw [nI_1]; exact h0 z _ _
    · have loop : ∀ f x, (R ++ sl_x Ypat p (n - p)).length - x < f → x ≤ (R ++ sl_x Ypat p (n - p)).length → wY_subst_274 post (nI k) Yquiet Yfuel YscrLen YinpLen YhasTab YnCmd YoutLen (nI n) YholdLen YlinesRead YstepsUsed Ytflag YnAddr Ya1K Ya1V Ya2K Ya2V Ycc YlabS YlabL YsRe YsRep YadK YadV Yneg YsG YicN Yna YanS YanE YmJ (nI (R ++ sl_x Ypat p (n - p)).length) f (nI x) Yscr Yinp YcmdPos Yout (cp_y rb 0 Ypat 0 x) Yhold Yactive Yact Yic Yie YaC YaAny YaSt Yrch Ynx rb := by
        intro f
        induction f with
        | zero => intro x h; exact absurd h (Nat.not_lt_zero _)
        | succ f ih =>
        intro x hf hx
        refine pk_le (R ++ sl_x Ypat p (n - p)).length x (fun y => ?_) (fun y => ?_)
        · have e : x = (R ++ sl_x Ypat p (n - p)).length := by omega
          rw [e, rl_cp hh w, nI_1]
          exact h2 z (by omega) _ _
        · refine ⟨vp_in_nI (by omega) (by omega), vp_in_nI (by omega) (by omega), nm_e (nm_r (nI_1 x) ?_)⟩
          rw [nI_clamp (by omega)]
          have e := cp_s rb 0 Ypat 0 x
          rw [Nat.zero_add] at e
          rw [e]
          exact ih (x + 1) (by omega) (by omega)
      have := loop ((R ++ sl_x Ypat p (n - p)).length + 1) 0 (by omega) (by omega)
      rw [cp_0] at this
      exact this
  refine pk_lt n p (fun w => ?_) (fun w => ?_)
  · refine h250 R Yrb ?_ hr
    rw [show n - p = 0 by omega]
    exact (List.append_nil R).symm
  · exact ym_putRange (by omega) (by omega) hr (by omega) (fun rb hh => h250 _ rb rfl hh)
end YS_1
